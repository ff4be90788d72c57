/-! the ring of what is left by P, and bounds -/
def em (P : Nat) [NeZero P] (z : Int) : Fin P := @Int.cast (Fin P) Lean.Grind.Ring.intCast z
theorem em_add (P : Nat) [NeZero P] (a b : Int) : em P (a + b) = em P a + em P b := Lean.Grind.Ring.intCast_add a b
theorem em_mul (P : Nat) [NeZero P] (a b : Int) : em P (a * b) = em P a * em P b := Lean.Grind.Ring.intCast_mul a b
theorem em_sub (P : Nat) [NeZero P] (a b : Int) : em P (a - b) = em P a - em P b := Lean.Grind.Ring.intCast_sub a b
theorem em_neg (P : Nat) [NeZero P] (a : Int) : em P (-a) = -em P a := Lean.Grind.Ring.intCast_neg a
theorem em_lit (P : Nat) [NeZero P] (n : Nat) : em P (OfNat.ofNat n) = OfNat.ofNat n := Lean.Grind.Ring.intCast_ofNat n
theorem em_eq (P : Nat) [NeZero P] (a b : Int) : em P a = em P b ↔ a % P = b % P := Lean.Grind.IsCharP.intCast_ext_iff P
theorem em_mod (P : Nat) [NeZero P] (a : Int) : em P (a % P) = em P a := (em_eq P _ _).mpr (Int.emod_emod_of_dvd a (Int.dvd_refl _))
theorem em_0 (P : Nat) [NeZero P] : em P 0 = 0 := em_lit P 0
theorem em_1 (P : Nat) [NeZero P] : em P 1 = 1 := em_lit P 1
theorem em_2 (P : Nat) [NeZero P] : em P 2 = 2 := em_lit P 2
theorem em_3 (P : Nat) [NeZero P] : em P 3 = 3 := em_lit P 3
theorem em_4 (P : Nat) [NeZero P] : em P 4 = 4 := em_lit P 4
theorem em_18 (P : Nat) [NeZero P] : em P 18 = 18 := em_lit P 18
theorem em_27 (P : Nat) [NeZero P] : em P 27 = 27 := em_lit P 27
theorem em_z (P : Nat) [NeZero P] (a : Int) : em P a = 0 ↔ a % P = 0 := by
  rw [← em_0 P, em_eq]; simp
theorem nz_of {P : Nat} (hp : z_pr P = true) : NeZero P := ⟨by have := pr_rng hp; omega⟩
def el (P : Nat) (z : Int) : Prop := 0 ≤ z ∧ z < P
theorem el_mod {P : Nat} (hp : z_pr P = true) (z : Int) : el P (z % P) := by
  have := pr_rng hp
  exact ⟨Int.emod_nonneg z (by omega), Int.emod_lt_of_pos z (by omega)⟩
theorem el_eq {P : Nat} {a : Int} (h : el P a) : a % P = a := Int.emod_eq_of_lt h.1 h.2
theorem el_nat {P : Nat} {a : Int} (h : el P a) : ∃ n : Nat, n < P ∧ a = (n : Int) := ⟨a.toNat, by have := h.1; have := h.2; omega, by have := h.1; omega⟩
theorem el_of {P n : Nat} (h : n < P) : el P (n : Int) := ⟨by omega, by omega⟩
/-- two numbers of the field that are alike are one -/
theorem el_inj {P : Nat} [NeZero P] {a b : Int} (ha : el P a) (hb : el P b) (h : em P a = em P b) : a = b := by
  rw [em_eq, el_eq ha, el_eq hb] at h; exact h
def bd (z : Int) (B : Nat) : Prop := z.natAbs ≤ B
theorem bd_add {a b : Int} {A B : Nat} (ha : bd a A) (hb : bd b B) : bd (a + b) (A + B) := Nat.le_trans (Int.natAbs_add_le a b) (Nat.add_le_add ha hb)
theorem bd_sub {a b : Int} {A B : Nat} (ha : bd a A) (hb : bd b B) : bd (a - b) (A + B) := Nat.le_trans (Int.natAbs_sub_le a b) (Nat.add_le_add ha hb)
theorem bd_mul {a b : Int} {A B : Nat} (ha : bd a A) (hb : bd b B) : bd (a * b) (A * B) := by
  unfold bd; rw [Int.natAbs_mul]; exact Nat.mul_le_mul ha hb
theorem bd_neg {a : Int} {A : Nat} (ha : bd a A) : bd (-a) A := by unfold bd; rw [Int.natAbs_neg]; exact ha
theorem bd_lit (n : Nat) : bd (OfNat.ofNat n) n := by show (n : Int).natAbs ≤ n; simp
theorem bd_el {P : Nat} (hp : z_pr P = true) {z : Int} (h : el P z) : bd z 198 := by
  have := pr_rng hp; have := h.1; have := h.2; unfold bd; omega
theorem e_rb {P : Nat} (hp : z_pr P = true) {z : Int} {B : Nat} (h : bd z B) (hB : B < 2147483648) : fX4_rest (iI P) (iI z) = some (iI (z % P)) := by
  have := pr_rng hp; unfold bd at h
  exact e_rest (by omega) (by omega) (by omega) (by omega)
theorem e_ob {P : Nat} (hp : z_pr P = true) {z : Int} {B : Nat} (h : bd z B) (hB : B < 2147483648) : fX9_of (iI P) (iI z) = some (iI (z % P)) := by
  have := pr_rng hp; unfold bd at h
  exact e_of (by omega) (by omega) (by omega) (by omega)
/-- what is left of a number that isn't negative -/
theorem e_mb {P : Nat} (hp : z_pr P = true) {z : Int} {B : Nat} (h0 : 0 ≤ z) (h : bd z B) (hB : B < 2147483648) : p_rm (iI z) (iI P) = some (iI (z % P)) := by
  have := pr_rng hp; unfold bd at h
  exact rm_p h0 (by omega) (by omega) (by omega)
theorem e_bz {P : Nat} (hp : z_pr P = true) {x y : Int} (hx : el P x) (hy : el P y) : fX9_by (iI P) (iI x) (iI y) = some (iI (x * (iv P y.toNat : Nat) % P)) := by
  obtain ⟨n, h1, rfl⟩ := el_nat hx
  obtain ⟨k, h2, rfl⟩ := el_nat hy
  have := pr_rng hp
  rw [e_by hp (by omega) h2, Int.toNat_natCast]; rfl
theorem e_iz {P : Nat} (hp : z_pr P = true) {inv roots : Nat → Int32} (h : NumOK P inv roots) {x : Int} (hx : el P x) : fX4_inverseOf (iI P) inv (iI x) = some (iI (iv P x.toNat : Nat)) := by
  obtain ⟨n, h1, rfl⟩ := el_nat hx
  rw [e_inv hp h h1, Int.toNat_natCast]
theorem el_iv {P : Nat} (hp : z_pr P = true) (n : Nat) : el P (iv P n : Nat) := el_of (iv_lt (by have := pr_rng hp; omega))
/-- the inverse in the ring -/
theorem em_iv {P : Nat} (hp : z_pr P = true) [NeZero P] {x : Int} (hx : el P x) (h0 : x ≠ 0) : em P x * em P (iv P x.toNat : Nat) = 1 := by
  obtain ⟨n, h1, rfl⟩ := el_nat hx
  have hb := pr_rng hp
  have h := pr_inv P (by omega) hp n h1 (by omega)
  rw [← em_mul, ← em_1, em_eq, Int.toNat_natCast]
  have h2 : ((n * (n ^ (P - 2) % P) % P : Nat) : Int) = ((1 : Nat) : Int) := congrArg _ h
  rw [Int.natCast_emod, Int.natCast_mul] at h2
  unfold iv
  rw [h2]
  rw [Int.emod_eq_of_lt (by omega) (by omega)]; rfl
/-- a product is nought only if a part is -/
theorem em_dom {P : Nat} (hp : z_pr P = true) [NeZero P] {x y : Int} (hx : el P x) (h0 : x ≠ 0) (h : em P x * em P y = 0) : em P y = 0 := by
  have h1 := em_iv hp hx h0
  grind
