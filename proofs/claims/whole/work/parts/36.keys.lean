/-! points and lines by their keys -/
def tx (P k : Nat) : Int := if k < P * P then ((k % P : Nat) : Int) else if k < P * P + P then ((k - P * P : Nat) : Int) else 1
def ty (P k : Nat) : Int := if k < P * P then ((k / P : Nat) : Int) else if k < P * P + P then 1 else 0
def tz (P k : Nat) : Int := if k < P * P then 1 else 0
theorem key_cases {P k : Nat} (hp : z_pr P = true) (hk : k ≤ P * P + P) : (∃ a b : Nat, a < P ∧ b < P ∧ k = b * P + a ∧ k < P * P ∧ tx P k = a ∧ ty P k = b ∧ tz P k = 1) ∨ (∃ a : Nat, a < P ∧ k = P * P + a ∧ tx P k = a ∧ ty P k = 1 ∧ tz P k = 0) ∨ (k = P * P + P ∧ tx P k = 1 ∧ ty P k = 0 ∧ tz P k = 0) := by
  have hb := pr_rng hp
  by_cases h1 : k < P * P
  · refine Or.inl ⟨k % P, k / P, Nat.mod_lt _ (by omega), (Nat.div_lt_iff_lt_mul (by omega)).mpr h1, ?_, h1, ?_, ?_, ?_⟩
    · rw [Nat.mul_comm]; exact (Nat.div_add_mod k P).symm
    · unfold tx; rw [if_pos h1]
    · unfold ty; rw [if_pos h1]
    · unfold tz; rw [if_pos h1]
  · by_cases h2 : k < P * P + P
    · refine Or.inr (Or.inl ⟨k - P * P, by omega, by omega, ?_, ?_, ?_⟩)
      · unfold tx; rw [if_neg h1, if_pos h2]
      · unfold ty; rw [if_neg h1, if_pos h2]
      · unfold tz; rw [if_neg h1]
    · refine Or.inr (Or.inr ⟨by omega, ?_, ?_, ?_⟩)
      · unfold tx; rw [if_neg h1, if_neg h2]
      · unfold ty; rw [if_neg h1, if_neg h2]
      · unfold tz; rw [if_neg h1]
theorem t_el {P k : Nat} (hp : z_pr P = true) (hk : k ≤ P * P + P) : el P (tx P k) ∧ el P (ty P k) ∧ el P (tz P k) := by
  have hb := pr_rng hp
  rcases key_cases hp hk with ⟨a, b, ha, hb2, -, -, e1, e2, e3⟩ | ⟨a, ha, -, e1, e2, e3⟩ | ⟨-, e1, e2, e3⟩ <;> rw [e1, e2, e3]
  · exact ⟨el_of ha, el_of hb2, ⟨by omega, by omega⟩⟩
  · exact ⟨el_of ha, ⟨by omega, by omega⟩, ⟨by omega, by omega⟩⟩
  · exact ⟨⟨by omega, by omega⟩, ⟨by omega, by omega⟩, ⟨by omega, by omega⟩⟩
theorem pp_b {P : Nat} (hp : z_pr P = true) : P * P ≤ 199 * 199 := by
  have hb := pr_rng hp
  exact Nat.mul_le_mul hb.2 hb.2
theorem e_tkey {P k : Nat} (hp : z_pr P = true) (hk : k ≤ P * P + P) (t1 t2 t3 : Int32) : fX7_takeKey t1 t2 t3 (iI P) (iI (k : Nat)) = some (iI (tx P k), iI (ty P k), iI (tz P k)) := by
  have hb := pr_rng hp
  have hpp := pp_b hp
  unfold fX7_takeKey fX4_prime
  rw [b1_s, iI_mul, ← Int.natCast_mul]
  rcases key_cases hp hk with ⟨a, b, ha, hb2, ek, hl, e1, e2, e3⟩ | ⟨a, ha, ek, e1, e2, e3⟩ | ⟨ek, e1, e2, e3⟩ <;> rw [e1, e2, e3]
  · rw [if_neg (by rw [iI_le (by omega) (by omega) (by omega) (by omega)]; omega)]
    unfold jX7_takeKey_21
    rw [if_pos rfl, dv_p (by omega) (by omega) (by omega) (by omega), b1_s]
    unfold jX7_takeKey_53
    rw [if_pos rfl, rm_p (by omega) (by omega) (by omega) (by omega), b1_s, ← Int.natCast_emod, ← Int.natCast_ediv]
    have q1 : k % P = a := by rw [ek, Nat.mul_comm, Nat.mul_add_mod, Nat.mod_eq_of_lt ha]
    have q2 : k / P = b := by rw [ek, Nat.mul_comm, Nat.mul_add_div (by omega), Nat.div_eq_of_lt ha, Nat.add_zero]
    rw [q1, q2]; rfl
  · rw [if_pos (by rw [iI_le (by omega) (by omega) (by omega) (by omega)]; omega)]
    unfold jX7_takeKey_21
    rw [if_neg (by decide), iI_mul, iI_add, if_neg (by rw [← Int.natCast_mul, iI_le (by omega) (by omega) (by omega) (by omega)]; omega)]
    unfold jX7_takeKey_53
    rw [if_neg (by decide), if_pos rfl, nm_s, iI_mul, iI_sub, ← Int.natCast_mul, show (k : Int) - ((P * P : Nat) : Int) = (a : Int) by omega]; rfl
  · rw [if_pos (by rw [iI_le (by omega) (by omega) (by omega) (by omega)]; omega)]
    unfold jX7_takeKey_21
    rw [if_neg (by decide), iI_mul, iI_add, if_pos (by rw [← Int.natCast_mul, iI_le (by omega) (by omega) (by omega) (by omega)]; omega)]
    unfold jX7_takeKey_53
    rw [if_neg (by decide), if_neg (by decide)]; rfl
def ky (P : Nat) (x y z : Int) : Nat := if z = 0 then if y = 0 then P * P + P else P * P + (x * (iv P y.toNat : Nat) % P).toNat else (y * (iv P z.toNat : Nat) % P).toNat * P + (x * (iv P z.toNat : Nat) % P).toNat
theorem e_key {P : Nat} (hp : z_pr P = true) {inv roots : Nat → Int32} (hN : NumOK P inv roots) {x y z : Int} (hx : el P x) (hy : el P y) (hz : el P z) : fX7_key (iI x) (iI y) (iI z) (iI P) inv = some (iI (ky P x y z : Nat)) := by
  have hb := pr_rng hp
  have hpp := pp_b hp
  have bm : ∀ a b : Int, el P a → el P b → bd (a * b) (198 * 198) := fun a b h1 h2 => bd_mul (bd_el hp h1) (bd_el hp h2)
  unfold fX7_key fX4_prime ky
  rw [b1_s]
  by_cases h0 : z = 0
  · rw [if_pos ((el_0 hp hz).mpr h0), if_pos h0]
    by_cases h1 : y = 0
    · rw [if_pos ((el_0 hp hy).mpr h1), if_pos h1, iI_mul, iI_add]; rfl
    · rw [if_neg (fun q => h1 ((el_0 hp hy).mp q)), if_neg h1, e_iz hp hN hy, b1_s, iI_mul, e_rb hp (bm _ _ hx (el_iv hp _)) (by decide), b1_s, iI_mul, iI_add]
      have := (el_mod hp (x * (iv P y.toNat : Nat))).1
      congr 2
      rw [Int.natCast_add, Int.toNat_of_nonneg this]; rfl
  · rw [if_neg (fun q => h0 ((el_0 hp hz).mp q)), if_neg h0, e_iz hp hN hz, b1_s, iI_mul, e_rb hp (bm _ _ hy (el_iv hp _)) (by decide), b1_s, iI_mul, e_rb hp (bm _ _ hx (el_iv hp _)) (by decide), b1_s, iI_mul, iI_add]
    have a1 := (el_mod hp (x * (iv P z.toNat : Nat))).1
    have a2 := (el_mod hp (y * (iv P z.toNat : Nat))).1
    congr 2
    rw [Int.natCast_add, Int.natCast_mul, Int.toNat_of_nonneg a1, Int.toNat_of_nonneg a2]
theorem ky_le {P : Nat} (hp : z_pr P = true) (x y z : Int) : ky P x y z ≤ P * P + P := by
  have hb := pr_rng hp
  have e := fun w => el_mod hp w
  unfold ky
  split
  · split
    · omega
    · have := e (x * (iv P y.toNat : Nat)); have := this.1; have := (e (x * (iv P y.toNat : Nat))).2; omega
  · have h1 := (e (x * (iv P z.toNat : Nat))).2
    have h2 := (e (y * (iv P z.toNat : Nat))).2
    have h3 := (e (x * (iv P z.toNat : Nat))).1
    have h4 := (e (y * (iv P z.toNat : Nat))).1
    have ha : (x * (iv P z.toNat : Nat) % P).toNat < P := by omega
    have hb2 : (y * (iv P z.toNat : Nat) % P).toNat ≤ P - 1 := by omega
    have hm := Nat.mul_le_mul_right P hb2
    rw [Nat.sub_mul, Nat.one_mul] at hm
    have hq : P ≤ P * P := Nat.le_mul_self P
    omega
