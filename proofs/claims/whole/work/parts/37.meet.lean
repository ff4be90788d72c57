/-! where a line meets a form -/
theorem fin_em {P : Nat} [NeZero P] (u : Fin P) : ∃ z : Int, el P z ∧ em P z = u := by
  refine ⟨(u.val : Int), el_of u.isLt, ?_⟩
  show (@Int.cast (Fin P) Lean.Grind.Ring.intCast ((u.val : Nat) : Int)) = u
  rw [Lean.Grind.Ring.intCast_natCast]
  exact Fin.ext (Nat.mod_eq_of_lt u.isLt)
theorem fin_inv {P : Nat} (hp : z_pr P = true) [NeZero P] (u : Fin P) (h : u ≠ 0) : ∃ w : Fin P, u * w = 1 := by
  obtain ⟨z, hz, rfl⟩ := fin_em u
  have h0 : z ≠ 0 := fun e => h (by rw [e]; exact em_0 P)
  exact ⟨_, em_iv hp hz h0⟩
theorem fin_10 {P : Nat} (hp : z_pr P = true) [NeZero P] : (1 : Fin P) ≠ 0 := by
  have hb := pr_rng hp
  intro h
  rw [← em_1, ← em_0, em_eq, Int.emod_eq_of_lt (by omega) (by omega), Int.emod_eq_of_lt (by omega) (by omega)] at h
  omega
theorem fin_2 {P : Nat} (hp : z_pr P = true) [NeZero P] : (2 : Fin P) ≠ 0 := by
  have hb := pr_rng hp
  intro h
  rw [← em_2, ← em_0, em_eq, Int.emod_eq_of_lt (by omega) (by omega), Int.emod_eq_of_lt (by omega) (by omega)] at h
  omega
theorem el_em0 {P : Nat} [NeZero P] {z : Int} (h : el P z) : em P z = 0 ↔ z = 0 := by
  rw [em_z, el_eq h]
theorem t_1 {P a b : Nat} (hp : z_pr P = true) (ha : a < P) (hb : b < P) : b * P + a < P * P ∧ tx P (b * P + a) = a ∧ ty P (b * P + a) = b ∧ tz P (b * P + a) = 1 := by
  have h1 : b * P + a < P * P := by
    have : b + 1 ≤ P := hb
    have := Nat.mul_le_mul_right P this
    rw [Nat.add_mul, Nat.one_mul] at this; omega
  have q1 : (b * P + a) % P = a := by rw [Nat.mul_comm, Nat.mul_add_mod, Nat.mod_eq_of_lt ha]
  have q2 : (b * P + a) / P = b := by rw [Nat.mul_comm, Nat.mul_add_div (by omega), Nat.div_eq_of_lt ha, Nat.add_zero]
  refine ⟨h1, ?_, ?_, ?_⟩
  · unfold tx; rw [if_pos h1, q1]
  · unfold ty; rw [if_pos h1, q2]
  · unfold tz; rw [if_pos h1]
theorem t_2 {P a : Nat} (ha : a < P) : tx P (P * P + a) = a ∧ ty P (P * P + a) = 1 ∧ tz P (P * P + a) = 0 := by
  refine ⟨?_, ?_, ?_⟩
  · unfold tx; rw [if_neg (by omega), if_pos (by omega), show P * P + a - P * P = a by omega]
  · unfold ty; rw [if_neg (by omega), if_pos (by omega)]
  · unfold tz; rw [if_neg (by omega)]
theorem t_3 {P : Nat} : tx P (P * P + P) = 1 ∧ ty P (P * P + P) = 0 ∧ tz P (P * P + P) = 0 := by
  refine ⟨?_, ?_, ?_⟩
  · unfold tx; rw [if_neg (by omega), if_neg (by omega)]
  · unfold ty; rw [if_neg (by omega), if_neg (by omega)]
  · unfold tz; rw [if_neg (by omega)]
theorem ky_uniq {P k : Nat} (hp : z_pr P = true) [NeZero P] (hk : k ≤ P * P + P) {x y z : Int} (hx : el P x) (hy : el P y) (hz : el P z) (l : Fin P)
    (e1 : em P (tx P k) = l * em P x) (e2 : em P (ty P k) = l * em P y) (e3 : em P (tz P k) = l * em P z) : ky P x y z = k := by
  have h10 := fin_10 hp
  have key : ∀ {w v : Int} {a : Nat}, el P w → el P v → w ≠ 0 → a < P → em P (a : Nat) = l * em P v → l * em P w = 1 → (v * (iv P w.toNat : Nat) % P).toNat = a := by
    intro w v a hw hv h0 ha h1 h2
    have h3 := em_iv hp hw h0
    have h4 : em P (v * (iv P w.toNat : Nat) % P) = em P (a : Nat) := by
      rw [em_mod, em_mul, h1]
      grind
    rw [el_inj (el_mod hp _) (el_of ha) h4, Int.toNat_natCast]
  rcases key_cases hp hk with ⟨a, b, ha, hb, ek, hl, q1, q2, q3⟩ | ⟨a, ha, ek, q1, q2, q3⟩ | ⟨ek, q1, q2, q3⟩
  · rw [q1] at e1; rw [q2] at e2; rw [q3, em_1] at e3
    have h0 : z ≠ 0 := fun e => by rw [e, em_0] at e3; exact h10 (by grind)
    unfold ky
    rw [if_neg h0, key hz hx h0 ha e1 e3.symm, key hz hy h0 hb e2 e3.symm, ek]
  · rw [q1] at e1; rw [q2, em_1] at e2; rw [q3, em_0] at e3
    have hz0 : z = 0 := by
      rw [← el_em0 hz]
      grind
    have h0 : y ≠ 0 := fun e => by rw [e, em_0] at e2; exact h10 (by grind)
    unfold ky
    rw [if_pos hz0, if_neg h0, key hy hx h0 ha e1 e2.symm, ek]
  · rw [q1, em_1] at e1; rw [q2, em_0] at e2; rw [q3, em_0] at e3
    have hz0 : z = 0 := by
      rw [← el_em0 hz]
      grind
    have hy0 : y = 0 := by
      rw [← el_em0 hy]
      grind
    unfold ky
    rw [if_pos hz0, if_pos hy0, ek]
theorem ky_sp {P : Nat} (hp : z_pr P = true) [NeZero P] {x y z : Int} (hx : el P x) (hy : el P y) (hz : el P z) (h : ¬ (x = 0 ∧ y = 0 ∧ z = 0)) :
    ∃ l w : Fin P, l * w = 1 ∧ em P (tx P (ky P x y z)) = l * em P x ∧ em P (ty P (ky P x y z)) = l * em P y ∧ em P (tz P (ky P x y z)) = l * em P z := by
  have lt : ∀ v : Int, (v % P).toNat < P ∧ (((v % P).toNat : Nat) : Int) = v % P := fun v => by
    have h1 := (el_mod hp v).1; have h2 := (el_mod hp v).2; omega
  unfold ky
  by_cases h0 : z = 0
  · rw [if_pos h0]
    by_cases h1 : y = 0
    · rw [if_pos h1]
      obtain ⟨q1, q2, q3⟩ := t_3 (P := P)
      have hx0 : x ≠ 0 := fun e => h ⟨e, h1, h0⟩
      have hi := em_iv hp hx hx0
      refine ⟨em P (iv P x.toNat : Nat), em P x, by grind, ?_, ?_, ?_⟩
      · rw [q1, em_1]; grind
      · rw [q2, h1, em_0]; grind
      · rw [q3, h0, em_0]; grind
    · rw [if_neg h1]
      obtain ⟨a1, a2⟩ := lt (x * (iv P y.toNat : Nat))
      obtain ⟨q1, q2, q3⟩ := t_2 a1
      have hi := em_iv hp hy h1
      refine ⟨em P (iv P y.toNat : Nat), em P y, by grind, ?_, ?_, ?_⟩
      · rw [q1, a2, em_mod, em_mul]; grind
      · rw [q2, em_1]; grind
      · rw [q3, h0, em_0]; grind
  · rw [if_neg h0]
    obtain ⟨a1, a2⟩ := lt (x * (iv P z.toNat : Nat))
    obtain ⟨b1, b2⟩ := lt (y * (iv P z.toNat : Nat))
    obtain ⟨-, q1, q2, q3⟩ := t_1 hp a1 b1
    have hi := em_iv hp hz h0
    refine ⟨em P (iv P z.toNat : Nat), em P z, by grind, ?_, ?_, ?_⟩
    · rw [q1, a2, em_mod, em_mul]; grind
    · rw [q2, b2, em_mod, em_mul]; grind
    · rw [q3, em_1]; grind
/-- two ways of a binary form -/
theorem quad_0 {P : Nat} (hp : z_pr P = true) [NeZero P] {B C s t : Fin P} (h : 2 * B * s * t + C * t * t = 0) (hBC : B ≠ 0 ∨ C ≠ 0) : t = 0 ∨ (B ≠ 0 ∧ ∃ l : Fin P, s = l * (-C) ∧ t = l * (2 * B)) := by
  by_cases ht : t = 0
  · exact Or.inl ht
  · right
    obtain ⟨w, hw⟩ := fin_inv hp t ht
    have h1 : 2 * B * s + C * t = 0 := by grind
    have hB : B ≠ 0 := by
      intro hB
      rcases hBC with h2 | h2
      · exact h2 hB
      · exact h2 (by grind)
    obtain ⟨u, hu⟩ := fin_inv hp B hB
    obtain ⟨v, hv⟩ := fin_inv hp 2 (fin_2 hp)
    exact ⟨hB, t * u * v, by grind, by grind⟩
theorem quad_1 {P : Nat} (hp : z_pr P = true) [NeZero P] {A B C s t : Fin P} (hA : A ≠ 0) (h : A * s * s + 2 * B * s * t + C * t * t = 0) (h0 : ¬ (s = 0 ∧ t = 0)) : ∃ q : Fin P, q * q = B * B - A * C ∧ ∃ l : Fin P, s = l * (q - B) ∧ t = l * A := by
  obtain ⟨u, hu⟩ := fin_inv hp A hA
  have ht : t ≠ 0 := by
    intro ht
    have hs : s * s = 0 := by grind
    by_cases hs0 : s = 0
    · exact h0 ⟨hs0, ht⟩
    · obtain ⟨w, hw⟩ := fin_inv hp s hs0
      exact hs0 (by grind)
  obtain ⟨w, hw⟩ := fin_inv hp t ht
  exact ⟨(A * s + B * t) * w, by grind, t * u, by grind, by grind⟩
