theorem mets_mem {cnt lo up k : Nat} (hc : cnt ≤ 2) : k ∈ mets cnt lo up ↔ (1 ≤ cnt ∧ k = lo) ∨ (cnt = 2 ∧ k = up) := by
  unfold mets
  rcases (show cnt = 0 ∨ cnt = 1 ∨ cnt = 2 by omega) with rfl | rfl | rfl
  · simp
  · simp
  · simp
theorem mets_sorted {P : Nat} {m : Nat → Int} {l cnt lo up : Nat} (h : Met2 P m l cnt lo up) : (mets cnt lo up).Pairwise (· < ·) := by
  obtain ⟨hc, -, -, h2, -⟩ := h
  unfold mets
  rcases (show cnt = 0 ∨ cnt = 1 ∨ cnt = 2 by omega) with rfl | rfl | rfl
  · exact List.Pairwise.nil
  · exact List.pairwise_singleton _ _
  · simpa using h2 rfl
theorem mets_onl {P : Nat} {m : Nat → Int} {l cnt lo up k : Nat} (h : Met2 P m l cnt lo up) : k ∈ mets cnt lo up ↔ k ≤ P * P + P ∧ onl P m l k := by
  obtain ⟨hc, hb, -, -, hon⟩ := h
  rw [mets_mem hc]
  constructor
  · intro q
    have hk : k ≤ P * P + P := by
      rcases q with ⟨q1, q2⟩ | ⟨q1, q2⟩
      · rw [q2]; exact (hb q1).1
      · rw [q2]; exact (hb (by omega)).2
    exact ⟨hk, (hon k hk).mpr q⟩
  · intro ⟨hk, q⟩
    exact (hon k hk).mp q
theorem onl_onF {P : Nat} {m : Nat → Int} {l k : Nat} (h : onl P m l k) : onF P m k = true := by
  unfold onF; exact decide_eq_true h.2
/-- a level -/
theorem lev_on {P y k : Nat} (hp : z_pr P = true) [NeZero P] (hy : y < P) (m : Nat → Int) (hk : k < P * P) : onl P m (ky P (0 % P) (1 % P) (-(y : Int) % P)) k ↔ k / P = y ∧ onF P m k = true := by
  have hb := pr_rng hp
  have h10 := fin_10 hp
  have e1 : (1 : Int) % P = 1 := Int.emod_eq_of_lt (by omega) (by omega)
  obtain ⟨c, w, hc, q1, q2, q3⟩ := ky_sp hp (el_mod hp 0) (el_mod hp 1) (el_mod hp (-(y : Int))) (fun h => by have := h.2.1; rw [e1] at this; omega)
  rw [em_mod, em_0] at q1; rw [em_mod, em_1] at q2; rw [em_mod, em_neg] at q3
  rw [onl_em hp, q1, q2, q3]
  rcases key_cases hp (show k ≤ P * P + P by omega) with ⟨a, b, ha, hb2, ek, hl, z1, z2, z3⟩ | ⟨a, ha, ek, _⟩ | ⟨ek, _⟩
  · have hd : k / P = b := by rw [ek, Nat.mul_comm, Nat.mul_add_div (by omega), Nat.div_eq_of_lt ha, Nat.add_zero]
    have hF : onF P m k = true ↔ rq m (em P (tx P k)) (em P (ty P k)) (em P (tz P k)) (em P (tx P k)) (em P (ty P k)) (em P (tz P k)) = 0 := by
      unfold onF
      rw [decide_eq_true_eq, ← em_qb, show qb P m (tx P k) (ty P k) (tz P k) (tx P k) (ty P k) (tz P k) = qf P m (tx P k) (ty P k) (tz P k) from rfl, el_em0 (show el P (qf P m (tx P k) (ty P k) (tz P k)) from el_mod hp _)]
    rw [← hF, hd, z2, z3, em_1]
    constructor
    · intro ⟨g1, g2⟩
      refine ⟨?_, g2⟩
      have : em P (b : Nat) = em P (y : Nat) := by
        clear hF q1 q2 q3
        grind
      have := el_inj (el_of hb2) (el_of hy) this
      omega
    · intro ⟨g1, g2⟩
      refine ⟨?_, g2⟩
      rw [g1]
      clear hF q1 q2 q3
      grind
  · omega
  · omega
theorem lev_ptl {P y cnt lo up : Nat} (hp : z_pr P = true) [NeZero P] (hy : y < P) {m : Nat → Int} (h : Met2 P m (ky P (0 % P) (1 % P) (-(y : Int) % P)) cnt lo up) : ptl P m ((y + 1) * P) = ptl P m (y * P) ++ (mets cnt lo up).filter (fun k => decide (k < P * P)) := by
  have hb := pr_rng hp
  have hyP : (y + 1) * P ≤ P * P := Nat.mul_le_mul_right P hy
  have hs : (y + 1) * P = y * P + P := by rw [Nat.add_mul, Nat.one_mul]
  have hm : ∀ k, k ∈ (mets cnt lo up).filter (fun k => decide (k < P * P)) ↔ k < P * P ∧ k / P = y ∧ onF P m k = true := by
    intro k
    rw [List.mem_filter, mets_onl h, decide_eq_true_eq]
    constructor
    · intro ⟨⟨_, q2⟩, q3⟩
      exact ⟨q3, (lev_on hp hy m q3).mp q2⟩
    · intro ⟨q1, q2⟩
      exact ⟨⟨by omega, (lev_on hp hy m q1).mpr q2⟩, q1⟩
  have hdiv : ∀ k, k / P = y ↔ y * P ≤ k ∧ k < y * P + P := by
    intro k
    rw [Nat.div_eq_iff (by omega)]
    constructor <;> intro q <;> omega
  refine sorted_eq _ _ (ptl_sorted P m _) ?_ ?_
  · refine List.pairwise_append.mpr ⟨ptl_sorted P m _, List.Pairwise.filter _ (mets_sorted h), fun a ha b hb => ?_⟩
    have h1 := (ptl_mem.mp ha).1
    have h2 := (hdiv b).mp ((hm b).mp hb).2.1
    omega
  · intro k
    rw [List.mem_append, ptl_mem, ptl_mem, hm, hdiv, hs]
    constructor
    · intro ⟨q1, q2⟩
      rcases Nat.lt_or_ge k (y * P) with q | q
      · exact Or.inl ⟨q, q2⟩
      · exact Or.inr ⟨by omega, ⟨q, q1⟩, q2⟩
    · intro q
      rcases q with ⟨q1, q2⟩ | ⟨_, q1, q2⟩
      · exact ⟨by omega, q2⟩
      · exact ⟨q1.2, q2⟩
/-- what lies beyond the levels -/
theorem last_ptl {P cnt lo up : Nat} (hp : z_pr P = true) [NeZero P] {m : Nat → Int} (h : Met2 P m (ky P (0 % P) (0 % P) (1 % P)) cnt lo up) : ptl P m (P * P + P + 1) = ptl P m (P * P) ++ (mets cnt lo up).filter (fun k => decide (k < P * P + P + 1)) := by
  have hb := pr_rng hp
  have h10 := fin_10 hp
  have e1 : (1 : Int) % P = 1 := Int.emod_eq_of_lt (by omega) (by omega)
  obtain ⟨c, w, hc, q1, q2, q3⟩ := ky_sp hp (el_mod hp 0) (el_mod hp 0) (el_mod hp 1) (fun h => by have := h.2.2; rw [e1] at this; omega)
  rw [em_mod, em_0] at q1; rw [em_mod, em_0] at q2; rw [em_mod, em_1] at q3
  have hm : ∀ k, k ∈ (mets cnt lo up).filter (fun k => decide (k < P * P + P + 1)) ↔ k < P * P + P + 1 ∧ P * P ≤ k ∧ onF P m k = true := by
    intro k
    rw [List.mem_filter, mets_onl h, decide_eq_true_eq]
    have key : k ≤ P * P + P → (onl P m (ky P (0 % P) (0 % P) (1 % P)) k ↔ P * P ≤ k ∧ onF P m k = true) := by
      intro hk
      have hF : onF P m k = true ↔ rq m (em P (tx P k)) (em P (ty P k)) (em P (tz P k)) (em P (tx P k)) (em P (ty P k)) (em P (tz P k)) = 0 := by
        unfold onF
        rw [decide_eq_true_eq, ← em_qb, show qb P m (tx P k) (ty P k) (tz P k) (tx P k) (ty P k) (tz P k) = qf P m (tx P k) (ty P k) (tz P k) from rfl, el_em0 (show el P (qf P m (tx P k) (ty P k) (tz P k)) from el_mod hp _)]
      have hz : c * 0 * em P (tx P k) + c * 0 * em P (ty P k) + c * 1 * em P (tz P k) = 0 ↔ P * P ≤ k := by
        rcases key_cases hp hk with ⟨a, b, ha, hb2, ek, hl, z1, z2, z3⟩ | ⟨a, ha, ek, z1, z2, z3⟩ | ⟨ek, z1, z2, z3⟩
        · rw [z3, em_1]
          refine ⟨fun g => absurd ?_ h10, fun g => by omega⟩
          clear hF q1 q2 q3
          grind
        · rw [z3, em_0]
          refine ⟨fun _ => by omega, fun _ => ?_⟩
          clear hF q1 q2 q3
          grind
        · rw [z3, em_0]
          refine ⟨fun _ => by omega, fun _ => ?_⟩
          clear hF q1 q2 q3
          grind
      rw [onl_em hp, q1, q2, q3, hz, ← hF]
    constructor
    · intro ⟨⟨p1, p2⟩, p3⟩
      exact ⟨p3, (key p1).mp p2⟩
    · intro ⟨p1, p2⟩
      exact ⟨⟨by omega, (key (by omega)).mpr p2⟩, p1⟩
  refine sorted_eq _ _ (ptl_sorted P m _) ?_ ?_
  · refine List.pairwise_append.mpr ⟨ptl_sorted P m _, List.Pairwise.filter _ (mets_sorted h), fun a ha b hb => ?_⟩
    have h1 := (ptl_mem.mp ha).1
    have h2 := ((hm b).mp hb).2.1
    omega
  · intro k
    rw [List.mem_append, ptl_mem, ptl_mem, hm]
    constructor
    · intro ⟨p1, p2⟩
      rcases Nat.lt_or_ge k (P * P) with q | q
      · exact Or.inl ⟨q, p2⟩
      · exact Or.inr ⟨p1, q, p2⟩
    · intro q
      rcases q with ⟨p1, p2⟩ | ⟨p1, _, p2⟩
      · exact ⟨by omega, p2⟩
      · exact ⟨p1, p2⟩
