theorem rg_0 {K : Type} [Lean.Grind.CommRing K] {a b : K} (h : (1 : K) = 0 * a + 0 * b) : (1 : K) = 0 := by
  rw [h]; grind
/-- the lines through a point, numbered -/
theorem lines_num {P k0 : Nat} (hp : z_pr P = true) [NeZero P] (hk0 : k0 ≤ P * P + P) : ∃ f : Nat → Nat, (∀ u, u ≤ P * P + P → em P (tx P k0) * em P (tx P u) + em P (ty P k0) * em P (ty P u) + em P (tz P k0) * em P (tz P u) = 0 → f u < P + 1) ∧
    ∀ u u', u ≤ P * P + P → u' ≤ P * P + P → em P (tx P k0) * em P (tx P u) + em P (ty P k0) * em P (ty P u) + em P (tz P k0) * em P (tz P u) = 0 → em P (tx P k0) * em P (tx P u') + em P (ty P k0) * em P (ty P u') + em P (tz P k0) * em P (tz P u') = 0 → f u = f u' → u = u' := by
  obtain ⟨S, E, hS, hE, ⟨-, -, hco, hin, -⟩, -⟩ := e_span hp hk0 0 0 0 0 0 0 0 0 0
  have h10 := fin_10 hp
  have ex : ∀ u : Nat, ∃ p : Nat, (u ≤ P * P + P ∧ em P (tx P k0) * em P (tx P u) + em P (ty P k0) * em P (ty P u) + em P (tz P k0) * em P (tz P u) = 0) → p < P + 1 ∧ ∃ s t : Fin P, (em P (tx P u) = s * em P (S 0) + t * em P (E 0) ∧ em P (ty P u) = s * em P (S 1) + t * em P (E 1) ∧ em P (tz P u) = s * em P (S 2) + t * em P (E 2)) ∧ ((t = 0 ∧ s ≠ 0 ∧ p = P) ∨ (t ≠ 0 ∧ ∃ q : Fin P, s = q * t ∧ p = q.val)) := by
    intro u
    by_cases hu : u ≤ P * P + P ∧ em P (tx P k0) * em P (tx P u) + em P (ty P k0) * em P (ty P u) + em P (tz P k0) * em P (tz P u) = 0
    · obtain ⟨s, t, g1, g2, g3⟩ := hco _ _ _ hu.2
      by_cases ht : t = 0
      · refine ⟨P, fun _ => ⟨by omega, s, t, ⟨g1, g2, g3⟩, Or.inl ⟨ht, ?_, rfl⟩⟩⟩
        intro hs
        rw [ht, hs] at g1 g2 g3
        rcases key_cases hp hu.1 with ⟨_, _, _, _, _, _, _, _, q⟩ | ⟨_, _, _, _, q, _⟩ | ⟨_, q, _, _⟩
        · rw [q, em_1] at g3; exact h10 (rg_0 g3)
        · rw [q, em_1] at g2; exact h10 (rg_0 g2)
        · rw [q, em_1] at g1; exact h10 (rg_0 g1)
      · obtain ⟨w, hw⟩ := fin_inv hp t ht
        refine ⟨(s * w).val, fun _ => ⟨by have := (s * w).isLt; omega, s, t, ⟨g1, g2, g3⟩, Or.inr ⟨ht, s * w, ?_, rfl⟩⟩⟩
        clear hco hin hS hE hu g1 g2 g3
        grind
    · exact ⟨0, fun h => absurd h hu⟩
  refine ⟨fun u => Classical.choose (ex u), fun u h1 h2 => (Classical.choose_spec (ex u) ⟨h1, h2⟩).1, fun u u' h1 h1' h2 h2' he => ?_⟩
  obtain ⟨-, s, t, ⟨a1, a2, a3⟩, ha⟩ := Classical.choose_spec (ex u) ⟨h1, h2⟩
  obtain ⟨-, s', t', ⟨b1, b2, b3⟩, hb⟩ := Classical.choose_spec (ex u') ⟨h1', h2'⟩
  replace he : Classical.choose (ex u) = Classical.choose (ex u') := he
  generalize Classical.choose (ex u) = p at *
  generalize Classical.choose (ex u') = p' at *
  subst he
  clear hco hin hS hE h2 h2'
  try clear ex
  rcases ha with ⟨ht, hs, hp1⟩ | ⟨ht, q, hs, hp1⟩ <;> rcases hb with ⟨ht', hs', hp2⟩ | ⟨ht', q', hs', hp2⟩
  · obtain ⟨w, hw⟩ := fin_inv hp s' hs'
    rw [ht] at a1 a2 a3; rw [ht'] at b1 b2 b3
    exact key_ne hp h1 h1' (s * w) (by grind) (by grind) (by grind)
  · have := q'.isLt; omega
  · have := q.isLt; omega
  · have hq : q = q' := Fin.ext (by omega)
    subst hq
    obtain ⟨w, hw⟩ := fin_inv hp t' ht'
    rw [hs] at a1 a2 a3; rw [hs'] at b1 b2 b3
    exact key_ne hp h1 h1' (t * w) (by grind) (by grind) (by grind)
theorem onl_sym {P : Nat} (hp : z_pr P = true) [NeZero P] {m : Nat → Int} {u k : Nat} (h : onl P m u k) : em P (tx P k) * em P (tx P u) + em P (ty P k) * em P (ty P u) + em P (tz P k) * em P (tz P u) = 0 := by
  have := ((onl_em hp m u k).mp h).1
  grind
/-- a form that isn't degenerate has at most P + 1 points -/
theorem pts_le {P : Nat} (hp : z_pr P = true) {m : Nat → Int} (hm : elF P m) (hd : dt P m ≠ 0) : (ptl P m (P * P + P + 1)).length ≤ P + 1 := by
  have := nz_of hp
  cases hL : ptl P m (P * P + P + 1) with
  | nil => simp
  | cons k0 rest =>
    have hmem : ∀ k, k ∈ (k0 :: rest) → k ≤ P * P + P ∧ onF P m k = true := fun k hk => by
      rw [← hL, ptl_mem] at hk; exact ⟨by omega, hk.2⟩
    have hso : (k0 :: rest).Pairwise (· < ·) := by rw [← hL]; exact ptl_sorted P m _
    generalize hLL : k0 :: rest = L at *
    have h0 : k0 ∈ L := by rw [← hLL]; exact List.mem_cons_self
    obtain ⟨z1, z2⟩ := hmem k0 h0
    obtain ⟨f, hf1, hf2⟩ := lines_num hp z1
    have ex : ∀ i : Nat, ∃ u : Nat, i < L.length → u ≤ P * P + P ∧ onl P m u k0 ∧ onl P m u (L.getD i 0) ∧ (L.getD i 0 = k0 → ∀ k', k' ≤ P * P + P → onl P m u k' → k' = k0) := by
      intro i
      by_cases hi : i < L.length
      · have hmi : L.getD i 0 ∈ L := by
          rw [List.getD_eq_getElem?_getD, List.getElem?_eq_getElem hi]; exact List.getElem_mem hi
        obtain ⟨a1, a2⟩ := hmem _ hmi
        obtain ⟨u, hu⟩ := line_for hp hm hd z1 a1 z2 a2
        exact ⟨u, fun _ => hu⟩
      · exact ⟨0, fun h => absurd h hi⟩
    refine holes L.length (P + 1) (fun i => f (Classical.choose (ex i))) (fun i hi => ?_) (fun i j hij hj => ?_)
    · obtain ⟨b1, b2, -, -⟩ := Classical.choose_spec (ex i) hi
      exact hf1 _ b1 (onl_sym hp b2)
    · intro he
      obtain ⟨b1, b2, b3, b4⟩ := Classical.choose_spec (ex i) (by omega)
      obtain ⟨c1, c2, c3, c4⟩ := Classical.choose_spec (ex j) hj
      have hu := hf2 _ _ b1 c1 (onl_sym hp b2) (onl_sym hp c2) he
      rw [← hu] at c2 c3 c4
      have hlt : L.getD i 0 < L.getD j 0 := by
        rw [List.getD_eq_getElem?_getD, List.getD_eq_getElem?_getD, List.getElem?_eq_getElem (show i < L.length by omega), List.getElem?_eq_getElem hj]
        exact List.pairwise_iff_getElem.mp hso i j (by omega) hj hij
      have mi : L.getD i 0 ∈ L := by
        rw [List.getD_eq_getElem?_getD, List.getElem?_eq_getElem (show i < L.length by omega)]; exact List.getElem_mem (show i < L.length by omega)
      have mj : L.getD j 0 ∈ L := by
        rw [List.getD_eq_getElem?_getD, List.getElem?_eq_getElem hj]; exact List.getElem_mem hj
      by_cases e1 : L.getD i 0 = k0
      · have := b4 e1 _ (hmem _ mj).1 c3; omega
      · by_cases e2 : L.getD j 0 = k0
        · have := c4 e2 _ (hmem _ mi).1 b3; omega
        · rcases three hp hm hd b1 z1 (hmem _ mi).1 (hmem _ mj).1 b2 b3 c3 with e | e | e <;> omega
theorem pts_200 {P : Nat} (hp : z_pr P = true) {m : Nat → Int} (hm : elF P m) (hd : dt P m ≠ 0) : (ptl P m (P * P + P + 1)).length ≤ 200 := by
  have := pts_le hp hm hd
  have := pr_rng hp
  omega
