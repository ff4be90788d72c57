/-! at most P + 1 points: lines through one of them -/
theorem holes : ∀ (n : Nat) (m : Nat) (f : Nat → Nat), (∀ i, i < n → f i < m) → (∀ i j, i < j → j < n → f i ≠ f j) → n ≤ m := by
  intro n
  induction n with
  | zero => intro m f _ _; omega
  | succ n ih =>
    intro m f h1 h2
    cases m with
    | zero => exact absurd (h1 0 (by omega)) (by omega)
    | succ m =>
      -- the last value goes; what stood at m takes its place
      have := ih m (fun i => if f i = m then f n else f i) (fun i hi => ?_) (fun i j hij hj => ?_)
      · omega
      · show (if f i = m then f n else f i) < m
        have a := h1 i (by omega); have b := h1 n (by omega); have c := h2 i n hi (by omega)
        split
        · rename_i e; rw [e] at c; omega
        · rename_i e; omega
      · show (if f i = m then f n else f i) ≠ (if f j = m then f n else f j)
        have a := h2 i j hij (by omega); have b := h2 i n (by omega) (by omega); have c := h2 j n hj (by omega)
        split <;> split
        · rename_i e1 e2; rw [e1, e2] at a; exact absurd rfl a
        · exact fun e => c e.symm
        · exact b
        · exact a
/-- two different keys: their triples aren't alike -/
theorem key_ne {P k k' : Nat} (hp : z_pr P = true) [NeZero P] (hk : k ≤ P * P + P) (hk' : k' ≤ P * P + P) (c : Fin P) (e1 : em P (tx P k) = c * em P (tx P k')) (e2 : em P (ty P k) = c * em P (ty P k')) (e3 : em P (tz P k) = c * em P (tz P k')) : k = k' := by
  have h10 := fin_10 hp
  obtain ⟨x', y', z'⟩ := t_el hp hk'
  have a := ky_uniq hp hk x' y' z' c e1 e2 e3
  have b := ky_uniq hp hk' x' y' z' 1 (by grind) (by grind) (by grind)
  omega
theorem met_ex {P l : Nat} (hp : z_pr P = true) [NeZero P] {m : Nat → Int} (hm : elF P m) (hd : dt P m ≠ 0) (hl : l ≤ P * P + P) : ∃ cnt lo up, Met2 P m l cnt lo up := by
  obtain ⟨inv, roots, hN, -⟩ := e_take hp 0 (fun _ => 0) (fun _ => 0)
  obtain ⟨cnt, lo, up, _, _, _, _, _, _, _, _, _, _, _, h, -⟩ := e_find hp hN hm hd hl 0 0 0 0 0 0 0 0 0 0 0 0
  exact ⟨cnt, lo, up, h⟩
theorem three {P l : Nat} (hp : z_pr P = true) [NeZero P] {m : Nat → Int} (hm : elF P m) (hd : dt P m ≠ 0) (hl : l ≤ P * P + P) {a b c : Nat} (ha : a ≤ P * P + P) (hb : b ≤ P * P + P) (hc : c ≤ P * P + P) (h1 : onl P m l a) (h2 : onl P m l b) (h3 : onl P m l c) : a = b ∨ a = c ∨ b = c := by
  obtain ⟨cnt, lo, up, -, -, -, -, hon⟩ := met_ex hp hm hd hl
  rcases (hon a ha).mp h1 with ⟨_, e1⟩ | ⟨_, e1⟩ <;> rcases (hon b hb).mp h2 with ⟨_, e2⟩ | ⟨_, e2⟩ <;> rcases (hon c hc).mp h3 with ⟨_, e3⟩ | ⟨_, e3⟩ <;> omega
/-- triples whose cross product is nought -/
theorem cross_eq {P k k' : Nat} (hp : z_pr P = true) [NeZero P] (hk : k ≤ P * P + P) (hk' : k' ≤ P * P + P)
    (h1 : em P (ty P k) * em P (tz P k') - em P (tz P k) * em P (ty P k') = 0) (h2 : em P (tz P k) * em P (tx P k') - em P (tx P k) * em P (tz P k') = 0) (h3 : em P (tx P k) * em P (ty P k') - em P (ty P k) * em P (tx P k') = 0) : k' = k := by
  rcases key_cases hp hk with ⟨a, b, ha, hb, ek, hl, q1, q2, q3⟩ | ⟨a, ha, ek, q1, q2, q3⟩ | ⟨ek, q1, q2, q3⟩
  · have g3 : em P (tz P k) = 1 := by rw [q3, em_1]
    exact key_ne hp hk' hk (em P (tz P k')) (by grind) (by grind) (by grind)
  · have g2 : em P (ty P k) = 1 := by rw [q2, em_1]
    have g3 : em P (tz P k) = 0 := by rw [q3, em_0]
    exact key_ne hp hk' hk (em P (ty P k')) (by grind) (by grind) (by grind)
  · have g1 : em P (tx P k) = 1 := by rw [q1, em_1]
    have g2 : em P (ty P k) = 0 := by rw [q2, em_0]
    have g3 : em P (tz P k) = 0 := by rw [q3, em_0]
    exact key_ne hp hk' hk (em P (tx P k')) (by grind) (by grind) (by grind)
theorem onF_em {P : Nat} (hp : z_pr P = true) [NeZero P] (m : Nat → Int) (k : Nat) : onF P m k = true ↔ rq m (em P (tx P k)) (em P (ty P k)) (em P (tz P k)) (em P (tx P k)) (em P (ty P k)) (em P (tz P k)) = 0 := by
  unfold onF
  rw [decide_eq_true_eq, ← em_qb, show qb P m (tx P k) (ty P k) (tz P k) (tx P k) (ty P k) (tz P k) = qf P m (tx P k) (ty P k) (tz P k) from rfl, el_em0 (show el P (qf P m (tx P k) (ty P k) (tz P k)) from el_mod hp _)]
/-- the key of a triple of the ring -/
theorem fin_key {P : Nat} (hp : z_pr P = true) [NeZero P] (x y z : Fin P) (h : ¬ (x = 0 ∧ y = 0 ∧ z = 0)) : ∃ u : Nat, u ≤ P * P + P ∧ ∃ c w : Fin P, c * w = 1 ∧ em P (tx P u) = c * x ∧ em P (ty P u) = c * y ∧ em P (tz P u) = c * z := by
  obtain ⟨a, ha, rfl⟩ := fin_em x
  obtain ⟨b, hb, rfl⟩ := fin_em y
  obtain ⟨d, hd, rfl⟩ := fin_em z
  refine ⟨ky P a b d, ky_le hp a b d, ky_sp hp ha hb hd (fun q => h ?_)⟩
  obtain ⟨rfl, rfl, rfl⟩ := q
  exact ⟨em_0 P, em_0 P, em_0 P⟩
theorem pol_ne {K : Type} [Lean.Grind.CommRing K] {a b c d e f x y z : K} (h1 : a * x + f * y + e * z = 0) (h2 : f * x + b * y + d * z = 0) (h3 : e * x + d * y + c * z = 0) : (a * (b * c - d * d) + f * (d * e - c * f) + e * (d * f - b * e)) * x = 0 ∧ (a * (b * c - d * d) + f * (d * e - c * f) + e * (d * f - b * e)) * y = 0 ∧ (a * (b * c - d * d) + f * (d * e - c * f) + e * (d * f - b * e)) * z = 0 := by
  refine ⟨?_, ?_, ?_⟩ <;> grind
theorem rg_x {K : Type} [Lean.Grind.CommRing K] {c w y z y' z' : K} (h : c * w = 1) (hy : y = c * (y + y')) (hz : z = c * (z + z')) : y * z' - z * y' = 0 := by
  have e1 : y' = (w - 1) * y := by grind
  have e2 : z' = (w - 1) * z := by grind
  rw [e1, e2]; grind
theorem rg_y {K : Type} [Lean.Grind.CommRing K] {c w y z y' z' : K} (h : c * w = 1) (hy : y' = c * (y + y')) (hz : z' = c * (z + z')) : y * z' - z * y' = 0 := by
  have e1 : y = (w - 1) * y' := by grind
  have e2 : z = (w - 1) * z' := by grind
  rw [e1, e2]; grind
/-- a line through k0 for each point -/
theorem line_for {P k0 k : Nat} (hp : z_pr P = true) [NeZero P] {m : Nat → Int} (hm : elF P m) (hd : dt P m ≠ 0) (hk0 : k0 ≤ P * P + P) (hk : k ≤ P * P + P) (h0 : onF P m k0 = true) (h : onF P m k = true) :
    ∃ u : Nat, u ≤ P * P + P ∧ onl P m u k0 ∧ onl P m u k ∧ (k = k0 → ∀ k', k' ≤ P * P + P → onl P m u k' → k' = k0) := by
  have h10 := fin_10 hp
  by_cases hc : k = k0
  · subst hc
    rw [onF_em hp] at h0
    have hdr : rdt (P := P) m ≠ 0 := by
      rw [← em_dt, ne_eq, el_em0 (show el P (dt P m) from el_mod hp _)]; exact hd
    -- the polar
    have hne : ¬ (em P (m 0) * em P (tx P k) + em P (m 5) * em P (ty P k) + em P (m 4) * em P (tz P k) = 0 ∧ em P (m 5) * em P (tx P k) + em P (m 1) * em P (ty P k) + em P (m 3) * em P (tz P k) = 0 ∧ em P (m 4) * em P (tx P k) + em P (m 3) * em P (ty P k) + em P (m 2) * em P (tz P k) = 0) := by
      intro ⟨g1, g2, g3⟩
      obtain ⟨p1, p2, p3⟩ := pol_ne (a := em P (m 0)) (b := em P (m 1)) (c := em P (m 2)) (d := em P (m 3)) (e := em P (m 4)) (f := em P (m 5)) g1 g2 g3
      rcases key_cases hp hk with ⟨_, _, _, _, _, _, _, _, q⟩ | ⟨_, _, _, _, q, _⟩ | ⟨_, q, _, _⟩
      · rw [q, em_1] at p3; exact hdr (by unfold rdt; grind)
      · rw [q, em_1] at p2; exact hdr (by unfold rdt; grind)
      · rw [q, em_1] at p1; exact hdr (by unfold rdt; grind)
    obtain ⟨u, hu, c, w, hcw, e1, e2, e3⟩ := fin_key hp _ _ _ hne
    have o0 : onl P m u k := by
      rw [onl_em hp]
      refine ⟨?_, h0⟩
      rw [e1, e2, e3]
      unfold rq at h0
      clear hne hdr
      grind
    refine ⟨u, hu, o0, o0, fun _ k' hk' ho' => ?_⟩
    by_cases hkk : k' = k
    · exact hkk
    · exfalso
      have ho2 := (onl_em hp m u k').mp ho'
      have hB : rq m (em P (tx P k')) (em P (ty P k')) (em P (tz P k')) (em P (tx P k)) (em P (ty P k)) (em P (tz P k)) = 0 := by
        have g := ho2.1
        rw [e1, e2, e3] at g
        unfold rq
        clear hne hdr h0 o0 ho'
        grind
      have hnz : ¬ (em P (tx P k) + em P (tx P k') = 0 ∧ em P (ty P k) + em P (ty P k') = 0 ∧ em P (tz P k) + em P (tz P k') = 0) := by
        intro ⟨g1, g2, g3⟩
        exact hkk (cross_eq hp hk hk' (by clear hne hdr h0 o0 ho' hB; grind) (by clear hne hdr h0 o0 ho' hB; grind) (by clear hne hdr h0 o0 ho' hB; grind))
      obtain ⟨k3, hk3, c3, w3, hcw3, a1, a2, a3⟩ := fin_key hp _ _ _ hnz
      have o3 : onl P m u k3 := by
        rw [onl_em hp, a1, a2, a3, rq_sc]
        have i0 := ((onl_em hp m u k).mp o0).1
        have i1 := ho2.1
        have q1 := ho2.2
        refine ⟨by clear hne hdr h0 o0 ho' hB hnz q1 e1 e2 e3; grind, ?_⟩
        unfold rq at *
        clear hne hdr o0 ho' hnz e1 e2 e3 ho2 i0 i1
        grind
      rcases three hp hm hd hu hk hk' hk3 o0 ho' o3 with e | e | e
      · exact hkk e.symm
      · subst e
        exact hkk (cross_eq hp hk hk' (rg_x hcw3 a2 a3) (rg_x hcw3 a3 a1) (rg_x hcw3 a1 a2))
      · subst e
        exact hkk (cross_eq hp hk hk' (rg_y hcw3 a2 a3) (rg_y hcw3 a3 a1) (rg_y hcw3 a1 a2))
  · have hne : ¬ (em P (ty P k0) * em P (tz P k) - em P (tz P k0) * em P (ty P k) = 0 ∧ em P (tz P k0) * em P (tx P k) - em P (tx P k0) * em P (tz P k) = 0 ∧ em P (tx P k0) * em P (ty P k) - em P (ty P k0) * em P (tx P k) = 0) := fun ⟨g1, g2, g3⟩ => hc (cross_eq hp hk0 hk g1 g2 g3)
    obtain ⟨u, hu, c, w, -, e1, e2, e3⟩ := fin_key hp _ _ _ hne
    refine ⟨u, hu, ?_, ?_, fun e => absurd e hc⟩
    · rw [onl_em hp]
      refine ⟨?_, (onF_em hp m k0).mp h0⟩
      rw [e1, e2, e3]; clear hne; grind
    · rw [onl_em hp]
      refine ⟨?_, (onF_em hp m k).mp h⟩
      rw [e1, e2, e3]; clear hne; grind
