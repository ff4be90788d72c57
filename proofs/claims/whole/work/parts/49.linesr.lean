/-! the lines through a point as the reference goes through them -/
def ra (P k : Nat) : Nat → Int
  | 0 => tz P k
  | 1 => 0
  | _ => if tz P k = 0 then 1 else (-(tx P k)) % P
def rb (P k : Nat) : Nat → Int
  | 0 => if tz P k = 0 then ty P k else 0
  | 1 => if tz P k = 0 then (-(tx P k)) % P else tz P k
  | _ => if tz P k = 0 then 0 else (-(ty P k)) % P
def aj (P j : Nat) : Int := if j < P then (j : Int) else 1
def bj (P j : Nat) : Int := if j < P then 1 else 0
theorem ra_el {P k : Nat} (hp : z_pr P = true) (hk : k ≤ P * P + P) (i : Nat) : el P (ra P k i) := by
  have hb := pr_rng hp
  obtain ⟨ex, ey, ez⟩ := t_el hp hk
  match i with
  | 0 => exact ez
  | 1 => exact ⟨Int.le_refl _, by show (0 : Int) < P; omega⟩
  | i + 2 =>
    show el P (if tz P k = 0 then 1 else (-(tx P k)) % P)
    split
    · exact ⟨by omega, by omega⟩
    · exact el_mod hp _
theorem rb_el {P k : Nat} (hp : z_pr P = true) (hk : k ≤ P * P + P) (i : Nat) : el P (rb P k i) := by
  have hb := pr_rng hp
  obtain ⟨ex, ey, ez⟩ := t_el hp hk
  match i with
  | 0 =>
    show el P (if tz P k = 0 then ty P k else 0)
    split
    · exact ey
    · exact ⟨by omega, by omega⟩
  | 1 =>
    show el P (if tz P k = 0 then (-(tx P k)) % P else tz P k)
    split
    · exact el_mod hp _
    · exact ez
  | i + 2 =>
    show el P (if tz P k = 0 then 0 else (-(ty P k)) % P)
    split
    · exact ⟨by omega, by omega⟩
    · exact el_mod hp _
theorem aj_el {P j : Nat} (hp : z_pr P = true) : el P (aj P j) := by
  have hb := pr_rng hp
  unfold aj
  split
  · exact el_of (by assumption)
  · exact ⟨by omega, by omega⟩
theorem bj_el {P j : Nat} (hp : z_pr P = true) : el P (bj P j) := by
  have hb := pr_rng hp
  unfold bj
  split
  · exact ⟨by omega, by omega⟩
  · exact ⟨by omega, by omega⟩
theorem rs_ok {P k : Nat} (hp : z_pr P = true) [NeZero P] (hk : k ≤ P * P + P) : SpanOK P k (ra P k) (rb P k) := by
  rcases key_cases hp hk with ⟨a, b, ha, hb, ek, hlt, q1, q2, q3⟩ | ⟨a, ha, ek, q1, q2, q3⟩ | ⟨ek, q1, q2, q3⟩
  · have r0 : em P (ra P k 0) = 1 := by show em P (tz P k) = 1; rw [q3, em_1]
    have r1 : em P (ra P k 1) = 0 := em_0 P
    have r2 : em P (ra P k 2) = -em P (tx P k) := by show em P (if tz P k = 0 then 1 else (-(tx P k)) % P) = _; rw [q3, if_neg (by decide), em_mod, em_neg]
    have s0 : em P (rb P k 0) = 0 := by show em P (if tz P k = 0 then ty P k else 0) = _; rw [q3, if_neg (by decide), em_0]
    have s1 : em P (rb P k 1) = 1 := by show em P (if tz P k = 0 then (-(tx P k)) % P else tz P k) = _; rw [q3, if_neg (by decide), em_1]
    have s2 : em P (rb P k 2) = -em P (ty P k) := by show em P (if tz P k = 0 then 0 else (-(ty P k)) % P) = _; rw [q3, if_neg (by decide), em_mod, em_neg]
    unfold SpanOK
    rw [r0, r1, r2, s0, s1, s2, q3, em_1]
    generalize em P (tx P k) = x
    generalize em P (ty P k) = y
    refine ⟨by grind, by grind, ?_, ?_, ?_⟩
    · intro u v w h
      exact ⟨u, v, by grind, by grind, by grind⟩
    · intro s t h1 h2 _
      exact ⟨by grind, by grind⟩
    · intro m h1 h2 h3
      unfold rq at h1 h2 h3
      unfold rdt
      grind
  · have r0 : em P (ra P k 0) = 0 := by show em P (tz P k) = 0; rw [q3, em_0]
    have r1 : em P (ra P k 1) = 0 := em_0 P
    have r2 : em P (ra P k 2) = 1 := by show em P (if tz P k = 0 then 1 else (-(tx P k)) % P) = _; rw [q3, if_pos rfl, em_1]
    have s0 : em P (rb P k 0) = 1 := by show em P (if tz P k = 0 then ty P k else 0) = _; rw [q3, if_pos rfl, q2, em_1]
    have s1 : em P (rb P k 1) = -em P (tx P k) := by show em P (if tz P k = 0 then (-(tx P k)) % P else tz P k) = _; rw [q3, if_pos rfl, em_mod, em_neg]
    have s2 : em P (rb P k 2) = 0 := by show em P (if tz P k = 0 then 0 else (-(ty P k)) % P) = _; rw [q3, if_pos rfl, em_0]
    unfold SpanOK
    rw [r0, r1, r2, s0, s1, s2, q3, q2, em_0, em_1]
    generalize em P (tx P k) = x
    refine ⟨by grind, by grind, ?_, ?_, ?_⟩
    · intro u v w h
      exact ⟨w, u, by grind, by grind, by grind⟩
    · intro s t h1 _ h3
      exact ⟨by grind, by grind⟩
    · intro m h1 h2 h3
      unfold rq at h1 h2 h3
      unfold rdt
      grind
  · have r0 : em P (ra P k 0) = 0 := by show em P (tz P k) = 0; rw [q3, em_0]
    have r1 : em P (ra P k 1) = 0 := em_0 P
    have r2 : em P (ra P k 2) = 1 := by show em P (if tz P k = 0 then 1 else (-(tx P k)) % P) = _; rw [q3, if_pos rfl, em_1]
    have s0 : em P (rb P k 0) = 0 := by show em P (if tz P k = 0 then ty P k else 0) = _; rw [q3, if_pos rfl, q2, em_0]
    have s1 : em P (rb P k 1) = -1 := by show em P (if tz P k = 0 then (-(tx P k)) % P else tz P k) = _; rw [q3, if_pos rfl, em_mod, em_neg, q1, em_1]
    have s2 : em P (rb P k 2) = 0 := by show em P (if tz P k = 0 then 0 else (-(ty P k)) % P) = _; rw [q3, if_pos rfl, em_0]
    unfold SpanOK
    rw [r0, r1, r2, s0, s1, s2, q3, q2, q1, em_0, em_1]
    refine ⟨by grind, by grind, ?_, ?_, ?_⟩
    · intro u v w h
      exact ⟨w, -v, by grind, by grind, by grind⟩
    · intro s t _ h2 h3
      exact ⟨by grind, by grind⟩
    · intro m h1 h2 h3
      unfold rq at h1 h2 h3
      unfold rdt
      grind
/-- the j-th line through a point -/
def lj (P k j : Nat) : Nat := kS P (ra P k) (rb P k) (aj P j) (bj P j)
theorem ab_ne {P j : Nat} (hp : z_pr P = true) [NeZero P] : ¬ (em P (aj P j) = 0 ∧ em P (bj P j) = 0) := by
  have h10 := fin_10 hp
  intro ⟨h1, h2⟩
  unfold aj at h1
  unfold bj at h2
  by_cases h : j < P
  · rw [if_pos h, em_1] at h2; exact h10 h2
  · rw [if_neg h, em_1] at h1; exact h10 h1
theorem lj_le {P k j : Nat} (hp : z_pr P = true) : lj P k j ≤ P * P + P := ky_le hp _ _ _
theorem lj_inc {P k j : Nat} (hp : z_pr P = true) [NeZero P] (hk : k ≤ P * P + P) : em P (tx P k) * em P (tx P (lj P k j)) + em P (ty P k) * em P (ty P (lj P k j)) + em P (tz P k) * em P (tz P (lj P k j)) = 0 := by
  have hO := rs_ok hp hk
  obtain ⟨c, w, -, e1, e2, e3⟩ := ky_sp hp (vs_el hp (ra P k) (rb P k) (aj P j) (bj P j) 0) (vs_el hp (ra P k) (rb P k) (aj P j) (bj P j) 1) (vs_el hp (ra P k) (rb P k) (aj P j) (bj P j) 2) (vs_ne hp hO (ab_ne hp))
  unfold lj kS
  rw [e1, e2, e3, em_vs, em_vs, em_vs]
  obtain ⟨i1, i2, -, -, -⟩ := hO
  clear e1 e2 e3
  grind
theorem lj_on {P k j : Nat} (hp : z_pr P = true) [NeZero P] (hk : k ≤ P * P + P) (m : Nat → Int) : onl P m k (lj P k j) ↔ onF P m (lj P k j) = true := by
  rw [onl_em hp, onF_em hp]
  exact ⟨fun h => h.2, fun h => ⟨lj_inc hp hk, h⟩⟩
theorem lj_sur {P k l : Nat} (hp : z_pr P = true) [NeZero P] (hk : k ≤ P * P + P) (hl : l ≤ P * P + P) (h : em P (tx P k) * em P (tx P l) + em P (ty P k) * em P (ty P l) + em P (tz P k) * em P (tz P l) = 0) : ∃ j, j < P + 1 ∧ lj P k j = l := by
  obtain ⟨-, -, hco, -, -⟩ := rs_ok hp hk
  obtain ⟨s, t, g1, g2, g3⟩ := hco _ _ _ h
  clear hco
  by_cases ht : t = 0
  · refine ⟨P, by omega, ?_⟩
    have ea : em P (aj P P) = 1 := by unfold aj; rw [if_neg (by omega), em_1]
    have eb : em P (bj P P) = 0 := by unfold bj; rw [if_neg (by omega), em_0]
    subst ht
    refine kS_is hp hl s ?_ ?_ ?_
    · rw [ea, eb, g1]; clear g1 g2 g3; grind
    · rw [ea, eb, g2]; clear g1 g2 g3; grind
    · rw [ea, eb, g3]; clear g1 g2 g3; grind
  · obtain ⟨w, hw⟩ := fin_inv hp t ht
    refine ⟨(s * w).val, by have := (s * w).isLt; omega, ?_⟩
    have ea : em P (aj P (s * w).val) = s * w := by
      unfold aj
      rw [if_pos (s * w).isLt]
      show (@Int.cast (Fin P) Lean.Grind.Ring.intCast (((s * w).val : Nat) : Int)) = s * w
      rw [Lean.Grind.Ring.intCast_natCast]
      exact Fin.ext (Nat.mod_eq_of_lt (s * w).isLt)
    have eb : em P (bj P (s * w).val) = 1 := by unfold bj; rw [if_pos (s * w).isLt, em_1]
    refine kS_is hp hl t ?_ ?_ ?_
    · rw [ea, eb, g1]; clear g1 g2 g3 ea eb h; grind
    · rw [ea, eb, g2]; clear g1 g2 g3 ea eb h; grind
    · rw [ea, eb, g3]; clear g1 g2 g3 ea eb h; grind
theorem lj_inj {P k j j' : Nat} (hp : z_pr P = true) [NeZero P] (hk : k ≤ P * P + P) (hj : j < P + 1) (hj' : j' < P + 1) (h : lj P k j = lj P k j') : j = j' := by
  have h10 := fin_10 hp
  obtain ⟨c, w, hc, e1, e2⟩ := kS_eq hp (rs_ok hp hk) (ab_ne hp (j := j)) (ab_ne hp (j := j')) h
  by_cases q : j < P
  · by_cases q' : j' < P
    · have f1 : em P (bj P j) = 1 := by unfold bj; rw [if_pos q, em_1]
      have f2 : em P (bj P j') = 1 := by unfold bj; rw [if_pos q', em_1]
      rw [f1, f2] at e2
      have hc1 : c = 1 := by clear e1; grind
      rw [hc1] at e1
      have e3 : em P (aj P j) = em P (aj P j') := by rw [e1]; clear e1 e2; grind
      have e4 := el_inj (aj_el hp) (aj_el hp) e3
      unfold aj at e4
      rw [if_pos q, if_pos q'] at e4
      omega
    · have f1 : em P (bj P j) = 1 := by unfold bj; rw [if_pos q, em_1]
      have f2 : em P (bj P j') = 0 := by unfold bj; rw [if_neg q', em_0]
      rw [f1, f2] at e2
      exact absurd (by clear e1; grind) h10
  · by_cases q' : j' < P
    · have f1 : em P (bj P j) = 0 := by unfold bj; rw [if_neg q, em_0]
      have f2 : em P (bj P j') = 1 := by unfold bj; rw [if_pos q', em_1]
      rw [f1, f2] at e2
      exact absurd (by clear e1; grind) h10
    · omega
-- the form of a triple, its rank
theorem iv_1 {P : Nat} (hp : z_pr P = true) {x : Int} (hx : el P x) (h0 : x ≠ 0) : x * (iv P x.toNat : Nat) % P = 1 := by
  have := nz_of hp
  have hb := pr_rng hp
  refine el_inj (el_mod hp _) ⟨by omega, by omega⟩ ?_
  rw [em_mod, em_mul, em_iv hp hx h0, em_1]
theorem e_form9 {P : Nat} (hp : z_pr P = true) (f1 f2 f3 : Int32) {x y z : Int} (hx : el P x) (hy : el P y) (hz : el P z) (h : ¬ (x = 0 ∧ y = 0 ∧ z = 0)) :
    fX9_form f1 f2 f3 (iI P) (iI x) (iI y) (iI z) = some (iI (tx P (ky P x y z)), iI (ty P (ky P x y z)), iI (tz P (ky P x y z))) := by
  have hb := pr_rng hp
  have lt : ∀ v : Int, (v % P).toNat < P ∧ (((v % P).toNat : Nat) : Int) = v % P := fun v => by
    have h1 := (el_mod hp v).1; have h2 := (el_mod hp v).2; omega
  unfold fX9_form jX9_form_17 ky
  by_cases h0 : z = 0
  · rw [if_pos ((el_0 hp hz).mpr h0), if_pos h0]
    by_cases h1 : y = 0
    · have hx0 : x ≠ 0 := fun e => h ⟨e, h1, h0⟩
      obtain ⟨q1, q2, q3⟩ := t_3 (P := P)
      rw [if_pos ((el_0 hp hy).mpr h1), if_pos h1, e_bz hp hx hx, b1_s, e_bz hp hy hx, b1_s, e_bz hp hz hx, b1_s, q1, q2, q3, iv_1 hp hx hx0, h0, h1, Int.zero_mul, Int.zero_emod]
    · obtain ⟨a1, a2⟩ := lt (x * (iv P y.toNat : Nat))
      obtain ⟨q1, q2, q3⟩ := t_2 a1
      rw [if_neg (fun q => h1 ((el_0 hp hy).mp q)), if_neg h1, e_bz hp hx hy, b1_s, e_bz hp hy hy, b1_s, e_bz hp hz hy, b1_s, q1, q2, q3, a2, iv_1 hp hy h1, h0, Int.zero_mul, Int.zero_emod]
  · obtain ⟨a1, a2⟩ := lt (x * (iv P z.toNat : Nat))
    obtain ⟨b1, b2⟩ := lt (y * (iv P z.toNat : Nat))
    obtain ⟨-, q1, q2, q3⟩ := t_1 hp a1 b1
    rw [if_neg (fun q => h0 ((el_0 hp hz).mp q)), if_neg h0, e_bz hp hx hz, b1_s, e_bz hp hy hz, b1_s, e_bz hp hz hz, b1_s, q1, q2, q3, a2, b2, iv_1 hp hz h0]
theorem e_rank {P k : Nat} (hp : z_pr P = true) (hk : k ≤ P * P + P) : fX9_rank (iI P) (iI (tx P k)) (iI (ty P k)) (iI (tz P k)) = some (iI (k : Nat)) := by
  unfold fX9_rank
  rcases key_cases hp hk with ⟨a, b, ha, hb, ek, hlt, q1, q2, q3⟩ | ⟨a, ha, ek, q1, q2, q3⟩ | ⟨ek, q1, q2, q3⟩
  · rw [q1, q2, q3, if_pos (by rfl), nmul, nadd, ← ek]
  · rw [q1, q2, q3, if_neg (by decide), if_pos (by rfl), nmul, nadd, ← ek]
  · rw [q1, q2, q3, if_neg (by decide), if_neg (by decide), nmul, nadd, ← ek]
-- keys are told apart by their triples
theorem t_inj {P k k' : Nat} (hp : z_pr P = true) (hk : k ≤ P * P + P) (hk' : k' ≤ P * P + P) (h1 : tx P k = tx P k') (h2 : ty P k = ty P k') (h3 : tz P k = tz P k') : k = k' := by
  have := nz_of hp
  exact key_ne hp hk hk' 1 (by rw [h1]; grind) (by rw [h2]; grind) (by rw [h3]; grind)
