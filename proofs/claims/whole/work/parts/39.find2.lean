def vs (P : Nat) (S E : Nat → Int) (s t : Int) (i : Nat) : Int := (s * S i + t * E i) % P
def kS (P : Nat) (S E : Nat → Int) (s t : Int) : Nat := ky P (vs P S E s t 0) (vs P S E s t 1) (vs P S E s t 2)
theorem vs_el {P : Nat} (hp : z_pr P = true) (S E : Nat → Int) (s t : Int) (i : Nat) : el P (vs P S E s t i) := el_mod hp _
theorem em_vs {P : Nat} [NeZero P] (S E : Nat → Int) (s t : Int) (i : Nat) : em P (vs P S E s t i) = em P s * em P (S i) + em P t * em P (E i) := by
  unfold vs
  rw [em_mod, em_add, em_mul, em_mul]
def onl (P : Nat) (m : Nat → Int) (l k : Nat) : Prop := (tx P l * tx P k + ty P l * ty P k + tz P l * tz P k) % P = 0 ∧ qf P m (tx P k) (ty P k) (tz P k) = 0
def Met2 (P : Nat) (m : Nat → Int) (l cnt lo up : Nat) : Prop := cnt ≤ 2 ∧ (1 ≤ cnt → lo ≤ P * P + P ∧ up ≤ P * P + P) ∧ (cnt = 1 → lo = up) ∧ (cnt = 2 → lo < up) ∧ ∀ k, k ≤ P * P + P → (onl P m l k ↔ (1 ≤ cnt ∧ k = lo) ∨ (cnt = 2 ∧ k = up))
theorem onl_em {P : Nat} (hp : z_pr P = true) [NeZero P] (m : Nat → Int) (l k : Nat) : onl P m l k ↔ em P (tx P l) * em P (tx P k) + em P (ty P l) * em P (ty P k) + em P (tz P l) * em P (tz P k) = 0 ∧ rq m (em P (tx P k)) (em P (ty P k)) (em P (tz P k)) (em P (tx P k)) (em P (ty P k)) (em P (tz P k)) = 0 := by
  unfold onl
  rw [← em_z, em_add, em_add, em_mul, em_mul, em_mul, ← em_qb]
  rw [show qb P m (tx P k) (ty P k) (tz P k) (tx P k) (ty P k) (tz P k) = qf P m (tx P k) (ty P k) (tz P k) from rfl, el_em0 (show el P (qf P m (tx P k) (ty P k) (tz P k)) from el_mod hp _)]
/-- the triple s S + t E isn't nought -/
theorem vs_ne {P l : Nat} (hp : z_pr P = true) [NeZero P] {S E : Nat → Int} (hO : SpanOK P l S E) {s t : Int} (h : ¬ (em P s = 0 ∧ em P t = 0)) : ¬ (vs P S E s t 0 = 0 ∧ vs P S E s t 1 = 0 ∧ vs P S E s t 2 = 0) := by
  intro ⟨h0, h1, h2⟩
  obtain ⟨-, -, -, hi, -⟩ := hO
  refine h (hi _ _ ?_ ?_ ?_)
  · rw [← em_vs, h0, em_0]
  · rw [← em_vs, h1, em_0]
  · rw [← em_vs, h2, em_0]
theorem kS_on {P l : Nat} (hp : z_pr P = true) [NeZero P] {S E : Nat → Int} (hO : SpanOK P l S E) (m : Nat → Int) {s t : Int} (h : ¬ (em P s = 0 ∧ em P t = 0))
    (hq : rq m (em P (S 0)) (em P (S 1)) (em P (S 2)) (em P (S 0)) (em P (S 1)) (em P (S 2)) * em P s * em P s + 2 * rq m (em P (S 0)) (em P (S 1)) (em P (S 2)) (em P (E 0)) (em P (E 1)) (em P (E 2)) * em P s * em P t + rq m (em P (E 0)) (em P (E 1)) (em P (E 2)) (em P (E 0)) (em P (E 1)) (em P (E 2)) * em P t * em P t = 0) :
    onl P m l (kS P S E s t) := by
  obtain ⟨c, w, -, e1, e2, e3⟩ := ky_sp hp (vs_el hp S E s t 0) (vs_el hp S E s t 1) (vs_el hp S E s t 2) (vs_ne hp hO h)
  rw [onl_em hp]
  unfold kS
  rw [e1, e2, e3, em_vs, em_vs, em_vs]
  obtain ⟨i1, i2, -, -, -⟩ := hO
  refine ⟨?_, ?_⟩
  · grind
  · rw [rq_sc, rq_lin, hq]; grind
theorem kS_is {P k : Nat} (hp : z_pr P = true) [NeZero P] (hk : k ≤ P * P + P) {S E : Nat → Int} {s t : Int} (c : Fin P)
    (e1 : em P (tx P k) = c * em P s * em P (S 0) + c * em P t * em P (E 0)) (e2 : em P (ty P k) = c * em P s * em P (S 1) + c * em P t * em P (E 1)) (e3 : em P (tz P k) = c * em P s * em P (S 2) + c * em P t * em P (E 2)) : kS P S E s t = k := by
  refine ky_uniq hp hk (vs_el hp S E s t 0) (vs_el hp S E s t 1) (vs_el hp S E s t 2) c ?_ ?_ ?_
  · rw [em_vs, e1]; grind
  · rw [em_vs, e2]; grind
  · rw [em_vs, e3]; grind
/-- one key for two triples: they are alike -/
theorem kS_eq {P l : Nat} (hp : z_pr P = true) [NeZero P] {S E : Nat → Int} (hO : SpanOK P l S E) {s t s' t' : Int} (h : ¬ (em P s = 0 ∧ em P t = 0)) (h' : ¬ (em P s' = 0 ∧ em P t' = 0)) (he : kS P S E s t = kS P S E s' t') :
    ∃ c w : Fin P, c * w = 1 ∧ em P s = c * em P s' ∧ em P t = c * em P t' := by
  obtain ⟨c, w, hc, e1, e2, e3⟩ := ky_sp hp (vs_el hp S E s t 0) (vs_el hp S E s t 1) (vs_el hp S E s t 2) (vs_ne hp hO h)
  obtain ⟨c', w', hc', e1', e2', e3'⟩ := ky_sp hp (vs_el hp S E s' t' 0) (vs_el hp S E s' t' 1) (vs_el hp S E s' t' 2) (vs_ne hp hO h')
  have he2 : ky P (vs P S E s t 0) (vs P S E s t 1) (vs P S E s t 2) = ky P (vs P S E s' t' 0) (vs P S E s' t' 1) (vs P S E s' t' 2) := he
  rw [he2, e1'] at e1; rw [he2, e2'] at e2; rw [he2, e3'] at e3
  simp only [em_vs] at e1 e2 e3
  obtain ⟨-, -, -, hi, -⟩ := hO
  obtain ⟨q1, q2⟩ := hi (c * em P s - c' * em P s') (c * em P t - c' * em P t') (by grind) (by grind) (by grind)
  exact ⟨w * c', c * w', by grind, by grind, by grind⟩
theorem e_put {P : Nat} (hp : z_pr P = true) {inv roots : Nat → Int32} (hN : NumOK P inv roots) {S E : Nat → Int} (hS : ∀ i, el P (S i)) (hE : ∀ i, el P (E i)) {s t : Int} (hs : bd s 400) (ht : bd t 400) (cnt lo up f1 f2 f3 : Int32) :
    fX3_put cnt lo up (iI P) inv (iI (E 0)) (iI (E 1)) (iI (E 2)) f1 f2 f3 (iI (S 0)) (iI (S 1)) (iI (S 2)) (iI s) (iI t) = if cnt = 0 then some (cnt + 1, iI (kS P S E s t : Nat), iI (kS P S E s t : Nat), iI (vs P S E s t 0), iI (vs P S E s t 1), iI (vs P S E s t 2))
      else if lo ≤ iI (kS P S E s t : Nat) then some (cnt + 1, lo, iI (kS P S E s t : Nat), iI (vs P S E s t 0), iI (vs P S E s t 1), iI (vs P S E s t 2)) else some (cnt + 1, iI (kS P S E s t : Nat), up, iI (vs P S E s t 0), iI (vs P S E s t 1), iI (vs P S E s t 2)) := by
  have q : ∀ i, bd (s * S i + t * E i) (400 * 198 + 400 * 198) := fun i => bd_add (bd_mul hs (bd_el hp (hS i))) (bd_mul ht (bd_el hp (hE i)))
  unfold fX3_put fX7_takeSum
  simp only [iI_mul, iI_add]
  rw [e_rb hp (q 0) (by decide), b1_s, e_rb hp (q 1) (by decide), b1_s, e_rb hp (q 2) (by decide), b1_s, b3_s]
  have ek := e_key hp hN (vs_el hp S E s t 0) (vs_el hp S E s t 1) (vs_el hp S E s t 2)
  unfold vs at ek
  rw [ek, b1_s]
  rfl
