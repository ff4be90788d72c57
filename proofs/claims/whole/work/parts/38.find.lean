/-! Meeting.find: the points of a line that a form takes to 0 -/
def rq {P : Nat} [NeZero P] (m : Nat → Int) (x y z u v w : Fin P) : Fin P := x * (em P (m 0) * u + em P (m 5) * v + em P (m 4) * w) + y * (em P (m 5) * u + em P (m 1) * v + em P (m 3) * w) + z * (em P (m 4) * u + em P (m 3) * v + em P (m 2) * w)
theorem em_qb {P : Nat} [NeZero P] (m : Nat → Int) (x y z u v w : Int) : em P (qb P m x y z u v w) = rq m (em P x) (em P y) (em P z) (em P u) (em P v) (em P w) := by
  unfold qb sd0 sd1 sd2 rq
  simp only [em_mod, em_add, em_mul]
theorem rq_lin {P : Nat} [NeZero P] (m : Nat → Int) (s t a0 a1 a2 b0 b1 b2 : Fin P) : rq m (s * a0 + t * b0) (s * a1 + t * b1) (s * a2 + t * b2) (s * a0 + t * b0) (s * a1 + t * b1) (s * a2 + t * b2) = rq m a0 a1 a2 a0 a1 a2 * s * s + 2 * rq m a0 a1 a2 b0 b1 b2 * s * t + rq m b0 b1 b2 b0 b1 b2 * t * t := by
  unfold rq
  grind
theorem rq_sc {P : Nat} [NeZero P] (m : Nat → Int) (l x y z : Fin P) : rq m (l * x) (l * y) (l * z) (l * x) (l * y) (l * z) = l * l * rq m x y z x y z := by
  unfold rq
  grind
def rdt {P : Nat} [NeZero P] (m : Nat → Int) : Fin P := em P (m 0) * (em P (m 1) * em P (m 2) - em P (m 3) * em P (m 3)) + em P (m 5) * (em P (m 3) * em P (m 4) - em P (m 2) * em P (m 5)) + em P (m 4) * (em P (m 3) * em P (m 5) - em P (m 1) * em P (m 4))
theorem em_dt {P : Nat} [NeZero P] (m : Nat → Int) : em P (dt P m) = rdt m := by
  unfold dt rdt
  simp only [em_mod, em_add, em_mul, em_sub]
/-- two triples that span a line -/
def SpanOK (P : Nat) [NeZero P] (l : Nat) (S E : Nat → Int) : Prop :=
  (em P (tx P l) * em P (S 0) + em P (ty P l) * em P (S 1) + em P (tz P l) * em P (S 2) = 0) ∧ (em P (tx P l) * em P (E 0) + em P (ty P l) * em P (E 1) + em P (tz P l) * em P (E 2) = 0) ∧
  (∀ x y z : Fin P, em P (tx P l) * x + em P (ty P l) * y + em P (tz P l) * z = 0 → ∃ s t : Fin P, x = s * em P (S 0) + t * em P (E 0) ∧ y = s * em P (S 1) + t * em P (E 1) ∧ z = s * em P (S 2) + t * em P (E 2)) ∧
  (∀ s t : Fin P, s * em P (S 0) + t * em P (E 0) = 0 → s * em P (S 1) + t * em P (E 1) = 0 → s * em P (S 2) + t * em P (E 2) = 0 → s = 0 ∧ t = 0) ∧
  (∀ m : Nat → Int, rq m (em P (S 0)) (em P (S 1)) (em P (S 2)) (em P (S 0)) (em P (S 1)) (em P (S 2)) = 0 → rq m (em P (S 0)) (em P (S 1)) (em P (S 2)) (em P (E 0)) (em P (E 1)) (em P (E 2)) = 0 → rq m (em P (E 0)) (em P (E 1)) (em P (E 2)) (em P (E 0)) (em P (E 1)) (em P (E 2)) = 0 → rdt (P := P) m = 0)
theorem e_ttake {P : Nat} (hp : z_pr P = true) (t1 t2 t3 : Int32) {z1 z2 z3 : Int} {B : Nat} (h1 : bd z1 B) (h2 : bd z2 B) (h3 : bd z3 B) (hB : B < 2147483648) : fX7_take t1 t2 t3 (iI P) (iI z1) (iI z2) (iI z3) = some (iI (z1 % P), iI (z2 % P), iI (z3 % P)) := by
  unfold fX7_take
  rw [e_rb hp h1 hB, b1_s, e_rb hp h2 hB, b1_s, e_rb hp h3 hB, b1_s]
def v3 (P : Nat) (a b c : Int) : Nat → Int
  | 0 => a % P
  | 1 => b % P
  | _ => c % P
theorem v3_el {P : Nat} (hp : z_pr P = true) (a b c : Int) (i : Nat) : el P (v3 P a b c i) := by
  match i with
  | 0 => exact el_mod hp _
  | 1 => exact el_mod hp _
  | i + 2 => exact el_mod hp _
theorem b9_s {α1 α2 α3 α4 α5 α6 α7 α8 α9 δ : Type} (a : α1) (b : α2) (c : α3) (d : α4) (e : α5) (f : α6) (g : α7) (h : α8) (i : α9) (k : α1 → α2 → α3 → α4 → α5 → α6 → α7 → α8 → α9 → Option δ) : p_b9 (some (a, b, c, d, e, f, g, h, i)) k = k a b c d e f g h i := rfl
theorem e_span {P l : Nat} (hp : z_pr P = true) [NeZero P] (hl : l ≤ P * P + P) (t1 t2 t3 t4 t5 t6 t7 t8 t9 : Int32) :
    ∃ S E : Nat → Int, (∀ i, el P (S i)) ∧ (∀ i, el P (E i)) ∧ SpanOK P l S E ∧ fX3_span (iI P) t1 t2 t3 t4 t5 t6 t7 t8 t9 (iI (l : Nat)) = some (iI (E 0), iI (E 1), iI (E 2), iI (tx P l), iI (ty P l), iI (tz P l), iI (S 0), iI (S 1), iI (S 2)) := by
  obtain ⟨ex, ey, ez⟩ := t_el hp hl
  unfold fX3_span
  rw [e_tkey hp hl, b3_s]
  have b0 := bd_lit 0
  have b1 := bd_lit 1
  have w0 : bd (OfNat.ofNat 0) 198 := Nat.le_trans b0 (by omega)
  have w1 : bd (OfNat.ofNat 1) 198 := Nat.le_trans b1 (by omega)
  have bx := bd_neg (bd_el hp ex)
  have by_ := bd_neg (bd_el hp ey)
  have T : ∀ (t1 t2 t3 : Int32) {z1 z2 z3 : Int}, bd z1 198 → bd z2 198 → bd z3 198 → fX7_take t1 t2 t3 (iI P) (iI z1) (iI z2) (iI z3) = some (iI (v3 P z1 z2 z3 0), iI (v3 P z1 z2 z3 1), iI (v3 P z1 z2 z3 2)) := fun t1 t2 t3 {z1 z2 z3} h1 h2 h3 => e_ttake hp t1 t2 t3 h1 h2 h3 (by decide)
  rcases key_cases hp hl with ⟨a, b, ha, hb, ek, hlt, q1, q2, q3⟩ | ⟨a, ha, ek, q1, q2, q3⟩ | ⟨ek, q1, q2, q3⟩
  · refine ⟨v3 P 1 0 (-(tx P l)), v3 P 0 1 (-(ty P l)), v3_el hp _ _ _, v3_el hp _ _ _, ?_, ?_⟩
    · refine ⟨?_, ?_, ?_, ?_, ?_⟩
      · rw [q3]; simp only [v3, em_mod, em_neg, em_0, em_1]; grind
      · rw [q3]; simp only [v3, em_mod, em_neg, em_0, em_1]; grind
      · intro x y z h
        rw [q3, em_1] at h
        refine ⟨x, y, ?_, ?_, ?_⟩ <;> simp only [v3, em_mod, em_neg, em_0, em_1] <;> grind
      · intro s t h1 h2 _
        simp only [v3, em_mod, em_neg, em_0, em_1] at h1 h2
        exact ⟨by grind, by grind⟩
      · intro m h1 h2 h3
        unfold rq at h1 h2 h3
        unfold rdt
        simp only [v3, em_mod, em_neg, em_0, em_1] at h1 h2 h3
        grind
    · rw [q3, if_neg (by decide), show (1 : Int32) = iI 1 from rfl, show (0 : Int32) = iI 0 from rfl, iI_neg, iI_neg, T _ _ _ w1 w0 bx, b3_s, T _ _ _ w0 w1 by_, b3_s]
  · refine ⟨v3 P 1 (-(tx P l)) 0, v3 P 0 0 1, v3_el hp _ _ _, v3_el hp _ _ _, ?_, ?_⟩
    · refine ⟨?_, ?_, ?_, ?_, ?_⟩
      · rw [q2, q3]; simp only [v3, em_mod, em_neg, em_0, em_1]; grind
      · rw [q2, q3]; simp only [v3, em_mod, em_neg, em_0, em_1]; grind
      · intro x y z h
        rw [q2, q3, em_1, em_0] at h
        refine ⟨x, z, ?_, ?_, ?_⟩ <;> simp only [v3, em_mod, em_neg, em_0, em_1] <;> grind
      · intro s t h1 _ h3
        simp only [v3, em_mod, em_neg, em_0, em_1] at h1 h3
        exact ⟨by grind, by grind⟩
      · intro m h1 h2 h3
        unfold rq at h1 h2 h3
        unfold rdt
        simp only [v3, em_mod, em_neg, em_0, em_1] at h1 h2 h3
        grind
    · rw [q2, q3, if_pos (by decide), if_neg (by decide), show (1 : Int32) = iI 1 from rfl, show (0 : Int32) = iI 0 from rfl, iI_neg, T _ _ _ w1 bx w0, b3_s, T _ _ _ w0 w0 w1, b3_s]
  · refine ⟨v3 P 0 1 0, v3 P 0 0 1, v3_el hp _ _ _, v3_el hp _ _ _, ?_, ?_⟩
    · refine ⟨?_, ?_, ?_, ?_, ?_⟩
      · rw [q1, q2, q3]; simp only [v3, em_mod, em_neg, em_0, em_1]; grind
      · rw [q1, q2, q3]; simp only [v3, em_mod, em_neg, em_0, em_1]; grind
      · intro x y z h
        rw [q1, q2, q3, em_1, em_0] at h
        refine ⟨y, z, ?_, ?_, ?_⟩ <;> simp only [v3, em_mod, em_neg, em_0, em_1] <;> grind
      · intro s t _ h2 h3
        simp only [v3, em_mod, em_neg, em_0, em_1] at h2 h3
        exact ⟨by grind, by grind⟩
      · intro m h1 h2 h3
        unfold rq at h1 h2 h3
        unfold rdt
        simp only [v3, em_mod, em_neg, em_0, em_1] at h1 h2 h3
        grind
    · rw [q2, q3, if_pos (by decide), if_pos (by decide), show (1 : Int32) = iI 1 from rfl, show (0 : Int32) = iI 0 from rfl, T _ _ _ w0 w1 w0, b3_s, T _ _ _ w0 w0 w1, b3_s]
