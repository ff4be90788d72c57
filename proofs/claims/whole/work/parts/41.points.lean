/-! the points of a form, in order: lists, and the reference's row of them -/
def onF (P : Nat) (m : Nat → Int) (k : Nat) : Bool := decide (qf P m (tx P k) (ty P k) (tz P k) = 0)
def ptl (P : Nat) (m : Nat → Int) (n : Nat) : List Nat := (List.range n).filter (onF P m)
theorem ptl_0 (P : Nat) (m : Nat → Int) : ptl P m 0 = [] := rfl
theorem ptl_s (P : Nat) (m : Nat → Int) (n : Nat) : ptl P m (n + 1) = ptl P m n ++ if onF P m n = true then [n] else [] := by
  unfold ptl
  rw [List.range_succ, List.filter_append]
  congr 1
  by_cases h : onF P m n = true
  · rw [if_pos h, List.filter_cons_of_pos h, List.filter_nil]
  · rw [if_neg h, List.filter_cons_of_neg h, List.filter_nil]
theorem ptl_mem {P : Nat} {m : Nat → Int} {n k : Nat} : k ∈ ptl P m n ↔ k < n ∧ onF P m k = true := by
  unfold ptl; rw [List.mem_filter, List.mem_range]
theorem ptl_sorted (P : Nat) (m : Nat → Int) (n : Nat) : (ptl P m n).Pairwise (· < ·) := List.Pairwise.filter _ List.pairwise_lt_range
theorem ptl_mono (P : Nat) (m : Nat → Int) {a b : Nat} (h : a ≤ b) : (ptl P m a).length ≤ (ptl P m b).length := by
  induction b with
  | zero => rw [show a = 0 by omega]; exact Nat.le_refl _
  | succ b ih =>
    rcases Nat.lt_or_ge b a with q | q
    · rw [show a = b + 1 by omega]; exact Nat.le_refl _
    · rw [ptl_s, List.length_append]; have := ih q; omega
theorem sorted_eq : ∀ (L1 L2 : List Nat), L1.Pairwise (· < ·) → L2.Pairwise (· < ·) → (∀ x, x ∈ L1 ↔ x ∈ L2) → L1 = L2 := by
  intro L1
  induction L1 with
  | nil =>
    intro L2 _ _ h
    cases L2 with
    | nil => rfl
    | cons a l => exact absurd ((h a).mpr List.mem_cons_self) List.not_mem_nil
  | cons a l ih =>
    intro L2 h1 h2 h
    cases L2 with
    | nil => exact absurd ((h a).mp List.mem_cons_self) List.not_mem_nil
    | cons b l2 =>
      obtain ⟨p1, p2⟩ := List.pairwise_cons.mp h1
      obtain ⟨q1, q2⟩ := List.pairwise_cons.mp h2
      have hab : a = b := by
        rcases List.mem_cons.mp ((h a).mp List.mem_cons_self) with e | e
        · exact e
        · rcases List.mem_cons.mp ((h b).mpr List.mem_cons_self) with e2 | e2
          · exact e2.symm
          · have := q1 a e; have := p1 b e2; omega
      subst hab
      congr 1
      refine ih l2 p2 q2 (fun x => ⟨fun hx => ?_, fun hx => ?_⟩)
      · rcases List.mem_cons.mp ((h x).mp (List.mem_cons_of_mem _ hx)) with e | e
        · have := p1 x hx; omega
        · exact e
      · rcases List.mem_cons.mp ((h x).mpr (List.mem_cons_of_mem _ hx)) with e | e
        · have := q1 x hx; omega
        · exact e
/-- a row holds a list -/
def hold (a : Nat → Int32) (L : List Int) : Prop := ∀ i, i < L.length → a i = iI (L.getD i 0)
theorem hold_0 (a : Nat → Int32) : hold a [] := fun i h => by simp at h
theorem hold_add {a : Nat → Int32} {L : List Int} (h : hold a L) (z : Int) : hold (upd a L.length (iI z)) (L ++ [z]) := by
  intro i hi
  rw [List.length_append, List.length_singleton] at hi
  by_cases hc : i = L.length
  · subst hc
    rw [pk_us, List.getD_eq_getElem?_getD, List.getElem?_append_right (Nat.le_refl _)]
    simp
  · rw [pk_un hc, h i (by omega), List.getD_eq_getElem?_getD, List.getD_eq_getElem?_getD, List.getElem?_append_left (by omega)]
theorem hold_at {a : Nat → Int32} {L : List Int} (h : hold a L) {i : Nat} {z : Int} (hz : L[i]? = some z) : a i = iI z := by
  have hl := (List.getElem?_eq_some_iff.mp hz).1
  rw [h i hl, List.getD_eq_getElem?_getD, hz]; rfl
theorem e_lp_j {P k : Nat} (hp : z_pr P = true) (hk : k ≤ P * P + P) (gv : Nat → Int32) (rec7 : Int32 → Int32 → (Nat → Int32) → (Nat → Int32) → (Nat → Int32) → Option (Int32 × (Nat → Int32) × (Nat → Int32) × (Nat → Int32))) (kk : Int32 → (Nat → Int32) → (Nat → Int32) → (Nat → Int32) → Option (Int32 × (Nat → Int32) × (Nat → Int32) × (Nat → Int32))) (c : Int32) (X Y Z : Nat → Int32) :
    FgX9_layPoints_7 (iI P) gv rec7 kk (iI (k : Nat)) c X Y Z = jX9_layPoints_147 (iI P) gv (iI (k : Nat)) c X Y Z rec7 (iI (tx P k)) (iI (ty P k)) (iI (tz P k)) := by
  have hb := pr_rng hp
  have hpp := pp_b hp
  unfold FgX9_layPoints_7 jX9_layPoints_82 jX9_layPoints_128
  simp only [iI_mul, ← Int.natCast_mul, iI_add, ← Int.natCast_add]
  rw [show (1 : Int32) = iI 1 from rfl]
  simp only [iI_add]
  rw [if_neg (by rw [iI_le (by omega) (by omega) (by omega) (by omega)]; omega)]
  rcases key_cases hp hk with ⟨a, b, ha, hb2, ek, hl, e1, e2, e3⟩ | ⟨a, ha, ek, e1, e2, e3⟩ | ⟨ek, e1, e2, e3⟩ <;> rw [e1, e2, e3]
  · have n1 : ¬ iI ((P * P : Nat) : Int) ≤ iI (k : Nat) := by rw [iI_le (by omega) (by omega) (by omega) (by omega)]; omega
    have q1 : k % P = a := by rw [ek, Nat.mul_comm, Nat.mul_add_mod, Nat.mod_eq_of_lt ha]
    have q2 : k / P = b := by rw [ek, Nat.mul_comm, Nat.mul_add_div (by omega), Nat.div_eq_of_lt ha, Nat.add_zero]
    simp only [if_neg n1]
    rw [rm_p (by omega) (by omega) (by omega) (by omega), b1_s, dv_p (by omega) (by omega) (by omega) (by omega), b1_s, ← Int.natCast_emod, ← Int.natCast_ediv, q1, q2]
  · have n1 : iI ((P * P : Nat) : Int) ≤ iI (k : Nat) := by rw [iI_le (by omega) (by omega) (by omega) (by omega)]; omega
    have n2 : ¬ iI ((P * P + P : Nat) : Int) ≤ iI (k : Nat) := by rw [iI_le (by omega) (by omega) (by omega) (by omega)]; omega
    simp only [if_pos n1, if_neg n2, iI_sub]
    rw [show (k : Int) - ((P * P : Nat) : Int) = (a : Int) by omega]; rfl
  · have n1 : iI ((P * P : Nat) : Int) ≤ iI (k : Nat) := by rw [iI_le (by omega) (by omega) (by omega) (by omega)]; omega
    have n2 : iI ((P * P + P : Nat) : Int) ≤ iI (k : Nat) := by rw [iI_le (by omega) (by omega) (by omega) (by omega)]; omega
    simp only [if_pos n1, if_pos n2]; rfl
theorem e_lay_points {P : Nat} (hp : z_pr P = true) {gv : Nat → Int32} {C : Nat → Int} (hC : rowF gv 0 C) (eC : elF P C) (hlen : (ptl P C (P * P + P + 1)).length ≤ 200) (c0 : Int32) (X Y Z : Nat → Int32) :
    ∃ X' Y' Z', hold X' ((ptl P C (P * P + P + 1)).map (tx P)) ∧ hold Y' ((ptl P C (P * P + P + 1)).map (ty P)) ∧ hold Z' ((ptl P C (P * P + P + 1)).map (tz P)) ∧
      fX9_layPoints (iI P) c0 gv X Y Z = some (iI ((ptl P C (P * P + P + 1)).length : Nat), X', Y', Z') := by
  have hb := pr_rng hp
  have hpp := pp_b hp
  unfold fX9_layPoints
  refine fn (fun n x b => gX9_layPoints_7 (iI P) gv kX9_layPoints_212 n (iI (x : Nat)) (iI ((ptl P C x).length : Nat)) b.1 b.2.1 b.2.2) (P * P + P + 1)
    (fun x (b : (Nat → Int32) × (Nat → Int32) × (Nat → Int32)) => hold b.1 ((ptl P C x).map (tx P)) ∧ hold b.2.1 ((ptl P C x).map (ty P)) ∧ hold b.2.2 ((ptl P C x).map (tz P)))
    (fun o => ∃ X' Y' Z', hold X' ((ptl P C (P * P + P + 1)).map (tx P)) ∧ hold Y' ((ptl P C (P * P + P + 1)).map (ty P)) ∧ hold Z' ((ptl P C (P * P + P + 1)).map (tz P)) ∧ o = some (iI ((ptl P C (P * P + P + 1)).length : Nat), X', Y', Z')) ?_ ?_ p_FU 0 (X, Y, Z) (by omega) ⟨hold_0 _, hold_0 _, hold_0 _⟩ (by have := FU_big; omega)
  · intro n b ⟨h1, h2, h3⟩
    refine ⟨b.1, b.2.1, b.2.2, h1, h2, h3, ?_⟩
    show FgX9_layPoints_7 (iI P) gv (gX9_layPoints_7 (iI P) gv kX9_layPoints_212 n) kX9_layPoints_212 (iI ((P * P + P + 1 : Nat) : Int)) _ b.1 b.2.1 b.2.2 = _
    unfold FgX9_layPoints_7
    rw [if_pos]
    · rfl
    · rw [iI_mul, iI_add, show (1 : Int32) = iI 1 from rfl, iI_add]; exact Int32.le_refl _
  · intro n x b hx ⟨h1, h2, h3⟩
    obtain ⟨ex, ey, ez⟩ := t_el hp (show x ≤ P * P + P by omega)
    have hlen2 := ptl_mono P C (show x + 1 ≤ P * P + P + 1 by omega)
    have e0 := e_both9 hp hC (n := 12) (by omega) (by omega) eC ex ey ez
    have e0 : fX9_both 12 (iI P) gv 0 (iI (tx P x)) (iI (ty P x)) (iI (tz P x)) = _ := e0
    by_cases ho : onF P C x = true
    · have hq : qf P C (tx P x) (ty P x) (tz P x) = 0 := by unfold onF at ho; exact of_decide_eq_true ho
      have es : ptl P C (x + 1) = ptl P C x ++ [x] := by rw [ptl_s, if_pos ho]
      rw [es, List.length_append, List.length_singleton] at hlen2
      refine ⟨(upd b.1 (ptl P C x).length (iI (tx P x)), upd b.2.1 (ptl P C x).length (iI (ty P x)), upd b.2.2 (ptl P C x).length (iI (tz P x))), ⟨?_, ?_, ?_⟩, ?_⟩
      · rw [es, List.map_append]; have := hold_add h1 (tx P x); rw [List.length_map] at this; exact this
      · rw [es, List.map_append]; have := hold_add h2 (ty P x); rw [List.length_map] at this; exact this
      · rw [es, List.map_append]; have := hold_add h3 (tz P x); rw [List.length_map] at this; exact this
      · show FgX9_layPoints_7 (iI P) gv (gX9_layPoints_7 (iI P) gv kX9_layPoints_212 n) kX9_layPoints_212 (iI ((x : Nat) : Int)) _ b.1 b.2.1 b.2.2 = _
        rw [e_lp_j hp (by omega)]
        unfold jX9_layPoints_147 jX9_layPoints_206
        rw [e0, b1_s, hq, if_pos (show iI 0 = 0 from rfl), st_t (by omega) (by omega) (by omega), b1_s, st_t (by omega) (by omega) (by omega), b1_s, st_t (by omega) (by omega) (by omega), b1_s, nm_s, nm_s, show (1 : Int32) = iI 1 from rfl, iI_add, iI_add, Int.toNat_natCast, es, List.length_append, List.length_singleton]
        rfl
    · have hq : qf P C (tx P x) (ty P x) (tz P x) ≠ 0 := fun h => ho (by unfold onF; exact decide_eq_true h)
      have es : ptl P C (x + 1) = ptl P C x := by rw [ptl_s, if_neg ho, List.append_nil]
      refine ⟨b, ⟨by rw [es]; exact h1, by rw [es]; exact h2, by rw [es]; exact h3⟩, ?_⟩
      show FgX9_layPoints_7 (iI P) gv (gX9_layPoints_7 (iI P) gv kX9_layPoints_212 n) kX9_layPoints_212 (iI ((x : Nat) : Int)) _ b.1 b.2.1 b.2.2 = _
      rw [e_lp_j hp (by omega)]
      unfold jX9_layPoints_147 jX9_layPoints_206
      rw [e0, b1_s, if_neg (fun h => hq ((el_0 hp (show el P (qf P C (tx P x) (ty P x) (tz P x)) from el_mod hp _)).mp h)), nm_s, show (1 : Int32) = iI 1 from rfl, iI_add, es]
      rfl
