/-! what a row of flags is like -/
def kp (F : List (Nat × Nat)) (f : Nat) : Nat := (F.getD f (0, 0)).1
def kl (F : List (Nat × Nat)) (f : Nat) : Nat := (F.getD f (0, 0)).2
theorem flg_s (P : Nat) (m : Nat → Int) (pts : List Nat) (i : Nat) : flg P m pts (i + 1) = flg P m pts i ++ (lnk P m (pts.getD i 0)).map (fun l => (i, l)) := rfl
theorem flg_sl (P : Nat) (m : Nat → Int) (pts : List Nat) (i : Nat) : (flg P m pts (i + 1)).length = (flg P m pts i).length + (lnk P m (pts.getD i 0)).length := by
  rw [flg_s, List.length_append, List.length_map]
theorem flg_pre (P : Nat) (m : Nat → Int) (pts : List Nat) {i n : Nat} (h : i ≤ n) : ∃ R, flg P m pts n = flg P m pts i ++ R := by
  induction n with
  | zero => exact ⟨[], by rw [show i = 0 by omega, List.append_nil]⟩
  | succ n ih =>
    by_cases c : i = n + 1
    · exact ⟨[], by rw [c, List.append_nil]⟩
    · obtain ⟨R, hR⟩ := ih (by omega)
      exact ⟨R ++ (lnk P m (pts.getD n 0)).map (fun l => (n, l)), by rw [flg_s, hR, List.append_assoc]⟩
theorem flg_at {P : Nat} {m : Nat → Int} {pts : List Nat} {i j n : Nat} (hi : i < n) (hj : j < (lnk P m (pts.getD i 0)).length) : (flg P m pts i).length + j < (flg P m pts n).length ∧ kp (flg P m pts n) ((flg P m pts i).length + j) = i ∧ kl (flg P m pts n) ((flg P m pts i).length + j) = (lnk P m (pts.getD i 0)).getD j 0 := by
  obtain ⟨R, hR⟩ := flg_pre P m pts (show i + 1 ≤ n from hi)
  rw [flg_s] at hR
  have e : (flg P m pts n).getD ((flg P m pts i).length + j) (0, 0) = (i, (lnk P m (pts.getD i 0)).getD j 0) := by
    generalize lnk P m (pts.getD i 0) = L at hj hR ⊢
    rw [List.getD_eq_getElem?_getD, hR, List.append_assoc, List.getElem?_append_right (by omega), Nat.add_sub_cancel_left, List.getElem?_append_left (by rw [List.length_map]; exact hj), List.getElem?_map, List.getElem?_eq_getElem hj, List.getD_eq_getElem?_getD, List.getElem?_eq_getElem hj]
    rfl
  refine ⟨?_, ?_, ?_⟩
  · rw [hR, List.length_append, List.length_append, List.length_map]; omega
  · unfold kp; rw [e]
  · unfold kl; rw [e]
theorem flg_loc {P : Nat} {m : Nat → Int} {pts : List Nat} {n f : Nat} (hf : f < (flg P m pts n).length) : ∃ i j, i < n ∧ j < (lnk P m (pts.getD i 0)).length ∧ f = (flg P m pts i).length + j := by
  induction n with
  | zero => exact absurd hf (Nat.not_lt_zero _)
  | succ n ih =>
    rw [flg_sl] at hf
    by_cases c : f < (flg P m pts n).length
    · obtain ⟨i, j, h1, h2, h3⟩ := ih c
      exact ⟨i, j, by omega, h2, h3⟩
    · exact ⟨n, f - (flg P m pts n).length, by omega, by omega, by omega⟩
/-- the points of an outer form and the flags with a form of lines -/
def PtsOK (P : Nat) (C : Nat → Int) (pts : List Nat) : Prop := pts.Pairwise (· < ·) ∧ ∀ k, k ∈ pts ↔ k ≤ P * P + P ∧ onF P C k = true
theorem pts_ok (P : Nat) (C : Nat → Int) : PtsOK P C (ptl P C (P * P + P + 1)) := ⟨ptl_sorted P C _, fun k => by rw [ptl_mem]; constructor <;> intro h <;> exact ⟨by have := h.1; omega, h.2⟩⟩
theorem pts_inj {pts : List Nat} (h : pts.Pairwise (· < ·)) {i j : Nat} (hi : i < pts.length) (hj : j < pts.length) (e : pts.getD i 0 = pts.getD j 0) : i = j := by
  rcases Nat.lt_trichotomy i j with q | q | q
  · have := sorted_lt h q hj; omega
  · exact q
  · have := sorted_lt h q hi; omega
theorem fl_pt {P : Nat} {m : Nat → Int} {pts : List Nat} {f : Nat} (hf : f < (flg P m pts pts.length).length) : kp (flg P m pts pts.length) f < pts.length ∧ kl (flg P m pts pts.length) f ∈ lnk P m (pts.getD (kp (flg P m pts pts.length) f) 0) := by
  obtain ⟨i, j, h1, h2, h3⟩ := flg_loc hf
  obtain ⟨-, a2, a3⟩ := flg_at (n := pts.length) h1 h2
  rw [← h3] at a2 a3
  rw [a2, a3]
  exact ⟨h1, getD_mem h2⟩
theorem fl_ex {P : Nat} {m : Nat → Int} {pts : List Nat} {i l : Nat} (hi : i < pts.length) (hl : l ∈ lnk P m (pts.getD i 0)) : ∃ f, f < (flg P m pts pts.length).length ∧ kp (flg P m pts pts.length) f = i ∧ kl (flg P m pts pts.length) f = l := by
  obtain ⟨j, h1, h2⟩ := mem_getD hl
  obtain ⟨a1, a2, a3⟩ := flg_at (n := pts.length) hi h1
  exact ⟨_, a1, a2, by rw [a3, h2]⟩
theorem fl_inj {P : Nat} {m : Nat → Int} {pts : List Nat} {f g : Nat} (hf : f < (flg P m pts pts.length).length) (hg : g < (flg P m pts pts.length).length) (h1 : kp (flg P m pts pts.length) f = kp (flg P m pts pts.length) g) (h2 : kl (flg P m pts pts.length) f = kl (flg P m pts pts.length) g) : f = g := by
  obtain ⟨i, j, a1, a2, a3⟩ := flg_loc hf
  obtain ⟨i', j', b1, b2, b3⟩ := flg_loc hg
  obtain ⟨-, a5, a6⟩ := flg_at (n := pts.length) a1 a2
  obtain ⟨-, b5, b6⟩ := flg_at (n := pts.length) b1 b2
  rw [← a3] at a5 a6
  rw [← b3] at b5 b6
  have ei : i = i' := by rw [← a5, ← b5]; exact h1
  subst ei
  have ej : j = j' := pts_inj (lnk_sorted P m _) a2 b2 (by rw [← a6, ← b6]; exact h2)
  rw [a3, b3, ej]
/-- the flags of a point lie together -/
theorem fl_seg {P : Nat} {m : Nat → Int} {pts : List Nat} {f i : Nat} (hf : f < (flg P m pts pts.length).length) (hi : i < pts.length) : kp (flg P m pts pts.length) f = i ↔ (flg P m pts i).length ≤ f ∧ f < (flg P m pts (i + 1)).length := by
  constructor
  · intro e
    obtain ⟨i', j, a1, a2, a3⟩ := flg_loc hf
    obtain ⟨-, a5, -⟩ := flg_at (n := pts.length) a1 a2
    rw [← a3, e] at a5
    subst a5
    rw [flg_sl]; omega
  · intro ⟨h1, h2⟩
    rw [flg_sl] at h2
    obtain ⟨-, a5, -⟩ := flg_at (P := P) (m := m) (pts := pts) (i := i) (n := pts.length) (j := f - (flg P m pts i).length) hi (by omega)
    rw [show (flg P m pts i).length + (f - (flg P m pts i).length) = f by omega] at a5
    exact a5
theorem inc_sym {P : Nat} {a b : Nat} (h : (tx P a * tx P b + ty P a * ty P b + tz P a * tz P b) % P = 0) : (tx P b * tx P a + ty P b * ty P a + tz P b * tz P a) % P = 0 := by
  rw [Int.mul_comm (tx P b), Int.mul_comm (ty P b), Int.mul_comm (tz P b)]; exact h
theorem fl_two_p {P : Nat} (hp : z_pr P = true) {m : Nat → Int} (hm : elF P m) (hd : dt P m ≠ 0) {pts : List Nat} (hpt : ∀ k, k ∈ pts → k ≤ P * P + P) : two (flg P m pts pts.length).length (kp (flg P m pts pts.length)) := by
  have := nz_of hp
  intro a b c ha hb hc h1 h2
  obtain ⟨a1, a2⟩ := fl_pt ha
  obtain ⟨b1, b2⟩ := fl_pt hb
  obtain ⟨c1, c2⟩ := fl_pt hc
  have hk := hpt _ (getD_mem a1)
  rw [← h1] at b2
  rw [← h2, ← h1] at c2
  obtain ⟨a3, a4⟩ := lnk_mem.mp a2
  obtain ⟨b3, b4⟩ := lnk_mem.mp b2
  obtain ⟨c3, c4⟩ := lnk_mem.mp c2
  rcases three hp hm hd hk a3 b3 c3 a4 b4 c4 with e | e | e
  · exact Or.inl (fl_inj ha hb h1 e)
  · exact Or.inr (Or.inr (fl_inj ha hc (h1.trans h2) e))
  · exact Or.inr (Or.inl (fl_inj hb hc h2 e))
/-- a point of a flag lies on its line -/
theorem fl_on {P : Nat} {C m : Nat → Int} {pts : List Nat} (hP : PtsOK P C pts) {f : Nat} (hf : f < (flg P m pts pts.length).length) : kl (flg P m pts pts.length) f ≤ P * P + P ∧ onF P m (kl (flg P m pts pts.length) f) = true ∧ pts.getD (kp (flg P m pts pts.length) f) 0 ≤ P * P + P ∧ onl P C (kl (flg P m pts pts.length) f) (pts.getD (kp (flg P m pts pts.length) f) 0) := by
  obtain ⟨a1, a2⟩ := fl_pt hf
  obtain ⟨a3, a4⟩ := lnk_mem.mp a2
  obtain ⟨k1, k2⟩ := (hP.2 _).mp (getD_mem a1)
  refine ⟨a3, onl_onF a4, k1, inc_sym a4.1, ?_⟩
  unfold onF at k2
  exact of_decide_eq_true k2
theorem fl_two_l {P : Nat} (hp : z_pr P = true) {C m : Nat → Int} (hC : elF P C) (hd : dt P C ≠ 0) {pts : List Nat} (hP : PtsOK P C pts) : two (flg P m pts pts.length).length (kl (flg P m pts pts.length)) := by
  have := nz_of hp
  intro a b c ha hb hc h1 h2
  obtain ⟨a1, a2, a3, a4⟩ := fl_on hP ha
  obtain ⟨b1, b2, b3, b4⟩ := fl_on hP hb
  obtain ⟨c1, c2, c3, c4⟩ := fl_on hP hc
  obtain ⟨a5, -⟩ := fl_pt ha
  obtain ⟨b5, -⟩ := fl_pt hb
  obtain ⟨c5, -⟩ := fl_pt hc
  rw [← h1] at b4
  rw [← h2, ← h1] at c4
  rcases three hp hC hd a1 a3 b3 c3 a4 b4 c4 with e | e | e
  · exact Or.inl (fl_inj ha hb (pts_inj hP.1 a5 b5 e) h1)
  · exact Or.inr (Or.inr (fl_inj ha hc (pts_inj hP.1 a5 c5 e) (h1.trans h2)))
  · exact Or.inr (Or.inl (fl_inj hb hc (pts_inj hP.1 b5 c5 e) h2))
/-- a flag for a point of the outer form on the line of a flag -/
theorem fl_other {P : Nat} {C m : Nat → Int} {pts : List Nat} (hP : PtsOK P C pts) {f q : Nat} (hf : f < (flg P m pts pts.length).length) (hq : q < pts.length) (ho : onl P C (kl (flg P m pts pts.length) f) (pts.getD q 0)) : ∃ f', f' < (flg P m pts pts.length).length ∧ kp (flg P m pts pts.length) f' = q ∧ kl (flg P m pts pts.length) f' = kl (flg P m pts pts.length) f := by
  obtain ⟨a1, a2, a3, a4⟩ := fl_on hP hf
  refine fl_ex hq (lnk_mem.mpr ⟨a1, inc_sym ho.1, ?_⟩)
  unfold onF at a2
  exact of_decide_eq_true a2
/-- what a step is -/
theorem nx_is {P : Nat} (hp : z_pr P = true) {C m : Nat → Int} (hC : elF P C) (hdC : dt P C ≠ 0) (hm : elF P m) (hdm : dt P m ≠ 0) {pts : List Nat} (hP : PtsOK P C pts) {f q g : Nat} (hf : f < (flg P m pts pts.length).length) (hq : q < pts.length) (ho : onl P C (kl (flg P m pts pts.length) f) (pts.getD q 0))
    (hs : q ≠ kp (flg P m pts pts.length) f ∨ ∀ i, i < pts.length → onl P C (kl (flg P m pts pts.length) f) (pts.getD i 0) → i = kp (flg P m pts pts.length) f) (hg : g < (flg P m pts pts.length).length) (hgq : kp (flg P m pts pts.length) g = q)
    (hgl : kl (flg P m pts pts.length) g ≠ kl (flg P m pts pts.length) f ∨ ∀ h, h < (flg P m pts pts.length).length → kp (flg P m pts pts.length) h = q → kl (flg P m pts pts.length) h = kl (flg P m pts pts.length) f) :
    nx (flg P m pts pts.length).length (kp (flg P m pts pts.length)) (kl (flg P m pts pts.length)) f = g := by
  have hpt : ∀ k, k ∈ pts → k ≤ P * P + P := fun k hk => ((hP.2 k).mp hk).1
  have t1 := fl_two_p hp hm hdm hpt
  have t2 := fl_two_l hp (m := m) hC hdC hP
  obtain ⟨f', b1, b2, b3⟩ := fl_other hP hf hq ho
  have e1 : sw (flg P m pts pts.length).length (kl (flg P m pts pts.length)) f = f' := by
    refine sw_uniq t2 hf b1 b3 ?_
    rcases hs with hs | hs
    · left; intro e; rw [e] at b2; exact hs b2.symm
    · right
      intro h hh hk
      obtain ⟨c5, -⟩ := fl_pt hh
      obtain ⟨-, -, -, c4⟩ := fl_on hP hh
      rw [hk] at c4
      exact fl_inj hh hf (hs _ c5 c4) hk
  unfold nx
  rw [e1]
  refine sw_uniq t1 b1 hg (by rw [hgq, b2]) ?_
  rcases hgl with hgl | hgl
  · left; intro e; rw [e] at hgl; exact hgl b3
  · right
    intro h hh hk
    rw [b2] at hk
    exact fl_inj hh b1 (by rw [hk, b2]) (by rw [b3]; exact hgl h hh hk)
