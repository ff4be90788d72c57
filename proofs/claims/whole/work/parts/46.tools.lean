/-! short rows for numbers that aren't negative -/
theorem nlt {a b : Nat} (ha : a < 2147483648) (hb : b < 2147483648) : iI (a : Nat) < iI (b : Nat) ↔ a < b := by
  rw [iI_lt (by omega) (by omega) (by omega) (by omega)]; omega
theorem nle {a b : Nat} (ha : a < 2147483648) (hb : b < 2147483648) : iI (a : Nat) ≤ iI (b : Nat) ↔ a ≤ b := by
  rw [iI_le (by omega) (by omega) (by omega) (by omega)]; omega
theorem neq {a b : Nat} (ha : a < 2147483648) (hb : b < 2147483648) : iI (a : Nat) = iI (b : Nat) ↔ a = b := by
  rw [iI_eq (by omega) (by omega) (by omega) (by omega)]; omega
theorem neq0 {a : Nat} (ha : a < 2147483648) : iI (a : Nat) = 0 ↔ a = 0 := by
  rw [show (0 : Int32) = iI ((0 : Nat) : Int) from rfl, neq ha (by omega)]
theorem n1 (a : Nat) : iI (a : Nat) + 1 = iI ((a + 1 : Nat) : Int) := by rw [show (1 : Int32) = iI 1 from rfl, iI_add]; rfl
theorem nadd (a b : Nat) : iI (a : Nat) + iI (b : Nat) = iI ((a + b : Nat) : Int) := by rw [iI_add]; rfl
theorem nmul (a b : Nat) : iI (a : Nat) * iI (b : Nat) = iI ((a * b : Nat) : Int) := by rw [iI_mul]; rfl
theorem nsub {a b : Nat} (h : b ≤ a) : iI (a : Nat) - iI (b : Nat) = iI ((a - b : Nat) : Int) := by rw [iI_sub, Int.ofNat_sub h]
theorem nm1 {a : Nat} (h : 1 ≤ a) : iI (a : Nat) - 1 = iI ((a - 1 : Nat) : Int) := by rw [show (1 : Int32) = iI ((1 : Nat) : Int) from rfl, nsub h]
theorem nm1' {a : Nat} (h : 1 ≤ a) : iI (a : Nat) + (-1) = iI ((a - 1 : Nat) : Int) := by
  rw [show (-1 : Int32) = iI (-1) from rfl, iI_add]; congr 1; omega
theorem nld {f : Nat → Int32} {n i : Nat} (h : i < n) (hn : n < 2147483648) : p_ld f n (iI (i : Nat)) = some (f i) := by
  rw [ld_t (by omega) (by omega) hn, Int.toNat_natCast]
theorem nst {f : Nat → Int32} {n i : Nat} {x : Int32} (h : i < n) (hn : n < 2147483648) : p_st f n (iI (i : Nat)) x = some (upd f i x) := by
  rw [st_t (by omega) (by omega) hn, Int.toNat_natCast]
theorem nrm {a b : Nat} (ha : a < 2147483648) (hb : 0 < b) (hb2 : b < 2147483648) : p_rm (iI (a : Nat)) (iI (b : Nat)) = some (iI ((a % b : Nat) : Int)) := by
  rw [rm_p (by omega) (by omega) (by omega) (by omega)]; rfl
theorem ndv {a b : Nat} (ha : a < 2147483648) (hb : 0 < b) (hb2 : b < 2147483648) : p_dv (iI (a : Nat)) (iI (b : Nat)) = some (iI ((a / b : Nat) : Int)) := by
  rw [dv_p (by omega) (by omega) (by omega) (by omega)]; rfl
theorem getD_mem {L : List Nat} {i : Nat} (h : i < L.length) : L.getD i 0 ∈ L := by
  rw [List.getD_eq_getElem?_getD, List.getElem?_eq_getElem h]; exact List.getElem_mem h
theorem hold_cz {a : Nat → Int32} {L : List Nat} (h : hold a (cz L)) {i : Nat} (hi : i < L.length) : a i = iI (L.getD i 0 : Nat) := by
  refine hold_at h (i := i) ?_
  unfold cz
  rw [List.getElem?_map, List.getElem?_eq_getElem hi, List.getD_eq_getElem?_getD, List.getElem?_eq_getElem hi]
  rfl
theorem hold_map {α : Type} {a : Nat → Int32} {L : List α} {g : α → Int} (h : hold a (L.map g)) {i : Nat} (d : α) (hi : i < L.length) : a i = iI (g (L.getD i d)) := by
  refine hold_at h (i := i) ?_
  rw [List.getElem?_map, List.getElem?_eq_getElem hi, List.getD_eq_getElem?_getD, List.getElem?_eq_getElem hi]
  rfl
theorem sorted_lt {L : List Nat} (h : L.Pairwise (· < ·)) {i j : Nat} (hij : i < j) (hj : j < L.length) : L.getD i 0 < L.getD j 0 := by
  rw [List.getD_eq_getElem?_getD, List.getD_eq_getElem?_getD, List.getElem?_eq_getElem (show i < L.length by omega), List.getElem?_eq_getElem hj]
  exact List.pairwise_iff_getElem.mp h i j (by omega) hj hij
theorem sorted_sub {L M : List Nat} (hL : L.Pairwise (· < ·)) (hM : M.Pairwise (· < ·)) (h : ∀ x, x ∈ L → x ∈ M) : L.length ≤ M.length := by
  have e : L = M.filter (fun x => decide (x ∈ L)) := by
    refine sorted_eq _ _ hL (List.Pairwise.filter _ hM) (fun x => ?_)
    rw [List.mem_filter, decide_eq_true_eq]
    exact ⟨fun q => ⟨h x q, q⟩, fun q => q.2⟩
  rw [e]; exact List.length_filter_le _ _
theorem mem_getD {L : List Nat} {x : Nat} (h : x ∈ L) : ∃ i, i < L.length ∧ L.getD i 0 = x := by
  obtain ⟨i, hi, e⟩ := List.getElem_of_mem h
  refine ⟨i, hi, ?_⟩
  rw [List.getD_eq_getElem?_getD, List.getElem?_eq_getElem hi]; exact e
