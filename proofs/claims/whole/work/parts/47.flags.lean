/-! flags of the class: for each point the lines through it that touch -/
def inc (P l k : Nat) : Bool := decide ((tx P l * tx P k + ty P l * ty P k + tz P l * tz P k) % P = 0)
/-- the lines through a point that a form of lines takes to 0, in order -/
def lnk (P : Nat) (m : Nat → Int) (k : Nat) : List Nat := (List.range (P * P + P + 1)).filter (fun l => inc P k l && onF P m l)
theorem lnk_mem {P : Nat} {m : Nat → Int} {k l : Nat} : l ∈ lnk P m k ↔ l ≤ P * P + P ∧ onl P m k l := by
  unfold lnk onl inc onF
  rw [List.mem_filter, List.mem_range, Bool.and_eq_true, decide_eq_true_eq, decide_eq_true_eq]
  constructor
  · intro ⟨h1, h2⟩; exact ⟨by omega, h2⟩
  · intro ⟨h1, h2⟩; exact ⟨by omega, h2⟩
theorem lnk_sorted (P : Nat) (m : Nat → Int) (k : Nat) : (lnk P m k).Pairwise (· < ·) := List.Pairwise.filter _ List.pairwise_lt_range
theorem lnk_mets {P : Nat} {m : Nat → Int} {k cnt lo up : Nat} (h : Met2 P m k cnt lo up) : lnk P m k = mets cnt lo up :=
  sorted_eq _ _ (lnk_sorted P m k) (mets_sorted h) (fun l => by rw [lnk_mem, mets_onl h])
theorem mets_len {cnt lo up : Nat} (h : cnt ≤ 2) : (mets cnt lo up).length = cnt := by
  unfold mets
  rcases (show cnt = 0 ∨ cnt = 1 ∨ cnt = 2 by omega) with rfl | rfl | rfl <;> rfl
theorem lnk_2 {P : Nat} (hp : z_pr P = true) {m : Nat → Int} (hm : elF P m) (hd : dt P m ≠ 0) {k : Nat} (hk : k ≤ P * P + P) : (lnk P m k).length ≤ 2 := by
  have := nz_of hp
  obtain ⟨cnt, lo, up, h⟩ := met_ex hp hm hd hk
  rw [lnk_mets h, mets_len h.1]; exact h.1
def flg (P : Nat) (m : Nat → Int) (pts : List Nat) : Nat → List (Nat × Nat)
  | 0 => []
  | i + 1 => flg P m pts i ++ (lnk P m (pts.getD i 0)).map (fun l => (i, l))
theorem flg_len {P : Nat} (hp : z_pr P = true) {m : Nat → Int} (hm : elF P m) (hd : dt P m ≠ 0) {pts : List Nat} (hpt : ∀ k, k ∈ pts → k ≤ P * P + P) : ∀ i, i ≤ pts.length → (flg P m pts i).length ≤ 2 * i := by
  intro i
  induction i with
  | zero => intro _; exact Nat.le_refl _
  | succ i ih =>
    intro hi
    have h1 := ih (by omega)
    have hmem : pts.getD i 0 ∈ pts := by
      rw [List.getD_eq_getElem?_getD, List.getElem?_eq_getElem (show i < pts.length by omega)]; exact List.getElem_mem _
    have h2 := lnk_2 hp hm hd (hpt _ hmem)
    show (flg P m pts i ++ _).length ≤ _
    rw [List.length_append, List.length_map]; omega
def holdF (lines points : Nat → Int32) (F : List (Nat × Nat)) : Prop := hold lines (cz (F.map Prod.snd)) ∧ hold points (cz (F.map Prod.fst))
theorem holdF_add {lines points : Nat → Int32} {F : List (Nat × Nat)} (h : holdF lines points F) (i k : Nat) : holdF (upd lines F.length (iI (k : Nat))) (upd points F.length (iI (i : Nat))) (F ++ [(i, k)]) := by
  have h1 := hold_add h.1 (k : Int)
  have h2 := hold_add h.2 (i : Int)
  rw [cz_len, List.length_map] at h1 h2
  refine ⟨?_, ?_⟩
  · rw [List.map_append, cz_app]; exact h1
  · rw [List.map_append, cz_app]; exact h2
