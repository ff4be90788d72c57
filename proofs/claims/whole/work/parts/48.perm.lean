/-! swaps, steps, rings: numbers alone -/
/-- the other number with the same key, or itself -/
def sw (n : Nat) (key : Nat → Nat) (f : Nat) : Nat := ((List.range n).find? (fun g => decide (g ≠ f) && decide (key g = key f))).getD f
def two (n : Nat) (key : Nat → Nat) : Prop := ∀ a b c, a < n → b < n → c < n → key a = key b → key b = key c → a = b ∨ b = c ∨ a = c
theorem sw_cases {n : Nat} {key : Nat → Nat} (f : Nat) : (sw n key f < n ∧ sw n key f ≠ f ∧ key (sw n key f) = key f) ∨ (sw n key f = f ∧ ∀ g, g < n → key g = key f → g = f) := by
  unfold sw
  cases h : (List.range n).find? (fun g => decide (g ≠ f) && decide (key g = key f)) with
  | some g =>
    left
    have h1 := List.mem_range.mp (List.mem_of_find?_eq_some h)
    have h2 := List.find?_some h
    simp only [Bool.and_eq_true, decide_eq_true_eq] at h2
    exact ⟨h1, h2.1, h2.2⟩
  | none =>
    right
    refine ⟨rfl, fun g hg hk => ?_⟩
    have := List.find?_eq_none.mp h g (List.mem_range.mpr hg)
    simp only [Bool.and_eq_true, decide_eq_true_eq, not_and] at this
    by_cases e : g = f
    · exact e
    · exact absurd hk (this e)
theorem sw_lt {n : Nat} {key : Nat → Nat} {f : Nat} (hf : f < n) : sw n key f < n := by
  rcases sw_cases (n := n) (key := key) f with h | h
  · exact h.1
  · rw [h.1]; exact hf
theorem sw_key {n : Nat} {key : Nat → Nat} (f : Nat) : key (sw n key f) = key f := by
  rcases sw_cases (n := n) (key := key) f with h | h
  · exact h.2.2
  · rw [h.1]
theorem sw_sw {n : Nat} {key : Nat → Nat} (h2 : two n key) {f : Nat} (hf : f < n) : sw n key (sw n key f) = f := by
  have hs := sw_lt (key := key) hf
  rcases sw_cases (n := n) (key := key) f with ⟨a1, a2, a3⟩ | ⟨a1, a2⟩
  · rcases sw_cases (n := n) (key := key) (sw n key f) with ⟨b1, b2, b3⟩ | ⟨b1, b2⟩
    · rcases h2 f (sw n key f) (sw n key (sw n key f)) hf hs b1 a3.symm b3.symm with e | e | e
      · exact absurd e.symm a2
      · exact absurd e.symm b2
      · exact e.symm
    · rw [b1]; exact (b2 f hf a3.symm).symm
  · rw [a1, a1]
theorem sw_uniq {n : Nat} {key : Nat → Nat} (h2 : two n key) {f g : Nat} (hf : f < n) (hg : g < n) (hk : key g = key f) (h : g ≠ f ∨ ∀ q, q < n → key q = key f → q = f) : sw n key f = g := by
  rcases sw_cases (n := n) (key := key) f with ⟨a1, a2, a3⟩ | ⟨a1, a2⟩
  · rcases h with h | h
    · rcases h2 f (sw n key f) g hf a1 hg a3.symm (a3.trans hk.symm) with e | e | e
      · exact absurd e.symm a2
      · exact e
      · exact absurd e.symm h
    · exact absurd (h _ a1 a3) a2
  · rw [a1]; exact (a2 g hg hk).symm
def nx (n : Nat) (kp kl : Nat → Nat) (f : Nat) : Nat := sw n kp (sw n kl f)
theorem nx_lt {n : Nat} {kp kl : Nat → Nat} {f : Nat} (hf : f < n) : nx n kp kl f < n := sw_lt (sw_lt hf)
theorem nx_inj {n : Nat} {kp kl : Nat → Nat} (hp2 : two n kp) (hl2 : two n kl) {f g : Nat} (hf : f < n) (hg : g < n) (h : nx n kp kl f = nx n kp kl g) : f = g := by
  unfold nx at h
  have h1 : sw n kl f = sw n kl g := by
    rw [← sw_sw hp2 (sw_lt (key := kl) hf), h, sw_sw hp2 (sw_lt (key := kl) hg)]
  rw [← sw_sw hl2 hf, h1, sw_sw hl2 hg]
theorem nx_sur {n : Nat} {kp kl : Nat → Nat} (hp2 : two n kp) (hl2 : two n kl) {f : Nat} (hf : f < n) : ∃ g, g < n ∧ nx n kp kl g = f := by
  refine ⟨sw n kl (sw n kp f), sw_lt (sw_lt hf), ?_⟩
  unfold nx
  rw [sw_sw hl2 (sw_lt (key := kp) hf), sw_sw hp2 hf]
-- going on
def it (s : Nat → Nat) : Nat → Nat → Nat
  | 0, f => f
  | k + 1, f => s (it s k f)
def Per (n : Nat) (s : Nat → Nat) : Prop := (∀ f, f < n → s f < n) ∧ ∀ f g, f < n → g < n → s f = s g → f = g
theorem it_lt {n : Nat} {s : Nat → Nat} (h : Per n s) {f : Nat} (hf : f < n) (k : Nat) : it s k f < n := by
  induction k with
  | zero => exact hf
  | succ k ih => exact h.1 _ ih
theorem it_add (s : Nat → Nat) (a b f : Nat) : it s (a + b) f = it s a (it s b f) := by
  induction a with
  | zero => rw [Nat.zero_add]; rfl
  | succ a ih =>
    rw [show a + 1 + b = (a + b) + 1 by omega]
    show s (it s (a + b) f) = s (it s a (it s b f))
    rw [ih]
theorem it_inj {n : Nat} {s : Nat → Nat} (h : Per n s) {f g : Nat} (hf : f < n) (hg : g < n) (k : Nat) (e : it s k f = it s k g) : f = g := by
  induction k with
  | zero => exact e
  | succ k ih => exact ih (h.2 _ _ (it_lt h hf k) (it_lt h hg k) e)
def isRg (s : Nat → Nat) (f r : Nat) : Prop := 1 ≤ r ∧ it s r f = f ∧ ∀ k, 1 ≤ k → k < r → it s k f ≠ f
theorem rg_uniq {s : Nat → Nat} {f r r' : Nat} (h : isRg s f r) (h' : isRg s f r') : r = r' := by
  rcases Nat.lt_trichotomy r r' with q | q | q
  · exact absurd h.2.1 (h'.2.2 r h.1 q)
  · exact q
  · exact absurd h'.2.1 (h.2.2 r' h'.1 q)
theorem least_ex {p : Nat → Prop} : ∀ n, (∃ k, k ≤ n ∧ p k) → ∃ k, k ≤ n ∧ p k ∧ ∀ j, j < k → ¬ p j := by
  intro n
  induction n with
  | zero =>
    intro ⟨k, hk, h⟩
    exact ⟨k, hk, h, fun j hj => by omega⟩
  | succ n ih =>
    intro ⟨k, hk, h⟩
    by_cases c : ∃ k, k ≤ n ∧ p k
    · obtain ⟨k, q1, q2, q3⟩ := ih c
      exact ⟨k, by omega, q2, q3⟩
    · refine ⟨k, hk, h, fun j hj hp => c ⟨j, by omega, hp⟩⟩
theorem rg_ex {n : Nat} {s : Nat → Nat} (h : Per n s) {f : Nat} (hf : f < n) : ∃ r, r ≤ n ∧ isRg s f r := by
  have c : ∃ k, k ≤ n ∧ (1 ≤ k ∧ it s k f = f) := by
    by_cases c : ∃ i j, i < j ∧ j < n + 1 ∧ it s i f = it s j f
    · obtain ⟨i, j, h1, h2, h3⟩ := c
      refine ⟨j - i, by omega, by omega, ?_⟩
      rw [show j = i + (j - i) by omega, it_add] at h3
      exact (it_inj h hf (it_lt h hf _) i h3).symm
    · have := holes (n + 1) n (fun i => it s i f) (fun i _ => it_lt h hf i) (fun i j h1 h2 h3 => c ⟨i, j, h1, h2, h3⟩)
      omega
  obtain ⟨r, h1, ⟨h2, h3⟩, h4⟩ := least_ex n c
  exact ⟨r, h1, h2, h3, fun k q1 q2 e => h4 k q2 ⟨q1, e⟩⟩
theorem it_mul {s : Nat → Nat} {f r : Nat} (h : it s r f = f) (q : Nat) : it s (q * r) f = f := by
  induction q with
  | zero => rw [Nat.zero_mul]; rfl
  | succ q ih => rw [Nat.add_mul, Nat.one_mul, it_add, h, ih]
theorem it_mod {s : Nat → Nat} {f r : Nat} (h : isRg s f r) (k : Nat) : it s (k % r) f = it s k f := by
  have e : k = k % r + (k / r) * r := by rw [Nat.mul_comm]; exact (Nat.mod_add_div k r).symm
  rw [show it s k f = it s (k % r + (k / r) * r) f by rw [← e], it_add, it_mul h.2.1]
theorem rg_it {n : Nat} {s : Nat → Nat} (hs : Per n s) {f r : Nat} (hf : f < n) (h : isRg s f r) (j : Nat) : isRg s (it s j f) r := by
  refine ⟨h.1, ?_, fun k h1 h2 e => ?_⟩
  · rw [← it_add, Nat.add_comm, it_add, h.2.1]
  · rw [← it_add, Nat.add_comm, it_add] at e
    exact h.2.2 k h1 h2 (it_inj hs (it_lt hs hf k) hf j e)
theorem rg_dist {n : Nat} {s : Nat → Nat} (hs : Per n s) {f r : Nat} (hf : f < n) (h : isRg s f r) {i j : Nat} (hij : i < j) (hj : j < r) : it s i f ≠ it s j f := by
  intro e
  rw [show j = i + (j - i) by omega, it_add] at e
  exact h.2.2 (j - i) (by omega) (by omega) (it_inj hs hf (it_lt hs hf _) i e).symm
/-- back again -/
theorem it_back {n : Nat} {s : Nat → Nat} (hs : Per n s) {f : Nat} (hf : f < n) (k : Nat) : ∃ j, it s j (it s k f) = f := by
  obtain ⟨r, -, h⟩ := rg_ex hs hf
  refine ⟨r * k - k + (r - r), ?_⟩
  rw [Nat.sub_self, Nat.add_zero, ← it_add, Nat.sub_add_cancel (by have := Nat.mul_le_mul_right k h.1; omega), Nat.mul_comm, it_mul h.2.1]
/-- the least of its ring -/
def lst (s : Nat → Nat) (n f : Nat) : Bool := (List.range n).all (fun k => decide (f ≤ it s k f))
theorem lst_iff {n : Nat} {s : Nat → Nat} (hs : Per n s) {f : Nat} (hf : f < n) : lst s n f = true ↔ ∀ k, f ≤ it s k f := by
  unfold lst
  rw [List.all_eq_true]
  constructor
  · intro h k
    obtain ⟨r, h1, h2⟩ := rg_ex hs hf
    rw [← it_mod h2]
    have := Nat.mod_lt k (show r > 0 by have := h2.1; omega)
    exact of_decide_eq_true (h (k % r) (List.mem_range.mpr (by omega)))
  · intro h k _
    exact decide_eq_true (h k)
