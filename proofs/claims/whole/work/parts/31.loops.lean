/-! loops with fuel: a rule for all of them, and one that counts up -/
theorem wl {σ ρ : Type} (g : Nat → σ → Option ρ) (I : σ → Prop) (μ : σ → Nat) (Φ : Option ρ → Prop)
    (h : ∀ n s, I s → Φ (g (n + 1) s) ∨ ∃ s', I s' ∧ μ s' < μ s ∧ g (n + 1) s = g n s') : ∀ n s, I s → μ s < n → Φ (g n s) := by
  intro n
  induction n with
  | zero => intro s _ hm; omega
  | succ n ih =>
    intro s hI hm
    rcases h n s hI with h1 | ⟨s', h1, h2, h3⟩
    · exact h1
    · rw [h3]; exact ih s' h1 (by omega)
theorem fl {β ρ : Type} (g : Nat → Int → β → Option ρ) (e : Int) (I : Int → β → Prop) (Φ : Option ρ → Prop)
    (hx : ∀ n b, I e b → Φ (g (n + 1) e b)) (hs : ∀ n x b, x < e → I x b → ∃ b', I (x + 1) b' ∧ g (n + 1) x b = g n (x + 1) b') :
    ∀ n x b, x ≤ e → I x b → (e - x).toNat < n → Φ (g n x b) := by
  intro n x b hle hI hm
  refine wl (σ := Int × β) (fun n s => g n s.1 s.2) (fun s => s.1 ≤ e ∧ I s.1 s.2) (fun s => (e - s.1).toNat) Φ ?_ n (x, b) ⟨hle, hI⟩ hm
  intro n s ⟨h1, h2⟩
  rcases Int.lt_or_eq_of_le h1 with h | h
  · obtain ⟨b', h3, h4⟩ := hs n s.1 s.2 h h2
    exact Or.inr ⟨(s.1 + 1, b'), ⟨by show s.1 + 1 ≤ e; omega, h3⟩, by show (e - (s.1 + 1)).toNat < (e - s.1).toNat; omega, h4⟩
  · left
    have := hx n s.2 (by rw [← h]; exact h2)
    rw [← h] at this; exact this
theorem FU_big : 100000 ≤ p_FU := Nat.le_refl _
-- the primes, inverses and roots, by the kernel's own reckoning
def z_pr (P : Nat) : Bool := decide (5 ≤ P) && decide (P ≤ 199) && (List.range P).all (fun d => decide (d < 2) || decide (P % d ≠ 0))
theorem pr_up0 : ∀ q, q < 200 → ∀ d, d < 16 → decide (5 ≤ q) && decide (q < d * d) && (List.range d).all (fun c => decide (c < 2) || decide (q % c ≠ 0)) = true → z_pr q = true := by decide +kernel
theorem pr_up (q : Nat) (h1 : q < 200) (h2 : 5 ≤ q) (d : Nat) (h3 : d < 16) (h4 : q < d * d) (h5 : ∀ c, c < d → 2 ≤ c → ¬ q % c = 0) : z_pr q = true := by
  refine pr_up0 q h1 d h3 ?_
  simp only [Bool.and_eq_true, decide_eq_true_eq, List.all_eq_true, List.mem_range, Bool.or_eq_true]
  exact ⟨⟨h2, h4⟩, fun c hc => by
    rcases Nat.lt_or_ge c 2 with h | h
    · exact Or.inl h
    · exact Or.inr (h5 c hc h)⟩
theorem pr_no : ∀ q, q < 200 → ∀ d, d < 16 → 2 ≤ d → d * d ≤ q → q % d = 0 → z_pr q = false := by decide +kernel
theorem pr_inv : ∀ P, P < 200 → z_pr P = true → ∀ y, y < P → 0 < y → y * (y ^ (P - 2) % P) % P = 1 := by decide +kernel
theorem pr_sq : ∀ P, P < 200 → z_pr P = true → ∀ r, r < P / 2 + 1 → ∀ q, q < r → ¬ q * q % P = r * r % P := by decide +kernel
theorem pr_rng {P : Nat} (h : z_pr P = true) : 5 ≤ P ∧ P ≤ 199 := by
  unfold z_pr at h
  simp only [Bool.and_eq_true, decide_eq_true_eq] at h
  exact h.1
theorem pr_odd : ∀ P, P < 200 → z_pr P = true → P % 2 = 1 ∧ P % 3 ≠ 0 := by decide +kernel
/-- the inverse -/
def iv (P x : Nat) : Nat := x ^ (P - 2) % P
/-- the lesser root, or -6 -/
def rtk (P x n : Nat) : Int := match (List.range n).find? (fun r => r * r % P == x) with
  | some r => (r : Int)
  | none => -6
def rt (P x : Nat) : Int := rtk P x (P / 2 + 1)
theorem rtk_0 (P x : Nat) : rtk P x 0 = -6 := rfl
theorem rtk_s (P x n : Nat) : rtk P x (n + 1) = if 0 ≤ rtk P x n then rtk P x n else if n * n % P = x then (n : Int) else -6 := by
  unfold rtk
  rw [List.range_succ, List.find?_append]
  cases h : (List.range n).find? (fun r => r * r % P == x) with
  | some r => simp
  | none =>
    by_cases hc : n * n % P = x
    · simp [hc]
    · simp [hc]
theorem rtk_range (P x n : Nat) : rtk P x n = -6 ∨ ∃ r : Nat, r < n ∧ r * r % P = x ∧ rtk P x n = (r : Int) := by
  unfold rtk
  cases h : (List.range n).find? (fun r => r * r % P == x) with
  | none => exact Or.inl rfl
  | some r =>
    refine Or.inr ⟨r, ?_, ?_, rfl⟩
    · exact List.mem_range.mp (List.mem_of_find?_eq_some h)
    · have := List.find?_some h; simpa using this
theorem rtk_none {P x n : Nat} (h : rtk P x n = -6) : ∀ r, r < n → ¬ r * r % P = x := by
  unfold rtk at h
  cases hf : (List.range n).find? (fun r => r * r % P == x) with
  | some r => rw [hf] at h; simp at h
  | none =>
    intro r hr
    have := List.find?_eq_none.mp hf r (List.mem_range.mpr hr)
    simpa using this
