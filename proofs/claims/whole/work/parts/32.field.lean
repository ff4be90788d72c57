/-! the field: tables of the class, powers and roots of the reference -/
theorem fn {β ρ : Type} (g : Nat → Nat → β → Option ρ) (e : Nat) (I : Nat → β → Prop) (Φ : Option ρ → Prop)
    (hx : ∀ n b, I e b → Φ (g (n + 1) e b)) (hs : ∀ n x b, x < e → I x b → ∃ b', I (x + 1) b' ∧ g (n + 1) x b = g n (x + 1) b') :
    ∀ n x b, x ≤ e → I x b → e - x < n → Φ (g n x b) := by
  intro n x b hle hI hm
  refine wl (σ := Nat × β) (fun n s => g n s.1 s.2) (fun s => s.1 ≤ e ∧ I s.1 s.2) (fun s => e - s.1) Φ ?_ n (x, b) ⟨hle, hI⟩ hm
  intro n s ⟨h1, h2⟩
  rcases Nat.lt_or_eq_of_le h1 with h | h
  · obtain ⟨b', h3, h4⟩ := hs n s.1 s.2 h h2
    exact Or.inr ⟨(s.1 + 1, b'), ⟨h, h3⟩, by show e - (s.1 + 1) < e - s.1; omega, h4⟩
  · left
    have := hx n s.2 (by rw [← h]; exact h2)
    rw [← h] at this; exact this
def NumOK (P : Nat) (inv roots : Nat → Int32) : Prop := (∀ x, 0 < x → x < P → inv x = iI (iv P x : Nat)) ∧ ∀ x, x < P → roots x = iI (rt P x)
theorem pr_iv : ∀ P, P < 200 → z_pr P = true → ∀ x, x < P → 2 ≤ x → P - (P / x * iv P (P % x)) % P = iv P x ∧ 0 < P % x := by decide +kernel
theorem pr_iv1 : ∀ P, P < 200 → z_pr P = true → iv P 1 = 1 := by decide +kernel
theorem iv_lt {P x : Nat} (h : 0 < P) : iv P x < P := Nat.mod_lt _ h
theorem tk3 {P : Nat} (hp : z_pr P = true) (w : Nat → Int32) (z : Nat → Int32) (hz : ∀ x, x < P → z x = iI (-6)) :
    ∃ roots, (∀ x, x < P → roots x = iI (rt P x)) ∧ gX4_take_88 (iI P) (kX4_take_118 (iI P) w) p_FU 0 z = some (iI P, w, roots) := by
  obtain ⟨hp1, hp2⟩ := pr_rng hp
  refine fn (fun n x b => gX4_take_88 (iI P) (kX4_take_118 (iI P) w) n (iI (x : Nat)) b) (P / 2 + 1) (fun r z => ∀ x, x < P → z x = iI (rtk P x r))
    (fun o => ∃ roots, (∀ x, x < P → roots x = iI (rt P x)) ∧ o = some (iI P, w, roots)) ?_ ?_ p_FU 0 z (by omega) hz (by have := FU_big; omega)
  · intro n b hb
    refine ⟨b, hb, ?_⟩
    show FgX4_take_88 (iI P) (gX4_take_88 (iI P) (kX4_take_118 (iI P) w) n) (kX4_take_118 (iI P) w) (iI ((P / 2 + 1 : Nat) : Int)) b = _
    unfold FgX4_take_88
    rw [show (2 : Int32) = iI 2 from rfl, dv_p (by omega) (by omega) (by omega) (by omega), b1_s, if_pos]
    · rfl
    · rw [iI_lt (by omega) (by omega) (by omega) (by omega)]; omega
  · intro n r b hr hb
    refine ⟨upd b (r * r % P) (iI (r : Nat)), ?_, ?_⟩
    · intro x hx
      rw [rtk_s]
      by_cases hc : r * r % P = x
      · subst hc
        rcases rtk_range P (r * r % P) r with h | ⟨q, h1, h2, h3⟩
        · rw [h, if_neg (by omega), if_pos rfl, pk_us]
        · exact absurd h2 (pr_sq P (by omega) hp r hr q h1)
      · rw [pk_un (fun e => hc e.symm), hb x hx, if_neg hc]
        rcases rtk_range P x r with h | ⟨q, h1, h2, h3⟩
        · rw [h, if_neg (by omega)]
        · rw [h3, if_pos (by omega)]
    · show FgX4_take_88 (iI P) (gX4_take_88 (iI P) (kX4_take_118 (iI P) w) n) (kX4_take_118 (iI P) w) (iI ((r : Nat) : Int)) b = _
      unfold FgX4_take_88
      have hr2 : r ≤ 99 := by omega
      have hrr : r * r ≤ 99 * 99 := Nat.mul_le_mul hr2 hr2
      have hmod := Nat.mod_lt (r * r) (show 0 < P by omega)
      rw [show (2 : Int32) = iI 2 from rfl, dv_p (by omega) (by omega) (by omega) (by omega), b1_s, if_neg, iI_mul, ← Int.natCast_mul, rm_p (by omega) (by omega) (by omega) (by omega), b1_s, ← Int.natCast_emod,
        st_t (by omega) (by omega) (by omega), b1_s, nm_s, show (1 : Int32) = iI 1 from rfl, iI_add, Int.toNat_natCast]
      · rfl
      · rw [iI_lt (by omega) (by omega) (by omega) (by omega)]; omega
theorem tk2 {P : Nat} (hp : z_pr P = true) (w : Nat → Int32) (z : Nat → Int32) :
    ∃ roots, (∀ x, x < P → roots x = iI (rt P x)) ∧ gX4_take_64 (iI P) (kX4_take_86 (iI P) w) p_FU 0 z = some (iI P, w, roots) := by
  obtain ⟨hp1, hp2⟩ := pr_rng hp
  refine fn (fun n x b => gX4_take_64 (iI P) (kX4_take_86 (iI P) w) n (iI (x : Nat)) b) P (fun r z => ∀ x, x < r → z x = iI (-6))
    (fun o => ∃ roots, (∀ x, x < P → roots x = iI (rt P x)) ∧ o = some (iI P, w, roots)) ?_ ?_ p_FU 0 z (by omega) (fun x hx => by omega) (by have := FU_big; omega)
  · intro n b hb
    obtain ⟨roots, h1, h2⟩ := tk3 hp w b hb
    refine ⟨roots, h1, ?_⟩
    show FgX4_take_64 (iI P) (gX4_take_64 (iI P) (kX4_take_86 (iI P) w) n) (kX4_take_86 (iI P) w) (iI ((P : Nat) : Int)) b = _
    unfold FgX4_take_64
    rw [if_pos (Int32.le_refl _)]
    exact h2
  · intro n r b hr hb
    refine ⟨upd b r (iI (-6)), ?_, ?_⟩
    · intro x hx
      by_cases hc : x = r
      · subst hc; exact pk_us
      · rw [pk_un hc]; exact hb x (by omega)
    · show FgX4_take_64 (iI P) (gX4_take_64 (iI P) (kX4_take_86 (iI P) w) n) (kX4_take_86 (iI P) w) (iI ((r : Nat) : Int)) b = _
      unfold FgX4_take_64
      rw [if_neg, st_t (by omega) (by omega) (by omega), b1_s, nm_s, show (1 : Int32) = iI 1 from rfl, iI_add, Int.toNat_natCast]
      · rfl
      · rw [iI_le (by omega) (by omega) (by omega) (by omega)]; omega
theorem e_take {P : Nat} (hp : z_pr P = true) (p0 : Int32) (inv roots : Nat → Int32) : ∃ inv' roots', NumOK P inv' roots' ∧ fX4_take p0 inv roots (iI P) = some (iI P, inv', roots') := by
  obtain ⟨hp1, hp2⟩ := pr_rng hp
  unfold fX4_take
  rw [show p_st inv 200 1 1 = some (upd inv 1 (iI 1)) from st_t (z := 1) (by omega) (by omega) (by omega), b1_s]
  refine fn (fun n x b => gX4_take_14 (iI P) (kX4_take_62 roots (iI P)) n (iI (x : Nat)) b) P (fun r z => 2 ≤ r ∧ ∀ x, 0 < x → x < r → z x = iI (iv P x : Nat))
    (fun o => ∃ inv' roots', NumOK P inv' roots' ∧ o = some (iI P, inv', roots')) ?_ ?_ p_FU 2 (upd inv 1 (iI 1)) (by omega) ⟨by omega, fun x h1 h2 => ?_⟩ (by have := FU_big; omega)
  · intro n b ⟨_, hb⟩
    obtain ⟨roots', h1, h2⟩ := tk2 hp b roots
    refine ⟨b, roots', ⟨hb, h1⟩, ?_⟩
    show FgX4_take_14 (iI P) (gX4_take_14 (iI P) (kX4_take_62 roots (iI P)) n) (kX4_take_62 roots (iI P)) (iI ((P : Nat) : Int)) b = _
    unfold FgX4_take_14
    rw [if_pos (Int32.le_refl _)]
    exact h2
  · intro n r b hr ⟨h2, hb⟩
    obtain ⟨e1, e2⟩ := pr_iv P (by omega) hp r hr h2
    have hm := Nat.mod_lt P (show 0 < r by omega)
    have hq : P / r ≤ P := Nat.div_le_self P r
    have hi : iv P (P % r) < P := iv_lt (by omega)
    have hpr : P / r * iv P (P % r) ≤ 199 * 199 := Nat.mul_le_mul (by omega) (by omega)
    have hmm := Nat.mod_lt (P / r * iv P (P % r)) (show 0 < P by omega)
    refine ⟨upd b r (iI (iv P r : Nat)), ⟨by omega, ?_⟩, ?_⟩
    · intro x h1 h3
      by_cases hc : x = r
      · subst hc; exact pk_us
      · rw [pk_un hc]; exact hb x h1 (by omega)
    · show FgX4_take_14 (iI P) (gX4_take_14 (iI P) (kX4_take_62 roots (iI P)) n) (kX4_take_62 roots (iI P)) (iI ((r : Nat) : Int)) b = _
      unfold FgX4_take_14
      rw [if_neg, dv_p (by omega) (by omega) (by omega) (by omega), b1_s, rm_p (by omega) (by omega) (by omega) (by omega), b1_s, ← Int.natCast_emod, ← Int.natCast_ediv, ld_t (by omega) (by omega) (by omega), b1_s, Int.toNat_natCast,
        hb (P % r) e2 (by omega), iI_mul, ← Int.natCast_mul, rm_p (by omega) (by omega) (by omega) (by omega), b1_s, ← Int.natCast_emod, iI_sub, st_t (by omega) (by omega) (by omega), b1_s, nm_s, show (1 : Int32) = iI 1 from rfl, iI_add, Int.toNat_natCast]
      · rw [← e1, Int.ofNat_sub (by omega)]; rfl
      · rw [iI_le (by omega) (by omega) (by omega) (by omega)]; omega
  · have : x = 1 := by omega
    subst this
    rw [pk_us, pr_iv1 P (by omega) hp]; rfl
theorem e_inv {P : Nat} (hp : z_pr P = true) {inv roots : Nat → Int32} (h : NumOK P inv roots) {x : Nat} (hx : x < P) : fX4_inverseOf (iI P) inv (iI (x : Nat)) = some (iI (iv P x : Nat)) := by
  obtain ⟨hp1, hp2⟩ := pr_rng hp
  unfold fX4_inverseOf
  by_cases hc : x = 0
  · subst hc
    rw [if_pos (by rw [show (0 : Int32) = iI 0 from rfl]; exact Int32.le_refl _)]
    have : iv P 0 = 0 := by
      unfold iv
      rw [Nat.zero_pow (by omega)]; exact Nat.zero_mod P
    rw [this]; rfl
  · rw [if_neg, if_neg, ld_t (by omega) (by omega) (by omega), b1_s, Int.toNat_natCast, h.1 x (by omega) hx]
    · rw [iI_le (by omega) (by omega) (by omega) (by omega)]; omega
    · rw [show (0 : Int32) = iI 0 from rfl, iI_le (by omega) (by omega) (by omega) (by omega)]; omega
theorem e_root {P : Nat} (hp : z_pr P = true) {inv roots : Nat → Int32} (h : NumOK P inv roots) {z : Int} (h1 : -2147483648 < z) (h2 : z < 2147483648) : fX4_rootOf (iI P) roots (iI z) = some (iI (rt P (z % P).toNat)) := by
  obtain ⟨hp1, hp2⟩ := pr_rng hp
  have a := Int.emod_nonneg z (show (P : Int) ≠ 0 by omega)
  have b := Int.emod_lt_of_pos z (show (0 : Int) < P by omega)
  unfold fX4_rootOf
  rw [e_rest (by omega) (by omega) h1 h2, b1_s, ld_t (by omega) (by omega) (by omega), b1_s, h.2 _ (by omega)]
theorem e_power {P x : Nat} (hp : z_pr P = true) (hx : x < P) : fX9_power (iI P) (iI (x : Nat)) (iI ((P - 2 : Nat) : Int)) = some (iI (iv P x : Nat)) := by
  obtain ⟨hp1, hp2⟩ := pr_rng hp
  unfold fX9_power
  refine wl (σ := Nat × Nat × Nat) (fun n s => gX9_power_8 (iI P) kX9_power_56 n (iI (s.1 : Nat)) (iI (s.2.1 : Nat)) (iI (s.2.2 : Nat)))
    (fun s => s.1 < P ∧ s.2.1 < P ∧ s.2.2 ≤ 200 ∧ s.1 * s.2.1 ^ s.2.2 % P = x ^ (P - 2) % P) (fun s => s.2.2) (fun o => o = some (iI (iv P x : Nat))) ?_ p_FU (1, x, P - 2) ⟨by show 1 < P; omega, hx, by show P - 2 ≤ 200; omega, by show 1 * x ^ (P - 2) % P = _; rw [Nat.one_mul]⟩ (by show P - 2 < p_FU; have := FU_big; omega)
  intro n ⟨r, b, l⟩ ⟨h1, h2, h3, h4⟩
  have h1 : r < P := h1
  have h2 : b < P := h2
  have h3 : l ≤ 200 := h3
  have h4 : r * b ^ l % P = x ^ (P - 2) % P := h4
  have hrb : r * b ≤ 199 * 199 := Nat.mul_le_mul (by omega) (by omega)
  have hbb : b * b ≤ 199 * 199 := Nat.mul_le_mul (by omega) (by omega)
  show (FgX9_power_8 (iI P) (gX9_power_8 (iI P) kX9_power_56 n) kX9_power_56 (iI (r : Nat)) (iI (b : Nat)) (iI (l : Nat)) = _) ∨ ∃ s', _ ∧ _ ∧ FgX9_power_8 (iI P) (gX9_power_8 (iI P) kX9_power_56 n) kX9_power_56 (iI (r : Nat)) (iI (b : Nat)) (iI (l : Nat)) = _
  unfold FgX9_power_8
  by_cases hl : l = 0
  · left
    have h5 : r = x ^ (P - 2) % P := by rw [← h4, hl, Nat.pow_zero, Nat.mul_one, Nat.mod_eq_of_lt h1]
    rw [if_pos (by rw [hl, show (0 : Int32) = iI 0 from rfl]; exact Int32.le_refl _)]
    unfold kX9_power_56 iv
    rw [← h5]
  · right
    have hln : ¬ iI (l : Nat) ≤ 0 := by rw [show (0 : Int32) = iI 0 from rfl, iI_le (by omega) (by omega) (by omega) (by omega)]; omega
    have hsh : iI (l : Nat) >>> ((1 : Int32) &&& 31) = iI ((l / 2 : Nat) : Int) := by
      rw [← iI_n, ← iI_n]; exact pk_shrN (by omega) _ 1 (by decide)
    have han : iI (l : Nat) &&& 1 = iI ((l % 2 : Nat) : Int) := by
      rw [← iI_n, ← iI_n]; exact pk_andN (by omega) 1 (by decide)
    have hjp : ∀ y : Nat, jX9_power_34 (iI P) (iI (b : Nat)) (iI (l : Nat)) (gX9_power_8 (iI P) kX9_power_56 n) (iI (y : Nat)) = gX9_power_8 (iI P) kX9_power_56 n (iI (y : Nat)) (iI ((b * b % P : Nat) : Int)) (iI ((l / 2 : Nat) : Int)) := by
      intro y
      unfold jX9_power_34
      rw [iI_mul, ← Int.natCast_mul, rm_p (by omega) (by omega) (by omega) (by omega), b1_s, nm_s, hsh, ← Int.natCast_emod]
    have hpow : (b * b % P) ^ (l / 2) % P = b ^ (2 * (l / 2)) % P := by rw [← Nat.pow_mod, ← Nat.pow_two, ← Nat.pow_mul]
    rw [if_neg hln, han]
    by_cases ho : l % 2 = 1
    · refine ⟨(r * b % P, b * b % P, l / 2), ⟨Nat.mod_lt _ (by omega), Nat.mod_lt _ (by omega), by show l / 2 ≤ 200; omega, ?_⟩, by show l / 2 < l; omega, ?_⟩
      · show r * b % P * (b * b % P) ^ (l / 2) % P = _
        rw [← h4, Nat.mul_mod, Nat.mod_mod, hpow, ← Nat.mul_mod, Nat.mul_assoc, ← Nat.pow_succ', show (2 * (l / 2)).succ = l by omega]
      · rw [if_pos (by rw [ho]; rfl), iI_mul, ← Int.natCast_mul, rm_p (by omega) (by omega) (by omega) (by omega), b1_s, ← Int.natCast_emod, hjp]
    · refine ⟨(r, b * b % P, l / 2), ⟨h1, Nat.mod_lt _ (by omega), by show l / 2 ≤ 200; omega, ?_⟩, by show l / 2 < l; omega, ?_⟩
      · show r * (b * b % P) ^ (l / 2) % P = _
        rw [← h4, Nat.mul_mod, hpow, ← Nat.mul_mod, show 2 * (l / 2) = l by omega]
      · rw [if_neg, hjp]
        rw [show l % 2 = 0 by omega]; decide
theorem e_by {P x y : Nat} (hp : z_pr P = true) (hx : x ≤ 1000000) (hy : y < P) : fX9_by (iI P) (iI (x : Nat)) (iI (y : Nat)) = some (iI ((x * iv P y % P : Nat) : Int)) := by
  obtain ⟨hp1, hp2⟩ := pr_rng hp
  have hi : iv P y < P := iv_lt (by omega)
  have hm : x * iv P y ≤ 1000000 * 199 := Nat.mul_le_mul hx (by omega)
  unfold fX9_by
  rw [show (2 : Int32) = iI 2 from rfl, iI_sub, show ((P : Int) - 2) = ((P - 2 : Nat) : Int) by omega, e_power hp hy, b1_s, iI_mul, ← Int.natCast_mul, rm_p (by omega) (by omega) (by omega) (by omega), b1_s, ← Int.natCast_emod]
theorem e_root9 {P x : Nat} (hp : z_pr P = true) (hx : x < P) : fX9_rootOf (iI P) (iI (x : Nat)) = some (iI (rt P x)) := by
  obtain ⟨hp1, hp2⟩ := pr_rng hp
  unfold fX9_rootOf
  refine wl (σ := Nat) (fun n s => gX9_rootOf_2 (iI P) (iI (x : Nat)) kX9_rootOf_32 n (iI (s : Nat))) (fun s => s ≤ P / 2 + 1 ∧ rtk P x s = -6) (fun s => P / 2 + 1 - s) (fun o => o = some (iI (rt P x))) ?_ p_FU 0 ⟨by omega, rfl⟩ (by have := FU_big; omega)
  intro n r ⟨h1, h2⟩
  show (FgX9_rootOf_2 (iI P) (iI (x : Nat)) (gX9_rootOf_2 (iI P) (iI (x : Nat)) kX9_rootOf_32 n) kX9_rootOf_32 (iI (r : Nat)) = _) ∨ ∃ s', _ ∧ _ ∧ FgX9_rootOf_2 (iI P) (iI (x : Nat)) (gX9_rootOf_2 (iI P) (iI (x : Nat)) kX9_rootOf_32 n) kX9_rootOf_32 (iI (r : Nat)) = _
  unfold FgX9_rootOf_2
  rw [show (2 : Int32) = iI 2 from rfl, dv_p (by omega) (by omega) (by omega) (by omega), b1_s]
  by_cases hr : r = P / 2 + 1
  · left
    rw [if_pos]
    · unfold kX9_rootOf_32 rt
      rw [← hr, h2]; rfl
    · rw [iI_lt (by omega) (by omega) (by omega) (by omega)]; omega
  · have hr2 : r ≤ 99 := by omega
    have hrr : r * r ≤ 99 * 99 := Nat.mul_le_mul hr2 hr2
    have hmod := Nat.mod_lt (r * r) (show 0 < P by omega)
    have hlt : ¬ iI ((P : Int) / 2) < iI (r : Nat) := by rw [iI_lt (by omega) (by omega) (by omega) (by omega)]; omega
    rw [if_neg hlt, iI_mul, ← Int.natCast_mul, rm_p (by omega) (by omega) (by omega) (by omega), b1_s, ← Int.natCast_emod]
    by_cases hc : r * r % P = x
    · left
      rw [if_pos (by rw [hc])]
      unfold rt
      have key : ∀ m, r < m → m ≤ P / 2 + 1 → rtk P x m = (r : Int) := by
        intro m
        induction m with
        | zero => intro h; omega
        | succ m ih =>
          intro h3 h4
          rw [rtk_s]
          by_cases hm : m = r
          · subst hm; rw [h2, if_neg (by omega), if_pos hc]
          · rw [ih (by omega) (by omega), if_pos (by omega)]
      rw [key (P / 2 + 1) (by omega) (by omega)]
    · right
      refine ⟨r + 1, ⟨by omega, ?_⟩, by omega, ?_⟩
      · rw [rtk_s, h2, if_neg (by omega), if_neg hc]
      · rw [if_neg, nm_s, show (1 : Int32) = iI 1 from rfl, iI_add]
        · rfl
        · rw [iI_eq (by omega) (by omega) (by omega) (by omega)]; omega
