/-! multiples of ONE -/
def slp (P : Nat) (c : Nat → Int) (t y : Int) : Int := if t = 0 then bf P c 1 * (iv P 2 : Nat) % P else (y - 1) % P * (iv P t.toNat : Nat) % P
def adT (P : Nat) (c : Nat → Int) (t y : Int) : Int := ((slp P c t y * slp P c t y - bf P c 2) % P * (iv P (bf P c 3).toNat : Nat) % P - t) % P
def adY (P : Nat) (c : Nat → Int) (t y : Int) : Int := (-(1 + slp P c t y * adT P c t y)) % P
def adp (P : Nat) (c : Nat → Int) (q : Option (Int × Int)) : Option (Int × Int) := match q with
  | none => some (0, 1)
  | some (t, y) => if t = 0 ∧ y ≠ 1 then none else some (adT P c t y, adY P c t y)
def mlt (P : Nat) (c : Nat → Int) : Nat → Option (Int × Int)
  | 0 => none
  | k + 1 => adp P c (mlt P c k)
def okp (P : Nat) [NeZero P] (c : Nat → Int) (q : Option (Int × Int)) : Prop := ∀ t y, q = some (t, y) → el P t ∧ el P y ∧ oc (em P (bf P c 1)) (em P (bf P c 2)) (em P (bf P c 3)) (em P t) (em P y)
theorem slp_el {P : Nat} (hp : z_pr P = true) (c : Nat → Int) (t y : Int) : el P (slp P c t y) := by
  unfold slp
  split <;> exact el_mod hp _
theorem bf3_ne {P : Nat} (hp : z_pr P = true) {c : Nat → Int} (hc : ∀ i, el P (c i)) (h0 : c 0 ≠ 0) (h3 : c 3 ≠ 0) : bf P c 3 ≠ 0 := by
  have := nz_of hp
  intro e
  have e2 : em P (bf P c 3) = 0 := by rw [e, em_0]
  unfold bf at e2
  rw [if_pos (by omega), em_mod, em_mul] at e2
  have i0 := em_iv hp (hc 0) h0
  have n3 : em P (c 3) ≠ 0 := fun q => h3 ((el_em0 (hc 3)).mp q)
  exact fin_mne hp n3 (fin_ne hp i0) e2
/-- what one step does, in the ring -/
theorem ad_em {P : Nat} (hp : z_pr P = true) [NeZero P] {c : Nat → Int} (h3 : bf P c 3 ≠ 0) {t y : Int} (ht : el P t) (hy : el P y) (ho : oc (em P (bf P c 1)) (em P (bf P c 2)) (em P (bf P c 3)) (em P t) (em P y)) (hn : ¬ (t = 0 ∧ y ≠ 1)) :
    (t = 0 → 2 * em P (slp P c t y) = em P (bf P c 1)) ∧ em P (slp P c t y) * em P t = em P y - 1 ∧ em P (bf P c 3) * (em P (adT P c t y) + em P t) = em P (slp P c t y) * em P (slp P c t y) - em P (bf P c 2) ∧ em P (adY P c t y) = -(1 + em P (slp P c t y) * em P (adT P c t y)) ∧
      2 * em P (slp P c t y) + em P (slp P c t y) * em P (slp P c t y) * em P t = em P (bf P c 1) + em P (bf P c 2) * em P t + em P (bf P c 3) * em P t * em P t := by
  have hb := pr_rng hp
  have i3 := em_iv hp (bf_el hp c 3) h3
  have hT : em P (bf P c 3) * (em P (adT P c t y) + em P t) = em P (slp P c t y) * em P (slp P c t y) - em P (bf P c 2) := by
    unfold adT
    rw [em_mod, em_sub, em_mod, em_mul, em_mod, em_sub, em_mul]
    generalize em P (slp P c t y) * em P (slp P c t y) - em P (bf P c 2) = G
    generalize em P (bf P c 3) = B at i3 ⊢
    generalize em P ((iv P (bf P c 3).toNat : Nat) : Int) = I at i3 ⊢
    have : B * (G * I - em P t + em P t) = (B * I) * G := by clear ho; grind
    rw [this, i3]; clear ho; grind
  have hY : em P (adY P c t y) = -(1 + em P (slp P c t y) * em P (adT P c t y)) := by
    unfold adY
    rw [em_mod, em_neg, em_add, em_mul, em_1]
  by_cases h0 : t = 0
  · have hy1 : y = 1 := by
      by_cases q : y = 1
      · exact q
      · exact absurd ⟨h0, q⟩ hn
    have e2 := em_iv hp (x := 2) ⟨by omega, by omega⟩ (by omega)
    have e2 : em P 2 * em P ((iv P 2 : Nat) : Int) = 1 := e2
    rw [em_2] at e2
    have hs : 2 * em P (slp P c t y) = em P (bf P c 1) := by
      unfold slp
      rw [if_pos h0, em_mod, em_mul]
      generalize em P ((iv P 2 : Nat) : Int) = I at e2 ⊢
      generalize em P (bf P c 1) = B
      have : 2 * (B * I) = (2 * I) * B := by clear ho; grind
      rw [this, e2]; clear ho; grind
    have et : em P t = 0 := by rw [h0, em_0]
    have ey : em P y = 1 := by rw [hy1, em_1]
    refine ⟨fun _ => hs, ?_, hT, hY, ?_⟩
    · rw [et, ey]; clear ho; grind
    · rw [et, hs]; clear ho; grind
  · have i0 := em_iv hp ht h0
    have hs : em P (slp P c t y) * em P t = em P y - 1 := by
      unfold slp
      rw [if_neg h0, em_mod, em_mul, em_mod, em_sub, em_1]
      generalize em P ((iv P t.toNat : Nat) : Int) = I at i0 ⊢
      have : (em P y - 1) * I * em P t = (em P t * I) * (em P y - 1) := by clear ho; grind
      rw [this, i0]; clear ho; grind
    refine ⟨fun q => absurd q h0, hs, hT, hY, ?_⟩
    have nt : em P t ≠ 0 := fun q => h0 ((el_em0 ht).mp q)
    refine fin_mul0 hp nt ?_
    unfold oc at ho
    have hy2 : em P y = em P (slp P c t y) * em P t + 1 := by clear ho; grind
    rw [hy2] at ho
    generalize em P (slp P c t y) = s at ho ⊢
    generalize em P t = x at ho ⊢
    generalize em P (bf P c 1) = B1 at ho ⊢
    generalize em P (bf P c 2) = B2 at ho ⊢
    generalize em P (bf P c 3) = B3 at ho ⊢
    clear hs hT hY hy2 i0 i3 nt
    grind
theorem rg_oc {K : Type} [Lean.Grind.CommRing K] {s t T Y B1 B2 B3 : K} (hT : B3 * (T + t) = s * s - B2) (hY : Y = -(1 + s * T)) (hA : 2 * s + s * s * t = B1 + B2 * t + B3 * t * t) : Y * Y = 1 + B1 * T + B2 * T * T + B3 * T * T * T := by
  have e0 : s * s = B3 * (T + t) + B2 := by grind
  have e1 : B1 = 2 * s + s * s * t - B2 * t - B3 * t * t := by grind
  rw [hY]
  have e2 : -(1 + s * T) * -(1 + s * T) = 1 + 2 * s * T + (s * s) * T * T := by grind
  rw [e2, e1, e0]; grind
theorem adp_ok {P : Nat} (hp : z_pr P = true) [NeZero P] {c : Nat → Int} (h3 : bf P c 3 ≠ 0) {q : Option (Int × Int)} (h : okp P c q) : okp P c (adp P c q) := by
  have hb := pr_rng hp
  intro t' y' e
  match q, h, e with
  | none, _, e =>
    have e : some ((0 : Int), (1 : Int)) = some (t', y') := e
    have e := Option.some.inj e
    have e1 : t' = 0 := (congrArg Prod.fst e).symm
    have e2 : y' = 1 := (congrArg Prod.snd e).symm
    subst e1; subst e2
    refine ⟨⟨by omega, by omega⟩, ⟨by omega, by omega⟩, ?_⟩
    unfold oc
    rw [em_0, em_1]; grind
  | some (t, y), h, e =>
    obtain ⟨ht, hy, ho⟩ := h t y rfl
    have e : (if t = 0 ∧ y ≠ 1 then none else some (adT P c t y, adY P c t y)) = some (t', y') := e
    by_cases hn : t = 0 ∧ y ≠ 1
    · rw [if_pos hn] at e; cases e
    · rw [if_neg hn] at e
      have e := Option.some.inj e
      have e1 : adT P c t y = t' := congrArg Prod.fst e
      have e2 : adY P c t y = y' := congrArg Prod.snd e
      rw [← e1, ← e2]
      obtain ⟨-, -, a3, a4, a5⟩ := ad_em hp h3 ht hy ho hn
      exact ⟨el_mod hp _, el_mod hp _, rg_oc a3 a4 a5⟩
theorem rg_in {K : Type} [Lean.Grind.CommRing K] {s t T B1 B2 B3 : K} (hT : B3 * (T + t) = s * s - B2) (h0 : T = 0) (hA : 2 * s + s * s * t = B1 + B2 * t + B3 * t * t) : 2 * s = B1 := by
  subst h0
  have e1 : B3 * t = s * s - B2 := by grind
  have e2 : B3 * t * t = (s * s - B2) * t := by rw [e1]
  rw [e2] at hA
  grind
theorem rg_m1 {K : Type} [Lean.Grind.CommRing K] {s : K} (h : (1 : K) = -(1 + s * 0)) : (2 : K) = 0 := by
  have : (2 : K) = 1 + 1 := by grind
  rw [this]
  have e : (1 : K) + 1 = 1 + -(1 + s * 0) := by rw [← h]
  rw [e]; grind
theorem adp_inj {P : Nat} (hp : z_pr P = true) [NeZero P] {c : Nat → Int} (h3 : bf P c 3 ≠ 0) {q q' : Option (Int × Int)} (h : okp P c q) (h' : okp P c q') (e : adp P c q = adp P c q') : q = q' := by
  have hb := pr_rng hp
  have h10 := fin_10 hp
  have h2 := fin_2 hp
  have nb3 : em P (bf P c 3) ≠ 0 := fun z => h3 ((el_em0 (bf_el hp c 3)).mp z)
  -- the start is nobody's next
  have st : ∀ t y, el P t → el P y → oc (em P (bf P c 1)) (em P (bf P c 2)) (em P (bf P c 3)) (em P t) (em P y) → adp P c (some (t, y)) ≠ some (0, 1) := by
    intro t y ht hy ho e
    have e : (if t = 0 ∧ y ≠ 1 then none else some (adT P c t y, adY P c t y)) = some (0, 1) := e
    by_cases hn : t = 0 ∧ y ≠ 1
    · rw [if_pos hn] at e; cases e
    · rw [if_neg hn] at e
      have e := Option.some.inj e
      have e1 : adT P c t y = 0 := congrArg Prod.fst e
      have e2 : adY P c t y = 1 := congrArg Prod.snd e
      obtain ⟨-, -, -, a4, -⟩ := ad_em hp h3 ht hy ho hn
      rw [e1, e2, em_0, em_1] at a4
      exact h2 (rg_m1 a4)
  match q, q', h, h', e with
  | none, none, _, _, _ => rfl
  | none, some (t, y), _, h', e =>
    obtain ⟨ht, hy, ho⟩ := h' t y rfl
    exact absurd e.symm (st t y ht hy ho)
  | some (t, y), none, h, _, e =>
    obtain ⟨ht, hy, ho⟩ := h t y rfl
    exact absurd e (st t y ht hy ho)
  | some (t, y), some (t', y'), h, h', e =>
    obtain ⟨ht, hy, ho⟩ := h t y rfl
    obtain ⟨ht', hy', ho'⟩ := h' t' y' rfl
    have e : (if t = 0 ∧ y ≠ 1 then none else some (adT P c t y, adY P c t y)) = (if t' = 0 ∧ y' ≠ 1 then none else some (adT P c t' y', adY P c t' y')) := e
    -- a point over 0 that isn't ONE
    have low : ∀ t y, el P y → oc (em P (bf P c 1)) (em P (bf P c 2)) (em P (bf P c 3)) (em P t) (em P y) → (t = 0 ∧ y ≠ 1) → em P y = -1 := by
      intro t y hy ho ⟨a1, a2⟩
      unfold oc at ho
      rw [a1, em_0] at ho
      have ho : em P y * em P y = 1 := by rw [ho]; grind
      have ny : em P y - 1 ≠ 0 := by
        intro z
        refine a2 (el_inj hy ⟨by omega, by omega⟩ ?_)
        rw [em_1]; clear ho; grind
      have := fin_mul0 hp ny (x := em P y + 1) (y := 0) (by grind)
      clear ho; grind
    by_cases hn : t = 0 ∧ y ≠ 1
    · by_cases hn' : t' = 0 ∧ y' ≠ 1
      · have y1 := low t y hy ho hn
        have y2 := low t' y' hy' ho' hn'
        have : y = y' := el_inj hy hy' (by rw [y1, y2])
        rw [this, hn.1, hn'.1]
      · rw [if_pos hn, if_neg hn'] at e; cases e
    · by_cases hn' : t' = 0 ∧ y' ≠ 1
      · rw [if_neg hn, if_pos hn'] at e; cases e
      · rw [if_neg hn, if_neg hn'] at e
        have e := Option.some.inj e
        have e1 : em P (adT P c t y) = em P (adT P c t' y') := by rw [show adT P c t y = adT P c t' y' from congrArg Prod.fst e]
        have e2 : em P (adY P c t y) = em P (adY P c t' y') := by rw [show adY P c t y = adY P c t' y' from congrArg Prod.snd e]
        obtain ⟨-, a2, a3, a4, a5⟩ := ad_em hp h3 ht hy ho hn
        obtain ⟨-, b2, b3, b4, b5⟩ := ad_em hp h3 ht' hy' ho' hn'
        have hs : em P (slp P c t y) = em P (slp P c t' y') := by
          by_cases z : em P (adT P c t y) = 0
          · have g1 := rg_in a3 z a5
            have g2 := rg_in b3 (by rw [← e1]; exact z) b5
            exact fin_mul0 hp h2 (by rw [g1, g2])
          · refine fin_mul0 hp z ?_
            rw [a4, b4] at e2
            rw [← e1] at e2
            generalize em P (slp P c t y) = s at e2 ⊢
            generalize em P (slp P c t' y') = s' at e2 ⊢
            generalize em P (adT P c t y) = T at e2 ⊢
            clear ho ho' a2 a3 a4 a5 b2 b3 b4 b5 e1
            grind
        have ht2 : em P t = em P t' := by
          rw [hs, ← b3, e1] at a3
          have := fin_mul0 hp nb3 a3
          clear ho ho' a2 a3 a4 a5 b2 b3 b4 b5 e1 e2 hs
          grind
        have hy2 : em P y = em P y' := by
          rw [hs, ht2, b2] at a2
          clear ho ho' a3 a4 a5 b2 b3 b4 b5 e1 e2 hs
          grind
        rw [el_inj ht ht' ht2, el_inj hy hy' hy2]
theorem mlt_ok {P : Nat} (hp : z_pr P = true) [NeZero P] {c : Nat → Int} (h3 : bf P c 3 ≠ 0) (k : Nat) : okp P c (mlt P c k) := by
  induction k with
  | zero => intro t y e; cases e
  | succ k ih => exact adp_ok hp h3 ih
theorem mlt_down {P : Nat} (hp : z_pr P = true) [NeZero P] {c : Nat → Int} (h3 : bf P c 3 ≠ 0) (d : Nat) : ∀ k, mlt P c k = mlt P c (k + d) → mlt P c d = none := by
  intro k
  induction k with
  | zero => intro e; rw [Nat.zero_add] at e; exact e.symm
  | succ k ih =>
    intro e
    rw [show k + 1 + d = (k + d) + 1 by omega] at e
    exact ih (adp_inj hp h3 (mlt_ok hp h3 k) (mlt_ok hp h3 (k + d)) e)
/-- the order -/
def isOrd (P : Nat) (c : Nat → Int) (N : Nat) : Prop := 2 ≤ N ∧ N ≤ 256 ∧ mlt P c N = none ∧ ∀ k, 1 ≤ k → k < N → mlt P c k ≠ none
theorem ord_ex {P : Nat} (hp : z_pr P = true) {c : Nat → Int} (h3 : bf P c 3 ≠ 0) : ∃ N, isOrd P c N := by
  have := nz_of hp
  by_cases hx : ∃ k, k ≤ 256 ∧ (1 ≤ k ∧ mlt P c k = none)
  · obtain ⟨N, q1, ⟨q2, q3⟩, q4⟩ := least_ex 256 hx
    refine ⟨N, ?_, q1, q3, fun k h1 h2 e => q4 k h2 ⟨h1, e⟩⟩
    by_cases c1 : N = 1
    · rw [c1] at q3; cases q3
    · omega
  · exfalso
    have hs : ∀ k, 1 ≤ k → k ≤ 256 → ∃ t y, mlt P c k = some (t, y) := by
      intro k h1 h2
      cases e : mlt P c k with
      | none => exact absurd ⟨k, h2, h1, e⟩ hx
      | some q => exact ⟨q.1, q.2, rfl⟩
    have nb3 : em P (bf P c 3) ≠ 0 := fun z => h3 ((el_em0 (bf_el hp c 3)).mp z)
    refine cv_le hp (b1 := em P (bf P c 1)) (b2 := em P (bf P c 2)) nb3 (fun i => match mlt P c (i + 1) with | none => (0, 0) | some q => (em P q.1, em P q.2)) (fun i hi => ?_) (fun i j hij hj e => ?_)
    · obtain ⟨t, y, e⟩ := hs (i + 1) (by omega) (by omega)
      obtain ⟨-, -, ho⟩ := mlt_ok hp h3 (i + 1) t y e
      simp only [e]
      exact ho
    · obtain ⟨t, y, e1⟩ := hs (i + 1) (by omega) (by omega)
      obtain ⟨t', y', e2⟩ := hs (j + 1) (by omega) (by omega)
      obtain ⟨a1, a2, -⟩ := mlt_ok hp h3 (i + 1) t y e1
      obtain ⟨b1, b2, -⟩ := mlt_ok hp h3 (j + 1) t' y' e2
      simp only [e1, e2] at e
      have f1 : em P t = em P t' := congrArg Prod.fst e
      have f2 : em P y = em P y' := congrArg Prod.snd e
      have f3 : mlt P c (i + 1) = mlt P c (i + 1 + (j - i)) := by
        rw [show i + 1 + (j - i) = j + 1 by omega, e1, e2, el_inj a1 b1 f1, el_inj a2 b2 f2]
      have f4 := mlt_down hp h3 (j - i) (i + 1) f3
      exact hx ⟨j - i, by omega, by omega, f4⟩
theorem mlt_add {P : Nat} {c : Nat → Int} {N : Nat} (h : mlt P c N = none) (k : Nat) : mlt P c (k + N) = mlt P c k := by
  induction k with
  | zero => rw [Nat.zero_add]; exact h
  | succ k ih =>
    rw [show k + 1 + N = (k + N) + 1 by omega]
    show adp P c (mlt P c (k + N)) = adp P c (mlt P c k)
    rw [ih]
theorem mlt_mod {P : Nat} {c : Nat → Int} {N : Nat} (h : mlt P c N = none) (k : Nat) : mlt P c (k % N) = mlt P c k := by
  have key : ∀ q r, mlt P c (r + q * N) = mlt P c r := by
    intro q
    induction q with
    | zero => intro r; rw [Nat.zero_mul, Nat.add_zero]
    | succ q ih => intro r; rw [Nat.add_mul, Nat.one_mul, ← Nat.add_assoc, mlt_add h, ih]
  have e : k = k % N + (k / N) * N := by rw [Nat.mul_comm]; exact (Nat.mod_add_div k N).symm
  rw [show mlt P c k = mlt P c (k % N + (k / N) * N) by rw [← e], key]
