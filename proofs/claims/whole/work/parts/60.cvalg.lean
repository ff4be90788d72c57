/-! the points of a cubic are few -/
theorem em_val {P : Nat} [NeZero P] (u : Fin P) : em P ((u.val : Nat) : Int) = u := by
  show (@Int.cast (Fin P) Lean.Grind.Ring.intCast ((u.val : Nat) : Int)) = u
  rw [Lean.Grind.Ring.intCast_natCast]
  exact Fin.ext (Nat.mod_eq_of_lt u.isLt)
theorem em_nat {P : Nat} [NeZero P] {a b : Nat} (h : em P ((a : Nat) : Int) = em P ((b : Nat) : Int)) : a % P = b % P := by
  rw [em_eq, ← Int.natCast_emod, ← Int.natCast_emod] at h
  exact Int.ofNat.inj h
def oc {P : Nat} [NeZero P] (b1 b2 b3 t y : Fin P) : Prop := y * y = 1 + b1 * t + b2 * t * t + b3 * t * t * t
theorem fin_3 {P : Nat} (hp : z_pr P = true) [NeZero P] : (3 : Fin P) ≠ 0 := by
  have hb := pr_rng hp
  intro h
  rw [← em_3, ← em_0, em_eq, Int.emod_eq_of_lt (by omega) (by omega), Int.emod_eq_of_lt (by omega) (by omega)] at h
  omega
theorem rg_cv {K : Type} [Lean.Grind.CommRing K] {b1 b3 t y e : K} (h : y * y = 1 + b1 * t + 3 * e * t * t + b3 * t * t * t) : (b3 * y) * (b3 * y) = (b3 * t + e) * (b3 * t + e) * (b3 * t + e) + (b1 * b3 - 3 * e * e) * (b3 * t + e) + (2 * e * e * e - b1 * b3 * e + b3 * b3) := by
  have e1 : (b3 * y) * (b3 * y) = b3 * b3 * (y * y) := by grind
  rw [e1, h]; grind
theorem rg_sc {K : Type} [Lean.Grind.CommRing K] {A B u w X Y : K} (hu : u * w = 1) (hA : u * A = B) (h : Y * Y = X * X * X + A * X + B) : (w * Y) * (w * Y) = u * ((w * X) * (w * X) * (w * X) + (B * w * w * w) * (w * X) + B * w * w * w) := by
  have e1 : (w * Y) * (w * Y) = w * w * (Y * Y) := by grind
  have e2 : u * ((w * X) * (w * X) * (w * X)) = w * w * (X * X * X) := by
    have : u * ((w * X) * (w * X) * (w * X)) = (u * w) * (w * w * (X * X * X)) := by grind
    rw [this, hu]; grind
  have e3 : u * (B * w * w * w) = w * w * B := by
    have : u * (B * w * w * w) = (u * w) * (w * w * B) := by grind
    rw [this, hu]; grind
  have e4 : w * B = A := by
    rw [← hA]
    have : w * (u * A) = (u * w) * A := by grind
    rw [this, hu]; grind
  have e5 : u * ((B * w * w * w) * (w * X)) = w * w * (A * X) := by
    have : u * ((B * w * w * w) * (w * X)) = (u * (B * w * w * w)) * (w * X) := by grind
    rw [this, e3]
    have : w * w * B * (w * X) = w * w * ((w * B) * X) := by grind
    rw [this, e4]
  rw [e1, h]
  have e6 : u * ((w * X) * (w * X) * (w * X) + (B * w * w * w) * (w * X) + B * w * w * w) = u * ((w * X) * (w * X) * (w * X)) + u * ((B * w * w * w) * (w * X)) + u * (B * w * w * w) := by grind
  rw [e6, e2, e3, e5]; grind
theorem rg_q {K : Type} [Lean.Grind.CommRing K] {s r q u W G : K} (hr : r * q = 1) (hu : s * (r * r) = u) (h : W * W = u * G) : (q * W) * (q * W) = s * G := by
  have e1 : (q * W) * (q * W) = q * q * (W * W) := by grind
  rw [e1, h, ← hu]
  have : q * q * (s * (r * r) * G) = (r * q) * (r * q) * (s * G) := by grind
  rw [this, hr]; grind
theorem hits_spec {P R v : Nat} : ∀ n, hits P R v n = true → ∀ u, u < n → rtR R u * rtR R u % P = u ∨ v * (rtR R u * rtR R u) % P = u := by
  intro n
  induction n with
  | zero => intro _ u hu; omega
  | succ n ih =>
    intro h u hu
    have h : (hits P R v n && (Nat.beq (rtR R n * rtR R n % P) n || Nat.beq (v * (rtR R n * rtR R n) % P) n)) = true := h
    rw [Bool.and_eq_true, Bool.or_eq_true] at h
    by_cases c : u = n
    · subst c
      rcases h.2 with q | q
      · exact Or.inl (Nat.eq_of_beq_eq_true q)
      · exact Or.inr (Nat.eq_of_beq_eq_true q)
    · exact ih h.1 u (by omega)
theorem sqk_spec {P T : Nat} : ∀ n, sqk P T n = true → ∀ k, k < n → Nat.land (Nat.shiftRight T (2 * (k * k % P))) 3 = bif Nat.beq k 0 then 1 else 2 := by
  intro n
  induction n with
  | zero => intro _ u hu; omega
  | succ n ih =>
    intro h k hk
    have h : (sqk P T n && Nat.beq (Nat.land (Nat.shiftRight T (2 * (n * n % P))) 3) (bif Nat.beq n 0 then 1 else 2)) = true := h
    rw [Bool.and_eq_true] at h
    by_cases c : k = n
    · subst c
      exact Nat.eq_of_beq_eq_true h.2
    · exact ih h.1 k (by omega)
theorem chk_spec {P T v : Nat} : ∀ n, chk P T v n = true → ∀ k, k < n → ncv P T 1 k k P ≤ 255 ∧ ncv P T v k k P ≤ 255 ∧ ncv P T 1 0 k P ≤ 255 ∧ ncv P T 1 k 0 P ≤ 255 := by
  intro n
  induction n with
  | zero => intro _ u hu; omega
  | succ n ih =>
    intro h k hk
    have h : (chk P T v n && Nat.ble (ncv P T 1 n n P) 255 && Nat.ble (ncv P T v n n P) 255 && Nat.ble (ncv P T 1 0 n P) 255 && Nat.ble (ncv P T 1 n 0 P) 255) = true := h
    rw [Bool.and_eq_true, Bool.and_eq_true, Bool.and_eq_true, Bool.and_eq_true] at h
    by_cases c : k = n
    · subst c
      exact ⟨Nat.le_of_ble_eq_true h.1.1.1.2, Nat.le_of_ble_eq_true h.1.1.2, Nat.le_of_ble_eq_true h.1.2, Nat.le_of_ble_eq_true h.2⟩
    · exact ih h.1.1.1.1 k (by omega)
def bit {P : Nat} (y : Fin P) : Nat := if y.val ≤ P / 2 then 0 else 1
theorem bit_eq {P : Nat} (hp : z_pr P = true) [NeZero P] {y z : Fin P} (h : y * y = z * z) (hb : bit y = bit z) : y = z := by
  have hr := pr_rng hp
  have ho := pr_odd P (by omega) hp
  by_cases c : y - z = 0
  · grind
  · obtain ⟨w, hw⟩ := fin_inv hp _ c
    have e : y + z = 0 := by
      have : (y - z) * w * (y + z) = w * (y * y - z * z) := by grind
      rw [hw, h] at this
      grind
    have e2 : em P ((y.val + z.val : Nat) : Int) = em P ((0 : Nat) : Int) := by
      rw [Int.natCast_add, em_add, em_val, em_val, e]; exact (em_0 P).symm
    have e3 := em_nat e2
    rw [Nat.zero_mod] at e3
    have l1 := y.isLt
    have l2 := z.isLt
    have e4 : y.val + z.val = 0 ∨ y.val + z.val = P := by
      rcases Nat.lt_or_ge (y.val + z.val) P with q | q
      · rw [Nat.mod_eq_of_lt q] at e3; exact Or.inl e3
      · rw [Nat.mod_eq_sub_mod q, Nat.mod_eq_of_lt (by omega)] at e3; right; omega
    rcases e4 with q | q
    · exact Fin.ext (by omega)
    · exfalso
      unfold bit at hb
      by_cases c1 : y.val ≤ P / 2
      · rw [if_pos c1, if_neg (by omega)] at hb; omega
      · rw [if_neg c1, if_pos (by omega)] at hb; omega
theorem bit_le {P : Nat} (y : Fin P) : bit y ≤ 1 := by unfold bit; split <;> omega
theorem ncv_s (P T s a b n : Nat) : ncv P T s a b (n + 1) = ncv P T s a b n + wgt P T s a b n := rfl
theorem ncv_mono (P T s a b : Nat) {m n : Nat} (h : m ≤ n) : ncv P T s a b m ≤ ncv P T s a b n := by
  induction n with
  | zero => rw [show m = 0 by omega]; exact Nat.le_refl _
  | succ n ih =>
    by_cases c : m = n + 1
    · rw [c]; exact Nat.le_refl _
    · rw [ncv_s]; have := ih (by omega); omega
theorem ncv_wgt {P : Nat} [NeZero P] {T s a b : Nat} (hs : sqk P T P = true) {Z V : Fin P} (h : V * V = em P ((s : Nat) : Int) * (Z * Z * Z + em P ((a : Nat) : Int) * Z + em P ((b : Nat) : Int))) : bit V < wgt P T s a b Z.val := by
  have e0 : em P ((V.val * V.val : Nat) : Int) = em P ((s * ((Z.val * Z.val + a) * Z.val + b) : Nat) : Int) := by
    rw [Int.natCast_mul, em_mul, Int.natCast_mul, em_mul, Int.natCast_add, em_add, Int.natCast_mul, em_mul, Int.natCast_add, em_add, Int.natCast_mul, em_mul, em_val, em_val, h]
    generalize em P ((s : Nat) : Int) = s'
    generalize em P ((a : Nat) : Int) = a'
    generalize em P ((b : Nat) : Int) = b'
    grind
  have e1 := em_nat e0
  have e2 : wgt P T s a b Z.val = bif Nat.beq V.val 0 then 1 else 2 := by
    rw [← sqk_spec P hs V.val V.isLt, e1]
    rfl
  rw [e2]
  by_cases c : V.val = 0
  · rw [c]
    show bit V < 1
    unfold bit
    rw [if_pos (by omega)]; omega
  · have : Nat.beq V.val 0 = false := by
      cases hq : Nat.beq V.val 0 with
      | false => rfl
      | true => exact absurd (Nat.eq_of_beq_eq_true hq) c
    rw [this]
    show bit V < 2
    have := bit_le V
    omega
/-- an equation with the count of its points below 256 -/
theorem cv_few {P : Nat} (hp : z_pr P = true) [NeZero P] {T s a b : Nat} (hs : sqk P T P = true) (hc : ncv P T s a b P ≤ 255) (f : Nat → Fin P × Fin P) (h : ∀ i, i < 256 → (f i).2 * (f i).2 = em P ((s : Nat) : Int) * ((f i).1 * (f i).1 * (f i).1 + em P ((a : Nat) : Int) * (f i).1 + em P ((b : Nat) : Int)))
    (hd : ∀ i j, i < j → j < 256 → f i ≠ f j) : False := by
  have := holes 256 (ncv P T s a b P) (fun i => ncv P T s a b (f i).1.val + bit (f i).2) (fun i hi => ?_) (fun i j hij hj => ?_)
  · omega
  · have w := ncv_wgt hs (h i hi)
    have m := ncv_mono P T s a b (show (f i).1.val + 1 ≤ P from (f i).1.isLt)
    rw [ncv_s] at m
    show ncv P T s a b (f i).1.val + bit (f i).2 < ncv P T s a b P
    omega
  · show ncv P T s a b (f i).1.val + bit (f i).2 ≠ ncv P T s a b (f j).1.val + bit (f j).2
    intro e
    have wi := ncv_wgt hs (h i (by omega))
    have wj := ncv_wgt hs (h j hj)
    rcases Nat.lt_trichotomy (f i).1.val (f j).1.val with q | q | q
    · have m := ncv_mono P T s a b (show (f i).1.val + 1 ≤ (f j).1.val from q)
      rw [ncv_s] at m
      omega
    · have e1 : (f i).1 = (f j).1 := Fin.ext q
      rw [q] at e
      have e2 : (f i).2 = (f j).2 := by
        refine bit_eq hp ?_ (by omega)
        rw [h i (by omega), h j hj, e1]
      exact hd i j hij hj (Prod.ext e1 e2)
    · have m := ncv_mono P T s a b (show (f j).1.val + 1 ≤ (f i).1.val from q)
      rw [ncv_s] at m
      omega
theorem fin_mul0 {P : Nat} (hp : z_pr P = true) [NeZero P] {a x y : Fin P} (ha : a ≠ 0) (h : a * x = a * y) : x = y := by
  obtain ⟨w, hw⟩ := fin_inv hp a ha
  have e : ∀ z : Fin P, w * (a * z) = z := by
    intro z
    have : w * (a * z) = (a * w) * z := by grind
    rw [this, hw]; grind
  rw [← e x, h, e y]
theorem fin_ne {P : Nat} (hp : z_pr P = true) [NeZero P] {a w : Fin P} (h : a * w = 1) : w ≠ 0 := by
  intro e
  have h10 := fin_10 hp
  rw [e] at h
  exact h10 (by grind)
theorem fin_mne {P : Nat} (hp : z_pr P = true) [NeZero P] {a b : Fin P} (ha : a ≠ 0) (hb : b ≠ 0) : a * b ≠ 0 := by
  intro e
  exact hb (fin_mul0 hp ha (by rw [e]; grind))
/-- no 256 points of the cubic -/
theorem cv_le {P : Nat} (hp : z_pr P = true) [NeZero P] {b1 b2 b3 : Fin P} (h3 : b3 ≠ 0) (f : Nat → Fin P × Fin P) (h : ∀ i, i < 256 → oc b1 b2 b3 (f i).1 (f i).2) (hd : ∀ i j, i < j → j < 256 → f i ≠ f j) : False := by
  have hr := pr_rng hp
  by_cases hP : 127 < P
  · obtain ⟨T, R, v, hc⟩ := hs_all hp hP
    rw [Bool.and_eq_true, Bool.and_eq_true] at hc
    obtain ⟨⟨c1, c2⟩, c3⟩ := hc
    obtain ⟨i3, hi3⟩ := fin_inv hp 3 (fin_3 hp)
    -- a linear change of both coordinates
    have lin : ∀ (al e be : Fin P) (s a b : Nat), al ≠ 0 → be ≠ 0 → ncv P T s a b P ≤ 255 → (∀ t y : Fin P, oc b1 b2 b3 t y → (be * y) * (be * y) = em P ((s : Nat) : Int) * ((al * t + e) * (al * t + e) * (al * t + e) + em P ((a : Nat) : Int) * (al * t + e) + em P ((b : Nat) : Int))) → False := by
      intro al e be s a b hal hbe hn he
      refine cv_few hp c2 hn (fun i => (al * (f i).1 + e, be * (f i).2)) (fun i hi => he _ _ (h i hi)) (fun i j hij hj q => hd i j hij hj ?_)
      have q1 : al * (f i).1 + e = al * (f j).1 + e := congrArg Prod.fst q
      have q2 : be * (f i).2 = be * (f j).2 := congrArg Prod.snd q
      exact Prod.ext (fin_mul0 hp hal (by grind)) (fin_mul0 hp hbe q2)
    have hx : ∀ t y : Fin P, oc b1 b2 b3 t y → (b3 * y) * (b3 * y) = (b3 * t + i3 * b2) * (b3 * t + i3 * b2) * (b3 * t + i3 * b2) + (b1 * b3 - 3 * (i3 * b2) * (i3 * b2)) * (b3 * t + i3 * b2) + (2 * (i3 * b2) * (i3 * b2) * (i3 * b2) - b1 * b3 * (i3 * b2) + b3 * b3) := by
      intro t y ho
      refine rg_cv ?_
      unfold oc at ho
      have : 3 * (i3 * b2) = b2 := by
        have : 3 * (i3 * b2) = (3 * i3) * b2 := by grind
        rw [this, hi3]; grind
      rw [this]; exact ho
    generalize hA : b1 * b3 - 3 * (i3 * b2) * (i3 * b2) = A at hx
    generalize hB : 2 * (i3 * b2) * (i3 * b2) * (i3 * b2) - b1 * b3 * (i3 * b2) + b3 * b3 = B at hx
    generalize he : i3 * b2 = e at hx
    clear hA hB he hi3
    have em0 : em P (((0 : Nat) : Nat) : Int) = 0 := em_0 P
    have em1 : em P (((1 : Nat) : Nat) : Int) = 1 := em_1 P
    by_cases cA : A = 0
    · refine lin b3 e b3 1 0 B.val h3 h3 (chk_spec P c1 B.val B.isLt).2.2.1 (fun t y ho => ?_)
      rw [hx t y ho, em0, em1, em_val, cA]
      generalize b3 * t + e = X
      grind
    · by_cases cB : B = 0
      · refine lin b3 e b3 1 A.val 0 h3 h3 (chk_spec P c1 A.val A.isLt).2.2.2 (fun t y ho => ?_)
        rw [hx t y ho, em0, em1, em_val, cB]
        generalize b3 * t + e = X
        grind
      · obtain ⟨wA, hwA⟩ := fin_inv hp A cA
        have hu0 : B * wA ≠ 0 := fin_mne hp cB (fin_ne hp hwA)
        obtain ⟨w, hw⟩ := fin_inv hp (B * wA) hu0
        have hA2 : (B * wA) * A = B := by
          have : (B * wA) * A = (A * wA) * B := by grind
          rw [this, hwA]; grind
        have hwne := fin_ne hp hw
        generalize B * wA = u at *
        -- the root of u
        have hrt := hits_spec P c3 u.val u.isLt
        generalize rtR R u.val = r at hrt
        have hroot : ∃ s : Nat, (s = 1 ∨ s = v) ∧ em P ((s : Nat) : Int) * (em P ((r : Nat) : Int) * em P ((r : Nat) : Int)) = u := by
          have hl := u.isLt
          rcases hrt with q | q
          · refine ⟨1, Or.inl rfl, ?_⟩
            have : em P ((r * r : Nat) : Int) = em P ((u.val : Nat) : Int) := by
              rw [em_eq, ← Int.natCast_emod, ← Int.natCast_emod, q, Nat.mod_eq_of_lt hl]
            rw [Int.natCast_mul, em_mul, em_val] at this
            rw [em1, this]; grind
          · refine ⟨v, Or.inr rfl, ?_⟩
            have : em P ((v * (r * r) : Nat) : Int) = em P ((u.val : Nat) : Int) := by
              rw [em_eq, ← Int.natCast_emod, ← Int.natCast_emod, q, Nat.mod_eq_of_lt hl]
            rw [Int.natCast_mul, em_mul, Int.natCast_mul, em_mul, em_val] at this
            exact this
        obtain ⟨s, hs, hsr⟩ := hroot
        generalize hrr : em P ((r : Nat) : Int) = rr at hsr
        have hr0 : rr ≠ 0 := by
          intro q
          rw [q] at hsr
          exact hu0 (by rw [← hsr]; grind)
        obtain ⟨q, hq⟩ := fin_inv hp rr hr0
        have hqne := fin_ne hp hq
        have hn : ncv P T s (B * w * w * w).val (B * w * w * w).val P ≤ 255 := by
          have := chk_spec P c1 (B * w * w * w).val (B * w * w * w).isLt
          rcases hs with rfl | rfl
          · exact this.1
          · exact this.2.1
        refine lin (w * b3) (w * e) (q * (w * b3)) s (B * w * w * w).val (B * w * w * w).val (fin_mne hp hwne h3) (fin_mne hp hqne (fin_mne hp hwne h3)) hn (fun t y ho => ?_)
        rw [em_val]
        have g1 := rg_sc hw hA2 (hx t y ho)
        have g2 := rg_q hq hsr g1
        have e1 : q * (w * b3) * y = q * (w * (b3 * y)) := by clear g1 g2 hx lin; grind
        have e2 : w * b3 * t + w * e = w * (b3 * t + e) := by clear g1 g2 hx lin; grind
        rw [e1, e2]; exact g2
  · have := holes 256 (2 * P) (fun i => 2 * (f i).1.val + bit (f i).2) (fun i hi => ?_) (fun i j hij hj => ?_)
    · omega
    · have := (f i).1.isLt
      have := bit_le (f i).2
      show 2 * (f i).1.val + bit (f i).2 < 2 * P
      omega
    · show 2 * (f i).1.val + bit (f i).2 ≠ 2 * (f j).1.val + bit (f j).2
      intro e
      have := bit_le (f i).2
      have := bit_le (f j).2
      have e1 : (f i).1 = (f j).1 := Fin.ext (by omega)
      have e2 : (f i).2 = (f j).2 := by
        refine bit_eq hp ?_ (by omega)
        have p1 := h i (by omega)
        have p2 := h j hj
        unfold oc at p1 p2
        rw [p1, p2, e1]
      exact hd i j hij hj (Prod.ext e1 e2)
