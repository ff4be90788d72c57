/-! how many points a curve has -/
def cba (P : Nat) (c : Nat → Int) (t : Int) : Int := (((bf P c 3 * t + bf P c 2) * t + bf P c 1) % P * t + 1) % P
def cvw (P : Nat) (c : Nat → Int) (t : Nat) : Nat := if cba P c t = 0 then 1 else if rt P (cba P c t).toNat = -6 then 0 else 2
def cvn (P : Nat) (c : Nat → Int) : Nat → Nat
  | 0 => 1
  | n + 1 => cvn P c n + cvw P c n
theorem cvn_le (P : Nat) (c : Nat → Int) (n : Nat) : cvn P c n ≤ 1 + 2 * n := by
  induction n with
  | zero => exact Nat.le_refl _
  | succ n ih =>
    have : cvw P c n ≤ 2 := by unfold cvw; split; omega; split <;> omega
    show cvn P c n + cvw P c n ≤ _
    omega
theorem rt_0 {P : Nat} (hp : z_pr P = true) : rt P 0 = 0 := by
  have hb := pr_rng hp
  rcases rtk_range P 0 (P / 2 + 1) with e | ⟨r, h1, h2, h3⟩
  · exact absurd (Nat.zero_mod P) (rtk_none e 0 (by omega))
  · by_cases c : r = 0
    · unfold rt; rw [h3, c]; rfl
    · exact absurd (by rw [h2]; exact Nat.zero_mod P) (pr_sq P (by omega) hp r (by omega) 0 (by omega))
theorem rt_n0 {P x : Nat} (hx : x < P) (h : rt P x = 0) : x = 0 := by
  rcases rtk_range P x (P / 2 + 1) with e | ⟨r, h1, h2, h3⟩
  · unfold rt at h; omega
  · unfold rt at h
    rw [h3] at h
    have : r = 0 := by omega
    subst this
    rw [← h2]; exact Nat.zero_mod P
theorem rt_c (P x : Nat) : rt P x = -6 ∨ (0 ≤ rt P x ∧ rt P x < 1000000 + P) := by
  rcases rtk_range P x (P / 2 + 1) with e | ⟨r, h1, h2, h3⟩
  · exact Or.inl e
  · right; unfold rt; rw [h3]; omega
theorem e_count {P : Nat} (hp : z_pr P = true) {inv roots : Nat → Int32} (hN : NumOK P inv roots) {c : Nat → Int} (hc : ∀ i, el P (c i)) (pc : Int32) : fX1_findCount pc (iI (c 0)) (iI (c 1)) (iI (c 2)) (iI (c 3)) (iI P) inv roots = some (iI (cvn P c P : Nat)) := by
  have hb := pr_rng hp
  have p1 : fX0_partByFirst (iI (c 0)) (iI (c 1)) (iI (c 2)) (iI (c 3)) (iI P) inv 1 = some (iI (bf P c 1)) := e_part hp hN hc (k := 1) (by omega)
  have p2 : fX0_partByFirst (iI (c 0)) (iI (c 1)) (iI (c 2)) (iI (c 3)) (iI P) inv 2 = some (iI (bf P c 2)) := e_part hp hN hc (k := 2) (by omega)
  have p3 : fX0_partByFirst (iI (c 0)) (iI (c 1)) (iI (c 2)) (iI (c 3)) (iI P) inv 3 = some (iI (bf P c 3)) := e_part hp hN hc (k := 3) (by omega)
  unfold fX1_findCount
  rw [p1, b1_s, p2, b1_s, p3, b1_s]
  have key := fn (fun n x (_ : Unit) => gX1_findCount_27 (iI P) roots (iI (bf P c 1)) (iI (bf P c 2)) (iI (bf P c 3)) kX1_findCount_115 n (iI (x : Nat)) (iI (cvn P c x : Nat))) P (fun _ _ => True) (fun o => o = some (iI (cvn P c P : Nat))) ?_ ?_ p_FU 0 () (by omega) trivial (by have := FU_big; omega)
  · exact key
  · intro n _ _
    show FgX1_findCount_27 (iI P) roots (iI (bf P c 1)) (iI (bf P c 2)) (iI (bf P c 3)) (gX1_findCount_27 (iI P) roots (iI (bf P c 1)) (iI (bf P c 2)) (iI (bf P c 3)) kX1_findCount_115 n) kX1_findCount_115 (iI (P : Nat)) (iI (cvn P c P : Nat)) = _
    unfold FgX1_findCount_27 fX4_prime
    rw [b1_s, if_pos (Int32.le_refl _)]; rfl
  · intro n x _ hx _
    refine ⟨(), trivial, ?_⟩
    show FgX1_findCount_27 (iI P) roots (iI (bf P c 1)) (iI (bf P c 2)) (iI (bf P c 3)) (gX1_findCount_27 (iI P) roots (iI (bf P c 1)) (iI (bf P c 2)) (iI (bf P c 3)) kX1_findCount_115 n) kX1_findCount_115 (iI (x : Nat)) (iI (cvn P c x : Nat)) = _
    have ex : el P (x : Int) := el_of hx
    have bx := bd_el hp ex
    have hv : el P (cba P c x) := el_mod hp _
    have hvl := hv.2
    have hv0 := hv.1
    unfold FgX1_findCount_27 fX4_prime jX1_findCount_105 jX1_findCount_109
    rw [b1_s, if_neg (by rw [nle (by omega) (by omega)]; omega), iI_mul, iI_add, iI_mul, iI_add, e_rb hp (bd_add (bd_mul (bd_add (bd_mul (bd_el hp (bf_el hp c 3)) bx) (bd_el hp (bf_el hp c 2))) bx) (bd_el hp (bf_el hp c 1))) (by decide), b1_s, iI_mul, show (1 : Int32) = iI 1 from rfl, iI_add, e_rb hp (bd_add (bd_mul (bd_el hp (el_mod hp _)) bx) (bd_lit 1)) (by decide), b1_s]
    show p_b1 (fX4_rootOf (iI P) roots (iI (cba P c x))) _ = _
    rw [e_root hp hN (by omega) (by omega), b1_s, el_eq hv]
    have step : ∀ w : Nat, cvw P c x = w → (iI (cvn P c x : Nat) + iI (w : Nat) = iI (cvn P c (x + 1) : Nat)) := by
      intro w hw
      rw [nadd, ← hw]; rfl
    rcases rt_c P (cba P c x).toNat with q | ⟨q1, q2⟩
    · have hw : cvw P c x = 0 := by
        unfold cvw
        rw [if_neg (fun z => by rw [z] at q; have := rt_0 hp; have q : rt P 0 = -6 := q; omega), if_pos q]
      rw [q, if_pos (show iI (-6) = -6 from rfl), nm_s, show iI (x : Nat) + iI 1 = iI ((x + 1 : Nat) : Int) from n1 x]
      have := step 0 hw
      rw [← this]
      congr 1
      rw [nadd]; rfl
    · rw [if_neg (by rw [show (-6 : Int32) = iI (-6) from rfl, iI_eq (by omega) (by omega) (by omega) (by omega)]; omega)]
      by_cases z : rt P (cba P c x).toNat = 0
      · have hz := rt_n0 (show (cba P c x).toNat < P by omega) z
        have hw : cvw P c x = 1 := by unfold cvw; rw [if_pos (by omega)]
        rw [z, if_pos (show iI 0 = 0 from rfl), nm_s, nm_s, show iI (x : Nat) + iI 1 = iI ((x + 1 : Nat) : Int) from n1 x]
        have := step 1 hw
        rw [← this]; rfl
      · have hw : cvw P c x = 2 := by
          unfold cvw
          rw [if_neg (fun e => z (by rw [e]; exact rt_0 hp)), if_neg (by omega)]
        rw [if_neg (by rw [show (0 : Int32) = iI 0 from rfl, iI_eq (by omega) (by omega) (by omega) (by omega)]; exact z), nm_s, nm_s, show iI (x : Nat) + iI 1 = iI ((x + 1 : Nat) : Int) from n1 x]
        have := step 2 hw
        rw [← this]; rfl
theorem rg_cb {K : Type} [Lean.Grind.CommRing K] {a0 a1 a2 a3 i t : K} (h : a0 * i = 1) : (((a3 * t + a2) * t + a1) * t + a0) * i = (((a3 * i) * t + a2 * i) * t + a1 * i) * t + 1 := by
  have e : (((a3 * t + a2) * t + a1) * t + a0) * i = (((a3 * i) * t + a2 * i) * t + a1 * i) * t + a0 * i := by grind
  rw [e, h]
theorem e_cubeAt {P : Nat} (hp : z_pr P = true) {c : Nat → Int} (hc : ∀ i, el P (c i)) (h0 : c 0 ≠ 0) {cr : Nat → Int32} (hcr : ∀ i, i < 4 → cr i = iI (c i)) {t : Int} (ht : el P t) : fX9_cubeAt (iI P) cr (iI t) = some (iI (cba P c t)) := by
  have := nz_of hp
  have L : ∀ n : Nat, n < 4 → p_ld cr 4 (iI (n : Nat)) = some (iI (c n)) := fun n hn => by rw [nld hn (by omega), hcr n hn]
  have L0 : p_ld cr 4 0 = some (iI (c 0)) := L 0 (by omega)
  have L1 : p_ld cr 4 1 = some (iI (c 1)) := L 1 (by omega)
  have L2 : p_ld cr 4 2 = some (iI (c 2)) := L 2 (by omega)
  have L3 : p_ld cr 4 3 = some (iI (c 3)) := L 3 (by omega)
  have bt := bd_el hp ht
  have b : ∀ (z : Int) (i : Nat), el P z → bd (z * t + c i) (198 * 198 + 198) := fun z i hz => bd_add (bd_mul (bd_el hp hz) bt) (bd_el hp (hc i))
  unfold fX9_cubeAt
  rw [L3, b1_s, L2, b1_s, iI_mul, iI_add, e_ob hp (b _ _ (hc 3)) (by decide), b1_s, L1, b1_s, iI_mul, iI_add, e_ob hp (b _ _ (el_mod hp _)) (by decide), b1_s, L0, b1_s, iI_mul, iI_add, e_ob hp (b _ _ (el_mod hp _)) (by decide), b1_s, b1_s, e_bz hp (el_mod hp _) (hc 0), b1_s]
  congr 2
  refine el_inj (el_mod hp _) (el_mod hp _) ?_
  have i0 := em_iv hp (hc 0) h0
  have f : ∀ n, n < 4 → em P (bf P c n) = em P (c n) * em P ((iv P (c 0).toNat : Nat) : Int) := fun n hn => by unfold bf; rw [if_pos hn, em_mod, em_mul]
  unfold cba
  simp only [em_mod, em_mul, em_add, em_1, f 1 (by omega), f 2 (by omega), f 3 (by omega)]
  exact rg_cb i0
theorem e_curve9 {P : Nat} (hp : z_pr P = true) {c : Nat → Int} (hc : ∀ i, el P (c i)) (h0 : c 0 ≠ 0) {cr : Nat → Int32} (hcr : ∀ i, i < 4 → cr i = iI (c i)) (kk : Int32 → Option (Int32 × Int32 × Int32 × Int32 × Int32 × Int32 × Int32 × Int32 × (Nat → Int32) × (Nat → Int32) × (Nat → Int32) × (Nat → Int32) × (Nat → Int32) × (Nat → Int32) × (Nat → Int32) × (Nat → Int32) × (Nat → Int32) × (Nat → Int32) × (Nat → Int32) × (Nat → Int32))) : gX9_curve_14 (iI P) cr kk p_FU 1 0 = kk (iI (cvn P c P : Nat)) := by
  have hb := pr_rng hp
  have key := fn (fun n x (_ : Unit) => gX9_curve_14 (iI P) cr kk n (iI (cvn P c x : Nat)) (iI (x : Nat))) P (fun _ _ => True) (fun o => o = kk (iI (cvn P c P : Nat))) ?_ ?_ p_FU 0 () (by omega) trivial (by have := FU_big; omega)
  · exact key
  · intro n _ _
    show FgX9_curve_14 (iI P) cr (gX9_curve_14 (iI P) cr kk n) kk (iI (cvn P c P : Nat)) (iI (P : Nat)) = _
    unfold FgX9_curve_14
    rw [if_pos (Int32.le_refl _)]
  · intro n x _ hx _
    refine ⟨(), trivial, ?_⟩
    show FgX9_curve_14 (iI P) cr (gX9_curve_14 (iI P) cr kk n) kk (iI (cvn P c x : Nat)) (iI (x : Nat)) = _
    have hv : el P (cba P c x) := el_mod hp _
    have hvl := hv.2
    have hv0 := hv.1
    have step : ∀ w : Nat, cvw P c x = w → (iI (cvn P c x : Nat) + iI (w : Nat) = iI (cvn P c (x + 1) : Nat)) := by
      intro w hw
      rw [nadd, ← hw]; rfl
    have er : fX9_rootOf (iI P) (iI (cba P c x)) = some (iI (rt P (cba P c x).toNat)) := by
      have := e_root9 hp (x := (cba P c x).toNat) (by omega)
      rw [Int.toNat_of_nonneg hv0] at this; exact this
    unfold FgX9_curve_14 jX9_curve_50
    rw [if_neg (by rw [nle (by omega) (by omega)]; omega), e_cubeAt hp hc h0 hcr (el_of hx), b1_s]
    by_cases z : cba P c x = 0
    · have hw : cvw P c x = 1 := by unfold cvw; rw [if_pos z]
      rw [if_pos ((el_0 hp hv).mpr z), nm_s, nm_s, n1 x]
      have := step 1 hw
      rw [← this]; rfl
    · rw [if_neg (fun e => z ((el_0 hp hv).mp e)), er, b1_s]
      rcases rt_c P (cba P c x).toNat with q | ⟨q1, q2⟩
      · have hw : cvw P c x = 0 := by unfold cvw; rw [if_neg z, if_pos q]
        rw [q, if_pos (show iI (-6) < 0 by decide), nm_s, nm_s, n1 x]
        have := step 0 hw
        rw [← this]; rfl
      · have hw : cvw P c x = 2 := by unfold cvw; rw [if_neg z, if_neg (by omega)]
        rw [if_neg (by rw [show (0 : Int32) = iI 0 from rfl, iI_lt (by omega) (by omega) (by omega) (by omega)]; omega), nm_s, nm_s, n1 x]
        have := step 2 hw
        rw [← this]; rfl
