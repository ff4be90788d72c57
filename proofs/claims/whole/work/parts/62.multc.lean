/-! multiples: the class and the reference -/
/-- rows of the class for the multiples below N -/
def MulOK (P : Nat) (c : Nat → Int) (N : Nat) (acr ups : Nat → Int32) : Prop := acr 0 = iI (-6) ∧ ups 0 = iI (-6) ∧ ∀ j, 1 ≤ j → j < N → ∃ t y, mlt P c j = some (t, y) ∧ acr j = iI t ∧ ups j = iI y
theorem slp_c {P : Nat} (hp : z_pr P = true) {c : Nat → Int} {t y : Int} (h0 : t ≠ 0) : ((y - 1) * (iv P t.toNat : Nat)) % P = slp P c t y := by
  have := nz_of hp
  refine el_inj (el_mod hp _) (slp_el hp c t y) ?_
  unfold slp
  rw [if_neg h0, em_mod, em_mod, em_mul, em_mul, em_mod]
theorem adT_c {P : Nat} (hp : z_pr P = true) (c : Nat → Int) (t y : Int) : ((slp P c t y * slp P c t y - bf P c 2) * (iv P (bf P c 3).toNat : Nat) - t) % P = adT P c t y := by
  have := nz_of hp
  refine el_inj (el_mod hp _) (el_mod hp _) ?_
  unfold adT
  simp only [em_mod, em_sub, em_mul]
theorem e_mul_step {P : Nat} (hp : z_pr P = true) {inv roots : Nat → Int32} (hN : NumOK P inv roots) {c : Nat → Int} {t y : Int} (ht : el P t) (hy : el P y) {k : Nat} (hk : k < 256) (acr ups : Nat → Int32) (rc : Int32 → Int32 → Int32 → (Nat → Int32) → (Nat → Int32) → Option (Int32 × (Nat → Int32) × (Nat → Int32))) :
    jX1_findMultiples_81 (iI P) inv (iI (bf P c 1)) (iI (bf P c 2)) (iI (iv P (bf P c 3).toNat : Nat)) (iI t) (iI y) (iI (k : Nat)) acr ups rc = rc (iI (adT P c t y)) (iI (adY P c t y)) (iI ((k + 1 : Nat) : Int)) (upd acr k (iI t)) (upd ups k (iI y)) := by
  have hb := pr_rng hp
  have b1 := bd_el hp (bf_el hp c 1)
  have b2 := bd_el hp (bf_el hp c 2)
  have bi := bd_el hp (el_iv hp (bf P c 3).toNat)
  have bs := bd_el hp (slp_el hp c t y)
  have bt := bd_el hp ht
  have b1l : bd 1 1 := bd_lit 1
  -- behind the slope
  have tail : ∀ (z : Int) (B : Nat), bd z B → B < 2147483648 → z % P = slp P c t y → ∀ u1 u2 : Nat → Int32, jX1_findMultiples_131 (iI P) (iI (bf P c 2)) (iI (iv P (bf P c 3).toNat : Nat)) (iI t) (iI (k : Nat)) rc u1 u2 (iI z) = rc (iI (adT P c t y)) (iI (adY P c t y)) (iI ((k + 1 : Nat) : Int)) u1 u2 := by
    intro z B hz hB he u1 u2
    unfold jX1_findMultiples_131
    rw [e_rb hp hz hB, b1_s, he, iI_mul, iI_sub, iI_mul, iI_sub, e_rb hp (bd_sub (bd_mul (bd_sub (bd_mul bs bs) b2) bi) bt) (by decide), b1_s, adT_c hp, iI_neg, iI_mul, show (1 : Int32) = iI 1 from rfl, iI_sub, e_rb hp (bd_sub (bd_mul (bd_neg bs) (bd_el hp (show el P (adT P c t y) from el_mod hp _))) b1l) (by decide), b1_s, nm_s]
    have e : (-slp P c t y * adT P c t y - 1) % P = adY P c t y := by
      unfold adY
      congr 1
      rw [Int.neg_mul]; omega
    rw [e, show iI (k : Nat) + iI 1 = iI ((k + 1 : Nat) : Int) from n1 k]
  unfold jX1_findMultiples_81
  rw [nst hk (by omega), b1_s, nst hk (by omega), b1_s]
  by_cases h0 : t = 0
  · rw [if_pos ((el_0 hp ht).mpr h0), show (2 : Int32) = iI ((2 : Nat) : Int) from rfl, e_inv hp hN (show 2 < P by omega), b1_s, iI_mul]
    exact tail _ _ (bd_mul b1 (bd_el hp (el_iv hp 2))) (by decide) (by unfold slp; rw [if_pos h0]) _ _
  · rw [if_neg (fun q => h0 ((el_0 hp ht).mp q)), e_iz hp hN ht, b1_s, show (1 : Int32) = iI 1 from rfl, iI_sub, iI_mul]
    exact tail _ _ (bd_mul (bd_sub (bd_el hp hy) b1l) (bd_el hp (el_iv hp t.toNat))) (by decide) (slp_c hp h0) _ _
theorem adp_none {P : Nat} {c : Nat → Int} {t y : Int} (h : adp P c (some (t, y)) = none) : t = 0 ∧ y ≠ 1 := by
  by_cases hn : t = 0 ∧ y ≠ 1
  · exact hn
  · have h : (if t = 0 ∧ y ≠ 1 then none else some (adT P c t y, adY P c t y)) = none := h
    rw [if_neg hn] at h; cases h
theorem adp_some {P : Nat} {c : Nat → Int} {t y : Int} (h : adp P c (some (t, y)) ≠ none) : ¬ (t = 0 ∧ y ≠ 1) ∧ adp P c (some (t, y)) = some (adT P c t y, adY P c t y) := by
  by_cases hn : t = 0 ∧ y ≠ 1
  · exact absurd (show (if t = 0 ∧ y ≠ 1 then none else some (adT P c t y, adY P c t y)) = none by rw [if_pos hn]) h
  · exact ⟨hn, show (if t = 0 ∧ y ≠ 1 then none else some (adT P c t y, adY P c t y)) = _ by rw [if_neg hn]⟩
/-- over 0 there is ONE and its like below -/
theorem low_y {P : Nat} (hp : z_pr P = true) [NeZero P] {c : Nat → Int} {y : Int} (hy : el P y) (ho : oc (em P (bf P c 1)) (em P (bf P c 2)) (em P (bf P c 3)) (em P 0) (em P y)) (h1 : y ≠ 1) : y = (-1) % P := by
  have hb := pr_rng hp
  unfold oc at ho
  rw [em_0] at ho
  have ho : em P y * em P y = 1 := by rw [ho]; grind
  have ny : em P y - 1 ≠ 0 := by
    intro z
    refine h1 (el_inj hy ⟨by omega, by omega⟩ ?_)
    rw [em_1]; clear ho; grind
  have := fin_mul0 hp ny (x := em P y + 1) (y := 0) (by grind)
  refine el_inj hy (el_mod hp _) ?_
  rw [em_mod, em_neg, em_1]
  clear ho; grind
theorem e_multiples {P : Nat} (hp : z_pr P = true) {inv roots : Nat → Int32} (hN : NumOK P inv roots) {c : Nat → Int} (hc : ∀ i, el P (c i)) (h3 : bf P c 3 ≠ 0) {N : Nat} (hO : isOrd P c N) (cl : Int32) (acr ups : Nat → Int32) :
    ∃ acr' ups', MulOK P c N acr' ups' ∧ fX1_findMultiples cl (iI (c 0)) (iI (c 1)) (iI (c 2)) (iI (c 3)) (iI P) inv acr ups = some (iI (N : Nat), acr', ups') := by
  have := nz_of hp
  have hb := pr_rng hp
  obtain ⟨o1, o2, o3, o4⟩ := hO
  have p1 : fX0_partByFirst (iI (c 0)) (iI (c 1)) (iI (c 2)) (iI (c 3)) (iI P) inv 1 = some (iI (bf P c 1)) := e_part hp hN hc (k := 1) (by omega)
  have p2 : fX0_partByFirst (iI (c 0)) (iI (c 1)) (iI (c 2)) (iI (c 3)) (iI P) inv 2 = some (iI (bf P c 2)) := e_part hp hN hc (k := 2) (by omega)
  have p3 : fX0_partByFirst (iI (c 0)) (iI (c 1)) (iI (c 2)) (iI (c 3)) (iI P) inv 3 = some (iI (bf P c 3)) := e_part hp hN hc (k := 3) (by omega)
  have pm : fX4_rest (iI P) (-1) = some (iI ((-1) % P)) := by
    rw [show (-1 : Int32) = iI (-1) from rfl]; exact e_rb hp (bd_neg (bd_lit 1)) (by decide)
  have hm1 : (-1 : Int) % P = P - 1 := by
    rw [show (-1 : Int) = (P - 1) + P * (-1) by omega, Int.add_mul_emod_self_left, Int.emod_eq_of_lt (by omega) (by omega)]
  unfold fX1_findMultiples
  rw [p1, b1_s, p2, b1_s, p3, b1_s, e_iz hp hN (bf_el hp c 3), b1_s, pm, b1_s, show (0 : Int32) = iI ((0 : Nat) : Int) from rfl, nst (by omega) (by omega), b1_s, nst (by omega) (by omega), b1_s]
  have key := wl (σ := (Int × Int) × Nat × (Nat → Int32) × (Nat → Int32)) (fun n b => gX1_findMultiples_61 (iI P) inv (iI (bf P c 1)) (iI (bf P c 2)) (iI (iv P (bf P c 3).toNat : Nat)) (iI ((-1) % P)) kX1_findMultiples_189 n (iI b.1.1) (iI b.1.2) (iI (b.2.1 : Nat)) b.2.2.1 b.2.2.2) (fun b => 1 ≤ b.2.1 ∧ b.2.1 < N ∧ mlt P c b.2.1 = some b.1 ∧ MulOK P c b.2.1 b.2.2.1 b.2.2.2) (fun b => N - b.2.1) (fun o => ∃ acr' ups', MulOK P c N acr' ups' ∧ o = some (iI (N : Nat), acr', ups')) ?_ p_FU ((0, 1), 1, upd acr 0 (-6), upd ups 0 (-6)) ⟨by show 1 ≤ 1; omega, by show 1 < N; omega, rfl, (pk_us : upd acr 0 (-6) 0 = -6), (pk_us : upd ups 0 (-6) 0 = -6), fun j h1 h2 => by have h2 : j < 1 := h2; omega⟩ (by show N - 1 < p_FU; have := FU_big; omega)
  · exact key
  intro n ⟨⟨t, y⟩, k, ac, up⟩ ⟨i1, i2, i3, i4⟩
  have i1 : 1 ≤ k := i1
  have i2 : k < N := i2
  have i3 : mlt P c k = some (t, y) := i3
  have i4 : MulOK P c k ac up := i4
  obtain ⟨et, ey, ho⟩ := mlt_ok hp h3 k t y i3
  have hnext : mlt P c (k + 1) = adp P c (some (t, y)) := by show adp P c (mlt P c k) = _; rw [i3]
  have hM : MulOK P c (k + 1) (upd ac k (iI t)) (upd up k (iI y)) := by
    refine ⟨by rw [pk_un (by omega)]; exact i4.1, by rw [pk_un (by omega)]; exact i4.2.1, fun j h1 h2 => ?_⟩
    by_cases e : j = k
    · subst e
      exact ⟨t, y, i3, pk_us, pk_us⟩
    · rw [pk_un e, pk_un e]
      exact i4.2.2 j h1 (by omega)
  have kk : kX1_findMultiples_189 (iI t) (iI y) (iI (k : Nat)) ac up = some (iI ((k + 1 : Nat) : Int), upd ac k (iI t), upd up k (iI y)) := by
    unfold kX1_findMultiples_189
    rw [nst (by omega) (by omega), b1_s, nst (by omega) (by omega), b1_s, nm_s, n1]
  show (∃ acr' ups', MulOK P c N acr' ups' ∧ FgX1_findMultiples_61 (iI P) inv (iI (bf P c 1)) (iI (bf P c 2)) (iI (iv P (bf P c 3).toNat : Nat)) (iI ((-1) % P)) (gX1_findMultiples_61 (iI P) inv (iI (bf P c 1)) (iI (bf P c 2)) (iI (iv P (bf P c 3).toNat : Nat)) (iI ((-1) % P)) kX1_findMultiples_189 n) kX1_findMultiples_189 (iI t) (iI y) (iI (k : Nat)) ac up = some (iI (N : Nat), acr', ups')) ∨ ∃ s', _ ∧ _ ∧ FgX1_findMultiples_61 (iI P) inv (iI (bf P c 1)) (iI (bf P c 2)) (iI (iv P (bf P c 3).toNat : Nat)) (iI ((-1) % P)) (gX1_findMultiples_61 (iI P) inv (iI (bf P c 1)) (iI (bf P c 2)) (iI (iv P (bf P c 3).toNat : Nat)) (iI ((-1) % P)) kX1_findMultiples_189 n) kX1_findMultiples_189 (iI t) (iI y) (iI (k : Nat)) ac up = _
  unfold FgX1_findMultiples_61
  by_cases e : k + 1 = N
  · left
    rw [e] at hnext hM kk
    rw [o3] at hnext
    obtain ⟨z1, z2⟩ := adp_none hnext.symm
    refine ⟨_, _, hM, ?_⟩
    rw [z1] at ho
    have hy := low_y hp ey ho z2
    by_cases c1 : 255 ≤ k
    · rw [if_pos (by rw [show (255 : Int32) = iI ((255 : Nat) : Int) from rfl, nle (by omega) (by omega)]; exact c1), kk]
    · rw [if_neg (by rw [show (255 : Int32) = iI ((255 : Nat) : Int) from rfl, nle (by omega) (by omega)]; exact c1), if_pos ((el_0 hp et).mpr z1), if_pos (by rw [hy]), kk]
  · right
    have hne := o4 (k + 1) (by omega) (by omega)
    rw [hnext] at hne
    obtain ⟨z1, z2⟩ := adp_some hne
    rw [z2] at hnext
    refine ⟨((adT P c t y, adY P c t y), k + 1, upd ac k (iI t), upd up k (iI y)), ⟨by show 1 ≤ k + 1; omega, by show k + 1 < N; omega, hnext, hM⟩, by show N - (k + 1) < N - k; omega, ?_⟩
    rw [if_neg (by rw [show (255 : Int32) = iI ((255 : Nat) : Int) from rfl, nle (by omega) (by omega)]; omega)]
    by_cases h0 : t = 0
    · have hy1 : y = 1 := by
        by_cases q : y = 1
        · exact q
        · exact absurd ⟨h0, q⟩ z1
      rw [if_pos ((el_0 hp et).mpr h0), if_neg (by rw [hy1, hm1, iI_eq (by omega) (by omega) (by omega) (by omega)]; omega), e_mul_step hp hN et ey (by omega)]
    · rw [if_neg (fun q => h0 ((el_0 hp et).mp q)), e_mul_step hp hN et ey (by omega)]
/-- what a multiple shows: across and up, or -6 -/
def mT (q : Option (Int × Int)) : Int := match q with
  | none => -6
  | some z => z.1
def mY (q : Option (Int × Int)) : Int := match q with
  | none => -6
  | some z => z.2
theorem mul_at {P : Nat} {c : Nat → Int} {N : Nat} (hO : isOrd P c N) {acr ups : Nat → Int32} (h : MulOK P c N acr ups) (k : Nat) : acr (k % N) = iI (mT (mlt P c k)) ∧ ups (k % N) = iI (mY (mlt P c k)) := by
  obtain ⟨o1, o2, o3, o4⟩ := hO
  rw [← mlt_mod o3 k]
  have hl := Nat.mod_lt k (show 0 < N by omega)
  by_cases e : k % N = 0
  · rw [e]; exact ⟨h.1, h.2.1⟩
  · obtain ⟨t, y, h1, h2, h3⟩ := h.2.2 (k % N) (by omega) hl
    rw [h1]; exact ⟨h2, h3⟩
theorem e_across {P : Nat} {c : Nat → Int} {N : Nat} (hO : isOrd P c N) {acr ups : Nat → Int32} (h : MulOK P c N acr ups) {k : Nat} (hk : k ≤ 100000) : fX1_acrossAt (iI (N : Nat)) acr (iI (k : Nat)) = some (iI (mT (mlt P c k))) ∧ fX1_upAt (iI (N : Nat)) ups (iI (k : Nat)) = some (iI (mY (mlt P c k))) := by
  have hm := mul_at hO h k
  obtain ⟨o1, o2, o3, o4⟩ := hO
  have hl := Nat.mod_lt k (show 0 < N by omega)
  have c1 : ¬ iI (k : Nat) < 0 := by rw [show (0 : Int32) = iI ((0 : Nat) : Int) from rfl, nlt (by omega) (by omega)]; omega
  have c2 : (1 : Int32) ≤ iI (N : Nat) := by rw [show (1 : Int32) = iI ((1 : Nat) : Int) from rfl, nle (by omega) (by omega)]; omega
  unfold fX1_acrossAt fX1_upAt
  rw [if_neg c1, if_pos c2, nrm (by omega) (by omega) (by omega), b1_s, nld (by omega) (by omega), b1_s, if_neg c1, if_pos c2, b1_s, nld (by omega) (by omega), b1_s, hm.1, hm.2]
  exact ⟨rfl, rfl⟩
-- the reference
def relM (i t y : Int32) (q : Option (Int × Int)) : Prop := match q with
  | none => i = 1
  | some z => i = 0 ∧ t = iI z.1 ∧ y = iI z.2
theorem e_addOne {P : Nat} (hp : z_pr P = true) {c : Nat → Int} (hc : ∀ i, el P (c i)) {cr : Nat → Int32} (hcr : ∀ i, i < 4 → cr i = iI (c i)) {q : Option (Int × Int)} (hq : ∀ t y, q = some (t, y) → el P t ∧ el P y) {i t y : Int32} (h : relM i t y q) : ∃ i' t' y', relM i' t' y' (adp P c q) ∧ fX9_addOne i (iI P) t y cr = some (i', t', y') := by
  have hb := pr_rng hp
  match q, hq, h with
  | none, _, h =>
    have h : i = 1 := h
    refine ⟨0, 0, 1, ⟨rfl, rfl, rfl⟩, ?_⟩
    unfold fX9_addOne
    rw [h, if_neg (by decide)]
  | some (a, b), hq, h =>
    obtain ⟨h1, h2, h3⟩ := h
    have h2 : t = iI a := h2
    have h3 : y = iI b := h3
    obtain ⟨ea, eb⟩ := hq a b rfl
    have L : ∀ n : Nat, n < 4 → p_ld cr 4 (iI (n : Nat)) = some (iI (c n)) := fun n hn => by rw [nld hn (by omega), hcr n hn]
    have L0 : p_ld cr 4 0 = some (iI (c 0)) := L 0 (by omega)
    have L1 : p_ld cr 4 1 = some (iI (c 1)) := L 1 (by omega)
    have L2 : p_ld cr 4 2 = some (iI (c 2)) := L 2 (by omega)
    have L3 : p_ld cr 4 3 = some (iI (c 3)) := L 3 (by omega)
    have B : ∀ n, n < 4 → fX9_by (iI P) (iI (c n)) (iI (c 0)) = some (iI (bf P c n)) := fun n hn => by
      rw [e_bz hp (hc n) (hc 0)]; unfold bf; rw [if_pos hn]
    have bs := bd_el hp (slp_el hp c a b)
    have tail : jX9_addOne_126 (iI P) 0 (iI a) (iI (bf P c 3)) (iI (bf P c 2)) (iI (slp P c a b)) = some (0, iI (adT P c a b), iI (adY P c a b)) := by
      unfold jX9_addOne_126
      rw [iI_mul, iI_sub, e_ob hp (bd_sub (bd_mul bs bs) (bd_el hp (bf_el hp c 2))) (by decide), b1_s, e_bz hp (el_mod hp _) (bf_el hp c 3), b1_s, iI_sub, e_ob hp (bd_sub (bd_el hp (el_mod hp _)) (bd_el hp ea)) (by decide), b1_s]
      show p_b1 (fX9_of (iI P) (-(1 + iI (slp P c a b) * iI (adT P c a b)))) _ = _
      rw [iI_mul, show (1 : Int32) = iI 1 from rfl, iI_add, iI_neg, e_ob hp (bd_neg (bd_add (bd_lit 1) (bd_mul bs (bd_el hp (show el P (adT P c a b) from el_mod hp _))))) (by decide), b1_s]
      rfl
    by_cases hn : a = 0 ∧ b ≠ 1
    · refine ⟨1, t, y, ?_, ?_⟩
      · show relM 1 t y (if a = 0 ∧ b ≠ 1 then none else some (adT P c a b, adY P c a b))
        rw [if_pos hn]; rfl
      · unfold fX9_addOne
        rw [h1, if_pos rfl, L3, b1_s, L0, b1_s, B 3 (by omega), b1_s, L2, b1_s, b1_s, B 2 (by omega), b1_s, L1, b1_s, b1_s, B 1 (by omega), b1_s, h2, h3, if_pos ((el_0 hp ea).mpr hn.1), if_neg (by rw [show (1 : Int32) = iI 1 from rfl, iI_eq (el_32 hp eb).1 (el_32 hp eb).2 (by omega) (by omega)]; exact hn.2)]
    · refine ⟨0, iI (adT P c a b), iI (adY P c a b), ?_, ?_⟩
      · show relM 0 _ _ (if a = 0 ∧ b ≠ 1 then none else some (adT P c a b, adY P c a b))
        rw [if_neg hn]; exact ⟨rfl, rfl, rfl⟩
      · unfold fX9_addOne
        rw [h1, if_pos rfl, L3, b1_s, L0, b1_s, B 3 (by omega), b1_s, L2, b1_s, b1_s, B 2 (by omega), b1_s, L1, b1_s, b1_s, B 1 (by omega), b1_s, h2, h3]
        by_cases h0 : a = 0
        · have hb1 : b = 1 := by
            by_cases z : b = 1
            · exact z
            · exact absurd ⟨h0, z⟩ hn
          have es : fX9_by (iI P) (iI (bf P c 1)) 2 = some (iI (slp P c a b)) := by
            rw [show (2 : Int32) = iI 2 from rfl, e_bz hp (bf_el hp c 1) ⟨by omega, by omega⟩]
            unfold slp
            rw [if_pos h0]; rfl
          rw [if_pos ((el_0 hp ea).mpr h0), if_pos (by rw [hb1]; rfl), es, b1_s]
          exact tail
        · have es : fX9_by (iI P) (iI ((b - 1) % P)) (iI a) = some (iI (slp P c a b)) := by
            rw [e_bz hp (el_mod hp _) ea]
            unfold slp
            rw [if_neg h0]
          rw [if_neg (fun z => h0 ((el_0 hp ea).mp z)), show (1 : Int32) = iI 1 from rfl, iI_sub, e_ob hp (bd_sub (bd_el hp eb) (bd_lit 1)) (by decide), b1_s, es, b1_s]
          exact tail
theorem e_mulOf {P : Nat} (hp : z_pr P = true) {c : Nat → Int} (hc : ∀ i, el P (c i)) (h3 : bf P c 3 ≠ 0) {cr : Nat → Int32} (hcr : ∀ i, i < 4 → cr i = iI (c i)) {k : Nat} (hk : k ≤ 1000) (a b d : Int32) : ∃ i t y, relM i t y (mlt P c k) ∧ fX9_multipleOf a (iI P) b d cr (iI (k : Nat)) = some (i, t, y) := by
  have := nz_of hp
  unfold fX9_multipleOf
  refine fn (fun n x (b : Int32 × Int32 × Int32) => gX9_multipleOf_17 (iI P) cr (iI (k : Nat)) kX9_multipleOf_32 n (iI (x : Nat)) b.1 b.2.1 b.2.2) k (fun x b => relM b.1 b.2.1 b.2.2 (mlt P c x)) (fun o => ∃ i t y, relM i t y (mlt P c k) ∧ o = some (i, t, y)) ?_ ?_ p_FU 0 (1, 0, 0) (by omega) rfl (by have := FU_big; omega)
  · intro n b h
    refine ⟨b.1, b.2.1, b.2.2, h, ?_⟩
    show FgX9_multipleOf_17 (iI P) cr (iI (k : Nat)) (gX9_multipleOf_17 (iI P) cr (iI (k : Nat)) kX9_multipleOf_32 n) kX9_multipleOf_32 (iI (k : Nat)) b.1 b.2.1 b.2.2 = _
    unfold FgX9_multipleOf_17
    rw [if_pos (Int32.le_refl _)]; rfl
  · intro n x b hx h
    obtain ⟨i', t', y', g1, g2⟩ := e_addOne hp hc hcr (fun t y e => ⟨(mlt_ok hp h3 x t y e).1, (mlt_ok hp h3 x t y e).2.1⟩) h
    refine ⟨(i', t', y'), g1, ?_⟩
    show FgX9_multipleOf_17 (iI P) cr (iI (k : Nat)) (gX9_multipleOf_17 (iI P) cr (iI (k : Nat)) kX9_multipleOf_32 n) kX9_multipleOf_32 (iI (x : Nat)) b.1 b.2.1 b.2.2 = _
    unfold FgX9_multipleOf_17
    rw [if_neg (by rw [nle (by omega) (by omega)]; omega), g2, b3_s, nm_s, n1]
theorem e_ordOf {P : Nat} (hp : z_pr P = true) {c : Nat → Int} (hc : ∀ i, el P (c i)) (h3 : bf P c 3 ≠ 0) {cr : Nat → Int32} (hcr : ∀ i, i < 4 → cr i = iI (c i)) {N : Nat} (hO : isOrd P c N) (a b d : Int32) : ∃ i t y, fX9_orderOf a (iI P) b d cr = some (iI (N : Nat), i, t, y) := by
  have := nz_of hp
  obtain ⟨o1, o2, o3, o4⟩ := hO
  obtain ⟨i, t, y, h1, h2⟩ := e_mulOf hp hc h3 hcr (k := 1) (by omega) a b d
  unfold fX9_orderOf
  have h2 : fX9_multipleOf a (iI P) b d cr 1 = some (i, t, y) := h2
  rw [h2, b3_s]
  refine wl (σ := Nat × Int32 × Int32 × Int32) (fun n b => gX9_orderOf_7 (iI P) cr kX9_orderOf_24 n (iI (b.1 : Nat)) b.2.1 b.2.2.1 b.2.2.2) (fun b => 1 ≤ b.1 ∧ b.1 ≤ N ∧ relM b.2.1 b.2.2.1 b.2.2.2 (mlt P c b.1)) (fun b => N - b.1) (fun o => ∃ i t y, o = some (iI (N : Nat), i, t, y)) ?_ p_FU (1, i, t, y) ⟨by show 1 ≤ 1; omega, by show 1 ≤ N; omega, h1⟩ (by show N - 1 < p_FU; have := FU_big; omega)
  intro n ⟨k, i, t, y⟩ ⟨i1, i2, i3⟩
  have i1 : 1 ≤ k := i1
  have i2 : k ≤ N := i2
  have i3 : relM i t y (mlt P c k) := i3
  show (∃ i' t' y', FgX9_orderOf_7 (iI P) cr (gX9_orderOf_7 (iI P) cr kX9_orderOf_24 n) kX9_orderOf_24 (iI (k : Nat)) i t y = some (iI (N : Nat), i', t', y')) ∨ ∃ s', _ ∧ _ ∧ FgX9_orderOf_7 (iI P) cr (gX9_orderOf_7 (iI P) cr kX9_orderOf_24 n) kX9_orderOf_24 (iI (k : Nat)) i t y = _
  unfold FgX9_orderOf_7
  by_cases e : k = N
  · left
    subst e
    rw [o3] at i3
    have i3 : i = 1 := i3
    exact ⟨i, t, y, by rw [i3, if_neg (by decide)]; rfl⟩
  · right
    have hne := o4 k i1 (by omega)
    have hi : i = 0 := by
      cases hq : mlt P c k with
      | none => exact absurd hq hne
      | some z => rw [hq] at i3; exact i3.1
    obtain ⟨i', t', y', g1, g2⟩ := e_addOne hp hc hcr (fun t y e => ⟨(mlt_ok hp h3 k t y e).1, (mlt_ok hp h3 k t y e).2.1⟩) i3
    refine ⟨(k + 1, i', t', y'), ⟨by show 1 ≤ k + 1; omega, by show k + 1 ≤ N; omega, g1⟩, by show N - (k + 1) < N - k; omega, ?_⟩
    rw [if_pos hi, g2, b3_s, nm_s, n1]
