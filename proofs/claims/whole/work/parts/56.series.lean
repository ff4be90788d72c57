/-! the series -/
/-- the parts of the cubic by its first one -/
def bf (P : Nat) (c : Nat → Int) (k : Nat) : Int := if k < 4 then c k * (iv P (c 0).toNat : Nat) % P else 0
theorem bf_el {P : Nat} (hp : z_pr P = true) (c : Nat → Int) (k : Nat) : el P (bf P c k) := by
  have := pr_rng hp
  unfold bf
  split
  · exact el_mod hp _
  · exact ⟨by omega, by omega⟩
def sm (S : Nat → Int) (b : Int) (k : Nat) : Nat → Int
  | 0 => b
  | j + 1 => sm S b k j - S (j + 1) * S (k - (j + 1))
theorem sm_congr {S S' : Nat → Int} (b : Int) {k : Nat} (h : ∀ i, i < k → S i = S' i) : ∀ j, j < k → sm S b k j = sm S' b k j := by
  intro j
  induction j with
  | zero => intro _; rfl
  | succ j ih =>
    intro hj
    show sm S b k j - S (j + 1) * S (k - (j + 1)) = sm S' b k j - S' (j + 1) * S' (k - (j + 1))
    rw [ih (by omega), h (j + 1) hj, h (k - (j + 1)) (by omega)]
def sf (P : Nat) (c : Nat → Int) : Nat → Nat → Int
  | 0 => fun i => if i = 0 then 1 else 0
  | k + 1 => fun i => if i = k + 1 then (sm (sf P c k) (bf P c (k + 1)) (k + 1) k % P * (iv P 2 : Nat)) % P else sf P c k i
theorem sf_el {P : Nat} (hp : z_pr P = true) (c : Nat → Int) : ∀ k i, el P (sf P c k i) := by
  have := pr_rng hp
  intro k
  induction k with
  | zero =>
    intro i
    show el P (if i = 0 then 1 else 0)
    split <;> exact ⟨by omega, by omega⟩
  | succ k ih =>
    intro i
    show el P (if i = k + 1 then (sm (sf P c k) (bf P c (k + 1)) (k + 1) k % P * (iv P 2 : Nat)) % P else sf P c k i)
    split
    · exact el_mod hp _
    · exact ih i
theorem sf_stab (P : Nat) (c : Nat → Int) {i k : Nat} (h : i ≤ k) : ∀ d, sf P c (k + d) i = sf P c k i := by
  intro d
  induction d with
  | zero => rfl
  | succ d ih =>
    show (if i = k + d + 1 then _ else sf P c (k + d) i) = _
    rw [if_neg (by omega), ih]
def ser (P : Nat) (c : Nat → Int) (i : Nat) : Int := sf P c 31 i
theorem ser_el {P : Nat} (hp : z_pr P = true) (c : Nat → Int) (i : Nat) : el P (ser P c i) := sf_el hp c 31 i
theorem ser_at (P : Nat) (c : Nat → Int) {i k : Nat} (h : i ≤ k) (hk : k ≤ 31) : ser P c i = sf P c k i := by
  have := sf_stab P c h (31 - k)
  rw [show k + (31 - k) = 31 by omega] at this; exact this
theorem ser_rec (P : Nat) (c : Nat → Int) {k : Nat} (h1 : 1 ≤ k) (h2 : k ≤ 31) : ser P c k = (sm (ser P c) (bf P c k) k (k - 1) % P * (iv P 2 : Nat)) % P := by
  obtain ⟨q, rfl⟩ : ∃ q, k = q + 1 := ⟨k - 1, by omega⟩
  rw [ser_at P c (Nat.le_refl (q + 1)) h2]
  show (if q + 1 = q + 1 then (sm (sf P c q) (bf P c (q + 1)) (q + 1) q % P * (iv P 2 : Nat)) % P else _) = _
  rw [if_pos rfl, Nat.add_sub_cancel, sm_congr (S := sf P c q) (S' := ser P c) _ (fun i hi => (ser_at P c (show i ≤ q by omega) (by omega)).symm) q (by omega)]
theorem ser_0 (P : Nat) (c : Nat → Int) : ser P c 0 = 1 := ser_at P c (Nat.le_refl 0) (by omega)
theorem sm_bd {P : Nat} (hp : z_pr P = true) {S : Nat → Int} (hS : ∀ i, el P (S i)) {b : Int} (hb : el P b) (k : Nat) : ∀ j, bd (sm S b k j) (198 + j * (198 * 198)) := by
  intro j
  induction j with
  | zero => exact Nat.le_trans (bd_el hp hb) (by omega)
  | succ j ih =>
    have := bd_sub ih (bd_mul (bd_el hp (hS (j + 1))) (bd_el hp (hS (k - (j + 1)))))
    exact Nat.le_trans this (by omega)
theorem e_part {P : Nat} (hp : z_pr P = true) {inv roots : Nat → Int32} (hN : NumOK P inv roots) {c : Nat → Int} (hc : ∀ i, el P (c i)) {k : Nat} (hk : k < 1000) : fX0_partByFirst (iI (c 0)) (iI (c 1)) (iI (c 2)) (iI (c 3)) (iI P) inv (iI (k : Nat)) = some (iI (bf P c k)) := by
  unfold fX0_partByFirst fX0_part bf
  have b := fun i => bd_mul (bd_el hp (hc i)) (bd_el hp (el_iv hp (c 0).toNat))
  have q : ∀ i : Nat, i < 1000 → (iI (k : Nat) = iI (i : Nat) ↔ k = i) := fun i hi => neq (by omega) (by omega)
  rw [show (0 : Int32) = iI ((0 : Nat) : Int) from rfl, show (1 : Int32) = iI ((1 : Nat) : Int) from rfl, show (2 : Int32) = iI ((2 : Nat) : Int) from rfl, show (3 : Int32) = iI ((3 : Nat) : Int) from rfl]
  simp only [q 0 (by omega), q 1 (by omega), q 2 (by omega), q 3 (by omega)]
  rcases (show k = 0 ∨ k = 1 ∨ k = 2 ∨ k = 3 ∨ 4 ≤ k by omega) with rfl | rfl | rfl | rfl | h
  · rw [if_pos rfl, b1_s, e_iz hp hN (hc 0), b1_s, iI_mul, e_rb hp (b 0) (by decide), b1_s, if_pos (by omega)]
  · rw [if_neg (by omega), if_pos rfl, b1_s, e_iz hp hN (hc 0), b1_s, iI_mul, e_rb hp (b 1) (by decide), b1_s, if_pos (by omega)]
  · rw [if_neg (by omega), if_neg (by omega), if_pos rfl, b1_s, e_iz hp hN (hc 0), b1_s, iI_mul, e_rb hp (b 2) (by decide), b1_s, if_pos (by omega)]
  · rw [if_neg (by omega), if_neg (by omega), if_neg (by omega), if_pos rfl, b1_s, e_iz hp hN (hc 0), b1_s, iI_mul, e_rb hp (b 3) (by decide), b1_s, if_pos (by omega)]
  · have b0 : bd (((0 : Nat) : Int) * (iv P (c 0).toNat : Nat)) (0 * 198) := bd_mul (by show (0 : Int).natAbs ≤ 0; decide) (bd_el hp (el_iv hp (c 0).toNat))
    rw [if_neg (by omega), if_neg (by omega), if_neg (by omega), if_neg (by omega), b1_s, e_iz hp hN (hc 0), b1_s, iI_mul, e_rb hp b0 (by decide), b1_s, if_neg (by omega)]
    congr 2
    rw [show ((0 : Nat) : Int) = 0 from rfl, Int.zero_mul, Int.zero_emod]
theorem e_ser_in {P : Nat} (c : Nat → Int) {k : Nat} (h1 : 1 ≤ k) (h2 : k ≤ 31) {z : Nat → Int32} (hz : ∀ i, i < k → z i = iI (ser P c i)) (kk : Int32 → Option (Nat → Int32)) : gX6_take_34 (iI (k : Nat)) z kk p_FU (iI (bf P c k)) 1 = kk (iI (sm (ser P c) (bf P c k) k (k - 1))) := by
  have key := fn (fun n j (_ : Unit) => gX6_take_34 (iI (k : Nat)) z kk n (iI (sm (ser P c) (bf P c k) k j)) (iI ((j + 1 : Nat) : Int))) (k - 1) (fun _ _ => True) (fun o => o = kk (iI (sm (ser P c) (bf P c k) k (k - 1)))) ?_ ?_ p_FU 0 () (by omega) trivial (by have := FU_big; omega)
  · exact key
  · intro n _ _
    show FgX6_take_34 (iI (k : Nat)) z (gX6_take_34 (iI (k : Nat)) z kk n) kk (iI (sm (ser P c) (bf P c k) k (k - 1))) (iI ((k - 1 + 1 : Nat) : Int)) = _
    unfold FgX6_take_34
    rw [if_pos (by rw [nle (by omega) (by omega)]; omega)]
  · intro n j _ hj _
    refine ⟨(), trivial, ?_⟩
    show FgX6_take_34 (iI (k : Nat)) z (gX6_take_34 (iI (k : Nat)) z kk n) kk (iI (sm (ser P c) (bf P c k) k j)) (iI ((j + 1 : Nat) : Int)) = _
    unfold FgX6_take_34
    rw [if_neg (by rw [nle (by omega) (by omega)]; omega), nld (by omega) (by omega), b1_s, hz (j + 1) (by omega), nsub (by omega), nld (by omega) (by omega), b1_s, hz (k - (j + 1)) (by omega), iI_mul, iI_sub, nm_s, nm_s, n1]
    rfl
theorem e_series {P : Nat} (hp : z_pr P = true) {inv roots : Nat → Int32} (hN : NumOK P inv roots) {c : Nat → Int} (hc : ∀ i, el P (c i)) (parts : Nat → Int32) : ∃ parts', (∀ i, i < 32 → parts' i = iI (ser P c i)) ∧ fX6_take (iI (c 0)) (iI (c 1)) (iI (c 2)) (iI (c 3)) (iI P) inv parts = some parts' := by
  have hb := pr_rng hp
  unfold fX6_take
  rw [show (2 : Int32) = iI ((2 : Nat) : Int) from rfl, e_inv hp hN (show 2 < P by omega), b1_s, show (0 : Int32) = iI ((0 : Nat) : Int) from rfl, nst (by omega) (by omega), b1_s]
  have key := fn (fun n x (b : (Nat → Int32)) => gX6_take_18 (iI (c 0)) (iI (c 1)) (iI (c 2)) (iI (c 3)) (iI P) inv (iI (iv P 2 : Nat)) kX6_take_98 n (iI ((x + 1 : Nat) : Int)) b) 31 (fun x b => ∀ i, i < x + 1 → b i = iI (ser P c i)) (fun o => ∃ parts', (∀ i, i < 32 → parts' i = iI (ser P c i)) ∧ o = some parts') ?_ ?_ p_FU 0 (upd parts 0 1) (by omega) (fun i hi => ?_) (by have := FU_big; omega)
  · exact key
  · intro n b h
    refine ⟨b, h, ?_⟩
    show FgX6_take_18 (iI (c 0)) (iI (c 1)) (iI (c 2)) (iI (c 3)) (iI P) inv (iI (iv P 2 : Nat)) (gX6_take_18 (iI (c 0)) (iI (c 1)) (iI (c 2)) (iI (c 3)) (iI P) inv (iI (iv P 2 : Nat)) kX6_take_98 n) kX6_take_98 (iI ((31 + 1 : Nat) : Int)) b = _
    unfold FgX6_take_18
    rw [if_pos (by decide)]; rfl
  · intro n x b hx h
    have h30 : bd (sm (ser P c) (bf P c (x + 1)) (x + 1) x) (198 + 31 * (198 * 198)) := Nat.le_trans (sm_bd hp (ser_el hp c) (bf_el hp c (x + 1)) (x + 1) x) (by omega)
    refine ⟨upd b (x + 1) (iI (ser P c (x + 1))), fun i hi => ?_, ?_⟩
    · by_cases q : i = x + 1
      · rw [q, pk_us]
      · rw [pk_un q]; exact h i (by omega)
    · show FgX6_take_18 (iI (c 0)) (iI (c 1)) (iI (c 2)) (iI (c 3)) (iI P) inv (iI (iv P 2 : Nat)) (gX6_take_18 (iI (c 0)) (iI (c 1)) (iI (c 2)) (iI (c 3)) (iI P) inv (iI (iv P 2 : Nat)) kX6_take_98 n) kX6_take_98 (iI ((x + 1 : Nat) : Int)) b = _
      unfold FgX6_take_18
      rw [if_neg (by rw [show (31 : Int32) = iI ((31 : Nat) : Int) from rfl, nlt (by omega) (by omega)]; omega), e_part hp hN hc (by omega), b1_s, e_ser_in c (by omega) (by omega) h]
      unfold kX6_take_68
      rw [Nat.add_sub_cancel, e_rb hp h30 (by decide), b1_s, iI_mul, e_rb hp (bd_mul (bd_el hp (el_mod hp _)) (bd_el hp (el_iv hp 2))) (by decide), b1_s, nst (by omega) (by omega), b1_s, nm_s, n1, ser_rec P c (show 1 ≤ x + 1 by omega) (by omega), Nat.add_sub_cancel]
  · have : i = 0 := by omega
    subst this
    rw [pk_us, ser_0]; rfl
theorem e_ser_in9 {P : Nat} (hp : z_pr P = true) (c : Nat → Int) {k : Nat} (h1 : 1 ≤ k) (h2 : k ≤ 31) {z : Nat → Int32} (hz : ∀ i, i < k → z i = iI (ser P c i)) (kk : Int32 → Option (Nat → Int32)) : gX9_laySeries_36 (iI P) (iI (k : Nat)) z kk p_FU (iI (bf P c k)) 1 = kk (iI (sm (ser P c) (bf P c k) k (k - 1) % P)) := by
  have := nz_of hp
  have key := fn (fun n j (_ : Unit) => gX9_laySeries_36 (iI P) (iI (k : Nat)) z kk n (iI (sm (ser P c) (bf P c k) k j % P)) (iI ((j + 1 : Nat) : Int))) (k - 1) (fun _ _ => True) (fun o => o = kk (iI (sm (ser P c) (bf P c k) k (k - 1) % P))) ?_ ?_ p_FU 0 () (by omega) trivial (by have := FU_big; omega)
  · have e : sm (ser P c) (bf P c k) k 0 % P = bf P c k := el_eq (bf_el hp c k)
    rw [e] at key
    exact key
  · intro n _ _
    show FgX9_laySeries_36 (iI P) (iI (k : Nat)) z (gX9_laySeries_36 (iI P) (iI (k : Nat)) z kk n) kk (iI (sm (ser P c) (bf P c k) k (k - 1) % P)) (iI ((k - 1 + 1 : Nat) : Int)) = _
    unfold FgX9_laySeries_36
    rw [if_pos (by rw [nle (by omega) (by omega)]; omega)]
  · intro n j _ hj _
    refine ⟨(), trivial, ?_⟩
    show FgX9_laySeries_36 (iI P) (iI (k : Nat)) z (gX9_laySeries_36 (iI P) (iI (k : Nat)) z kk n) kk (iI (sm (ser P c) (bf P c k) k j % P)) (iI ((j + 1 : Nat) : Int)) = _
    unfold FgX9_laySeries_36
    have e : (sm (ser P c) (bf P c k) k j % P - ser P c (j + 1) * ser P c (k - (j + 1))) % P = sm (ser P c) (bf P c k) k (j + 1) % P := by
      refine el_inj (el_mod hp _) (el_mod hp _) ?_
      rw [em_mod, em_mod, em_sub, em_mod]
      show _ = em P (sm (ser P c) (bf P c k) k j - ser P c (j + 1) * ser P c (k - (j + 1)))
      rw [em_sub]
    rw [if_neg (by rw [nle (by omega) (by omega)]; omega), nld (by omega) (by omega), b1_s, hz (j + 1) (by omega), nsub (by omega), nld (by omega) (by omega), b1_s, hz (k - (j + 1)) (by omega), iI_mul, iI_sub, e_ob hp (bd_sub (bd_el hp (el_mod hp _)) (bd_mul (bd_el hp (ser_el hp c _)) (bd_el hp (ser_el hp c _)))) (by decide), b1_s, nm_s, n1, e]
theorem e_series9 {P : Nat} (hp : z_pr P = true) {c : Nat → Int} (hc : ∀ i, el P (c i)) {cr : Nat → Int32} (hcr : ∀ i, i < 4 → cr i = iI (c i)) (series : Nat → Int32) : ∃ series', (∀ i, i < 32 → series' i = iI (ser P c i)) ∧ fX9_laySeries (iI P) cr series = some series' := by
  have hb := pr_rng hp
  unfold fX9_laySeries
  refine fn (fun n x (b : (Nat → Int32)) => gX9_laySeries_2 (iI P) cr kX9_laySeries_95 n (iI (x : Nat)) b) 32 (fun x b => ∀ i, i < x → b i = iI (ser P c i)) (fun o => ∃ series', (∀ i, i < 32 → series' i = iI (ser P c i)) ∧ o = some series') ?_ ?_ p_FU 0 series (by omega) (fun i hi => by omega) (by have := FU_big; omega)
  · intro n b h
    refine ⟨b, h, ?_⟩
    show FgX9_laySeries_2 (iI P) cr (gX9_laySeries_2 (iI P) cr kX9_laySeries_95 n) kX9_laySeries_95 (iI ((32 : Nat) : Int)) b = _
    unfold FgX9_laySeries_2
    rw [if_pos (by decide)]; rfl
  · intro n x b hx h
    refine ⟨upd b x (iI (ser P c x)), fun i hi => ?_, ?_⟩
    · by_cases q : i = x
      · rw [q, pk_us]
      · rw [pk_un q]; exact h i (by omega)
    · show FgX9_laySeries_2 (iI P) cr (gX9_laySeries_2 (iI P) cr kX9_laySeries_95 n) kX9_laySeries_95 (iI (x : Nat)) b = _
      have e1 : FgX9_laySeries_2 (iI P) cr (gX9_laySeries_2 (iI P) cr kX9_laySeries_95 n) kX9_laySeries_95 (iI (x : Nat)) b = jX9_laySeries_33 (iI P) (iI (x : Nat)) b (gX9_laySeries_2 (iI P) cr kX9_laySeries_95 n) (iI (bf P c x)) := by
        unfold FgX9_laySeries_2 bf
        rw [if_neg (by rw [show (32 : Int32) = iI ((32 : Nat) : Int) from rfl, nle (by omega) (by omega)]; omega)]
        by_cases q : x < 4
        · rw [if_neg (by rw [show (4 : Int32) = iI ((4 : Nat) : Int) from rfl, nle (by omega) (by omega)]; omega), nld (by omega) (by omega), b1_s, show (0 : Int32) = iI ((0 : Nat) : Int) from rfl, nld (by omega) (by omega), b1_s, hcr x q, hcr 0 (by omega), e_bz hp (hc x) (hc 0), b1_s, if_pos q]
        · rw [if_pos (by rw [show (4 : Int32) = iI ((4 : Nat) : Int) from rfl, nle (by omega) (by omega)]; omega), if_neg q]; rfl
      rw [e1]
      unfold jX9_laySeries_33
      by_cases q : x = 0
      · subst q
        have e2 : gX9_laySeries_36 (iI P) (iI ((0 : Nat) : Int)) b (kX9_laySeries_69 (iI P) (iI ((0 : Nat) : Int)) b (gX9_laySeries_2 (iI P) cr kX9_laySeries_95 n)) p_FU (iI (bf P c 0)) 1 = kX9_laySeries_69 (iI P) (iI ((0 : Nat) : Int)) b (gX9_laySeries_2 (iI P) cr kX9_laySeries_95 n) (iI (bf P c 0)) := by
          rw [show p_FU = 99999 + 1 from rfl]
          show FgX9_laySeries_36 (iI P) (iI ((0 : Nat) : Int)) b (gX9_laySeries_36 (iI P) (iI ((0 : Nat) : Int)) b (kX9_laySeries_69 (iI P) (iI ((0 : Nat) : Int)) b (gX9_laySeries_2 (iI P) cr kX9_laySeries_95 n)) 99999) (kX9_laySeries_69 (iI P) (iI ((0 : Nat) : Int)) b (gX9_laySeries_2 (iI P) cr kX9_laySeries_95 n)) (iI (bf P c 0)) 1 = _
          unfold FgX9_laySeries_36
          rw [if_pos (by decide)]
        rw [e2]
        unfold kX9_laySeries_69 jX9_laySeries_88
        rw [if_pos (show iI ((0 : Nat) : Int) = 0 from rfl), nst (by omega) (by omega), b1_s, nm_s, n1, ser_0]
        rfl
      · rw [e_ser_in9 hp c (by omega) (by omega) h]
        unfold kX9_laySeries_69 jX9_laySeries_88
        have e3 : fX9_by (iI P) (iI (sm (ser P c) (bf P c x) x (x - 1) % P)) 2 = some (iI (ser P c x)) := by
          rw [show (2 : Int32) = iI 2 from rfl, e_bz hp (el_mod hp _) ⟨by omega, by omega⟩, ser_rec P c (by omega) (by omega)]; rfl
        rw [if_neg (by rw [neq0 (by omega)]; exact q), e3, b1_s, nst (by omega) (by omega), b1_s, nm_s, n1]
