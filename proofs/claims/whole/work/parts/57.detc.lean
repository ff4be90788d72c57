/-! determinants -/
def holdM (w : Nat → Int32) (st m : Nat) (M : Nat → Nat → Int) : Prop := ∀ i j, i < m → j < m → w (i * st + j) = iI (M i j)
theorem ix_inj {st i j a b : Nat} (hj : j < st) (hb : b < st) (h : a * st + b = i * st + j) : a = i ∧ b = j := by
  have e1 : (a * st + b) / st = a := by rw [Nat.mul_comm, Nat.mul_add_div (by omega), Nat.div_eq_of_lt hb, Nat.add_zero]
  have e2 : (i * st + j) / st = i := by rw [Nat.mul_comm, Nat.mul_add_div (by omega), Nat.div_eq_of_lt hj, Nat.add_zero]
  have e3 : a = i := by rw [← e1, ← e2, h]
  subst e3
  exact ⟨rfl, by omega⟩
theorem ix_lt {st m i j : Nat} (hst : st ≤ 15) (hm : m ≤ st) (hi : i < m) (hj : j < m) : i * st + j < 225 := by
  have := Nat.mul_le_mul (show i ≤ 14 by omega) hst
  omega
theorem hm_upd {w : Nat → Int32} {st m : Nat} {M : Nat → Nat → Int} (h : holdM w st m M) (hst : m ≤ st) {i j : Nat} (hj : j < m) {x : Int} {M' : Nat → Nat → Int} (h1 : M' i j = x) (h2 : ∀ a b, a < m → b < m → ¬ (a = i ∧ b = j) → M' a b = M a b) : holdM (upd w (i * st + j) (iI x)) st m M' := by
  intro a b ha hb
  by_cases c : a = i ∧ b = j
  · rw [c.1, c.2, pk_us, h1]
  · rw [pk_un (fun e => c (ix_inj (by omega) (by omega) e)), h a b ha hb, h2 a b ha hb c]
theorem hm_ld {w : Nat → Int32} {st m : Nat} {M : Nat → Nat → Int} (h : holdM w st m M) (hst : m ≤ st) (h15 : st ≤ 15) {i j : Nat} (hi : i < m) (hj : j < m) : p_ld w 225 (iI (i : Nat) * iI (st : Nat) + iI (j : Nat)) = some (iI (M i j)) := by
  rw [nmul, nadd, nld (ix_lt h15 hst hi hj) (by omega), h i j hi hj]
theorem hm_st {w : Nat → Int32} {st m : Nat} (hst : m ≤ st) (h15 : st ≤ 15) {i j : Nat} (hi : i < m) (hj : j < m) (x : Int32) : p_st w 225 (iI (i : Nat) * iI (st : Nat) + iI (j : Nat)) x = some (upd w (i * st + j) x) := by
  rw [nmul, nadd, nst (ix_lt h15 hst hi hj) (by omega)]
theorem i15 (i j : Nat) : (15 : Int32) * iI (i : Nat) + iI (j : Nat) = iI (i : Nat) * iI ((15 : Nat) : Int) + iI (j : Nat) := by
  rw [show (15 : Int32) = iI ((15 : Nat) : Int) from rfl, nmul, nmul, Nat.mul_comm]
def pvg (M : Nat → Nat → Int) (k : Nat) : Nat → Nat → Option Nat
  | 0, _ => none
  | n + 1, i => if M i k = 0 then pvg M k n (i + 1) else some i
theorem pvg_b {M : Nat → Nat → Int} {k : Nat} : ∀ n i p, pvg M k n i = some p → i ≤ p ∧ p < i + n := by
  intro n
  induction n with
  | zero => intro i p h; exact absurd h (by simp [pvg])
  | succ n ih =>
    intro i p h
    unfold pvg at h
    by_cases c : M i k = 0
    · rw [if_pos c] at h
      have := ih (i + 1) p h
      omega
    · rw [if_neg c] at h
      have := Option.some.inj h
      omega
def swp (M : Nat → Nat → Int) (p k : Nat) : Nat → Nat → Int := fun i j => if i = p then M k j else if i = k then M p j else M i j
theorem swp_k (M : Nat → Nat → Int) (k : Nat) : swp M k k = M := by
  funext i j
  unfold swp
  by_cases h : i = k
  · rw [if_pos h, h]
  · rw [if_neg h, if_neg h]
def tms (P k : Nat) (M : Nat → Nat → Int) (i : Nat) : Int := M i k * (iv P (M k k).toNat : Nat) % P
def clr (P k : Nat) (M : Nat → Nat → Int) : Nat → Nat → Int := fun i j => if k < i ∧ k ≤ j then (M i j - tms P k M i * M k j) % P else M i j
def dtm (P m : Nat) : Nat → (Nat → Nat → Int) → Int → Int
  | 0, _, d => d
  | r + 1, M, d => match pvg M (m - (r + 1)) (r + 1) (m - (r + 1)) with
    | none => 0
    | some p => dtm P m r (clr P (m - (r + 1)) (swp M p (m - (r + 1)))) ((if p = m - (r + 1) then d else -d) * swp M p (m - (r + 1)) (m - (r + 1)) (m - (r + 1)) % P)
theorem swp_el {P : Nat} {M : Nat → Nat → Int} (h : ∀ i j, el P (M i j)) (p k : Nat) : ∀ i j, el P (swp M p k i j) := by
  intro i j
  unfold swp
  split
  · exact h _ _
  · split <;> exact h _ _
theorem clr_el {P : Nat} (hp : z_pr P = true) {M : Nat → Nat → Int} (h : ∀ i j, el P (M i j)) (k : Nat) : ∀ i j, el P (clr P k M i j) := by
  intro i j
  unfold clr
  split
  · exact el_mod hp _
  · exact h _ _
-- the class
theorem e_pivot {P : Nat} (hp : z_pr P = true) {m k : Nat} (h15 : m ≤ 15) (hk : k < m) {w : Nat → Int32} {M : Nat → Nat → Int} (h : holdM w m m M) (hM : ∀ i j, el P (M i j)) : fX6_findPivot w (iI (k : Nat)) (iI (m : Nat)) = some (match pvg M k (m - k) k with | none => iI (-6) | some p => iI (p : Nat)) := by
  have key : ∀ n i fu, i + n = m → n < fu → gX6_findPivot_2 w (iI (k : Nat)) (iI (m : Nat)) kX6_findPivot_28 fu (iI (i : Nat)) = some (match pvg M k n i with | none => iI (-6) | some p => iI (p : Nat)) := by
    intro n
    induction n with
    | zero =>
      intro i fu hi hf
      obtain ⟨f, rfl⟩ : ∃ f, fu = f + 1 := ⟨fu - 1, by omega⟩
      show FgX6_findPivot_2 w (iI (k : Nat)) (iI (m : Nat)) (gX6_findPivot_2 w (iI (k : Nat)) (iI (m : Nat)) kX6_findPivot_28 f) kX6_findPivot_28 (iI (i : Nat)) = _
      unfold FgX6_findPivot_2
      rw [if_pos (by rw [nle (by omega) (by omega)]; omega)]; rfl
    | succ n ih =>
      intro i fu hi hf
      obtain ⟨f, rfl⟩ : ∃ f, fu = f + 1 := ⟨fu - 1, by omega⟩
      show FgX6_findPivot_2 w (iI (k : Nat)) (iI (m : Nat)) (gX6_findPivot_2 w (iI (k : Nat)) (iI (m : Nat)) kX6_findPivot_28 f) kX6_findPivot_28 (iI (i : Nat)) = _
      unfold FgX6_findPivot_2 pvg
      rw [if_neg (by rw [nle (by omega) (by omega)]; omega), hm_ld h (Nat.le_refl _) h15 (show i < m by omega) hk, b1_s]
      by_cases c : M i k = 0
      · rw [if_pos ((el_0 hp (hM i k)).mpr c), nm_s, n1, if_pos c]
        exact ih (i + 1) f (by omega) (by omega)
      · rw [if_neg (fun q => c ((el_0 hp (hM i k)).mp q)), if_neg c]
  unfold fX6_findPivot
  exact key (m - k) k p_FU (by omega) (by have := FU_big; omega)
def sw1 (M : Nat → Nat → Int) (p k x i j : Nat) : Int := if j < x then swp M p k i j else M i j
def sw2 (M : Nat → Nat → Int) (p k x i j : Nat) : Int := if i = p ∧ j = x then M k x else sw1 M p k x i j
theorem e_swap {m p k : Nat} (h15 : m ≤ 15) (hk : k < m) (hpm : p < m) (hpk : p ≠ k) {w : Nat → Int32} {M : Nat → Nat → Int} (h : holdM w m m M) : ∃ w', holdM w' m m (swp M p k) ∧ fX6_swapRows w (iI (p : Nat)) (iI (k : Nat)) (iI (m : Nat)) = some w' := by
  unfold fX6_swapRows
  refine fn (fun n x (b : (Nat → Int32)) => gX6_swapRows_3 (iI (p : Nat)) (iI (k : Nat)) (iI (m : Nat)) kX6_swapRows_63 n (iI (x : Nat)) b) m (fun x b => holdM b m m (sw1 M p k x)) (fun o => ∃ w', holdM w' m m (swp M p k) ∧ o = some w') ?_ ?_ p_FU 0 w (by omega) (fun i j hi hj => by rw [h i j hi hj]; unfold sw1; rw [if_neg (by omega)]) (by have := FU_big; omega)
  · intro n b hb
    refine ⟨b, fun i j hi hj => by rw [hb i j hi hj]; unfold sw1; rw [if_pos hj], ?_⟩
    show FgX6_swapRows_3 (iI (p : Nat)) (iI (k : Nat)) (iI (m : Nat)) (gX6_swapRows_3 (iI (p : Nat)) (iI (k : Nat)) (iI (m : Nat)) kX6_swapRows_63 n) kX6_swapRows_63 (iI (m : Nat)) b = _
    unfold FgX6_swapRows_3
    rw [if_pos (Int32.le_refl _)]; rfl
  · intro n x b hx hb
    refine ⟨upd (upd b (p * m + x) (iI (M k x))) (k * m + x) (iI (M p x)), ?_, ?_⟩
    · refine hm_upd (M := sw2 M p k x) (hm_upd hb (Nat.le_refl _) hx ?_ ?_) (Nat.le_refl _) hx ?_ ?_
      · unfold sw2; rw [if_pos ⟨rfl, rfl⟩]
      · intro a b' _ _ c
        unfold sw2; rw [if_neg c]
      · unfold sw1 swp
        rw [if_pos (by omega), if_neg (fun e => hpk e.symm), if_pos rfl]
      · intro a b' _ _ c
        unfold sw2 sw1
        by_cases e : b' = x
        · subst e
          rw [if_pos (show b' < b' + 1 by omega)]
          by_cases e2 : a = p
          · rw [if_pos ⟨e2, rfl⟩, e2]; unfold swp; rw [if_pos rfl]
          · rw [if_neg (fun q => e2 q.1), if_neg (show ¬ b' < b' by omega)]
            unfold swp
            rw [if_neg e2, if_neg (fun q => c ⟨q, rfl⟩)]
        · rw [if_neg (show ¬ (a = p ∧ b' = x) from fun q => e q.2)]
          by_cases e3 : b' < x
          · rw [if_pos (show b' < x + 1 by omega), if_pos e3]
          · rw [if_neg (show ¬ b' < x + 1 by omega), if_neg e3]
    · show FgX6_swapRows_3 (iI (p : Nat)) (iI (k : Nat)) (iI (m : Nat)) (gX6_swapRows_3 (iI (p : Nat)) (iI (k : Nat)) (iI (m : Nat)) kX6_swapRows_63 n) kX6_swapRows_63 (iI (x : Nat)) b = _
      unfold FgX6_swapRows_3
      rw [if_neg (by rw [nle (by omega) (by omega)]; omega), hm_ld hb (Nat.le_refl _) h15 hpm hx, b1_s, hm_ld hb (Nat.le_refl _) h15 hk hx, b1_s, hm_st (Nat.le_refl _) h15 hpm hx, b1_s, hm_st (Nat.le_refl _) h15 hk hx, b1_s, nm_s, n1, show sw1 M p k x k x = M k x by unfold sw1; rw [if_neg (by omega)], show sw1 M p k x p x = M p x by unfold sw1; rw [if_neg (by omega)]]
def aw1 (P : Nat) (M : Nat → Nat → Int) (i : Nat) (q : Int) (k x a b : Nat) : Int := if a = i ∧ k ≤ b ∧ b < x then (M i b - q * M k b) % P else M a b
def awa (P : Nat) (M : Nat → Nat → Int) (i : Nat) (q : Int) (k a b : Nat) : Int := if a = i ∧ k ≤ b then (M i b - q * M k b) % P else M a b
theorem e_away {P : Nat} (hp : z_pr P = true) {m i k : Nat} (h15 : m ≤ 15) (hk : k < m) (hi : i < m) (hik : i ≠ k) {w : Nat → Int32} {M : Nat → Nat → Int} (h : holdM w m m M) (hM : ∀ i j, el P (M i j)) {q : Int} (hq : el P q) : ∃ w', holdM w' m m (awa P M i q k) ∧ fX6_takeAway (iI P) w (iI (i : Nat)) (iI q) (iI (k : Nat)) (iI (m : Nat)) = some w' := by
  unfold fX6_takeAway
  refine fn (fun n x (b : (Nat → Int32)) => gX6_takeAway_3 (iI P) (iI (i : Nat)) (iI q) (iI (k : Nat)) (iI (m : Nat)) kX6_takeAway_66 n (iI (x : Nat)) b) m (fun x b => k ≤ x ∧ holdM b m m (aw1 P M i q k x)) (fun o => ∃ w', holdM w' m m (awa P M i q k) ∧ o = some w') ?_ ?_ p_FU k w (by omega) ⟨Nat.le_refl _, fun a b ha hb => by rw [h a b ha hb]; unfold aw1; rw [if_neg (by omega)]⟩ (by have := FU_big; omega)
  · intro n b ⟨_, hb⟩
    refine ⟨b, fun a j ha hj => ?_, ?_⟩
    · rw [hb a j ha hj]
      unfold aw1 awa
      by_cases c : a = i ∧ k ≤ j
      · rw [if_pos c, if_pos ⟨c.1, c.2, hj⟩]
      · rw [if_neg c, if_neg (fun q => c ⟨q.1, q.2.1⟩)]
    · show FgX6_takeAway_3 (iI P) (iI (i : Nat)) (iI q) (iI (k : Nat)) (iI (m : Nat)) (gX6_takeAway_3 (iI P) (iI (i : Nat)) (iI q) (iI (k : Nat)) (iI (m : Nat)) kX6_takeAway_66 n) kX6_takeAway_66 (iI (m : Nat)) b = _
      unfold FgX6_takeAway_3
      rw [if_pos (Int32.le_refl _)]; rfl
  · intro n x b hx ⟨hkx, hb⟩
    refine ⟨upd b (i * m + x) (iI ((M i x - q * M k x) % P)), ⟨by omega, ?_⟩, ?_⟩
    · refine hm_upd hb (Nat.le_refl _) hx ?_ ?_
      · unfold aw1; rw [if_pos ⟨rfl, hkx, by omega⟩]
      · intro a b' _ _ c
        unfold aw1
        by_cases e : a = i ∧ k ≤ b' ∧ b' < x
        · rw [if_pos e, if_pos ⟨e.1, e.2.1, by omega⟩]
        · rw [if_neg e, if_neg (fun q => e ⟨q.1, q.2.1, by have h1 := q.2.2; have h2 : b' ≠ x := fun z => c ⟨q.1, z⟩; omega⟩)]
    · show FgX6_takeAway_3 (iI P) (iI (i : Nat)) (iI q) (iI (k : Nat)) (iI (m : Nat)) (gX6_takeAway_3 (iI P) (iI (i : Nat)) (iI q) (iI (k : Nat)) (iI (m : Nat)) kX6_takeAway_66 n) kX6_takeAway_66 (iI (x : Nat)) b = _
      unfold FgX6_takeAway_3
      rw [if_neg (by rw [nle (by omega) (by omega)]; omega), hm_ld hb (Nat.le_refl _) h15 hi hx, b1_s, hm_ld hb (Nat.le_refl _) h15 hk hx, b1_s, show aw1 P M i q k x i x = M i x by unfold aw1; rw [if_neg (by omega)], show aw1 P M i q k x k x = M k x by unfold aw1; rw [if_neg (by omega)], iI_mul, iI_sub, nm_s, e_rb hp (bd_sub (bd_el hp (hM i x)) (bd_mul (bd_el hp hq) (bd_el hp (hM k x)))) (by decide), b1_s, hm_st (Nat.le_refl _) h15 hi hx, b1_s, nm_s, n1]
def rw1 (P k : Nat) (M : Nat → Nat → Int) (x a b : Nat) : Int := if k < a ∧ a < x ∧ k ≤ b then (M a b - tms P k M a * M k b) % P else M a b
theorem e_rows {P : Nat} (hp : z_pr P = true) {m k : Nat} (h15 : m ≤ 15) (hk : k < m) {w : Nat → Int32} {M : Nat → Nat → Int} (h : holdM w m m M) (hM : ∀ i j, el P (M i j)) (kk : (Nat → Int32) → Option (Int32 × (Nat → Int32))) : ∃ w', holdM w' m m (clr P k M) ∧ gX6_clear_83 (iI P) (iI (m : Nat)) (iI (k : Nat)) (iI (iv P (M k k).toNat : Nat)) kk p_FU (iI ((k + 1 : Nat) : Int)) w = kk w' := by
  refine fn (fun n x (b : (Nat → Int32)) => gX6_clear_83 (iI P) (iI (m : Nat)) (iI (k : Nat)) (iI (iv P (M k k).toNat : Nat)) kk n (iI (x : Nat)) b) m (fun x b => k < x ∧ holdM b m m (rw1 P k M x)) (fun o => ∃ w', holdM w' m m (clr P k M) ∧ o = kk w') ?_ ?_ p_FU (k + 1) w (by omega) ⟨by omega, fun a b ha hb => by rw [h a b ha hb]; unfold rw1; rw [if_neg (by omega)]⟩ (by have := FU_big; omega)
  · intro n b ⟨_, hb⟩
    refine ⟨b, fun a j ha hj => ?_, ?_⟩
    · rw [hb a j ha hj]
      unfold clr rw1
      by_cases c : k < a ∧ k ≤ j
      · rw [if_pos c, if_pos ⟨c.1, ha, c.2⟩]
      · rw [if_neg c, if_neg (fun q => c ⟨q.1, q.2.2⟩)]
    · show FgX6_clear_83 (iI P) (iI (m : Nat)) (iI (k : Nat)) (iI (iv P (M k k).toNat : Nat)) (gX6_clear_83 (iI P) (iI (m : Nat)) (iI (k : Nat)) (iI (iv P (M k k).toNat : Nat)) kk n) kk (iI (m : Nat)) b = _
      unfold FgX6_clear_83
      rw [if_pos (Int32.le_refl _)]
  · intro n x b hx ⟨hkx, hb⟩
    have hM2 : ∀ a b, el P ((rw1 P k M x) a b) := by
      intro a b
      unfold rw1
      split
      · exact el_mod hp _
      · exact hM _ _
    obtain ⟨w', h1, h2⟩ := e_away hp h15 hk hx (show x ≠ k by omega) hb hM2 (show el P (tms P k M x) from el_mod hp _)
    refine ⟨w', ⟨by omega, fun a b' ha hb' => ?_⟩, ?_⟩
    · rw [h1 a b' ha hb']
      congr 1
      unfold awa rw1
      by_cases c : a = x ∧ k ≤ b'
      · rw [if_pos c, if_neg (by omega), if_neg (by omega), if_pos (by omega), c.1]
      · rw [if_neg c]
        by_cases c2 : k < a ∧ a < x ∧ k ≤ b'
        · rw [if_pos c2, if_pos (by omega)]
        · rw [if_neg c2, if_neg (by omega)]
    · show FgX6_clear_83 (iI P) (iI (m : Nat)) (iI (k : Nat)) (iI (iv P (M k k).toNat : Nat)) (gX6_clear_83 (iI P) (iI (m : Nat)) (iI (k : Nat)) (iI (iv P (M k k).toNat : Nat)) kk n) kk (iI (x : Nat)) b = _
      unfold FgX6_clear_83
      rw [if_neg (by rw [nle (by omega) (by omega)]; omega), hm_ld hb (Nat.le_refl _) h15 hx hk, b1_s, show rw1 P k M x x k = M x k by unfold rw1; rw [if_neg (by omega)], iI_mul, e_rb hp (bd_mul (bd_el hp (hM x k)) (bd_el hp (el_iv hp _))) (by decide), b1_s]
      have h2 : fX6_takeAway (iI P) b (iI (x : Nat)) (iI (M x k * (iv P (M k k).toNat : Nat) % P)) (iI (k : Nat)) (iI (m : Nat)) = some w' := h2
      rw [h2, b1_s, nm_s, n1]
theorem e_col {P : Nat} (hp : z_pr P = true) {inv roots : Nat → Int32} (hN : NumOK P inv roots) {m k : Nat} (h15 : m ≤ 15) (hk : k < m) {w : Nat → Int32} {M : Nat → Nat → Int} (h : holdM w m m M) (hM : ∀ i j, el P (M i j)) {d : Int} (hd : bd d 198) (rc : Int32 → Int32 → (Nat → Int32) → Option (Int32 × (Nat → Int32))) :
    ∃ w', holdM w' m m (clr P k M) ∧ jX6_clear_43 (iI P) inv (iI (m : Nat)) (iI (k : Nat)) rc (iI d) w = rc (iI (d * M k k % P)) (iI ((k + 1 : Nat) : Int)) w' := by
  obtain ⟨w', h1, h2⟩ := e_rows hp h15 hk h hM (kX6_clear_128 (iI (k : Nat)) rc (iI (d * M k k % P)))
  refine ⟨w', h1, ?_⟩
  unfold jX6_clear_43
  rw [hm_ld h (Nat.le_refl _) h15 hk hk, b1_s, iI_mul, e_rb hp (bd_mul hd (bd_el hp (hM k k))) (by decide), b1_s, e_iz hp hN (hM k k), b1_s, nm_s, n1, h2]
  unfold kX6_clear_128
  rw [nm_s, n1]
theorem e_clear {P : Nat} (hp : z_pr P = true) {inv roots : Nat → Int32} (hN : NumOK P inv roots) {m : Nat} (h15 : m ≤ 15) : ∀ (r : Nat) (fu : Nat) (M : Nat → Nat → Int) (d : Int) (w : Nat → Int32), r ≤ m → r < fu → holdM w m m M → (∀ i j, el P (M i j)) → el P d →
    ∃ w', gX6_clear_4 (iI P) inv (iI (m : Nat)) kX6_clear_134 fu (iI d) (iI ((m - r : Nat) : Int)) w = some (iI (dtm P m r M d), w') := by
  intro r
  induction r with
  | zero =>
    intro fu M d w hr hf h hM hd
    obtain ⟨f, rfl⟩ : ∃ f, fu = f + 1 := ⟨fu - 1, by omega⟩
    refine ⟨w, ?_⟩
    show FgX6_clear_4 (iI P) inv (iI (m : Nat)) (gX6_clear_4 (iI P) inv (iI (m : Nat)) kX6_clear_134 f) kX6_clear_134 (iI d) (iI ((m - 0 : Nat) : Int)) w = _
    unfold FgX6_clear_4
    rw [Nat.sub_zero, if_pos (Int32.le_refl _)]; rfl
  | succ r ih =>
    intro fu M d w hr hf h hM hd
    obtain ⟨f, rfl⟩ : ∃ f, fu = f + 1 := ⟨fu - 1, by omega⟩
    show ∃ w', FgX6_clear_4 (iI P) inv (iI (m : Nat)) (gX6_clear_4 (iI P) inv (iI (m : Nat)) kX6_clear_134 f) kX6_clear_134 (iI d) (iI ((m - (r + 1) : Nat) : Int)) w = _
    have hk : m - (r + 1) < m := by omega
    have hmk : m - (m - (r + 1)) = r + 1 := by omega
    have hk1 : m - (r + 1) + 1 = m - r := by omega
    unfold FgX6_clear_4 dtm
    generalize hkk : m - (r + 1) = k at *
    rw [if_neg (by rw [nle (by omega) (by omega)]; omega), e_pivot hp h15 hk h hM, b1_s, hmk]
    cases hpv : pvg M k (r + 1) k with
    | none =>
      refine ⟨w, ?_⟩
      show (if iI (-6) = -6 then _ else _) = _
      rw [if_pos (show iI (-6) = -6 from rfl)]; rfl
    | some p =>
      have hpb := pvg_b _ _ _ hpv
      show ∃ w', (if iI (p : Nat) = -6 then _ else _) = _
      rw [if_neg (by rw [show (-6 : Int32) = iI (-6) from rfl, iI_eq (by omega) (by omega) (by omega) (by omega)]; omega)]
      by_cases c : p = k
      · subst c
        obtain ⟨w', h1, h2⟩ := e_col hp hN h15 hk h hM (bd_el hp hd) (gX6_clear_4 (iI P) inv (iI (m : Nat)) kX6_clear_134 f)
        rw [if_pos rfl, h2, hk1]
        show ∃ w', _ = some (iI (dtm P m r (clr P p (swp M p p)) ((if p = p then d else -d) * swp M p p p p % P)), w')
        rw [swp_k, if_pos rfl]
        exact ih f _ _ w' (by omega) (by omega) h1 (clr_el hp hM p) (el_mod hp _)
      · obtain ⟨w1, h1, h2⟩ := e_swap h15 hk (show p < m by omega) c h
        obtain ⟨w', h3, h4⟩ := e_col hp hN h15 hk h1 (swp_el hM p k) (bd_neg (bd_el hp hd)) (gX6_clear_4 (iI P) inv (iI (m : Nat)) kX6_clear_134 f)
        rw [if_neg (by rw [neq (by omega) (by omega)]; exact c), h2, b1_s, nm_s, iI_neg, h4, hk1]
        show ∃ w', _ = some (iI (dtm P m r (clr P k (swp M p k)) ((if p = k then d else -d) * swp M p k k k % P)), w')
        rw [if_neg c]
        exact ih f _ _ w' (by omega) (by omega) h3 (clr_el hp (swp_el hM p k) k) (el_mod hp _)
def cls (P : Nat) (c : Nat → Int) (n : Nat) : Int := dtm P ((n - 1) / 2) ((n - 1) / 2) (fun i j => ser P c ((if n % 2 = 0 then 3 else 2) + i + j)) 1
theorem dtm_el {P : Nat} (hp : z_pr P = true) (m : Nat) : ∀ r M d, el P d → el P (dtm P m r M d) := by
  have hb := pr_rng hp
  intro r
  induction r with
  | zero => intro M d h; exact h
  | succ r ih =>
    intro M d h
    unfold dtm
    split
    · exact ⟨by omega, by omega⟩
    · exact ih _ _ (el_mod hp _)
theorem cls_el {P : Nat} (hp : z_pr P = true) (c : Nat → Int) (n : Nat) : el P (cls P c n) := dtm_el hp _ _ _ _ ⟨by have := pr_rng hp; omega, by have := pr_rng hp; omega⟩
def holdQ (w : Nat → Int32) (st m x y : Nat) (M : Nat → Nat → Int) : Prop := ∀ i j, j < m → (i < x ∨ (i = x ∧ j < y)) → w (i * st + j) = iI (M i j)
theorem hq_upd {w : Nat → Int32} {st m x y : Nat} {M : Nat → Nat → Int} (h : holdQ w st m x y M) (hst : m ≤ st) (hy : y < m) : holdQ (upd w (x * st + y) (iI (M x y))) st m x (y + 1) M := by
  intro i j hj hc
  by_cases c : i = x ∧ j = y
  · rw [c.1, c.2, pk_us]
  · rw [pk_un (fun e => c (ix_inj (by omega) (by omega) e))]
    exact h i j hj (by omega)
theorem e_fill_in {P : Nat} {c : Nat → Int} {parts : Nat → Int32} (hs : ∀ i, i < 32 → parts i = iI (ser P c i)) {m fr i : Nat} (h15 : m ≤ 15) (hfr : fr + 2 * m ≤ 33) (hi : i < m) {w : Nat → Int32} (h : holdQ w m m i 0 (fun i j => ser P c (fr + i + j))) (kk : (Nat → Int32) → Option (Int32 × (Nat → Int32))) : ∃ w', holdQ w' m m (i + 1) 0 (fun i j => ser P c (fr + i + j)) ∧ gX6_closing_44 parts (iI (m : Nat)) (iI (fr : Nat)) (iI (i : Nat)) kk p_FU 0 w = kk w' := by
  refine fn (fun n x (b : (Nat → Int32)) => gX6_closing_44 parts (iI (m : Nat)) (iI (fr : Nat)) (iI (i : Nat)) kk n (iI (x : Nat)) b) m (fun x b => holdQ b m m i x (fun i j => ser P c (fr + i + j))) (fun o => ∃ w', holdQ w' m m (i + 1) 0 (fun i j => ser P c (fr + i + j)) ∧ o = kk w') ?_ ?_ p_FU 0 w (by omega) h (by have := FU_big; omega)
  · intro n b hb
    refine ⟨b, fun a j hj hc => hb a j hj (by omega), ?_⟩
    show FgX6_closing_44 parts (iI (m : Nat)) (iI (fr : Nat)) (iI (i : Nat)) (gX6_closing_44 parts (iI (m : Nat)) (iI (fr : Nat)) (iI (i : Nat)) kk n) kk (iI (m : Nat)) b = _
    unfold FgX6_closing_44
    rw [if_pos (Int32.le_refl _)]
  · intro n x b hx hb
    refine ⟨upd b (i * m + x) (iI (ser P c (fr + i + x))), hq_upd hb (Nat.le_refl _) hx, ?_⟩
    show FgX6_closing_44 parts (iI (m : Nat)) (iI (fr : Nat)) (iI (i : Nat)) (gX6_closing_44 parts (iI (m : Nat)) (iI (fr : Nat)) (iI (i : Nat)) kk n) kk (iI (x : Nat)) b = _
    unfold FgX6_closing_44 fX6_part
    rw [if_neg (by rw [nle (by omega) (by omega)]; omega), nadd, nadd, if_neg (by rw [show (0 : Int32) = iI ((0 : Nat) : Int) from rfl, nlt (by omega) (by omega)]; omega), if_neg (by rw [show (31 : Int32) = iI ((31 : Nat) : Int) from rfl, nlt (by omega) (by omega)]; omega), nld (by omega) (by omega), b1_s, b1_s, hs _ (by omega), hm_st (Nat.le_refl _) h15 hi hx, b1_s, nm_s, n1]
theorem e_fill {P : Nat} {c : Nat → Int} {parts : Nat → Int32} (hs : ∀ i, i < 32 → parts i = iI (ser P c i)) {m fr : Nat} (h15 : m ≤ 15) (hfr : fr + 2 * m ≤ 33) (w : Nat → Int32) (kk : (Nat → Int32) → Option (Int32 × (Nat → Int32))) : ∃ w', holdM w' m m (fun i j => ser P c (fr + i + j)) ∧ gX6_closing_35 parts (iI (m : Nat)) (iI (fr : Nat)) kk p_FU 0 w = kk w' := by
  refine fn (fun n x (b : (Nat → Int32)) => gX6_closing_35 parts (iI (m : Nat)) (iI (fr : Nat)) kk n (iI (x : Nat)) b) m (fun x b => holdQ b m m x 0 (fun i j => ser P c (fr + i + j))) (fun o => ∃ w', holdM w' m m (fun i j => ser P c (fr + i + j)) ∧ o = kk w') ?_ ?_ p_FU 0 w (by omega) (fun i j _ hc => by omega) (by have := FU_big; omega)
  · intro n b hb
    refine ⟨b, fun i j hi hj => hb i j hj (Or.inl hi), ?_⟩
    show FgX6_closing_35 parts (iI (m : Nat)) (iI (fr : Nat)) (gX6_closing_35 parts (iI (m : Nat)) (iI (fr : Nat)) kk n) kk (iI (m : Nat)) b = _
    unfold FgX6_closing_35
    rw [if_pos (Int32.le_refl _)]
  · intro n x b hx hb
    obtain ⟨w', h1, h2⟩ := e_fill_in hs h15 hfr hx hb (kX6_closing_79 (iI (x : Nat)) (gX6_closing_35 parts (iI (m : Nat)) (iI (fr : Nat)) kk n))
    refine ⟨w', h1, ?_⟩
    show FgX6_closing_35 parts (iI (m : Nat)) (iI (fr : Nat)) (gX6_closing_35 parts (iI (m : Nat)) (iI (fr : Nat)) kk n) kk (iI (x : Nat)) b = _
    unfold FgX6_closing_35
    rw [if_neg (by rw [nle (by omega) (by omega)]; omega), h2]
    unfold kX6_closing_79
    rw [nm_s, n1]
theorem e_closing {P : Nat} (hp : z_pr P = true) {inv roots : Nat → Int32} (hN : NumOK P inv roots) {c : Nat → Int} {parts : Nat → Int32} (hs : ∀ i, i < 32 → parts i = iI (ser P c i)) {n : Nat} (h3 : 3 ≤ n) (h31 : n ≤ 31) (sq : Nat → Int32) : ∃ sq', fX6_closing (iI P) inv parts sq (iI (n : Nat)) = some (iI (cls P c n), sq') := by
  have hb := pr_rng hp
  have key : ∀ fr : Nat, fr + 2 * ((n - 1) / 2) ≤ 33 → ∃ sq', jX6_closing_17 (iI P) inv parts sq (iI (((n - 1) / 2 : Nat) : Int)) (iI (fr : Nat)) = some (iI (dtm P ((n - 1) / 2) ((n - 1) / 2) (fun i j => ser P c (fr + i + j)) 1), sq') := by
    intro fr hfr
    have h15 : (n - 1) / 2 ≤ 15 := by omega
    have h1 : 1 ≤ (n - 1) / 2 := by omega
    generalize (n - 1) / 2 = m at *
    obtain ⟨w', g1, g2⟩ := e_fill hs h15 hfr sq (kX6_closing_85 (iI P) inv (iI (m : Nat)))
    obtain ⟨w2, g3⟩ := e_clear hp hN h15 m p_FU (fun i j => ser P c (fr + i + j)) 1 w' (Nat.le_refl _) (by have := FU_big; omega) g1 (fun i j => ser_el hp c _) ⟨by omega, by omega⟩
    refine ⟨w2, ?_⟩
    unfold jX6_closing_17
    rw [if_neg (by rw [show (1 : Int32) = iI ((1 : Nat) : Int) from rfl, nlt (by omega) (by omega)]; omega), if_pos (by rw [show (15 : Int32) = iI ((15 : Nat) : Int) from rfl, nle (by omega) (by omega)]; omega), show (0 : Int32) = iI ((0 : Nat) : Int) from rfl]
    have g2 : gX6_closing_35 parts (iI (m : Nat)) (iI (fr : Nat)) (kX6_closing_85 (iI P) inv (iI (m : Nat))) p_FU (iI ((0 : Nat) : Int)) sq = _ := g2
    rw [g2]
    unfold kX6_closing_85 fX6_clear
    rw [Nat.sub_self] at g3
    have g3 : gX6_clear_4 (iI P) inv (iI (m : Nat)) kX6_clear_134 p_FU 1 0 w' = _ := g3
    rw [g3, b2_s]
  unfold fX6_closing cls
  rw [nm1 (by omega), show (2 : Int32) = iI ((2 : Nat) : Int) from rfl, ndv (by omega) (by omega) (by omega), b1_s, nrm (by omega) (by omega) (by omega), b1_s]
  by_cases h : n % 2 = 0
  · rw [if_pos (by rw [h]; rfl)]
    obtain ⟨sq', e⟩ := key 3 (by omega)
    refine ⟨sq', ?_⟩
    simp only [if_pos h]
    exact e
  · rw [if_neg (by rw [neq0 (by omega)]; exact h)]
    obtain ⟨sq', e⟩ := key 2 (by omega)
    refine ⟨sq', ?_⟩
    simp only [if_neg h]
    exact e
