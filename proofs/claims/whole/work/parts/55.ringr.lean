/-! rings of the reference -/
theorem e_ringOf9 {n : Nat} (hn : n ≤ 400) {s : Nat → Nat} (hs : Per n s) {nexts : Nat → Int32} (hx : ∀ f, f < n → nexts f = iI (s f : Nat)) {f r : Nat} (hf : f < n) (hr : isRg s f r) (hrn : r ≤ n) : fX9_ringOf nexts (iI (f : Nat)) = some (iI (r : Nat)) := by
  unfold fX9_ringOf
  rw [nld (by omega) (by omega), b1_s, hx f hf]
  have h1 := hr.1
  refine wl (σ := Nat) (fun k j => gX9_ringOf_9 nexts (iI (f : Nat)) kX9_ringOf_34 k (iI (j : Nat)) (iI (it s j f : Nat))) (fun j => 1 ≤ j ∧ j ≤ r) (fun j => r - j) (fun o => o = some (iI (r : Nat))) ?_ p_FU 1 ⟨by omega, h1⟩ (by have := FU_big; omega)
  intro k j ⟨i1, i2⟩
  have hlt := it_lt hs hf j
  show (FgX9_ringOf_9 nexts (iI (f : Nat)) (gX9_ringOf_9 nexts (iI (f : Nat)) kX9_ringOf_34 k) kX9_ringOf_34 (iI (j : Nat)) (iI (it s j f : Nat)) = _) ∨ ∃ s', _ ∧ _ ∧ FgX9_ringOf_9 nexts (iI (f : Nat)) (gX9_ringOf_9 nexts (iI (f : Nat)) kX9_ringOf_34 k) kX9_ringOf_34 (iI (j : Nat)) (iI (it s j f : Nat)) = _
  unfold FgX9_ringOf_9
  by_cases c : j = r
  · left
    rw [c, if_pos (by rw [hr.2.1])]; rfl
  · right
    refine ⟨j + 1, ⟨by omega, by omega⟩, by omega, ?_⟩
    rw [if_neg (by rw [neq (by omega) (by omega)]; exact hr.2.2 j i1 (by omega)), if_neg (by rw [show (400 : Int32) = iI ((400 : Nat) : Int) from rfl, nlt (by omega) (by omega)]; omega), nm_s, n1, nld (by omega) (by omega), b1_s, hx _ hlt]
    rfl
theorem e_onFrom9 {n : Nat} (hn : n ≤ 400) {s : Nat → Nat} (hs : Per n s) {nexts : Nat → Int32} (hx : ∀ f, f < n → nexts f = iI (s f : Nat)) {f k : Nat} (hf : f < n) (hk : k ≤ 100000) : fX9_onFrom nexts (iI (f : Nat)) (iI (k : Nat)) = some (iI (it s k f : Nat)) := by
  obtain ⟨r, hrn, hr⟩ := rg_ex hs hf
  have h1 := hr.1
  unfold fX9_onFrom
  rw [e_ringOf9 hn hs hx hf hr hrn, b1_s, nrm (by omega) (by omega) (by omega), b1_s, ← it_mod hr]
  have hm := Nat.mod_lt k (show 0 < r by omega)
  generalize k % r = K at hm ⊢
  have key := fn (fun q j (_ : Unit) => gX9_onFrom_11 nexts kX9_onFrom_29 q (iI (it s j f : Nat)) (iI ((K - j : Nat) : Int))) K (fun _ _ => True) (fun o => o = some (iI (it s K f : Nat))) ?_ ?_ p_FU 0 () (by omega) trivial (by have := FU_big; omega)
  · exact key
  · intro q _ _
    show FgX9_onFrom_11 nexts (gX9_onFrom_11 nexts kX9_onFrom_29 q) kX9_onFrom_29 (iI (it s K f : Nat)) (iI ((K - K : Nat) : Int)) = _
    unfold FgX9_onFrom_11
    rw [Nat.sub_self, if_pos (show iI ((0 : Nat) : Int) ≤ 0 from Int32.le_refl _)]; rfl
  · intro q j _ hj _
    have hlt := it_lt hs hf j
    refine ⟨(), trivial, ?_⟩
    show FgX9_onFrom_11 nexts (gX9_onFrom_11 nexts kX9_onFrom_29 q) kX9_onFrom_29 (iI (it s j f : Nat)) (iI ((K - j : Nat) : Int)) = _
    unfold FgX9_onFrom_11
    rw [if_neg (by rw [show (0 : Int32) = iI ((0 : Nat) : Int) from rfl, nle (by omega) (by omega)]; omega), nld (by omega) (by omega), b1_s, hx _ hlt, nm1' (by omega), nm_s, show K - j - 1 = K - (j + 1) by omega]
    rfl
theorem e_ahead9 {n : Nat} (hn : n ≤ 400) {s : Nat → Nat} (hs : Per n s) {nexts : Nat → Int32} (hx : ∀ f, f < n → nexts f = iI (s f : Nat)) {f g : Nat} (hg : g < n) (hgf : s g = f) : fX9_ahead (iI (n : Nat)) nexts (iI (f : Nat)) = some (iI (g : Nat)) := by
  have hf : f < n := by rw [← hgf]; exact hs.1 g hg
  unfold fX9_ahead
  refine fn (fun q x (b : Int32) => gX9_ahead_5 (iI (n : Nat)) nexts (iI (f : Nat)) kX9_ahead_35 q b (iI (x : Nat))) n (fun x b => g < x → b = iI (g : Nat)) (fun o => o = some (iI (g : Nat))) ?_ ?_ p_FU 0 (-6) (by omega) (fun h => by omega) (by have := FU_big; omega)
  · intro q b h
    show FgX9_ahead_5 (iI (n : Nat)) nexts (iI (f : Nat)) (gX9_ahead_5 (iI (n : Nat)) nexts (iI (f : Nat)) kX9_ahead_35 q) kX9_ahead_35 b (iI (n : Nat)) = _
    unfold FgX9_ahead_5
    rw [if_pos (Int32.le_refl _), h hg]; rfl
  · intro q x b hxn h
    have hlt := hs.1 x hxn
    have e0 : gX9_ahead_5 (iI (n : Nat)) nexts (iI (f : Nat)) kX9_ahead_35 (q + 1) b (iI (x : Nat)) = if s x = f then gX9_ahead_5 (iI (n : Nat)) nexts (iI (f : Nat)) kX9_ahead_35 q (iI (x : Nat)) (iI ((x + 1 : Nat) : Int)) else gX9_ahead_5 (iI (n : Nat)) nexts (iI (f : Nat)) kX9_ahead_35 q b (iI ((x + 1 : Nat) : Int)) := by
      show FgX9_ahead_5 (iI (n : Nat)) nexts (iI (f : Nat)) (gX9_ahead_5 (iI (n : Nat)) nexts (iI (f : Nat)) kX9_ahead_35 q) kX9_ahead_35 b (iI (x : Nat)) = _
      unfold FgX9_ahead_5 jX9_ahead_28
      rw [if_neg (by rw [nle (by omega) (by omega)]; omega), nld (by omega) (by omega), b1_s, hx x hxn]
      simp only [neq (show s x < 2147483648 by omega) (show f < 2147483648 by omega), nm_s, n1]
    by_cases c : s x = f
    · have e : x = g := hs.2 x g hxn hg (by rw [c, hgf])
      refine ⟨iI (x : Nat), fun _ => by rw [e], ?_⟩
      show gX9_ahead_5 (iI (n : Nat)) nexts (iI (f : Nat)) kX9_ahead_35 (q + 1) b (iI (x : Nat)) = _
      rw [e0, if_pos c]
    · refine ⟨b, fun hgx => h ?_, ?_⟩
      · by_cases e : g = x
        · rw [e] at hgf; exact absurd hgf c
        · omega
      · show gX9_ahead_5 (iI (n : Nat)) nexts (iI (f : Nat)) kX9_ahead_35 (q + 1) b (iI (x : Nat)) = _
        rw [e0, if_neg c]
theorem e_rings_in {n : Nat} (hn : n ≤ 400) {s : Nat → Nat} (hs : Per n s) {nexts : Nat → Int32} (hx : ∀ f, f < n → nexts f = iI (s f : Nat)) {f : Nat} (hf : f < n) (kk : Int32 → Option (Int32 × Int32 × Int32 × Int32 × Int32 × Int32 × Int32 × Int32 × (Nat → Int32) × (Nat → Int32) × (Nat → Int32) × (Nat → Int32) × (Nat → Int32) × (Nat → Int32) × (Nat → Int32) × (Nat → Int32) × (Nat → Int32) × (Nat → Int32) × (Nat → Int32) × (Nat → Int32))) : gX9_rings_35 nexts (iI (f : Nat)) kk p_FU 1 (iI (s f : Nat)) 0 = kk (if lst s n f = true then 1 else 0) := by
  obtain ⟨r, hrn, hr⟩ := rg_ex hs hf
  have h1 := hr.1
  refine wl (σ := Nat × Int32) (fun k b => gX9_rings_35 nexts (iI (f : Nat)) kk k b.2 (iI (it s (b.1 + 1) f : Nat)) (iI (b.1 : Nat))) (fun b => b.1 < r ∧ ((b.2 = 1 ∧ ∀ i, i ≤ b.1 → f ≤ it s i f) ∨ (b.2 = 0 ∧ ¬ lst s n f = true))) (fun b => r - b.1) (fun o => o = kk (if lst s n f = true then 1 else 0)) ?_ p_FU (0, 1) ⟨by show 0 < r; omega, Or.inl ⟨rfl, fun i hi => by have hi : i ≤ 0 := hi; rw [show i = 0 by omega]; exact Nat.le_refl _⟩⟩ (by show r - 0 < p_FU; have := FU_big; omega)
  intro k ⟨j, b⟩ ⟨i1, i2⟩
  have i1 : j < r := i1
  have i2 : (b = 1 ∧ ∀ i, i ≤ j → f ≤ it s i f) ∨ (b = 0 ∧ ¬ lst s n f = true) := i2
  have hlt := it_lt hs hf (j + 1)
  show (FgX9_rings_35 nexts (iI (f : Nat)) (gX9_rings_35 nexts (iI (f : Nat)) kk k) kk b (iI (it s (j + 1) f : Nat)) (iI (j : Nat)) = _) ∨ ∃ s', _ ∧ _ ∧ FgX9_rings_35 nexts (iI (f : Nat)) (gX9_rings_35 nexts (iI (f : Nat)) kk k) kk b (iI (it s (j + 1) f : Nat)) (iI (j : Nat)) = _
  unfold FgX9_rings_35 jX9_rings_63 jX9_rings_64
  rw [if_neg (by rw [show (400 : Int32) = iI ((400 : Nat) : Int) from rfl, nle (by omega) (by omega)]; omega)]
  by_cases c : j + 1 = r
  · left
    rw [c, if_pos (by rw [hr.2.1])]
    rcases i2 with ⟨i2, i3⟩ | ⟨i2, i3⟩
    · have : lst s n f = true := by
        rw [lst_iff hs hf]
        intro q
        rw [← it_mod hr]
        have := Nat.mod_lt q (show 0 < r by omega)
        exact i3 _ (by omega)
      rw [i2, if_pos this]
    · rw [i2, if_neg i3]
  · right
    have hne := hr.2.2 (j + 1) (by omega) (by omega)
    rw [if_neg (by rw [neq (by omega) (by omega)]; exact hne), nld (by omega) (by omega), hx _ hlt]
    simp only [b1_s, nm_s, n1]
    rcases i2 with ⟨i2, i3⟩ | ⟨i2, i3⟩
    · rw [i2, if_neg (by decide)]
      by_cases c2 : it s (j + 1) f ≤ f
      · refine ⟨(j + 1, 0), ⟨by show j + 1 < r; omega, Or.inr ⟨rfl, fun h => ?_⟩⟩, by show r - (j + 1) < r - j; omega, ?_⟩
        · have := (lst_iff hs hf).mp h (j + 1)
          omega
        · rw [if_pos (by rw [nle (by omega) (by omega)]; exact c2)]; rfl
      · refine ⟨(j + 1, 1), ⟨by show j + 1 < r; omega, Or.inl ⟨rfl, fun i hi => ?_⟩⟩, by show r - (j + 1) < r - j; omega, ?_⟩
        · have hi : i ≤ j + 1 := hi
          by_cases ci : i = j + 1
          · rw [ci]; omega
          · exact i3 i (by omega)
        · rw [if_neg (by rw [nle (by omega) (by omega)]; exact c2)]; rfl
    · refine ⟨(j + 1, 0), ⟨by show j + 1 < r; omega, Or.inr ⟨rfl, i3⟩⟩, by show r - (j + 1) < r - j; omega, ?_⟩
      rw [i2, if_pos rfl]; rfl
theorem e_rings9 {n : Nat} (hn : n ≤ 400) {s : Nat → Nat} (hs : Per n s) {nexts : Nat → Int32} (hx : ∀ f, f < n → nexts f = iI (s f : Nat)) (kk : Int32 → Option (Int32 × Int32 × Int32 × Int32 × Int32 × Int32 × Int32 × Int32 × (Nat → Int32) × (Nat → Int32) × (Nat → Int32) × (Nat → Int32) × (Nat → Int32) × (Nat → Int32) × (Nat → Int32) × (Nat → Int32) × (Nat → Int32) × (Nat → Int32) × (Nat → Int32) × (Nat → Int32))) : gX9_rings_14 (iI (n : Nat)) nexts kk p_FU 0 0 = kk (iI (((List.range n).filter (lst s n)).length : Nat)) := by
  have key := fn (fun q x (_ : Unit) => gX9_rings_14 (iI (n : Nat)) nexts kk q (iI (((List.range x).filter (lst s n)).length : Nat)) (iI (x : Nat))) n (fun _ _ => True) (fun o => o = kk (iI (((List.range n).filter (lst s n)).length : Nat))) ?_ ?_ p_FU 0 () (by omega) trivial (by have := FU_big; omega)
  · exact key
  · intro q _ _
    show FgX9_rings_14 (iI (n : Nat)) nexts (gX9_rings_14 (iI (n : Nat)) nexts kk q) kk (iI (((List.range n).filter (lst s n)).length : Nat)) (iI (n : Nat)) = _
    unfold FgX9_rings_14
    rw [if_pos (Int32.le_refl _)]
  · intro q x _ hxn _
    refine ⟨(), trivial, ?_⟩
    show FgX9_rings_14 (iI (n : Nat)) nexts (gX9_rings_14 (iI (n : Nat)) nexts kk q) kk (iI (((List.range x).filter (lst s n)).length : Nat)) (iI (x : Nat)) = _
    unfold FgX9_rings_14
    rw [if_neg (by rw [nle (by omega) (by omega)]; omega), nld (by omega) (by omega), b1_s, hx x hxn, e_rings_in hn hs hx hxn]
    unfold kX9_rings_80 jX9_rings_90
    rw [List.range_succ, List.filter_append, List.length_append]
    by_cases c : lst s n x = true
    · rw [if_pos c, if_neg (by decide), nm_s, nm_s, n1, n1, List.filter_cons_of_pos c]; rfl
    · rw [if_neg c, if_pos rfl, nm_s, nm_s, n1, List.filter_cons_of_neg c, show (0 : Int32) = iI ((0 : Nat) : Int) from rfl, nadd]; rfl
