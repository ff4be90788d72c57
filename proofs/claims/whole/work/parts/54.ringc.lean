/-! rings of the class -/
theorem b5_s {α1 α2 α3 α4 α5 δ : Type} (a : α1) (b : α2) (c : α3) (d : α4) (e : α5) (k : α1 → α2 → α3 → α4 → α5 → Option δ) : p_b5 (some (a, b, c, d, e)) k = k a b c d e := rfl
theorem e_walk1 {n : Nat} (hn : n ≤ 400) {s : Nat → Nat} (hs : Per n s) {nexts : Nat → Int32} (hx : ∀ f, f < n → nexts f = iI (s f : Nat)) {f r st : Nat} (hf : f < n) (hr : isRg s f r) (hst : st + r ≤ n) (kk : Int32 → (Nat → Int32) → (Nat → Int32) → Option (Int32 × (Nat → Int32) × (Nat → Int32) × (Nat → Int32) × (Nat → Int32))) (places walk : Nat → Int32) :
    ∃ places' walk', (∀ j, j < r → walk' (st + j) = iI (it s j f : Nat)) ∧ (∀ a, a < st → walk' a = walk a) ∧ (∀ j, j < r → places' (it s j f) = iI ((st + j : Nat) : Int)) ∧ (∀ g, (∀ j, j < r → g ≠ it s j f) → places' g = places g) ∧
      gX5_walkRing_5 (iI (n : Nat)) nexts (iI (f : Nat)) (iI (st : Nat)) kk p_FU (iI (st : Nat)) (iI (f : Nat)) places walk = kk (iI ((st + r : Nat) : Int)) places' walk' := by
  have h1r := hr.1
  refine wl (σ := Nat × (Nat → Int32) × (Nat → Int32)) (fun k b => gX5_walkRing_5 (iI (n : Nat)) nexts (iI (f : Nat)) (iI (st : Nat)) kk k (iI ((st + b.1 : Nat) : Int)) (iI (it s b.1 f : Nat)) b.2.1 b.2.2) (fun b => b.1 ≤ r ∧ (∀ j, j < b.1 → b.2.2 (st + j) = iI (it s j f : Nat)) ∧ (∀ a, a < st → b.2.2 a = walk a) ∧ (∀ j, j < b.1 → b.2.1 (it s j f) = iI ((st + j : Nat) : Int)) ∧ (∀ g, (∀ j, j < b.1 → g ≠ it s j f) → b.2.1 g = places g)) (fun b => r - b.1)
    (fun o => ∃ places' walk', (∀ j, j < r → walk' (st + j) = iI (it s j f : Nat)) ∧ (∀ a, a < st → walk' a = walk a) ∧ (∀ j, j < r → places' (it s j f) = iI ((st + j : Nat) : Int)) ∧ (∀ g, (∀ j, j < r → g ≠ it s j f) → places' g = places g) ∧ o = kk (iI ((st + r : Nat) : Int)) places' walk') ?_ p_FU (0, places, walk) ⟨by show 0 ≤ r; omega, fun j hj => by have hj : j < 0 := hj; omega, fun a _ => rfl, fun j hj => by have hj : j < 0 := hj; omega, fun g _ => rfl⟩ (by show r - 0 < p_FU; have := FU_big; omega)
  intro k ⟨j, pl, wk⟩ ⟨i1, i2, i3, i4, i5⟩
  have i1 : j ≤ r := i1
  have i2 : ∀ i, i < j → wk (st + i) = iI (it s i f : Nat) := i2
  have i3 : ∀ a, a < st → wk a = walk a := i3
  have i4 : ∀ i, i < j → pl (it s i f) = iI ((st + i : Nat) : Int) := i4
  have i5 : ∀ g, (∀ i, i < j → g ≠ it s i f) → pl g = places g := i5
  have hlt := it_lt hs hf j
  by_cases c : j = r
  · subst c
    left
    refine ⟨pl, wk, i2, i3, i4, i5, ?_⟩
    show FgX5_walkRing_5 (iI (n : Nat)) nexts (iI (f : Nat)) (iI (st : Nat)) (gX5_walkRing_5 (iI (n : Nat)) nexts (iI (f : Nat)) (iI (st : Nat)) kk k) kk (iI ((st + j : Nat) : Int)) (iI (it s j f : Nat)) pl wk = _
    unfold FgX5_walkRing_5
    by_cases c2 : n ≤ st + j
    · rw [if_pos ((nle (by omega) (by omega)).2 c2)]
    · rw [if_neg (fun h => c2 ((nle (by omega) (by omega)).1 h)), if_neg (fun h => absurd ((neq (by omega) (by omega)).1 h) (by omega)), if_pos ((neq (by omega) (by omega)).2 hr.2.1)]
  have i1 : j < r := by omega
  have e0 : gX5_walkRing_5 (iI (n : Nat)) nexts (iI (f : Nat)) (iI (st : Nat)) kk (k + 1) (iI ((st + j : Nat) : Int)) (iI (it s j f : Nat)) pl wk = gX5_walkRing_5 (iI (n : Nat)) nexts (iI (f : Nat)) (iI (st : Nat)) kk k (iI ((st + (j + 1) : Nat) : Int)) (iI (it s (j + 1) f : Nat)) (upd pl (it s j f) (iI ((st + j : Nat) : Int))) (upd wk (st + j) (iI (it s j f : Nat))) := by
    have e1 : jX5_walkRing_24 nexts (iI ((st + j : Nat) : Int)) (iI (it s j f : Nat)) pl wk (gX5_walkRing_5 (iI (n : Nat)) nexts (iI (f : Nat)) (iI (st : Nat)) kk k) = gX5_walkRing_5 (iI (n : Nat)) nexts (iI (f : Nat)) (iI (st : Nat)) kk k (iI ((st + (j + 1) : Nat) : Int)) (iI (it s (j + 1) f : Nat)) (upd pl (it s j f) (iI ((st + j : Nat) : Int))) (upd wk (st + j) (iI (it s j f : Nat))) := by
      unfold jX5_walkRing_24
      rw [nst (by omega) (by omega), b1_s, nst (by omega) (by omega), b1_s, nm_s, n1, nld (by omega) (by omega), b1_s, hx _ hlt]
      rfl
    show FgX5_walkRing_5 (iI (n : Nat)) nexts (iI (f : Nat)) (iI (st : Nat)) (gX5_walkRing_5 (iI (n : Nat)) nexts (iI (f : Nat)) (iI (st : Nat)) kk k) kk (iI ((st + j : Nat) : Int)) (iI (it s j f : Nat)) pl wk = _
    unfold FgX5_walkRing_5
    rw [if_neg (fun h => absurd ((nle (by omega) (by omega)).1 h) (by omega))]
    by_cases c0 : j = 0
    · rw [if_pos ((neq (by omega) (by omega)).2 (by omega))]; exact e1
    · rw [if_neg (fun h => absurd ((neq (by omega) (by omega)).1 h) (by omega)), if_neg (fun h => hr.2.2 j (by omega) (by omega) ((neq (by omega) (by omega)).1 h))]; exact e1
  have wk' : ∀ i, i < j + 1 → upd wk (st + j) (iI (it s j f : Nat)) (st + i) = iI (it s i f : Nat) := by
    intro i hi
    by_cases c : i = j
    · rw [c, pk_us]
    · rw [pk_un (by omega)]; exact i2 i (by omega)
  have wk'' : ∀ a, a < st → upd wk (st + j) (iI (it s j f : Nat)) a = walk a := by
    intro a ha
    rw [pk_un (by omega)]; exact i3 a ha
  have pl' : ∀ i, i < j + 1 → upd pl (it s j f) (iI ((st + j : Nat) : Int)) (it s i f) = iI ((st + i : Nat) : Int) := by
    intro i hi
    by_cases c : i = j
    · rw [c, pk_us]
    · rw [pk_un (rg_dist hs hf hr (show i < j by omega) i1)]; exact i4 i (by omega)
  have pl'' : ∀ g, (∀ i, i < j + 1 → g ≠ it s i f) → upd pl (it s j f) (iI ((st + j : Nat) : Int)) g = places g := by
    intro g hg
    rw [pk_un (hg j (by omega))]; exact i5 g (fun i hi => hg i (by omega))
  right
  refine ⟨(j + 1, _, _), ⟨by show j + 1 ≤ r; omega, wk', wk'', pl', pl''⟩, by show r - (j + 1) < r - j; omega, ?_⟩
  exact e0
theorem e_walk2 {n : Nat} (hn : n ≤ 400) {s : Nat → Nat} (hs : Per n s) {f r st : Nat} (hf : f < n) (hr : isRg s f r) (hst : st + r ≤ n) {walk : Nat → Int32} (hw : ∀ j, j < r → walk (st + j) = iI (it s j f : Nat)) (kk : (Nat → Int32) → (Nat → Int32) → Option (Int32 × (Nat → Int32) × (Nat → Int32) × (Nat → Int32) × (Nat → Int32))) (sizes starts : Nat → Int32) :
    ∃ sizes' starts', (∀ j, j < r → sizes' (it s j f) = iI (r : Nat) ∧ starts' (it s j f) = iI (st : Nat)) ∧ (∀ g, (∀ j, j < r → g ≠ it s j f) → sizes' g = sizes g ∧ starts' g = starts g) ∧
      gX5_walkRing_58 (iI (st : Nat)) (iI ((st + r : Nat) : Int)) walk kk p_FU (iI (st : Nat)) sizes starts = kk sizes' starts' := by
  have key := fn (fun k x (b : (Nat → Int32) × (Nat → Int32)) => gX5_walkRing_58 (iI (st : Nat)) (iI ((st + r : Nat) : Int)) walk kk k (iI ((st + x : Nat) : Int)) b.1 b.2) r (fun x b => (∀ j, j < x → b.1 (it s j f) = iI (r : Nat) ∧ b.2 (it s j f) = iI (st : Nat)) ∧ (∀ g, (∀ j, j < x → g ≠ it s j f) → b.1 g = sizes g ∧ b.2 g = starts g)) (fun o => ∃ sizes' starts', (∀ j, j < r → sizes' (it s j f) = iI (r : Nat) ∧ starts' (it s j f) = iI (st : Nat)) ∧ (∀ g, (∀ j, j < r → g ≠ it s j f) → sizes' g = sizes g ∧ starts' g = starts g) ∧ o = kk sizes' starts') ?_ ?_ p_FU 0 (sizes, starts) (by omega) ⟨fun j hj => by omega, fun g _ => ⟨rfl, rfl⟩⟩ (by have := FU_big; omega)
  · exact key
  · intro k b ⟨h1, h2⟩
    refine ⟨b.1, b.2, h1, h2, ?_⟩
    show FgX5_walkRing_58 (iI (st : Nat)) (iI ((st + r : Nat) : Int)) walk (gX5_walkRing_58 (iI (st : Nat)) (iI ((st + r : Nat) : Int)) walk kk k) kk (iI ((st + r : Nat) : Int)) b.1 b.2 = _
    unfold FgX5_walkRing_58
    rw [if_pos (Int32.le_refl _)]
  · intro k x b hxr ⟨h1, h2⟩
    have hlt := it_lt hs hf x
    refine ⟨(upd b.1 (it s x f) (iI (r : Nat)), upd b.2 (it s x f) (iI (st : Nat))), ⟨fun j hj => ?_, fun g hg => ?_⟩, ?_⟩
    · show upd b.1 (it s x f) (iI (r : Nat)) (it s j f) = _ ∧ upd b.2 (it s x f) (iI (st : Nat)) (it s j f) = _
      by_cases c : j = x
      · rw [c, pk_us, pk_us]; exact ⟨rfl, rfl⟩
      · rw [pk_un (rg_dist hs hf hr (show j < x by omega) hxr), pk_un (rg_dist hs hf hr (show j < x by omega) hxr)]; exact h1 j (by omega)
    · show upd b.1 (it s x f) (iI (r : Nat)) g = _ ∧ upd b.2 (it s x f) (iI (st : Nat)) g = _
      rw [pk_un (hg x (by omega)), pk_un (hg x (by omega))]; exact h2 g (fun j hj => hg j (by omega))
    · show FgX5_walkRing_58 (iI (st : Nat)) (iI ((st + r : Nat) : Int)) walk (gX5_walkRing_58 (iI (st : Nat)) (iI ((st + r : Nat) : Int)) walk kk k) kk (iI ((st + x : Nat) : Int)) b.1 b.2 = _
      unfold FgX5_walkRing_58
      rw [if_neg (by rw [nle (by omega) (by omega)]; omega), nld (by omega) (by omega), b1_s, hw x hxr, nst (by omega) (by omega), b1_s, b1_s, nsub (by omega), nst (by omega) (by omega), b1_s, nm_s, n1, Nat.add_sub_cancel_left]
      rfl
theorem e_walk {n : Nat} (hn : n ≤ 400) {s : Nat → Nat} (hs : Per n s) {nexts : Nat → Int32} (hx : ∀ f, f < n → nexts f = iI (s f : Nat)) {f r st : Nat} (hf : f < n) (hr : isRg s f r) (hst : st + r ≤ n) (places sizes starts walk : Nat → Int32) :
    ∃ places' sizes' starts' walk', (∀ j, j < r → walk' (st + j) = iI (it s j f : Nat) ∧ places' (it s j f) = iI ((st + j : Nat) : Int) ∧ sizes' (it s j f) = iI (r : Nat) ∧ starts' (it s j f) = iI (st : Nat)) ∧ (∀ a, a < st → walk' a = walk a) ∧ (∀ g, (∀ j, j < r → g ≠ it s j f) → places' g = places g ∧ sizes' g = sizes g ∧ starts' g = starts g) ∧
      fX5_walkRing (iI (n : Nat)) nexts places sizes starts walk (iI (f : Nat)) (iI (st : Nat)) = some (iI ((st + r : Nat) : Int), places', sizes', starts', walk') := by
  obtain ⟨places', walk', h1, h2, h3, h4, h5⟩ := e_walk1 hn hs hx hf hr hst (kX5_walkRing_55 sizes starts (iI (st : Nat))) places walk
  obtain ⟨sizes', starts', h6, h7, h8⟩ := e_walk2 hn hs hf hr hst h1 (kX5_walkRing_98 (iI ((st + r : Nat) : Int)) places' walk') sizes starts
  refine ⟨places', sizes', starts', walk', fun j hj => ⟨h1 j hj, h3 j hj, (h6 j hj).1, (h6 j hj).2⟩, h2, fun g hg => ⟨h4 g hg, h7 g hg⟩, ?_⟩
  unfold fX5_walkRing
  rw [h5]
  unfold kX5_walkRing_55
  rw [h8]
  rfl
/-- reached from a number below i -/
def cov (s : Nat → Nat) (i f : Nat) : Prop := ∃ i', i' < i ∧ ∃ k, f = it s k i'
def RAt (n : Nat) (s : Nat → Nat) (places sizes starts walk : Nat → Int32) (done f : Nat) : Prop := ∃ r st j, isRg s f r ∧ r ≤ n ∧ sizes f = iI (r : Nat) ∧ starts f = iI (st : Nat) ∧ places f = iI ((st + j : Nat) : Int) ∧ j < r ∧ st + r ≤ done ∧ ∀ t, walk (st + (j + t) % r) = iI (it s t f : Nat)
def RI (n : Nat) (s : Nat → Nat) (i done cnt : Nat) (places sizes starts walk : Nat → Int32) : Prop := done ≤ n ∧ (∀ f, f < n → cov s i f → RAt n s places sizes starts walk done f) ∧ (∀ f, f < n → ¬ cov s i f → sizes f = 0) ∧
  (∃ W : Nat → Nat, (∀ a, a < done → W a < n ∧ cov s i (W a)) ∧ ∀ a b, a < b → b < done → W a ≠ W b) ∧ cnt = ((List.range i).filter (lst s n)).length
theorem cov_s {s : Nat → Nat} {i f : Nat} : cov s (i + 1) f ↔ cov s i f ∨ ∃ k, f = it s k i := by
  constructor
  · intro ⟨i', h1, k, h2⟩
    by_cases c : i' = i
    · subst c; exact Or.inr ⟨k, h2⟩
    · exact Or.inl ⟨i', by omega, k, h2⟩
  · intro h
    rcases h with ⟨i', h1, k, h2⟩ | ⟨k, h2⟩
    · exact ⟨i', by omega, k, h2⟩
    · exact ⟨i, by omega, k, h2⟩
theorem cov_it {s : Nat → Nat} {i f : Nat} (h : cov s i f) (k : Nat) : cov s i (it s k f) := by
  obtain ⟨i', h1, k', h2⟩ := h
  exact ⟨i', h1, k + k', by rw [it_add, h2]⟩
theorem cov_back {n : Nat} {s : Nat → Nat} (hs : Per n s) {i f k : Nat} (hf : f < n) (h : cov s i (it s k f)) : cov s i f := by
  obtain ⟨j, hj⟩ := it_back hs hf k
  have := cov_it h j
  rw [hj] at this; exact this
theorem RI_old {n : Nat} {s : Nat → Nat} (hs : Per n s) {i done cnt : Nat} {places sizes starts walk : Nat → Int32} (hi : i < n) (h : RI n s i done cnt places sizes starts walk) (hc : cov s i i) : RI n s (i + 1) done cnt places sizes starts walk := by
  obtain ⟨h1, h2, h3, ⟨W, h4, h5⟩, h6⟩ := h
  have e : ∀ f, cov s (i + 1) f ↔ cov s i f := by
    intro f
    rw [cov_s]
    refine ⟨fun q => ?_, Or.inl⟩
    rcases q with q | ⟨k, q⟩
    · exact q
    · rw [q]; exact cov_it hc k
  refine ⟨h1, fun f hf hcf => h2 f hf ((e f).mp hcf), fun f hf hcf => h3 f hf (fun q => hcf ((e f).mpr q)), ⟨W, fun a ha => ⟨(h4 a ha).1, (e _).mpr (h4 a ha).2⟩, h5⟩, ?_⟩
  have hl : lst s n i = false := by
    cases hq : lst s n i with
    | false => rfl
    | true =>
      obtain ⟨i', g1, k, g2⟩ := hc
      obtain ⟨j, hj⟩ := it_back hs (show i' < n by omega) k
      rw [← g2] at hj
      have := (lst_iff hs hi).mp hq j
      omega
  rw [h6, List.range_succ, List.filter_append, List.filter_cons_of_neg (by rw [hl]; decide), List.filter_nil, List.append_nil]
theorem RI_room {n : Nat} {s : Nat → Nat} (hs : Per n s) {i done cnt r : Nat} {places sizes starts walk : Nat → Int32} (hi : i < n) (h : RI n s i done cnt places sizes starts walk) (hc : ¬ cov s i i) (hr : isRg s i r) : done + r ≤ n := by
  obtain ⟨h1, h2, h3, ⟨W, h4, h5⟩, h6⟩ := h
  refine holes (done + r) n (fun a => if a < done then W a else it s (a - done) i) (fun a ha => ?_) (fun a b hab hb => ?_)
  · show (if a < done then W a else it s (a - done) i) < n
    split
    · exact (h4 a (by assumption)).1
    · exact it_lt hs hi _
  · show (if a < done then W a else it s (a - done) i) ≠ (if b < done then W b else it s (b - done) i)
    by_cases ca : a < done
    · by_cases cb : b < done
      · rw [if_pos ca, if_pos cb]; exact h5 a b hab cb
      · rw [if_pos ca, if_neg cb]
        intro e
        have := (h4 a ca).2
        rw [e] at this
        exact hc (cov_back hs hi this)
    · rw [if_neg ca, if_neg (by omega)]
      exact rg_dist hs hi hr (by omega) (by omega)
theorem RI_new {n : Nat} {s : Nat → Nat} (hs : Per n s) {i done cnt r : Nat} {places sizes starts walk places' sizes' starts' walk' : Nat → Int32} (hi : i < n) (h : RI n s i done cnt places sizes starts walk) (hc : ¬ cov s i i) (hr : isRg s i r) (hrn : r ≤ n)
    (g1 : ∀ j, j < r → walk' (done + j) = iI (it s j i : Nat) ∧ places' (it s j i) = iI ((done + j : Nat) : Int) ∧ sizes' (it s j i) = iI (r : Nat) ∧ starts' (it s j i) = iI (done : Nat)) (g2 : ∀ a, a < done → walk' a = walk a) (g3 : ∀ g, (∀ j, j < r → g ≠ it s j i) → places' g = places g ∧ sizes' g = sizes g ∧ starts' g = starts g) :
    RI n s (i + 1) (done + r) (cnt + 1) places' sizes' starts' walk' := by
  have room := RI_room hs hi h hc hr
  obtain ⟨h1, h2, h3, ⟨W, h4, h5⟩, h6⟩ := h
  have hr0 : 0 < r := hr.1
  have cyc : ∀ f, (∃ k, f = it s k i) → ∃ j, j < r ∧ f = it s j i := by
    intro f ⟨k, hk⟩
    exact ⟨k % r, Nat.mod_lt _ hr0, by rw [it_mod hr]; exact hk⟩
  refine ⟨room, fun f hf hcf => ?_, fun f hf hcf => ?_, ⟨fun a => if a < done then W a else it s (a - done) i, fun a ha => ?_, fun a b hab hb => ?_⟩, ?_⟩
  · rcases cov_s.mp hcf with q | q
    · obtain ⟨r', st, j, a1, a2, a3, a4, a5, a6, a7, a8⟩ := h2 f hf q
      have hno : ∀ j, j < r → f ≠ it s j i := fun j _ e => hc (cov_back hs hi (by rw [← e]; exact q))
      obtain ⟨b1, b2, b3⟩ := g3 f hno
      refine ⟨r', st, j, a1, a2, by rw [b2]; exact a3, by rw [b3]; exact a4, by rw [b1]; exact a5, a6, by omega, fun t => ?_⟩
      have := Nat.mod_lt (j + t) (show 0 < r' by omega)
      rw [g2 _ (by omega)]; exact a8 t
    · obtain ⟨j, c1, c2⟩ := cyc f q
      subst c2
      obtain ⟨b1, b2, b3, b4⟩ := g1 j c1
      refine ⟨r, done, j, rg_it hs hi hr j, hrn, b3, b4, b2, c1, Nat.le_refl _, fun t => ?_⟩
      rw [(g1 ((j + t) % r) (Nat.mod_lt _ hr0)).1, it_mod hr, Nat.add_comm, it_add]
  · have n1 : ¬ cov s i f := fun q => hcf (cov_s.mpr (Or.inl q))
    have n2 : ∀ j, j < r → f ≠ it s j i := fun j _ e => hcf (cov_s.mpr (Or.inr ⟨j, e⟩))
    rw [(g3 f n2).2.1]; exact h3 f hf n1
  · show (if a < done then W a else it s (a - done) i) < n ∧ cov s (i + 1) (if a < done then W a else it s (a - done) i)
    by_cases ca : a < done
    · rw [if_pos ca]; exact ⟨(h4 a ca).1, cov_s.mpr (Or.inl (h4 a ca).2)⟩
    · rw [if_neg ca]; exact ⟨it_lt hs hi _, cov_s.mpr (Or.inr ⟨_, rfl⟩)⟩
  · show (if a < done then W a else it s (a - done) i) ≠ (if b < done then W b else it s (b - done) i)
    by_cases ca : a < done
    · by_cases cb : b < done
      · rw [if_pos ca, if_pos cb]; exact h5 a b hab cb
      · rw [if_pos ca, if_neg cb]
        intro e
        have := (h4 a ca).2
        rw [e] at this
        exact hc (cov_back hs hi this)
    · rw [if_neg ca, if_neg (by omega)]
      exact rg_dist hs hi hr (by omega) (by omega)
  · have hl : lst s n i = true := by
      rw [lst_iff hs hi]
      intro k
      rcases Nat.lt_or_ge (it s k i) i with q | q
      · obtain ⟨j, hj⟩ := it_back hs hi k
        exact absurd ⟨it s k i, q, j, hj.symm⟩ hc
      · exact q
    rw [h6, List.range_succ, List.filter_append, List.filter_cons_of_pos hl, List.filter_nil, List.length_append, List.length_singleton]
def RingsOK (n : Nat) (s : Nat → Nat) (places sizes starts walk : Nat → Int32) : Prop := ∀ f, f < n → RAt n s places sizes starts walk n f
theorem e_rings0 {n : Nat} (hn : n ≤ 400) (kk : (Nat → Int32) → Option (Int32 × (Nat → Int32) × (Nat → Int32) × (Nat → Int32) × (Nat → Int32))) (sizes : Nat → Int32) : ∃ sizes', (∀ f, f < n → sizes' f = 0) ∧ gX5_findRings_7 (iI (n : Nat)) kk p_FU 0 sizes = kk sizes' := by
  refine fn (fun k x (b : (Nat → Int32)) => gX5_findRings_7 (iI (n : Nat)) kk k (iI (x : Nat)) b) n (fun x b => ∀ f, f < x → b f = 0) (fun o => ∃ sizes', (∀ f, f < n → sizes' f = 0) ∧ o = kk sizes') ?_ ?_ p_FU 0 sizes (by omega) (fun f hf => by omega) (by have := FU_big; omega)
  · intro k b h
    refine ⟨b, h, ?_⟩
    show FgX5_findRings_7 (iI (n : Nat)) (gX5_findRings_7 (iI (n : Nat)) kk k) kk (iI (n : Nat)) b = _
    unfold FgX5_findRings_7
    rw [if_pos (Int32.le_refl _)]
  · intro k x b hx h
    refine ⟨upd b x 0, fun f hf => ?_, ?_⟩
    · by_cases c : f = x
      · rw [c, pk_us]
      · rw [pk_un c]; exact h f (by omega)
    · show FgX5_findRings_7 (iI (n : Nat)) (gX5_findRings_7 (iI (n : Nat)) kk k) kk (iI (x : Nat)) b = _
      unfold FgX5_findRings_7
      rw [if_neg (by rw [nle (by omega) (by omega)]; omega), nst (by omega) (by omega), b1_s, nm_s, n1]
theorem e_rings {n : Nat} (hn : n ≤ 400) {s : Nat → Nat} (hs : Per n s) {nexts : Nat → Int32} (hx : ∀ f, f < n → nexts f = iI (s f : Nat)) (rc : Int32) (places sizes starts walk : Nat → Int32) :
    ∃ places' sizes' starts' walk', RingsOK n s places' sizes' starts' walk' ∧ fX5_findRings (iI (n : Nat)) rc nexts places sizes starts walk = some (iI (((List.range n).filter (lst s n)).length : Nat), places', sizes', starts', walk') := by
  unfold fX5_findRings
  obtain ⟨z, hz, e0⟩ := e_rings0 hn (kX5_findRings_28 (iI (n : Nat)) nexts places starts walk) sizes
  rw [e0]
  unfold kX5_findRings_28
  refine fn (fun k x (b : (Nat × Nat) × (Nat → Int32) × (Nat → Int32) × (Nat → Int32) × (Nat → Int32)) => gX5_findRings_32 (iI (n : Nat)) nexts kX5_findRings_72 k (iI (b.1.1 : Nat)) (iI (x : Nat)) (iI (b.1.2 : Nat)) b.2.1 b.2.2.1 b.2.2.2.1 b.2.2.2.2) n (fun x b => RI n s x b.1.1 b.1.2 b.2.1 b.2.2.1 b.2.2.2.1 b.2.2.2.2) (fun o => ∃ places' sizes' starts' walk', RingsOK n s places' sizes' starts' walk' ∧ o = some (iI (((List.range n).filter (lst s n)).length : Nat), places', sizes', starts', walk')) ?_ ?_ p_FU 0 ((0, 0), places, z, starts, walk) (by omega) ⟨Nat.zero_le _, fun f _ ⟨i', q, _⟩ => by omega, fun f hf _ => hz f hf, ⟨fun _ => 0, fun a ha => by have ha : a < 0 := ha; omega, fun a b _ hb => by have hb : b < 0 := hb; omega⟩, rfl⟩ (by have := FU_big; omega)
  · intro k b ⟨h1, h2, h3, h4, h5⟩
    refine ⟨b.2.1, b.2.2.1, b.2.2.2.1, b.2.2.2.2, fun f hf => ?_, ?_⟩
    · obtain ⟨r, st, j, a1, a2, a3, a4, a5, a6, a7, a8⟩ := h2 f hf ⟨f, hf, 0, rfl⟩
      exact ⟨r, st, j, a1, a2, a3, a4, a5, a6, by omega, a8⟩
    · show FgX5_findRings_32 (iI (n : Nat)) nexts (gX5_findRings_32 (iI (n : Nat)) nexts kX5_findRings_72 k) kX5_findRings_72 (iI (b.1.1 : Nat)) (iI (n : Nat)) (iI (b.1.2 : Nat)) b.2.1 b.2.2.1 b.2.2.2.1 b.2.2.2.2 = _
      unfold FgX5_findRings_32
      rw [if_pos (Int32.le_refl _), h5]; rfl
  · intro k x b hxn h
    by_cases c : cov s x x
    · refine ⟨b, RI_old hs hxn h c, ?_⟩
      obtain ⟨r, st, j, a1, a2, a3, -⟩ := h.2.1 x hxn c
      have := a1.1
      show FgX5_findRings_32 (iI (n : Nat)) nexts (gX5_findRings_32 (iI (n : Nat)) nexts kX5_findRings_72 k) kX5_findRings_72 (iI (b.1.1 : Nat)) (iI (x : Nat)) (iI (b.1.2 : Nat)) b.2.1 b.2.2.1 b.2.2.2.1 b.2.2.2.2 = _
      unfold FgX5_findRings_32 jX5_findRings_66
      rw [if_neg (by rw [nle (by omega) (by omega)]; omega), nld (by omega) (by omega), b1_s, a3, if_neg (by rw [neq0 (by omega)]; omega), nm_s, n1]
    · obtain ⟨r, hrn, hr⟩ := rg_ex hs hxn
      have room := RI_room hs hxn h c hr
      obtain ⟨p', z', s', w', g1, g2, g3, g4⟩ := e_walk hn hs hx hxn hr room b.2.1 b.2.2.1 b.2.2.2.1 b.2.2.2.2
      refine ⟨((b.1.1 + r, b.1.2 + 1), p', z', s', w'), RI_new hs hxn h c hr hrn g1 g2 g3, ?_⟩
      show FgX5_findRings_32 (iI (n : Nat)) nexts (gX5_findRings_32 (iI (n : Nat)) nexts kX5_findRings_72 k) kX5_findRings_72 (iI (b.1.1 : Nat)) (iI (x : Nat)) (iI (b.1.2 : Nat)) b.2.1 b.2.2.1 b.2.2.2.1 b.2.2.2.2 = _
      unfold FgX5_findRings_32 jX5_findRings_66
      rw [if_neg (by rw [nle (by omega) (by omega)]; omega), nld (by omega) (by omega), b1_s, h.2.2.1 x hxn c, if_pos rfl, g4, b5_s, nm_s, nm_s, n1, n1]
theorem e_hasFlag {n f : Nat} (hn : n ≤ 400) (hf : f < n) : fX5_hasFlag (iI (n : Nat)) (iI (f : Nat)) = some 1 := by
  unfold fX5_hasFlag
  rw [if_neg (by rw [show (0 : Int32) = iI ((0 : Nat) : Int) from rfl, nlt (by omega) (by omega)]; omega), if_neg (by rw [nle (by omega) (by omega)]; omega)]
theorem e_after {n : Nat} (hn : n ≤ 400) {s : Nat → Nat} {places sizes starts walk : Nat → Int32} (h : RingsOK n s places sizes starts walk) {f k : Nat} (hf : f < n) (hk : k ≤ 100000) : fX5_after (iI (n : Nat)) places sizes starts walk (iI (f : Nat)) (iI (k : Nat)) = some (iI (it s k f : Nat)) := by
  obtain ⟨r, st, j, a1, a2, a3, a4, a5, a6, a7, a8⟩ := h f hf
  have h1 := a1.1
  have hm := Nat.mod_lt (j + k) (show 0 < r by omega)
  unfold fX5_after
  rw [e_hasFlag hn hf, b1_s, if_neg (by decide), if_neg (by rw [show (0 : Int32) = iI ((0 : Nat) : Int) from rfl, nlt (by omega) (by omega)]; omega), nld (by omega) (by omega), b1_s, a3, if_pos (by rw [show (1 : Int32) = iI ((1 : Nat) : Int) from rfl, nle (by omega) (by omega)]; omega), nld (by omega) (by omega), b1_s, nld (by omega) (by omega), b1_s, b1_s, a4, a5, nsub (by omega), nadd, Nat.add_sub_cancel_left, nrm (by omega) (by omega) (by omega), b1_s, nadd, nld (by omega) (by omega), b1_s, a8 k]
theorem e_ringOf {n : Nat} (hn : n ≤ 400) {s : Nat → Nat} {places sizes starts walk : Nat → Int32} (h : RingsOK n s places sizes starts walk) {f : Nat} (hf : f < n) : ∃ r, isRg s f r ∧ r ≤ n ∧ fX5_ringOf (iI (n : Nat)) sizes (iI (f : Nat)) = some (iI (r : Nat)) := by
  obtain ⟨r, st, j, a1, a2, a3, a4, a5, a6, a7, a8⟩ := h f hf
  refine ⟨r, a1, a2, ?_⟩
  unfold fX5_ringOf
  rw [e_hasFlag hn hf, b1_s, if_neg (by decide), nld (by omega) (by omega), b1_s, a3]
