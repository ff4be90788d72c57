/-! steps of the class -/
theorem holdF_at {lines points : Nat → Int32} {F : List (Nat × Nat)} (h : holdF lines points F) {f : Nat} (hf : f < F.length) : lines f = iI (kl F f : Nat) ∧ points f = iI (kp F f : Nat) := by
  refine ⟨?_, ?_⟩
  · refine hold_at h.1 (i := f) ?_
    unfold cz kl
    rw [List.getElem?_map, List.getElem?_map, List.getElem?_eq_getElem hf, List.getD_eq_getElem?_getD, List.getElem?_eq_getElem hf]; rfl
  · refine hold_at h.2 (i := f) ?_
    unfold cz kp
    rw [List.getElem?_map, List.getElem?_map, List.getElem?_eq_getElem hf, List.getD_eq_getElem?_getD, List.getElem?_eq_getElem hf]; rfl
theorem e_find_pt {pts : List Nat} (hs : pts.Pairwise (· < ·)) (hlen : pts.length ≤ 200) (hb : ∀ k, k ∈ pts → k < 100000) {keys : Nat → Int32} (hk : hold keys (cz pts)) {t : Nat} (ht : t < pts.length) : fX5_findPoint (iI (pts.length : Nat)) keys (iI (pts.getD t 0 : Nat)) = some (iI (t : Nat)) := by
  unfold fX5_findPoint
  rw [nm1 (by omega), nm_s]
  have bt := hb _ (getD_mem ht)
  refine wl (σ := Nat × Nat × Nat) (fun n s => gX5_findPoint_12 keys (iI (pts.getD t 0 : Nat)) kX5_findPoint_76 n (iI (s.1 : Nat)) (iI (s.2.1 : Nat)) (iI (s.2.2 : Nat))) (fun s => s.1 ≤ t ∧ t ≤ s.2.1 ∧ s.2.1 < pts.length ∧ s.2.2 + (s.2.1 - s.1 + 1) ≤ 200) (fun s => s.2.1 - s.1) (fun o => o = some (iI (t : Nat))) ?_ p_FU (0, pts.length - 1, 0) ⟨by show 0 ≤ t; omega, by show t ≤ pts.length - 1; omega, by show pts.length - 1 < pts.length; omega, by show 0 + (pts.length - 1 - 0 + 1) ≤ 200; omega⟩ (by show pts.length - 1 - 0 < p_FU; have := FU_big; omega)
  intro n ⟨lo, hi, lk⟩ ⟨h1, h2, h3, h4⟩
  have h1 : lo ≤ t := h1
  have h2 : t ≤ hi := h2
  have h3 : hi < pts.length := h3
  have h4 : lk + (hi - lo + 1) ≤ 200 := h4
  show (FgX5_findPoint_12 keys (iI (pts.getD t 0 : Nat)) (gX5_findPoint_12 keys (iI (pts.getD t 0 : Nat)) kX5_findPoint_76 n) kX5_findPoint_76 (iI (lo : Nat)) (iI (hi : Nat)) (iI (lk : Nat)) = _) ∨ ∃ s', _ ∧ _ ∧ FgX5_findPoint_12 keys (iI (pts.getD t 0 : Nat)) (gX5_findPoint_12 keys (iI (pts.getD t 0 : Nat)) kX5_findPoint_76 n) kX5_findPoint_76 (iI (lo : Nat)) (iI (hi : Nat)) (iI (lk : Nat)) = _
  have hmid : (lo + hi) / 2 < pts.length := by omega
  have bm := hb _ (getD_mem hmid)
  have e0 : FgX5_findPoint_12 keys (iI (pts.getD t 0 : Nat)) (gX5_findPoint_12 keys (iI (pts.getD t 0 : Nat)) kX5_findPoint_76 n) kX5_findPoint_76 (iI (lo : Nat)) (iI (hi : Nat)) (iI (lk : Nat)) = if pts.getD ((lo + hi) / 2) 0 = pts.getD t 0 then some (iI (((lo + hi) / 2 : Nat) : Int)) else if pts.getD t 0 ≤ pts.getD ((lo + hi) / 2) 0 then gX5_findPoint_12 keys (iI (pts.getD t 0 : Nat)) kX5_findPoint_76 n (iI (lo : Nat)) (iI (((lo + hi) / 2 : Nat) : Int) - 1) (iI ((lk + 1 : Nat) : Int)) else gX5_findPoint_12 keys (iI (pts.getD t 0 : Nat)) kX5_findPoint_76 n (iI (((lo + hi) / 2 + 1 : Nat) : Int)) (iI (hi : Nat)) (iI ((lk + 1 : Nat) : Int)) := by
    unfold FgX5_findPoint_12 jX5_findPoint_70
    rw [if_neg (by rw [show (200 : Int32) = iI ((200 : Nat) : Int) from rfl, nle (by omega) (by omega)]; omega), if_neg (by rw [nlt (by omega) (by omega)]; omega), nadd, show (2 : Int32) = iI ((2 : Nat) : Int) from rfl, ndv (by omega) (by omega) (by omega), b1_s, nld (by omega) (by omega), b1_s, b1_s, hold_cz hk hmid]
    simp only [neq (show pts.getD ((lo + hi) / 2) 0 < 2147483648 by omega) (show pts.getD t 0 < 2147483648 by omega), nle (show pts.getD t 0 < 2147483648 by omega) (show pts.getD ((lo + hi) / 2) 0 < 2147483648 by omega), nm_s, n1]
  by_cases c1 : pts.getD ((lo + hi) / 2) 0 = pts.getD t 0
  · left
    rw [e0, if_pos c1, pts_inj hs hmid ht c1]
  · right
    by_cases c2 : pts.getD t 0 ≤ pts.getD ((lo + hi) / 2) 0
    · have c3 : t < (lo + hi) / 2 := by
        rcases Nat.lt_or_ge t ((lo + hi) / 2) with q | q
        · exact q
        · rcases Nat.eq_or_lt_of_le q with q | q
          · rw [q] at c1; exact absurd rfl c1
          · have := sorted_lt hs q ht; omega
      refine ⟨(lo, (lo + hi) / 2 - 1, lk + 1), ⟨h1, by show t ≤ (lo + hi) / 2 - 1; omega, by show (lo + hi) / 2 - 1 < pts.length; omega, by show lk + 1 + ((lo + hi) / 2 - 1 - lo + 1) ≤ 200; omega⟩, by show (lo + hi) / 2 - 1 - lo < hi - lo; omega, ?_⟩
      rw [e0, if_neg c1, if_pos c2, nm1 (by omega)]
    · have c3 : (lo + hi) / 2 < t := by
        rcases Nat.lt_or_ge ((lo + hi) / 2) t with q | q
        · exact q
        · rcases Nat.eq_or_lt_of_le q with q | q
          · rw [q] at c1; exact absurd rfl c1
          · have := sorted_lt hs q hmid; omega
      refine ⟨((lo + hi) / 2 + 1, hi, lk + 1), ⟨by show (lo + hi) / 2 + 1 ≤ t; omega, h2, h3, by show lk + 1 + (hi - ((lo + hi) / 2 + 1) + 1) ≤ 200; omega⟩, by show hi - ((lo + hi) / 2 + 1) < hi - lo; omega, ?_⟩
      rw [e0, if_neg c1, if_neg c2]
theorem e_beside {P : Nat} {C : Nat → Int} {l cnt lo up : Nat} (h : Met2 P C l cnt lo up) {lo' up' : Int32} (hlu : 1 ≤ cnt → lo' = iI (lo : Nat) ∧ up' = iI (up : Nat)) (hb : P * P + P < 100000) {k : Nat} (hk : k ≤ P * P + P) (ho : onl P C l k) :
    ∃ k2, fX3_keyBeside (iI (cnt : Nat)) lo' up' (iI (k : Nat)) = some (iI (k2 : Nat)) ∧ k2 ≤ P * P + P ∧ onl P C l k2 ∧ (k2 ≠ k ∨ ∀ k', k' ≤ P * P + P → onl P C l k' → k' = k) := by
  obtain ⟨h1, h2, h3, h4, h5⟩ := h
  unfold fX3_keyBeside
  have hc : 1 ≤ cnt := by rcases (h5 k hk).mp ho with q | q <;> omega
  obtain ⟨rfl, rfl⟩ := hlu hc
  obtain ⟨b1, b2⟩ := h2 hc
  rw [show (2 : Int32) = iI ((2 : Nat) : Int) from rfl]
  by_cases c2 : cnt = 2
  · rw [if_pos (by rw [nle (by omega) (by omega)]; omega)]
    have hlt := h4 c2
    by_cases e : k = lo
    · rw [if_pos (by rw [e])]
      exact ⟨up, rfl, b2, (h5 up b2).mpr (Or.inr ⟨c2, rfl⟩), Or.inl (by omega)⟩
    · rw [if_neg (by rw [neq (by omega) (by omega)]; exact e)]
      refine ⟨lo, rfl, b1, (h5 lo b1).mpr (Or.inl ⟨hc, rfl⟩), Or.inl (fun q => e q.symm)⟩
  · rw [if_neg (by rw [nle (by omega) (by omega)]; omega)]
    refine ⟨k, rfl, hk, ho, Or.inr (fun k' hk' ho' => ?_)⟩
    rcases (h5 k hk).mp ho with q | q
    · rcases (h5 k' hk').mp ho' with q' | q'
      · omega
      · omega
    · omega
theorem e_fbeside {P : Nat} {m : Nat → Int} {pts : List Nat} (hlen : pts.length ≤ 200) (hn : (flg P m pts pts.length).length ≤ 400) (hlb : ∀ f, f < (flg P m pts pts.length).length → kl (flg P m pts pts.length) f < 100000) {first lines points : Nat → Int32} (h1 : ∀ j, j ≤ pts.length → first j = iI ((flg P m pts j).length : Nat)) (h2 : holdF lines points (flg P m pts pts.length)) {f q : Nat} (hf : f < (flg P m pts pts.length).length) (hq : q < pts.length) (hex : ∃ f', f' < (flg P m pts pts.length).length ∧ kp (flg P m pts pts.length) f' = q ∧ kl (flg P m pts pts.length) f' = kl (flg P m pts pts.length) f) :
    ∃ g, fX5_flagBeside (iI (pts.length : Nat)) first lines (iI (f : Nat)) (iI (q : Nat)) = some (iI (g : Nat)) ∧ g < (flg P m pts pts.length).length ∧ kp (flg P m pts pts.length) g = q ∧ (kl (flg P m pts pts.length) g ≠ kl (flg P m pts pts.length) f ∨ ∀ h, h < (flg P m pts pts.length).length → kp (flg P m pts pts.length) h = q → kl (flg P m pts pts.length) h = kl (flg P m pts pts.length) f) := by
  obtain ⟨f', a1, a2, a3⟩ := hex
  have s1 := (fl_seg a1 hq).mp a2
  have hle : (flg P m pts (q + 1)).length ≤ (flg P m pts pts.length).length := by
    obtain ⟨R, hR⟩ := flg_pre P m pts (show q + 1 ≤ pts.length from hq)
    rw [hR, List.length_append]; omega
  unfold fX5_flagBeside fX5_hasPoint
  rw [if_neg (by rw [show (0 : Int32) = iI ((0 : Nat) : Int) from rfl, nlt (by omega) (by omega)]; omega), if_neg (by rw [nle (by omega) (by omega)]; omega), b1_s, if_neg (by decide), nld (by omega) (by omega), b1_s, h1 q (by omega)]
  refine wl (σ := Int32 × Nat) (fun n s => gX5_flagBeside_20 first lines (iI (f : Nat)) (iI (q : Nat)) kX5_flagBeside_60 n s.1 (iI (s.2 : Nat))) (fun s => (flg P m pts q).length ≤ s.2 ∧ s.2 ≤ (flg P m pts (q + 1)).length ∧ (∀ h, (flg P m pts q).length ≤ h → h < s.2 → kl (flg P m pts pts.length) h = kl (flg P m pts pts.length) f) ∧ (s.2 = (flg P m pts q).length ∨ s.1 = iI ((s.2 - 1 : Nat) : Int))) (fun s => (flg P m pts (q + 1)).length - s.2)
    (fun o => ∃ g, o = some (iI (g : Nat)) ∧ g < (flg P m pts pts.length).length ∧ kp (flg P m pts pts.length) g = q ∧ (kl (flg P m pts pts.length) g ≠ kl (flg P m pts pts.length) f ∨ ∀ h, h < (flg P m pts pts.length).length → kp (flg P m pts pts.length) h = q → kl (flg P m pts pts.length) h = kl (flg P m pts pts.length) f)) ?_ p_FU (iI (f : Nat), (flg P m pts q).length) ⟨Nat.le_refl _, by show (flg P m pts q).length ≤ (flg P m pts (q + 1)).length; omega, fun h c1 c2 => by have c2 : h < (flg P m pts q).length := c2; omega, Or.inl rfl⟩ (by show (flg P m pts (q + 1)).length - (flg P m pts q).length < p_FU; have := FU_big; omega)
  intro n ⟨bs, i⟩ ⟨i1, i2, i3, i4⟩
  have i1 : (flg P m pts q).length ≤ i := i1
  have i2 : i ≤ (flg P m pts (q + 1)).length := i2
  have i3 : ∀ h, (flg P m pts q).length ≤ h → h < i → kl (flg P m pts pts.length) h = kl (flg P m pts pts.length) f := i3
  have i4 : i = (flg P m pts q).length ∨ bs = iI ((i - 1 : Nat) : Int) := i4
  show (∃ g, FgX5_flagBeside_20 first lines (iI (f : Nat)) (iI (q : Nat)) (gX5_flagBeside_20 first lines (iI (f : Nat)) (iI (q : Nat)) kX5_flagBeside_60 n) kX5_flagBeside_60 bs (iI (i : Nat)) = some (iI (g : Nat)) ∧ _) ∨ ∃ s', _ ∧ _ ∧ FgX5_flagBeside_20 first lines (iI (f : Nat)) (iI (q : Nat)) (gX5_flagBeside_20 first lines (iI (f : Nat)) (iI (q : Nat)) kX5_flagBeside_60 n) kX5_flagBeside_60 bs (iI (i : Nat)) = _
  unfold FgX5_flagBeside_20
  rw [n1, nld (by omega) (by omega), b1_s, h1 (q + 1) (by omega)]
  by_cases c : i = (flg P m pts (q + 1)).length
  · left
    rcases i4 with i4 | i4
    · omega
    · rw [if_pos (by rw [nle (by omega) (by omega)]; omega)]
      unfold kX5_flagBeside_60
      refine ⟨i - 1, by rw [i4], by omega, (fl_seg (by omega) hq).mpr ⟨by omega, by omega⟩, Or.inr (fun h hh hk => ?_)⟩
      have := (fl_seg hh hq).mp hk
      exact i3 h this.1 (by omega)
  · rw [if_neg (by rw [nle (by omega) (by omega)]; omega), nld (by omega) (by omega), b1_s, nld (by omega) (by omega), b1_s, (holdF_at h2 (show i < (flg P m pts pts.length).length by omega)).1, (holdF_at h2 hf).1]
    have b1 := hlb i (by omega)
    have b2 := hlb f hf
    by_cases e : kl (flg P m pts pts.length) i = kl (flg P m pts pts.length) f
    · right
      refine ⟨(iI (i : Nat), i + 1), ⟨by show (flg P m pts q).length ≤ i + 1; omega, by show i + 1 ≤ (flg P m pts (q + 1)).length; omega, fun h c1 c2 => ?_, Or.inr ?_⟩, by show (flg P m pts (q + 1)).length - (i + 1) < (flg P m pts (q + 1)).length - i; omega, ?_⟩
      · have c2 : h < i + 1 := c2
        by_cases c3 : h = i
        · rw [c3]; exact e
        · exact i3 h c1 (by omega)
      · show iI (i : Nat) = iI ((i + 1 - 1 : Nat) : Int)
        rw [Nat.add_sub_cancel]
      · rw [if_pos (by rw [e]), nm_s, n1]
    · left
      refine ⟨i, by rw [if_neg (by rw [neq (by omega) (by omega)]; exact e)], by omega, (fl_seg (by omega) hq).mpr ⟨i1, by omega⟩, Or.inl e⟩
set_option maxHeartbeats 400000 in
theorem e_steps {P : Nat} (hp : z_pr P = true) [NeZero P] {inv roots : Nat → Int32} (hN : NumOK P inv roots) {C m : Nat → Int} (hC : elF P C) (hdC : dt P C ≠ 0) (hm : elF P m) (hdm : dt P m ≠ 0) {pts : List Nat} (hP : PtsOK P C pts) (hlen : pts.length ≤ 200) {keys first lines points : Nat → Int32} (hk : hold keys (cz pts)) (h1 : ∀ j, j ≤ pts.length → first j = iI ((flg P m pts j).length : Nat)) (h2 : holdF lines points (flg P m pts pts.length)) (s0 befores nexts : Nat → Int32) :
    ∃ (s : Nat → Int32) (befores' nexts' : Nat → Int32), (∀ f, f < (flg P m pts pts.length).length → nexts' f = iI (nx (flg P m pts pts.length).length (kp (flg P m pts pts.length)) (kl (flg P m pts pts.length)) f : Nat)) ∧ (∀ f, f < (flg P m pts pts.length).length → befores' (nx (flg P m pts pts.length).length (kp (flg P m pts pts.length)) (kl (flg P m pts pts.length)) f) = iI (f : Nat)) ∧ fX5_findSteps (iI ((flg P m pts pts.length).length : Nat)) (iI (pts.length : Nat)) (iI (C 0)) (iI (C 1)) (iI (C 2)) (iI (C 3)) (iI (C 4)) (iI (C 5)) (iI P) inv roots befores first lines points (s0 0) (s0 1) (s0 2) (s0 3) (s0 4) (s0 5) (s0 6) (s0 7) (s0 8) (s0 9) (s0 10) (s0 11) nexts keys = some (befores', s 0, s 1, s 2, s 3, s 4, s 5, s 6, s 7, s 8, s 9, s 10, s 11, nexts') := by
  have hpp := pp_b hp
  have hb := pr_rng hp
  have hpt : ∀ k, k ∈ pts → k ≤ P * P + P := fun k hk => ((hP.2 k).mp hk).1
  have hn : (flg P m pts pts.length).length ≤ 400 := by
    have := flg_len hp hm hdm hpt pts.length (Nat.le_refl _); omega
  have t1 := fl_two_p hp hm hdm hpt
  have t2 := fl_two_l hp (m := m) hC hdC hP
  unfold fX5_findSteps
  generalize hK : kX5_findSteps_77 = K
  have key : ∃ (s : Nat → Int32) (befores' nexts' : Nat → Int32), (∀ f, f < (flg P m pts pts.length).length → nexts' f = iI (nx (flg P m pts pts.length).length (kp (flg P m pts pts.length)) (kl (flg P m pts pts.length)) f : Nat)) ∧ (∀ f, f < (flg P m pts pts.length).length → befores' (nx (flg P m pts pts.length).length (kp (flg P m pts pts.length)) (kl (flg P m pts pts.length)) f) = iI (f : Nat)) ∧ gX5_findSteps_2 (iI (pts.length : Nat)) (iI ((flg P m pts pts.length).length : Nat)) (iI (C 0)) (iI (C 1)) (iI (C 2)) (iI (C 3)) (iI (C 4)) (iI (C 5)) (iI P) inv roots first lines points keys K p_FU (iI ((0 : Nat) : Int)) befores (s0 0) (s0 1) (s0 2) (s0 3) (s0 4) (s0 5) (s0 6) (s0 7) (s0 8) (s0 9) (s0 10) (s0 11) nexts = some (befores', s 0, s 1, s 2, s 3, s 4, s 5, s 6, s 7, s 8, s 9, s 10, s 11, nexts') := by
   refine fn (fun n x (b : (Nat → Int32) × (Nat → Int32) × (Nat → Int32)) => gX5_findSteps_2 (iI (pts.length : Nat)) (iI ((flg P m pts pts.length).length : Nat)) (iI (C 0)) (iI (C 1)) (iI (C 2)) (iI (C 3)) (iI (C 4)) (iI (C 5)) (iI P) inv roots first lines points keys K n (iI (x : Nat)) b.2.1 (b.1 0) (b.1 1) (b.1 2) (b.1 3) (b.1 4) (b.1 5) (b.1 6) (b.1 7) (b.1 8) (b.1 9) (b.1 10) (b.1 11) b.2.2) (flg P m pts pts.length).length (fun x b => (∀ f, f < x → b.2.2 f = iI (nx (flg P m pts pts.length).length (kp (flg P m pts pts.length)) (kl (flg P m pts pts.length)) f : Nat)) ∧ (∀ f, f < x → b.2.1 (nx (flg P m pts pts.length).length (kp (flg P m pts pts.length)) (kl (flg P m pts pts.length)) f) = iI (f : Nat))) (fun o => ∃ (s : Nat → Int32) (befores' nexts' : Nat → Int32), (∀ f, f < (flg P m pts pts.length).length → nexts' f = iI (nx (flg P m pts pts.length).length (kp (flg P m pts pts.length)) (kl (flg P m pts pts.length)) f : Nat)) ∧ (∀ f, f < (flg P m pts pts.length).length → befores' (nx (flg P m pts pts.length).length (kp (flg P m pts pts.length)) (kl (flg P m pts pts.length)) f) = iI (f : Nat)) ∧ o = some (befores', s 0, s 1, s 2, s 3, s 4, s 5, s 6, s 7, s 8, s 9, s 10, s 11, nexts')) ?_ ?_ p_FU 0 (s0, befores, nexts) (by omega) ⟨fun j hj => by omega, fun j hj => by omega⟩ (by have := FU_big; omega)
   · intro n b ⟨g1, g2⟩
     refine ⟨b.1, b.2.1, b.2.2, g1, g2, ?_⟩
     show FgX5_findSteps_2 (iI (pts.length : Nat)) (iI ((flg P m pts pts.length).length : Nat)) (iI (C 0)) (iI (C 1)) (iI (C 2)) (iI (C 3)) (iI (C 4)) (iI (C 5)) (iI P) inv roots first lines points keys (gX5_findSteps_2 (iI (pts.length : Nat)) (iI ((flg P m pts pts.length).length : Nat)) (iI (C 0)) (iI (C 1)) (iI (C 2)) (iI (C 3)) (iI (C 4)) (iI (C 5)) (iI P) inv roots first lines points keys K n) K (iI ((flg P m pts pts.length).length : Nat)) b.2.1 (b.1 0) (b.1 1) (b.1 2) (b.1 3) (b.1 4) (b.1 5) (b.1 6) (b.1 7) (b.1 8) (b.1 9) (b.1 10) (b.1 11) b.2.2 = _
     unfold FgX5_findSteps_2
     rw [if_pos (Int32.le_refl _), ← hK]
     rfl
   · intro n x b hx ⟨g1, g2⟩
     obtain ⟨a1, a2, a3, a4⟩ := fl_on hP hx
     obtain ⟨a5, -⟩ := fl_pt hx
     obtain ⟨cnt, lo, up, lo', up', e1, e2, e3, f1, f2, f3, k1, k2, k3, hM, hlu, ef⟩ := e_find hp hN hC hdC a1 (b.1 0) (b.1 1) (b.1 2) (b.1 3) (b.1 4) (b.1 5) (b.1 6) (b.1 7) (b.1 8) (b.1 9) (b.1 10) (b.1 11)
     obtain ⟨key2, c1, c2, c3, c4⟩ := e_beside hM hlu (by omega) a3 a4
     have hmem : key2 ∈ pts := (hP.2 key2).mpr ⟨c2, onl_onF c3⟩
     obtain ⟨q, hq, hqk⟩ := mem_getD hmem
     have e4 := e_find_pt hP.1 hlen (fun k hk => by have := hpt k hk; omega) hk hq
     rw [hqk] at e4
     rw [← hqk] at c3 c4
     obtain ⟨g, e5, d1, d2, d3⟩ := e_fbeside hlen hn (fun f hf => by have := (fl_on hP hf).1; omega) h1 h2 hx hq (fl_other hP hx hq c3)
     have hnx : nx (flg P m pts pts.length).length (kp (flg P m pts pts.length)) (kl (flg P m pts pts.length)) x = g := by
       refine nx_is hp hC hdC hm hdm hP hx hq c3 ?_ d1 d2 d3
       rcases c4 with c4 | c4
       · left; intro e; rw [e] at c4; exact c4 rfl
       · right
         intro i hi ho
         exact pts_inj hP.1 hi a5 (c4 _ (hpt _ (getD_mem hi)) ho)
     refine ⟨(fun i => ([iI (cnt : Nat), lo', up', e1, e2, e3, f1, f2, f3, k1, k2, k3] : List Int32).getD i 0, upd b.2.1 g (iI (x : Nat)), upd b.2.2 x (iI (g : Nat))), ⟨?_, ?_⟩, ?_⟩
     · intro f hf
       show upd b.2.2 x (iI (g : Nat)) f = _
       by_cases c : f = x
       · rw [c, pk_us, hnx]
       · rw [pk_un c]; exact g1 f (by omega)
     · intro f hf
       show upd b.2.1 g (iI (x : Nat)) (nx (flg P m pts pts.length).length (kp (flg P m pts pts.length)) (kl (flg P m pts pts.length)) f) = _
       by_cases c : f = x
       · rw [c, hnx, pk_us]
       · rw [pk_un (fun e => c (nx_inj t1 t2 (by omega) hx (by rw [e, hnx])))]; exact g2 f (by omega)
     · show FgX5_findSteps_2 (iI (pts.length : Nat)) (iI ((flg P m pts pts.length).length : Nat)) (iI (C 0)) (iI (C 1)) (iI (C 2)) (iI (C 3)) (iI (C 4)) (iI (C 5)) (iI P) inv roots first lines points keys (gX5_findSteps_2 (iI (pts.length : Nat)) (iI ((flg P m pts pts.length).length : Nat)) (iI (C 0)) (iI (C 1)) (iI (C 2)) (iI (C 3)) (iI (C 4)) (iI (C 5)) (iI P) inv roots first lines points keys K n) K (iI (x : Nat)) b.2.1 (b.1 0) (b.1 1) (b.1 2) (b.1 3) (b.1 4) (b.1 5) (b.1 6) (b.1 7) (b.1 8) (b.1 9) (b.1 10) (b.1 11) b.2.2 = _
       unfold FgX5_findSteps_2
       rw [if_neg (by rw [nle (by omega) (by omega)]; omega), nld (by omega) (by omega), b1_s, (holdF_at h2 hx).1, ef, b12_s, nld (by omega) (by omega), b1_s, (holdF_at h2 hx).2, nld (by omega) (by omega), b1_s, hold_cz hk a5, c1, b1_s, e4, b1_s, e5, b1_s, nst (by omega) (by omega), b1_s, nst (by omega) (by omega), b1_s, nm_s, n1]
       rfl
  exact key
