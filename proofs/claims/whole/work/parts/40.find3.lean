theorem met_1 {P : Nat} {m : Nat → Int} {l k1 : Nat} (h1 : k1 ≤ P * P + P) (h : ∀ k, k ≤ P * P + P → (onl P m l k ↔ k = k1)) : Met2 P m l 1 k1 k1 :=
  ⟨by omega, fun _ => ⟨h1, h1⟩, fun _ => rfl, fun q => by omega, fun k hk => by
    rw [h k hk]
    exact ⟨fun e => Or.inl ⟨by omega, e⟩, fun q => by rcases q with q | q <;> exact q.2⟩⟩
theorem met_2 {P : Nat} {m : Nat → Int} {l k1 k2 : Nat} (h1 : k1 ≤ P * P + P) (h2 : k2 ≤ P * P + P) (hlt : k1 < k2) (h : ∀ k, k ≤ P * P + P → (onl P m l k ↔ k = k1 ∨ k = k2)) : Met2 P m l 2 k1 k2 :=
  ⟨by omega, fun _ => ⟨h1, h2⟩, fun q => by omega, fun _ => hlt, fun k hk => by
    rw [h k hk]
    exact ⟨fun e => e.elim (fun e => Or.inl ⟨by omega, e⟩) (fun e => Or.inr ⟨rfl, e⟩), fun q => q.elim (fun q => Or.inl q.2) (fun q => Or.inr q.2)⟩⟩
theorem rt_none {P : Nat} (hp : z_pr P = true) [NeZero P] {x : Nat} (hx : x < P) (h : rt P x = -6) (q : Fin P) : q * q ≠ em P (x : Nat) := by
  intro e
  obtain ⟨z, hz, rfl⟩ := fin_em q
  obtain ⟨n, hn, rfl⟩ := el_nat hz
  have hb := pr_rng hp
  have ho := pr_odd P (by omega) hp
  have hno := rtk_none (P := P) (x := x) (n := P / 2 + 1) h
  have key : ∀ r : Nat, r < P / 2 + 1 → em P (r : Nat) * em P (r : Nat) ≠ em P (x : Nat) := by
    intro r hr e
    rw [← em_mul, em_eq, ← Int.natCast_mul, ← Int.natCast_emod, ← Int.natCast_emod, Nat.mod_eq_of_lt hx] at e
    exact hno r hr (by omega)
  rcases Nat.lt_or_ge n (P / 2 + 1) with h1 | h1
  · exact key n h1 e
  · refine key (P - n) (by omega) ?_
    have h2 : em P ((P - n : Nat) : Int) = - em P (n : Nat) := by
      rw [← em_neg, em_eq, Int.ofNat_sub (by omega)]
      rw [show (P : Int) - n = -n + P by omega, Int.add_emod_right]
    rw [h2]; grind
theorem rt_some {P : Nat} [NeZero P] {x : Nat} (h : rt P x ≠ -6) : ∃ r : Nat, r < P / 2 + 1 ∧ rt P x = (r : Int) ∧ em P (r : Nat) * em P (r : Nat) = em P (x : Nat) := by
  rcases rtk_range P x (P / 2 + 1) with e | ⟨r, h1, h2, h3⟩
  · exact absurd e h
  · refine ⟨r, h1, h3, ?_⟩
    rw [← em_mul, em_eq, ← Int.natCast_mul, ← h2, Int.natCast_emod, Int.emod_emod_of_dvd _ (Int.dvd_refl _)]
theorem rg_1 {K : Type} [Lean.Grind.CommRing K] {u b : K} (hu : 2 * u = 1) (h : 2 * b = 0) : b = 0 := by
  have e : u * (2 * b) = (2 * u) * b := by grind
  rw [h, hu] at e
  grind
theorem rg_2 {K : Type} [Lean.Grind.CommRing K] {c w u b : K} (hc : c * w = 1) (hu : 2 * u = 1) (h : 0 = c * (2 * b)) : b = 0 := rg_1 hu (by grind)
theorem rg_3 {K : Type} [Lean.Grind.CommRing K] {a b v : K} (hv : 2 * v = 1) (h : a - b = 1 * (-a - b)) : a = 0 := rg_1 hv (by grind)
theorem e_find {P l : Nat} (hp : z_pr P = true) [NeZero P] {inv roots : Nat → Int32} (hN : NumOK P inv roots) {m : Nat → Int} (hm : elF P m) (hd : dt P m ≠ 0) (hl : l ≤ P * P + P) (t1 t2 t3 s1 s2 s3 s4 s5 s6 s7 s8 s9 : Int32) :
    ∃ (cnt lo up : Nat) (lo' up' e1 e2 e3 f1 f2 f3 g1 g2 g3 : Int32), Met2 P m l cnt lo up ∧ (1 ≤ cnt → lo' = iI (lo : Nat) ∧ up' = iI (up : Nat)) ∧
      fX3_find t1 t2 t3 (iI (m 0)) (iI (m 1)) (iI (m 2)) (iI (m 3)) (iI (m 4)) (iI (m 5)) (iI P) inv roots s1 s2 s3 s4 s5 s6 s7 s8 s9 (iI (l : Nat)) = some (iI (cnt : Nat), lo', up', e1, e2, e3, f1, f2, f3, g1, g2, g3) := by
  have hb := pr_rng hp
  have hpp := pp_b hp
  obtain ⟨S, E, hS, hE, hO, es⟩ := e_span hp hl s1 s2 s3 s4 s5 s6 s7 s8 s9
  have hO' := hO
  obtain ⟨-, -, hco, hin, hnd⟩ := hO'
  have hdr : rdt (P := P) m ≠ 0 := by
    rw [← em_dt, ne_eq, el_em0 (show el P (dt P m) from el_mod hp _)]; exact hd
  have hAe : el P (qf P m (S 0) (S 1) (S 2)) := el_mod hp _
  have hCe : el P (qf P m (E 0) (E 1) (E 2)) := el_mod hp _
  have hBe : el P (qb P m (S 0) (S 1) (S 2) (E 0) (E 1) (E 2)) := el_mod hp _
  have eA : em P (qf P m (S 0) (S 1) (S 2)) = rq m (em P (S 0)) (em P (S 1)) (em P (S 2)) (em P (S 0)) (em P (S 1)) (em P (S 2)) := em_qb m _ _ _ _ _ _
  have eC : em P (qf P m (E 0) (E 1) (E 2)) = rq m (em P (E 0)) (em P (E 1)) (em P (E 2)) (em P (E 0)) (em P (E 1)) (em P (E 2)) := em_qb m _ _ _ _ _ _
  have eB : em P (qb P m (S 0) (S 1) (S 2) (E 0) (E 1) (E 2)) = rq m (em P (S 0)) (em P (S 1)) (em P (S 2)) (em P (E 0)) (em P (E 1)) (em P (E 2)) := em_qb m _ _ _ _ _ _
  have on1 : ∀ {s t : Int}, ¬ (em P s = 0 ∧ em P t = 0) → em P (qf P m (S 0) (S 1) (S 2)) * em P s * em P s + 2 * em P (qb P m (S 0) (S 1) (S 2) (E 0) (E 1) (E 2)) * em P s * em P t + em P (qf P m (E 0) (E 1) (E 2)) * em P t * em P t = 0 → onl P m l (kS P S E s t) := by
    intro s t h hq
    rw [eA, eB, eC] at hq
    exact kS_on hp hO m h hq
  have back : ∀ k, k ≤ P * P + P → onl P m l k → ∃ a b : Fin P, ¬ (a = 0 ∧ b = 0) ∧ em P (tx P k) = a * em P (S 0) + b * em P (E 0) ∧ em P (ty P k) = a * em P (S 1) + b * em P (E 1) ∧ em P (tz P k) = a * em P (S 2) + b * em P (E 2) ∧ em P (qf P m (S 0) (S 1) (S 2)) * a * a + 2 * em P (qb P m (S 0) (S 1) (S 2) (E 0) (E 1) (E 2)) * a * b + em P (qf P m (E 0) (E 1) (E 2)) * b * b = 0 := by
    intro k hk ho
    rw [onl_em hp] at ho
    obtain ⟨a, b, h1, h2, h3⟩ := hco _ _ _ ho.1
    refine ⟨a, b, ?_, h1, h2, h3, ?_⟩
    · intro ⟨ha, hb⟩
      have h10 := fin_10 hp
      rw [ha, hb] at h1 h2 h3
      rcases key_cases hp hk with ⟨_, _, _, _, _, _, _, _, q⟩ | ⟨_, _, _, _, q, _⟩ | ⟨_, q, _, _⟩
      · rw [q, em_1] at h3; exact h10 (by (try clear fin2); (try clear two); (try clear p1); (try clear p2); (try clear is1); (try clear back); (try clear on1); (try clear hnd); (try clear hin); (try clear hco); (try clear kl); (try clear hN); (try clear hm); (try clear hS); (try clear hE); (try clear hO); grind)
      · rw [q, em_1] at h2; exact h10 (by (try clear fin2); (try clear two); (try clear p1); (try clear p2); (try clear is1); (try clear back); (try clear on1); (try clear hnd); (try clear hin); (try clear hco); (try clear kl); (try clear hN); (try clear hm); (try clear hS); (try clear hE); (try clear hO); grind)
      · rw [q, em_1] at h1; exact h10 (by (try clear fin2); (try clear two); (try clear p1); (try clear p2); (try clear is1); (try clear back); (try clear on1); (try clear hnd); (try clear hin); (try clear hco); (try clear kl); (try clear hN); (try clear hm); (try clear hS); (try clear hE); (try clear hO); grind)
    · have := ho.2
      rw [h1, h2, h3, rq_lin] at this
      rw [eA, eB, eC]; exact this
  have is1 : ∀ {k : Nat} {s t : Int} {a b : Fin P} (c : Fin P), k ≤ P * P + P → em P (tx P k) = a * em P (S 0) + b * em P (E 0) → em P (ty P k) = a * em P (S 1) + b * em P (E 1) → em P (tz P k) = a * em P (S 2) + b * em P (E 2) → a = c * em P s → b = c * em P t → k = kS P S E s t := by
    intro k s t a b c hk h1 h2 h3 ha hb
    rw [ha, hb] at h1 h2 h3
    exact (kS_is hp hk c h1 h2 h3).symm
  generalize hA0 : qf P m (S 0) (S 1) (S 2) = A at *
  generalize hC0 : qf P m (E 0) (E 1) (E 2) = C at *
  generalize hB0 : qb P m (S 0) (S 1) (S 2) (E 0) (E 1) (E 2) = B at *
  have hABC : ¬ (A = 0 ∧ B = 0 ∧ C = 0) := by
    intro ⟨h1, h2, h3⟩
    refine hdr (hnd m ?_ ?_ ?_)
    · rw [← eA, h1, em_0]
    · rw [← eB, h2, em_0]
    · rw [← eC, h3, em_0]
  unfold fX3_find
  rw [es, b9_s, e_at hp hm (hS 0) (hS 1) (hS 2), b1_s, e_at hp hm (hE 0) (hE 1) (hE 2), b1_s, e_betw hp hm (hS 0) (hS 1) (hS 2) (hE 0) (hE 1) (hE 2), b1_s, hA0, hC0, hB0]
  have kl : ∀ s t : Int, kS P S E s t ≤ P * P + P := fun s t => ky_le hp _ _ _
  have fin2 : ∀ (k1 k2 : Nat) (f1 f2 f3 g1 g2 g3 g4 g5 g6 : Int32), k1 ≤ P * P + P → k2 ≤ P * P + P → k1 ≠ k2 → (∀ k, k ≤ P * P + P → (onl P m l k ↔ k = k1 ∨ k = k2)) →
      ∃ (cnt lo up : Nat) (lo' up' e1 e2 e3 h1 h2 h3 i1 i2 i3 : Int32), Met2 P m l cnt lo up ∧ (1 ≤ cnt → lo' = iI (lo : Nat) ∧ up' = iI (up : Nat)) ∧ (p_b6 (if (1 : Int32) = 0 then some ((1 : Int32) + 1, iI (k2 : Nat), iI (k2 : Nat), g1, g2, g3) else if iI (k1 : Nat) ≤ iI (k2 : Nat) then some ((1 : Int32) + 1, iI (k1 : Nat), iI (k2 : Nat), g1, g2, g3) else some ((1 : Int32) + 1, iI (k2 : Nat), iI (k1 : Nat), g1, g2, g3)) fun v20 v21 v22 v23 v24 v25 => some (v20, v21, v22, f1, f2, f3, v23, v24, v25, g4, g5, g6)) = some (iI (cnt : Nat), lo', up', e1, e2, e3, h1, h2, h3, i1, i2, i3) := by
    intro k1 k2 f1 f2 f3 g1 g2 g3 g4 g5 g6 h1 h2 hne hon
    rw [if_neg (by decide)]
    by_cases hle : k1 ≤ k2
    · refine ⟨2, k1, k2, iI (k1 : Nat), iI (k2 : Nat), f1, f2, f3, g1, g2, g3, g4, g5, g6, met_2 h1 h2 (by omega) hon, fun _ => ⟨rfl, rfl⟩, ?_⟩
      rw [if_pos (by rw [iI_le (by omega) (by omega) (by omega) (by omega)]; omega), b6_s]; rfl
    · refine ⟨2, k2, k1, iI (k2 : Nat), iI (k1 : Nat), f1, f2, f3, g1, g2, g3, g4, g5, g6, met_2 h2 h1 (by omega) (fun k hk => by rw [hon k hk]; exact Or.comm), fun _ => ⟨rfl, rfl⟩, ?_⟩
      rw [if_neg (by rw [iI_le (by omega) (by omega) (by omega) (by omega)]; omega), b6_s]; rfl
  have h10 := fin_10 hp
  have h20 := fin_2 hp
  by_cases hA : A = 0
  · have hA' : em P A = 0 := by rw [hA, em_0]
    rw [if_pos ((el_0 hp hAe).mpr hA)]
    have p1 : fX3_put 0 t2 t3 (iI P) inv (iI (E 0)) (iI (E 1)) (iI (E 2)) (iI (tx P l)) (iI (ty P l)) (iI (tz P l)) (iI (S 0)) (iI (S 1)) (iI (S 2)) 1 0 = _ := e_put hp hN hS hE (s := 1) (t := 0) (by show (1 : Int).natAbs ≤ 400; decide) (by show (0 : Int).natAbs ≤ 400; decide) 0 t2 t3 _ _ _
    rw [p1, if_pos rfl, b6_s]
    have n1 : ¬ (em P 1 = 0 ∧ em P 0 = 0) := fun h => h10 (by rw [← em_1]; exact h.1)
    have o1 : onl P m l (kS P S E 1 0) := on1 n1 (by rw [hA', em_0]; (try clear fin2); (try clear two); (try clear p1); (try clear p2); (try clear is1); (try clear back); (try clear on1); (try clear hnd); (try clear hin); (try clear hco); (try clear kl); (try clear hN); (try clear hm); (try clear hS); (try clear hE); (try clear hO); grind)
    by_cases hB : B = 0
    · have hC : C ≠ 0 := fun h => hABC ⟨hA, hB, h⟩
      rw [if_pos ((el_0 hp hBe).mpr hB)]
      refine ⟨1, kS P S E 1 0, kS P S E 1 0, _, _, _, _, _, _, _, _, _, _, _, met_1 (kl 1 0) (fun k hk => ⟨fun ho => ?_, fun e => by rw [e]; exact o1⟩), fun _ => ⟨rfl, rfl⟩, rfl⟩
      obtain ⟨a, b, h0, h1, h2, h3, hq⟩ := back k hk ho
      have hB' : em P B = 0 := by rw [hB, em_0]
      have hC' : em P C ≠ 0 := fun h => hC ((el_em0 hCe).mp h)
      rcases quad_0 hp (B := em P B) (C := em P C) (s := a) (t := b) (by rw [hA'] at hq; (try clear fin2); (try clear two); (try clear p1); (try clear p2); (try clear is1); (try clear back); (try clear on1); (try clear hnd); (try clear hin); (try clear hco); (try clear kl); (try clear hN); (try clear hm); (try clear hS); (try clear hE); (try clear hO); grind) (Or.inr hC') with ht | ⟨hB2, -⟩
      · exact is1 a hk h1 h2 h3 (by rw [em_1]; (try clear fin2); (try clear two); (try clear p1); (try clear p2); (try clear is1); (try clear back); (try clear on1); (try clear hnd); (try clear hin); (try clear hco); (try clear kl); (try clear hN); (try clear hm); (try clear hS); (try clear hE); (try clear hO); grind) (by rw [em_0]; (try clear fin2); (try clear two); (try clear p1); (try clear p2); (try clear is1); (try clear back); (try clear on1); (try clear hnd); (try clear hin); (try clear hco); (try clear kl); (try clear hN); (try clear hm); (try clear hS); (try clear hE); (try clear hO); grind)
      · exact absurd hB' hB2
    · rw [if_neg (fun q => hB ((el_0 hp hBe).mp q))]
      have hB' : em P B ≠ 0 := fun h => hB ((el_em0 hBe).mp h)
      have bC : bd (-C) 400 := Nat.le_trans (bd_neg (bd_el hp hCe)) (by omega)
      have b2 : bd (2 * B) 400 := Nat.le_trans (bd_mul (bd_lit 2) (bd_el hp hBe)) (by omega)
      have e2 : em P (2 * B) = 2 * em P B := by rw [em_mul]; rfl
      have p2 := fun cnt lo up f1 f2 f3 => e_put hp hN hS hE bC b2 cnt lo up f1 f2 f3
      rw [iI_neg, show (2 : Int32) = iI 2 from rfl, iI_mul]
      rw [show (0 : Int32) + 1 = 1 from rfl, p2]
      have n2 : ¬ (em P (-C) = 0 ∧ em P (2 * B) = 0) := by
        intro h
        have h2 := h.2
        rw [e2] at h2
        obtain ⟨u, hu⟩ := fin_inv hp 2 h20
        exact hB' (rg_1 hu h2)
      have o2 : onl P m l (kS P S E (-C) (2 * B)) := on1 n2 (by rw [hA', em_neg, e2]; (try clear fin2); (try clear two); (try clear p1); (try clear p2); (try clear is1); (try clear back); (try clear on1); (try clear hnd); (try clear hin); (try clear hco); (try clear kl); (try clear hN); (try clear hm); (try clear hS); (try clear hE); (try clear hO); grind)
      refine fin2 _ _ _ _ _ _ _ _ _ _ _ (kl _ _) (kl _ _) ?_ (fun k hk => ⟨fun ho => ?_, fun e => by rcases e with e | e <;> rw [e]; exact o1; exact o2⟩)
      · intro he
        obtain ⟨c, w, hc, q1, q2⟩ := kS_eq hp hO n1 n2 he
        rw [em_0, e2] at q2
        obtain ⟨u, hu⟩ := fin_inv hp 2 h20
        exact hB' (rg_2 hc hu q2)
      · obtain ⟨a, b, h0, h1, h2, h3, hq⟩ := back k hk ho
        rcases quad_0 hp (B := em P B) (C := em P C) (s := a) (t := b) (by rw [hA'] at hq; (try clear fin2); (try clear two); (try clear p1); (try clear p2); (try clear is1); (try clear back); (try clear on1); (try clear hnd); (try clear hin); (try clear hco); (try clear kl); (try clear hN); (try clear hm); (try clear hS); (try clear hE); (try clear hO); grind) (Or.inl hB') with ht | ⟨-, c, q1, q2⟩
        · exact Or.inl (is1 a hk h1 h2 h3 (by rw [em_1]; (try clear fin2); (try clear two); (try clear p1); (try clear p2); (try clear is1); (try clear back); (try clear on1); (try clear hnd); (try clear hin); (try clear hco); (try clear kl); (try clear hN); (try clear hm); (try clear hS); (try clear hE); (try clear hO); grind) (by rw [em_0]; (try clear fin2); (try clear two); (try clear p1); (try clear p2); (try clear is1); (try clear back); (try clear on1); (try clear hnd); (try clear hin); (try clear hco); (try clear kl); (try clear hN); (try clear hm); (try clear hS); (try clear hE); (try clear hO); grind))
        · exact Or.inr (is1 c hk h1 h2 h3 (by rw [em_neg]; exact q1) (by rw [e2]; exact q2))
  · have hA' : em P A ≠ 0 := fun h => hA ((el_em0 hAe).mp h)
    have bD : bd (B * B - A * C) (198 * 198 + 198 * 198) := bd_sub (bd_mul (bd_el hp hBe) (bd_el hp hBe)) (bd_mul (bd_el hp hAe) (bd_el hp hCe))
    have bD2 : (B * B - A * C).natAbs ≤ 198 * 198 + 198 * 198 := bD
    rw [if_neg (fun q => hA ((el_0 hp hAe).mp q)), iI_mul, iI_mul, iI_sub, e_root hp hN (by omega) (by omega), b1_s]
    obtain ⟨x, hx, ex⟩ := el_nat (el_mod hp (B * B - A * C))
    have eD : em P (x : Nat) = em P B * em P B - em P A * em P C := by rw [← ex, em_mod, em_sub, em_mul, em_mul]
    rw [ex, Int.toNat_natCast]
    by_cases hr : rt P x = -6
    · rw [hr, if_pos (show iI (-6) = -6 from rfl)]
      refine ⟨0, 0, 0, _, _, _, _, _, _, _, _, _, _, _, ⟨by omega, fun h => by omega, fun h => by omega, fun h => by omega, fun k hk => ⟨fun ho => ?_, fun h => by omega⟩⟩, fun h => by omega, rfl⟩
      obtain ⟨a, b, h0, h1, h2, h3, hq⟩ := back k hk ho
      obtain ⟨q, hqq, -⟩ := quad_1 hp hA' hq h0
      exact absurd (by rw [eD]; exact hqq) (rt_none hp hx hr q)
    · obtain ⟨r, hr1, hr2, hr3⟩ := rt_some hr
      rw [hr2, if_neg (by rw [show (-6 : Int32) = iI (-6) from rfl, iI_eq (by omega) (by omega) (by omega) (by omega)]; omega)]
      have br : bd ((r : Nat) : Int) 100 := by unfold bd; omega
      have bs : bd ((r : Int) - B) 400 := Nat.le_trans (bd_sub br (bd_el hp hBe)) (by omega)
      have bs2 : bd (-(r : Int) - B) 400 := Nat.le_trans (bd_sub (bd_neg br) (bd_el hp hBe)) (by omega)
      have bA : bd A 400 := Nat.le_trans (bd_el hp hAe) (by omega)
      have p1 := fun cnt lo up f1 f2 f3 => e_put hp hN hS hE bs bA cnt lo up f1 f2 f3
      have p2 := fun cnt lo up f1 f2 f3 => e_put hp hN hS hE bs2 bA cnt lo up f1 f2 f3
      have n1 : ¬ (em P ((r : Int) - B) = 0 ∧ em P A = 0) := fun h => hA' h.2
      have n2 : ¬ (em P (-(r : Int) - B) = 0 ∧ em P A = 0) := fun h => hA' h.2
      have hrr : em P (r : Nat) * em P (r : Nat) = em P B * em P B - em P A * em P C := by rw [hr3, eD]
      have o1 : onl P m l (kS P S E ((r : Int) - B) A) := on1 n1 (by rw [em_sub]; (try clear fin2); (try clear two); (try clear p1); (try clear p2); (try clear is1); (try clear back); (try clear on1); (try clear hnd); (try clear hin); (try clear hco); (try clear kl); (try clear hN); (try clear hm); (try clear hS); (try clear hE); (try clear hO); grind)
      have o2 : onl P m l (kS P S E (-(r : Int) - B) A) := on1 n2 (by rw [em_sub, em_neg]; (try clear fin2); (try clear two); (try clear p1); (try clear p2); (try clear is1); (try clear back); (try clear on1); (try clear hnd); (try clear hin); (try clear hco); (try clear kl); (try clear hN); (try clear hm); (try clear hS); (try clear hE); (try clear hO); grind)
      rw [iI_sub, p1, if_pos rfl, b6_s]
      have two : ∀ k, k ≤ P * P + P → onl P m l k → k = kS P S E ((r : Int) - B) A ∨ k = kS P S E (-(r : Int) - B) A := by
        intro k hk ho
        obtain ⟨a, b, h0, h1, h2, h3, hq⟩ := back k hk ho
        obtain ⟨q, hqq, c, c1, c2⟩ := quad_1 hp hA' hq h0
        have hfac : (q - em P (r : Nat)) * (q + em P (r : Nat)) = 0 := by (try clear fin2); (try clear two); (try clear p1); (try clear p2); (try clear is1); (try clear back); (try clear on1); (try clear hnd); (try clear hin); (try clear hco); (try clear kl); (try clear hN); (try clear hm); (try clear hS); (try clear hE); (try clear hO); grind
        by_cases hqr : q - em P (r : Nat) = 0
        · exact Or.inl (is1 c hk h1 h2 h3 (by rw [em_sub]; (try clear fin2); (try clear two); (try clear p1); (try clear p2); (try clear is1); (try clear back); (try clear on1); (try clear hnd); (try clear hin); (try clear hco); (try clear kl); (try clear hN); (try clear hm); (try clear hS); (try clear hE); (try clear hO); grind) c2)
        · obtain ⟨u, hu⟩ := fin_inv hp _ hqr
          have hq2 : q + em P (r : Nat) = 0 := by (try clear fin2); (try clear two); (try clear p1); (try clear p2); (try clear is1); (try clear back); (try clear on1); (try clear hnd); (try clear hin); (try clear hco); (try clear kl); (try clear hN); (try clear hm); (try clear hS); (try clear hE); (try clear hO); grind
          exact Or.inr (is1 c hk h1 h2 h3 (by rw [em_sub, em_neg]; (try clear fin2); (try clear two); (try clear p1); (try clear p2); (try clear is1); (try clear back); (try clear on1); (try clear hnd); (try clear hin); (try clear hco); (try clear kl); (try clear hN); (try clear hm); (try clear hS); (try clear hE); (try clear hO); grind) c2)
      by_cases h0 : r = 0
      · rw [if_pos (by rw [h0]; rfl)]
        refine ⟨1, kS P S E ((r : Int) - B) A, kS P S E ((r : Int) - B) A, _, _, _, _, _, _, _, _, _, _, _, met_1 (kl _ _) (fun k hk => ⟨fun ho => ?_, fun e => by rw [e]; exact o1⟩), fun _ => ⟨rfl, rfl⟩, rfl⟩
        rcases two k hk ho with e | e
        · exact e
        · rw [e, h0]; rfl
      · rw [if_neg (by rw [show (0 : Int32) = iI 0 from rfl, iI_eq (by omega) (by omega) (by omega) (by omega)]; omega), iI_neg, iI_sub, show (0 : Int32) + 1 = 1 from rfl, p2]
        refine fin2 _ _ _ _ _ _ _ _ _ _ _ (kl _ _) (kl _ _) ?_ (fun k hk => ⟨two k hk, fun e => by rcases e with e | e <;> rw [e]; exact o1; exact o2⟩)
        intro he
        obtain ⟨c, w, hc, q1, q2⟩ := kS_eq hp hO n1 n2 he
        obtain ⟨u, hu⟩ := fin_inv hp _ hA'
        have hc1 : c = 1 := by (try clear fin2); (try clear two); (try clear p1); (try clear p2); (try clear is1); (try clear back); (try clear on1); (try clear hnd); (try clear hin); (try clear hco); (try clear kl); (try clear hN); (try clear hm); (try clear hS); (try clear hE); (try clear hO); grind
        rw [hc1, em_sub, em_sub, em_neg] at q1
        obtain ⟨v, hv⟩ := fin_inv hp 2 h20
        have hr0 : em P (r : Nat) = 0 := rg_3 hv q1
        have := (el_em0 (el_of (show r < P by omega))).mp hr0
        omega
