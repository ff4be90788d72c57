/-! determinants of the reference -/
theorem e_pivot9 {P : Nat} (hp : z_pr P = true) {m k : Nat} (h15 : m ≤ 15) (hk : k < m) {w : Nat → Int32} {M : Nat → Nat → Int} (h : holdM w 15 m M) (hM : ∀ i j, el P (M i j)) (kk : Int32 → Option (Int32 × (Nat → Int32))) : gX9_determinantOf_103 (iI (m : Nat)) (iI (k : Nat)) w kk p_FU (iI (k : Nat)) = kk (match pvg M k (m - k) k with | none => iI (m : Nat) | some p => iI (p : Nat)) := by
  have key : ∀ n i fu, i + n = m → n < fu → gX9_determinantOf_103 (iI (m : Nat)) (iI (k : Nat)) w kk fu (iI (i : Nat)) = kk (match pvg M k n i with | none => iI (m : Nat) | some p => iI (p : Nat)) := by
    intro n
    induction n with
    | zero =>
      intro i fu hi hf
      obtain ⟨f, rfl⟩ : ∃ f, fu = f + 1 := ⟨fu - 1, by omega⟩
      show FgX9_determinantOf_103 (iI (m : Nat)) (iI (k : Nat)) w (gX9_determinantOf_103 (iI (m : Nat)) (iI (k : Nat)) w kk f) kk (iI (i : Nat)) = _
      unfold FgX9_determinantOf_103
      rw [if_pos (by rw [nle (by omega) (by omega)]; omega), show i = m by omega]; rfl
    | succ n ih =>
      intro i fu hi hf
      obtain ⟨f, rfl⟩ : ∃ f, fu = f + 1 := ⟨fu - 1, by omega⟩
      show FgX9_determinantOf_103 (iI (m : Nat)) (iI (k : Nat)) w (gX9_determinantOf_103 (iI (m : Nat)) (iI (k : Nat)) w kk f) kk (iI (i : Nat)) = _
      unfold FgX9_determinantOf_103 pvg
      rw [if_neg (by rw [nle (by omega) (by omega)]; omega), i15, hm_ld h h15 (Nat.le_refl _) (show i < m by omega) hk, b1_s]
      by_cases c : M i k = 0
      · rw [if_pos ((el_0 hp (hM i k)).mpr c), nm_s, n1, if_pos c]
        exact ih (i + 1) f (by omega) (by omega)
      · rw [if_neg (fun q => c ((el_0 hp (hM i k)).mp q)), if_neg c]
  exact key (m - k) k p_FU (by omega) (by have := FU_big; omega)
theorem e_swap9 {P m p k : Nat} (h15 : m ≤ 15) (hk : k < m) (hpm : p < m) (hpk : p ≠ k) {w : Nat → Int32} {M : Nat → Nat → Int} (h : holdM w 15 m M) (rc : Int32 → Int32 → (Nat → Int32) → Option (Int32 × (Nat → Int32))) (v : Int32) : ∃ w', holdM w' 15 m (swp M p k) ∧ gX9_determinantOf_158 (iI P) (iI (m : Nat)) (iI (k : Nat)) rc (iI (p : Nat)) v p_FU 0 w = jX9_determinantOf_226 (iI P) (iI (m : Nat)) (iI (k : Nat)) rc v w' := by
  refine fn (fun n x (b : (Nat → Int32)) => gX9_determinantOf_158 (iI P) (iI (m : Nat)) (iI (k : Nat)) rc (iI (p : Nat)) v n (iI (x : Nat)) b) m (fun x b => holdM b 15 m (sw1 M p k x)) (fun o => ∃ w', holdM w' 15 m (swp M p k) ∧ o = jX9_determinantOf_226 (iI P) (iI (m : Nat)) (iI (k : Nat)) rc v w') ?_ ?_ p_FU 0 w (by omega) (fun i j hi hj => by rw [h i j hi hj]; unfold sw1; rw [if_neg (by omega)]) (by have := FU_big; omega)
  · intro n b hb
    refine ⟨b, fun i j hi hj => by rw [hb i j hi hj]; unfold sw1; rw [if_pos hj], ?_⟩
    show FgX9_determinantOf_158 (iI P) (iI (m : Nat)) (iI (k : Nat)) rc (iI (p : Nat)) v (gX9_determinantOf_158 (iI P) (iI (m : Nat)) (iI (k : Nat)) rc (iI (p : Nat)) v n) (iI (m : Nat)) b = _
    unfold FgX9_determinantOf_158
    rw [if_pos (Int32.le_refl _)]
  · intro n x b hx hb
    refine ⟨upd (upd b (p * 15 + x) (iI (M k x))) (k * 15 + x) (iI (M p x)), ?_, ?_⟩
    · refine hm_upd (M := sw2 M p k x) (hm_upd hb h15 hx ?_ ?_) h15 hx ?_ ?_
      · unfold sw2; rw [if_pos ⟨rfl, rfl⟩]
      · intro a b' _ _ c
        unfold sw2; rw [if_neg c]
      · unfold sw1 swp
        rw [if_pos (by omega), if_neg (fun e => hpk e.symm), if_pos rfl]
      · intro a b' _ _ c
        unfold sw2 sw1
        by_cases e : b' = x
        · subst e
          rw [if_pos (show b' < b' + 1 by omega)]
          by_cases e2 : a = p
          · rw [if_pos ⟨e2, rfl⟩, e2]; unfold swp; rw [if_pos rfl]
          · rw [if_neg (fun q => e2 q.1), if_neg (show ¬ b' < b' by omega)]
            unfold swp
            rw [if_neg e2, if_neg (fun q => c ⟨q, rfl⟩)]
        · rw [if_neg (show ¬ (a = p ∧ b' = x) from fun q => e q.2)]
          by_cases e3 : b' < x
          · rw [if_pos (show b' < x + 1 by omega), if_pos e3]
          · rw [if_neg (show ¬ b' < x + 1 by omega), if_neg e3]
    · show FgX9_determinantOf_158 (iI P) (iI (m : Nat)) (iI (k : Nat)) rc (iI (p : Nat)) v (gX9_determinantOf_158 (iI P) (iI (m : Nat)) (iI (k : Nat)) rc (iI (p : Nat)) v n) (iI (x : Nat)) b = _
      unfold FgX9_determinantOf_158
      rw [if_neg (by rw [nle (by omega) (by omega)]; omega), i15, i15, hm_ld hb h15 (Nat.le_refl _) hpm hx, b1_s, hm_ld hb h15 (Nat.le_refl _) hk hx, b1_s, hm_st h15 (Nat.le_refl _) hpm hx, b1_s, hm_st h15 (Nat.le_refl _) hk hx, b1_s, nm_s, n1, show sw1 M p k x k x = M k x by unfold sw1; rw [if_neg (by omega)], show sw1 M p k x p x = M p x by unfold sw1; rw [if_neg (by omega)]]
theorem e_away9 {P : Nat} (hp : z_pr P = true) {m i k : Nat} (h15 : m ≤ 15) (hk : k < m) (hi : i < m) (hik : i ≠ k) {w : Nat → Int32} {M : Nat → Nat → Int} (h : holdM w 15 m M) (hM : ∀ i j, el P (M i j)) {q : Int} (hq : el P q) (kk : (Nat → Int32) → Option (Int32 × (Nat → Int32))) : ∃ w', holdM w' 15 m (awa P M i q k) ∧ gX9_determinantOf_297 (iI P) (iI (m : Nat)) (iI (k : Nat)) (iI (i : Nat)) (iI q) kk p_FU (iI (k : Nat)) w = kk w' := by
  refine fn (fun n x (b : (Nat → Int32)) => gX9_determinantOf_297 (iI P) (iI (m : Nat)) (iI (k : Nat)) (iI (i : Nat)) (iI q) kk n (iI (x : Nat)) b) m (fun x b => k ≤ x ∧ holdM b 15 m (aw1 P M i q k x)) (fun o => ∃ w', holdM w' 15 m (awa P M i q k) ∧ o = kk w') ?_ ?_ p_FU k w (by omega) ⟨Nat.le_refl _, fun a b ha hb => by rw [h a b ha hb]; unfold aw1; rw [if_neg (by omega)]⟩ (by have := FU_big; omega)
  · intro n b ⟨_, hb⟩
    refine ⟨b, fun a j ha hj => ?_, ?_⟩
    · rw [hb a j ha hj]
      unfold aw1 awa
      by_cases c : a = i ∧ k ≤ j
      · rw [if_pos c, if_pos ⟨c.1, c.2, hj⟩]
      · rw [if_neg c, if_neg (fun q => c ⟨q.1, q.2.1⟩)]
    · show FgX9_determinantOf_297 (iI P) (iI (m : Nat)) (iI (k : Nat)) (iI (i : Nat)) (iI q) (gX9_determinantOf_297 (iI P) (iI (m : Nat)) (iI (k : Nat)) (iI (i : Nat)) (iI q) kk n) kk (iI (m : Nat)) b = _
      unfold FgX9_determinantOf_297
      rw [if_pos (Int32.le_refl _)]
  · intro n x b hx ⟨hkx, hb⟩
    refine ⟨upd b (i * 15 + x) (iI ((M i x - q * M k x) % P)), ⟨by omega, ?_⟩, ?_⟩
    · refine hm_upd hb h15 hx ?_ ?_
      · unfold aw1; rw [if_pos ⟨rfl, hkx, by omega⟩]
      · intro a b' _ _ c
        unfold aw1
        by_cases e : a = i ∧ k ≤ b' ∧ b' < x
        · rw [if_pos e, if_pos ⟨e.1, e.2.1, by omega⟩]
        · rw [if_neg e, if_neg (fun q => e ⟨q.1, q.2.1, by have h1 := q.2.2; have h2 : b' ≠ x := fun z => c ⟨q.1, z⟩; omega⟩)]
    · show FgX9_determinantOf_297 (iI P) (iI (m : Nat)) (iI (k : Nat)) (iI (i : Nat)) (iI q) (gX9_determinantOf_297 (iI P) (iI (m : Nat)) (iI (k : Nat)) (iI (i : Nat)) (iI q) kk n) kk (iI (x : Nat)) b = _
      unfold FgX9_determinantOf_297
      rw [if_neg (by rw [nle (by omega) (by omega)]; omega), i15, i15, hm_ld hb h15 (Nat.le_refl _) hi hx, b1_s, hm_ld hb h15 (Nat.le_refl _) hk hx, b1_s, show aw1 P M i q k x i x = M i x by unfold aw1; rw [if_neg (by omega)], show aw1 P M i q k x k x = M k x by unfold aw1; rw [if_neg (by omega)], iI_mul, iI_sub, e_ob hp (bd_sub (bd_el hp (hM i x)) (bd_mul (bd_el hp hq) (bd_el hp (hM k x)))) (by decide), b1_s, hm_st h15 (Nat.le_refl _) hi hx, b1_s, nm_s, n1]
theorem e_rows9 {P : Nat} (hp : z_pr P = true) {m k : Nat} (h15 : m ≤ 15) (hk : k < m) {w : Nat → Int32} {M : Nat → Nat → Int} (h : holdM w 15 m M) (hM : ∀ i j, el P (M i j)) (kk : (Nat → Int32) → Option (Int32 × (Nat → Int32))) : ∃ w', holdM w' 15 m (clr P k M) ∧ gX9_determinantOf_255 (iI P) (iI (m : Nat)) (iI (k : Nat)) kk p_FU (iI ((k + 1 : Nat) : Int)) w = kk w' := by
  refine fn (fun n x (b : (Nat → Int32)) => gX9_determinantOf_255 (iI P) (iI (m : Nat)) (iI (k : Nat)) kk n (iI (x : Nat)) b) m (fun x b => k < x ∧ holdM b 15 m (rw1 P k M x)) (fun o => ∃ w', holdM w' 15 m (clr P k M) ∧ o = kk w') ?_ ?_ p_FU (k + 1) w (by omega) ⟨by omega, fun a b ha hb => by rw [h a b ha hb]; unfold rw1; rw [if_neg (by omega)]⟩ (by have := FU_big; omega)
  · intro n b ⟨_, hb⟩
    refine ⟨b, fun a j ha hj => ?_, ?_⟩
    · rw [hb a j ha hj]
      unfold clr rw1
      by_cases c : k < a ∧ k ≤ j
      · rw [if_pos c, if_pos ⟨c.1, ha, c.2⟩]
      · rw [if_neg c, if_neg (fun q => c ⟨q.1, q.2.2⟩)]
    · show FgX9_determinantOf_255 (iI P) (iI (m : Nat)) (iI (k : Nat)) (gX9_determinantOf_255 (iI P) (iI (m : Nat)) (iI (k : Nat)) kk n) kk (iI (m : Nat)) b = _
      unfold FgX9_determinantOf_255
      rw [if_pos (Int32.le_refl _)]
  · intro n x b hx ⟨hkx, hb⟩
    have hM2 : ∀ a b, el P (rw1 P k M x a b) := by
      intro a b
      unfold rw1
      split
      · exact el_mod hp _
      · exact hM _ _
    obtain ⟨w', h1, h2⟩ := e_away9 hp h15 hk hx (show x ≠ k by omega) hb hM2 (show el P (tms P k M x) from el_mod hp _) (kX9_determinantOf_356 (iI (x : Nat)) (gX9_determinantOf_255 (iI P) (iI (m : Nat)) (iI (k : Nat)) kk n))
    refine ⟨w', ⟨by omega, fun a b' ha hb' => ?_⟩, ?_⟩
    · rw [h1 a b' ha hb']
      congr 1
      unfold awa rw1
      by_cases c : a = x ∧ k ≤ b'
      · rw [if_pos c, if_neg (by omega), if_neg (by omega), if_pos (by omega), c.1]
      · rw [if_neg c]
        by_cases c2 : k < a ∧ a < x ∧ k ≤ b'
        · rw [if_pos c2, if_pos (by omega)]
        · rw [if_neg c2, if_neg (by omega)]
    · show FgX9_determinantOf_255 (iI P) (iI (m : Nat)) (iI (k : Nat)) (gX9_determinantOf_255 (iI P) (iI (m : Nat)) (iI (k : Nat)) kk n) kk (iI (x : Nat)) b = _
      unfold FgX9_determinantOf_255
      rw [if_neg (by rw [nle (by omega) (by omega)]; omega), i15, i15, hm_ld hb h15 (Nat.le_refl _) hx hk, b1_s, hm_ld hb h15 (Nat.le_refl _) hk hk, b1_s, show rw1 P k M x x k = M x k by unfold rw1; rw [if_neg (by omega)], show rw1 P k M x k k = M k k by unfold rw1; rw [if_neg (by omega)], e_bz hp (hM x k) (hM k k), b1_s]
      have h2 : gX9_determinantOf_297 (iI P) (iI (m : Nat)) (iI (k : Nat)) (iI (x : Nat)) (iI (M x k * (iv P (M k k).toNat : Nat) % P)) (kX9_determinantOf_356 (iI (x : Nat)) (gX9_determinantOf_255 (iI P) (iI (m : Nat)) (iI (k : Nat)) kk n)) p_FU (iI (k : Nat)) b = _ := h2
      rw [h2]
      unfold kX9_determinantOf_356
      rw [nm_s, n1]
theorem e_col9 {P : Nat} (hp : z_pr P = true) {m k : Nat} (h15 : m ≤ 15) (hk : k < m) {w : Nat → Int32} {M : Nat → Nat → Int} (h : holdM w 15 m M) (hM : ∀ i j, el P (M i j)) {d : Int} (hd : el P d) (rc : Int32 → Int32 → (Nat → Int32) → Option (Int32 × (Nat → Int32))) :
    ∃ w', holdM w' 15 m (clr P k M) ∧ jX9_determinantOf_226 (iI P) (iI (m : Nat)) (iI (k : Nat)) rc (iI d) w = rc (iI (d * M k k % P)) (iI ((k + 1 : Nat) : Int)) w' := by
  obtain ⟨w', h1, h2⟩ := e_rows9 hp h15 hk h hM (kX9_determinantOf_362 (iI (k : Nat)) rc (iI (d * M k k % P)))
  refine ⟨w', h1, ?_⟩
  unfold jX9_determinantOf_226
  rw [i15, hm_ld h h15 (Nat.le_refl _) hk hk, b1_s, iI_mul, e_mb hp (Int.mul_nonneg hd.1 (hM k k).1) (bd_mul (bd_el hp hd) (bd_el hp (hM k k))) (by decide), b1_s, nm_s, n1, h2]
  unfold kX9_determinantOf_362
  rw [nm_s, n1]
theorem e_clear9 {P : Nat} (hp : z_pr P = true) {m : Nat} (h15 : m ≤ 15) : ∀ (r : Nat) (fu : Nat) (M : Nat → Nat → Int) (d : Int) (w : Nat → Int32), r ≤ m → r < fu → holdM w 15 m M → (∀ i j, el P (M i j)) → el P d →
    ∃ w', gX9_determinantOf_93 (iI P) (iI (m : Nat)) kX9_determinantOf_368 fu (iI d) (iI ((m - r : Nat) : Int)) w = some (iI (dtm P m r M d), w') := by
  have := nz_of hp
  intro r
  induction r with
  | zero =>
    intro fu M d w hr hf h hM hd
    obtain ⟨f, rfl⟩ : ∃ f, fu = f + 1 := ⟨fu - 1, by omega⟩
    refine ⟨w, ?_⟩
    show FgX9_determinantOf_93 (iI P) (iI (m : Nat)) (gX9_determinantOf_93 (iI P) (iI (m : Nat)) kX9_determinantOf_368 f) kX9_determinantOf_368 (iI d) (iI ((m - 0 : Nat) : Int)) w = _
    unfold FgX9_determinantOf_93
    rw [Nat.sub_zero, if_pos (Int32.le_refl _)]; rfl
  | succ r ih =>
    intro fu M d w hr hf h hM hd
    obtain ⟨f, rfl⟩ : ∃ f, fu = f + 1 := ⟨fu - 1, by omega⟩
    show ∃ w', FgX9_determinantOf_93 (iI P) (iI (m : Nat)) (gX9_determinantOf_93 (iI P) (iI (m : Nat)) kX9_determinantOf_368 f) kX9_determinantOf_368 (iI d) (iI ((m - (r + 1) : Nat) : Int)) w = _
    have hk : m - (r + 1) < m := by omega
    have hmk : m - (m - (r + 1)) = r + 1 := by omega
    have hk1 : m - (r + 1) + 1 = m - r := by omega
    unfold FgX9_determinantOf_93 dtm
    generalize hkk : m - (r + 1) = k at *
    rw [if_neg (by rw [nle (by omega) (by omega)]; omega), e_pivot9 hp h15 hk h hM, hmk]
    cases hpv : pvg M k (r + 1) k with
    | none =>
      refine ⟨w, ?_⟩
      show kX9_determinantOf_131 _ _ _ _ _ _ (iI (m : Nat)) = some (iI 0, w)
      unfold kX9_determinantOf_131
      rw [if_pos rfl]; rfl
    | some p =>
      have hpb := pvg_b _ _ _ hpv
      show ∃ w', kX9_determinantOf_131 (iI P) (iI (m : Nat)) (iI d) (iI (k : Nat)) w (gX9_determinantOf_93 (iI P) (iI (m : Nat)) kX9_determinantOf_368 f) (iI (p : Nat)) = some (iI (dtm P m r (clr P k (swp M p k)) ((if p = k then d else -d) * swp M p k k k % P)), w')
      unfold kX9_determinantOf_131
      rw [if_neg (by rw [neq (by omega) (by omega)]; omega)]
      by_cases c : p = k
      · subst c
        obtain ⟨w', h1, h2⟩ := e_col9 hp h15 hk h hM hd (gX9_determinantOf_93 (iI P) (iI (m : Nat)) kX9_determinantOf_368 f)
        rw [if_pos rfl, h2, hk1, swp_k, if_pos rfl]
        exact ih f _ _ w' (by omega) (by omega) h1 (clr_el hp hM p) (el_mod hp _)
      · obtain ⟨w1, h1, h2⟩ := e_swap9 (P := P) h15 hk (show p < m by omega) c h (gX9_determinantOf_93 (iI P) (iI (m : Nat)) kX9_determinantOf_368 f) (iI ((-d) % P))
        obtain ⟨w', h3, h4⟩ := e_col9 hp h15 hk h1 (swp_el hM p k) (el_mod hp (-d)) (gX9_determinantOf_93 (iI P) (iI (m : Nat)) kX9_determinantOf_368 f)
        rw [if_neg (by rw [neq (by omega) (by omega)]; exact c), iI_neg, e_ob hp (bd_neg (bd_el hp hd)) (by decide), b1_s, h2, h4, hk1, if_neg c]
        have e : (-d) % P * swp M p k k k % P = -d * swp M p k k k % P := by
          refine el_inj (el_mod hp _) (el_mod hp _) ?_
          rw [em_mod, em_mod, em_mul, em_mod, em_mul]
        rw [e]
        exact ih f _ _ w' (by omega) (by omega) h3 (clr_el hp (swp_el hM p k) k) (el_mod hp _)
theorem e_fill_in9 {P : Nat} {c : Nat → Int} {parts : Nat → Int32} (hs : ∀ i, i < 32 → parts i = iI (ser P c i)) {m fr i : Nat} (h15 : m ≤ 15) (hfr : fr + 2 * m ≤ 33) (hi : i < m) {w : Nat → Int32} (h : holdQ w 15 m i 0 (fun i j => ser P c (fr + i + j))) (kk : (Nat → Int32) → Option (Int32 × (Nat → Int32))) : ∃ w', holdQ w' 15 m (i + 1) 0 (fun i j => ser P c (fr + i + j)) ∧ gX9_determinantOf_44 parts (iI (m : Nat)) (iI (fr : Nat)) (iI (i : Nat)) kk p_FU 0 w = kk w' := by
  refine fn (fun n x (b : (Nat → Int32)) => gX9_determinantOf_44 parts (iI (m : Nat)) (iI (fr : Nat)) (iI (i : Nat)) kk n (iI (x : Nat)) b) m (fun x b => holdQ b 15 m i x (fun i j => ser P c (fr + i + j))) (fun o => ∃ w', holdQ w' 15 m (i + 1) 0 (fun i j => ser P c (fr + i + j)) ∧ o = kk w') ?_ ?_ p_FU 0 w (by omega) h (by have := FU_big; omega)
  · intro n b hb
    refine ⟨b, fun a j hj hc => hb a j hj (by omega), ?_⟩
    show FgX9_determinantOf_44 parts (iI (m : Nat)) (iI (fr : Nat)) (iI (i : Nat)) (gX9_determinantOf_44 parts (iI (m : Nat)) (iI (fr : Nat)) (iI (i : Nat)) kk n) kk (iI (m : Nat)) b = _
    unfold FgX9_determinantOf_44
    rw [if_pos (Int32.le_refl _)]
  · intro n x b hx hb
    refine ⟨upd b (i * 15 + x) (iI (ser P c (fr + i + x))), hq_upd hb h15 hx, ?_⟩
    show FgX9_determinantOf_44 parts (iI (m : Nat)) (iI (fr : Nat)) (iI (i : Nat)) (gX9_determinantOf_44 parts (iI (m : Nat)) (iI (fr : Nat)) (iI (i : Nat)) kk n) kk (iI (x : Nat)) b = _
    unfold FgX9_determinantOf_44
    rw [if_neg (by rw [nle (by omega) (by omega)]; omega), nadd fr i, nadd (fr + i) x, nld (by omega) (by omega), b1_s, hs _ (by omega), i15, hm_st h15 (Nat.le_refl _) hi hx, b1_s, nm_s, n1]
theorem e_fill9 {P : Nat} {c : Nat → Int} {parts : Nat → Int32} (hs : ∀ i, i < 32 → parts i = iI (ser P c i)) {m fr : Nat} (h15 : m ≤ 15) (hfr : fr + 2 * m ≤ 33) (w : Nat → Int32) (kk : (Nat → Int32) → Option (Int32 × (Nat → Int32))) : ∃ w', holdM w' 15 m (fun i j => ser P c (fr + i + j)) ∧ gX9_determinantOf_35 parts (iI (m : Nat)) (iI (fr : Nat)) kk p_FU 0 w = kk w' := by
  refine fn (fun n x (b : (Nat → Int32)) => gX9_determinantOf_35 parts (iI (m : Nat)) (iI (fr : Nat)) kk n (iI (x : Nat)) b) m (fun x b => holdQ b 15 m x 0 (fun i j => ser P c (fr + i + j))) (fun o => ∃ w', holdM w' 15 m (fun i j => ser P c (fr + i + j)) ∧ o = kk w') ?_ ?_ p_FU 0 w (by omega) (fun i j _ hc => by omega) (by have := FU_big; omega)
  · intro n b hb
    refine ⟨b, fun i j hi hj => hb i j hj (Or.inl hi), ?_⟩
    show FgX9_determinantOf_35 parts (iI (m : Nat)) (iI (fr : Nat)) (gX9_determinantOf_35 parts (iI (m : Nat)) (iI (fr : Nat)) kk n) kk (iI (m : Nat)) b = _
    unfold FgX9_determinantOf_35
    rw [if_pos (Int32.le_refl _)]
  · intro n x b hx hb
    obtain ⟨w', h1, h2⟩ := e_fill_in9 hs h15 hfr hx hb (kX9_determinantOf_81 (iI (x : Nat)) (gX9_determinantOf_35 parts (iI (m : Nat)) (iI (fr : Nat)) kk n))
    refine ⟨w', h1, ?_⟩
    show FgX9_determinantOf_35 parts (iI (m : Nat)) (iI (fr : Nat)) (gX9_determinantOf_35 parts (iI (m : Nat)) (iI (fr : Nat)) kk n) kk (iI (x : Nat)) b = _
    unfold FgX9_determinantOf_35
    rw [if_neg (by rw [nle (by omega) (by omega)]; omega), h2]
    unfold kX9_determinantOf_81
    rw [nm_s, n1]
theorem e_det9 {P : Nat} (hp : z_pr P = true) {c : Nat → Int} {parts : Nat → Int32} (hs : ∀ i, i < 32 → parts i = iI (ser P c i)) {n : Nat} (h3 : 3 ≤ n) (h31 : n ≤ 31) (sq : Nat → Int32) : ∃ sq', fX9_determinantOf (iI P) parts sq (iI (n : Nat)) = some (iI (cls P c n), sq') := by
  have hb := pr_rng hp
  have key : ∀ fr : Nat, fr + 2 * ((n - 1) / 2) ≤ 33 → ∃ sq', jX9_determinantOf_31 (iI P) parts sq (iI (((n - 1) / 2 : Nat) : Int)) (iI (fr : Nat)) = some (iI (dtm P ((n - 1) / 2) ((n - 1) / 2) (fun i j => ser P c (fr + i + j)) 1), sq') := by
    intro fr hfr
    have h15 : (n - 1) / 2 ≤ 15 := by omega
    have h1 : 1 ≤ (n - 1) / 2 := by omega
    generalize (n - 1) / 2 = m at *
    obtain ⟨w', g1, g2⟩ := e_fill9 hs h15 hfr sq (kX9_determinantOf_87 (iI P) (iI (m : Nat)))
    obtain ⟨w2, g3⟩ := e_clear9 hp h15 m p_FU (fun i j => ser P c (fr + i + j)) 1 w' (Nat.le_refl _) (by have := FU_big; omega) g1 (fun i j => ser_el hp c _) ⟨by omega, by omega⟩
    refine ⟨w2, ?_⟩
    unfold jX9_determinantOf_31
    rw [g2]
    unfold kX9_determinantOf_87
    rw [Nat.sub_self] at g3
    exact g3
  unfold fX9_determinantOf jX9_determinantOf_18 cls
  rw [show (2 : Int32) = iI ((2 : Nat) : Int) from rfl, nrm (by omega) (by omega) (by omega), b1_s, ndv (by omega) (by omega) (by omega), b1_s, b1_s, b1_s, show (1 : Int32) = iI ((1 : Nat) : Int) from rfl]
  by_cases h : n % 2 = 0
  · have n1 : ¬ iI ((n % 2 : Nat) : Int) = iI ((1 : Nat) : Int) := by rw [neq (by omega) (by omega)]; omega
    rw [if_neg n1, b1_s, if_neg n1, nsub (by omega), show n / 2 - 1 = (n - 1) / 2 by omega]
    obtain ⟨sq', e⟩ := key 3 (by omega)
    refine ⟨sq', ?_⟩
    simp only [if_pos h]
    exact e
  · have n1 : iI ((n % 2 : Nat) : Int) = iI ((1 : Nat) : Int) := by rw [neq (by omega) (by omega)]; omega
    rw [if_pos n1, if_pos n1, show n / 2 = (n - 1) / 2 by omega]
    obtain ⟨sq', e⟩ := key 2 (by omega)
    refine ⟨sq', ?_⟩
    simp only [if_neg h]
    exact e
