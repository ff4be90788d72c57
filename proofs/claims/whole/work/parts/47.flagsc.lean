/-! flags of the class, the loops -/
theorem ff_end (i : Nat) {cnt : Nat} (lo' up' : Int32) (kk : Int32 → (Nat → Int32) → (Nat → Int32) → Option (Int32 × (Nat → Int32) × (Nat → Int32) × (Nat → Int32) × Int32 × Int32 × Int32 × Int32 × Int32 × Int32 × Int32 × Int32 × Int32 × Int32 × Int32 × Int32)) (n : Nat) (c : Int32) (lines points : Nat → Int32) : gX5_findFlags_41 (iI (i : Nat)) (iI (cnt : Nat)) lo' up' kk (n + 1) (iI (cnt : Nat)) c lines points = kk c lines points := by
  show FgX5_findFlags_41 (iI (i : Nat)) (iI (cnt : Nat)) lo' up' (gX5_findFlags_41 (iI (i : Nat)) (iI (cnt : Nat)) lo' up' kk n) kk (iI (cnt : Nat)) c lines points = _
  unfold FgX5_findFlags_41 fX3_size
  rw [b1_s, if_pos (Int32.le_refl _)]
theorem ff_step (i : Nat) {cnt x k : Nat} (hx : x < cnt) (hc : cnt ≤ 2) {lo' up' : Int32} (hk : fX3_keyAt lo' up' (iI (x : Nat)) = some (iI (k : Nat))) (kk : Int32 → (Nat → Int32) → (Nat → Int32) → Option (Int32 × (Nat → Int32) × (Nat → Int32) × (Nat → Int32) × Int32 × Int32 × Int32 × Int32 × Int32 × Int32 × Int32 × Int32 × Int32 × Int32 × Int32 × Int32)) (n : Nat) {F : List (Nat × Nat)} (hF : F.length < 400) (lines points : Nat → Int32) :
    gX5_findFlags_41 (iI (i : Nat)) (iI (cnt : Nat)) lo' up' kk (n + 1) (iI (x : Nat)) (iI (F.length : Nat)) lines points = gX5_findFlags_41 (iI (i : Nat)) (iI (cnt : Nat)) lo' up' kk n (iI ((x + 1 : Nat) : Int)) (iI ((F ++ [(i, k)]).length : Nat)) (upd lines F.length (iI (k : Nat))) (upd points F.length (iI (i : Nat))) := by
  show FgX5_findFlags_41 (iI (i : Nat)) (iI (cnt : Nat)) lo' up' (gX5_findFlags_41 (iI (i : Nat)) (iI (cnt : Nat)) lo' up' kk n) kk (iI (x : Nat)) (iI (F.length : Nat)) lines points = _
  unfold FgX5_findFlags_41 fX3_size
  rw [b1_s, if_neg (by rw [nle (by omega) (by omega)]; omega), if_neg (by rw [show (400 : Int32) = iI ((400 : Nat) : Int) from rfl, nle (by omega) (by omega)]; omega), nst hF (by omega), b1_s, hk, b1_s, nst hF (by omega), b1_s, nm_s, nm_s, n1, n1, List.length_append, List.length_singleton]
theorem ff_in (i : Nat) {cnt lo up : Nat} (hc : cnt ≤ 2) {lo' up' : Int32} (hlu : 1 ≤ cnt → lo' = iI (lo : Nat) ∧ up' = iI (up : Nat)) (kk : Int32 → (Nat → Int32) → (Nat → Int32) → Option (Int32 × (Nat → Int32) × (Nat → Int32) × (Nat → Int32) × Int32 × Int32 × Int32 × Int32 × Int32 × Int32 × Int32 × Int32 × Int32 × Int32 × Int32 × Int32)) {F : List (Nat × Nat)} {lines points : Nat → Int32} (h : holdF lines points F) (hlen : F.length + cnt ≤ 400) :
    ∃ lines' points', holdF lines' points' (F ++ (mets cnt lo up).map (fun l => (i, l))) ∧ gX5_findFlags_41 (iI (i : Nat)) (iI (cnt : Nat)) lo' up' kk p_FU 0 (iI (F.length : Nat)) lines points = kk (iI ((F ++ (mets cnt lo up).map (fun l => (i, l))).length : Nat)) lines' points' := by
  rw [show p_FU = 99997 + 1 + 1 + 1 from rfl]
  rcases (show cnt = 0 ∨ cnt = 1 ∨ cnt = 2 by omega) with rfl | rfl | rfl
  · have e : (mets 0 lo up).map (fun l => (i, l)) = [] := rfl
    rw [e, List.append_nil]
    exact ⟨lines, points, h, ff_end i (cnt := 0) _ _ kk (99997 + 1 + 1) _ _ _⟩
  · obtain ⟨rfl, rfl⟩ := hlu (by omega)
    have k0 : fX3_keyAt (iI (lo : Nat)) (iI (up : Nat)) (iI ((0 : Nat) : Int)) = some (iI (lo : Nat)) := by unfold fX3_keyAt; rw [if_pos (show iI ((0 : Nat) : Int) = 0 from rfl)]
    have e : (mets 1 lo up).map (fun l => (i, l)) = [(i, lo)] := rfl
    rw [e]
    exact ⟨_, _, holdF_add h i lo, (ff_step i (cnt := 1) (x := 0) (by omega) hc k0 kk (99997 + 1 + 1) (F := F) (by omega) lines points).trans (ff_end i (cnt := 1) _ _ kk (99997 + 1) _ _ _)⟩
  · obtain ⟨rfl, rfl⟩ := hlu (by omega)
    have k0 : fX3_keyAt (iI (lo : Nat)) (iI (up : Nat)) (iI ((0 : Nat) : Int)) = some (iI (lo : Nat)) := by unfold fX3_keyAt; rw [if_pos (show iI ((0 : Nat) : Int) = 0 from rfl)]
    have k1 : fX3_keyAt (iI (lo : Nat)) (iI (up : Nat)) (iI ((1 : Nat) : Int)) = some (iI (up : Nat)) := by unfold fX3_keyAt; rw [if_neg (by decide)]
    have e : (mets 2 lo up).map (fun l => (i, l)) = [(i, lo)] ++ [(i, up)] := rfl
    rw [e, ← List.append_assoc]
    exact ⟨_, _, holdF_add (holdF_add h i lo) i up, (ff_step i (cnt := 2) (x := 0) (by omega) hc k0 kk (99997 + 1 + 1) (F := F) (by omega) lines points).trans ((ff_step i (cnt := 2) (x := 1) (by omega) hc k1 kk (99997 + 1) (F := F ++ [(i, lo)]) (by rw [List.length_append, List.length_singleton]; omega) _ _).trans (ff_end i (cnt := 2) _ _ kk 99997 _ _ _))⟩
set_option maxHeartbeats 400000 in
theorem e_flags {P : Nat} (hp : z_pr P = true) [NeZero P] {inv roots : Nat → Int32} (hN : NumOK P inv roots) {m : Nat → Int} (hm : elF P m) (hd : dt P m ≠ 0) {pts : List Nat} (hpt : ∀ k, k ∈ pts → k ≤ P * P + P) (hlen : pts.length ≤ 200) {keys : Nat → Int32} (hk : hold keys (cz pts)) (fc : Int32) (s0 first lines points : Nat → Int32) :
    ∃ (s : Nat → Int32) (first' lines' points' : Nat → Int32), (∀ j, j ≤ pts.length → first' j = iI ((flg P m pts j).length : Nat)) ∧ holdF lines' points' (flg P m pts pts.length) ∧ fX5_findFlags fc (iI (pts.length : Nat)) (iI (m 0)) (iI (m 1)) (iI (m 2)) (iI (m 3)) (iI (m 4)) (iI (m 5)) (iI P) inv roots first lines points (s0 0) (s0 1) (s0 2) (s0 3) (s0 4) (s0 5) (s0 6) (s0 7) (s0 8) (s0 9) (s0 10) (s0 11) keys = some (iI ((flg P m pts pts.length).length : Nat), first', lines', points', s 0, s 1, s 2, s 3, s 4, s 5, s 6, s 7, s 8, s 9, s 10, s 11) := by
  unfold fX5_findFlags
  generalize hK : kX5_findFlags_111 (iI (pts.length : Nat)) = K
  have key : ∃ (s : Nat → Int32) (first' lines' points' : Nat → Int32), (∀ j, j ≤ pts.length → first' j = iI ((flg P m pts j).length : Nat)) ∧ holdF lines' points' (flg P m pts pts.length) ∧ gX5_findFlags_7 (iI (pts.length : Nat)) (iI (m 0)) (iI (m 1)) (iI (m 2)) (iI (m 3)) (iI (m 4)) (iI (m 5)) (iI P) inv roots keys K p_FU (iI ((0 : Nat) : Int)) (iI ((flg P m pts 0).length : Nat)) first lines points (s0 0) (s0 1) (s0 2) (s0 3) (s0 4) (s0 5) (s0 6) (s0 7) (s0 8) (s0 9) (s0 10) (s0 11) = some (iI ((flg P m pts pts.length).length : Nat), first', lines', points', s 0, s 1, s 2, s 3, s 4, s 5, s 6, s 7, s 8, s 9, s 10, s 11) := by
   refine fn (fun n x (b : (Nat → Int32) × (Nat → Int32) × (Nat → Int32) × (Nat → Int32)) => gX5_findFlags_7 (iI (pts.length : Nat)) (iI (m 0)) (iI (m 1)) (iI (m 2)) (iI (m 3)) (iI (m 4)) (iI (m 5)) (iI P) inv roots keys K n (iI (x : Nat)) (iI ((flg P m pts x).length : Nat)) b.2.1 b.2.2.1 b.2.2.2 (b.1 0) (b.1 1) (b.1 2) (b.1 3) (b.1 4) (b.1 5) (b.1 6) (b.1 7) (b.1 8) (b.1 9) (b.1 10) (b.1 11)) pts.length (fun x b => (∀ j, j < x → b.2.1 j = iI ((flg P m pts j).length : Nat)) ∧ holdF b.2.2.1 b.2.2.2 (flg P m pts x)) (fun o => ∃ (s : Nat → Int32) (first' lines' points' : Nat → Int32), (∀ j, j ≤ pts.length → first' j = iI ((flg P m pts j).length : Nat)) ∧ holdF lines' points' (flg P m pts pts.length) ∧ o = some (iI ((flg P m pts pts.length).length : Nat), first', lines', points', s 0, s 1, s 2, s 3, s 4, s 5, s 6, s 7, s 8, s 9, s 10, s 11)) ?_ ?_ p_FU 0 (s0, first, lines, points) (by omega) ⟨fun j hj => by omega, ⟨hold_0 _, hold_0 _⟩⟩ (by have := FU_big; omega)
   · intro n b ⟨h1, h2⟩
     have hl := flg_len hp hm hd hpt pts.length (Nat.le_refl _)
     refine ⟨b.1, upd b.2.1 pts.length (iI ((flg P m pts pts.length).length : Nat)), b.2.2.1, b.2.2.2, ?_, h2, ?_⟩
     · intro j hj
       by_cases hc : j = pts.length
       · subst hc; exact pk_us
       · rw [pk_un hc]; exact h1 j (by omega)
     · show FgX5_findFlags_7 (iI (pts.length : Nat)) (iI (m 0)) (iI (m 1)) (iI (m 2)) (iI (m 3)) (iI (m 4)) (iI (m 5)) (iI P) inv roots keys (gX5_findFlags_7 (iI (pts.length : Nat)) (iI (m 0)) (iI (m 1)) (iI (m 2)) (iI (m 3)) (iI (m 4)) (iI (m 5)) (iI P) inv roots keys K n) K (iI (pts.length : Nat)) (iI ((flg P m pts pts.length).length : Nat)) b.2.1 b.2.2.1 b.2.2.2 (b.1 0) (b.1 1) (b.1 2) (b.1 3) (b.1 4) (b.1 5) (b.1 6) (b.1 7) (b.1 8) (b.1 9) (b.1 10) (b.1 11) = _
       unfold FgX5_findFlags_7
       rw [if_pos (Int32.le_refl _), ← hK]
       unfold kX5_findFlags_111
       rw [nst (by omega) (by omega), b1_s]
   · intro n x b hx ⟨h1, h2⟩
     have hl := flg_len hp hm hd hpt (x + 1) (by omega)
     have hkx := hpt _ (getD_mem hx)
     obtain ⟨cnt, lo, up, lo', up', e1, e2, e3, f1, f2, f3, g1, g2, g3, hM, hlu, ef⟩ := e_find hp hN hm hd hkx (b.1 0) (b.1 1) (b.1 2) (b.1 3) (b.1 4) (b.1 5) (b.1 6) (b.1 7) (b.1 8) (b.1 9) (b.1 10) (b.1 11)
     have el : flg P m pts (x + 1) = flg P m pts x ++ (mets cnt lo up).map (fun l => (x, l)) := by
       rw [← lnk_mets hM]; rfl
     have hl2 : (flg P m pts x).length + cnt ≤ 400 := by
       rw [el, List.length_append, List.length_map, mets_len hM.1] at hl; omega
     obtain ⟨lines', points', hF, eg⟩ := ff_in x hM.1 hlu (kX5_findFlags_105 (iI (x : Nat)) (gX5_findFlags_7 (iI (pts.length : Nat)) (iI (m 0)) (iI (m 1)) (iI (m 2)) (iI (m 3)) (iI (m 4)) (iI (m 5)) (iI P) inv roots keys K n) (upd b.2.1 x (iI ((flg P m pts x).length : Nat))) (iI (cnt : Nat)) lo' up' e1 e2 e3 f1 f2 f3 g1 g2 g3) h2 hl2
     rw [← el] at hF eg
     refine ⟨(fun i => ([iI (cnt : Nat), lo', up', e1, e2, e3, f1, f2, f3, g1, g2, g3] : List Int32).getD i 0, upd b.2.1 x (iI ((flg P m pts x).length : Nat)), lines', points'), ⟨?_, hF⟩, ?_⟩
     · intro j hj
       show upd b.2.1 x (iI ((flg P m pts x).length : Nat)) j = _
       by_cases hc : j = x
       · subst hc; exact pk_us
       · rw [pk_un hc]; exact h1 j (by omega)
     · show FgX5_findFlags_7 (iI (pts.length : Nat)) (iI (m 0)) (iI (m 1)) (iI (m 2)) (iI (m 3)) (iI (m 4)) (iI (m 5)) (iI P) inv roots keys (gX5_findFlags_7 (iI (pts.length : Nat)) (iI (m 0)) (iI (m 1)) (iI (m 2)) (iI (m 3)) (iI (m 4)) (iI (m 5)) (iI P) inv roots keys K n) K (iI (x : Nat)) (iI ((flg P m pts x).length : Nat)) b.2.1 b.2.2.1 b.2.2.2 (b.1 0) (b.1 1) (b.1 2) (b.1 3) (b.1 4) (b.1 5) (b.1 6) (b.1 7) (b.1 8) (b.1 9) (b.1 10) (b.1 11) = _
       unfold FgX5_findFlags_7
       rw [if_neg (by rw [nle (by omega) (by omega)]; omega), nst (by omega) (by omega), b1_s, nld (by omega) (by omega), b1_s, hold_cz hk hx, ef, b12_s, eg]
       unfold kX5_findFlags_105
       rw [nm_s, n1]
       rfl
  exact key
