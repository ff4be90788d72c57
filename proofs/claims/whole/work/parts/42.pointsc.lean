/-! the class's row of points -/
def cz (L : List Nat) : List Int := L.map (fun k : Nat => (k : Int))
theorem cz_len (L : List Nat) : (cz L).length = L.length := by unfold cz; rw [List.length_map]
theorem cz_app (L M : List Nat) : cz (L ++ M) = cz L ++ cz M := by unfold cz; rw [List.map_append]
def mets (cnt lo up : Nat) : List Nat := if cnt = 0 then [] else if cnt = 1 then [lo] else [lo, up]
theorem ap_end {cnt : Nat} (hc : cnt ≤ 2) (lo' up' lim : Int32) (n : Nat) (c : Int32) (keys : Nat → Int32) : gX5_addPoints_2 (iI (cnt : Nat)) lo' up' lim kX5_addPoints_68 (n + 1) (iI (cnt : Nat)) c keys = some (c, keys) := by
  show FgX5_addPoints_2 (iI (cnt : Nat)) lo' up' lim (gX5_addPoints_2 (iI (cnt : Nat)) lo' up' lim kX5_addPoints_68 n) kX5_addPoints_68 (iI (cnt : Nat)) c keys = _
  unfold FgX5_addPoints_2 fX3_size
  rw [b1_s, if_pos (Int32.le_refl _)]; rfl
theorem ap_step {cnt i k lim : Nat} (hi : i < cnt) (hc : cnt ≤ 2) {lo' up' : Int32} (hk : fX3_keyAt lo' up' (iI (i : Nat)) = some (iI (k : Nat))) (bk : k < 100000) (bl : lim < 100000) (n : Nat) {L : List Nat} (hL : L.length < 200) (keys : Nat → Int32) :
    gX5_addPoints_2 (iI (cnt : Nat)) lo' up' (iI (lim : Nat)) kX5_addPoints_68 (n + 1) (iI (i : Nat)) (iI (L.length : Nat)) keys = if k < lim then gX5_addPoints_2 (iI (cnt : Nat)) lo' up' (iI (lim : Nat)) kX5_addPoints_68 n (iI ((i + 1 : Nat) : Int)) (iI ((L ++ [k]).length : Nat)) (upd keys L.length (iI (k : Nat))) else gX5_addPoints_2 (iI (cnt : Nat)) lo' up' (iI (lim : Nat)) kX5_addPoints_68 n (iI ((i + 1 : Nat) : Int)) (iI (L.length : Nat)) keys := by
  show FgX5_addPoints_2 (iI (cnt : Nat)) lo' up' (iI (lim : Nat)) (gX5_addPoints_2 (iI (cnt : Nat)) lo' up' (iI (lim : Nat)) kX5_addPoints_68 n) kX5_addPoints_68 (iI (i : Nat)) (iI (L.length : Nat)) keys = _
  unfold FgX5_addPoints_2 fX3_size jX5_addPoints_62
  rw [b1_s, if_neg (by rw [iI_le (by omega) (by omega) (by omega) (by omega)]; omega), hk, b1_s]
  by_cases h : k < lim
  · rw [if_neg (by rw [iI_le (by omega) (by omega) (by omega) (by omega)]; omega), if_neg (by rw [show (200 : Int32) = iI 200 from rfl, iI_le (by omega) (by omega) (by omega) (by omega)]; omega), b1_s, st_t (by omega) (by omega) (by omega), b1_s, nm_s, nm_s, if_pos h, show (1 : Int32) = iI 1 from rfl, iI_add, iI_add, Int.toNat_natCast, List.length_append, List.length_singleton]
    rfl
  · rw [if_pos (by rw [iI_le (by omega) (by omega) (by omega) (by omega)]; omega), nm_s, if_neg h, show (1 : Int32) = iI 1 from rfl, iI_add]
    rfl
theorem e_add {cnt lo up lim : Nat} (hc : cnt ≤ 2) {lo' up' : Int32} (hlu : 1 ≤ cnt → lo' = iI (lo : Nat) ∧ up' = iI (up : Nat)) (b1 : 1 ≤ cnt → lo < 100000 ∧ up < 100000) (bl : lim < 100000) {L : List Nat} {keys : Nat → Int32} (h : hold keys (cz L)) (hlen : (L ++ (mets cnt lo up).filter (fun k => decide (k < lim))).length ≤ 200) :
    ∃ keys', hold keys' (cz (L ++ (mets cnt lo up).filter (fun k => decide (k < lim)))) ∧ fX5_addPoints (iI (L.length : Nat)) (iI (cnt : Nat)) lo' up' keys (iI (lim : Nat)) = some (iI ((L ++ (mets cnt lo up).filter (fun k => decide (k < lim))).length : Nat), keys') := by
  have hadd : ∀ {L : List Nat} {keys : Nat → Int32} (k : Nat), hold keys (cz L) → hold (upd keys L.length (iI (k : Nat))) (cz (L ++ [k])) := by
    intro L keys k h
    have := hold_add h (k : Int)
    rw [cz_len] at this
    rw [cz_app]; exact this
  unfold fX5_addPoints
  rw [show p_FU = 99997 + 1 + 1 + 1 from rfl]
  rcases (show cnt = 0 ∨ cnt = 1 ∨ cnt = 2 by omega) with rfl | rfl | rfl
  · have e : (mets 0 lo up).filter (fun k => decide (k < lim)) = [] := rfl
    rw [e, List.append_nil] at hlen ⊢
    exact ⟨keys, h, ap_end (cnt := 0) hc _ _ _ (99997 + 1 + 1) _ _⟩
  · obtain ⟨rfl, rfl⟩ := hlu (by omega)
    obtain ⟨bb1, bb2⟩ := b1 (by omega)
    have k0 : fX3_keyAt (iI (lo : Nat)) (iI (up : Nat)) (iI ((0 : Nat) : Int)) = some (iI (lo : Nat)) := by unfold fX3_keyAt; rw [if_pos (show iI ((0 : Nat) : Int) = 0 from rfl)]
    have e : mets 1 lo up = [lo] := rfl
    rw [e] at hlen ⊢
    by_cases h0 : lo < lim
    · have e2 : [lo].filter (fun k => decide (k < lim)) = [lo] := by simp [h0]
      rw [e2] at hlen ⊢
      rw [List.length_append, List.length_singleton] at hlen
      have s1 := ap_step (cnt := 1) (i := 0) (by omega) hc k0 bb1 bl (99997 + 1 + 1) (L := L) (by omega) keys
      rw [if_pos h0] at s1
      refine ⟨_, hadd lo h, ?_⟩
      exact s1.trans (ap_end (cnt := 1) hc _ _ _ (99997 + 1) _ _)
    · have e2 : [lo].filter (fun k => decide (k < lim)) = [] := by simp [h0]
      rw [e2, List.append_nil] at hlen ⊢
      by_cases hL : L.length < 200
      · have s1 := ap_step (cnt := 1) (i := 0) (by omega) hc k0 bb1 bl (99997 + 1 + 1) (L := L) hL keys
        rw [if_neg h0] at s1
        exact ⟨keys, h, s1.trans (ap_end (cnt := 1) hc _ _ _ (99997 + 1) _ _)⟩
      · refine ⟨keys, h, ?_⟩
        have s1 : gX5_addPoints_2 (iI ((1 : Nat) : Int)) (iI (lo : Nat)) (iI (up : Nat)) (iI (lim : Nat)) kX5_addPoints_68 (99997 + 1 + 1 + 1) (iI ((0 : Nat) : Int)) (iI (L.length : Nat)) keys = gX5_addPoints_2 (iI ((1 : Nat) : Int)) (iI (lo : Nat)) (iI (up : Nat)) (iI (lim : Nat)) kX5_addPoints_68 (99997 + 1 + 1) (iI ((1 : Nat) : Int)) (iI (L.length : Nat)) keys := by
          show FgX5_addPoints_2 (iI ((1 : Nat) : Int)) (iI (lo : Nat)) (iI (up : Nat)) (iI (lim : Nat)) (gX5_addPoints_2 (iI ((1 : Nat) : Int)) (iI (lo : Nat)) (iI (up : Nat)) (iI (lim : Nat)) kX5_addPoints_68 (99997 + 1 + 1)) kX5_addPoints_68 (iI ((0 : Nat) : Int)) (iI (L.length : Nat)) keys = _
          unfold FgX5_addPoints_2 fX3_size jX5_addPoints_62
          rw [b1_s, if_neg (by decide), k0, b1_s, if_pos (by rw [iI_le (by omega) (by omega) (by omega) (by omega)]; omega), nm_s]; rfl
        exact s1.trans (ap_end (cnt := 1) hc _ _ _ (99997 + 1) _ _)
  · obtain ⟨rfl, rfl⟩ := hlu (by omega)
    obtain ⟨bb1, bb2⟩ := b1 (by omega)
    have k0 : fX3_keyAt (iI (lo : Nat)) (iI (up : Nat)) (iI ((0 : Nat) : Int)) = some (iI (lo : Nat)) := by unfold fX3_keyAt; rw [if_pos (show iI ((0 : Nat) : Int) = 0 from rfl)]
    have k1 : fX3_keyAt (iI (lo : Nat)) (iI (up : Nat)) (iI ((1 : Nat) : Int)) = some (iI (up : Nat)) := by unfold fX3_keyAt; rw [if_neg (by decide)]
    have e : mets 2 lo up = [lo, up] := rfl
    rw [e] at hlen ⊢
    -- a step whether or not the row is full
    have st : ∀ (i k n : Nat) (L : List Nat) (keys : Nat → Int32), i < 2 → k < 100000 → fX3_keyAt (iI (lo : Nat)) (iI (up : Nat)) (iI (i : Nat)) = some (iI (k : Nat)) → hold keys (cz L) → (L ++ [k].filter (fun k => decide (k < lim))).length ≤ 200 →
        ∃ keys', hold keys' (cz (L ++ [k].filter (fun k => decide (k < lim)))) ∧ gX5_addPoints_2 (iI ((2 : Nat) : Int)) (iI (lo : Nat)) (iI (up : Nat)) (iI (lim : Nat)) kX5_addPoints_68 (n + 1) (iI (i : Nat)) (iI (L.length : Nat)) keys = gX5_addPoints_2 (iI ((2 : Nat) : Int)) (iI (lo : Nat)) (iI (up : Nat)) (iI (lim : Nat)) kX5_addPoints_68 n (iI ((i + 1 : Nat) : Int)) (iI ((L ++ [k].filter (fun k => decide (k < lim))).length : Nat)) keys' := by
      intro i k n L keys hi bk hkey h hlen
      by_cases h0 : k < lim
      · have e2 : [k].filter (fun k => decide (k < lim)) = [k] := by simp [h0]
        rw [e2] at hlen ⊢
        have hL : L.length < 200 := by rw [List.length_append, List.length_singleton] at hlen; omega
        have s1 := ap_step (cnt := 2) hi hc hkey bk bl n (L := L) hL keys
        rw [if_pos h0] at s1
        exact ⟨_, hadd k h, s1⟩
      · have e2 : [k].filter (fun k => decide (k < lim)) = [] := by simp [h0]
        rw [e2, List.append_nil] at hlen ⊢
        refine ⟨keys, h, ?_⟩
        show FgX5_addPoints_2 (iI ((2 : Nat) : Int)) (iI (lo : Nat)) (iI (up : Nat)) (iI (lim : Nat)) (gX5_addPoints_2 (iI ((2 : Nat) : Int)) (iI (lo : Nat)) (iI (up : Nat)) (iI (lim : Nat)) kX5_addPoints_68 n) kX5_addPoints_68 (iI (i : Nat)) (iI (L.length : Nat)) keys = _
        unfold FgX5_addPoints_2 fX3_size jX5_addPoints_62
        rw [b1_s, if_neg (by rw [iI_le (by omega) (by omega) (by omega) (by omega)]; omega), hkey, b1_s, if_pos (by rw [iI_le (by omega) (by omega) (by omega) (by omega)]; omega), nm_s, show (1 : Int32) = iI 1 from rfl, iI_add]; rfl
    have ef : [lo, up].filter (fun k => decide (k < lim)) = [lo].filter (fun k => decide (k < lim)) ++ [up].filter (fun k => decide (k < lim)) := by
      rw [← List.filter_append]; rfl
    rw [ef, ← List.append_assoc] at hlen ⊢
    obtain ⟨ky1, hh1, s1⟩ := st 0 lo (99997 + 1 + 1) L keys (by omega) bb1 k0 h (by rw [List.length_append] at hlen; omega)
    obtain ⟨ky2, hh2, s2⟩ := st 1 up (99997 + 1) _ ky1 (by omega) bb2 k1 hh1 hlen
    exact ⟨ky2, hh2, s1.trans (s2.trans (ap_end (cnt := 2) hc _ _ _ 99997 _ _))⟩
