/-! flags of the reference -/
def holdT (P : Nat) (U V W Q : Nat → Int32) (F : List (Nat × Nat)) : Prop := hold U (F.map (fun q => tx P q.2)) ∧ hold V (F.map (fun q => ty P q.2)) ∧ hold W (F.map (fun q => tz P q.2)) ∧ hold Q (F.map (fun q => (q.1 : Int)))
theorem hold_ap {α : Type} {a : Nat → Int32} {F : List α} (g : α → Int) (h : hold a (F.map g)) (q : α) : hold (upd a F.length (iI (g q))) ((F ++ [q]).map g) := by
  have := hold_add h (g q)
  rw [List.length_map] at this
  rw [List.map_append]; exact this
theorem hold_pre {α : Type} {a : Nat → Int32} {F G : List α} {g : α → Int} (h : hold a ((F ++ G).map g)) : hold a (F.map g) := by
  intro i hi
  rw [List.length_map] at hi
  have hi2 : i < (F ++ G).length := by rw [List.length_append]; omega
  rw [h i (by rw [List.length_map]; exact hi2)]
  rw [List.getD_eq_getElem?_getD, List.getD_eq_getElem?_getD, List.map_append, List.getElem?_append_left (by rw [List.length_map]; exact hi)]
theorem hold_up {a : Nat → Int32} {L : List Int} (h : hold a L) {j : Nat} (x : Int32) (hj : L.length ≤ j) : hold (upd a j x) L := by
  intro i hi
  rw [pk_un (show i ≠ j by omega)]; exact h i hi
theorem hold_ap2 {α : Type} {a : Nat → Int32} {F : List α} (g : α → Int) (h : hold a (F.map g)) (q r : α) : hold (upd (upd a (F.length + 1) (iI (g r))) F.length (iI (g q))) ((F ++ [q, r]).map g) := by
  intro i hi
  rw [List.length_map, List.length_append] at hi
  have hi : i < F.length + 2 := hi
  rw [List.getD_eq_getElem?_getD, List.map_append]
  rcases (show i < F.length ∨ i = F.length ∨ i = F.length + 1 by omega) with c | c | c
  · rw [pk_un (show i ≠ F.length by omega), pk_un (show i ≠ F.length + 1 by omega), List.getElem?_append_left (by rw [List.length_map]; exact c), h i (by rw [List.length_map]; exact c), List.getD_eq_getElem?_getD]
  · subst c
    rw [pk_us, List.getElem?_append_right (by rw [List.length_map]; omega), List.length_map, Nat.sub_self]; rfl
  · subst c
    rw [pk_un (show F.length + 1 ≠ F.length by omega), pk_us, List.getElem?_append_right (by rw [List.length_map]; omega), List.length_map, show F.length + 1 - F.length = 1 by omega]; rfl
theorem hold_last {α : Type} {a : Nat → Int32} {F : List α} {q : α} {g : α → Int} (h : hold a ((F ++ [q]).map g)) : a F.length = iI (g q) := by
  refine hold_at h (i := F.length) ?_
  rw [List.map_append, List.getElem?_append_right (by rw [List.length_map]; omega), List.length_map, Nat.sub_self]; rfl
/-- where a key goes -/
def insk (k : Nat) (S : List Nat) : List Nat := match S with
  | [] => [k]
  | a :: r => if k < a then k :: a :: r else a :: k :: r
set_option maxHeartbeats 400000 in
theorem e_ins {P : Nat} (hp : z_pr P = true) (i : Nat) {k : Nat} (hk : k ≤ P * P + P) {F : List (Nat × Nat)} {S : List Nat} (hS : S.length ≤ 1) (hSk : ∀ a, a ∈ S → a ≤ P * P + P) (hlen : F.length + 2 ≤ 400) {U V W Q : Nat → Int32} (h : holdT P U V W Q (F ++ S.map (fun l => (i, l)))) :
    ∃ U' V' W' Q', holdT P U' V' W' Q' (F ++ (insk k S).map (fun l => (i, l))) ∧ fX9_addFlag (iI ((F.length + S.length : Nat) : Int)) (iI (tx P k)) (iI (ty P k)) (iI (tz P k)) (iI P) Q U V W (iI (i : Nat)) (iI (F.length : Nat)) = some (iI ((F.length + (insk k S).length : Nat) : Int), Q', U', V', W') := by
  have hpp := pp_b hp
  have hb := pr_rng hp
  unfold fX9_addFlag
  rw [e_rank hp hk, b1_s]
  rw [show p_FU = 99998 + 1 + 1 from rfl]
  have ed : ∀ (kk : Int32 → (Nat → Int32) → (Nat → Int32) → (Nat → Int32) → Option (Int32 × (Nat → Int32) × (Nat → Int32) × (Nat → Int32) × (Nat → Int32))) (n : Nat) (U V W : Nat → Int32), gX9_addFlag_23 (iI P) (iI (F.length : Nat)) (iI (k : Nat)) kk (n + 1) (iI (F.length : Nat)) U V W = kk (iI (F.length : Nat)) U V W := by
    intro kk n U V W
    show FgX9_addFlag_23 (iI P) (iI (F.length : Nat)) (iI (k : Nat)) (gX9_addFlag_23 (iI P) (iI (F.length : Nat)) (iI (k : Nat)) kk n) kk (iI (F.length : Nat)) U V W = _
    unfold FgX9_addFlag_23
    rw [if_pos (Int32.le_refl _)]
  match S, hS with
  | [], _ =>
    rw [List.map_nil, List.append_nil] at h
    obtain ⟨h1, h2, h3, h4⟩ := h
    refine ⟨upd U F.length (iI (tx P k)), upd V F.length (iI (ty P k)), upd W F.length (iI (tz P k)), upd Q F.length (iI (i : Nat)), ⟨hold_ap (fun q : Nat × Nat => tx P q.2) h1 (i, k), hold_ap (fun q : Nat × Nat => ty P q.2) h2 (i, k), hold_ap (fun q : Nat × Nat => tz P q.2) h3 (i, k), hold_ap (fun q : Nat × Nat => (q.1 : Int)) h4 (i, k)⟩, ?_⟩
    rw [List.length_nil, Nat.add_zero, ed]
    unfold kX9_addFlag_109
    rw [nst (by omega) (by omega), b1_s, nst (by omega) (by omega), b1_s, nst (by omega) (by omega), b1_s, nst (by omega) (by omega), b1_s, nm_s, n1]
    rfl
  | [a], _ =>
    have ha : a ≤ P * P + P := hSk a List.mem_cons_self
    have h : holdT P U V W Q (F ++ [(i, a)]) := h
    obtain ⟨h1, h2, h3, h4⟩ := h
    have l1 := hold_last h1
    have l2 := hold_last h2
    have l3 := hold_last h3
    have l1 : U F.length = iI (tx P a) := l1
    have l2 : V F.length = iI (ty P a) := l2
    have l3 : W F.length = iI (tz P a) := l3
    have el1 : F.length + [a].length = F.length + 1 := rfl
    have hm1 : iI ((F.length + 1 : Nat) : Int) - 1 = iI (F.length : Nat) := by rw [nm1 (by omega), Nat.add_sub_cancel]
    have hm2 : iI ((F.length + 1 : Nat) : Int) + (-1) = iI (F.length : Nat) := by rw [nm1' (by omega), Nat.add_sub_cancel]
    have nle1 : ¬ iI ((F.length + 1 : Nat) : Int) ≤ iI (F.length : Nat) := by rw [nle (by omega) (by omega)]; omega
    by_cases hc : k < a
    · have ei : insk k [a] = [k, a] := by show (if k < a then [k, a] else [a, k]) = _; rw [if_pos hc]
      rw [ei]
      refine ⟨upd (upd U (F.length + 1) (iI (tx P a))) F.length (iI (tx P k)), upd (upd V (F.length + 1) (iI (ty P a))) F.length (iI (ty P k)), upd (upd W (F.length + 1) (iI (tz P a))) F.length (iI (tz P k)), upd Q (F.length + 1) (iI (i : Nat)), ⟨hold_ap2 (fun q : Nat × Nat => tx P q.2) (hold_pre h1) (i, k) (i, a), hold_ap2 (fun q : Nat × Nat => ty P q.2) (hold_pre h2) (i, k) (i, a), hold_ap2 (fun q : Nat × Nat => tz P q.2) (hold_pre h3) (i, k) (i, a), ?_⟩, ?_⟩
      · have := hold_ap (fun q : Nat × Nat => (q.1 : Int)) h4 (i, a)
        rw [List.length_append, List.length_singleton] at this
        rw [List.append_assoc] at this
        have e2 : (F ++ List.map (fun l => (i, l)) [k, a]).map (fun q : Nat × Nat => (q.1 : Int)) = (F ++ ([(i, a)] ++ [(i, a)])).map (fun q : Nat × Nat => (q.1 : Int)) := by
          rw [List.map_append, List.map_append]; rfl
        rw [e2]; exact this
      · have s1 : ∀ kk : Int32 → (Nat → Int32) → (Nat → Int32) → (Nat → Int32) → Option (Int32 × (Nat → Int32) × (Nat → Int32) × (Nat → Int32) × (Nat → Int32)), gX9_addFlag_23 (iI P) (iI (F.length : Nat)) (iI (k : Nat)) kk (99998 + 1 + 1) (iI ((F.length + 1 : Nat) : Int)) U V W = gX9_addFlag_23 (iI P) (iI (F.length : Nat)) (iI (k : Nat)) kk (99998 + 1) (iI (F.length : Nat)) (upd U (F.length + 1) (iI (tx P a))) (upd V (F.length + 1) (iI (ty P a))) (upd W (F.length + 1) (iI (tz P a))) := by
          intro kk
          show FgX9_addFlag_23 (iI P) (iI (F.length : Nat)) (iI (k : Nat)) (gX9_addFlag_23 (iI P) (iI (F.length : Nat)) (iI (k : Nat)) kk (99998 + 1)) kk (iI ((F.length + 1 : Nat) : Int)) U V W = _
          unfold FgX9_addFlag_23
          rw [if_neg nle1, hm1, nld (by omega) (by omega), b1_s, nld (by omega) (by omega), b1_s, nld (by omega) (by omega), b1_s, l1, l2, l3, e_rank hp ha, b1_s, if_neg (by rw [nle (by omega) (by omega)]; omega), b1_s, nst (by omega) (by omega), b1_s, b1_s, nst (by omega) (by omega), b1_s, b1_s, nst (by omega) (by omega), b1_s, nm_s, hm2]
        rw [el1, s1, ed]
        unfold kX9_addFlag_109
        rw [nst (by omega) (by omega), b1_s, nst (by omega) (by omega), b1_s, nst (by omega) (by omega), b1_s, nst (by omega) (by omega), b1_s, nm_s, n1]
        rfl
    · have ei : insk k [a] = [a, k] := by show (if k < a then [k, a] else [a, k]) = _; rw [if_neg hc]
      rw [ei]
      have em : (F ++ List.map (fun l => (i, l)) [a, k]) = (F ++ [(i, a)]) ++ [(i, k)] := by rw [List.append_assoc]; rfl
      have el2 : (F ++ [(i, a)]).length = F.length + 1 := by rw [List.length_append]; rfl
      rw [em]
      have k1 := hold_ap (fun q : Nat × Nat => tx P q.2) h1 (i, k)
      have k2 := hold_ap (fun q : Nat × Nat => ty P q.2) h2 (i, k)
      have k3 := hold_ap (fun q : Nat × Nat => tz P q.2) h3 (i, k)
      have k4 := hold_ap (fun q : Nat × Nat => (q.1 : Int)) h4 (i, k)
      rw [el2] at k1 k2 k3 k4
      refine ⟨upd U (F.length + 1) (iI (tx P k)), upd V (F.length + 1) (iI (ty P k)), upd W (F.length + 1) (iI (tz P k)), upd Q (F.length + 1) (iI (i : Nat)), ⟨k1, k2, k3, k4⟩, ?_⟩
      have s1 : ∀ kk : Int32 → (Nat → Int32) → (Nat → Int32) → (Nat → Int32) → Option (Int32 × (Nat → Int32) × (Nat → Int32) × (Nat → Int32) × (Nat → Int32)), gX9_addFlag_23 (iI P) (iI (F.length : Nat)) (iI (k : Nat)) kk (99998 + 1 + 1) (iI ((F.length + 1 : Nat) : Int)) U V W = kk (iI ((F.length + 1 : Nat) : Int)) U V W := by
        intro kk
        show FgX9_addFlag_23 (iI P) (iI (F.length : Nat)) (iI (k : Nat)) (gX9_addFlag_23 (iI P) (iI (F.length : Nat)) (iI (k : Nat)) kk (99998 + 1)) kk (iI ((F.length + 1 : Nat) : Int)) U V W = _
        unfold FgX9_addFlag_23
        rw [if_neg nle1, hm1, nld (by omega) (by omega), b1_s, nld (by omega) (by omega), b1_s, nld (by omega) (by omega), b1_s, l1, l2, l3, e_rank hp ha, b1_s, if_pos (by rw [nle (by omega) (by omega)]; omega)]
      rw [el1, s1]
      unfold kX9_addFlag_109
      rw [nst (by omega) (by omega), b1_s, nst (by omega) (by omega), b1_s, nst (by omega) (by omega), b1_s, nst (by omega) (by omega), b1_s, nm_s, n1]
      rfl
theorem insk_mem {k x : Nat} {S : List Nat} (hS : S.length ≤ 1) : x ∈ insk k S ↔ x = k ∨ x ∈ S := by
  match S, hS with
  | [], _ => show x ∈ [k] ↔ _; simp
  | [a], _ =>
    show x ∈ (if k < a then [k, a] else [a, k]) ↔ _
    split
    · simp
    · simp; exact Or.comm
theorem insk_sorted {k : Nat} {S : List Nat} (hS : S.length ≤ 1) (hk : k ∉ S) : (insk k S).Pairwise (· < ·) := by
  match S, hS with
  | [], _ => exact List.pairwise_singleton _ _
  | [a], _ =>
    have : k ≠ a := fun e => hk (by rw [e]; exact List.mem_cons_self)
    show (if k < a then [k, a] else [a, k]).Pairwise (· < ·)
    split
    · simpa using (by assumption)
    · simp; omega
theorem insk_len {k : Nat} {S : List Nat} (hS : S.length ≤ 1) : (insk k S).length = S.length + 1 := by
  match S, hS with
  | [], _ => rfl
  | [a], _ =>
    show (if k < a then [k, a] else [a, k]).length = 2
    split <;> rfl
/-- what the lines up to j give -/
def isS (P : Nat) (m : Nat → Int) (k j : Nat) (S : List Nat) : Prop := S.Pairwise (· < ·) ∧ ∀ l, l ∈ S ↔ ∃ j', j' < j ∧ lj P k j' = l ∧ onF P m l = true
theorem isS_end {P : Nat} (hp : z_pr P = true) {m : Nat → Int} {k : Nat} (hk : k ≤ P * P + P) {S : List Nat} (h : isS P m k (P + 1) S) : S = lnk P m k := by
  have := nz_of hp
  refine sorted_eq _ _ h.1 (lnk_sorted P m k) (fun l => ?_)
  rw [h.2, lnk_mem]
  constructor
  · intro ⟨j, h1, h2, h3⟩
    subst h2
    exact ⟨lj_le hp, (lj_on hp hk m).mpr h3⟩
  · intro ⟨h1, h2⟩
    obtain ⟨j, h3, h4⟩ := lj_sur hp hk h1 ((onl_em hp m k l).mp h2).1
    exact ⟨j, h3, h4, onl_onF h2⟩
theorem isS_2 {P : Nat} (hp : z_pr P = true) {m : Nat → Int} (hm : elF P m) (hd : dt P m ≠ 0) {k j : Nat} (hk : k ≤ P * P + P) {S : List Nat} (h : isS P m k j S) : S.length ≤ 2 := by
  have := nz_of hp
  refine Nat.le_trans (sorted_sub h.1 (lnk_sorted P m k) (fun l hl => ?_)) (lnk_2 hp hm hd hk)
  obtain ⟨j', h1, h2, h3⟩ := (h.2 l).mp hl
  subst h2
  exact lnk_mem.mpr ⟨lj_le hp, (lj_on hp hk m).mpr h3⟩
theorem e_lf_j {P : Nat} (hp : z_pr P = true) (cr : Nat → Int32) (i : Nat) {k j : Nat} (hk : k ≤ P * P + P) (hj : j < P + 1) {F : List (Nat × Nat)} (rc : Int32 → Int32 → Int32 → Int32 → Int32 → (Nat → Int32) → (Nat → Int32) → (Nat → Int32) → (Nat → Int32) → Option (Int32 × Int32 × Int32 × Int32 × (Nat → Int32) × (Nat → Int32) × (Nat → Int32) × (Nat → Int32) × (Nat → Int32) × (Nat → Int32))) (kk : Int32 → Int32 → Int32 → Int32 → (Nat → Int32) → (Nat → Int32) → (Nat → Int32) → (Nat → Int32) → Option (Int32 × Int32 × Int32 × Int32 × (Nat → Int32) × (Nat → Int32) × (Nat → Int32) × (Nat → Int32) × (Nat → Int32) × (Nat → Int32))) (c f1 f2 f3 : Int32) (Q U V W : Nat → Int32) :
    FgX9_layFlags_127 (iI P) cr (iI (i : Nat)) (iI (F.length : Nat)) (iI (ra P k 0)) (iI (ra P k 2)) (iI (rb P k 0)) (iI (rb P k 1)) (iI (rb P k 2)) rc kk (iI (j : Nat)) c f1 f2 f3 Q U V W = p_b1 (fX9_both 6 (iI P) cr 0 (iI (tx P (lj P k j))) (iI (ty P (lj P k j))) (iI (tz P (lj P k j)))) (fun v55 => if v55 = 0 then (p_b5 (fX9_addFlag c (iI (tx P (lj P k j))) (iI (ty P (lj P k j))) (iI (tz P (lj P k j))) (iI P) Q U V W (iI (i : Nat)) (iI (F.length : Nat))) (fun v62 u63 u64 u65 u66 =>
jX9_layFlags_249 (iI (j : Nat)) rc (iI (tx P (lj P k j))) (iI (ty P (lj P k j))) (iI (tz P (lj P k j))) v62 u63 u64 u65 u66)) else (jX9_layFlags_249 (iI (j : Nat)) rc (iI (tx P (lj P k j))) (iI (ty P (lj P k j))) (iI (tz P (lj P k j))) c Q U V W)) := by
  have hb := pr_rng hp
  have := nz_of hp
  have bm : ∀ a b c d : Int, el P a → el P b → el P c → el P d → bd (a * b + c * d) (198 * 198 + 198 * 198) := fun a b c d h1 h2 h3 h4 => bd_add (bd_mul (bd_el hp h1) (bd_el hp h2)) (bd_mul (bd_el hp h3) (bd_el hp h4))
  have o : ∀ n, fX9_of (iI P) (iI (aj P j) * iI (ra P k n) + iI (bj P j) * iI (rb P k n)) = some (iI (vs P (ra P k) (rb P k) (aj P j) (bj P j) n)) := by
    intro n
    rw [iI_mul, iI_mul, iI_add, e_ob hp (bm _ _ _ _ (aj_el hp) (ra_el hp hk n) (bj_el hp) (rb_el hp hk n)) (by decide)]; rfl
  have o1 : fX9_of (iI P) (iI (aj P j) * 0 + iI (bj P j) * iI (rb P k 1)) = some (iI (vs P (ra P k) (rb P k) (aj P j) (bj P j) 1)) := o 1
  have ef := e_form9 hp f1 f2 f3 (vs_el hp (ra P k) (rb P k) (aj P j) (bj P j) 0) (vs_el hp (ra P k) (rb P k) (aj P j) (bj P j) 1) (vs_el hp (ra P k) (rb P k) (aj P j) (bj P j) 2) (vs_ne hp (rs_ok hp hk) (ab_ne hp))
  have e0 : FgX9_layFlags_127 (iI P) cr (iI (i : Nat)) (iI (F.length : Nat)) (iI (ra P k 0)) (iI (ra P k 2)) (iI (rb P k 0)) (iI (rb P k 1)) (iI (rb P k 2)) rc kk (iI (j : Nat)) c f1 f2 f3 Q U V W = jX9_layFlags_167 (iI P) cr (iI (i : Nat)) (iI (F.length : Nat)) (iI (ra P k 0)) (iI (ra P k 2)) (iI (rb P k 0)) (iI (rb P k 1)) (iI (rb P k 2)) (iI (j : Nat)) c f1 f2 f3 Q U V W rc (iI (aj P j)) (iI (bj P j)) := by
    unfold FgX9_layFlags_127 jX9_layFlags_151
    rw [if_neg (by rw [nlt (by omega) (by omega)]; omega)]
    unfold aj bj
    by_cases h : j < P
    · have n1 : ¬ iI (P : Nat) ≤ iI (j : Nat) := by rw [nle (by omega) (by omega)]; omega
      rw [if_neg n1, if_neg n1, if_pos h, if_pos h]; rfl
    · have n1 : iI (P : Nat) ≤ iI (j : Nat) := by rw [nle (by omega) (by omega)]; omega
      rw [if_pos n1, if_pos n1, if_neg h, if_neg h]; rfl
  rw [e0]
  unfold jX9_layFlags_167
  rw [o 0, b1_s, o1, b1_s, o 2, b1_s, ef, b3_s]
  rfl
set_option maxHeartbeats 400000 in
theorem e_lf_in {P : Nat} (hp : z_pr P = true) {m : Nat → Int} (hm : elF P m) (hd : dt P m ≠ 0) {cr : Nat → Int32} (hcr : rowF cr 0 m) (i : Nat) {k : Nat} (hk : k ≤ P * P + P) {F : List (Nat × Nat)} (hlen : F.length + 2 ≤ 400) (kk : Int32 → Int32 → Int32 → Int32 → (Nat → Int32) → (Nat → Int32) → (Nat → Int32) → (Nat → Int32) → Option (Int32 × Int32 × Int32 × Int32 × (Nat → Int32) × (Nat → Int32) × (Nat → Int32) × (Nat → Int32) × (Nat → Int32) × (Nat → Int32))) (f1 f2 f3 : Int32) {Q U V W : Nat → Int32} (h : holdT P U V W Q F) :
    ∃ f1' f2' f3' Q' U' V' W', holdT P U' V' W' Q' (F ++ (lnk P m k).map (fun l => (i, l))) ∧ gX9_layFlags_127 (iI P) cr (iI (i : Nat)) (iI (F.length : Nat)) (iI (ra P k 0)) (iI (ra P k 2)) (iI (rb P k 0)) (iI (rb P k 1)) (iI (rb P k 2)) kk p_FU 0 (iI (F.length : Nat)) f1 f2 f3 Q U V W = kk (iI ((F.length + (lnk P m k).length : Nat) : Int)) f1' f2' f3' Q' U' V' W' := by
  have := nz_of hp
  have hb := pr_rng hp
  refine fn (fun n x (b : (Int32 × Int32 × Int32) × List Nat × (Nat → Int32) × (Nat → Int32) × (Nat → Int32) × (Nat → Int32)) => gX9_layFlags_127 (iI P) cr (iI (i : Nat)) (iI (F.length : Nat)) (iI (ra P k 0)) (iI (ra P k 2)) (iI (rb P k 0)) (iI (rb P k 1)) (iI (rb P k 2)) kk n (iI (x : Nat)) (iI ((F.length + b.2.1.length : Nat) : Int)) b.1.1 b.1.2.1 b.1.2.2 b.2.2.1 b.2.2.2.1 b.2.2.2.2.1 b.2.2.2.2.2) (P + 1) (fun x b => isS P m k x b.2.1 ∧ holdT P b.2.2.2.1 b.2.2.2.2.1 b.2.2.2.2.2 b.2.2.1 (F ++ b.2.1.map (fun l => (i, l))))
    (fun o => ∃ f1' f2' f3' Q' U' V' W', holdT P U' V' W' Q' (F ++ (lnk P m k).map (fun l => (i, l))) ∧ o = kk (iI ((F.length + (lnk P m k).length : Nat) : Int)) f1' f2' f3' Q' U' V' W') ?_ ?_ p_FU 0 ((f1, f2, f3), [], Q, U, V, W) (by omega) ⟨⟨List.Pairwise.nil, fun l => ⟨fun q => by simp at q, fun ⟨j, q, _⟩ => by omega⟩⟩, by rw [List.map_nil, List.append_nil]; exact h⟩ (by have := FU_big; omega)
  · intro n b ⟨h1, h2⟩
    have e := isS_end hp hk h1
    rw [e] at h2
    refine ⟨b.1.1, b.1.2.1, b.1.2.2, b.2.2.1, b.2.2.2.1, b.2.2.2.2.1, b.2.2.2.2.2, h2, ?_⟩
    show FgX9_layFlags_127 (iI P) cr (iI (i : Nat)) (iI (F.length : Nat)) (iI (ra P k 0)) (iI (ra P k 2)) (iI (rb P k 0)) (iI (rb P k 1)) (iI (rb P k 2)) (gX9_layFlags_127 (iI P) cr (iI (i : Nat)) (iI (F.length : Nat)) (iI (ra P k 0)) (iI (ra P k 2)) (iI (rb P k 0)) (iI (rb P k 1)) (iI (rb P k 2)) kk n ) kk (iI ((P + 1 : Nat) : Int)) (iI ((F.length + b.2.1.length : Nat) : Int)) b.1.1 b.1.2.1 b.1.2.2 b.2.2.1 b.2.2.2.1 b.2.2.2.2.1 b.2.2.2.2.2 = _
    unfold FgX9_layFlags_127
    rw [if_pos (by rw [nlt (by omega) (by omega)]; omega), e]
  · intro n x b hx ⟨h1, h2⟩
    have hl2 := isS_2 hp hm hd hk h1
    obtain ⟨ex, ey, ez⟩ := t_el hp (lj_le hp (k := k) (j := x))
    have e0 := e_both9 hp hcr (n := 6) (by omega) (by omega) hm ex ey ez
    have e0 : fX9_both 6 (iI P) cr 0 (iI (tx P (lj P k x))) (iI (ty P (lj P k x))) (iI (tz P (lj P k x))) = some (iI (qf P m (tx P (lj P k x)) (ty P (lj P k x)) (tz P (lj P k x)))) := e0
    by_cases ho : onF P m (lj P k x) = true
    · have hq : qf P m (tx P (lj P k x)) (ty P (lj P k x)) (tz P (lj P k x)) = 0 := by unfold onF at ho; exact of_decide_eq_true ho
      have hnot : lj P k x ∉ b.2.1 := by
        intro hmem
        obtain ⟨j', q1, q2, -⟩ := (h1.2 _).mp hmem
        have := lj_inj hp hk (by omega) hx q2
        omega
      have hS : isS P m k (x + 1) (b.2.1 ++ [lj P k x]) ∨ True := Or.inr trivial
      have hl1 : b.2.1.length ≤ 1 := by
        -- all of them and the new one touch: no more than two
        have hm2 : ∀ l, l ∈ b.2.1 → l ∈ (lnk P m k).filter (fun l => decide (l ≠ lj P k x)) := by
          intro l hl
          obtain ⟨j', q1, q2, q3⟩ := (h1.2 l).mp hl
          rw [List.mem_filter, decide_eq_true_eq]
          refine ⟨?_, fun e => hnot (e ▸ hl)⟩
          subst q2
          exact lnk_mem.mpr ⟨lj_le hp, (lj_on hp hk m).mpr q3⟩
        have l1 := sorted_sub h1.1 (List.Pairwise.filter _ (lnk_sorted P m k)) hm2
        have l2 := lnk_2 hp hm hd hk
        have l3 : ((lnk P m k).filter (fun l => decide (l ≠ lj P k x))).length < (lnk P m k).length := by
          refine List.length_filter_lt_length_iff_exists.mpr ⟨lj P k x, lnk_mem.mpr ⟨lj_le hp, (lj_on hp hk m).mpr ho⟩, ?_⟩
          simp
        omega
      obtain ⟨U', V', W', Q', g1, g2⟩ := e_ins hp i (lj_le hp (k := k) (j := x)) hl1 (fun a ha => by
        obtain ⟨j', q1, q2, q3⟩ := (h1.2 a).mp ha
        subst q2; exact lj_le hp) hlen h2
      refine ⟨((iI (tx P (lj P k x)), iI (ty P (lj P k x)), iI (tz P (lj P k x))), insk (lj P k x) b.2.1, Q', U', V', W'), ⟨⟨insk_sorted hl1 hnot, fun l => ?_⟩, g1⟩, ?_⟩
      · show l ∈ insk (lj P k x) b.2.1 ↔ _
        rw [insk_mem hl1, h1.2]
        constructor
        · intro q
          rcases q with q | ⟨j', q1, q2, q3⟩
          · exact ⟨x, by omega, q.symm, by rw [q]; exact ho⟩
          · exact ⟨j', by omega, q2, q3⟩
        · intro ⟨j', q1, q2, q3⟩
          by_cases c : j' = x
          · subst c; exact Or.inl q2.symm
          · exact Or.inr ⟨j', by omega, q2, q3⟩
      · show FgX9_layFlags_127 (iI P) cr (iI (i : Nat)) (iI (F.length : Nat)) (iI (ra P k 0)) (iI (ra P k 2)) (iI (rb P k 0)) (iI (rb P k 1)) (iI (rb P k 2)) (gX9_layFlags_127 (iI P) cr (iI (i : Nat)) (iI (F.length : Nat)) (iI (ra P k 0)) (iI (ra P k 2)) (iI (rb P k 0)) (iI (rb P k 1)) (iI (rb P k 2)) kk n ) kk (iI (x : Nat)) (iI ((F.length + b.2.1.length : Nat) : Int)) b.1.1 b.1.2.1 b.1.2.2 b.2.2.1 b.2.2.2.1 b.2.2.2.2.1 b.2.2.2.2.2 = _
        rw [e_lf_j hp cr i hk hx, e0, b1_s, hq, if_pos (show iI 0 = 0 from rfl), g2]
        show jX9_layFlags_249 _ _ _ _ _ _ _ _ _ _ = _
        unfold jX9_layFlags_249
        rw [nm_s, n1]
    · have hq : qf P m (tx P (lj P k x)) (ty P (lj P k x)) (tz P (lj P k x)) ≠ 0 := fun h => ho (by unfold onF; exact decide_eq_true h)
      refine ⟨((iI (tx P (lj P k x)), iI (ty P (lj P k x)), iI (tz P (lj P k x))), b.2), ⟨⟨h1.1, fun l => ?_⟩, h2⟩, ?_⟩
      · show l ∈ b.2.1 ↔ _
        rw [h1.2]
        constructor
        · intro ⟨j', q1, q2, q3⟩
          exact ⟨j', by omega, q2, q3⟩
        · intro ⟨j', q1, q2, q3⟩
          by_cases c : j' = x
          · subst c; rw [q2] at ho; exact absurd q3 ho
          · exact ⟨j', by omega, q2, q3⟩
      · show FgX9_layFlags_127 (iI P) cr (iI (i : Nat)) (iI (F.length : Nat)) (iI (ra P k 0)) (iI (ra P k 2)) (iI (rb P k 0)) (iI (rb P k 1)) (iI (rb P k 2)) (gX9_layFlags_127 (iI P) cr (iI (i : Nat)) (iI (F.length : Nat)) (iI (ra P k 0)) (iI (ra P k 2)) (iI (rb P k 0)) (iI (rb P k 1)) (iI (rb P k 2)) kk n ) kk (iI (x : Nat)) (iI ((F.length + b.2.1.length : Nat) : Int)) b.1.1 b.1.2.1 b.1.2.2 b.2.2.1 b.2.2.2.1 b.2.2.2.2.1 b.2.2.2.2.2 = _
        rw [e_lf_j hp cr i hk hx, e0, b1_s, if_neg (fun h => hq ((el_0 hp (show el P (qf P m (tx P (lj P k x)) (ty P (lj P k x)) (tz P (lj P k x))) from el_mod hp _)).mp h))]
        unfold jX9_layFlags_249
        rw [nm_s, n1]
set_option maxHeartbeats 400000 in
theorem e_lay_flags {P : Nat} (hp : z_pr P = true) {gv : Nat → Int32} {D : Nat → Int} (hD : rowF gv 6 D) (eD : elF P D) (hd : dt P (cof P D) ≠ 0) {pts : List Nat} (hpt : ∀ k, k ∈ pts → k ≤ P * P + P) (hlen : pts.length ≤ 200) {X Y Z : Nat → Int32} (hX : hold X (pts.map (tx P))) (hY : hold Y (pts.map (ty P))) (hZ : hold Z (pts.map (tz P))) (c0 f1 f2 f3 : Int32) (cr0 Q U V W PF : Nat → Int32) :
    ∃ f1' f2' f3' cr Q' U' V' W' PF', rowF cr 0 (cof P D) ∧ holdT P U' V' W' Q' (flg P (cof P D) pts pts.length) ∧ (∀ i, i < pts.length → PF' i = iI ((lnk P (cof P D) (pts.getD i 0)).length : Nat)) ∧
      fX9_layFlags c0 f1 f2 f3 (iI P) (iI (pts.length : Nat)) cr0 Q U V W gv PF X Y Z = some (iI ((flg P (cof P D) pts pts.length).length : Nat), f1', f2', f3', cr, Q', U', V', W', PF') := by
  have hb := pr_rng hp
  have hm := cof_el hp D
  obtain ⟨cr, hcr, ec⟩ := e_cof9 hp (c := cr0) hD (n := 12) (by omega) (by omega) eD
  have ec : fX9_cofactorOf 12 (iI P) gv cr0 6 = some cr := ec
  unfold fX9_layFlags
  rw [ec, b1_s]
  generalize hK : kX9_layFlags_274 cr = K
  have key : ∃ f1' f2' f3' Q' U' V' W' PF', holdT P U' V' W' Q' (flg P (cof P D) pts pts.length) ∧ (∀ i, i < pts.length → PF' i = iI ((lnk P (cof P D) (pts.getD i 0)).length : Nat)) ∧ gX9_layFlags_17 (iI P) (iI (pts.length : Nat)) X Y Z cr K p_FU (iI ((0 : Nat) : Int)) (iI ((flg P (cof P D) pts 0).length : Nat)) f1 f2 f3 Q U V W PF = some (iI ((flg P (cof P D) pts pts.length).length : Nat), f1', f2', f3', cr, Q', U', V', W', PF') := by
   refine fn (fun n x (b : (Int32 × Int32 × Int32) × (Nat → Int32) × (Nat → Int32) × (Nat → Int32) × (Nat → Int32) × (Nat → Int32)) => gX9_layFlags_17 (iI P) (iI (pts.length : Nat)) X Y Z cr K n (iI (x : Nat)) (iI ((flg P (cof P D) pts x).length : Nat)) b.1.1 b.1.2.1 b.1.2.2 b.2.1 b.2.2.1 b.2.2.2.1 b.2.2.2.2.1 b.2.2.2.2.2) pts.length (fun x b => holdT P b.2.2.1 b.2.2.2.1 b.2.2.2.2.1 b.2.1 (flg P (cof P D) pts x) ∧ ∀ i, i < x → b.2.2.2.2.2 i = iI ((lnk P (cof P D) (pts.getD i 0)).length : Nat))
    (fun o => ∃ f1' f2' f3' Q' U' V' W' PF', holdT P U' V' W' Q' (flg P (cof P D) pts pts.length) ∧ (∀ i, i < pts.length → PF' i = iI ((lnk P (cof P D) (pts.getD i 0)).length : Nat)) ∧ o = some (iI ((flg P (cof P D) pts pts.length).length : Nat), f1', f2', f3', cr, Q', U', V', W', PF')) ?_ ?_ p_FU 0 ((f1, f2, f3), Q, U, V, W, PF) (by omega) ⟨⟨hold_0 _, hold_0 _, hold_0 _, hold_0 _⟩, fun i hi => by omega⟩ (by have := FU_big; omega)
   · intro n b ⟨h1, h2⟩
     refine ⟨b.1.1, b.1.2.1, b.1.2.2, b.2.1, b.2.2.1, b.2.2.2.1, b.2.2.2.2.1, b.2.2.2.2.2, h1, h2, ?_⟩
     show FgX9_layFlags_17 (iI P) (iI (pts.length : Nat)) X Y Z cr (gX9_layFlags_17 (iI P) (iI (pts.length : Nat)) X Y Z cr K n) K (iI (pts.length : Nat)) (iI ((flg P (cof P D) pts pts.length).length : Nat)) b.1.1 b.1.2.1 b.1.2.2 b.2.1 b.2.2.1 b.2.2.2.1 b.2.2.2.2.1 b.2.2.2.2.2 = _
     unfold FgX9_layFlags_17
     rw [if_pos (Int32.le_refl _), ← hK]
     rfl
   · intro n x b hx ⟨h1, h2⟩
     have hl := flg_len hp hm hd hpt x (by omega)
     have hkx := hpt _ (getD_mem hx)
     have gX := hold_map hX 0 hx
     have gY := hold_map hY 0 hx
     have gZ := hold_map hZ 0 hx
     generalize hk : pts.getD x 0 = k at *
     obtain ⟨ex, ey, ez⟩ := t_el hp hkx
     obtain ⟨f1', f2', f3', Q', U', V', W', g1, g2⟩ := e_lf_in hp hm hd hcr x hkx (F := flg P (cof P D) pts x) (by omega) (kX9_layFlags_255 (iI (x : Nat)) (iI ((flg P (cof P D) pts x).length : Nat)) b.2.2.2.2.2 (gX9_layFlags_17 (iI P) (iI (pts.length : Nat)) X Y Z cr K n)) b.1.1 b.1.2.1 b.1.2.2 h1
     have ef : flg P (cof P D) pts (x + 1) = flg P (cof P D) pts x ++ (lnk P (cof P D) k).map (fun l => (x, l)) := by
       rw [← hk]; rfl
     have efl : (flg P (cof P D) pts (x + 1)).length = (flg P (cof P D) pts x).length + (lnk P (cof P D) k).length := by
       rw [ef, List.length_append, List.length_map]
     refine ⟨((f1', f2', f3'), Q', U', V', W', upd b.2.2.2.2.2 x (iI ((lnk P (cof P D) k).length : Nat))), ⟨?_, ?_⟩, ?_⟩
     · rw [ef]; exact g1
     · intro i hi
       show upd b.2.2.2.2.2 x (iI ((lnk P (cof P D) k).length : Nat)) i = _
       by_cases c : i = x
       · subst c; rw [hk]; exact pk_us
       · rw [pk_un c]; exact h2 i (by omega)
     · show FgX9_layFlags_17 (iI P) (iI (pts.length : Nat)) X Y Z cr (gX9_layFlags_17 (iI P) (iI (pts.length : Nat)) X Y Z cr K n) K (iI (x : Nat)) (iI ((flg P (cof P D) pts x).length : Nat)) b.1.1 b.1.2.1 b.1.2.2 b.2.1 b.2.2.1 b.2.2.2.1 b.2.2.2.2.1 b.2.2.2.2.2 = _
       have oX : fX9_of (iI P) (-iI (tx P k)) = some (iI ((-(tx P k)) % P)) := by rw [iI_neg]; exact e_ob hp (bd_neg (bd_el hp ex)) (by decide)
       have oY : fX9_of (iI P) (-iI (ty P k)) = some (iI ((-(ty P k)) % P)) := by rw [iI_neg]; exact e_ob hp (bd_neg (bd_el hp ey)) (by decide)
       unfold FgX9_layFlags_17
       rw [if_neg (by rw [nle (by omega) (by omega)]; omega), nld (by omega) (by omega), b1_s, nld (by omega) (by omega), b1_s, nld (by omega) (by omega), b1_s, gX, gY, gZ]
       unfold jX9_layFlags_75 jX9_layFlags_87 jX9_layFlags_105 jX9_layFlags_122
       have fin : kX9_layFlags_255 (iI (x : Nat)) (iI ((flg P (cof P D) pts x).length : Nat)) b.2.2.2.2.2 (gX9_layFlags_17 (iI P) (iI (pts.length : Nat)) X Y Z cr K n) (iI (((flg P (cof P D) pts x).length + (lnk P (cof P D) k).length : Nat) : Int)) f1' f2' f3' Q' U' V' W' = gX9_layFlags_17 (iI P) (iI (pts.length : Nat)) X Y Z cr K n (iI ((x + 1 : Nat) : Int)) (iI ((flg P (cof P D) pts (x + 1)).length : Nat)) f1' f2' f3' Q' U' V' W' (upd b.2.2.2.2.2 x (iI ((lnk P (cof P D) k).length : Nat))) := by
         unfold kX9_layFlags_255
         rw [nsub (by omega), nst (by omega) (by omega), b1_s, nm_s, n1, efl, Nat.add_sub_cancel_left]
       by_cases h0 : tz P k = 0
       · have i0 : iI (tz P k) = 0 := (el_0 hp ez).mpr h0
         have g3 := g2.trans fin
         unfold ra rb at g3
         simp only [if_pos h0] at g3
         simp only [if_pos i0, oX, b1_s]
         exact g3
       · have i0 : ¬ iI (tz P k) = 0 := fun q => h0 ((el_0 hp ez).mp q)
         have g3 := g2.trans fin
         unfold ra rb at g3
         simp only [if_neg h0] at g3
         simp only [if_neg i0, oX, oY, b1_s]
         exact g3
  obtain ⟨f1', f2', f3', Q', U', V', W', PF', h1, h2, h3⟩ := key
  exact ⟨f1', f2', f3', cr, Q', U', V', W', PF', hcr, h1, h2, h3⟩
