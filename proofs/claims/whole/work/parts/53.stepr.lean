/-! steps of the reference -/
theorem holdT_at {P : Nat} {U V W Q : Nat → Int32} {F : List (Nat × Nat)} (h : holdT P U V W Q F) {f : Nat} (hf : f < F.length) : U f = iI (tx P (kl F f)) ∧ V f = iI (ty P (kl F f)) ∧ W f = iI (tz P (kl F f)) ∧ Q f = iI (kp F f : Nat) :=
  ⟨hold_map h.1 (0, 0) hf, hold_map h.2.1 (0, 0) hf, hold_map h.2.2.1 (0, 0) hf, hold_map h.2.2.2 (0, 0) hf⟩
theorem e_online {P : Nat} (hp : z_pr P = true) {C m : Nat → Int} {pts : List Nat} (hP : PtsOK P C pts) (hlen : pts.length ≤ 200) (hn : (flg P m pts pts.length).length ≤ 400) {X Y Z U V W Q : Nat → Int32} (hX : hold X (pts.map (tx P))) (hY : hold Y (pts.map (ty P))) (hZ : hold Z (pts.map (tz P))) (hT : holdT P U V W Q (flg P m pts pts.length)) {f i : Nat} (hf : f < (flg P m pts pts.length).length) (hi : i < pts.length) :
    (onl P C (kl (flg P m pts pts.length) f) (pts.getD i 0) ∧ fX9_isOnLine (iI P) U V W X Y Z (iI (i : Nat)) (iI (f : Nat)) = some 1) ∨ (¬ onl P C (kl (flg P m pts pts.length) f) (pts.getD i 0) ∧ fX9_isOnLine (iI P) U V W X Y Z (iI (i : Nat)) (iI (f : Nat)) = some 0) := by
  obtain ⟨a1, -, -, -⟩ := fl_on hP hf
  obtain ⟨k1, k2⟩ := (hP.2 _).mp (getD_mem hi)
  obtain ⟨u1, u2, u3, -⟩ := holdT_at hT hf
  obtain ⟨lx, ly, lz⟩ := t_el hp a1
  obtain ⟨px, py, pz⟩ := t_el hp k1
  have ev : fX9_isOnLine (iI P) U V W X Y Z (iI (i : Nat)) (iI (f : Nat)) = if iI ((tx P (kl (flg P m pts pts.length) f) * tx P (pts.getD i 0) + ty P (kl (flg P m pts pts.length) f) * ty P (pts.getD i 0) + tz P (kl (flg P m pts pts.length) f) * tz P (pts.getD i 0)) % P) = 0 then some 1 else some 0 := by
    unfold fX9_isOnLine
    rw [nld (by omega) (by omega), b1_s, nld (by omega) (by omega), b1_s, nld (by omega) (by omega), b1_s, nld (by omega) (by omega), b1_s, nld (by omega) (by omega), b1_s, nld (by omega) (by omega), b1_s, u1, u2, u3, hold_map hX 0 hi, hold_map hY 0 hi, hold_map hZ 0 hi, iI_mul, iI_mul, iI_mul, iI_add, iI_add,
      e_ob hp (bd_add (bd_add (bd_mul (bd_el hp lx) (bd_el hp px)) (bd_mul (bd_el hp ly) (bd_el hp py))) (bd_mul (bd_el hp lz) (bd_el hp pz))) (by decide), b1_s]
  rw [ev]
  unfold onF at k2
  by_cases c : (tx P (kl (flg P m pts pts.length) f) * tx P (pts.getD i 0) + ty P (kl (flg P m pts pts.length) f) * ty P (pts.getD i 0) + tz P (kl (flg P m pts pts.length) f) * tz P (pts.getD i 0)) % P = 0
  · left
    exact ⟨⟨c, of_decide_eq_true k2⟩, by rw [if_pos ((el_0 hp (el_mod hp _)).mpr c)]⟩
  · right
    exact ⟨fun h => c h.1, by rw [if_neg (fun q => c ((el_0 hp (el_mod hp _)).mp q))]⟩
theorem e_step_q {P : Nat} (hp : z_pr P = true) {C m : Nat → Int} {pts : List Nat} (hP : PtsOK P C pts) (hlen : pts.length ≤ 200) (hn : (flg P m pts pts.length).length ≤ 400) {X Y Z U V W Q : Nat → Int32} (hX : hold X (pts.map (tx P))) (hY : hold Y (pts.map (ty P))) (hZ : hold Z (pts.map (tz P))) (hT : holdT P U V W Q (flg P m pts pts.length)) {f : Nat} (hf : f < (flg P m pts pts.length).length) (kk : Int32 → Option Int32) :
    ∃ q, q < pts.length ∧ onl P C (kl (flg P m pts pts.length) f) (pts.getD q 0) ∧ (q ≠ kp (flg P m pts pts.length) f ∨ ∀ i, i < pts.length → onl P C (kl (flg P m pts pts.length) f) (pts.getD i 0) → i = kp (flg P m pts pts.length) f) ∧ gX9_stepOf_9 (iI P) (iI (pts.length : Nat)) Q U V W X Y Z (iI (f : Nat)) kk p_FU (iI (kp (flg P m pts pts.length) f : Nat)) 0 = kk (iI (q : Nat)) := by
  obtain ⟨a5, -⟩ := fl_pt hf
  obtain ⟨-, -, -, a4⟩ := fl_on hP hf
  obtain ⟨-, -, -, u4⟩ := holdT_at hT hf
  refine fn (fun n x (q : Nat) => gX9_stepOf_9 (iI P) (iI (pts.length : Nat)) Q U V W X Y Z (iI (f : Nat)) kk n (iI (q : Nat)) (iI (x : Nat))) pts.length (fun x q => q < pts.length ∧ ((q = kp (flg P m pts pts.length) f ∧ ∀ i, i < x → i ≠ kp (flg P m pts pts.length) f → ¬ onl P C (kl (flg P m pts pts.length) f) (pts.getD i 0)) ∨ (q ≠ kp (flg P m pts pts.length) f ∧ onl P C (kl (flg P m pts pts.length) f) (pts.getD q 0)))) (fun o => ∃ q, q < pts.length ∧ onl P C (kl (flg P m pts pts.length) f) (pts.getD q 0) ∧ (q ≠ kp (flg P m pts pts.length) f ∨ ∀ i, i < pts.length → onl P C (kl (flg P m pts pts.length) f) (pts.getD i 0) → i = kp (flg P m pts pts.length) f) ∧ o = kk (iI (q : Nat))) ?_ ?_ p_FU 0 (kp (flg P m pts pts.length) f) (by omega) ⟨a5, Or.inl ⟨rfl, fun i hi => by omega⟩⟩ (by have := FU_big; omega)
  · intro n q ⟨h1, h2⟩
    have ev : gX9_stepOf_9 (iI P) (iI (pts.length : Nat)) Q U V W X Y Z (iI (f : Nat)) kk (n + 1) (iI (q : Nat)) (iI (pts.length : Nat)) = kk (iI (q : Nat)) := by
      show FgX9_stepOf_9 (iI P) (iI (pts.length : Nat)) Q U V W X Y Z (iI (f : Nat)) (gX9_stepOf_9 (iI P) (iI (pts.length : Nat)) Q U V W X Y Z (iI (f : Nat)) kk n) kk (iI (q : Nat)) (iI (pts.length : Nat)) = _
      unfold FgX9_stepOf_9
      rw [if_pos (Int32.le_refl _)]
    rcases h2 with ⟨h2, h3⟩ | ⟨h2, h3⟩
    · refine ⟨q, h1, by rw [h2]; exact a4, Or.inr (fun i hi ho => ?_), ev⟩
      by_cases c : i = kp (flg P m pts pts.length) f
      · exact c
      · exact absurd ho (h3 i hi c)
    · exact ⟨q, h1, h3, Or.inl h2, ev⟩
  · intro n x q hx ⟨h1, h2⟩
    by_cases c : x = kp (flg P m pts pts.length) f
    · refine ⟨q, ⟨h1, ?_⟩, ?_⟩
      · rcases h2 with ⟨h2, h3⟩ | h2
        · exact Or.inl ⟨h2, fun i hi hne => h3 i (by omega) hne⟩
        · exact Or.inr h2
      · show FgX9_stepOf_9 (iI P) (iI (pts.length : Nat)) Q U V W X Y Z (iI (f : Nat)) (gX9_stepOf_9 (iI P) (iI (pts.length : Nat)) Q U V W X Y Z (iI (f : Nat)) kk n) kk (iI (q : Nat)) (iI (x : Nat)) = _
        unfold FgX9_stepOf_9 jX9_stepOf_40 jX9_stepOf_41
        rw [if_neg (by rw [nle (by omega) (by omega)]; omega), nld (by omega) (by omega), b1_s, u4, if_pos (by rw [c]), nm_s, n1]
    · rcases e_online hp hP hlen hn hX hY hZ hT hf hx with ⟨ho, ev⟩ | ⟨ho, ev⟩
      · refine ⟨x, ⟨hx, Or.inr ⟨c, ho⟩⟩, ?_⟩
        show FgX9_stepOf_9 (iI P) (iI (pts.length : Nat)) Q U V W X Y Z (iI (f : Nat)) (gX9_stepOf_9 (iI P) (iI (pts.length : Nat)) Q U V W X Y Z (iI (f : Nat)) kk n) kk (iI (q : Nat)) (iI (x : Nat)) = _
        unfold FgX9_stepOf_9 jX9_stepOf_40 jX9_stepOf_41
        rw [if_neg (by rw [nle (by omega) (by omega)]; omega), nld (by omega) (by omega), b1_s, u4, if_neg (by rw [neq (by omega) (by omega)]; exact c), ev, b1_s, if_neg (by decide), nm_s, n1]
      · refine ⟨q, ⟨h1, ?_⟩, ?_⟩
        · rcases h2 with ⟨h2, h3⟩ | h2
          · refine Or.inl ⟨h2, fun i hi hne => ?_⟩
            by_cases ci : i = x
            · rw [ci]; exact ho
            · exact h3 i (by omega) hne
          · exact Or.inr h2
        · show FgX9_stepOf_9 (iI P) (iI (pts.length : Nat)) Q U V W X Y Z (iI (f : Nat)) (gX9_stepOf_9 (iI P) (iI (pts.length : Nat)) Q U V W X Y Z (iI (f : Nat)) kk n) kk (iI (q : Nat)) (iI (x : Nat)) = _
          unfold FgX9_stepOf_9 jX9_stepOf_40 jX9_stepOf_41
          rw [if_neg (by rw [nle (by omega) (by omega)]; omega), nld (by omega) (by omega), b1_s, u4, if_neg (by rw [neq (by omega) (by omega)]; exact c), ev, b1_s, if_pos rfl, nm_s, n1]
theorem e_step_x {P : Nat} (hp : z_pr P = true) {C m : Nat → Int} {pts : List Nat} (hP : PtsOK P C pts) (hlen : pts.length ≤ 200) (hn : (flg P m pts pts.length).length ≤ 400) {X Y Z U V W Q : Nat → Int32} (hX : hold X (pts.map (tx P))) (hY : hold Y (pts.map (ty P))) (hZ : hold Z (pts.map (tz P))) (hT : holdT P U V W Q (flg P m pts pts.length)) {f q g : Nat} (hf : f < (flg P m pts pts.length).length) (hq : q < pts.length) (hg : g < (flg P m pts pts.length).length) (n : Nat) (sm ot : Int32) :
    gX9_stepOf_58 (iI ((flg P m pts pts.length).length : Nat)) Q U V W (iI (f : Nat)) (iI (q : Nat)) kX9_stepOf_165 (n + 1) sm ot (iI (g : Nat)) = if kp (flg P m pts pts.length) g = q then (if kl (flg P m pts pts.length) g = (kl (flg P m pts pts.length) f) then gX9_stepOf_58 (iI ((flg P m pts pts.length).length : Nat)) Q U V W (iI (f : Nat)) (iI (q : Nat)) kX9_stepOf_165 n (iI (g : Nat)) ot (iI ((g + 1 : Nat) : Int)) else gX9_stepOf_58 (iI ((flg P m pts pts.length).length : Nat)) Q U V W (iI (f : Nat)) (iI (q : Nat)) kX9_stepOf_165 n sm (iI (g : Nat)) (iI ((g + 1 : Nat) : Int))) else gX9_stepOf_58 (iI ((flg P m pts pts.length).length : Nat)) Q U V W (iI (f : Nat)) (iI (q : Nat)) kX9_stepOf_165 n sm ot (iI ((g + 1 : Nat) : Int)) := by
  obtain ⟨u1, u2, u3, u4⟩ := holdT_at hT hg
  obtain ⟨w1, w2, w3, w4⟩ := holdT_at hT hf
  obtain ⟨a1, -, -, -⟩ := fl_on hP hf
  obtain ⟨b1, -, -, -⟩ := fl_on hP hg
  obtain ⟨b5, -⟩ := fl_pt hg
  obtain ⟨lx, ly, lz⟩ := t_el hp a1
  obtain ⟨mx_, my, mz⟩ := t_el hp b1
  have q1 : ∀ {x y : Int}, el P x → el P y → (iI x = iI y ↔ x = y) := fun hx hy => iI_eq (el_32 hp hx).1 (el_32 hp hx).2 (el_32 hp hy).1 (el_32 hp hy).2
  show FgX9_stepOf_58 (iI ((flg P m pts pts.length).length : Nat)) Q U V W (iI (f : Nat)) (iI (q : Nat)) (gX9_stepOf_58 (iI ((flg P m pts pts.length).length : Nat)) Q U V W (iI (f : Nat)) (iI (q : Nat)) kX9_stepOf_165 n) kX9_stepOf_165 sm ot (iI (g : Nat)) = _
  unfold FgX9_stepOf_58 jX9_stepOf_130 jX9_stepOf_131 jX9_stepOf_144 jX9_stepOf_157 jX9_stepOf_159
  rw [if_neg (by rw [nle (by omega) (by omega)]; omega), nld (by omega) (by omega), b1_s, u4]
  simp only [neq (show kp (flg P m pts pts.length) g < 2147483648 by omega) (show q < 2147483648 by omega)]
  by_cases c : kp (flg P m pts pts.length) g = q
  · rw [if_pos c, if_pos c, nld (by omega) (by omega), b1_s, nld (by omega) (by omega), b1_s, nld (by omega) (by omega), b1_s, nld (by omega) (by omega), b1_s, nld (by omega) (by omega), b1_s, nld (by omega) (by omega), b1_s, u1, u2, u3, w1, w2, w3]
    simp only [q1 mx_ lx, q1 my ly, q1 mz lz, n1, nm_s, if_pos (show (0 : Int32) = 0 from rfl), if_neg (show ¬ (1 : Int32) = 0 by decide)]
    by_cases e : kl (flg P m pts pts.length) g = (kl (flg P m pts pts.length) f)
    · rw [if_pos e, if_pos (by rw [e]), if_pos (by rw [e]), if_pos (by rw [e])]
    · rw [if_neg e]
      by_cases e1 : tx P (kl (flg P m pts pts.length) g) = tx P (kl (flg P m pts pts.length) f)
      · rw [if_pos e1]
        by_cases e2 : ty P (kl (flg P m pts pts.length) g) = ty P (kl (flg P m pts pts.length) f)
        · rw [if_pos e2, if_neg (fun e3 => e (t_inj hp b1 a1 e1 e2 e3))]; rfl
        · rw [if_neg e2]; rfl
      · rw [if_neg e1]; rfl
  · rw [if_neg c, if_neg c, nm_s, n1]
theorem e_step_g {P : Nat} (hp : z_pr P = true) {C m : Nat → Int} {pts : List Nat} (hP : PtsOK P C pts) (hlen : pts.length ≤ 200) (hn : (flg P m pts pts.length).length ≤ 400) {X Y Z U V W Q : Nat → Int32} (hX : hold X (pts.map (tx P))) (hY : hold Y (pts.map (ty P))) (hZ : hold Z (pts.map (tz P))) (hT : holdT P U V W Q (flg P m pts pts.length)) {f q : Nat} (hf : f < (flg P m pts pts.length).length) (hq : q < pts.length) (hex : ∃ f', f' < (flg P m pts pts.length).length ∧ kp (flg P m pts pts.length) f' = q ∧ kl (flg P m pts pts.length) f' = (kl (flg P m pts pts.length) f)) :
    ∃ g, kX9_stepOf_48 (iI ((flg P m pts pts.length).length : Nat)) Q U V W (iI (f : Nat)) (iI (q : Nat)) = some (iI (g : Nat)) ∧ g < (flg P m pts pts.length).length ∧ kp (flg P m pts pts.length) g = q ∧ (kl (flg P m pts pts.length) g ≠ (kl (flg P m pts pts.length) f) ∨ ∀ h, h < (flg P m pts pts.length).length → kp (flg P m pts pts.length) h = q → kl (flg P m pts pts.length) h = (kl (flg P m pts pts.length) f)) := by
  obtain ⟨f', x1, x2, x3⟩ := hex
  unfold kX9_stepOf_48
  refine fn (fun n x (b : Int32 × Int32) => gX9_stepOf_58 (iI ((flg P m pts pts.length).length : Nat)) Q U V W (iI (f : Nat)) (iI (q : Nat)) kX9_stepOf_165 n b.1 b.2 (iI (x : Nat))) (flg P m pts pts.length).length (fun x b => ((b.2 = iI (-6) ∧ ∀ g, g < x → kp (flg P m pts pts.length) g = q → kl (flg P m pts pts.length) g = (kl (flg P m pts pts.length) f)) ∨ ∃ g, g < x ∧ b.2 = iI (g : Nat) ∧ kp (flg P m pts pts.length) g = q ∧ kl (flg P m pts pts.length) g ≠ (kl (flg P m pts pts.length) f)) ∧ ((b.1 = iI (-6) ∧ ∀ g, g < x → kp (flg P m pts pts.length) g = q → kl (flg P m pts pts.length) g ≠ (kl (flg P m pts pts.length) f)) ∨ ∃ g, g < x ∧ b.1 = iI (g : Nat) ∧ kp (flg P m pts pts.length) g = q ∧ kl (flg P m pts pts.length) g = (kl (flg P m pts pts.length) f))) (fun o => ∃ g, o = some (iI (g : Nat)) ∧ g < (flg P m pts pts.length).length ∧ kp (flg P m pts pts.length) g = q ∧ (kl (flg P m pts pts.length) g ≠ (kl (flg P m pts pts.length) f) ∨ ∀ h, h < (flg P m pts pts.length).length → kp (flg P m pts pts.length) h = q → kl (flg P m pts pts.length) h = (kl (flg P m pts pts.length) f))) ?_ ?_ p_FU 0 (-6, -6) (by omega) ⟨Or.inl ⟨rfl, fun g hg => by omega⟩, Or.inl ⟨rfl, fun g hg => by omega⟩⟩ (by have := FU_big; omega)
  · intro n b ⟨h1, h2⟩
    have ev : gX9_stepOf_58 (iI ((flg P m pts pts.length).length : Nat)) Q U V W (iI (f : Nat)) (iI (q : Nat)) kX9_stepOf_165 (n + 1) b.1 b.2 (iI ((flg P m pts pts.length).length : Nat)) = if 0 ≤ b.2 then some b.2 else some b.1 := by
      show FgX9_stepOf_58 (iI ((flg P m pts pts.length).length : Nat)) Q U V W (iI (f : Nat)) (iI (q : Nat)) (gX9_stepOf_58 (iI ((flg P m pts pts.length).length : Nat)) Q U V W (iI (f : Nat)) (iI (q : Nat)) kX9_stepOf_165 n) kX9_stepOf_165 b.1 b.2 (iI ((flg P m pts pts.length).length : Nat)) = _
      unfold FgX9_stepOf_58
      rw [if_pos (Int32.le_refl _)]; rfl
    rcases h1 with ⟨h1, h3⟩ | ⟨g, h1, h3, h4, h5⟩
    · rcases h2 with ⟨h2, h4⟩ | ⟨g, h2, h4, h5, h6⟩
      · exact absurd x3 (h4 f' x1 x2)
      · refine ⟨g, ?_, h2, h5, Or.inr h3⟩
        rw [ev, h1, if_neg (by decide), h4]
    · refine ⟨g, ?_, h1, h4, Or.inl h5⟩
      rw [ev, h3, if_pos (by rw [show (0 : Int32) = iI ((0 : Nat) : Int) from rfl, nle (by omega) (by omega)]; omega)]
  · intro n x b hx ⟨h1, h2⟩
    have ev := e_step_x hp hP hlen hn hX hY hZ hT hf hq hx n b.1 b.2
    by_cases c : kp (flg P m pts pts.length) x = q
    · rw [if_pos c] at ev
      by_cases e : kl (flg P m pts pts.length) x = (kl (flg P m pts pts.length) f)
      · rw [if_pos e] at ev
        refine ⟨(iI (x : Nat), b.2), ⟨?_, Or.inr ⟨x, by omega, rfl, c, e⟩⟩, ev⟩
        rcases h1 with ⟨h1, h3⟩ | ⟨g, h1, h3, h4, h5⟩
        · refine Or.inl ⟨h1, fun g hg hk => ?_⟩
          by_cases cg : g = x
          · rw [cg]; exact e
          · exact h3 g (by omega) hk
        · exact Or.inr ⟨g, by omega, h3, h4, h5⟩
      · rw [if_neg e] at ev
        refine ⟨(b.1, iI (x : Nat)), ⟨Or.inr ⟨x, by omega, rfl, c, e⟩, ?_⟩, ev⟩
        rcases h2 with ⟨h1, h3⟩ | ⟨g, h1, h3, h4, h5⟩
        · refine Or.inl ⟨h1, fun g hg hk => ?_⟩
          by_cases cg : g = x
          · rw [cg]; exact e
          · exact h3 g (by omega) hk
        · exact Or.inr ⟨g, by omega, h3, h4, h5⟩
    · rw [if_neg c] at ev
      refine ⟨b, ⟨?_, ?_⟩, ev⟩
      · rcases h1 with ⟨h1, h3⟩ | ⟨g, h1, h3, h4, h5⟩
        · refine Or.inl ⟨h1, fun g hg hk => ?_⟩
          by_cases cg : g = x
          · rw [cg] at hk; exact absurd hk c
          · exact h3 g (by omega) hk
        · exact Or.inr ⟨g, by omega, h3, h4, h5⟩
      · rcases h2 with ⟨h1, h3⟩ | ⟨g, h1, h3, h4, h5⟩
        · refine Or.inl ⟨h1, fun g hg hk => ?_⟩
          by_cases cg : g = x
          · rw [cg] at hk; exact absurd hk c
          · exact h3 g (by omega) hk
        · exact Or.inr ⟨g, by omega, h3, h4, h5⟩
theorem e_step9 {P : Nat} (hp : z_pr P = true) {C m : Nat → Int} (hC : elF P C) (hdC : dt P C ≠ 0) (hm : elF P m) (hdm : dt P m ≠ 0) {pts : List Nat} (hP : PtsOK P C pts) (hlen : pts.length ≤ 200) (hn : (flg P m pts pts.length).length ≤ 400) {X Y Z U V W Q : Nat → Int32} (hX : hold X (pts.map (tx P))) (hY : hold Y (pts.map (ty P))) (hZ : hold Z (pts.map (tz P))) (hT : holdT P U V W Q (flg P m pts pts.length)) {f : Nat} (hf : f < (flg P m pts pts.length).length) :
    fX9_stepOf (iI ((flg P m pts pts.length).length : Nat)) (iI P) (iI (pts.length : Nat)) Q U V W X Y Z (iI (f : Nat)) = some (iI (nx (flg P m pts pts.length).length (kp (flg P m pts pts.length)) (kl (flg P m pts pts.length)) f : Nat)) := by
  obtain ⟨-, -, -, u4⟩ := holdT_at hT hf
  unfold fX9_stepOf
  rw [nld (by omega) (by omega), b1_s, u4]
  obtain ⟨q, h1, h2, h3, h4⟩ := e_step_q hp hP hlen hn hX hY hZ hT hf (kX9_stepOf_48 (iI ((flg P m pts pts.length).length : Nat)) Q U V W (iI (f : Nat)))
  obtain ⟨g, h5, h6, h7, h8⟩ := e_step_g hp hP hlen hn hX hY hZ hT hf h1 (fl_other hP hf h1 h2)
  rw [h4, h5, nx_is hp hC hdC hm hdm hP hf h1 h2 h3 h6 h7 h8]
theorem e_lay_steps {P : Nat} (hp : z_pr P = true) {C m : Nat → Int} (hC : elF P C) (hdC : dt P C ≠ 0) (hm : elF P m) (hdm : dt P m ≠ 0) {pts : List Nat} (hP : PtsOK P C pts) (hlen : pts.length ≤ 200) (hn : (flg P m pts pts.length).length ≤ 400) {X Y Z U V W Q : Nat → Int32} (hX : hold X (pts.map (tx P))) (hY : hold Y (pts.map (ty P))) (hZ : hold Z (pts.map (tz P))) (hT : holdT P U V W Q (flg P m pts pts.length)) (kk : (Nat → Int32) → Option (Int32 × Int32 × Int32 × Int32 × Int32 × Int32 × Int32 × (Nat → Int32) × (Nat → Int32) × (Nat → Int32) × (Nat → Int32) × (Nat → Int32) × (Nat → Int32) × (Nat → Int32) × (Nat → Int32) × (Nat → Int32) × (Nat → Int32) × (Nat → Int32) × (Nat → Int32))) (next : Nat → Int32) :
    ∃ next', (∀ f, f < (flg P m pts pts.length).length → next' f = iI (nx (flg P m pts pts.length).length (kp (flg P m pts pts.length)) (kl (flg P m pts pts.length)) f : Nat)) ∧ gX9_lay_69 (iI P) (iI (pts.length : Nat)) X Y Z (iI ((flg P m pts pts.length).length : Nat)) Q U V W kk p_FU 0 next = kk next' := by
  refine fn (fun n x (b : Nat → Int32) => gX9_lay_69 (iI P) (iI (pts.length : Nat)) X Y Z (iI ((flg P m pts pts.length).length : Nat)) Q U V W kk n (iI (x : Nat)) b) (flg P m pts pts.length).length (fun x b => ∀ f, f < x → b f = iI (nx (flg P m pts pts.length).length (kp (flg P m pts pts.length)) (kl (flg P m pts pts.length)) f : Nat)) (fun o => ∃ next', (∀ f, f < (flg P m pts pts.length).length → next' f = iI (nx (flg P m pts pts.length).length (kp (flg P m pts pts.length)) (kl (flg P m pts pts.length)) f : Nat)) ∧ o = kk next') ?_ ?_ p_FU 0 next (by omega) (fun f hf => by omega) (by have := FU_big; omega)
  · intro n b h
    refine ⟨b, h, ?_⟩
    show FgX9_lay_69 (iI P) (iI (pts.length : Nat)) X Y Z (iI ((flg P m pts pts.length).length : Nat)) Q U V W (gX9_lay_69 (iI P) (iI (pts.length : Nat)) X Y Z (iI ((flg P m pts pts.length).length : Nat)) Q U V W kk n) kk (iI ((flg P m pts pts.length).length : Nat)) b = _
    unfold FgX9_lay_69
    rw [if_pos (Int32.le_refl _)]
  · intro n x b hx h
    refine ⟨upd b x (iI (nx (flg P m pts pts.length).length (kp (flg P m pts pts.length)) (kl (flg P m pts pts.length)) x : Nat)), fun f hf => ?_, ?_⟩
    · by_cases c : f = x
      · rw [c, pk_us]
      · rw [pk_un c]; exact h f (by omega)
    · show FgX9_lay_69 (iI P) (iI (pts.length : Nat)) X Y Z (iI ((flg P m pts pts.length).length : Nat)) Q U V W (gX9_lay_69 (iI P) (iI (pts.length : Nat)) X Y Z (iI ((flg P m pts pts.length).length : Nat)) Q U V W kk n) kk (iI (x : Nat)) b = _
      unfold FgX9_lay_69
      rw [if_neg (by rw [nle (by omega) (by omega)]; omega), e_step9 hp hC hdC hm hdm hP hlen hn hX hY hZ hT hx, b1_s, nst (by omega) (by omega), b1_s, nm_s, n1]
