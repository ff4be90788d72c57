/-! chords -/
def cdx (P : Nat) (C : Nat → Int) (a b : Nat) : Int := if a = b then sd0 C (tx P a) (ty P a) (tz P a) % P else (ty P a * tz P b - tz P a * ty P b) % P
def cdy (P : Nat) (C : Nat → Int) (a b : Nat) : Int := if a = b then sd1 C (tx P a) (ty P a) (tz P a) % P else (tz P a * tx P b - tx P a * tz P b) % P
def cdz (P : Nat) (C : Nat → Int) (a b : Nat) : Int := if a = b then sd2 C (tx P a) (ty P a) (tz P a) % P else (tx P a * ty P b - ty P a * tx P b) % P
def cdk (P : Nat) (C : Nat → Int) (a b : Nat) : Nat := ky P (cdx P C a b) (cdy P C a b) (cdz P C a b)
theorem cd_el {P : Nat} (hp : z_pr P = true) (C : Nat → Int) (a b : Nat) : el P (cdx P C a b) ∧ el P (cdy P C a b) ∧ el P (cdz P C a b) := by
  unfold cdx cdy cdz
  by_cases h : a = b
  · rw [if_pos h, if_pos h, if_pos h]; exact ⟨el_mod hp _, el_mod hp _, el_mod hp _⟩
  · rw [if_neg h, if_neg h, if_neg h]; exact ⟨el_mod hp _, el_mod hp _, el_mod hp _⟩
theorem cd_ne {P : Nat} (hp : z_pr P = true) {C : Nat → Int} (hd : dt P C ≠ 0) {a b : Nat} (ha : a ≤ P * P + P) (hb : b ≤ P * P + P) : ¬ (cdx P C a b = 0 ∧ cdy P C a b = 0 ∧ cdz P C a b = 0) := by
  have := nz_of hp
  intro ⟨h1, h2, h3⟩
  have g1 : em P (cdx P C a b) = 0 := by rw [h1, em_0]
  have g2 : em P (cdy P C a b) = 0 := by rw [h2, em_0]
  have g3 : em P (cdz P C a b) = 0 := by rw [h3, em_0]
  unfold cdx at g1
  unfold cdy at g2
  unfold cdz at g3
  by_cases h : a = b
  · rw [if_pos h, em_mod] at g1 g2 g3
    unfold sd0 at g1
    unfold sd1 at g2
    unfold sd2 at g3
    simp only [em_add, em_mul] at g1 g2 g3
    have hdr : rdt (P := P) C ≠ 0 := by
      rw [← em_dt, ne_eq, el_em0 (show el P (dt P C) from el_mod hp _)]; exact hd
    obtain ⟨p1, p2, p3⟩ := pol_ne (a := em P (C 0)) (b := em P (C 1)) (c := em P (C 2)) (d := em P (C 3)) (e := em P (C 4)) (f := em P (C 5)) g1 g2 g3
    rcases key_cases hp ha with ⟨_, _, _, _, _, _, _, _, q⟩ | ⟨_, _, _, _, q, _⟩ | ⟨_, q, _, _⟩
    · rw [q, em_1] at p3; exact hdr (by unfold rdt; clear g1 g2 g3 p1 p2; grind)
    · rw [q, em_1] at p2; exact hdr (by unfold rdt; clear g1 g2 g3 p1 p3; grind)
    · rw [q, em_1] at p1; exact hdr (by unfold rdt; clear g1 g2 g3 p2 p3; grind)
  · rw [if_neg h, em_mod] at g1 g2 g3
    simp only [em_sub, em_mul] at g1 g2 g3
    exact h (cross_eq hp ha hb g1 g2 g3).symm
theorem e_pointOf {n : Nat} (hn : n ≤ 400) {lines points : Nat → Int32} {F : List (Nat × Nat)} (hF : holdF lines points F) (hl : F.length = n) {f : Nat} (hf : f < n) : fX5_pointOf (iI (n : Nat)) points (iI (f : Nat)) = some (iI (kp F f : Nat)) := by
  unfold fX5_pointOf
  rw [e_hasFlag hn hf, b1_s, if_neg (by decide), nld (by omega) (by omega), b1_s, (holdF_at hF (by omega)).2]
theorem e_pointKey {pts : List Nat} (hl : pts.length ≤ 200) {keys : Nat → Int32} (hk : hold keys (cz pts)) {i : Nat} (hi : i < pts.length) : fX5_pointKey (iI (pts.length : Nat)) keys (iI (i : Nat)) = some (iI (pts.getD i 0 : Nat)) := by
  unfold fX5_pointKey
  have h1 : fX5_hasPoint (iI (pts.length : Nat)) (iI (i : Nat)) = some 1 := e_hasFlag (n := pts.length) (by omega) hi
  rw [h1, b1_s, if_neg (by decide), nld (by omega) (by omega), b1_s, hold_cz hk hi]
/-- the key of the chord from flag f over k steps -/
def chd (P : Nat) (C D : Nat → Int) (f k : Nat) : Nat := cdk P C ((PT P C).getD (kp (FL P C D) f) 0) ((PT P C).getD (kp (FL P C D) (it (NX P C D) k f)) 0)
theorem chd_le {P : Nat} (hp : z_pr P = true) (C D : Nat → Int) (f k : Nat) : chd P C D f k ≤ P * P + P := ky_le hp _ _ _
set_option maxHeartbeats 400000 in
theorem e_draw {P : Nat} (hp : z_pr P = true) {inv roots : Nat → Int32} (hN : NumOK P inv roots) {C D : Nat → Int} (eC : elF P C) (hg : gdp P (cu P C D)) {befores first lines points nexts places keys sizes starts walk : Nat → Int32} (hW : WalksOK P C D (iI ((FL P C D).length : Nat)) (iI ((PT P C).length : Nat)) (iI (((List.range (FL P C D).length).filter (lst (NX P C D) (FL P C D).length)).length : Nat)) befores first lines points nexts places keys sizes starts walk) {f k : Nat} (hf : f < (FL P C D).length) (hk : k ≤ 1000) (h1 h2 h3 l1 l2 l3 t1 t2 t3 : Int32) :
    ∃ s : Nat → Int32, fX8_drawChord (iI P) inv h1 h2 h3 l1 l2 l3 (iI (C 0)) (iI (C 1)) (iI (C 2)) (iI (C 3)) (iI (C 4)) (iI (C 5)) t1 t2 t3 (iI ((FL P C D).length : Nat)) (iI ((PT P C).length : Nat)) points places keys sizes starts walk (iI (f : Nat)) (iI (k : Nat)) = some (s 0, s 1, s 2, iI (tx P (chd P C D f k)), iI (ty P (chd P C D f k)), iI (tz P (chd P C D f k)), s 3, s 4, s 5) := by
  obtain ⟨-, -, -, hkeys, -, hF, -, -, hR⟩ := hW
  obtain ⟨hC, hD, n1, n2, ok, hs, -⟩ := gd_f hp eC hg
  have hb := pr_rng hp
  have hpp := pp_b hp
  have hf2 := it_lt hs hf k
  have a1 := (fl_pt hf).1
  have a2 := (fl_pt hf2).1
  have a1 : kp (FL P C D) f < (PT P C).length := a1
  have a2 : kp (FL P C D) (it (NX P C D) k f) < (PT P C).length := a2
  have k1 := ((ok.2 _).mp (getD_mem a1)).1
  have k2 := ((ok.2 _).mp (getD_mem a2)).1
  unfold fX8_drawChord
  rw [e_pointOf n2 hF rfl hf, b1_s, e_pointKey n1 hkeys a1, b1_s, e_after n2 hR hf (by omega), b1_s, e_pointOf n2 hF rfl hf2, b1_s, e_pointKey n1 hkeys a2, b1_s]
  unfold chd
  generalize (PT P C).getD (kp (FL P C D) f) 0 = a at *
  generalize (PT P C).getD (kp (FL P C D) (it (NX P C D) k f)) 0 = b at *
  rw [e_tkey hp k1, b3_s]
  obtain ⟨ax, ay, az⟩ := t_el hp k1
  obtain ⟨bx, by_, bz⟩ := t_el hp k2
  obtain ⟨c1, c2, c3⟩ := cd_el hp C a b
  have tail : ∀ y1 y2 y3 y4 y5 y6 : Int32, jX8_drawChord_97 (iI P) inv y1 y2 y3 (iI (cdx P C a b)) (iI (cdy P C a b)) (iI (cdz P C a b)) y4 y5 y6 = some (y1, y2, y3, iI (tx P (cdk P C a b)), iI (ty P (cdk P C a b)), iI (tz P (cdk P C a b)), y4, y5, y6) := by
    intro y1 y2 y3 y4 y5 y6
    unfold jX8_drawChord_97
    rw [e_key hp hN c1 c2 c3, b1_s]
    show p_b3 (fX7_takeKey _ _ _ (iI P) (iI (cdk P C a b : Nat))) _ = _
    rw [e_tkey hp (show cdk P C a b ≤ P * P + P from ky_le hp _ _ _), b3_s]
  by_cases h : a = b
  · obtain ⟨q0, q1, q2⟩ := bd_sd hp eC (bd_el hp ax) (bd_el hp ay) (bd_el hp az)
    obtain ⟨s0, s1, s2⟩ := e_side (m := C) (x := tx P a) (y := ty P a) (z := tz P a)
    have ep : fX7_takePolar l1 l2 l3 (iI (C 0)) (iI (C 1)) (iI (C 2)) (iI (C 3)) (iI (C 4)) (iI (C 5)) (iI (tx P a)) (iI (ty P a)) (iI (tz P a)) (iI P) = some (iI (cdx P C a b), iI (cdy P C a b), iI (cdz P C a b)) := by
      unfold fX7_takePolar cdx cdy cdz
      rw [s0, b1_s, s1, b1_s, s2, b1_s, e_ttake hp l1 l2 l3 q0 q1 q2 (by decide), b3_s, if_pos h, if_pos h, if_pos h]
    refine ⟨fun i => ([iI (tx P a), iI (ty P a), iI (tz P a), t1, t2, t3] : List Int32).getD i 0, ?_⟩
    rw [if_pos (by rw [h]), ep, b3_s, tail]
    rfl
  · have m : ∀ x y z w : Int, el P x → el P y → el P z → el P w → bd (x * y - z * w) (198 * 198 + 198 * 198) := fun x y z w e1 e2 e3 e4 => bd_sub (bd_mul (bd_el hp e1) (bd_el hp e2)) (bd_mul (bd_el hp e3) (bd_el hp e4))
    have ej : fX7_takeJoin l1 l2 l3 (iI (tx P a)) (iI (ty P a)) (iI (tz P a)) (iI (tx P b)) (iI (ty P b)) (iI (tz P b)) (iI P) = some (iI (cdx P C a b), iI (cdy P C a b), iI (cdz P C a b)) := by
      unfold fX7_takeJoin cdx cdy cdz
      simp only [iI_mul, iI_sub]
      rw [e_ttake hp l1 l2 l3 (m _ _ _ _ ay bz az by_) (m _ _ _ _ az bx ax bz) (m _ _ _ _ ax by_ ay bx) (by decide), b3_s, if_neg h, if_neg h, if_neg h]
    refine ⟨fun i => ([iI (tx P a), iI (ty P a), iI (tz P a), iI (tx P b), iI (ty P b), iI (tz P b)] : List Int32).getD i 0, ?_⟩
    rw [if_neg (by rw [neq (by omega) (by omega)]; exact h), e_tkey hp k2, b3_s, ej, b3_s, tail]
    rfl
set_option maxHeartbeats 400000 in
theorem e_draw9 {P : Nat} (hp : z_pr P = true) {C D : Nat → Int} (eC : elF P C) (hg : gdp P (cu P C D)) {gv X Y Z U V W Q : Nat → Int32} (gC : rowF gv 0 C) (hX : hold X ((PT P C).map (tx P))) (hY : hold Y ((PT P C).map (ty P))) (hZ : hold Z ((PT P C).map (tz P))) (hT : holdT P U V W Q (FL P C D)) {f k : Nat} (hf : f < (FL P C D).length) (f1 f2 f3 : Int32) :
    fX9_chordOf f1 f2 f3 (iI P) Q gv X Y Z (iI (f : Nat)) (iI (it (NX P C D) k f : Nat)) = some (iI (tx P (chd P C D f k)), iI (ty P (chd P C D f k)), iI (tz P (chd P C D f k))) := by
  obtain ⟨hC, hD, n1, n2, ok, hs, -⟩ := gd_f hp eC hg
  have hf2 := it_lt hs hf k
  have a1 := (fl_pt hf).1
  have a2 := (fl_pt hf2).1
  have a1 : kp (FL P C D) f < (PT P C).length := a1
  have a2 : kp (FL P C D) (it (NX P C D) k f) < (PT P C).length := a2
  have k1 := ((ok.2 _).mp (getD_mem a1)).1
  have k2 := ((ok.2 _).mp (getD_mem a2)).1
  have u1 := (holdT_at hT hf).2.2.2
  have u2 := (holdT_at hT hf2).2.2.2
  have x1 := hold_map hX 0 a1
  have y1 := hold_map hY 0 a1
  have z1 := hold_map hZ 0 a1
  have x2 := hold_map hX 0 a2
  have y2 := hold_map hY 0 a2
  have z2 := hold_map hZ 0 a2
  unfold fX9_chordOf
  rw [nld (by omega) (by omega), b1_s, nld (by omega) (by omega), b1_s, u1, u2]
  have hkk : kp (FL P C D) f = kp (FL P C D) (it (NX P C D) k f) ↔ (PT P C).getD (kp (FL P C D) f) 0 = (PT P C).getD (kp (FL P C D) (it (NX P C D) k f)) 0 := ⟨fun e => by rw [e], fun e => pts_inj ok.1 a1 a2 e⟩
  unfold chd
  generalize kp (FL P C D) f = i at *
  generalize kp (FL P C D) (it (NX P C D) k f) = j at *
  rw [nld (by omega) (by omega), b1_s, nld (by omega) (by omega), b1_s, nld (by omega) (by omega), b1_s, b1_s, b1_s, b1_s, x1, y1, z1]
  generalize (PT P C).getD i 0 = a at *
  generalize hbb : (PT P C).getD j 0 = b at *
  obtain ⟨ax, ay, az⟩ := t_el hp k1
  obtain ⟨bx, by_, bz⟩ := t_el hp k2
  obtain ⟨c1, c2, c3⟩ := cd_el hp C a b
  have ne := cd_ne hp hC k1 k2
  have ef := e_form9 hp f1 f2 f3 c1 c2 c3 ne
  have ef : fX9_form f1 f2 f3 (iI P) (iI (cdx P C a b)) (iI (cdy P C a b)) (iI (cdz P C a b)) = some (iI (tx P (cdk P C a b)), iI (ty P (cdk P C a b)), iI (tz P (cdk P C a b))) := ef
  by_cases h : i = j
  · have hab : a = b := hkk.mp h
    have L : ∀ n : Nat, n < 6 → p_ld gv 12 (iI (n : Nat)) = some (iI (C n)) := fun n hn => by
      have := gC n hn
      rw [Nat.zero_add] at this
      rw [nld (by omega) (by omega), this]
    have L0 : p_ld gv 12 0 = some (iI (C 0)) := L 0 (by omega)
    have L1 : p_ld gv 12 1 = some (iI (C 1)) := L 1 (by omega)
    have L2 : p_ld gv 12 2 = some (iI (C 2)) := L 2 (by omega)
    have L3 : p_ld gv 12 3 = some (iI (C 3)) := L 3 (by omega)
    have L4 : p_ld gv 12 4 = some (iI (C 4)) := L 4 (by omega)
    have L5 : p_ld gv 12 5 = some (iI (C 5)) := L 5 (by omega)
    obtain ⟨q0, q1, q2⟩ := bd_sd hp eC (bd_el hp ax) (bd_el hp ay) (bd_el hp az)
    have o0 : fX9_of (iI P) (iI (C 0) * iI (tx P a) + iI (C 5) * iI (ty P a) + iI (C 4) * iI (tz P a)) = some (iI (cdx P C a b)) := by
      rw [iI_mul, iI_mul, iI_mul, iI_add, iI_add]
      unfold cdx
      rw [if_pos hab]
      exact e_ob hp q0 (by decide)
    have o1 : fX9_of (iI P) (iI (C 5) * iI (tx P a) + iI (C 1) * iI (ty P a) + iI (C 3) * iI (tz P a)) = some (iI (cdy P C a b)) := by
      rw [iI_mul, iI_mul, iI_mul, iI_add, iI_add]
      unfold cdy
      rw [if_pos hab]
      exact e_ob hp q1 (by decide)
    have o2 : fX9_of (iI P) (iI (C 4) * iI (tx P a) + iI (C 3) * iI (ty P a) + iI (C 2) * iI (tz P a)) = some (iI (cdz P C a b)) := by
      rw [iI_mul, iI_mul, iI_mul, iI_add, iI_add]
      unfold cdz
      rw [if_pos hab]
      exact e_ob hp q2 (by decide)
    rw [if_pos (by rw [h]), L0, b1_s, L5, b1_s, L4, b1_s, o0, b1_s, b1_s, L1, b1_s, L3, b1_s, o1, b1_s, b1_s, b1_s, L2, b1_s, o2, b1_s, ef, b3_s]
  · have hab : a ≠ b := fun e => h (hkk.mpr e)
    have m : ∀ x y z w : Int, el P x → el P y → el P z → el P w → bd (x * y - z * w) (198 * 198 + 198 * 198) := fun x y z w e1 e2 e3 e4 => bd_sub (bd_mul (bd_el hp e1) (bd_el hp e2)) (bd_mul (bd_el hp e3) (bd_el hp e4))
    have ex : fX9_cross f1 f2 f3 (iI P) (iI (tx P a)) (iI (ty P a)) (iI (tz P a)) (iI (tx P b)) (iI (ty P b)) (iI (tz P b)) = some (iI (tx P (cdk P C a b)), iI (ty P (cdk P C a b)), iI (tz P (cdk P C a b))) := by
      unfold fX9_cross
      simp only [iI_mul, iI_sub]
      rw [e_ob hp (m _ _ _ _ ay bz az by_) (by decide), b1_s, e_ob hp (m _ _ _ _ az bx ax bz) (by decide), b1_s, e_ob hp (m _ _ _ _ ax by_ ay bx) (by decide), b1_s]
      unfold cdx cdy cdz at ef
      rw [if_neg hab, if_neg hab, if_neg hab] at ef
      rw [ef, b3_s]
    rw [if_neg (by rw [neq (by omega) (by omega)]; exact h), nld (by omega) (by omega), b1_s, nld (by omega) (by omega), b1_s, nld (by omega) (by omega), b1_s, x2, y2, z2, ex, b3_s]
theorem e_mtouch {P : Nat} (hp : z_pr P = true) {C D : Nat → Int} (eC : elF P C) (eD : elF P D) {s t : Int} (hs : el P s) (ht : el P t) (m0 m1 m2 m3 m4 m5 m6 m7 m8 m9 m10 m11 : Int32) : fX8_mixTouching (iI P) (iI (D 0)) (iI (D 1)) (iI (D 2)) (iI (D 3)) (iI (D 4)) (iI (D 5)) m0 m1 m2 m3 m4 m5 m6 m7 m8 m9 m10 m11 (iI (C 0)) (iI (C 1)) (iI (C 2)) (iI (C 3)) (iI (C 4)) (iI (C 5)) (iI s) (iI t) = some (iI (mx P s C t D 0), iI (mx P s C t D 1), iI (mx P s C t D 2), iI (mx P s C t D 3), iI (mx P s C t D 4), iI (mx P s C t D 5), iI (cof P (mx P s C t D) 0), iI (cof P (mx P s C t D) 1), iI (cof P (mx P s C t D) 2), iI (cof P (mx P s C t D) 3), iI (cof P (mx P s C t D) 4), iI (cof P (mx P s C t D) 5)) := by
  unfold fX8_mixTouching
  rw [e_mix hp _ _ _ _ _ _ eC eD hs ht, b6_s, e_cof hp _ _ _ _ _ _ (mx_el hp s C t D), b6_s]
/-- the form for a multiple -/
def sks (q : Option (Int × Int)) : Int := match q with
  | none => 1
  | some z => z.1
def skt (q : Option (Int × Int)) : Int := match q with
  | none => 0
  | some _ => 1
theorem sk_el {P : Nat} (hp : z_pr P = true) {c : Nat → Int} (h3 : bf P c 3 ≠ 0) (k : Nat) : el P (sks (mlt P c k)) ∧ el P (skt (mlt P c k)) := by
  have := nz_of hp
  have hb := pr_rng hp
  cases e : mlt P c k with
  | none => exact ⟨⟨by show (0 : Int) ≤ 1; omega, by show (1 : Int) < P; omega⟩, ⟨by show (0 : Int) ≤ 0; omega, by show (0 : Int) < P; omega⟩⟩
  | some z => exact ⟨(mlt_ok hp h3 k z.1 z.2 e).1, ⟨by show (0 : Int) ≤ 1; omega, by show (1 : Int) < P; omega⟩⟩
theorem e_mskip {P : Nat} (hp : z_pr P = true) {C D : Nat → Int} (eC : elF P C) (eD : elF P D) (hg : gdp P (cu P C D)) {N : Nat} (hO : isOrd P (cu P C D) N) {acr ups : Nat → Int32} (hM : MulOK P (cu P C D) N acr ups) {k : Nat} (hk : k ≤ 1000) (m0 m1 m2 m3 m4 m5 m6 m7 m8 m9 m10 m11 : Int32) : fX8_mixSkip (iI P) (iI (N : Nat)) acr (iI (D 0)) (iI (D 1)) (iI (D 2)) (iI (D 3)) (iI (D 4)) (iI (D 5)) m0 m1 m2 m3 m4 m5 m6 m7 m8 m9 m10 m11 (iI (C 0)) (iI (C 1)) (iI (C 2)) (iI (C 3)) (iI (C 4)) (iI (C 5)) (iI (k : Nat)) = some (iI (mx P (sks (mlt P (cu P C D) k)) C (skt (mlt P (cu P C D) k)) D 0), iI (mx P (sks (mlt P (cu P C D) k)) C (skt (mlt P (cu P C D) k)) D 1), iI (mx P (sks (mlt P (cu P C D) k)) C (skt (mlt P (cu P C D) k)) D 2), iI (mx P (sks (mlt P (cu P C D) k)) C (skt (mlt P (cu P C D) k)) D 3), iI (mx P (sks (mlt P (cu P C D) k)) C (skt (mlt P (cu P C D) k)) D 4), iI (mx P (sks (mlt P (cu P C D) k)) C (skt (mlt P (cu P C D) k)) D 5), iI (cof P (mx P (sks (mlt P (cu P C D) k)) C (skt (mlt P (cu P C D) k)) D) 0), iI (cof P (mx P (sks (mlt P (cu P C D) k)) C (skt (mlt P (cu P C D) k)) D) 1), iI (cof P (mx P (sks (mlt P (cu P C D) k)) C (skt (mlt P (cu P C D) k)) D) 2), iI (cof P (mx P (sks (mlt P (cu P C D) k)) C (skt (mlt P (cu P C D) k)) D) 3), iI (cof P (mx P (sks (mlt P (cu P C D) k)) C (skt (mlt P (cu P C D) k)) D) 4), iI (cof P (mx P (sks (mlt P (cu P C D) k)) C (skt (mlt P (cu P C D) k)) D) 5)) := by
  have := nz_of hp
  have hb := pr_rng hp
  have h3 := bf3_ne hp (cu_el hp C D) hg.1 hg.2.1
  have hE := sk_el hp h3 k
  unfold fX8_mixSkip
  rw [(e_across hO hM (show k ≤ 100000 by omega)).1, b1_s]
  cases e : mlt P (cu P C D) k with
  | none =>
    rw [e] at hE
    have e1 := e_mtouch hp eC eD hE.1 hE.2 m0 m1 m2 m3 m4 m5 m6 m7 m8 m9 m10 m11
    show (if iI (-6) = -6 then _ else _) = _
    rw [if_pos (show iI (-6) = -6 from rfl)]
    have e1 : fX8_mixTouching (iI P) (iI (D 0)) (iI (D 1)) (iI (D 2)) (iI (D 3)) (iI (D 4)) (iI (D 5)) m0 m1 m2 m3 m4 m5 m6 m7 m8 m9 m10 m11 (iI (C 0)) (iI (C 1)) (iI (C 2)) (iI (C 3)) (iI (C 4)) (iI (C 5)) 1 0 = _ := e1
    rw [e1, b12_s]
  | some z =>
    rw [e] at hE
    have e1 := e_mtouch hp eC eD hE.1 hE.2 m0 m1 m2 m3 m4 m5 m6 m7 m8 m9 m10 m11
    have hz := hE.1
    have hz : el P z.1 := hz
    show (if iI z.1 = -6 then _ else _) = _
    rw [if_neg (by rw [show (-6 : Int32) = iI (-6) from rfl, iI_eq (el_32 hp hz).1 (el_32 hp hz).2 (by omega) (by omega)]; have := hz.1; omega)]
    have e1 : fX8_mixTouching (iI P) (iI (D 0)) (iI (D 1)) (iI (D 2)) (iI (D 3)) (iI (D 4)) (iI (D 5)) m0 m1 m2 m3 m4 m5 m6 m7 m8 m9 m10 m11 (iI (C 0)) (iI (C 1)) (iI (C 2)) (iI (C 3)) (iI (C 4)) (iI (C 5)) (iI z.1) 1 = _ := e1
    show p_b12 (fX8_mixTouching (iI P) (iI (D 0)) (iI (D 1)) (iI (D 2)) (iI (D 3)) (iI (D 4)) (iI (D 5)) m0 m1 m2 m3 m4 m5 m6 m7 m8 m9 m10 m11 (iI (C 0)) (iI (C 1)) (iI (C 2)) (iI (C 3)) (iI (C 4)) (iI (C 5)) (iI z.1) 1) _ = _
    rw [e1, b12_s]
/-- how many chords touch -/
def cta (P : Nat) (C D : Nat → Int) (k : Nat) (s t : Int) : Nat → Nat
  | 0 => 0
  | f + 1 => cta P C D k s t f + if qf P (cof P (mx P s C t D)) (tx P (chd P C D f k)) (ty P (chd P C D f k)) (tz P (chd P C D f k)) = 0 then 1 else 0
theorem cta_le (P : Nat) (C D : Nat → Int) (k : Nat) (s t : Int) (f : Nat) : cta P C D k s t f ≤ f := by
  induction f with
  | zero => exact Nat.le_refl _
  | succ f ih =>
    show cta P C D k s t f + _ ≤ _
    split <;> omega
set_option maxHeartbeats 1000000 in
theorem e_all8 {P : Nat} (hp : z_pr P = true) {inv roots : Nat → Int32} (hN : NumOK P inv roots) {C D : Nat → Int} (eC : elF P C) (hg : gdp P (cu P C D)) {befores first lines points nexts places keys sizes starts walk : Nat → Int32} (hW : WalksOK P C D (iI ((FL P C D).length : Nat)) (iI ((PT P C).length : Nat)) (iI (((List.range (FL P C D).length).filter (lst (NX P C D) (FL P C D).length)).length : Nat)) befores first lines points nexts places keys sizes starts walk) {k : Nat} (hk : k ≤ 1000) (s t : Int) (kk : Int32 → Int32 → Int32 → Int32 → Int32 → Int32 → Int32 → Int32 → Int32 → Int32 → Option (Int32 × Int32 × Int32 × Int32 × Int32 × Int32 × Int32 × Int32 × Int32 × Int32 × Int32 × Int32 × Int32 × Int32 × Int32 × Int32 × Int32 × Int32 × Int32 × Int32 × Int32 × Int32 × Int32 × Int32 × Int32 × Int32 × (Nat → Int32) × (Nat → Int32) × (Nat → Int32) × (Nat → Int32) × Int32 × Int32 × Int32 × Int32 × Int32 × Int32 × Int32 × Int32 × Int32 × Int32 × Int32 × Int32 × Int32 × Int32 × Int32 × (Nat → Int32) × (Nat → Int32) × (Nat → Int32) × (Nat → Int32) × (Nat → Int32) × (Nat → Int32))) (s0 : Nat → Int32) :
    ∃ s' : Nat → Int32, gX8_all_62 (iI P) inv (iI (C 0)) (iI (C 1)) (iI (C 2)) (iI (C 3)) (iI (C 4)) (iI (C 5)) (iI (k : Nat)) (iI ((FL P C D).length : Nat)) (iI ((PT P C).length : Nat)) points places keys sizes starts walk (iI (cof P (mx P s C t D) 0)) (iI (cof P (mx P s C t D) 1)) (iI (cof P (mx P s C t D) 2)) (iI (cof P (mx P s C t D) 3)) (iI (cof P (mx P s C t D) 4)) (iI (cof P (mx P s C t D) 5)) kk p_FU 0 0 (s0 0) (s0 1) (s0 2) (s0 3) (s0 4) (s0 5) (s0 6) (s0 7) (s0 8) = kk (iI (cta P C D k s t (FL P C D).length : Nat)) (s' 0) (s' 1) (s' 2) (s' 3) (s' 4) (s' 5) (s' 6) (s' 7) (s' 8) := by
  have l2 := (gd_f hp eC hg).2.2.2.1
  refine fn (fun n x (b : Nat → Int32) => gX8_all_62 (iI P) inv (iI (C 0)) (iI (C 1)) (iI (C 2)) (iI (C 3)) (iI (C 4)) (iI (C 5)) (iI (k : Nat)) (iI ((FL P C D).length : Nat)) (iI ((PT P C).length : Nat)) points places keys sizes starts walk (iI (cof P (mx P s C t D) 0)) (iI (cof P (mx P s C t D) 1)) (iI (cof P (mx P s C t D) 2)) (iI (cof P (mx P s C t D) 3)) (iI (cof P (mx P s C t D) 4)) (iI (cof P (mx P s C t D) 5)) kk n (iI (cta P C D k s t x : Nat)) (iI (x : Nat)) (b 0) (b 1) (b 2) (b 3) (b 4) (b 5) (b 6) (b 7) (b 8)) (FL P C D).length (fun _ _ => True) (fun o => ∃ s' : Nat → Int32, o = kk (iI (cta P C D k s t (FL P C D).length : Nat)) (s' 0) (s' 1) (s' 2) (s' 3) (s' 4) (s' 5) (s' 6) (s' 7) (s' 8)) ?_ ?_ p_FU 0 s0 (by omega) trivial (by have := FU_big; omega)
  · intro n b _
    refine ⟨b, ?_⟩
    show FgX8_all_62 (iI P) inv (iI (C 0)) (iI (C 1)) (iI (C 2)) (iI (C 3)) (iI (C 4)) (iI (C 5)) (iI (k : Nat)) (iI ((FL P C D).length : Nat)) (iI ((PT P C).length : Nat)) points places keys sizes starts walk (iI (cof P (mx P s C t D) 0)) (iI (cof P (mx P s C t D) 1)) (iI (cof P (mx P s C t D) 2)) (iI (cof P (mx P s C t D) 3)) (iI (cof P (mx P s C t D) 4)) (iI (cof P (mx P s C t D) 5)) (gX8_all_62 (iI P) inv (iI (C 0)) (iI (C 1)) (iI (C 2)) (iI (C 3)) (iI (C 4)) (iI (C 5)) (iI (k : Nat)) (iI ((FL P C D).length : Nat)) (iI ((PT P C).length : Nat)) points places keys sizes starts walk (iI (cof P (mx P s C t D) 0)) (iI (cof P (mx P s C t D) 1)) (iI (cof P (mx P s C t D) 2)) (iI (cof P (mx P s C t D) 3)) (iI (cof P (mx P s C t D) 4)) (iI (cof P (mx P s C t D) 5)) kk n) kk (iI (cta P C D k s t (FL P C D).length : Nat)) (iI ((FL P C D).length : Nat)) (b 0) (b 1) (b 2) (b 3) (b 4) (b 5) (b 6) (b 7) (b 8) = _
    unfold FgX8_all_62 fX5_countFlags
    rw [b1_s, if_pos (Int32.le_refl _)]
  · intro n x b hx _
    obtain ⟨q, hq⟩ := e_draw hp hN eC hg hW hx hk (b 0) (b 1) (b 2) (b 3) (b 4) (b 5) (b 6) (b 7) (b 8)
    obtain ⟨ex, ey, ez⟩ := t_el hp (chd_le hp C D x k)
    have ea := e_at hp (cof_el hp (mx P s C t D)) ex ey ez
    refine ⟨fun i => ([q 0, q 1, q 2, iI (tx P (chd P C D x k)), iI (ty P (chd P C D x k)), iI (tz P (chd P C D x k)), q 3, q 4, q 5] : List Int32).getD i 0, trivial, ?_⟩
    show FgX8_all_62 (iI P) inv (iI (C 0)) (iI (C 1)) (iI (C 2)) (iI (C 3)) (iI (C 4)) (iI (C 5)) (iI (k : Nat)) (iI ((FL P C D).length : Nat)) (iI ((PT P C).length : Nat)) points places keys sizes starts walk (iI (cof P (mx P s C t D) 0)) (iI (cof P (mx P s C t D) 1)) (iI (cof P (mx P s C t D) 2)) (iI (cof P (mx P s C t D) 3)) (iI (cof P (mx P s C t D) 4)) (iI (cof P (mx P s C t D) 5)) (gX8_all_62 (iI P) inv (iI (C 0)) (iI (C 1)) (iI (C 2)) (iI (C 3)) (iI (C 4)) (iI (C 5)) (iI (k : Nat)) (iI ((FL P C D).length : Nat)) (iI ((PT P C).length : Nat)) points places keys sizes starts walk (iI (cof P (mx P s C t D) 0)) (iI (cof P (mx P s C t D) 1)) (iI (cof P (mx P s C t D) 2)) (iI (cof P (mx P s C t D) 3)) (iI (cof P (mx P s C t D) 4)) (iI (cof P (mx P s C t D) 5)) kk n) kk (iI (cta P C D k s t x : Nat)) (iI (x : Nat)) (b 0) (b 1) (b 2) (b 3) (b 4) (b 5) (b 6) (b 7) (b 8) = _
    unfold FgX8_all_62 fX5_countFlags jX8_all_98
    rw [b1_s, if_neg (by rw [nle (by omega) (by omega)]; omega), hq, b9_s, ea, b1_s]
    by_cases z : qf P (cof P (mx P s C t D)) (tx P (chd P C D x k)) (ty P (chd P C D x k)) (tz P (chd P C D x k)) = 0
    · rw [if_pos ((el_0 hp (show el P (qf P (cof P (mx P s C t D)) (tx P (chd P C D x k)) (ty P (chd P C D x k)) (tz P (chd P C D x k))) from el_mod hp _)).mpr z), nm_s, nm_s, n1, n1]
      have : cta P C D k s t (x + 1) = cta P C D k s t x + 1 := by
        show cta P C D k s t x + _ = _
        rw [if_pos z]
      rw [this]
      rfl
    · rw [if_neg (fun e => z ((el_0 hp (show el P (qf P (cof P (mx P s C t D)) (tx P (chd P C D x k)) (ty P (chd P C D x k)) (tz P (chd P C D x k))) from el_mod hp _)).mp e)), nm_s, n1]
      have : cta P C D k s t (x + 1) = cta P C D k s t x := by
        show cta P C D k s t x + _ = _
        rw [if_neg z, Nat.add_zero]
      rw [this]
      rfl
set_option maxHeartbeats 1000000 in
theorem e_all9 {P : Nat} (hp : z_pr P = true) {C D : Nat → Int} (eC : elF P C) (eD : elF P D) (hg : gdp P (cu P C D)) {gv X Y Z U V W Q next : Nat → Int32} (gC : rowF gv 0 C) (gD : rowF gv 6 D) (hX : hold X ((PT P C).map (tx P))) (hY : hold Y ((PT P C).map (ty P))) (hZ : hold Z ((PT P C).map (tz P))) (hT : holdT P U V W Q (FL P C D)) (hn : ∀ f, f < (FL P C D).length → next f = iI (NX P C D f : Nat)) {k : Nat} (hk : k ≤ 1000) {s t : Int} (hs : el P s) (ht : el P t) (kk : Int32 → Int32 → Int32 → Int32 → (Nat → Int32) → (Nat → Int32) → Option (Int32 × Int32 × Int32 × Int32 × Int32 × Int32 × Int32 × Int32 × (Nat → Int32) × (Nat → Int32) × (Nat → Int32) × (Nat → Int32) × (Nat → Int32) × (Nat → Int32) × (Nat → Int32) × (Nat → Int32) × (Nat → Int32) × (Nat → Int32) × (Nat → Int32) × (Nat → Int32) × (Nat → Int32))) (f1 f2 f3 : Int32) (kf q : Nat → Int32) :
    ∃ (g1 g2 g3 : Int32) (kf' q' : Nat → Int32), gX9_all_54 (iI P) gv (iI (k : Nat)) (iI s) (iI t) (iI ((FL P C D).length : Nat)) Q next X Y Z kk p_FU 0 0 f1 f2 f3 kf q = kk (iI (cta P C D k s t (FL P C D).length : Nat)) g1 g2 g3 kf' q' := by
  obtain ⟨-, -, -, l2, -, hper, -⟩ := gd_f hp eC hg
  refine fn (fun n x (b : (Int32 × Int32 × Int32) × (Nat → Int32) × (Nat → Int32)) => gX9_all_54 (iI P) gv (iI (k : Nat)) (iI s) (iI t) (iI ((FL P C D).length : Nat)) Q next X Y Z kk n (iI (cta P C D k s t x : Nat)) (iI (x : Nat)) b.1.1 b.1.2.1 b.1.2.2 b.2.1 b.2.2) (FL P C D).length (fun _ _ => True) (fun o => ∃ (g1 g2 g3 : Int32) (kf' q' : Nat → Int32), o = kk (iI (cta P C D k s t (FL P C D).length : Nat)) g1 g2 g3 kf' q') ?_ ?_ p_FU 0 ((f1, f2, f3), kf, q) (by omega) trivial (by have := FU_big; omega)
  · intro n b _
    refine ⟨b.1.1, b.1.2.1, b.1.2.2, b.2.1, b.2.2, ?_⟩
    show FgX9_all_54 (iI P) gv (iI (k : Nat)) (iI s) (iI t) (iI ((FL P C D).length : Nat)) Q next X Y Z (gX9_all_54 (iI P) gv (iI (k : Nat)) (iI s) (iI t) (iI ((FL P C D).length : Nat)) Q next X Y Z kk n) kk (iI (cta P C D k s t (FL P C D).length : Nat)) (iI ((FL P C D).length : Nat)) b.1.1 b.1.2.1 b.1.2.2 b.2.1 b.2.2 = _
    unfold FgX9_all_54
    rw [if_pos (Int32.le_refl _)]
  · intro n x b hx _
    have e1 := e_onFrom9 l2 hper hn hx (show k ≤ 100000 by omega)
    have e2 := e_draw9 hp eC hg gC hX hY hZ hT (k := k) hx b.1.1 b.1.2.1 b.1.2.2
    obtain ⟨ex, ey, ez⟩ := t_el hp (chd_le hp C D x k)
    obtain ⟨kf', q', -, -, e3⟩ := e_touch9 hp (k := b.2.1) (q := b.2.2) gC gD eC eD hs ht ex ey ez
    refine ⟨((iI (tx P (chd P C D x k)), iI (ty P (chd P C D x k)), iI (tz P (chd P C D x k))), kf', q'), trivial, ?_⟩
    show FgX9_all_54 (iI P) gv (iI (k : Nat)) (iI s) (iI t) (iI ((FL P C D).length : Nat)) Q next X Y Z (gX9_all_54 (iI P) gv (iI (k : Nat)) (iI s) (iI t) (iI ((FL P C D).length : Nat)) Q next X Y Z kk n) kk (iI (cta P C D k s t x : Nat)) (iI (x : Nat)) b.1.1 b.1.2.1 b.1.2.2 b.2.1 b.2.2 = _
    unfold FgX9_all_54 jX9_all_104
    rw [if_neg (by rw [nle (by omega) (by omega)]; omega), e1, b1_s, e2, b3_s, e3, b3_s]
    by_cases z : qf P (cof P (mx P s C t D)) (tx P (chd P C D x k)) (ty P (chd P C D x k)) (tz P (chd P C D x k)) = 0
    · rw [if_pos ((el_0 hp (show el P (qf P (cof P (mx P s C t D)) (tx P (chd P C D x k)) (ty P (chd P C D x k)) (tz P (chd P C D x k))) from el_mod hp _)).mpr z), nm_s, nm_s, n1, n1]
      have : cta P C D k s t (x + 1) = cta P C D k s t x + 1 := by
        show cta P C D k s t x + _ = _
        rw [if_pos z]
      rw [this]
    · rw [if_neg (fun e => z ((el_0 hp (show el P (qf P (cof P (mx P s C t D)) (tx P (chd P C D x k)) (ty P (chd P C D x k)) (tz P (chd P C D x k))) from el_mod hp _)).mp e)), nm_s, nm_s, n1, show (0 : Int32) = iI ((0 : Nat) : Int) from rfl, nadd]
      have : cta P C D k s t (x + 1) = cta P C D k s t x + 0 := by
        show cta P C D k s t x + _ = _
        rw [if_neg z]
      rw [this]
