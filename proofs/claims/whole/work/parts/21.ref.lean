def fX9_in (i1 : Int32) (i2 : Int32) (i3 : Int32) : Option (Int32) :=
  if i1 < i2 then (some 0) else (if i3 < i1 then (some 0) else (some 1))
def rmX9_in : Room := { frames := 0, cells := 0, slots := 0, locals := 0 }
set_option maxHeartbeats 4000000 in
set_option maxRecDepth 100000 in
theorem tX9_in (l : Launch) (D : va_G) (cI : ClassId) (i1 : Int32) (i2 : Int32) (i3 : Int32) (r : Int32) (hf : fX9_in i1 i2 i3 = some r) : x_CI l D cI yX9_in wsX9_in rmX9_in [.int i1, .int i2, .int i3] [] [] r := by
  refine x_CI_of (cc := cX9_in) (maxL := 3) (ty := .boolean) (own := RX9) (lv0 := [(0, .int i1), (1, .int i2), (2, .int i3)]) (by decide) rfl rfl (Nat.le_of_ble_eq_true rfl) rfl ?_
  intro p e s m args below meth c A Q ls hx hb hml hown hts hN hK hP hD hS hA hl hret
  unfold fX9_in at hf
  refine lv_iload_n hx hb dX9_in_0 rfl (lv_at hl 0 rfl) ?_
  refine lv_iload_n hx hb dX9_in_1 rfl (lv_at hl 1 rfl) ?_
  refine lv_icmp_lt (tgt := 14) hx hb dX9_in_2 (by decide) (fun hc => ?_) (fun hc => ?_)
  · have hf := o_t hf hc
    refine lv_iconst (v := 0) hx hb dX9_in_14 (by decide) ?_
    obtain rfl := Option.some.inj hf
    exact hret rfl (by decide) dX9_in_15 hP hD hS
  · have hf := o_f hf hc
    refine lv_iload_n hx hb dX9_in_5 rfl (lv_at hl 0 rfl) ?_
    refine lv_iload_n hx hb dX9_in_6 rfl (lv_at hl 2 rfl) ?_
    refine lv_icmp_gt (tgt := 14) hx hb dX9_in_7 (by decide) (fun hc => ?_) (fun hc => ?_)
    · have hf := o_t hf hc
      refine lv_iconst (v := 0) hx hb dX9_in_14 (by decide) ?_
      obtain rfl := Option.some.inj hf
      exact hret rfl (by decide) dX9_in_15 hP hD hS
    · have hf := o_f hf hc
      refine lv_iconst (v := 1) hx hb dX9_in_10 (by decide) ?_
      refine lv_goto (tgt := 15) hx hb dX9_in_11 (by decide) ?_
      obtain rfl := Option.some.inj hf
      exact hret rfl (by decide) dX9_in_15 hP hD hS
noncomputable def fX9_isNumber (t_p : Int32) (i1 : Int32) : Option (Int32) :=
  p_b1 (fX9_in i1 0 (t_p - 1)) (fun v1 =>
p_b1 (p_bz v1) (fun v2 =>
some v2))
def rmX9_isNumber : Room := { frames := 1, cells := 0, slots := 0, locals := 22 }
set_option maxHeartbeats 4000000 in
set_option maxRecDepth 100000 in
theorem tX9_isNumber (l : Launch) (D : va_G) (cI : ClassId) (a_t : Nat) (a_t_given : Nat) (a_t_c : Nat) (a_t_pointX : Nat) (a_t_pointY : Nat) (a_t_pointZ : Nat) (a_t_pointFlags : Nat) (a_t_flagPoint : Nat) (a_t_flagU : Nat) (a_t_flagV : Nat) (a_t_flagW : Nat) (a_t_next : Nat) (a_t_series : Nat) (a_t_mix : Nat) (a_t_cofactor : Nat) (a_t_square : Nat) (t_p : Int32) (t_isLaid : Int32) (t_isGood : Int32) (t_points : Int32) (t_flags : Int32) (t_formX : Int32) (t_formY : Int32) (t_formZ : Int32) (t_isNought : Int32) (t_sumT : Int32) (t_sumY : Int32) (i1 : Int32) (r : Int32) (hf : fX9_isNumber t_p i1 = some r) : x_CI l D cI yX9_isNumber wsX9_isNumber rmX9_isNumber [.ref a_t, .int i1] [x_o9 a_t t_p a_t_given t_isLaid t_isGood a_t_c t_points a_t_pointX a_t_pointY a_t_pointZ a_t_pointFlags t_flags a_t_flagPoint a_t_flagU a_t_flagV a_t_flagW a_t_next a_t_series a_t_mix a_t_cofactor t_formX t_formY t_formZ a_t_square t_isNought t_sumT t_sumY] [x_o9 a_t t_p a_t_given t_isLaid t_isGood a_t_c t_points a_t_pointX a_t_pointY a_t_pointZ a_t_pointFlags t_flags a_t_flagPoint a_t_flagU a_t_flagV a_t_flagW a_t_next a_t_series a_t_mix a_t_cofactor t_formX t_formY t_formZ a_t_square t_isNought t_sumT t_sumY] r := by
  refine x_CI_of (cc := cX9_isNumber) (maxL := 2) (ty := .boolean) (own := RX9) (lv0 := [(0, .ref a_t), (1, .int i1)]) (by decide) rfl rfl (Nat.le_of_ble_eq_true rfl) rfl ?_
  intro p e s m args below meth c A Q ls hx hb hml hown hts hN hK hP hD hS hA hl hret
  have iX9 : ∀ w ∈ u_ws RX9 TX9 26, w ∈ wsX9_isNumber := by decide +kernel
  have l7 := hts (.fieldLink RX9 7 "ChordRingsModel" "p" "I") (by decide +kernel)
  unfold fX9_isNumber at hf
  refine lv_iload_n hx hb dX9_isNumber_0 rfl (lv_at hl 1 rfl) ?_
  refine lv_iconst (v := 0) hx hb dX9_isNumber_1 (by decide) ?_
  refine lv_aload_n hx hb dX9_isNumber_2 rfl (lv_at hl 0 rfl) ?_
  refine va_get (D := D) (ci := 9) (C := RX9) (T := TX9) (N := 26) hx hb hts iX9 hown hK hP 0 rfl rfl 0 (by decide) l7 (fun _ h9 => h9) rfl dX9_isNumber_3 ?_
  refine lv_iconst (v := 1) hx hb dX9_isNumber_6 (by decide) ?_
  refine lv_isub hx hb dX9_isNumber_7 ?_
  obtain ⟨v1, hv1, hf⟩ := o_b1 hf
  refine x_si (rest := []) ⟨hx, hb, hml, hown, hts⟩ (tX9_in l D cI i1 0 (t_p - 1) v1 hv1) (va_cwS 3 hts gX9_isNumber_X9_in rfl rfl rfl (by decide +kernel) ⟨Nat.le_of_ble_eq_true rfl, Nat.le_of_ble_eq_true rfl⟩) hN hK hP hD hS hA rfl hl.1 rfl (Nat.le_of_ble_eq_true rfl) dX9_isNumber_8 ⟨Nat.zero_le _, Nat.zero_le _⟩ (fun H locs hP hD hS => ?_)
  obtain ⟨v2, hv2, hf⟩ := o_b1 hf
  obtain ⟨ev2, hnv2, -⟩ := o_bz hv2
  refine x_top ev2.symm ?_
  rw [ev2] at hnv2
  obtain rfl := Option.some.inj hf
  exact hret rfl hnv2 dX9_isNumber_11 hP hD hS
noncomputable def kX9_begin_50 (w3 : (Nat → Int32)) : Option (Int32 × (Nat → Int32)) :=
  some (0, w3)
noncomputable def jX9_begin_43 (x1 : Int32) (z2 : (Nat → Int32)) (rec2 : Int32 → (Nat → Int32) → Option (Int32 × (Nat → Int32))) (y5 : Int32) : Option (Int32 × (Nat → Int32)) :=
  p_b1 (p_st z2 12 x1 y5) (fun u6 =>
p_nm (x1 + 1) (fun v7 =>
rec2 v7 u6))
noncomputable def FgX9_begin_2 (t_p : Int32) (rec2 : Int32 → (Nat → Int32) → Option (Int32 × (Nat → Int32))) (kk2 : (Nat → Int32) → Option (Int32 × (Nat → Int32))) (x1 : Int32) (z2 : (Nat → Int32)) : Option (Int32 × (Nat → Int32)) :=
  if 12 ≤ x1 then (kk2 z2) else (p_b1 (p_rm x1 6) (fun v4 =>
if 2 ≤ v4 then (p_b1 (p_rm x1 6) (fun v8 =>
if v8 = 2 then (jX9_begin_43 x1 z2 rec2 (t_p - 1)) else (jX9_begin_43 x1 z2 rec2 0))) else (jX9_begin_43 x1 z2 rec2 1)))
noncomputable def gX9_begin_2 (t_p : Int32) (kk2 : (Nat → Int32) → Option (Int32 × (Nat → Int32))) (n : Nat) : Int32 → (Nat → Int32) → Option (Int32 × (Nat → Int32)) := Nat.rec (motive := fun _ => Int32 → (Nat → Int32) → Option (Int32 × (Nat → Int32))) (fun _ _ => none) (fun _ rec2 => FgX9_begin_2 t_p rec2 kk2) n
noncomputable def fX9_begin (t_isLaid : Int32) (t_p : Int32) (t_given_r : (Nat → Int32)) : Option (Int32 × (Nat → Int32)) :=
  gX9_begin_2 t_p (kX9_begin_50) p_FU 0 t_given_r
def rmX9_begin : Room := { frames := 0, cells := 0, slots := 0, locals := 0 }
set_option maxHeartbeats 4000000 in
set_option maxRecDepth 100000 in
theorem tX9_begin (l : Launch) (D : va_G) (cI : ClassId) (a_t : Nat) (a_t_given : Nat) (a_t_c : Nat) (a_t_pointX : Nat) (a_t_pointY : Nat) (a_t_pointZ : Nat) (a_t_pointFlags : Nat) (a_t_flagPoint : Nat) (a_t_flagU : Nat) (a_t_flagV : Nat) (a_t_flagW : Nat) (a_t_next : Nat) (a_t_series : Nat) (a_t_mix : Nat) (a_t_cofactor : Nat) (a_t_square : Nat) (t_p : Int32) (t_isLaid : Int32) (t_isGood : Int32) (t_points : Int32) (t_flags : Int32) (t_formX : Int32) (t_formY : Int32) (t_formZ : Int32) (t_isNought : Int32) (t_sumT : Int32) (t_sumY : Int32) (t_given_r : (Nat → Int32)) (s_t_isLaid : Int32) (s_t_given_r : (Nat → Int32)) (hf : fX9_begin t_isLaid t_p t_given_r = some (s_t_isLaid, s_t_given_r)) : x_CV l D cI yX9_begin wsX9_begin rmX9_begin [.ref a_t] [x_o9 a_t t_p a_t_given t_isLaid t_isGood a_t_c t_points a_t_pointX a_t_pointY a_t_pointZ a_t_pointFlags t_flags a_t_flagPoint a_t_flagU a_t_flagV a_t_flagW a_t_next a_t_series a_t_mix a_t_cofactor t_formX t_formY t_formZ a_t_square t_isNought t_sumT t_sumY, x_ar cI a_t_given 12 t_given_r] [x_o9 a_t t_p a_t_given s_t_isLaid t_isGood a_t_c t_points a_t_pointX a_t_pointY a_t_pointZ a_t_pointFlags t_flags a_t_flagPoint a_t_flagU a_t_flagV a_t_flagW a_t_next a_t_series a_t_mix a_t_cofactor t_formX t_formY t_formZ a_t_square t_isNought t_sumT t_sumY, x_ar cI a_t_given 12 s_t_given_r] := by
  refine x_CV_of (cc := cX9_begin) (maxL := 2) (own := RX9) (lv0 := [(0, .ref a_t)]) (by decide) rfl rfl (Nat.le_of_ble_eq_true rfl) rfl ?_
  intro p e s m args below meth c A Q ls hx hb hml hown hts hN hK hP hD hS hA hl hret
  have iX9 : ∀ w ∈ u_ws RX9 TX9 26, w ∈ wsX9_begin := by decide +kernel
  have l66 := hts (.fieldLink RX9 66 "ChordRingsModel" "isLaid" "Z") (by decide +kernel)
  have l13 := hts (.fieldLink RX9 13 "ChordRingsModel" "given" "[I") (by decide +kernel)
  have l7 := hts (.fieldLink RX9 7 "ChordRingsModel" "p" "I") (by decide +kernel)
  unfold fX9_begin at hf
  refine lv_iconst (v := 0) hx hb dX9_begin_0 (by decide) ?_
  refine lv_istore_n (lv' := [(1, .int 0), (0, .ref a_t)]) hx hb dX9_begin_1 rfl hl (by decide) rfl (fun ls hl => ?_)
  have L2 : ∀ (n : Nat) (x1 : Int32) (z2 : (Nat → Int32)) (ls : Array Slot) (H : Heap) (locs : List Loc), gX9_begin_2 t_p (kX9_begin_50) n x1 z2 = some (s_t_isLaid, s_t_given_r) → lv_has ls 2 [(0, .ref a_t), (1, .int x1)] → va_P D vwCl [x_o9 a_t t_p a_t_given t_isLaid t_isGood a_t_c t_points a_t_pointX a_t_pointY a_t_pointZ a_t_pointFlags t_flags a_t_flagPoint a_t_flagU a_t_flagV a_t_flagW a_t_next a_t_series a_t_mix a_t_cofactor t_formX t_formY t_formZ a_t_square t_isNought t_sumT t_sumY, x_ar cI a_t_given 12 z2] H → va_D A [x_o9 a_t t_p a_t_given t_isLaid t_isGood a_t_c t_points a_t_pointX a_t_pointY a_t_pointZ a_t_pointFlags t_flags a_t_flagPoint a_t_flagU a_t_flagV a_t_flagW a_t_next a_t_series a_t_mix a_t_cofactor t_formX t_formY t_formZ a_t_square t_isNought t_sumT t_sumY, x_ar cI a_t_given 12 z2] → va_S A s.heap H locs → W p l e rmX9_begin s m args below meth c H locs 0 0 Q (F0 m 2 ls []) := by
    intro n2
    induction n2 with
    | zero =>
      intro x1 z2 ls H locs hf
      exact nomatch (show (none : Option (Int32 × (Nat → Int32))) = some (s_t_isLaid, s_t_given_r) from hf)
    | succ n2 ih2 =>
      intro x1 z2 ls H locs hf hl hP hD hS
      have hf : FgX9_begin_2 t_p (gX9_begin_2 t_p (kX9_begin_50) n2) (kX9_begin_50) x1 z2 = some (s_t_isLaid, s_t_given_r) := hf
      unfold FgX9_begin_2 at hf
      refine lv_iload_n hx hb dX9_begin_2 rfl (lv_at hl 1 rfl) ?_
      refine lv_bipush (v := 12) hx hb dX9_begin_3 (by decide) ?_
      have J50 : ∀ (w3 : (Nat → Int32)) (ls : Array Slot) (H : Heap) (locs : List Loc), kX9_begin_50 w3 = some (s_t_isLaid, s_t_given_r) → lv_has ls 2 [(0, .ref a_t)] → va_P D vwCl [x_o9 a_t t_p a_t_given t_isLaid t_isGood a_t_c t_points a_t_pointX a_t_pointY a_t_pointZ a_t_pointFlags t_flags a_t_flagPoint a_t_flagU a_t_flagV a_t_flagW a_t_next a_t_series a_t_mix a_t_cofactor t_formX t_formY t_formZ a_t_square t_isNought t_sumT t_sumY, x_ar cI a_t_given 12 w3] H → va_D A [x_o9 a_t t_p a_t_given t_isLaid t_isGood a_t_c t_points a_t_pointX a_t_pointY a_t_pointZ a_t_pointFlags t_flags a_t_flagPoint a_t_flagU a_t_flagV a_t_flagW a_t_next a_t_series a_t_mix a_t_cofactor t_formX t_formY t_formZ a_t_square t_isNought t_sumT t_sumY, x_ar cI a_t_given 12 w3] → va_S A s.heap H locs → W p l e rmX9_begin s m args below meth c H locs 0 0 Q (F0 m 50 ls []) := by
        intro w3 ls H locs hf hl hP hD hS
        unfold kX9_begin_50 at hf
        refine lv_aload_n hx hb dX9_begin_50 rfl (lv_at hl 0 rfl) ?_
        refine lv_iconst (v := 0) hx hb dX9_begin_51 (by decide) ?_
        refine x_put (W1 := [x_o9 a_t t_p a_t_given 0 t_isGood a_t_c t_points a_t_pointX a_t_pointY a_t_pointZ a_t_pointFlags t_flags a_t_flagPoint a_t_flagU a_t_flagV a_t_flagW a_t_next a_t_series a_t_mix a_t_cofactor t_formX t_formY t_formZ a_t_square t_isNought t_sumT t_sumY, x_ar cI a_t_given 12 w3]) (ty := .boolean) (C := RX9) (T := TX9) (N := 26) hx hb hts iX9 tyX9 tyX9_ok nmX9 hown hK hP hD hS 0 rfl rfl 2 (by decide) l66 rfl rfl (by decide +kernel) (by decide) (by decide) (Nat.le_of_ble_eq_true rfl) rfl dX9_begin_52 (fun H locs hP hD hS => ?_)
        obtain ⟨rfl, rfl⟩ := o_s2 hf
        exact hret dX9_begin_55 hP hD hS
      refine lv_icmp_ge (tgt := 50) hx hb dX9_begin_5 (by decide) (fun hc => ?_) (fun hc => ?_)
      · have hf := o_t hf hc
        exact J50 z2 _ _ _ hf (lv_sub hl [0] rfl) hP hD hS
      · have hf := o_f hf hc
        refine lv_aload_n hx hb dX9_begin_8 rfl (lv_at hl 0 rfl) ?_
        refine va_get (D := D) (ci := 9) (C := RX9) (T := TX9) (N := 26) hx hb hts iX9 hown hK hP 0 rfl rfl 1 (by decide) l13 (fun _ h9 => h9) rfl dX9_begin_9 ?_
        refine lv_iload_n hx hb dX9_begin_12 rfl (lv_at hl 1 rfl) ?_
        refine lv_iload_n hx hb dX9_begin_13 rfl (lv_at hl 1 rfl) ?_
        refine lv_bipush (v := 6) hx hb dX9_begin_14 (by decide) ?_
        obtain ⟨v4, hv4, hf⟩ := o_b1 hf
        refine x_rm hx hb hv4 dX9_begin_16 ?_
        refine lv_iconst (v := 2) hx hb dX9_begin_17 (by decide) ?_
        have J43 : ∀ (y5 : Int32) (ls : Array Slot) (H : Heap) (locs : List Loc), jX9_begin_43 x1 z2 (gX9_begin_2 t_p (kX9_begin_50) n2) y5 = some (s_t_isLaid, s_t_given_r) → lv_has ls 2 [(0, .ref a_t), (1, .int x1)] → va_P D vwCl [x_o9 a_t t_p a_t_given t_isLaid t_isGood a_t_c t_points a_t_pointX a_t_pointY a_t_pointZ a_t_pointFlags t_flags a_t_flagPoint a_t_flagU a_t_flagV a_t_flagW a_t_next a_t_series a_t_mix a_t_cofactor t_formX t_formY t_formZ a_t_square t_isNought t_sumT t_sumY, x_ar cI a_t_given 12 z2] H → va_D A [x_o9 a_t t_p a_t_given t_isLaid t_isGood a_t_c t_points a_t_pointX a_t_pointY a_t_pointZ a_t_pointFlags t_flags a_t_flagPoint a_t_flagU a_t_flagV a_t_flagW a_t_next a_t_series a_t_mix a_t_cofactor t_formX t_formY t_formZ a_t_square t_isNought t_sumT t_sumY, x_ar cI a_t_given 12 z2] → va_S A s.heap H locs → W p l e rmX9_begin s m args below meth c H locs 0 0 Q (F0 m 43 ls [.int y5, .int x1, .ref a_t_given]) := by
          intro y5 ls H locs hf hl hP hD hS
          unfold jX9_begin_43 at hf
          obtain ⟨u6, hu6, hf⟩ := o_b1 hf
          refine x_ast (W1 := [x_o9 a_t t_p a_t_given t_isLaid t_isGood a_t_c t_points a_t_pointX a_t_pointY a_t_pointZ a_t_pointFlags t_flags a_t_flagPoint a_t_flagU a_t_flagV a_t_flagW a_t_next a_t_series a_t_mix a_t_cofactor t_formX t_formY t_formZ a_t_square t_isNought t_sumT t_sumY, x_ar cI a_t_given 12 u6]) hx hb hK hP hD hS 1 rfl hu6 rfl dX9_begin_43 (fun H locs hP hD hS => ?_)
          obtain ⟨v7, ev7, hf⟩ := o_nm hf
          refine lv_iinc (v := v7) (lv' := [(1, .int v7), (0, .ref a_t)]) hx hb dX9_begin_44 hl (k := 1) rfl (by rw [ev7]; rfl) (by decide) rfl (fun ls hl => ?_)
          refine lv_goto (tgt := 2) hx hb dX9_begin_47 (by decide) ?_
          exact ih2 v7 u6 _ _ _ hf (lv_sub hl [1, 0] rfl) hP hD hS
        refine lv_icmp_ge (tgt := 25) hx hb dX9_begin_18 (by decide) (fun hc => ?_) (fun hc => ?_)
        · have hf := o_t hf hc
          refine lv_iload_n hx hb dX9_begin_25 rfl (lv_at hl 1 rfl) ?_
          refine lv_bipush (v := 6) hx hb dX9_begin_26 (by decide) ?_
          obtain ⟨v8, hv8, hf⟩ := o_b1 hf
          refine x_rm hx hb hv8 dX9_begin_28 ?_
          refine lv_iconst (v := 2) hx hb dX9_begin_29 (by decide) ?_
          refine lv_icmp_ne (tgt := 42) hx hb dX9_begin_30 (by decide) (fun hc => ?_) (fun hc => ?_)
          · have hf := o_f hf hc
            refine lv_iconst (v := 0) hx hb dX9_begin_42 (by decide) ?_
            exact J43 0 _ _ _ hf (lv_sub hl [0, 1] rfl) hP hD hS
          · have hf := o_t hf hc
            refine lv_aload_n hx hb dX9_begin_33 rfl (lv_at hl 0 rfl) ?_
            refine va_get (D := D) (ci := 9) (C := RX9) (T := TX9) (N := 26) hx hb hts iX9 hown hK hP 0 rfl rfl 0 (by decide) l7 (fun _ h9 => h9) rfl dX9_begin_34 ?_
            refine lv_iconst (v := 1) hx hb dX9_begin_37 (by decide) ?_
            refine lv_isub hx hb dX9_begin_38 ?_
            refine lv_goto (tgt := 43) hx hb dX9_begin_39 (by decide) ?_
            exact J43 (t_p - 1) _ _ _ hf (lv_sub hl [0, 1] rfl) hP hD hS
        · have hf := o_f hf hc
          refine lv_iconst (v := 1) hx hb dX9_begin_21 (by decide) ?_
          refine lv_goto (tgt := 43) hx hb dX9_begin_22 (by decide) ?_
          exact J43 1 _ _ _ hf (lv_sub hl [0, 1] rfl) hP hD hS
  exact L2 p_FU 0 t_given_r _ _ _ hf (lv_sub hl [1, 0] rfl) hP hD hS
noncomputable def kX9_field_40 (t_p : Int32) (t_isLaid : Int32) (t_given_r : (Nat → Int32)) (i1 : Int32) (y4 : Int32) : Option (Int32 × Int32 × Int32 × (Nat → Int32)) :=
  if y4 = 0 then (some ((-2), t_isLaid, t_p, t_given_r)) else (p_b2 (fX9_begin t_isLaid i1 t_given_r) (fun v5 u6 =>
some (t_p, v5, i1, u6)))
noncomputable def jX9_field_33 (x3 : Int32) (rec11 : Int32 → Int32 → Option (Int32 × Int32 × Int32 × (Nat → Int32))) (y8 : Int32) : Option (Int32 × Int32 × Int32 × (Nat → Int32)) :=
  p_nm (x3 + 1) (fun v9 =>
rec11 y8 v9)
noncomputable def FgX9_field_11 (i1 : Int32) (rec11 : Int32 → Int32 → Option (Int32 × Int32 × Int32 × (Nat → Int32))) (kk11 : Int32 → Option (Int32 × Int32 × Int32 × (Nat → Int32))) (x2 : Int32) (x3 : Int32) : Option (Int32 × Int32 × Int32 × (Nat → Int32)) :=
  if i1 < (x3 * x3) then (kk11 x2) else (if x2 = 0 then (kk11 x2) else (p_b1 (p_rm i1 x3) (fun v7 =>
if v7 = 0 then (jX9_field_33 x3 rec11 0) else (jX9_field_33 x3 rec11 1))))
noncomputable def gX9_field_11 (i1 : Int32) (kk11 : Int32 → Option (Int32 × Int32 × Int32 × (Nat → Int32))) (n : Nat) : Int32 → Int32 → Option (Int32 × Int32 × Int32 × (Nat → Int32)) := Nat.rec (motive := fun _ => Int32 → Int32 → Option (Int32 × Int32 × Int32 × (Nat → Int32))) (fun _ _ => none) (fun _ rec11 => FgX9_field_11 i1 rec11 kk11) n
noncomputable def fX9_field (t_isLaid : Int32) (t_p : Int32) (t_given_r : (Nat → Int32)) (i1 : Int32) : Option (Int32 × Int32 × Int32 × (Nat → Int32)) :=
  p_b1 (fX9_in i1 5 199) (fun v1 =>
gX9_field_11 i1 (kX9_field_40 t_p t_isLaid t_given_r i1) p_FU v1 2)
def rmX9_field : Room := { frames := 1, cells := 0, slots := 0, locals := 22 }
set_option maxHeartbeats 4000000 in
set_option maxRecDepth 100000 in
theorem tX9_field (l : Launch) (D : va_G) (cI : ClassId) (a_t : Nat) (a_t_given : Nat) (a_t_c : Nat) (a_t_pointX : Nat) (a_t_pointY : Nat) (a_t_pointZ : Nat) (a_t_pointFlags : Nat) (a_t_flagPoint : Nat) (a_t_flagU : Nat) (a_t_flagV : Nat) (a_t_flagW : Nat) (a_t_next : Nat) (a_t_series : Nat) (a_t_mix : Nat) (a_t_cofactor : Nat) (a_t_square : Nat) (t_p : Int32) (t_isLaid : Int32) (t_isGood : Int32) (t_points : Int32) (t_flags : Int32) (t_formX : Int32) (t_formY : Int32) (t_formZ : Int32) (t_isNought : Int32) (t_sumT : Int32) (t_sumY : Int32) (t_given_r : (Nat → Int32)) (i1 : Int32) (r : Int32) (s_t_isLaid : Int32) (s_t_p : Int32) (s_t_given_r : (Nat → Int32)) (hf : fX9_field t_isLaid t_p t_given_r i1 = some (r, s_t_isLaid, s_t_p, s_t_given_r)) : x_CI l D cI yX9_field wsX9_field rmX9_field [.ref a_t, .int i1] [x_o9 a_t t_p a_t_given t_isLaid t_isGood a_t_c t_points a_t_pointX a_t_pointY a_t_pointZ a_t_pointFlags t_flags a_t_flagPoint a_t_flagU a_t_flagV a_t_flagW a_t_next a_t_series a_t_mix a_t_cofactor t_formX t_formY t_formZ a_t_square t_isNought t_sumT t_sumY, x_ar cI a_t_given 12 t_given_r] [x_o9 a_t s_t_p a_t_given s_t_isLaid t_isGood a_t_c t_points a_t_pointX a_t_pointY a_t_pointZ a_t_pointFlags t_flags a_t_flagPoint a_t_flagU a_t_flagV a_t_flagW a_t_next a_t_series a_t_mix a_t_cofactor t_formX t_formY t_formZ a_t_square t_isNought t_sumT t_sumY, x_ar cI a_t_given 12 s_t_given_r] r := by
  refine x_CI_of (cc := cX9_field) (maxL := 4) (ty := .int) (own := RX9) (lv0 := [(0, .ref a_t), (1, .int i1)]) (by decide) rfl rfl (Nat.le_of_ble_eq_true rfl) rfl ?_
  intro p e s m args below meth c A Q ls hx hb hml hown hts hN hK hP hD hS hA hl hret
  have iX9 : ∀ w ∈ u_ws RX9 TX9 26, w ∈ wsX9_field := by decide +kernel
  have l7 := hts (.fieldLink RX9 7 "ChordRingsModel" "p" "I") (by decide +kernel)
  unfold fX9_field at hf
  refine lv_iload_n hx hb dX9_field_0 rfl (lv_at hl 1 rfl) ?_
  refine lv_iconst (v := 5) hx hb dX9_field_1 (by decide) ?_
  refine lv_sipush (v := 199) hx hb dX9_field_2 (by decide) ?_
  obtain ⟨v1, hv1, hf⟩ := o_b1 hf
  refine x_si (rest := []) ⟨hx, hb, hml, hown, hts⟩ (tX9_in l D cI i1 5 199 v1 hv1) (va_cwS 3 hts gX9_field_X9_in rfl rfl rfl (by decide +kernel) ⟨Nat.le_of_ble_eq_true rfl, Nat.le_of_ble_eq_true rfl⟩) hN hK hP hD hS hA rfl hl.1 rfl (Nat.le_of_ble_eq_true rfl) dX9_field_5 ⟨Nat.zero_le _, Nat.zero_le _⟩ (fun H locs hP hD hS => ?_)
  refine lv_istore_n (lv' := [(2, .int v1), (0, .ref a_t), (1, .int i1)]) hx hb dX9_field_8 rfl hl (by decide) rfl (fun ls hl => ?_)
  refine lv_iconst (v := 2) hx hb dX9_field_9 (by decide) ?_
  refine lv_istore_n (lv' := [(3, .int 2), (2, .int v1), (0, .ref a_t), (1, .int i1)]) hx hb dX9_field_10 rfl hl (by decide) rfl (fun ls hl => ?_)
  have L11 : ∀ (n : Nat) (x2 : Int32) (x3 : Int32) (ls : Array Slot) (H : Heap) (locs : List Loc), gX9_field_11 i1 (kX9_field_40 t_p t_isLaid t_given_r i1) n x2 x3 = some (r, s_t_isLaid, s_t_p, s_t_given_r) → lv_has ls 4 [(0, .ref a_t), (1, .int i1), (2, .int x2), (3, .int x3)] → va_P D vwCl [x_o9 a_t t_p a_t_given t_isLaid t_isGood a_t_c t_points a_t_pointX a_t_pointY a_t_pointZ a_t_pointFlags t_flags a_t_flagPoint a_t_flagU a_t_flagV a_t_flagW a_t_next a_t_series a_t_mix a_t_cofactor t_formX t_formY t_formZ a_t_square t_isNought t_sumT t_sumY, x_ar cI a_t_given 12 t_given_r] H → va_D A [x_o9 a_t t_p a_t_given t_isLaid t_isGood a_t_c t_points a_t_pointX a_t_pointY a_t_pointZ a_t_pointFlags t_flags a_t_flagPoint a_t_flagU a_t_flagV a_t_flagW a_t_next a_t_series a_t_mix a_t_cofactor t_formX t_formY t_formZ a_t_square t_isNought t_sumT t_sumY, x_ar cI a_t_given 12 t_given_r] → va_S A s.heap H locs → W p l e rmX9_field s m args below meth c H locs 0 0 Q (F0 m 11 ls []) := by
    intro n11
    induction n11 with
    | zero =>
      intro x2 x3 ls H locs hf
      exact nomatch (show (none : Option (Int32 × Int32 × Int32 × (Nat → Int32))) = some (r, s_t_isLaid, s_t_p, s_t_given_r) from hf)
    | succ n11 ih11 =>
      intro x2 x3 ls H locs hf hl hP hD hS
      have hf : FgX9_field_11 i1 (gX9_field_11 i1 (kX9_field_40 t_p t_isLaid t_given_r i1) n11) (kX9_field_40 t_p t_isLaid t_given_r i1) x2 x3 = some (r, s_t_isLaid, s_t_p, s_t_given_r) := hf
      unfold FgX9_field_11 at hf
      refine lv_iload_n hx hb dX9_field_11 rfl (lv_at hl 3 rfl) ?_
      refine lv_iload_n hx hb dX9_field_12 rfl (lv_at hl 3 rfl) ?_
      refine lv_imul hx hb dX9_field_13 ?_
      refine lv_iload_n hx hb dX9_field_14 rfl (lv_at hl 1 rfl) ?_
      have J40 : ∀ (y4 : Int32) (ls : Array Slot) (H : Heap) (locs : List Loc), kX9_field_40 t_p t_isLaid t_given_r i1 y4 = some (r, s_t_isLaid, s_t_p, s_t_given_r) → lv_has ls 4 [(0, .ref a_t), (1, .int i1), (2, .int y4)] → va_P D vwCl [x_o9 a_t t_p a_t_given t_isLaid t_isGood a_t_c t_points a_t_pointX a_t_pointY a_t_pointZ a_t_pointFlags t_flags a_t_flagPoint a_t_flagU a_t_flagV a_t_flagW a_t_next a_t_series a_t_mix a_t_cofactor t_formX t_formY t_formZ a_t_square t_isNought t_sumT t_sumY, x_ar cI a_t_given 12 t_given_r] H → va_D A [x_o9 a_t t_p a_t_given t_isLaid t_isGood a_t_c t_points a_t_pointX a_t_pointY a_t_pointZ a_t_pointFlags t_flags a_t_flagPoint a_t_flagU a_t_flagV a_t_flagW a_t_next a_t_series a_t_mix a_t_cofactor t_formX t_formY t_formZ a_t_square t_isNought t_sumT t_sumY, x_ar cI a_t_given 12 t_given_r] → va_S A s.heap H locs → W p l e rmX9_field s m args below meth c H locs 0 0 Q (F0 m 40 ls []) := by
        intro y4 ls H locs hf hl hP hD hS
        unfold kX9_field_40 at hf
        refine lv_iload_n hx hb dX9_field_40 rfl (lv_at hl 2 rfl) ?_
        refine lv_if_ne (tgt := 47) hx hb dX9_field_41 (by decide) (fun hc => ?_) (fun hc => ?_)
        · have hf := o_f hf hc
          refine lv_aload_n hx hb dX9_field_47 rfl (lv_at hl 0 rfl) ?_
          refine va_get (D := D) (ci := 9) (C := RX9) (T := TX9) (N := 26) hx hb hts iX9 hown hK hP 0 rfl rfl 0 (by decide) l7 (fun _ h9 => h9) rfl dX9_field_48 ?_
          refine lv_istore_n (lv' := [(3, .int t_p), (0, .ref a_t), (1, .int i1), (2, .int y4)]) hx hb dX9_field_51 rfl hl (by decide) rfl (fun ls hl => ?_)
          refine lv_aload_n hx hb dX9_field_52 rfl (lv_at hl 1 rfl) ?_
          refine lv_iload_n hx hb dX9_field_53 rfl (lv_at hl 2 rfl) ?_
          refine x_put (W1 := [x_o9 a_t i1 a_t_given t_isLaid t_isGood a_t_c t_points a_t_pointX a_t_pointY a_t_pointZ a_t_pointFlags t_flags a_t_flagPoint a_t_flagU a_t_flagV a_t_flagW a_t_next a_t_series a_t_mix a_t_cofactor t_formX t_formY t_formZ a_t_square t_isNought t_sumT t_sumY, x_ar cI a_t_given 12 t_given_r]) (ty := .int) (C := RX9) (T := TX9) (N := 26) hx hb hts iX9 tyX9 tyX9_ok nmX9 hown hK hP hD hS 0 rfl rfl 0 (by decide) l7 rfl rfl (by decide +kernel) rfl rfl (Nat.le_of_ble_eq_true rfl) rfl dX9_field_54 (fun H locs hP hD hS => ?_)
          refine lv_aload_n hx hb dX9_field_57 rfl (lv_at hl 1 rfl) ?_
          obtain ⟨v5, u6, hv5, hf⟩ := o_b2 hf
          refine x_vv (rest := []) (W1 := [x_o9 a_t i1 a_t_given v5 t_isGood a_t_c t_points a_t_pointX a_t_pointY a_t_pointZ a_t_pointFlags t_flags a_t_flagPoint a_t_flagU a_t_flagV a_t_flagW a_t_next a_t_series a_t_mix a_t_cofactor t_formX t_formY t_formZ a_t_square t_isNought t_sumT t_sumY, x_ar cI a_t_given 12 u6]) ⟨hx, hb, hml, hown, hts⟩ (tX9_begin l D cI a_t a_t_given a_t_c a_t_pointX a_t_pointY a_t_pointZ a_t_pointFlags a_t_flagPoint a_t_flagU a_t_flagV a_t_flagW a_t_next a_t_series a_t_mix a_t_cofactor a_t_square i1 t_isLaid t_isGood t_points t_flags t_formX t_formY t_formZ t_isNought t_sumT t_sumY t_given_r v5 u6 hv5) (cwV 0 hts gX9_field_X9_begin rfl rfl rfl (by decide +kernel) ⟨Nat.le_of_ble_eq_true rfl, Nat.le_of_ble_eq_true rfl⟩) hN hK hP hD hS hA [0, 1] [some 0, some 1] rfl rfl rfl rfl rfl rfl 0 rfl rfl rfl hl.1 rfl (Nat.le_of_ble_eq_true rfl) dX9_field_58 ⟨Nat.zero_le _, Nat.zero_le _⟩ (fun H locs hP hD hS => ?_)
          refine lv_iload_n hx hb dX9_field_61 rfl (lv_at hl 0 rfl) ?_
          obtain ⟨rfl, rfl, rfl, rfl⟩ := o_s4 hf
          exact hret rfl rfl dX9_field_62 hP hD hS
        · have hf := o_t hf hc
          refine lv_bipush (v := (-2)) hx hb dX9_field_44 (by decide) ?_
          obtain ⟨rfl, rfl, rfl, rfl⟩ := o_s4 hf
          exact hret rfl rfl dX9_field_46 hP hD hS
      refine lv_icmp_gt (tgt := 40) hx hb dX9_field_15 (by decide) (fun hc => ?_) (fun hc => ?_)
      · have hf := o_t hf hc
        exact J40 x2 _ _ _ hf (lv_sub hl [0, 1, 2] rfl) hP hD hS
      · have hf := o_f hf hc
        refine lv_iload_n hx hb dX9_field_18 rfl (lv_at hl 2 rfl) ?_
        refine lv_if_eq (tgt := 40) hx hb dX9_field_19 (by decide) (fun hc => ?_) (fun hc => ?_)
        · have hf := o_t hf hc
          exact J40 x2 _ _ _ hf (lv_sub hl [0, 1, 2] rfl) hP hD hS
        · have hf := o_f hf hc
          refine lv_iload_n hx hb dX9_field_22 rfl (lv_at hl 1 rfl) ?_
          refine lv_iload_n hx hb dX9_field_23 rfl (lv_at hl 3 rfl) ?_
          obtain ⟨v7, hv7, hf⟩ := o_b1 hf
          refine x_rm hx hb hv7 dX9_field_24 ?_
          have J33 : ∀ (y8 : Int32) (ls : Array Slot) (H : Heap) (locs : List Loc), jX9_field_33 x3 (gX9_field_11 i1 (kX9_field_40 t_p t_isLaid t_given_r i1) n11) y8 = some (r, s_t_isLaid, s_t_p, s_t_given_r) → lv_has ls 4 [(0, .ref a_t), (1, .int i1), (3, .int x3)] → va_P D vwCl [x_o9 a_t t_p a_t_given t_isLaid t_isGood a_t_c t_points a_t_pointX a_t_pointY a_t_pointZ a_t_pointFlags t_flags a_t_flagPoint a_t_flagU a_t_flagV a_t_flagW a_t_next a_t_series a_t_mix a_t_cofactor t_formX t_formY t_formZ a_t_square t_isNought t_sumT t_sumY, x_ar cI a_t_given 12 t_given_r] H → va_D A [x_o9 a_t t_p a_t_given t_isLaid t_isGood a_t_c t_points a_t_pointX a_t_pointY a_t_pointZ a_t_pointFlags t_flags a_t_flagPoint a_t_flagU a_t_flagV a_t_flagW a_t_next a_t_series a_t_mix a_t_cofactor t_formX t_formY t_formZ a_t_square t_isNought t_sumT t_sumY, x_ar cI a_t_given 12 t_given_r] → va_S A s.heap H locs → W p l e rmX9_field s m args below meth c H locs 0 0 Q (F0 m 33 ls [.int y8]) := by
            intro y8 ls H locs hf hl hP hD hS
            unfold jX9_field_33 at hf
            refine lv_istore_n (lv' := [(2, .int y8), (0, .ref a_t), (1, .int i1), (3, .int x3)]) hx hb dX9_field_33 rfl hl (by decide) rfl (fun ls hl => ?_)
            obtain ⟨v9, ev9, hf⟩ := o_nm hf
            refine lv_iinc (v := v9) (lv' := [(3, .int v9), (2, .int y8), (0, .ref a_t), (1, .int i1)]) hx hb dX9_field_34 hl (k := 3) rfl (by rw [ev9]; rfl) (by decide) rfl (fun ls hl => ?_)
            refine lv_goto (tgt := 11) hx hb dX9_field_37 (by decide) ?_
            exact ih11 y8 v9 _ _ _ hf (lv_sub hl [2, 3, 1, 0] rfl) hP hD hS
          refine lv_if_eq (tgt := 32) hx hb dX9_field_25 (by decide) (fun hc => ?_) (fun hc => ?_)
          · have hf := o_t hf hc
            refine lv_iconst (v := 0) hx hb dX9_field_32 (by decide) ?_
            exact J33 0 _ _ _ hf (lv_sub hl [0, 1, 3] rfl) hP hD hS
          · have hf := o_f hf hc
            refine lv_iconst (v := 1) hx hb dX9_field_28 (by decide) ?_
            refine lv_goto (tgt := 33) hx hb dX9_field_29 (by decide) ?_
            exact J33 1 _ _ _ hf (lv_sub hl [0, 1, 3] rfl) hP hD hS
  exact L11 p_FU v1 2 _ _ _ hf (lv_sub hl [2, 3, 1, 0] rfl) hP hD hS
noncomputable def jX9_round_66 (t_isLaid : Int32) (t_given_r : (Nat → Int32)) (i1 : Int32) (i2 : Int32) (i3 : Int32) (i4 : Int32) (i5 : Int32) (i6 : Int32) (i7 : Int32) (y2 : Int32) : Option (Int32 × Int32 × (Nat → Int32)) :=
  if y2 = 0 then (some ((-2), t_isLaid, t_given_r)) else (p_nm (6 * i1) (fun v3 =>
p_b1 (p_st t_given_r 12 v3 i2) (fun u4 =>
p_b1 (p_st u4 12 (v3 + 1) i3) (fun u5 =>
p_b1 (p_st u5 12 (v3 + 2) i4) (fun u6 =>
p_b1 (p_st u6 12 (v3 + 3) i5) (fun u7 =>
p_b1 (p_st u7 12 (v3 + 4) i6) (fun u8 =>
p_b1 (p_st u8 12 (v3 + 5) i7) (fun u9 =>
some (1, 0, u9)))))))))
noncomputable def jX9_round_65 (t_isLaid : Int32) (t_given_r : (Nat → Int32)) (i1 : Int32) (i2 : Int32) (i3 : Int32) (i4 : Int32) (i5 : Int32) (i6 : Int32) (i7 : Int32) : Option (Int32 × Int32 × (Nat → Int32)) :=
  jX9_round_66 t_isLaid t_given_r i1 i2 i3 i4 i5 i6 i7 0
noncomputable def fX9_round (t_isLaid : Int32) (t_p : Int32) (t_given_r : (Nat → Int32)) (i1 : Int32) (i2 : Int32) (i3 : Int32) (i4 : Int32) (i5 : Int32) (i6 : Int32) (i7 : Int32) : Option (Int32 × Int32 × (Nat → Int32)) :=
  p_b1 (fX9_in i1 0 1) (fun v1 =>
if v1 = 0 then (jX9_round_65 t_isLaid t_given_r i1 i2 i3 i4 i5 i6 i7) else (p_b1 (fX9_isNumber t_p i2) (fun v10 =>
if v10 = 0 then (jX9_round_65 t_isLaid t_given_r i1 i2 i3 i4 i5 i6 i7) else (p_b1 (fX9_isNumber t_p i3) (fun v11 =>
if v11 = 0 then (jX9_round_65 t_isLaid t_given_r i1 i2 i3 i4 i5 i6 i7) else (p_b1 (fX9_isNumber t_p i4) (fun v12 =>
if v12 = 0 then (jX9_round_65 t_isLaid t_given_r i1 i2 i3 i4 i5 i6 i7) else (p_b1 (fX9_isNumber t_p i5) (fun v13 =>
if v13 = 0 then (jX9_round_65 t_isLaid t_given_r i1 i2 i3 i4 i5 i6 i7) else (p_b1 (fX9_isNumber t_p i6) (fun v14 =>
if v14 = 0 then (jX9_round_65 t_isLaid t_given_r i1 i2 i3 i4 i5 i6 i7) else (p_b1 (fX9_isNumber t_p i7) (fun v15 =>
if v15 = 0 then (jX9_round_65 t_isLaid t_given_r i1 i2 i3 i4 i5 i6 i7) else (jX9_round_66 t_isLaid t_given_r i1 i2 i3 i4 i5 i6 i7 1))))))))))))))
def rmX9_round : Room := { frames := 2, cells := 0, slots := 0, locals := 43 }
set_option maxHeartbeats 4000000 in
set_option maxRecDepth 100000 in
theorem tX9_round (l : Launch) (D : va_G) (cI : ClassId) (a_t : Nat) (a_t_given : Nat) (a_t_c : Nat) (a_t_pointX : Nat) (a_t_pointY : Nat) (a_t_pointZ : Nat) (a_t_pointFlags : Nat) (a_t_flagPoint : Nat) (a_t_flagU : Nat) (a_t_flagV : Nat) (a_t_flagW : Nat) (a_t_next : Nat) (a_t_series : Nat) (a_t_mix : Nat) (a_t_cofactor : Nat) (a_t_square : Nat) (t_p : Int32) (t_isLaid : Int32) (t_isGood : Int32) (t_points : Int32) (t_flags : Int32) (t_formX : Int32) (t_formY : Int32) (t_formZ : Int32) (t_isNought : Int32) (t_sumT : Int32) (t_sumY : Int32) (t_given_r : (Nat → Int32)) (i1 : Int32) (i2 : Int32) (i3 : Int32) (i4 : Int32) (i5 : Int32) (i6 : Int32) (i7 : Int32) (r : Int32) (s_t_isLaid : Int32) (s_t_given_r : (Nat → Int32)) (hf : fX9_round t_isLaid t_p t_given_r i1 i2 i3 i4 i5 i6 i7 = some (r, s_t_isLaid, s_t_given_r)) : x_CI l D cI yX9_round wsX9_round rmX9_round [.ref a_t, .int i1, .int i2, .int i3, .int i4, .int i5, .int i6, .int i7] [x_o9 a_t t_p a_t_given t_isLaid t_isGood a_t_c t_points a_t_pointX a_t_pointY a_t_pointZ a_t_pointFlags t_flags a_t_flagPoint a_t_flagU a_t_flagV a_t_flagW a_t_next a_t_series a_t_mix a_t_cofactor t_formX t_formY t_formZ a_t_square t_isNought t_sumT t_sumY, x_ar cI a_t_given 12 t_given_r] [x_o9 a_t t_p a_t_given s_t_isLaid t_isGood a_t_c t_points a_t_pointX a_t_pointY a_t_pointZ a_t_pointFlags t_flags a_t_flagPoint a_t_flagU a_t_flagV a_t_flagW a_t_next a_t_series a_t_mix a_t_cofactor t_formX t_formY t_formZ a_t_square t_isNought t_sumT t_sumY, x_ar cI a_t_given 12 s_t_given_r] r := by
  refine x_CI_of (cc := cX9_round) (maxL := 10) (ty := .int) (own := RX9) (lv0 := [(0, .ref a_t), (1, .int i1), (2, .int i2), (3, .int i3), (4, .int i4), (5, .int i5), (6, .int i6), (7, .int i7)]) (by decide) rfl rfl (Nat.le_of_ble_eq_true rfl) rfl ?_
  intro p e s m args below meth c A Q ls hx hb hml hown hts hN hK hP hD hS hA hl hret
  have iX9 : ∀ w ∈ u_ws RX9 TX9 26, w ∈ wsX9_round := by decide +kernel
  have l13 := hts (.fieldLink RX9 13 "ChordRingsModel" "given" "[I") (by decide +kernel)
  have l66 := hts (.fieldLink RX9 66 "ChordRingsModel" "isLaid" "Z") (by decide +kernel)
  unfold fX9_round at hf
  refine lv_iload_n hx hb dX9_round_0 rfl (lv_at hl 1 rfl) ?_
  refine lv_iconst (v := 0) hx hb dX9_round_1 (by decide) ?_
  refine lv_iconst (v := 1) hx hb dX9_round_2 (by decide) ?_
  obtain ⟨v1, hv1, hf⟩ := o_b1 hf
  refine x_si (rest := []) ⟨hx, hb, hml, hown, hts⟩ (tX9_in l D cI i1 0 1 v1 hv1) (va_cwS 3 hts gX9_round_X9_in rfl rfl rfl (by decide +kernel) ⟨Nat.le_of_ble_eq_true rfl, Nat.le_of_ble_eq_true rfl⟩) hN hK hP hD hS hA rfl hl.1 rfl (Nat.le_of_ble_eq_true rfl) dX9_round_3 ⟨Nat.zero_le _, Nat.zero_le _⟩ (fun H locs hP hD hS => ?_)
  have J66 : ∀ (y2 : Int32) (ls : Array Slot) (H : Heap) (locs : List Loc), jX9_round_66 t_isLaid t_given_r i1 i2 i3 i4 i5 i6 i7 y2 = some (r, s_t_isLaid, s_t_given_r) → lv_has ls 10 [(0, .ref a_t), (1, .int i1), (2, .int i2), (3, .int i3), (4, .int i4), (5, .int i5), (6, .int i6), (7, .int i7)] → va_P D vwCl [x_o9 a_t t_p a_t_given t_isLaid t_isGood a_t_c t_points a_t_pointX a_t_pointY a_t_pointZ a_t_pointFlags t_flags a_t_flagPoint a_t_flagU a_t_flagV a_t_flagW a_t_next a_t_series a_t_mix a_t_cofactor t_formX t_formY t_formZ a_t_square t_isNought t_sumT t_sumY, x_ar cI a_t_given 12 t_given_r] H → va_D A [x_o9 a_t t_p a_t_given t_isLaid t_isGood a_t_c t_points a_t_pointX a_t_pointY a_t_pointZ a_t_pointFlags t_flags a_t_flagPoint a_t_flagU a_t_flagV a_t_flagW a_t_next a_t_series a_t_mix a_t_cofactor t_formX t_formY t_formZ a_t_square t_isNought t_sumT t_sumY, x_ar cI a_t_given 12 t_given_r] → va_S A s.heap H locs → W p l e rmX9_round s m args below meth c H locs 0 0 Q (F0 m 66 ls [.int y2]) := by
    intro y2 ls H locs hf hl hP hD hS
    unfold jX9_round_66 at hf
    refine lv_istore (lv' := [(8, .int y2), (0, .ref a_t), (1, .int i1), (2, .int i2), (3, .int i3), (4, .int i4), (5, .int i5), (6, .int i6), (7, .int i7)]) hx hb dX9_round_66 hl (by decide) rfl (fun ls hl => ?_)
    refine lv_iload hx hb dX9_round_68 (lv_at hl 0 rfl) ?_
    refine lv_if_ne (tgt := 76) hx hb dX9_round_70 (by decide) (fun hc => ?_) (fun hc => ?_)
    · have hf := o_f hf hc
      refine lv_bipush (v := 6) hx hb dX9_round_76 (by decide) ?_
      refine lv_iload_n hx hb dX9_round_78 rfl (lv_at hl 2 rfl) ?_
      refine lv_imul hx hb dX9_round_79 ?_
      obtain ⟨v3, ev3, hf⟩ := o_nm hf
      refine x_top ev3 ?_
      refine lv_istore (lv' := [(9, .int v3), (8, .int y2), (0, .ref a_t), (1, .int i1), (2, .int i2), (3, .int i3), (4, .int i4), (5, .int i5), (6, .int i6), (7, .int i7)]) hx hb dX9_round_80 hl (by decide) rfl (fun ls hl => ?_)
      refine lv_aload_n hx hb dX9_round_82 rfl (lv_at hl 2 rfl) ?_
      refine va_get (D := D) (ci := 9) (C := RX9) (T := TX9) (N := 26) hx hb hts iX9 hown hK hP 0 rfl rfl 1 (by decide) l13 (fun _ h9 => h9) rfl dX9_round_83 ?_
      refine lv_iload hx hb dX9_round_86 (lv_at hl 0 rfl) ?_
      refine lv_iload_n hx hb dX9_round_88 rfl (lv_at hl 4 rfl) ?_
      obtain ⟨u4, hu4, hf⟩ := o_b1 hf
      refine x_ast (W1 := [x_o9 a_t t_p a_t_given t_isLaid t_isGood a_t_c t_points a_t_pointX a_t_pointY a_t_pointZ a_t_pointFlags t_flags a_t_flagPoint a_t_flagU a_t_flagV a_t_flagW a_t_next a_t_series a_t_mix a_t_cofactor t_formX t_formY t_formZ a_t_square t_isNought t_sumT t_sumY, x_ar cI a_t_given 12 u4]) hx hb hK hP hD hS 1 rfl hu4 rfl dX9_round_89 (fun H locs hP hD hS => ?_)
      refine lv_aload_n hx hb dX9_round_90 rfl (lv_at hl 2 rfl) ?_
      refine va_get (D := D) (ci := 9) (C := RX9) (T := TX9) (N := 26) hx hb hts iX9 hown hK hP 0 rfl rfl 1 (by decide) l13 (fun _ h9 => h9) rfl dX9_round_91 ?_
      refine lv_iload hx hb dX9_round_94 (lv_at hl 0 rfl) ?_
      refine lv_iconst (v := 1) hx hb dX9_round_96 (by decide) ?_
      refine lv_iadd hx hb dX9_round_97 ?_
      refine lv_iload_n hx hb dX9_round_98 rfl (lv_at hl 5 rfl) ?_
      obtain ⟨u5, hu5, hf⟩ := o_b1 hf
      refine x_ast (W1 := [x_o9 a_t t_p a_t_given t_isLaid t_isGood a_t_c t_points a_t_pointX a_t_pointY a_t_pointZ a_t_pointFlags t_flags a_t_flagPoint a_t_flagU a_t_flagV a_t_flagW a_t_next a_t_series a_t_mix a_t_cofactor t_formX t_formY t_formZ a_t_square t_isNought t_sumT t_sumY, x_ar cI a_t_given 12 u5]) hx hb hK hP hD hS 1 rfl hu5 rfl dX9_round_99 (fun H locs hP hD hS => ?_)
      refine lv_aload_n hx hb dX9_round_100 rfl (lv_at hl 2 rfl) ?_
      refine va_get (D := D) (ci := 9) (C := RX9) (T := TX9) (N := 26) hx hb hts iX9 hown hK hP 0 rfl rfl 1 (by decide) l13 (fun _ h9 => h9) rfl dX9_round_101 ?_
      refine lv_iload hx hb dX9_round_104 (lv_at hl 0 rfl) ?_
      refine lv_iconst (v := 2) hx hb dX9_round_106 (by decide) ?_
      refine lv_iadd hx hb dX9_round_107 ?_
      refine lv_iload hx hb dX9_round_108 (lv_at hl 6 rfl) ?_
      obtain ⟨u6, hu6, hf⟩ := o_b1 hf
      refine x_ast (W1 := [x_o9 a_t t_p a_t_given t_isLaid t_isGood a_t_c t_points a_t_pointX a_t_pointY a_t_pointZ a_t_pointFlags t_flags a_t_flagPoint a_t_flagU a_t_flagV a_t_flagW a_t_next a_t_series a_t_mix a_t_cofactor t_formX t_formY t_formZ a_t_square t_isNought t_sumT t_sumY, x_ar cI a_t_given 12 u6]) hx hb hK hP hD hS 1 rfl hu6 rfl dX9_round_110 (fun H locs hP hD hS => ?_)
      refine lv_aload_n hx hb dX9_round_111 rfl (lv_at hl 2 rfl) ?_
      refine va_get (D := D) (ci := 9) (C := RX9) (T := TX9) (N := 26) hx hb hts iX9 hown hK hP 0 rfl rfl 1 (by decide) l13 (fun _ h9 => h9) rfl dX9_round_112 ?_
      refine lv_iload hx hb dX9_round_115 (lv_at hl 0 rfl) ?_
      refine lv_iconst (v := 3) hx hb dX9_round_117 (by decide) ?_
      refine lv_iadd hx hb dX9_round_118 ?_
      refine lv_iload hx hb dX9_round_119 (lv_at hl 7 rfl) ?_
      obtain ⟨u7, hu7, hf⟩ := o_b1 hf
      refine x_ast (W1 := [x_o9 a_t t_p a_t_given t_isLaid t_isGood a_t_c t_points a_t_pointX a_t_pointY a_t_pointZ a_t_pointFlags t_flags a_t_flagPoint a_t_flagU a_t_flagV a_t_flagW a_t_next a_t_series a_t_mix a_t_cofactor t_formX t_formY t_formZ a_t_square t_isNought t_sumT t_sumY, x_ar cI a_t_given 12 u7]) hx hb hK hP hD hS 1 rfl hu7 rfl dX9_round_121 (fun H locs hP hD hS => ?_)
      refine lv_aload_n hx hb dX9_round_122 rfl (lv_at hl 2 rfl) ?_
      refine va_get (D := D) (ci := 9) (C := RX9) (T := TX9) (N := 26) hx hb hts iX9 hown hK hP 0 rfl rfl 1 (by decide) l13 (fun _ h9 => h9) rfl dX9_round_123 ?_
      refine lv_iload hx hb dX9_round_126 (lv_at hl 0 rfl) ?_
      refine lv_iconst (v := 4) hx hb dX9_round_128 (by decide) ?_
      refine lv_iadd hx hb dX9_round_129 ?_
      refine lv_iload hx hb dX9_round_130 (lv_at hl 8 rfl) ?_
      obtain ⟨u8, hu8, hf⟩ := o_b1 hf
      refine x_ast (W1 := [x_o9 a_t t_p a_t_given t_isLaid t_isGood a_t_c t_points a_t_pointX a_t_pointY a_t_pointZ a_t_pointFlags t_flags a_t_flagPoint a_t_flagU a_t_flagV a_t_flagW a_t_next a_t_series a_t_mix a_t_cofactor t_formX t_formY t_formZ a_t_square t_isNought t_sumT t_sumY, x_ar cI a_t_given 12 u8]) hx hb hK hP hD hS 1 rfl hu8 rfl dX9_round_132 (fun H locs hP hD hS => ?_)
      refine lv_aload_n hx hb dX9_round_133 rfl (lv_at hl 2 rfl) ?_
      refine va_get (D := D) (ci := 9) (C := RX9) (T := TX9) (N := 26) hx hb hts iX9 hown hK hP 0 rfl rfl 1 (by decide) l13 (fun _ h9 => h9) rfl dX9_round_134 ?_
      refine lv_iload hx hb dX9_round_137 (lv_at hl 0 rfl) ?_
      refine lv_iconst (v := 5) hx hb dX9_round_139 (by decide) ?_
      refine lv_iadd hx hb dX9_round_140 ?_
      refine lv_iload hx hb dX9_round_141 (lv_at hl 9 rfl) ?_
      obtain ⟨u9, hu9, hf⟩ := o_b1 hf
      refine x_ast (W1 := [x_o9 a_t t_p a_t_given t_isLaid t_isGood a_t_c t_points a_t_pointX a_t_pointY a_t_pointZ a_t_pointFlags t_flags a_t_flagPoint a_t_flagU a_t_flagV a_t_flagW a_t_next a_t_series a_t_mix a_t_cofactor t_formX t_formY t_formZ a_t_square t_isNought t_sumT t_sumY, x_ar cI a_t_given 12 u9]) hx hb hK hP hD hS 1 rfl hu9 rfl dX9_round_143 (fun H locs hP hD hS => ?_)
      refine lv_aload_n hx hb dX9_round_144 rfl (lv_at hl 2 rfl) ?_
      refine lv_iconst (v := 0) hx hb dX9_round_145 (by decide) ?_
      refine x_put (W1 := [x_o9 a_t t_p a_t_given 0 t_isGood a_t_c t_points a_t_pointX a_t_pointY a_t_pointZ a_t_pointFlags t_flags a_t_flagPoint a_t_flagU a_t_flagV a_t_flagW a_t_next a_t_series a_t_mix a_t_cofactor t_formX t_formY t_formZ a_t_square t_isNought t_sumT t_sumY, x_ar cI a_t_given 12 u9]) (ty := .boolean) (C := RX9) (T := TX9) (N := 26) hx hb hts iX9 tyX9 tyX9_ok nmX9 hown hK hP hD hS 0 rfl rfl 2 (by decide) l66 rfl rfl (by decide +kernel) (by decide) (by decide) (Nat.le_of_ble_eq_true rfl) rfl dX9_round_146 (fun H locs hP hD hS => ?_)
      refine lv_iconst (v := 1) hx hb dX9_round_149 (by decide) ?_
      obtain ⟨rfl, rfl, rfl⟩ := o_s3 hf
      exact hret rfl rfl dX9_round_150 hP hD hS
    · have hf := o_t hf hc
      refine lv_bipush (v := (-2)) hx hb dX9_round_73 (by decide) ?_
      obtain ⟨rfl, rfl, rfl⟩ := o_s3 hf
      exact hret rfl rfl dX9_round_75 hP hD hS
  have J65 : ∀ (ls : Array Slot) (H : Heap) (locs : List Loc), jX9_round_65 t_isLaid t_given_r i1 i2 i3 i4 i5 i6 i7 = some (r, s_t_isLaid, s_t_given_r) → lv_has ls 10 [(0, .ref a_t), (1, .int i1), (2, .int i2), (3, .int i3), (4, .int i4), (5, .int i5), (6, .int i6), (7, .int i7)] → va_P D vwCl [x_o9 a_t t_p a_t_given t_isLaid t_isGood a_t_c t_points a_t_pointX a_t_pointY a_t_pointZ a_t_pointFlags t_flags a_t_flagPoint a_t_flagU a_t_flagV a_t_flagW a_t_next a_t_series a_t_mix a_t_cofactor t_formX t_formY t_formZ a_t_square t_isNought t_sumT t_sumY, x_ar cI a_t_given 12 t_given_r] H → va_D A [x_o9 a_t t_p a_t_given t_isLaid t_isGood a_t_c t_points a_t_pointX a_t_pointY a_t_pointZ a_t_pointFlags t_flags a_t_flagPoint a_t_flagU a_t_flagV a_t_flagW a_t_next a_t_series a_t_mix a_t_cofactor t_formX t_formY t_formZ a_t_square t_isNought t_sumT t_sumY, x_ar cI a_t_given 12 t_given_r] → va_S A s.heap H locs → W p l e rmX9_round s m args below meth c H locs 0 0 Q (F0 m 65 ls []) := by
    intro ls H locs hf hl hP hD hS
    unfold jX9_round_65 at hf
    refine lv_iconst (v := 0) hx hb dX9_round_65 (by decide) ?_
    exact J66 0 _ _ _ hf (lv_sub hl [0, 1, 2, 3, 4, 5, 6, 7] rfl) hP hD hS
  refine lv_if_eq (tgt := 65) hx hb dX9_round_6 (by decide) (fun hc => ?_) (fun hc => ?_)
  · have hf := o_t hf hc
    exact J65 _ _ _ hf (lv_sub hl [0, 1, 2, 3, 4, 5, 6, 7] rfl) hP hD hS
  · have hf := o_f hf hc
    refine lv_aload_n hx hb dX9_round_9 rfl (lv_at hl 0 rfl) ?_
    refine lv_iload_n hx hb dX9_round_10 rfl (lv_at hl 2 rfl) ?_
    obtain ⟨v10, hv10, hf⟩ := o_b1 hf
    refine x_vi (rest := []) (W1 := [x_o9 a_t t_p a_t_given t_isLaid t_isGood a_t_c t_points a_t_pointX a_t_pointY a_t_pointZ a_t_pointFlags t_flags a_t_flagPoint a_t_flagU a_t_flagV a_t_flagW a_t_next a_t_series a_t_mix a_t_cofactor t_formX t_formY t_formZ a_t_square t_isNought t_sumT t_sumY, x_ar cI a_t_given 12 t_given_r]) ⟨hx, hb, hml, hown, hts⟩ (tX9_isNumber l D cI a_t a_t_given a_t_c a_t_pointX a_t_pointY a_t_pointZ a_t_pointFlags a_t_flagPoint a_t_flagU a_t_flagV a_t_flagW a_t_next a_t_series a_t_mix a_t_cofactor a_t_square t_p t_isLaid t_isGood t_points t_flags t_formX t_formY t_formZ t_isNought t_sumT t_sumY i2 v10 hv10) (cwV 1 hts gX9_round_X9_isNumber rfl rfl rfl (by decide +kernel) ⟨Nat.le_of_ble_eq_true rfl, Nat.le_of_ble_eq_true rfl⟩) hN hK hP hD hS hA [0] [some 0, none] rfl rfl rfl rfl rfl rfl 0 rfl rfl rfl hl.1 rfl (Nat.le_of_ble_eq_true rfl) dX9_round_11 ⟨Nat.zero_le _, Nat.zero_le _⟩ (fun H locs hP hD hS => ?_)
    refine lv_if_eq (tgt := 65) hx hb dX9_round_14 (by decide) (fun hc => ?_) (fun hc => ?_)
    · have hf := o_t hf hc
      exact J65 _ _ _ hf (lv_sub hl [0, 1, 2, 3, 4, 5, 6, 7] rfl) hP hD hS
    · have hf := o_f hf hc
      refine lv_aload_n hx hb dX9_round_17 rfl (lv_at hl 0 rfl) ?_
      refine lv_iload_n hx hb dX9_round_18 rfl (lv_at hl 3 rfl) ?_
      obtain ⟨v11, hv11, hf⟩ := o_b1 hf
      refine x_vi (rest := []) (W1 := [x_o9 a_t t_p a_t_given t_isLaid t_isGood a_t_c t_points a_t_pointX a_t_pointY a_t_pointZ a_t_pointFlags t_flags a_t_flagPoint a_t_flagU a_t_flagV a_t_flagW a_t_next a_t_series a_t_mix a_t_cofactor t_formX t_formY t_formZ a_t_square t_isNought t_sumT t_sumY, x_ar cI a_t_given 12 t_given_r]) ⟨hx, hb, hml, hown, hts⟩ (tX9_isNumber l D cI a_t a_t_given a_t_c a_t_pointX a_t_pointY a_t_pointZ a_t_pointFlags a_t_flagPoint a_t_flagU a_t_flagV a_t_flagW a_t_next a_t_series a_t_mix a_t_cofactor a_t_square t_p t_isLaid t_isGood t_points t_flags t_formX t_formY t_formZ t_isNought t_sumT t_sumY i3 v11 hv11) (cwV 1 hts gX9_round_X9_isNumber rfl rfl rfl (by decide +kernel) ⟨Nat.le_of_ble_eq_true rfl, Nat.le_of_ble_eq_true rfl⟩) hN hK hP hD hS hA [0] [some 0, none] rfl rfl rfl rfl rfl rfl 0 rfl rfl rfl hl.1 rfl (Nat.le_of_ble_eq_true rfl) dX9_round_19 ⟨Nat.zero_le _, Nat.zero_le _⟩ (fun H locs hP hD hS => ?_)
      refine lv_if_eq (tgt := 65) hx hb dX9_round_22 (by decide) (fun hc => ?_) (fun hc => ?_)
      · have hf := o_t hf hc
        exact J65 _ _ _ hf (lv_sub hl [0, 1, 2, 3, 4, 5, 6, 7] rfl) hP hD hS
      · have hf := o_f hf hc
        refine lv_aload_n hx hb dX9_round_25 rfl (lv_at hl 0 rfl) ?_
        refine lv_iload hx hb dX9_round_26 (lv_at hl 4 rfl) ?_
        obtain ⟨v12, hv12, hf⟩ := o_b1 hf
        refine x_vi (rest := []) (W1 := [x_o9 a_t t_p a_t_given t_isLaid t_isGood a_t_c t_points a_t_pointX a_t_pointY a_t_pointZ a_t_pointFlags t_flags a_t_flagPoint a_t_flagU a_t_flagV a_t_flagW a_t_next a_t_series a_t_mix a_t_cofactor t_formX t_formY t_formZ a_t_square t_isNought t_sumT t_sumY, x_ar cI a_t_given 12 t_given_r]) ⟨hx, hb, hml, hown, hts⟩ (tX9_isNumber l D cI a_t a_t_given a_t_c a_t_pointX a_t_pointY a_t_pointZ a_t_pointFlags a_t_flagPoint a_t_flagU a_t_flagV a_t_flagW a_t_next a_t_series a_t_mix a_t_cofactor a_t_square t_p t_isLaid t_isGood t_points t_flags t_formX t_formY t_formZ t_isNought t_sumT t_sumY i4 v12 hv12) (cwV 1 hts gX9_round_X9_isNumber rfl rfl rfl (by decide +kernel) ⟨Nat.le_of_ble_eq_true rfl, Nat.le_of_ble_eq_true rfl⟩) hN hK hP hD hS hA [0] [some 0, none] rfl rfl rfl rfl rfl rfl 0 rfl rfl rfl hl.1 rfl (Nat.le_of_ble_eq_true rfl) dX9_round_28 ⟨Nat.zero_le _, Nat.zero_le _⟩ (fun H locs hP hD hS => ?_)
        refine lv_if_eq (tgt := 65) hx hb dX9_round_31 (by decide) (fun hc => ?_) (fun hc => ?_)
        · have hf := o_t hf hc
          exact J65 _ _ _ hf (lv_sub hl [0, 1, 2, 3, 4, 5, 6, 7] rfl) hP hD hS
        · have hf := o_f hf hc
          refine lv_aload_n hx hb dX9_round_34 rfl (lv_at hl 0 rfl) ?_
          refine lv_iload hx hb dX9_round_35 (lv_at hl 5 rfl) ?_
          obtain ⟨v13, hv13, hf⟩ := o_b1 hf
          refine x_vi (rest := []) (W1 := [x_o9 a_t t_p a_t_given t_isLaid t_isGood a_t_c t_points a_t_pointX a_t_pointY a_t_pointZ a_t_pointFlags t_flags a_t_flagPoint a_t_flagU a_t_flagV a_t_flagW a_t_next a_t_series a_t_mix a_t_cofactor t_formX t_formY t_formZ a_t_square t_isNought t_sumT t_sumY, x_ar cI a_t_given 12 t_given_r]) ⟨hx, hb, hml, hown, hts⟩ (tX9_isNumber l D cI a_t a_t_given a_t_c a_t_pointX a_t_pointY a_t_pointZ a_t_pointFlags a_t_flagPoint a_t_flagU a_t_flagV a_t_flagW a_t_next a_t_series a_t_mix a_t_cofactor a_t_square t_p t_isLaid t_isGood t_points t_flags t_formX t_formY t_formZ t_isNought t_sumT t_sumY i5 v13 hv13) (cwV 1 hts gX9_round_X9_isNumber rfl rfl rfl (by decide +kernel) ⟨Nat.le_of_ble_eq_true rfl, Nat.le_of_ble_eq_true rfl⟩) hN hK hP hD hS hA [0] [some 0, none] rfl rfl rfl rfl rfl rfl 0 rfl rfl rfl hl.1 rfl (Nat.le_of_ble_eq_true rfl) dX9_round_37 ⟨Nat.zero_le _, Nat.zero_le _⟩ (fun H locs hP hD hS => ?_)
          refine lv_if_eq (tgt := 65) hx hb dX9_round_40 (by decide) (fun hc => ?_) (fun hc => ?_)
          · have hf := o_t hf hc
            exact J65 _ _ _ hf (lv_sub hl [0, 1, 2, 3, 4, 5, 6, 7] rfl) hP hD hS
          · have hf := o_f hf hc
            refine lv_aload_n hx hb dX9_round_43 rfl (lv_at hl 0 rfl) ?_
            refine lv_iload hx hb dX9_round_44 (lv_at hl 6 rfl) ?_
            obtain ⟨v14, hv14, hf⟩ := o_b1 hf
            refine x_vi (rest := []) (W1 := [x_o9 a_t t_p a_t_given t_isLaid t_isGood a_t_c t_points a_t_pointX a_t_pointY a_t_pointZ a_t_pointFlags t_flags a_t_flagPoint a_t_flagU a_t_flagV a_t_flagW a_t_next a_t_series a_t_mix a_t_cofactor t_formX t_formY t_formZ a_t_square t_isNought t_sumT t_sumY, x_ar cI a_t_given 12 t_given_r]) ⟨hx, hb, hml, hown, hts⟩ (tX9_isNumber l D cI a_t a_t_given a_t_c a_t_pointX a_t_pointY a_t_pointZ a_t_pointFlags a_t_flagPoint a_t_flagU a_t_flagV a_t_flagW a_t_next a_t_series a_t_mix a_t_cofactor a_t_square t_p t_isLaid t_isGood t_points t_flags t_formX t_formY t_formZ t_isNought t_sumT t_sumY i6 v14 hv14) (cwV 1 hts gX9_round_X9_isNumber rfl rfl rfl (by decide +kernel) ⟨Nat.le_of_ble_eq_true rfl, Nat.le_of_ble_eq_true rfl⟩) hN hK hP hD hS hA [0] [some 0, none] rfl rfl rfl rfl rfl rfl 0 rfl rfl rfl hl.1 rfl (Nat.le_of_ble_eq_true rfl) dX9_round_46 ⟨Nat.zero_le _, Nat.zero_le _⟩ (fun H locs hP hD hS => ?_)
            refine lv_if_eq (tgt := 65) hx hb dX9_round_49 (by decide) (fun hc => ?_) (fun hc => ?_)
            · have hf := o_t hf hc
              exact J65 _ _ _ hf (lv_sub hl [0, 1, 2, 3, 4, 5, 6, 7] rfl) hP hD hS
            · have hf := o_f hf hc
              refine lv_aload_n hx hb dX9_round_52 rfl (lv_at hl 0 rfl) ?_
              refine lv_iload hx hb dX9_round_53 (lv_at hl 7 rfl) ?_
              obtain ⟨v15, hv15, hf⟩ := o_b1 hf
              refine x_vi (rest := []) (W1 := [x_o9 a_t t_p a_t_given t_isLaid t_isGood a_t_c t_points a_t_pointX a_t_pointY a_t_pointZ a_t_pointFlags t_flags a_t_flagPoint a_t_flagU a_t_flagV a_t_flagW a_t_next a_t_series a_t_mix a_t_cofactor t_formX t_formY t_formZ a_t_square t_isNought t_sumT t_sumY, x_ar cI a_t_given 12 t_given_r]) ⟨hx, hb, hml, hown, hts⟩ (tX9_isNumber l D cI a_t a_t_given a_t_c a_t_pointX a_t_pointY a_t_pointZ a_t_pointFlags a_t_flagPoint a_t_flagU a_t_flagV a_t_flagW a_t_next a_t_series a_t_mix a_t_cofactor a_t_square t_p t_isLaid t_isGood t_points t_flags t_formX t_formY t_formZ t_isNought t_sumT t_sumY i7 v15 hv15) (cwV 1 hts gX9_round_X9_isNumber rfl rfl rfl (by decide +kernel) ⟨Nat.le_of_ble_eq_true rfl, Nat.le_of_ble_eq_true rfl⟩) hN hK hP hD hS hA [0] [some 0, none] rfl rfl rfl rfl rfl rfl 0 rfl rfl rfl hl.1 rfl (Nat.le_of_ble_eq_true rfl) dX9_round_55 ⟨Nat.zero_le _, Nat.zero_le _⟩ (fun H locs hP hD hS => ?_)
              refine lv_if_eq (tgt := 65) hx hb dX9_round_58 (by decide) (fun hc => ?_) (fun hc => ?_)
              · have hf := o_t hf hc
                exact J65 _ _ _ hf (lv_sub hl [0, 1, 2, 3, 4, 5, 6, 7] rfl) hP hD hS
              · have hf := o_f hf hc
                refine lv_iconst (v := 1) hx hb dX9_round_61 (by decide) ?_
                refine lv_goto (tgt := 66) hx hb dX9_round_62 (by decide) ?_
                exact J66 1 _ _ _ hf (lv_sub hl [0, 1, 2, 3, 4, 5, 6, 7] rfl) hP hD hS
noncomputable def fX9_given (t_given_r : (Nat → Int32)) (i1 : Int32) (i2 : Int32) : Option (Int32) :=
  p_b1 (fX9_in i1 0 1) (fun v1 =>
if v1 = 0 then (some (-2)) else (p_b1 (fX9_in i2 0 5) (fun v2 =>
if v2 = 0 then (some (-2)) else (p_b1 (p_ld t_given_r 12 ((6 * i1) + i2)) (fun v3 =>
some v3)))))
def rmX9_given : Room := { frames := 1, cells := 0, slots := 0, locals := 22 }
set_option maxHeartbeats 4000000 in
set_option maxRecDepth 100000 in
theorem tX9_given (l : Launch) (D : va_G) (cI : ClassId) (a_t : Nat) (a_t_given : Nat) (a_t_c : Nat) (a_t_pointX : Nat) (a_t_pointY : Nat) (a_t_pointZ : Nat) (a_t_pointFlags : Nat) (a_t_flagPoint : Nat) (a_t_flagU : Nat) (a_t_flagV : Nat) (a_t_flagW : Nat) (a_t_next : Nat) (a_t_series : Nat) (a_t_mix : Nat) (a_t_cofactor : Nat) (a_t_square : Nat) (t_p : Int32) (t_isLaid : Int32) (t_isGood : Int32) (t_points : Int32) (t_flags : Int32) (t_formX : Int32) (t_formY : Int32) (t_formZ : Int32) (t_isNought : Int32) (t_sumT : Int32) (t_sumY : Int32) (t_given_r : (Nat → Int32)) (i1 : Int32) (i2 : Int32) (r : Int32) (hf : fX9_given t_given_r i1 i2 = some r) : x_CI l D cI yX9_given wsX9_given rmX9_given [.ref a_t, .int i1, .int i2] [x_o9 a_t t_p a_t_given t_isLaid t_isGood a_t_c t_points a_t_pointX a_t_pointY a_t_pointZ a_t_pointFlags t_flags a_t_flagPoint a_t_flagU a_t_flagV a_t_flagW a_t_next a_t_series a_t_mix a_t_cofactor t_formX t_formY t_formZ a_t_square t_isNought t_sumT t_sumY, x_ar cI a_t_given 12 t_given_r] [x_o9 a_t t_p a_t_given t_isLaid t_isGood a_t_c t_points a_t_pointX a_t_pointY a_t_pointZ a_t_pointFlags t_flags a_t_flagPoint a_t_flagU a_t_flagV a_t_flagW a_t_next a_t_series a_t_mix a_t_cofactor t_formX t_formY t_formZ a_t_square t_isNought t_sumT t_sumY, x_ar cI a_t_given 12 t_given_r] r := by
  refine x_CI_of (cc := cX9_given) (maxL := 3) (ty := .int) (own := RX9) (lv0 := [(0, .ref a_t), (1, .int i1), (2, .int i2)]) (by decide) rfl rfl (Nat.le_of_ble_eq_true rfl) rfl ?_
  intro p e s m args below meth c A Q ls hx hb hml hown hts hN hK hP hD hS hA hl hret
  have iX9 : ∀ w ∈ u_ws RX9 TX9 26, w ∈ wsX9_given := by decide +kernel
  have l13 := hts (.fieldLink RX9 13 "ChordRingsModel" "given" "[I") (by decide +kernel)
  unfold fX9_given at hf
  refine lv_iload_n hx hb dX9_given_0 rfl (lv_at hl 1 rfl) ?_
  refine lv_iconst (v := 0) hx hb dX9_given_1 (by decide) ?_
  refine lv_iconst (v := 1) hx hb dX9_given_2 (by decide) ?_
  obtain ⟨v1, hv1, hf⟩ := o_b1 hf
  refine x_si (rest := []) ⟨hx, hb, hml, hown, hts⟩ (tX9_in l D cI i1 0 1 v1 hv1) (va_cwS 3 hts gX9_given_X9_in rfl rfl rfl (by decide +kernel) ⟨Nat.le_of_ble_eq_true rfl, Nat.le_of_ble_eq_true rfl⟩) hN hK hP hD hS hA rfl hl.1 rfl (Nat.le_of_ble_eq_true rfl) dX9_given_3 ⟨Nat.zero_le _, Nat.zero_le _⟩ (fun H locs hP hD hS => ?_)
  refine lv_if_eq (tgt := 32) hx hb dX9_given_6 (by decide) (fun hc => ?_) (fun hc => ?_)
  · have hf := o_t hf hc
    refine lv_bipush (v := (-2)) hx hb dX9_given_32 (by decide) ?_
    obtain rfl := Option.some.inj hf
    exact hret rfl rfl dX9_given_34 hP hD hS
  · have hf := o_f hf hc
    refine lv_iload_n hx hb dX9_given_9 rfl (lv_at hl 2 rfl) ?_
    refine lv_iconst (v := 0) hx hb dX9_given_10 (by decide) ?_
    refine lv_iconst (v := 5) hx hb dX9_given_11 (by decide) ?_
    obtain ⟨v2, hv2, hf⟩ := o_b1 hf
    refine x_si (rest := []) ⟨hx, hb, hml, hown, hts⟩ (tX9_in l D cI i2 0 5 v2 hv2) (va_cwS 3 hts gX9_given_X9_in rfl rfl rfl (by decide +kernel) ⟨Nat.le_of_ble_eq_true rfl, Nat.le_of_ble_eq_true rfl⟩) hN hK hP hD hS hA rfl hl.1 rfl (Nat.le_of_ble_eq_true rfl) dX9_given_12 ⟨Nat.zero_le _, Nat.zero_le _⟩ (fun H locs hP hD hS => ?_)
    refine lv_if_eq (tgt := 32) hx hb dX9_given_15 (by decide) (fun hc => ?_) (fun hc => ?_)
    · have hf := o_t hf hc
      refine lv_bipush (v := (-2)) hx hb dX9_given_32 (by decide) ?_
      obtain rfl := Option.some.inj hf
      exact hret rfl rfl dX9_given_34 hP hD hS
    · have hf := o_f hf hc
      refine lv_aload_n hx hb dX9_given_18 rfl (lv_at hl 0 rfl) ?_
      refine va_get (D := D) (ci := 9) (C := RX9) (T := TX9) (N := 26) hx hb hts iX9 hown hK hP 0 rfl rfl 1 (by decide) l13 (fun _ h9 => h9) rfl dX9_given_19 ?_
      refine lv_bipush (v := 6) hx hb dX9_given_22 (by decide) ?_
      refine lv_iload_n hx hb dX9_given_24 rfl (lv_at hl 1 rfl) ?_
      refine lv_imul hx hb dX9_given_25 ?_
      refine lv_iload_n hx hb dX9_given_26 rfl (lv_at hl 2 rfl) ?_
      refine lv_iadd hx hb dX9_given_27 ?_
      obtain ⟨v3, hv3, hf⟩ := o_b1 hf
      refine x_ald hx hb hK hP 1 rfl hv3 dX9_given_28 ?_
      refine lv_goto (tgt := 34) hx hb dX9_given_29 (by decide) ?_
      obtain rfl := Option.some.inj hf
      exact hret rfl rfl dX9_given_34 hP hD hS
noncomputable def fX9_of (t_p : Int32) (i1 : Int32) : Option (Int32) :=
  p_b1 (p_rm i1 t_p) (fun v1 =>
if 0 ≤ v1 then (some v1) else (some (v1 + t_p)))
def rmX9_of : Room := { frames := 0, cells := 0, slots := 0, locals := 0 }
set_option maxHeartbeats 4000000 in
set_option maxRecDepth 100000 in
theorem tX9_of (l : Launch) (D : va_G) (cI : ClassId) (a_t : Nat) (a_t_given : Nat) (a_t_c : Nat) (a_t_pointX : Nat) (a_t_pointY : Nat) (a_t_pointZ : Nat) (a_t_pointFlags : Nat) (a_t_flagPoint : Nat) (a_t_flagU : Nat) (a_t_flagV : Nat) (a_t_flagW : Nat) (a_t_next : Nat) (a_t_series : Nat) (a_t_mix : Nat) (a_t_cofactor : Nat) (a_t_square : Nat) (t_p : Int32) (t_isLaid : Int32) (t_isGood : Int32) (t_points : Int32) (t_flags : Int32) (t_formX : Int32) (t_formY : Int32) (t_formZ : Int32) (t_isNought : Int32) (t_sumT : Int32) (t_sumY : Int32) (i1 : Int32) (r : Int32) (hf : fX9_of t_p i1 = some r) : x_CI l D cI yX9_of wsX9_of rmX9_of [.ref a_t, .int i1] [x_o9 a_t t_p a_t_given t_isLaid t_isGood a_t_c t_points a_t_pointX a_t_pointY a_t_pointZ a_t_pointFlags t_flags a_t_flagPoint a_t_flagU a_t_flagV a_t_flagW a_t_next a_t_series a_t_mix a_t_cofactor t_formX t_formY t_formZ a_t_square t_isNought t_sumT t_sumY] [x_o9 a_t t_p a_t_given t_isLaid t_isGood a_t_c t_points a_t_pointX a_t_pointY a_t_pointZ a_t_pointFlags t_flags a_t_flagPoint a_t_flagU a_t_flagV a_t_flagW a_t_next a_t_series a_t_mix a_t_cofactor t_formX t_formY t_formZ a_t_square t_isNought t_sumT t_sumY] r := by
  refine x_CI_of (cc := cX9_of) (maxL := 3) (ty := .int) (own := RX9) (lv0 := [(0, .ref a_t), (1, .int i1)]) (by decide) rfl rfl (Nat.le_of_ble_eq_true rfl) rfl ?_
  intro p e s m args below meth c A Q ls hx hb hml hown hts hN hK hP hD hS hA hl hret
  have iX9 : ∀ w ∈ u_ws RX9 TX9 26, w ∈ wsX9_of := by decide +kernel
  have l7 := hts (.fieldLink RX9 7 "ChordRingsModel" "p" "I") (by decide +kernel)
  unfold fX9_of at hf
  refine lv_iload_n hx hb dX9_of_0 rfl (lv_at hl 1 rfl) ?_
  refine lv_aload_n hx hb dX9_of_1 rfl (lv_at hl 0 rfl) ?_
  refine va_get (D := D) (ci := 9) (C := RX9) (T := TX9) (N := 26) hx hb hts iX9 hown hK hP 0 rfl rfl 0 (by decide) l7 (fun _ h9 => h9) rfl dX9_of_2 ?_
  obtain ⟨v1, hv1, hf⟩ := o_b1 hf
  refine x_rm hx hb hv1 dX9_of_5 ?_
  refine lv_istore_n (lv' := [(2, .int v1), (0, .ref a_t), (1, .int i1)]) hx hb dX9_of_6 rfl hl (by decide) rfl (fun ls hl => ?_)
  refine lv_iload_n hx hb dX9_of_7 rfl (lv_at hl 0 rfl) ?_
  refine lv_if_ge (tgt := 20) hx hb dX9_of_8 (by decide) (fun hc => ?_) (fun hc => ?_)
  · have hf := o_t hf hc
    refine lv_iload_n hx hb dX9_of_20 rfl (lv_at hl 0 rfl) ?_
    obtain rfl := Option.some.inj hf
    exact hret rfl rfl dX9_of_21 hP hD hS
  · have hf := o_f hf hc
    refine lv_iload_n hx hb dX9_of_11 rfl (lv_at hl 0 rfl) ?_
    refine lv_aload_n hx hb dX9_of_12 rfl (lv_at hl 1 rfl) ?_
    refine va_get (D := D) (ci := 9) (C := RX9) (T := TX9) (N := 26) hx hb hts iX9 hown hK hP 0 rfl rfl 0 (by decide) l7 (fun _ h9 => h9) rfl dX9_of_13 ?_
    refine lv_iadd hx hb dX9_of_16 ?_
    refine lv_goto (tgt := 21) hx hb dX9_of_17 (by decide) ?_
    obtain rfl := Option.some.inj hf
    exact hret rfl rfl dX9_of_21 hP hD hS
noncomputable def kX9_power_56 (y4 : Int32) : Option (Int32) :=
  some y4
noncomputable def jX9_power_34 (t_p : Int32) (x2 : Int32) (x3 : Int32) (rec8 : Int32 → Int32 → Int32 → Option (Int32)) (y5 : Int32) : Option (Int32) :=
  p_b1 (p_rm (x2 * x2) t_p) (fun v6 =>
p_nm (x3 >>> (1 &&& 31)) (fun v7 =>
rec8 y5 v6 v7))
noncomputable def FgX9_power_8 (t_p : Int32) (rec8 : Int32 → Int32 → Int32 → Option (Int32)) (kk8 : Int32 → Option (Int32)) (x1 : Int32) (x2 : Int32) (x3 : Int32) : Option (Int32) :=
  if x3 ≤ 0 then (kk8 x1) else (if (x3 &&& 1) = 1 then (p_b1 (p_rm (x1 * x2) t_p) (fun v8 =>
jX9_power_34 t_p x2 x3 rec8 v8)) else (jX9_power_34 t_p x2 x3 rec8 x1))
noncomputable def gX9_power_8 (t_p : Int32) (kk8 : Int32 → Option (Int32)) (n : Nat) : Int32 → Int32 → Int32 → Option (Int32) := Nat.rec (motive := fun _ => Int32 → Int32 → Int32 → Option (Int32)) (fun _ _ _ => none) (fun _ rec8 => FgX9_power_8 t_p rec8 kk8) n
noncomputable def fX9_power (t_p : Int32) (i1 : Int32) (i2 : Int32) : Option (Int32) :=
  gX9_power_8 t_p (kX9_power_56) p_FU 1 i1 i2
def rmX9_power : Room := { frames := 0, cells := 0, slots := 0, locals := 0 }
set_option maxHeartbeats 4000000 in
set_option maxRecDepth 100000 in
theorem tX9_power (l : Launch) (D : va_G) (cI : ClassId) (a_t : Nat) (a_t_given : Nat) (a_t_c : Nat) (a_t_pointX : Nat) (a_t_pointY : Nat) (a_t_pointZ : Nat) (a_t_pointFlags : Nat) (a_t_flagPoint : Nat) (a_t_flagU : Nat) (a_t_flagV : Nat) (a_t_flagW : Nat) (a_t_next : Nat) (a_t_series : Nat) (a_t_mix : Nat) (a_t_cofactor : Nat) (a_t_square : Nat) (t_p : Int32) (t_isLaid : Int32) (t_isGood : Int32) (t_points : Int32) (t_flags : Int32) (t_formX : Int32) (t_formY : Int32) (t_formZ : Int32) (t_isNought : Int32) (t_sumT : Int32) (t_sumY : Int32) (i1 : Int32) (i2 : Int32) (r : Int32) (hf : fX9_power t_p i1 i2 = some r) : x_CI l D cI yX9_power wsX9_power rmX9_power [.ref a_t, .int i1, .int i2] [x_o9 a_t t_p a_t_given t_isLaid t_isGood a_t_c t_points a_t_pointX a_t_pointY a_t_pointZ a_t_pointFlags t_flags a_t_flagPoint a_t_flagU a_t_flagV a_t_flagW a_t_next a_t_series a_t_mix a_t_cofactor t_formX t_formY t_formZ a_t_square t_isNought t_sumT t_sumY] [x_o9 a_t t_p a_t_given t_isLaid t_isGood a_t_c t_points a_t_pointX a_t_pointY a_t_pointZ a_t_pointFlags t_flags a_t_flagPoint a_t_flagU a_t_flagV a_t_flagW a_t_next a_t_series a_t_mix a_t_cofactor t_formX t_formY t_formZ a_t_square t_isNought t_sumT t_sumY] r := by
  refine x_CI_of (cc := cX9_power) (maxL := 6) (ty := .int) (own := RX9) (lv0 := [(0, .ref a_t), (1, .int i1), (2, .int i2)]) (by decide) rfl rfl (Nat.le_of_ble_eq_true rfl) rfl ?_
  intro p e s m args below meth c A Q ls hx hb hml hown hts hN hK hP hD hS hA hl hret
  have iX9 : ∀ w ∈ u_ws RX9 TX9 26, w ∈ wsX9_power := by decide +kernel
  have l7 := hts (.fieldLink RX9 7 "ChordRingsModel" "p" "I") (by decide +kernel)
  unfold fX9_power at hf
  refine lv_iconst (v := 1) hx hb dX9_power_0 (by decide) ?_
  refine lv_istore_n (lv' := [(3, .int 1), (0, .ref a_t), (1, .int i1), (2, .int i2)]) hx hb dX9_power_1 rfl hl (by decide) rfl (fun ls hl => ?_)
  refine lv_iload_n hx hb dX9_power_2 rfl (lv_at hl 2 rfl) ?_
  refine lv_istore (lv' := [(4, .int i1), (3, .int 1), (0, .ref a_t), (1, .int i1), (2, .int i2)]) hx hb dX9_power_3 hl (by decide) rfl (fun ls hl => ?_)
  refine lv_iload_n hx hb dX9_power_5 rfl (lv_at hl 4 rfl) ?_
  refine lv_istore (lv' := [(5, .int i2), (4, .int i1), (3, .int 1), (0, .ref a_t), (1, .int i1), (2, .int i2)]) hx hb dX9_power_6 hl (by decide) rfl (fun ls hl => ?_)
  have L8 : ∀ (n : Nat) (x1 : Int32) (x2 : Int32) (x3 : Int32) (ls : Array Slot) (H : Heap) (locs : List Loc), gX9_power_8 t_p (kX9_power_56) n x1 x2 x3 = some r → lv_has ls 6 [(0, .ref a_t), (3, .int x1), (4, .int x2), (5, .int x3)] → va_P D vwCl [x_o9 a_t t_p a_t_given t_isLaid t_isGood a_t_c t_points a_t_pointX a_t_pointY a_t_pointZ a_t_pointFlags t_flags a_t_flagPoint a_t_flagU a_t_flagV a_t_flagW a_t_next a_t_series a_t_mix a_t_cofactor t_formX t_formY t_formZ a_t_square t_isNought t_sumT t_sumY] H → va_D A [x_o9 a_t t_p a_t_given t_isLaid t_isGood a_t_c t_points a_t_pointX a_t_pointY a_t_pointZ a_t_pointFlags t_flags a_t_flagPoint a_t_flagU a_t_flagV a_t_flagW a_t_next a_t_series a_t_mix a_t_cofactor t_formX t_formY t_formZ a_t_square t_isNought t_sumT t_sumY] → va_S A s.heap H locs → W p l e rmX9_power s m args below meth c H locs 0 0 Q (F0 m 8 ls []) := by
    intro n8
    induction n8 with
    | zero =>
      intro x1 x2 x3 ls H locs hf
      exact nomatch (show (none : Option (Int32)) = some r from hf)
    | succ n8 ih8 =>
      intro x1 x2 x3 ls H locs hf hl hP hD hS
      have hf : FgX9_power_8 t_p (gX9_power_8 t_p (kX9_power_56) n8) (kX9_power_56) x1 x2 x3 = some r := hf
      unfold FgX9_power_8 at hf
      refine lv_iload hx hb dX9_power_8 (lv_at hl 3 rfl) ?_
      have J56 : ∀ (y4 : Int32) (ls : Array Slot) (H : Heap) (locs : List Loc), kX9_power_56 y4 = some r → lv_has ls 6 [(3, .int y4)] → va_P D vwCl [x_o9 a_t t_p a_t_given t_isLaid t_isGood a_t_c t_points a_t_pointX a_t_pointY a_t_pointZ a_t_pointFlags t_flags a_t_flagPoint a_t_flagU a_t_flagV a_t_flagW a_t_next a_t_series a_t_mix a_t_cofactor t_formX t_formY t_formZ a_t_square t_isNought t_sumT t_sumY] H → va_D A [x_o9 a_t t_p a_t_given t_isLaid t_isGood a_t_c t_points a_t_pointX a_t_pointY a_t_pointZ a_t_pointFlags t_flags a_t_flagPoint a_t_flagU a_t_flagV a_t_flagW a_t_next a_t_series a_t_mix a_t_cofactor t_formX t_formY t_formZ a_t_square t_isNought t_sumT t_sumY] → va_S A s.heap H locs → W p l e rmX9_power s m args below meth c H locs 0 0 Q (F0 m 56 ls []) := by
        intro y4 ls H locs hf hl hP hD hS
        unfold kX9_power_56 at hf
        refine lv_iload_n hx hb dX9_power_56 rfl (lv_at hl 0 rfl) ?_
        obtain rfl := Option.some.inj hf
        exact hret rfl rfl dX9_power_57 hP hD hS
      refine lv_if_le (tgt := 56) hx hb dX9_power_10 (by decide) (fun hc => ?_) (fun hc => ?_)
      · have hf := o_t hf hc
        exact J56 x1 _ _ _ hf (lv_sub hl [1] rfl) hP hD hS
      · have hf := o_f hf hc
        refine lv_iload hx hb dX9_power_13 (lv_at hl 3 rfl) ?_
        refine lv_iconst (v := 1) hx hb dX9_power_15 (by decide) ?_
        refine lv_iand hx hb dX9_power_16 ?_
        refine lv_iconst (v := 1) hx hb dX9_power_17 (by decide) ?_
        have J34 : ∀ (y5 : Int32) (ls : Array Slot) (H : Heap) (locs : List Loc), jX9_power_34 t_p x2 x3 (gX9_power_8 t_p (kX9_power_56) n8) y5 = some r → lv_has ls 6 [(0, .ref a_t), (4, .int x2), (5, .int x3)] → va_P D vwCl [x_o9 a_t t_p a_t_given t_isLaid t_isGood a_t_c t_points a_t_pointX a_t_pointY a_t_pointZ a_t_pointFlags t_flags a_t_flagPoint a_t_flagU a_t_flagV a_t_flagW a_t_next a_t_series a_t_mix a_t_cofactor t_formX t_formY t_formZ a_t_square t_isNought t_sumT t_sumY] H → va_D A [x_o9 a_t t_p a_t_given t_isLaid t_isGood a_t_c t_points a_t_pointX a_t_pointY a_t_pointZ a_t_pointFlags t_flags a_t_flagPoint a_t_flagU a_t_flagV a_t_flagW a_t_next a_t_series a_t_mix a_t_cofactor t_formX t_formY t_formZ a_t_square t_isNought t_sumT t_sumY] → va_S A s.heap H locs → W p l e rmX9_power s m args below meth c H locs 0 0 Q (F0 m 34 ls [.int y5]) := by
          intro y5 ls H locs hf hl hP hD hS
          unfold jX9_power_34 at hf
          refine lv_istore_n (lv' := [(3, .int y5), (0, .ref a_t), (4, .int x2), (5, .int x3)]) hx hb dX9_power_34 rfl hl (by decide) rfl (fun ls hl => ?_)
          refine lv_iload hx hb dX9_power_35 (lv_at hl 2 rfl) ?_
          refine lv_iload hx hb dX9_power_37 (lv_at hl 2 rfl) ?_
          refine lv_imul hx hb dX9_power_39 ?_
          refine lv_aload_n hx hb dX9_power_40 rfl (lv_at hl 1 rfl) ?_
          refine va_get (D := D) (ci := 9) (C := RX9) (T := TX9) (N := 26) hx hb hts iX9 hown hK hP 0 rfl rfl 0 (by decide) l7 (fun _ h9 => h9) rfl dX9_power_41 ?_
          obtain ⟨v6, hv6, hf⟩ := o_b1 hf
          refine x_rm hx hb hv6 dX9_power_44 ?_
          refine lv_istore (lv' := [(4, .int v6), (3, .int y5), (0, .ref a_t), (5, .int x3)]) hx hb dX9_power_45 hl (by decide) rfl (fun ls hl => ?_)
          refine lv_iload hx hb dX9_power_47 (lv_at hl 3 rfl) ?_
          refine lv_iconst (v := 1) hx hb dX9_power_49 (by decide) ?_
          refine lv_ishr hx hb dX9_power_50 ?_
          obtain ⟨v7, ev7, hf⟩ := o_nm hf
          refine x_top ev7 ?_
          refine lv_istore (lv' := [(5, .int v7), (4, .int v6), (3, .int y5), (0, .ref a_t)]) hx hb dX9_power_51 hl (by decide) rfl (fun ls hl => ?_)
          refine lv_goto (tgt := 8) hx hb dX9_power_53 (by decide) ?_
          exact ih8 y5 v6 v7 _ _ _ hf (lv_sub hl [3, 2, 1, 0] rfl) hP hD hS
        refine lv_icmp_ne (tgt := 33) hx hb dX9_power_18 (by decide) (fun hc => ?_) (fun hc => ?_)
        · have hf := o_f hf hc
          refine lv_iload_n hx hb dX9_power_33 rfl (lv_at hl 1 rfl) ?_
          exact J34 x1 _ _ _ hf (lv_sub hl [0, 2, 3] rfl) hP hD hS
        · have hf := o_t hf hc
          refine lv_iload_n hx hb dX9_power_21 rfl (lv_at hl 1 rfl) ?_
          refine lv_iload hx hb dX9_power_22 (lv_at hl 2 rfl) ?_
          refine lv_imul hx hb dX9_power_24 ?_
          refine lv_aload_n hx hb dX9_power_25 rfl (lv_at hl 0 rfl) ?_
          refine va_get (D := D) (ci := 9) (C := RX9) (T := TX9) (N := 26) hx hb hts iX9 hown hK hP 0 rfl rfl 0 (by decide) l7 (fun _ h9 => h9) rfl dX9_power_26 ?_
          obtain ⟨v8, hv8, hf⟩ := o_b1 hf
          refine x_rm hx hb hv8 dX9_power_29 ?_
          refine lv_goto (tgt := 34) hx hb dX9_power_30 (by decide) ?_
          exact J34 v8 _ _ _ hf (lv_sub hl [0, 2, 3] rfl) hP hD hS
  exact L8 p_FU 1 i1 i2 _ _ _ hf (lv_sub hl [3, 2, 1, 0] rfl) hP hD hS
noncomputable def fX9_by (t_p : Int32) (i1 : Int32) (i2 : Int32) : Option (Int32) :=
  p_b1 (fX9_power t_p i2 (t_p - 2)) (fun v1 =>
p_b1 (p_rm (i1 * v1) t_p) (fun v2 =>
some v2))
def rmX9_by : Room := { frames := 1, cells := 0, slots := 0, locals := 25 }
set_option maxHeartbeats 4000000 in
set_option maxRecDepth 100000 in
theorem tX9_by (l : Launch) (D : va_G) (cI : ClassId) (a_t : Nat) (a_t_given : Nat) (a_t_c : Nat) (a_t_pointX : Nat) (a_t_pointY : Nat) (a_t_pointZ : Nat) (a_t_pointFlags : Nat) (a_t_flagPoint : Nat) (a_t_flagU : Nat) (a_t_flagV : Nat) (a_t_flagW : Nat) (a_t_next : Nat) (a_t_series : Nat) (a_t_mix : Nat) (a_t_cofactor : Nat) (a_t_square : Nat) (t_p : Int32) (t_isLaid : Int32) (t_isGood : Int32) (t_points : Int32) (t_flags : Int32) (t_formX : Int32) (t_formY : Int32) (t_formZ : Int32) (t_isNought : Int32) (t_sumT : Int32) (t_sumY : Int32) (i1 : Int32) (i2 : Int32) (r : Int32) (hf : fX9_by t_p i1 i2 = some r) : x_CI l D cI yX9_by wsX9_by rmX9_by [.ref a_t, .int i1, .int i2] [x_o9 a_t t_p a_t_given t_isLaid t_isGood a_t_c t_points a_t_pointX a_t_pointY a_t_pointZ a_t_pointFlags t_flags a_t_flagPoint a_t_flagU a_t_flagV a_t_flagW a_t_next a_t_series a_t_mix a_t_cofactor t_formX t_formY t_formZ a_t_square t_isNought t_sumT t_sumY] [x_o9 a_t t_p a_t_given t_isLaid t_isGood a_t_c t_points a_t_pointX a_t_pointY a_t_pointZ a_t_pointFlags t_flags a_t_flagPoint a_t_flagU a_t_flagV a_t_flagW a_t_next a_t_series a_t_mix a_t_cofactor t_formX t_formY t_formZ a_t_square t_isNought t_sumT t_sumY] r := by
  refine x_CI_of (cc := cX9_by) (maxL := 3) (ty := .int) (own := RX9) (lv0 := [(0, .ref a_t), (1, .int i1), (2, .int i2)]) (by decide) rfl rfl (Nat.le_of_ble_eq_true rfl) rfl ?_
  intro p e s m args below meth c A Q ls hx hb hml hown hts hN hK hP hD hS hA hl hret
  have iX9 : ∀ w ∈ u_ws RX9 TX9 26, w ∈ wsX9_by := by decide +kernel
  have l7 := hts (.fieldLink RX9 7 "ChordRingsModel" "p" "I") (by decide +kernel)
  unfold fX9_by at hf
  refine lv_iload_n hx hb dX9_by_0 rfl (lv_at hl 1 rfl) ?_
  refine lv_aload_n hx hb dX9_by_1 rfl (lv_at hl 0 rfl) ?_
  refine lv_iload_n hx hb dX9_by_2 rfl (lv_at hl 2 rfl) ?_
  refine lv_aload_n hx hb dX9_by_3 rfl (lv_at hl 0 rfl) ?_
  refine va_get (D := D) (ci := 9) (C := RX9) (T := TX9) (N := 26) hx hb hts iX9 hown hK hP 0 rfl rfl 0 (by decide) l7 (fun _ h9 => h9) rfl dX9_by_4 ?_
  refine lv_iconst (v := 2) hx hb dX9_by_7 (by decide) ?_
  refine lv_isub hx hb dX9_by_8 ?_
  obtain ⟨v1, hv1, hf⟩ := o_b1 hf
  refine x_vi (rest := [.int i1]) (W1 := [x_o9 a_t t_p a_t_given t_isLaid t_isGood a_t_c t_points a_t_pointX a_t_pointY a_t_pointZ a_t_pointFlags t_flags a_t_flagPoint a_t_flagU a_t_flagV a_t_flagW a_t_next a_t_series a_t_mix a_t_cofactor t_formX t_formY t_formZ a_t_square t_isNought t_sumT t_sumY]) ⟨hx, hb, hml, hown, hts⟩ (tX9_power l D cI a_t a_t_given a_t_c a_t_pointX a_t_pointY a_t_pointZ a_t_pointFlags a_t_flagPoint a_t_flagU a_t_flagV a_t_flagW a_t_next a_t_series a_t_mix a_t_cofactor a_t_square t_p t_isLaid t_isGood t_points t_flags t_formX t_formY t_formZ t_isNought t_sumT t_sumY i2 (t_p - 2) v1 hv1) (cwV 2 hts gX9_by_X9_power rfl rfl rfl (by decide +kernel) ⟨Nat.le_of_ble_eq_true rfl, Nat.le_of_ble_eq_true rfl⟩) hN hK hP hD hS hA [0] [some 0] rfl rfl rfl rfl rfl rfl 0 rfl rfl rfl hl.1 rfl (Nat.le_of_ble_eq_true rfl) dX9_by_9 ⟨Nat.zero_le _, Nat.zero_le _⟩ (fun H locs hP hD hS => ?_)
  refine lv_imul hx hb dX9_by_12 ?_
  refine lv_aload_n hx hb dX9_by_13 rfl (lv_at hl 0 rfl) ?_
  refine va_get (D := D) (ci := 9) (C := RX9) (T := TX9) (N := 26) hx hb hts iX9 hown hK hP 0 rfl rfl 0 (by decide) l7 (fun _ h9 => h9) rfl dX9_by_14 ?_
  obtain ⟨v2, hv2, hf⟩ := o_b1 hf
  refine x_rm hx hb hv2 dX9_by_17 ?_
  obtain rfl := Option.some.inj hf
  exact hret rfl rfl dX9_by_18 hP hD hS
noncomputable def jX9_work_37 (t_p : Int32) (i1 : Int32) (i2 : Int32) (i3 : Int32) : Option (Int32) :=
  if i1 = 0 then (p_b1 (p_rm (i2 + i3) t_p) (fun v6 =>
some v6)) else (if i1 = 1 then (p_b1 (p_rm (i2 * i3) t_p) (fun v5 =>
some v5)) else (p_b1 (fX9_by t_p i2 i3) (fun v4 =>
some v4)))
noncomputable def fX9_work (t_p : Int32) (i1 : Int32) (i2 : Int32) (i3 : Int32) : Option (Int32) :=
  p_b1 (fX9_in i1 0 2) (fun v1 =>
if v1 = 0 then (some (-2)) else (p_b1 (fX9_isNumber t_p i2) (fun v2 =>
if v2 = 0 then (some (-2)) else (p_b1 (fX9_isNumber t_p i3) (fun v3 =>
if v3 = 0 then (some (-2)) else (if i1 = 2 then (if i3 = 0 then (some (-2)) else (jX9_work_37 t_p i1 i2 i3)) else (jX9_work_37 t_p i1 i2 i3)))))))
def rmX9_work : Room := { frames := 2, cells := 0, slots := 0, locals := 47 }
set_option maxHeartbeats 4000000 in
set_option maxRecDepth 100000 in
theorem tX9_work (l : Launch) (D : va_G) (cI : ClassId) (a_t : Nat) (a_t_given : Nat) (a_t_c : Nat) (a_t_pointX : Nat) (a_t_pointY : Nat) (a_t_pointZ : Nat) (a_t_pointFlags : Nat) (a_t_flagPoint : Nat) (a_t_flagU : Nat) (a_t_flagV : Nat) (a_t_flagW : Nat) (a_t_next : Nat) (a_t_series : Nat) (a_t_mix : Nat) (a_t_cofactor : Nat) (a_t_square : Nat) (t_p : Int32) (t_isLaid : Int32) (t_isGood : Int32) (t_points : Int32) (t_flags : Int32) (t_formX : Int32) (t_formY : Int32) (t_formZ : Int32) (t_isNought : Int32) (t_sumT : Int32) (t_sumY : Int32) (i1 : Int32) (i2 : Int32) (i3 : Int32) (r : Int32) (hf : fX9_work t_p i1 i2 i3 = some r) : x_CI l D cI yX9_work wsX9_work rmX9_work [.ref a_t, .int i1, .int i2, .int i3] [x_o9 a_t t_p a_t_given t_isLaid t_isGood a_t_c t_points a_t_pointX a_t_pointY a_t_pointZ a_t_pointFlags t_flags a_t_flagPoint a_t_flagU a_t_flagV a_t_flagW a_t_next a_t_series a_t_mix a_t_cofactor t_formX t_formY t_formZ a_t_square t_isNought t_sumT t_sumY] [x_o9 a_t t_p a_t_given t_isLaid t_isGood a_t_c t_points a_t_pointX a_t_pointY a_t_pointZ a_t_pointFlags t_flags a_t_flagPoint a_t_flagU a_t_flagV a_t_flagW a_t_next a_t_series a_t_mix a_t_cofactor t_formX t_formY t_formZ a_t_square t_isNought t_sumT t_sumY] r := by
  refine x_CI_of (cc := cX9_work) (maxL := 4) (ty := .int) (own := RX9) (lv0 := [(0, .ref a_t), (1, .int i1), (2, .int i2), (3, .int i3)]) (by decide) rfl rfl (Nat.le_of_ble_eq_true rfl) rfl ?_
  intro p e s m args below meth c A Q ls hx hb hml hown hts hN hK hP hD hS hA hl hret
  have iX9 : ∀ w ∈ u_ws RX9 TX9 26, w ∈ wsX9_work := by decide +kernel
  have l7 := hts (.fieldLink RX9 7 "ChordRingsModel" "p" "I") (by decide +kernel)
  unfold fX9_work at hf
  refine lv_iload_n hx hb dX9_work_0 rfl (lv_at hl 1 rfl) ?_
  refine lv_iconst (v := 0) hx hb dX9_work_1 (by decide) ?_
  refine lv_iconst (v := 2) hx hb dX9_work_2 (by decide) ?_
  obtain ⟨v1, hv1, hf⟩ := o_b1 hf
  refine x_si (rest := []) ⟨hx, hb, hml, hown, hts⟩ (tX9_in l D cI i1 0 2 v1 hv1) (va_cwS 3 hts gX9_work_X9_in rfl rfl rfl (by decide +kernel) ⟨Nat.le_of_ble_eq_true rfl, Nat.le_of_ble_eq_true rfl⟩) hN hK hP hD hS hA rfl hl.1 rfl (Nat.le_of_ble_eq_true rfl) dX9_work_3 ⟨Nat.zero_le _, Nat.zero_le _⟩ (fun H locs hP hD hS => ?_)
  refine lv_if_eq (tgt := 34) hx hb dX9_work_6 (by decide) (fun hc => ?_) (fun hc => ?_)
  · have hf := o_t hf hc
    refine lv_bipush (v := (-2)) hx hb dX9_work_34 (by decide) ?_
    obtain rfl := Option.some.inj hf
    exact hret rfl rfl dX9_work_36 hP hD hS
  · have hf := o_f hf hc
    refine lv_aload_n hx hb dX9_work_9 rfl (lv_at hl 0 rfl) ?_
    refine lv_iload_n hx hb dX9_work_10 rfl (lv_at hl 2 rfl) ?_
    obtain ⟨v2, hv2, hf⟩ := o_b1 hf
    refine x_vi (rest := []) (W1 := [x_o9 a_t t_p a_t_given t_isLaid t_isGood a_t_c t_points a_t_pointX a_t_pointY a_t_pointZ a_t_pointFlags t_flags a_t_flagPoint a_t_flagU a_t_flagV a_t_flagW a_t_next a_t_series a_t_mix a_t_cofactor t_formX t_formY t_formZ a_t_square t_isNought t_sumT t_sumY]) ⟨hx, hb, hml, hown, hts⟩ (tX9_isNumber l D cI a_t a_t_given a_t_c a_t_pointX a_t_pointY a_t_pointZ a_t_pointFlags a_t_flagPoint a_t_flagU a_t_flagV a_t_flagW a_t_next a_t_series a_t_mix a_t_cofactor a_t_square t_p t_isLaid t_isGood t_points t_flags t_formX t_formY t_formZ t_isNought t_sumT t_sumY i2 v2 hv2) (cwV 1 hts gX9_work_X9_isNumber rfl rfl rfl (by decide +kernel) ⟨Nat.le_of_ble_eq_true rfl, Nat.le_of_ble_eq_true rfl⟩) hN hK hP hD hS hA [0] [some 0] rfl rfl rfl rfl rfl rfl 0 rfl rfl rfl hl.1 rfl (Nat.le_of_ble_eq_true rfl) dX9_work_11 ⟨Nat.zero_le _, Nat.zero_le _⟩ (fun H locs hP hD hS => ?_)
    refine lv_if_eq (tgt := 34) hx hb dX9_work_14 (by decide) (fun hc => ?_) (fun hc => ?_)
    · have hf := o_t hf hc
      refine lv_bipush (v := (-2)) hx hb dX9_work_34 (by decide) ?_
      obtain rfl := Option.some.inj hf
      exact hret rfl rfl dX9_work_36 hP hD hS
    · have hf := o_f hf hc
      refine lv_aload_n hx hb dX9_work_17 rfl (lv_at hl 0 rfl) ?_
      refine lv_iload_n hx hb dX9_work_18 rfl (lv_at hl 3 rfl) ?_
      obtain ⟨v3, hv3, hf⟩ := o_b1 hf
      refine x_vi (rest := []) (W1 := [x_o9 a_t t_p a_t_given t_isLaid t_isGood a_t_c t_points a_t_pointX a_t_pointY a_t_pointZ a_t_pointFlags t_flags a_t_flagPoint a_t_flagU a_t_flagV a_t_flagW a_t_next a_t_series a_t_mix a_t_cofactor t_formX t_formY t_formZ a_t_square t_isNought t_sumT t_sumY]) ⟨hx, hb, hml, hown, hts⟩ (tX9_isNumber l D cI a_t a_t_given a_t_c a_t_pointX a_t_pointY a_t_pointZ a_t_pointFlags a_t_flagPoint a_t_flagU a_t_flagV a_t_flagW a_t_next a_t_series a_t_mix a_t_cofactor a_t_square t_p t_isLaid t_isGood t_points t_flags t_formX t_formY t_formZ t_isNought t_sumT t_sumY i3 v3 hv3) (cwV 1 hts gX9_work_X9_isNumber rfl rfl rfl (by decide +kernel) ⟨Nat.le_of_ble_eq_true rfl, Nat.le_of_ble_eq_true rfl⟩) hN hK hP hD hS hA [0] [some 0] rfl rfl rfl rfl rfl rfl 0 rfl rfl rfl hl.1 rfl (Nat.le_of_ble_eq_true rfl) dX9_work_19 ⟨Nat.zero_le _, Nat.zero_le _⟩ (fun H locs hP hD hS => ?_)
      refine lv_if_eq (tgt := 34) hx hb dX9_work_22 (by decide) (fun hc => ?_) (fun hc => ?_)
      · have hf := o_t hf hc
        refine lv_bipush (v := (-2)) hx hb dX9_work_34 (by decide) ?_
        obtain rfl := Option.some.inj hf
        exact hret rfl rfl dX9_work_36 hP hD hS
      · have hf := o_f hf hc
        refine lv_iload_n hx hb dX9_work_25 rfl (lv_at hl 1 rfl) ?_
        refine lv_iconst (v := 2) hx hb dX9_work_26 (by decide) ?_
        have J37 : ∀ (ls : Array Slot) (H : Heap) (locs : List Loc), jX9_work_37 t_p i1 i2 i3 = some r → lv_has ls 4 [(0, .ref a_t), (1, .int i1), (2, .int i2), (3, .int i3)] → va_P D vwCl [x_o9 a_t t_p a_t_given t_isLaid t_isGood a_t_c t_points a_t_pointX a_t_pointY a_t_pointZ a_t_pointFlags t_flags a_t_flagPoint a_t_flagU a_t_flagV a_t_flagW a_t_next a_t_series a_t_mix a_t_cofactor t_formX t_formY t_formZ a_t_square t_isNought t_sumT t_sumY] H → va_D A [x_o9 a_t t_p a_t_given t_isLaid t_isGood a_t_c t_points a_t_pointX a_t_pointY a_t_pointZ a_t_pointFlags t_flags a_t_flagPoint a_t_flagU a_t_flagV a_t_flagW a_t_next a_t_series a_t_mix a_t_cofactor t_formX t_formY t_formZ a_t_square t_isNought t_sumT t_sumY] → va_S A s.heap H locs → W p l e rmX9_work s m args below meth c H locs 0 0 Q (F0 m 37 ls []) := by
          intro ls H locs hf hl hP hD hS
          unfold jX9_work_37 at hf
          refine lv_iload_n hx hb dX9_work_37 rfl (lv_at hl 1 rfl) ?_
          refine lv_if_ne (tgt := 52) hx hb dX9_work_38 (by decide) (fun hc => ?_) (fun hc => ?_)
          · have hf := o_f hf hc
            refine lv_iload_n hx hb dX9_work_52 rfl (lv_at hl 1 rfl) ?_
            refine lv_iconst (v := 1) hx hb dX9_work_53 (by decide) ?_
            refine lv_icmp_ne (tgt := 68) hx hb dX9_work_54 (by decide) (fun hc => ?_) (fun hc => ?_)
            · have hf := o_f hf hc
              refine lv_aload_n hx hb dX9_work_68 rfl (lv_at hl 0 rfl) ?_
              refine lv_iload_n hx hb dX9_work_69 rfl (lv_at hl 2 rfl) ?_
              refine lv_iload_n hx hb dX9_work_70 rfl (lv_at hl 3 rfl) ?_
              obtain ⟨v4, hv4, hf⟩ := o_b1 hf
              refine x_vi (rest := []) (W1 := [x_o9 a_t t_p a_t_given t_isLaid t_isGood a_t_c t_points a_t_pointX a_t_pointY a_t_pointZ a_t_pointFlags t_flags a_t_flagPoint a_t_flagU a_t_flagV a_t_flagW a_t_next a_t_series a_t_mix a_t_cofactor t_formX t_formY t_formZ a_t_square t_isNought t_sumT t_sumY]) ⟨hx, hb, hml, hown, hts⟩ (tX9_by l D cI a_t a_t_given a_t_c a_t_pointX a_t_pointY a_t_pointZ a_t_pointFlags a_t_flagPoint a_t_flagU a_t_flagV a_t_flagW a_t_next a_t_series a_t_mix a_t_cofactor a_t_square t_p t_isLaid t_isGood t_points t_flags t_formX t_formY t_formZ t_isNought t_sumT t_sumY i2 i3 v4 hv4) (cwV 2 hts gX9_work_X9_by rfl rfl rfl (by decide +kernel) ⟨Nat.le_of_ble_eq_true rfl, Nat.le_of_ble_eq_true rfl⟩) hN hK hP hD hS hA [0] [some 0] rfl rfl rfl rfl rfl rfl 0 rfl rfl rfl hl.1 rfl (Nat.le_of_ble_eq_true rfl) dX9_work_71 ⟨Nat.zero_le _, Nat.zero_le _⟩ (fun H locs hP hD hS => ?_)
              obtain rfl := Option.some.inj hf
              exact hret rfl rfl dX9_work_74 hP hD hS
            · have hf := o_t hf hc
              refine lv_iload_n hx hb dX9_work_57 rfl (lv_at hl 2 rfl) ?_
              refine lv_iload_n hx hb dX9_work_58 rfl (lv_at hl 3 rfl) ?_
              refine lv_imul hx hb dX9_work_59 ?_
              refine lv_aload_n hx hb dX9_work_60 rfl (lv_at hl 0 rfl) ?_
              refine va_get (D := D) (ci := 9) (C := RX9) (T := TX9) (N := 26) hx hb hts iX9 hown hK hP 0 rfl rfl 0 (by decide) l7 (fun _ h9 => h9) rfl dX9_work_61 ?_
              obtain ⟨v5, hv5, hf⟩ := o_b1 hf
              refine x_rm hx hb hv5 dX9_work_64 ?_
              refine lv_goto (tgt := 74) hx hb dX9_work_65 (by decide) ?_
              obtain rfl := Option.some.inj hf
              exact hret rfl rfl dX9_work_74 hP hD hS
          · have hf := o_t hf hc
            refine lv_iload_n hx hb dX9_work_41 rfl (lv_at hl 2 rfl) ?_
            refine lv_iload_n hx hb dX9_work_42 rfl (lv_at hl 3 rfl) ?_
            refine lv_iadd hx hb dX9_work_43 ?_
            refine lv_aload_n hx hb dX9_work_44 rfl (lv_at hl 0 rfl) ?_
            refine va_get (D := D) (ci := 9) (C := RX9) (T := TX9) (N := 26) hx hb hts iX9 hown hK hP 0 rfl rfl 0 (by decide) l7 (fun _ h9 => h9) rfl dX9_work_45 ?_
            obtain ⟨v6, hv6, hf⟩ := o_b1 hf
            refine x_rm hx hb hv6 dX9_work_48 ?_
            refine lv_goto (tgt := 74) hx hb dX9_work_49 (by decide) ?_
            obtain rfl := Option.some.inj hf
            exact hret rfl rfl dX9_work_74 hP hD hS
        refine lv_icmp_ne (tgt := 37) hx hb dX9_work_27 (by decide) (fun hc => ?_) (fun hc => ?_)
        · have hf := o_f hf hc
          exact J37 _ _ _ hf (lv_sub hl [0, 1, 2, 3] rfl) hP hD hS
        · have hf := o_t hf hc
          refine lv_iload_n hx hb dX9_work_30 rfl (lv_at hl 3 rfl) ?_
          refine lv_if_ne (tgt := 37) hx hb dX9_work_31 (by decide) (fun hc => ?_) (fun hc => ?_)
          · have hf := o_f hf hc
            exact J37 _ _ _ hf (lv_sub hl [0, 1, 2, 3] rfl) hP hD hS
          · have hf := o_t hf hc
            refine lv_bipush (v := (-2)) hx hb dX9_work_34 (by decide) ?_
            obtain rfl := Option.some.inj hf
            exact hret rfl rfl dX9_work_36 hP hD hS
noncomputable def kX9_rootOf_32 : Option (Int32) :=
  some (-6)
noncomputable def FgX9_rootOf_2 (t_p : Int32) (i1 : Int32) (rec2 : Int32 → Option (Int32)) (kk2 : Option (Int32)) (x1 : Int32) : Option (Int32) :=
  p_b1 (p_dv t_p 2) (fun v2 =>
if v2 < x1 then (kk2) else (p_b1 (p_rm (x1 * x1) t_p) (fun v3 =>
if v3 = i1 then (some x1) else (p_nm (x1 + 1) (fun v4 =>
rec2 v4)))))
noncomputable def gX9_rootOf_2 (t_p : Int32) (i1 : Int32) (kk2 : Option (Int32)) (n : Nat) : Int32 → Option (Int32) := Nat.rec (motive := fun _ => Int32 → Option (Int32)) (fun _ => none) (fun _ rec2 => FgX9_rootOf_2 t_p i1 rec2 kk2) n
noncomputable def fX9_rootOf (t_p : Int32) (i1 : Int32) : Option (Int32) :=
  gX9_rootOf_2 t_p i1 (kX9_rootOf_32) p_FU 0
def rmX9_rootOf : Room := { frames := 0, cells := 0, slots := 0, locals := 0 }
set_option maxHeartbeats 4000000 in
set_option maxRecDepth 100000 in
theorem tX9_rootOf (l : Launch) (D : va_G) (cI : ClassId) (a_t : Nat) (a_t_given : Nat) (a_t_c : Nat) (a_t_pointX : Nat) (a_t_pointY : Nat) (a_t_pointZ : Nat) (a_t_pointFlags : Nat) (a_t_flagPoint : Nat) (a_t_flagU : Nat) (a_t_flagV : Nat) (a_t_flagW : Nat) (a_t_next : Nat) (a_t_series : Nat) (a_t_mix : Nat) (a_t_cofactor : Nat) (a_t_square : Nat) (t_p : Int32) (t_isLaid : Int32) (t_isGood : Int32) (t_points : Int32) (t_flags : Int32) (t_formX : Int32) (t_formY : Int32) (t_formZ : Int32) (t_isNought : Int32) (t_sumT : Int32) (t_sumY : Int32) (i1 : Int32) (r : Int32) (hf : fX9_rootOf t_p i1 = some r) : x_CI l D cI yX9_rootOf wsX9_rootOf rmX9_rootOf [.ref a_t, .int i1] [x_o9 a_t t_p a_t_given t_isLaid t_isGood a_t_c t_points a_t_pointX a_t_pointY a_t_pointZ a_t_pointFlags t_flags a_t_flagPoint a_t_flagU a_t_flagV a_t_flagW a_t_next a_t_series a_t_mix a_t_cofactor t_formX t_formY t_formZ a_t_square t_isNought t_sumT t_sumY] [x_o9 a_t t_p a_t_given t_isLaid t_isGood a_t_c t_points a_t_pointX a_t_pointY a_t_pointZ a_t_pointFlags t_flags a_t_flagPoint a_t_flagU a_t_flagV a_t_flagW a_t_next a_t_series a_t_mix a_t_cofactor t_formX t_formY t_formZ a_t_square t_isNought t_sumT t_sumY] r := by
  refine x_CI_of (cc := cX9_rootOf) (maxL := 3) (ty := .int) (own := RX9) (lv0 := [(0, .ref a_t), (1, .int i1)]) (by decide) rfl rfl (Nat.le_of_ble_eq_true rfl) rfl ?_
  intro p e s m args below meth c A Q ls hx hb hml hown hts hN hK hP hD hS hA hl hret
  have iX9 : ∀ w ∈ u_ws RX9 TX9 26, w ∈ wsX9_rootOf := by decide +kernel
  have l7 := hts (.fieldLink RX9 7 "ChordRingsModel" "p" "I") (by decide +kernel)
  unfold fX9_rootOf at hf
  refine lv_iconst (v := 0) hx hb dX9_rootOf_0 (by decide) ?_
  refine lv_istore_n (lv' := [(2, .int 0), (0, .ref a_t), (1, .int i1)]) hx hb dX9_rootOf_1 rfl hl (by decide) rfl (fun ls hl => ?_)
  have L2 : ∀ (n : Nat) (x1 : Int32) (ls : Array Slot) (H : Heap) (locs : List Loc), gX9_rootOf_2 t_p i1 (kX9_rootOf_32) n x1 = some r → lv_has ls 3 [(0, .ref a_t), (1, .int i1), (2, .int x1)] → va_P D vwCl [x_o9 a_t t_p a_t_given t_isLaid t_isGood a_t_c t_points a_t_pointX a_t_pointY a_t_pointZ a_t_pointFlags t_flags a_t_flagPoint a_t_flagU a_t_flagV a_t_flagW a_t_next a_t_series a_t_mix a_t_cofactor t_formX t_formY t_formZ a_t_square t_isNought t_sumT t_sumY] H → va_D A [x_o9 a_t t_p a_t_given t_isLaid t_isGood a_t_c t_points a_t_pointX a_t_pointY a_t_pointZ a_t_pointFlags t_flags a_t_flagPoint a_t_flagU a_t_flagV a_t_flagW a_t_next a_t_series a_t_mix a_t_cofactor t_formX t_formY t_formZ a_t_square t_isNought t_sumT t_sumY] → va_S A s.heap H locs → W p l e rmX9_rootOf s m args below meth c H locs 0 0 Q (F0 m 2 ls []) := by
    intro n2
    induction n2 with
    | zero =>
      intro x1 ls H locs hf
      exact nomatch (show (none : Option (Int32)) = some r from hf)
    | succ n2 ih2 =>
      intro x1 ls H locs hf hl hP hD hS
      have hf : FgX9_rootOf_2 t_p i1 (gX9_rootOf_2 t_p i1 (kX9_rootOf_32) n2) (kX9_rootOf_32) x1 = some r := hf
      unfold FgX9_rootOf_2 at hf
      refine lv_iload_n hx hb dX9_rootOf_2 rfl (lv_at hl 2 rfl) ?_
      refine lv_aload_n hx hb dX9_rootOf_3 rfl (lv_at hl 0 rfl) ?_
      refine va_get (D := D) (ci := 9) (C := RX9) (T := TX9) (N := 26) hx hb hts iX9 hown hK hP 0 rfl rfl 0 (by decide) l7 (fun _ h9 => h9) rfl dX9_rootOf_4 ?_
      refine lv_iconst (v := 2) hx hb dX9_rootOf_7 (by decide) ?_
      obtain ⟨v2, hv2, hf⟩ := o_b1 hf
      refine x_dv hx hb hv2 dX9_rootOf_8 ?_
      have J32 : ∀ (ls : Array Slot) (H : Heap) (locs : List Loc), kX9_rootOf_32 = some r → lv_has ls 3 [] → va_P D vwCl [x_o9 a_t t_p a_t_given t_isLaid t_isGood a_t_c t_points a_t_pointX a_t_pointY a_t_pointZ a_t_pointFlags t_flags a_t_flagPoint a_t_flagU a_t_flagV a_t_flagW a_t_next a_t_series a_t_mix a_t_cofactor t_formX t_formY t_formZ a_t_square t_isNought t_sumT t_sumY] H → va_D A [x_o9 a_t t_p a_t_given t_isLaid t_isGood a_t_c t_points a_t_pointX a_t_pointY a_t_pointZ a_t_pointFlags t_flags a_t_flagPoint a_t_flagU a_t_flagV a_t_flagW a_t_next a_t_series a_t_mix a_t_cofactor t_formX t_formY t_formZ a_t_square t_isNought t_sumT t_sumY] → va_S A s.heap H locs → W p l e rmX9_rootOf s m args below meth c H locs 0 0 Q (F0 m 32 ls []) := by
        intro ls H locs hf hl hP hD hS
        unfold kX9_rootOf_32 at hf
        refine lv_bipush (v := (-6)) hx hb dX9_rootOf_32 (by decide) ?_
        obtain rfl := Option.some.inj hf
        exact hret rfl rfl dX9_rootOf_34 hP hD hS
      refine lv_icmp_gt (tgt := 32) hx hb dX9_rootOf_9 (by decide) (fun hc => ?_) (fun hc => ?_)
      · have hf := o_t hf hc
        exact J32 _ _ _ hf (lv_sub hl [] rfl) hP hD hS
      · have hf := o_f hf hc
        refine lv_iload_n hx hb dX9_rootOf_12 rfl (lv_at hl 2 rfl) ?_
        refine lv_iload_n hx hb dX9_rootOf_13 rfl (lv_at hl 2 rfl) ?_
        refine lv_imul hx hb dX9_rootOf_14 ?_
        refine lv_aload_n hx hb dX9_rootOf_15 rfl (lv_at hl 0 rfl) ?_
        refine va_get (D := D) (ci := 9) (C := RX9) (T := TX9) (N := 26) hx hb hts iX9 hown hK hP 0 rfl rfl 0 (by decide) l7 (fun _ h9 => h9) rfl dX9_rootOf_16 ?_
        obtain ⟨v3, hv3, hf⟩ := o_b1 hf
        refine x_rm hx hb hv3 dX9_rootOf_19 ?_
        refine lv_iload_n hx hb dX9_rootOf_20 rfl (lv_at hl 1 rfl) ?_
        refine lv_icmp_ne (tgt := 26) hx hb dX9_rootOf_21 (by decide) (fun hc => ?_) (fun hc => ?_)
        · have hf := o_f hf hc
          obtain ⟨v4, ev4, hf⟩ := o_nm hf
          refine lv_iinc (v := v4) (lv' := [(2, .int v4), (0, .ref a_t), (1, .int i1)]) hx hb dX9_rootOf_26 hl (k := 2) rfl (by rw [ev4]; rfl) (by decide) rfl (fun ls hl => ?_)
          refine lv_goto (tgt := 2) hx hb dX9_rootOf_29 (by decide) ?_
          exact ih2 v4 _ _ _ hf (lv_sub hl [1, 2, 0] rfl) hP hD hS
        · have hf := o_t hf hc
          refine lv_iload_n hx hb dX9_rootOf_24 rfl (lv_at hl 2 rfl) ?_
          obtain rfl := Option.some.inj hf
          exact hret rfl rfl dX9_rootOf_25 hP hD hS
  exact L2 p_FU 0 _ _ _ hf (lv_sub hl [1, 2, 0] rfl) hP hD hS
noncomputable def fX9_root (t_p : Int32) (i1 : Int32) : Option (Int32) :=
  p_b1 (fX9_isNumber t_p i1) (fun v1 =>
if v1 = 0 then (some (-2)) else (p_b1 (fX9_rootOf t_p i1) (fun v2 =>
some v2)))
def rmX9_root : Room := { frames := 2, cells := 0, slots := 0, locals := 43 }
set_option maxHeartbeats 4000000 in
set_option maxRecDepth 100000 in
theorem tX9_root (l : Launch) (D : va_G) (cI : ClassId) (a_t : Nat) (a_t_given : Nat) (a_t_c : Nat) (a_t_pointX : Nat) (a_t_pointY : Nat) (a_t_pointZ : Nat) (a_t_pointFlags : Nat) (a_t_flagPoint : Nat) (a_t_flagU : Nat) (a_t_flagV : Nat) (a_t_flagW : Nat) (a_t_next : Nat) (a_t_series : Nat) (a_t_mix : Nat) (a_t_cofactor : Nat) (a_t_square : Nat) (t_p : Int32) (t_isLaid : Int32) (t_isGood : Int32) (t_points : Int32) (t_flags : Int32) (t_formX : Int32) (t_formY : Int32) (t_formZ : Int32) (t_isNought : Int32) (t_sumT : Int32) (t_sumY : Int32) (i1 : Int32) (r : Int32) (hf : fX9_root t_p i1 = some r) : x_CI l D cI yX9_root wsX9_root rmX9_root [.ref a_t, .int i1] [x_o9 a_t t_p a_t_given t_isLaid t_isGood a_t_c t_points a_t_pointX a_t_pointY a_t_pointZ a_t_pointFlags t_flags a_t_flagPoint a_t_flagU a_t_flagV a_t_flagW a_t_next a_t_series a_t_mix a_t_cofactor t_formX t_formY t_formZ a_t_square t_isNought t_sumT t_sumY] [x_o9 a_t t_p a_t_given t_isLaid t_isGood a_t_c t_points a_t_pointX a_t_pointY a_t_pointZ a_t_pointFlags t_flags a_t_flagPoint a_t_flagU a_t_flagV a_t_flagW a_t_next a_t_series a_t_mix a_t_cofactor t_formX t_formY t_formZ a_t_square t_isNought t_sumT t_sumY] r := by
  refine x_CI_of (cc := cX9_root) (maxL := 2) (ty := .int) (own := RX9) (lv0 := [(0, .ref a_t), (1, .int i1)]) (by decide) rfl rfl (Nat.le_of_ble_eq_true rfl) rfl ?_
  intro p e s m args below meth c A Q ls hx hb hml hown hts hN hK hP hD hS hA hl hret
  unfold fX9_root at hf
  refine lv_aload_n hx hb dX9_root_0 rfl (lv_at hl 0 rfl) ?_
  refine lv_iload_n hx hb dX9_root_1 rfl (lv_at hl 1 rfl) ?_
  obtain ⟨v1, hv1, hf⟩ := o_b1 hf
  refine x_vi (rest := []) (W1 := [x_o9 a_t t_p a_t_given t_isLaid t_isGood a_t_c t_points a_t_pointX a_t_pointY a_t_pointZ a_t_pointFlags t_flags a_t_flagPoint a_t_flagU a_t_flagV a_t_flagW a_t_next a_t_series a_t_mix a_t_cofactor t_formX t_formY t_formZ a_t_square t_isNought t_sumT t_sumY]) ⟨hx, hb, hml, hown, hts⟩ (tX9_isNumber l D cI a_t a_t_given a_t_c a_t_pointX a_t_pointY a_t_pointZ a_t_pointFlags a_t_flagPoint a_t_flagU a_t_flagV a_t_flagW a_t_next a_t_series a_t_mix a_t_cofactor a_t_square t_p t_isLaid t_isGood t_points t_flags t_formX t_formY t_formZ t_isNought t_sumT t_sumY i1 v1 hv1) (cwV 1 hts gX9_root_X9_isNumber rfl rfl rfl (by decide +kernel) ⟨Nat.le_of_ble_eq_true rfl, Nat.le_of_ble_eq_true rfl⟩) hN hK hP hD hS hA [0] [some 0] rfl rfl rfl rfl rfl rfl 0 rfl rfl rfl hl.1 rfl (Nat.le_of_ble_eq_true rfl) dX9_root_2 ⟨Nat.zero_le _, Nat.zero_le _⟩ (fun H locs hP hD hS => ?_)
  refine lv_if_eq (tgt := 16) hx hb dX9_root_5 (by decide) (fun hc => ?_) (fun hc => ?_)
  · have hf := o_t hf hc
    refine lv_bipush (v := (-2)) hx hb dX9_root_16 (by decide) ?_
    obtain rfl := Option.some.inj hf
    exact hret rfl rfl dX9_root_18 hP hD hS
  · have hf := o_f hf hc
    refine lv_aload_n hx hb dX9_root_8 rfl (lv_at hl 0 rfl) ?_
    refine lv_iload_n hx hb dX9_root_9 rfl (lv_at hl 1 rfl) ?_
    obtain ⟨v2, hv2, hf⟩ := o_b1 hf
    refine x_vi (rest := []) (W1 := [x_o9 a_t t_p a_t_given t_isLaid t_isGood a_t_c t_points a_t_pointX a_t_pointY a_t_pointZ a_t_pointFlags t_flags a_t_flagPoint a_t_flagU a_t_flagV a_t_flagW a_t_next a_t_series a_t_mix a_t_cofactor t_formX t_formY t_formZ a_t_square t_isNought t_sumT t_sumY]) ⟨hx, hb, hml, hown, hts⟩ (tX9_rootOf l D cI a_t a_t_given a_t_c a_t_pointX a_t_pointY a_t_pointZ a_t_pointFlags a_t_flagPoint a_t_flagU a_t_flagV a_t_flagW a_t_next a_t_series a_t_mix a_t_cofactor a_t_square t_p t_isLaid t_isGood t_points t_flags t_formX t_formY t_formZ t_isNought t_sumT t_sumY i1 v2 hv2) (cwV 1 hts gX9_root_X9_rootOf rfl rfl rfl (by decide +kernel) ⟨Nat.le_of_ble_eq_true rfl, Nat.le_of_ble_eq_true rfl⟩) hN hK hP hD hS hA [0] [some 0] rfl rfl rfl rfl rfl rfl 0 rfl rfl rfl hl.1 rfl (Nat.le_of_ble_eq_true rfl) dX9_root_10 ⟨Nat.zero_le _, Nat.zero_le _⟩ (fun H locs hP hD hS => ?_)
    refine lv_goto (tgt := 18) hx hb dX9_root_13 (by decide) ?_
    obtain rfl := Option.some.inj hf
    exact hret rfl rfl dX9_root_18 hP hD hS
noncomputable def kX9_mixOf_44 (w3 : (Nat → Int32)) : Option ((Nat → Int32)) :=
  some w3
noncomputable def FgX9_mixOf_2 (t_p : Int32) (t_given_r : (Nat → Int32)) (i1 : Int32) (i2 : Int32) (rec2 : Int32 → (Nat → Int32) → Option ((Nat → Int32))) (kk2 : (Nat → Int32) → Option ((Nat → Int32))) (x1 : Int32) (z2 : (Nat → Int32)) : Option ((Nat → Int32)) :=
  if 6 ≤ x1 then (kk2 z2) else (p_b1 (p_ld t_given_r 12 x1) (fun v4 =>
p_b1 (p_ld t_given_r 12 (6 + x1)) (fun v5 =>
p_b1 (fX9_of t_p ((i1 * v4) + (i2 * v5))) (fun v6 =>
p_b1 (p_st z2 6 x1 v6) (fun u7 =>
p_nm (x1 + 1) (fun v8 =>
rec2 v8 u7))))))
noncomputable def gX9_mixOf_2 (t_p : Int32) (t_given_r : (Nat → Int32)) (i1 : Int32) (i2 : Int32) (kk2 : (Nat → Int32) → Option ((Nat → Int32))) (n : Nat) : Int32 → (Nat → Int32) → Option ((Nat → Int32)) := Nat.rec (motive := fun _ => Int32 → (Nat → Int32) → Option ((Nat → Int32))) (fun _ _ => none) (fun _ rec2 => FgX9_mixOf_2 t_p t_given_r i1 i2 rec2 kk2) n
noncomputable def fX9_mixOf (t_p : Int32) (t_given_r : (Nat → Int32)) (t_mix_r : (Nat → Int32)) (i1 : Int32) (i2 : Int32) : Option ((Nat → Int32)) :=
  gX9_mixOf_2 t_p t_given_r i1 i2 (kX9_mixOf_44) p_FU 0 t_mix_r
def rmX9_mixOf : Room := { frames := 1, cells := 0, slots := 0, locals := 22 }
set_option maxHeartbeats 4000000 in
set_option maxRecDepth 100000 in
theorem tX9_mixOf (l : Launch) (D : va_G) (cI : ClassId) (a_t : Nat) (a_t_given : Nat) (a_t_c : Nat) (a_t_pointX : Nat) (a_t_pointY : Nat) (a_t_pointZ : Nat) (a_t_pointFlags : Nat) (a_t_flagPoint : Nat) (a_t_flagU : Nat) (a_t_flagV : Nat) (a_t_flagW : Nat) (a_t_next : Nat) (a_t_series : Nat) (a_t_mix : Nat) (a_t_cofactor : Nat) (a_t_square : Nat) (t_p : Int32) (t_isLaid : Int32) (t_isGood : Int32) (t_points : Int32) (t_flags : Int32) (t_formX : Int32) (t_formY : Int32) (t_formZ : Int32) (t_isNought : Int32) (t_sumT : Int32) (t_sumY : Int32) (t_given_r : (Nat → Int32)) (t_mix_r : (Nat → Int32)) (i1 : Int32) (i2 : Int32) (s_t_mix_r : (Nat → Int32)) (hf : fX9_mixOf t_p t_given_r t_mix_r i1 i2 = some s_t_mix_r) : x_CV l D cI yX9_mixOf wsX9_mixOf rmX9_mixOf [.ref a_t, .int i1, .int i2] [x_o9 a_t t_p a_t_given t_isLaid t_isGood a_t_c t_points a_t_pointX a_t_pointY a_t_pointZ a_t_pointFlags t_flags a_t_flagPoint a_t_flagU a_t_flagV a_t_flagW a_t_next a_t_series a_t_mix a_t_cofactor t_formX t_formY t_formZ a_t_square t_isNought t_sumT t_sumY, x_ar cI a_t_given 12 t_given_r, x_ar cI a_t_mix 6 t_mix_r] [x_o9 a_t t_p a_t_given t_isLaid t_isGood a_t_c t_points a_t_pointX a_t_pointY a_t_pointZ a_t_pointFlags t_flags a_t_flagPoint a_t_flagU a_t_flagV a_t_flagW a_t_next a_t_series a_t_mix a_t_cofactor t_formX t_formY t_formZ a_t_square t_isNought t_sumT t_sumY, x_ar cI a_t_given 12 t_given_r, x_ar cI a_t_mix 6 s_t_mix_r] := by
  refine x_CV_of (cc := cX9_mixOf) (maxL := 4) (own := RX9) (lv0 := [(0, .ref a_t), (1, .int i1), (2, .int i2)]) (by decide) rfl rfl (Nat.le_of_ble_eq_true rfl) rfl ?_
  intro p e s m args below meth c A Q ls hx hb hml hown hts hN hK hP hD hS hA hl hret
  have iX9 : ∀ w ∈ u_ws RX9 TX9 26, w ∈ wsX9_mixOf := by decide +kernel
  have l50 := hts (.fieldLink RX9 50 "ChordRingsModel" "mix" "[I") (by decide +kernel)
  have l13 := hts (.fieldLink RX9 13 "ChordRingsModel" "given" "[I") (by decide +kernel)
  unfold fX9_mixOf at hf
  refine lv_iconst (v := 0) hx hb dX9_mixOf_0 (by decide) ?_
  refine lv_istore_n (lv' := [(3, .int 0), (0, .ref a_t), (1, .int i1), (2, .int i2)]) hx hb dX9_mixOf_1 rfl hl (by decide) rfl (fun ls hl => ?_)
  have L2 : ∀ (n : Nat) (x1 : Int32) (z2 : (Nat → Int32)) (ls : Array Slot) (H : Heap) (locs : List Loc), gX9_mixOf_2 t_p t_given_r i1 i2 (kX9_mixOf_44) n x1 z2 = some s_t_mix_r → lv_has ls 4 [(0, .ref a_t), (1, .int i1), (2, .int i2), (3, .int x1)] → va_P D vwCl [x_o9 a_t t_p a_t_given t_isLaid t_isGood a_t_c t_points a_t_pointX a_t_pointY a_t_pointZ a_t_pointFlags t_flags a_t_flagPoint a_t_flagU a_t_flagV a_t_flagW a_t_next a_t_series a_t_mix a_t_cofactor t_formX t_formY t_formZ a_t_square t_isNought t_sumT t_sumY, x_ar cI a_t_given 12 t_given_r, x_ar cI a_t_mix 6 z2] H → va_D A [x_o9 a_t t_p a_t_given t_isLaid t_isGood a_t_c t_points a_t_pointX a_t_pointY a_t_pointZ a_t_pointFlags t_flags a_t_flagPoint a_t_flagU a_t_flagV a_t_flagW a_t_next a_t_series a_t_mix a_t_cofactor t_formX t_formY t_formZ a_t_square t_isNought t_sumT t_sumY, x_ar cI a_t_given 12 t_given_r, x_ar cI a_t_mix 6 z2] → va_S A s.heap H locs → W p l e rmX9_mixOf s m args below meth c H locs 0 0 Q (F0 m 2 ls []) := by
    intro n2
    induction n2 with
    | zero =>
      intro x1 z2 ls H locs hf
      exact nomatch (show (none : Option ((Nat → Int32))) = some s_t_mix_r from hf)
    | succ n2 ih2 =>
      intro x1 z2 ls H locs hf hl hP hD hS
      have hf : FgX9_mixOf_2 t_p t_given_r i1 i2 (gX9_mixOf_2 t_p t_given_r i1 i2 (kX9_mixOf_44) n2) (kX9_mixOf_44) x1 z2 = some s_t_mix_r := hf
      unfold FgX9_mixOf_2 at hf
      refine lv_iload_n hx hb dX9_mixOf_2 rfl (lv_at hl 3 rfl) ?_
      refine lv_bipush (v := 6) hx hb dX9_mixOf_3 (by decide) ?_
      have J44 : ∀ (w3 : (Nat → Int32)) (ls : Array Slot) (H : Heap) (locs : List Loc), kX9_mixOf_44 w3 = some s_t_mix_r → lv_has ls 4 [] → va_P D vwCl [x_o9 a_t t_p a_t_given t_isLaid t_isGood a_t_c t_points a_t_pointX a_t_pointY a_t_pointZ a_t_pointFlags t_flags a_t_flagPoint a_t_flagU a_t_flagV a_t_flagW a_t_next a_t_series a_t_mix a_t_cofactor t_formX t_formY t_formZ a_t_square t_isNought t_sumT t_sumY, x_ar cI a_t_given 12 t_given_r, x_ar cI a_t_mix 6 w3] H → va_D A [x_o9 a_t t_p a_t_given t_isLaid t_isGood a_t_c t_points a_t_pointX a_t_pointY a_t_pointZ a_t_pointFlags t_flags a_t_flagPoint a_t_flagU a_t_flagV a_t_flagW a_t_next a_t_series a_t_mix a_t_cofactor t_formX t_formY t_formZ a_t_square t_isNought t_sumT t_sumY, x_ar cI a_t_given 12 t_given_r, x_ar cI a_t_mix 6 w3] → va_S A s.heap H locs → W p l e rmX9_mixOf s m args below meth c H locs 0 0 Q (F0 m 44 ls []) := by
        intro w3 ls H locs hf hl hP hD hS
        unfold kX9_mixOf_44 at hf
        obtain rfl := Option.some.inj hf
        exact hret dX9_mixOf_44 hP hD hS
      refine lv_icmp_ge (tgt := 44) hx hb dX9_mixOf_5 (by decide) (fun hc => ?_) (fun hc => ?_)
      · have hf := o_t hf hc
        exact J44 z2 _ _ _ hf (lv_sub hl [] rfl) hP hD hS
      · have hf := o_f hf hc
        refine lv_aload_n hx hb dX9_mixOf_8 rfl (lv_at hl 0 rfl) ?_
        refine va_get (D := D) (ci := 9) (C := RX9) (T := TX9) (N := 26) hx hb hts iX9 hown hK hP 0 rfl rfl 17 (by decide) l50 (fun _ h9 => h9) rfl dX9_mixOf_9 ?_
        refine lv_iload_n hx hb dX9_mixOf_12 rfl (lv_at hl 3 rfl) ?_
        refine lv_aload_n hx hb dX9_mixOf_13 rfl (lv_at hl 0 rfl) ?_
        refine lv_iload_n hx hb dX9_mixOf_14 rfl (lv_at hl 1 rfl) ?_
        refine lv_aload_n hx hb dX9_mixOf_15 rfl (lv_at hl 0 rfl) ?_
        refine va_get (D := D) (ci := 9) (C := RX9) (T := TX9) (N := 26) hx hb hts iX9 hown hK hP 0 rfl rfl 1 (by decide) l13 (fun _ h9 => h9) rfl dX9_mixOf_16 ?_
        refine lv_iload_n hx hb dX9_mixOf_19 rfl (lv_at hl 3 rfl) ?_
        obtain ⟨v4, hv4, hf⟩ := o_b1 hf
        refine x_ald hx hb hK hP 1 rfl hv4 dX9_mixOf_20 ?_
        refine lv_imul hx hb dX9_mixOf_21 ?_
        refine lv_iload_n hx hb dX9_mixOf_22 rfl (lv_at hl 2 rfl) ?_
        refine lv_aload_n hx hb dX9_mixOf_23 rfl (lv_at hl 0 rfl) ?_
        refine va_get (D := D) (ci := 9) (C := RX9) (T := TX9) (N := 26) hx hb hts iX9 hown hK hP 0 rfl rfl 1 (by decide) l13 (fun _ h9 => h9) rfl dX9_mixOf_24 ?_
        refine lv_bipush (v := 6) hx hb dX9_mixOf_27 (by decide) ?_
        refine lv_iload_n hx hb dX9_mixOf_29 rfl (lv_at hl 3 rfl) ?_
        refine lv_iadd hx hb dX9_mixOf_30 ?_
        obtain ⟨v5, hv5, hf⟩ := o_b1 hf
        refine x_ald hx hb hK hP 1 rfl hv5 dX9_mixOf_31 ?_
        refine lv_imul hx hb dX9_mixOf_32 ?_
        refine lv_iadd hx hb dX9_mixOf_33 ?_
        obtain ⟨v6, hv6, hf⟩ := o_b1 hf
        refine x_vi (rest := [.int x1, .ref a_t_mix]) (W1 := [x_o9 a_t t_p a_t_given t_isLaid t_isGood a_t_c t_points a_t_pointX a_t_pointY a_t_pointZ a_t_pointFlags t_flags a_t_flagPoint a_t_flagU a_t_flagV a_t_flagW a_t_next a_t_series a_t_mix a_t_cofactor t_formX t_formY t_formZ a_t_square t_isNought t_sumT t_sumY, x_ar cI a_t_given 12 t_given_r, x_ar cI a_t_mix 6 z2]) ⟨hx, hb, hml, hown, hts⟩ (tX9_of l D cI a_t a_t_given a_t_c a_t_pointX a_t_pointY a_t_pointZ a_t_pointFlags a_t_flagPoint a_t_flagU a_t_flagV a_t_flagW a_t_next a_t_series a_t_mix a_t_cofactor a_t_square t_p t_isLaid t_isGood t_points t_flags t_formX t_formY t_formZ t_isNought t_sumT t_sumY ((i1 * v4) + (i2 * v5)) v6 hv6) (cwV 1 hts gX9_mixOf_X9_of rfl rfl rfl (by decide +kernel) ⟨Nat.le_of_ble_eq_true rfl, Nat.le_of_ble_eq_true rfl⟩) hN hK hP hD hS hA [0] [some 0, none, none] rfl rfl rfl rfl rfl rfl 0 rfl rfl rfl hl.1 rfl (Nat.le_of_ble_eq_true rfl) dX9_mixOf_34 ⟨Nat.zero_le _, Nat.zero_le _⟩ (fun H locs hP hD hS => ?_)
        obtain ⟨u7, hu7, hf⟩ := o_b1 hf
        refine x_ast (W1 := [x_o9 a_t t_p a_t_given t_isLaid t_isGood a_t_c t_points a_t_pointX a_t_pointY a_t_pointZ a_t_pointFlags t_flags a_t_flagPoint a_t_flagU a_t_flagV a_t_flagW a_t_next a_t_series a_t_mix a_t_cofactor t_formX t_formY t_formZ a_t_square t_isNought t_sumT t_sumY, x_ar cI a_t_given 12 t_given_r, x_ar cI a_t_mix 6 u7]) hx hb hK hP hD hS 2 rfl hu7 rfl dX9_mixOf_37 (fun H locs hP hD hS => ?_)
        obtain ⟨v8, ev8, hf⟩ := o_nm hf
        refine lv_iinc (v := v8) (lv' := [(3, .int v8), (0, .ref a_t), (1, .int i1), (2, .int i2)]) hx hb dX9_mixOf_38 hl (k := 3) rfl (by rw [ev8]; rfl) (by decide) rfl (fun ls hl => ?_)
        refine lv_goto (tgt := 2) hx hb dX9_mixOf_41 (by decide) ?_
        exact ih2 v8 u7 _ _ _ hf (lv_sub hl [1, 2, 3, 0] rfl) hP hD hS
  exact L2 p_FU 0 t_mix_r _ _ _ hf (lv_sub hl [1, 2, 3, 0] rfl) hP hD hS
noncomputable def fX9_cofactorOf (nb1 : Nat) (t_p : Int32) (b1_r : (Nat → Int32)) (t_cofactor_r : (Nat → Int32)) (i2 : Int32) : Option ((Nat → Int32)) :=
  p_b1 (p_ld b1_r nb1 i2) (fun v1 =>
p_b1 (p_ld b1_r nb1 (i2 + 1)) (fun v2 =>
p_b1 (p_ld b1_r nb1 (i2 + 2)) (fun v3 =>
p_b1 (p_ld b1_r nb1 (i2 + 3)) (fun v4 =>
p_b1 (p_ld b1_r nb1 (i2 + 4)) (fun v5 =>
p_b1 (p_ld b1_r nb1 (i2 + 5)) (fun v6 =>
p_b1 (fX9_of t_p ((v2 * v3) - (v4 * v4))) (fun v7 =>
p_b1 (p_st t_cofactor_r 6 0 v7) (fun u8 =>
p_b1 (fX9_of t_p ((v1 * v3) - (v5 * v5))) (fun v9 =>
p_b1 (p_st u8 6 1 v9) (fun u10 =>
p_b1 (fX9_of t_p ((v1 * v2) - (v6 * v6))) (fun v11 =>
p_b1 (p_st u10 6 2 v11) (fun u12 =>
p_b1 (fX9_of t_p ((v5 * v6) - (v1 * v4))) (fun v13 =>
p_b1 (p_st u12 6 3 v13) (fun u14 =>
p_b1 (fX9_of t_p ((v4 * v6) - (v2 * v5))) (fun v15 =>
p_b1 (p_st u14 6 4 v15) (fun u16 =>
p_b1 (fX9_of t_p ((v4 * v5) - (v3 * v6))) (fun v17 =>
p_b1 (p_st u16 6 5 v17) (fun u18 =>
some u18))))))))))))))))))
def rmX9_cofactorOf : Room := { frames := 1, cells := 0, slots := 0, locals := 22 }
set_option maxHeartbeats 4000000 in
set_option maxRecDepth 100000 in
theorem tX9_cofactorOf (l : Launch) (D : va_G) (cI : ClassId) (a_t : Nat) (a_b1 : Nat) (a_t_given : Nat) (a_t_c : Nat) (a_t_pointX : Nat) (a_t_pointY : Nat) (a_t_pointZ : Nat) (a_t_pointFlags : Nat) (a_t_flagPoint : Nat) (a_t_flagU : Nat) (a_t_flagV : Nat) (a_t_flagW : Nat) (a_t_next : Nat) (a_t_series : Nat) (a_t_mix : Nat) (a_t_cofactor : Nat) (a_t_square : Nat) (nb1 : Nat) (t_p : Int32) (t_isLaid : Int32) (t_isGood : Int32) (t_points : Int32) (t_flags : Int32) (t_formX : Int32) (t_formY : Int32) (t_formZ : Int32) (t_isNought : Int32) (t_sumT : Int32) (t_sumY : Int32) (b1_r : (Nat → Int32)) (t_cofactor_r : (Nat → Int32)) (i2 : Int32) (s_t_cofactor_r : (Nat → Int32)) (hf : fX9_cofactorOf nb1 t_p b1_r t_cofactor_r i2 = some s_t_cofactor_r) : x_CV l D cI yX9_cofactorOf wsX9_cofactorOf rmX9_cofactorOf [.ref a_t, .ref a_b1, .int i2] [x_o9 a_t t_p a_t_given t_isLaid t_isGood a_t_c t_points a_t_pointX a_t_pointY a_t_pointZ a_t_pointFlags t_flags a_t_flagPoint a_t_flagU a_t_flagV a_t_flagW a_t_next a_t_series a_t_mix a_t_cofactor t_formX t_formY t_formZ a_t_square t_isNought t_sumT t_sumY, x_ar cI a_b1 nb1 b1_r, x_ar cI a_t_cofactor 6 t_cofactor_r] [x_o9 a_t t_p a_t_given t_isLaid t_isGood a_t_c t_points a_t_pointX a_t_pointY a_t_pointZ a_t_pointFlags t_flags a_t_flagPoint a_t_flagU a_t_flagV a_t_flagW a_t_next a_t_series a_t_mix a_t_cofactor t_formX t_formY t_formZ a_t_square t_isNought t_sumT t_sumY, x_ar cI a_b1 nb1 b1_r, x_ar cI a_t_cofactor 6 s_t_cofactor_r] := by
  refine x_CV_of (cc := cX9_cofactorOf) (maxL := 9) (own := RX9) (lv0 := [(0, .ref a_t), (1, .ref a_b1), (2, .int i2)]) (by decide) rfl rfl (Nat.le_of_ble_eq_true rfl) rfl ?_
  intro p e s m args below meth c A Q ls hx hb hml hown hts hN hK hP hD hS hA hl hret
  have iX9 : ∀ w ∈ u_ws RX9 TX9 26, w ∈ wsX9_cofactorOf := by decide +kernel
  have l53 := hts (.fieldLink RX9 53 "ChordRingsModel" "cofactor" "[I") (by decide +kernel)
  unfold fX9_cofactorOf at hf
  refine lv_aload_n hx hb dX9_cofactorOf_0 rfl (lv_at hl 1 rfl) ?_
  refine lv_iload_n hx hb dX9_cofactorOf_1 rfl (lv_at hl 2 rfl) ?_
  obtain ⟨v1, hv1, hf⟩ := o_b1 hf
  refine x_ald hx hb hK hP 1 rfl hv1 dX9_cofactorOf_2 ?_
  refine lv_istore_n (lv' := [(3, .int v1), (0, .ref a_t), (1, .ref a_b1), (2, .int i2)]) hx hb dX9_cofactorOf_3 rfl hl (by decide) rfl (fun ls hl => ?_)
  refine lv_aload_n hx hb dX9_cofactorOf_4 rfl (lv_at hl 2 rfl) ?_
  refine lv_iload_n hx hb dX9_cofactorOf_5 rfl (lv_at hl 3 rfl) ?_
  refine lv_iconst (v := 1) hx hb dX9_cofactorOf_6 (by decide) ?_
  refine lv_iadd hx hb dX9_cofactorOf_7 ?_
  obtain ⟨v2, hv2, hf⟩ := o_b1 hf
  refine x_ald hx hb hK hP 1 rfl hv2 dX9_cofactorOf_8 ?_
  refine lv_istore (lv' := [(4, .int v2), (3, .int v1), (0, .ref a_t), (1, .ref a_b1), (2, .int i2)]) hx hb dX9_cofactorOf_9 hl (by decide) rfl (fun ls hl => ?_)
  refine lv_aload_n hx hb dX9_cofactorOf_11 rfl (lv_at hl 3 rfl) ?_
  refine lv_iload_n hx hb dX9_cofactorOf_12 rfl (lv_at hl 4 rfl) ?_
  refine lv_iconst (v := 2) hx hb dX9_cofactorOf_13 (by decide) ?_
  refine lv_iadd hx hb dX9_cofactorOf_14 ?_
  obtain ⟨v3, hv3, hf⟩ := o_b1 hf
  refine x_ald hx hb hK hP 1 rfl hv3 dX9_cofactorOf_15 ?_
  refine lv_istore (lv' := [(5, .int v3), (4, .int v2), (3, .int v1), (0, .ref a_t), (1, .ref a_b1), (2, .int i2)]) hx hb dX9_cofactorOf_16 hl (by decide) rfl (fun ls hl => ?_)
  refine lv_aload_n hx hb dX9_cofactorOf_18 rfl (lv_at hl 4 rfl) ?_
  refine lv_iload_n hx hb dX9_cofactorOf_19 rfl (lv_at hl 5 rfl) ?_
  refine lv_iconst (v := 3) hx hb dX9_cofactorOf_20 (by decide) ?_
  refine lv_iadd hx hb dX9_cofactorOf_21 ?_
  obtain ⟨v4, hv4, hf⟩ := o_b1 hf
  refine x_ald hx hb hK hP 1 rfl hv4 dX9_cofactorOf_22 ?_
  refine lv_istore (lv' := [(6, .int v4), (5, .int v3), (4, .int v2), (3, .int v1), (0, .ref a_t), (1, .ref a_b1), (2, .int i2)]) hx hb dX9_cofactorOf_23 hl (by decide) rfl (fun ls hl => ?_)
  refine lv_aload_n hx hb dX9_cofactorOf_25 rfl (lv_at hl 5 rfl) ?_
  refine lv_iload_n hx hb dX9_cofactorOf_26 rfl (lv_at hl 6 rfl) ?_
  refine lv_iconst (v := 4) hx hb dX9_cofactorOf_27 (by decide) ?_
  refine lv_iadd hx hb dX9_cofactorOf_28 ?_
  obtain ⟨v5, hv5, hf⟩ := o_b1 hf
  refine x_ald hx hb hK hP 1 rfl hv5 dX9_cofactorOf_29 ?_
  refine lv_istore (lv' := [(7, .int v5), (6, .int v4), (5, .int v3), (4, .int v2), (3, .int v1), (0, .ref a_t), (1, .ref a_b1), (2, .int i2)]) hx hb dX9_cofactorOf_30 hl (by decide) rfl (fun ls hl => ?_)
  refine lv_aload_n hx hb dX9_cofactorOf_32 rfl (lv_at hl 6 rfl) ?_
  refine lv_iload_n hx hb dX9_cofactorOf_33 rfl (lv_at hl 7 rfl) ?_
  refine lv_iconst (v := 5) hx hb dX9_cofactorOf_34 (by decide) ?_
  refine lv_iadd hx hb dX9_cofactorOf_35 ?_
  obtain ⟨v6, hv6, hf⟩ := o_b1 hf
  refine x_ald hx hb hK hP 1 rfl hv6 dX9_cofactorOf_36 ?_
  refine lv_istore (lv' := [(8, .int v6), (7, .int v5), (6, .int v4), (5, .int v3), (4, .int v2), (3, .int v1), (0, .ref a_t), (1, .ref a_b1), (2, .int i2)]) hx hb dX9_cofactorOf_37 hl (by decide) rfl (fun ls hl => ?_)
  refine lv_aload_n hx hb dX9_cofactorOf_39 rfl (lv_at hl 6 rfl) ?_
  refine va_get (D := D) (ci := 9) (C := RX9) (T := TX9) (N := 26) hx hb hts iX9 hown hK hP 0 rfl rfl 18 (by decide) l53 (fun _ h9 => h9) rfl dX9_cofactorOf_40 ?_
  refine lv_iconst (v := 0) hx hb dX9_cofactorOf_43 (by decide) ?_
  refine lv_aload_n hx hb dX9_cofactorOf_44 rfl (lv_at hl 6 rfl) ?_
  refine lv_iload hx hb dX9_cofactorOf_45 (lv_at hl 4 rfl) ?_
  refine lv_iload hx hb dX9_cofactorOf_47 (lv_at hl 3 rfl) ?_
  refine lv_imul hx hb dX9_cofactorOf_49 ?_
  refine lv_iload hx hb dX9_cofactorOf_50 (lv_at hl 2 rfl) ?_
  refine lv_iload hx hb dX9_cofactorOf_52 (lv_at hl 2 rfl) ?_
  refine lv_imul hx hb dX9_cofactorOf_54 ?_
  refine lv_isub hx hb dX9_cofactorOf_55 ?_
  obtain ⟨v7, hv7, hf⟩ := o_b1 hf
  refine x_vi (rest := [.int 0, .ref a_t_cofactor]) (W1 := [x_o9 a_t t_p a_t_given t_isLaid t_isGood a_t_c t_points a_t_pointX a_t_pointY a_t_pointZ a_t_pointFlags t_flags a_t_flagPoint a_t_flagU a_t_flagV a_t_flagW a_t_next a_t_series a_t_mix a_t_cofactor t_formX t_formY t_formZ a_t_square t_isNought t_sumT t_sumY, x_ar cI a_b1 nb1 b1_r, x_ar cI a_t_cofactor 6 t_cofactor_r]) ⟨hx, hb, hml, hown, hts⟩ (tX9_of l D cI a_t a_t_given a_t_c a_t_pointX a_t_pointY a_t_pointZ a_t_pointFlags a_t_flagPoint a_t_flagU a_t_flagV a_t_flagW a_t_next a_t_series a_t_mix a_t_cofactor a_t_square t_p t_isLaid t_isGood t_points t_flags t_formX t_formY t_formZ t_isNought t_sumT t_sumY ((v2 * v3) - (v4 * v4)) v7 hv7) (cwV 1 hts gX9_cofactorOf_X9_of rfl rfl rfl (by decide +kernel) ⟨Nat.le_of_ble_eq_true rfl, Nat.le_of_ble_eq_true rfl⟩) hN hK hP hD hS hA [0] [some 0, none, none] rfl rfl rfl rfl rfl rfl 0 rfl rfl rfl hl.1 rfl (Nat.le_of_ble_eq_true rfl) dX9_cofactorOf_56 ⟨Nat.zero_le _, Nat.zero_le _⟩ (fun H locs hP hD hS => ?_)
  obtain ⟨u8, hu8, hf⟩ := o_b1 hf
  refine x_ast (W1 := [x_o9 a_t t_p a_t_given t_isLaid t_isGood a_t_c t_points a_t_pointX a_t_pointY a_t_pointZ a_t_pointFlags t_flags a_t_flagPoint a_t_flagU a_t_flagV a_t_flagW a_t_next a_t_series a_t_mix a_t_cofactor t_formX t_formY t_formZ a_t_square t_isNought t_sumT t_sumY, x_ar cI a_b1 nb1 b1_r, x_ar cI a_t_cofactor 6 u8]) hx hb hK hP hD hS 2 rfl hu8 rfl dX9_cofactorOf_59 (fun H locs hP hD hS => ?_)
  refine lv_aload_n hx hb dX9_cofactorOf_60 rfl (lv_at hl 6 rfl) ?_
  refine va_get (D := D) (ci := 9) (C := RX9) (T := TX9) (N := 26) hx hb hts iX9 hown hK hP 0 rfl rfl 18 (by decide) l53 (fun _ h9 => h9) rfl dX9_cofactorOf_61 ?_
  refine lv_iconst (v := 1) hx hb dX9_cofactorOf_64 (by decide) ?_
  refine lv_aload_n hx hb dX9_cofactorOf_65 rfl (lv_at hl 6 rfl) ?_
  refine lv_iload_n hx hb dX9_cofactorOf_66 rfl (lv_at hl 5 rfl) ?_
  refine lv_iload hx hb dX9_cofactorOf_67 (lv_at hl 3 rfl) ?_
  refine lv_imul hx hb dX9_cofactorOf_69 ?_
  refine lv_iload hx hb dX9_cofactorOf_70 (lv_at hl 1 rfl) ?_
  refine lv_iload hx hb dX9_cofactorOf_72 (lv_at hl 1 rfl) ?_
  refine lv_imul hx hb dX9_cofactorOf_74 ?_
  refine lv_isub hx hb dX9_cofactorOf_75 ?_
  obtain ⟨v9, hv9, hf⟩ := o_b1 hf
  refine x_vi (rest := [.int 1, .ref a_t_cofactor]) (W1 := [x_o9 a_t t_p a_t_given t_isLaid t_isGood a_t_c t_points a_t_pointX a_t_pointY a_t_pointZ a_t_pointFlags t_flags a_t_flagPoint a_t_flagU a_t_flagV a_t_flagW a_t_next a_t_series a_t_mix a_t_cofactor t_formX t_formY t_formZ a_t_square t_isNought t_sumT t_sumY, x_ar cI a_b1 nb1 b1_r, x_ar cI a_t_cofactor 6 u8]) ⟨hx, hb, hml, hown, hts⟩ (tX9_of l D cI a_t a_t_given a_t_c a_t_pointX a_t_pointY a_t_pointZ a_t_pointFlags a_t_flagPoint a_t_flagU a_t_flagV a_t_flagW a_t_next a_t_series a_t_mix a_t_cofactor a_t_square t_p t_isLaid t_isGood t_points t_flags t_formX t_formY t_formZ t_isNought t_sumT t_sumY ((v1 * v3) - (v5 * v5)) v9 hv9) (cwV 1 hts gX9_cofactorOf_X9_of rfl rfl rfl (by decide +kernel) ⟨Nat.le_of_ble_eq_true rfl, Nat.le_of_ble_eq_true rfl⟩) hN hK hP hD hS hA [0] [some 0, none, none] rfl rfl rfl rfl rfl rfl 0 rfl rfl rfl hl.1 rfl (Nat.le_of_ble_eq_true rfl) dX9_cofactorOf_76 ⟨Nat.zero_le _, Nat.zero_le _⟩ (fun H locs hP hD hS => ?_)
  obtain ⟨u10, hu10, hf⟩ := o_b1 hf
  refine x_ast (W1 := [x_o9 a_t t_p a_t_given t_isLaid t_isGood a_t_c t_points a_t_pointX a_t_pointY a_t_pointZ a_t_pointFlags t_flags a_t_flagPoint a_t_flagU a_t_flagV a_t_flagW a_t_next a_t_series a_t_mix a_t_cofactor t_formX t_formY t_formZ a_t_square t_isNought t_sumT t_sumY, x_ar cI a_b1 nb1 b1_r, x_ar cI a_t_cofactor 6 u10]) hx hb hK hP hD hS 2 rfl hu10 rfl dX9_cofactorOf_79 (fun H locs hP hD hS => ?_)
  refine lv_aload_n hx hb dX9_cofactorOf_80 rfl (lv_at hl 6 rfl) ?_
  refine va_get (D := D) (ci := 9) (C := RX9) (T := TX9) (N := 26) hx hb hts iX9 hown hK hP 0 rfl rfl 18 (by decide) l53 (fun _ h9 => h9) rfl dX9_cofactorOf_81 ?_
  refine lv_iconst (v := 2) hx hb dX9_cofactorOf_84 (by decide) ?_
  refine lv_aload_n hx hb dX9_cofactorOf_85 rfl (lv_at hl 6 rfl) ?_
  refine lv_iload_n hx hb dX9_cofactorOf_86 rfl (lv_at hl 5 rfl) ?_
  refine lv_iload hx hb dX9_cofactorOf_87 (lv_at hl 4 rfl) ?_
  refine lv_imul hx hb dX9_cofactorOf_89 ?_
  refine lv_iload hx hb dX9_cofactorOf_90 (lv_at hl 0 rfl) ?_
  refine lv_iload hx hb dX9_cofactorOf_92 (lv_at hl 0 rfl) ?_
  refine lv_imul hx hb dX9_cofactorOf_94 ?_
  refine lv_isub hx hb dX9_cofactorOf_95 ?_
  obtain ⟨v11, hv11, hf⟩ := o_b1 hf
  refine x_vi (rest := [.int 2, .ref a_t_cofactor]) (W1 := [x_o9 a_t t_p a_t_given t_isLaid t_isGood a_t_c t_points a_t_pointX a_t_pointY a_t_pointZ a_t_pointFlags t_flags a_t_flagPoint a_t_flagU a_t_flagV a_t_flagW a_t_next a_t_series a_t_mix a_t_cofactor t_formX t_formY t_formZ a_t_square t_isNought t_sumT t_sumY, x_ar cI a_b1 nb1 b1_r, x_ar cI a_t_cofactor 6 u10]) ⟨hx, hb, hml, hown, hts⟩ (tX9_of l D cI a_t a_t_given a_t_c a_t_pointX a_t_pointY a_t_pointZ a_t_pointFlags a_t_flagPoint a_t_flagU a_t_flagV a_t_flagW a_t_next a_t_series a_t_mix a_t_cofactor a_t_square t_p t_isLaid t_isGood t_points t_flags t_formX t_formY t_formZ t_isNought t_sumT t_sumY ((v1 * v2) - (v6 * v6)) v11 hv11) (cwV 1 hts gX9_cofactorOf_X9_of rfl rfl rfl (by decide +kernel) ⟨Nat.le_of_ble_eq_true rfl, Nat.le_of_ble_eq_true rfl⟩) hN hK hP hD hS hA [0] [some 0, none, none] rfl rfl rfl rfl rfl rfl 0 rfl rfl rfl hl.1 rfl (Nat.le_of_ble_eq_true rfl) dX9_cofactorOf_96 ⟨Nat.zero_le _, Nat.zero_le _⟩ (fun H locs hP hD hS => ?_)
  obtain ⟨u12, hu12, hf⟩ := o_b1 hf
  refine x_ast (W1 := [x_o9 a_t t_p a_t_given t_isLaid t_isGood a_t_c t_points a_t_pointX a_t_pointY a_t_pointZ a_t_pointFlags t_flags a_t_flagPoint a_t_flagU a_t_flagV a_t_flagW a_t_next a_t_series a_t_mix a_t_cofactor t_formX t_formY t_formZ a_t_square t_isNought t_sumT t_sumY, x_ar cI a_b1 nb1 b1_r, x_ar cI a_t_cofactor 6 u12]) hx hb hK hP hD hS 2 rfl hu12 rfl dX9_cofactorOf_99 (fun H locs hP hD hS => ?_)
  refine lv_aload_n hx hb dX9_cofactorOf_100 rfl (lv_at hl 6 rfl) ?_
  refine va_get (D := D) (ci := 9) (C := RX9) (T := TX9) (N := 26) hx hb hts iX9 hown hK hP 0 rfl rfl 18 (by decide) l53 (fun _ h9 => h9) rfl dX9_cofactorOf_101 ?_
  refine lv_iconst (v := 3) hx hb dX9_cofactorOf_104 (by decide) ?_
  refine lv_aload_n hx hb dX9_cofactorOf_105 rfl (lv_at hl 6 rfl) ?_
  refine lv_iload hx hb dX9_cofactorOf_106 (lv_at hl 1 rfl) ?_
  refine lv_iload hx hb dX9_cofactorOf_108 (lv_at hl 0 rfl) ?_
  refine lv_imul hx hb dX9_cofactorOf_110 ?_
  refine lv_iload_n hx hb dX9_cofactorOf_111 rfl (lv_at hl 5 rfl) ?_
  refine lv_iload hx hb dX9_cofactorOf_112 (lv_at hl 2 rfl) ?_
  refine lv_imul hx hb dX9_cofactorOf_114 ?_
  refine lv_isub hx hb dX9_cofactorOf_115 ?_
  obtain ⟨v13, hv13, hf⟩ := o_b1 hf
  refine x_vi (rest := [.int 3, .ref a_t_cofactor]) (W1 := [x_o9 a_t t_p a_t_given t_isLaid t_isGood a_t_c t_points a_t_pointX a_t_pointY a_t_pointZ a_t_pointFlags t_flags a_t_flagPoint a_t_flagU a_t_flagV a_t_flagW a_t_next a_t_series a_t_mix a_t_cofactor t_formX t_formY t_formZ a_t_square t_isNought t_sumT t_sumY, x_ar cI a_b1 nb1 b1_r, x_ar cI a_t_cofactor 6 u12]) ⟨hx, hb, hml, hown, hts⟩ (tX9_of l D cI a_t a_t_given a_t_c a_t_pointX a_t_pointY a_t_pointZ a_t_pointFlags a_t_flagPoint a_t_flagU a_t_flagV a_t_flagW a_t_next a_t_series a_t_mix a_t_cofactor a_t_square t_p t_isLaid t_isGood t_points t_flags t_formX t_formY t_formZ t_isNought t_sumT t_sumY ((v5 * v6) - (v1 * v4)) v13 hv13) (cwV 1 hts gX9_cofactorOf_X9_of rfl rfl rfl (by decide +kernel) ⟨Nat.le_of_ble_eq_true rfl, Nat.le_of_ble_eq_true rfl⟩) hN hK hP hD hS hA [0] [some 0, none, none] rfl rfl rfl rfl rfl rfl 0 rfl rfl rfl hl.1 rfl (Nat.le_of_ble_eq_true rfl) dX9_cofactorOf_116 ⟨Nat.zero_le _, Nat.zero_le _⟩ (fun H locs hP hD hS => ?_)
  obtain ⟨u14, hu14, hf⟩ := o_b1 hf
  refine x_ast (W1 := [x_o9 a_t t_p a_t_given t_isLaid t_isGood a_t_c t_points a_t_pointX a_t_pointY a_t_pointZ a_t_pointFlags t_flags a_t_flagPoint a_t_flagU a_t_flagV a_t_flagW a_t_next a_t_series a_t_mix a_t_cofactor t_formX t_formY t_formZ a_t_square t_isNought t_sumT t_sumY, x_ar cI a_b1 nb1 b1_r, x_ar cI a_t_cofactor 6 u14]) hx hb hK hP hD hS 2 rfl hu14 rfl dX9_cofactorOf_119 (fun H locs hP hD hS => ?_)
  refine lv_aload_n hx hb dX9_cofactorOf_120 rfl (lv_at hl 6 rfl) ?_
  refine va_get (D := D) (ci := 9) (C := RX9) (T := TX9) (N := 26) hx hb hts iX9 hown hK hP 0 rfl rfl 18 (by decide) l53 (fun _ h9 => h9) rfl dX9_cofactorOf_121 ?_
  refine lv_iconst (v := 4) hx hb dX9_cofactorOf_124 (by decide) ?_
  refine lv_aload_n hx hb dX9_cofactorOf_125 rfl (lv_at hl 6 rfl) ?_
  refine lv_iload hx hb dX9_cofactorOf_126 (lv_at hl 2 rfl) ?_
  refine lv_iload hx hb dX9_cofactorOf_128 (lv_at hl 0 rfl) ?_
  refine lv_imul hx hb dX9_cofactorOf_130 ?_
  refine lv_iload hx hb dX9_cofactorOf_131 (lv_at hl 4 rfl) ?_
  refine lv_iload hx hb dX9_cofactorOf_133 (lv_at hl 1 rfl) ?_
  refine lv_imul hx hb dX9_cofactorOf_135 ?_
  refine lv_isub hx hb dX9_cofactorOf_136 ?_
  obtain ⟨v15, hv15, hf⟩ := o_b1 hf
  refine x_vi (rest := [.int 4, .ref a_t_cofactor]) (W1 := [x_o9 a_t t_p a_t_given t_isLaid t_isGood a_t_c t_points a_t_pointX a_t_pointY a_t_pointZ a_t_pointFlags t_flags a_t_flagPoint a_t_flagU a_t_flagV a_t_flagW a_t_next a_t_series a_t_mix a_t_cofactor t_formX t_formY t_formZ a_t_square t_isNought t_sumT t_sumY, x_ar cI a_b1 nb1 b1_r, x_ar cI a_t_cofactor 6 u14]) ⟨hx, hb, hml, hown, hts⟩ (tX9_of l D cI a_t a_t_given a_t_c a_t_pointX a_t_pointY a_t_pointZ a_t_pointFlags a_t_flagPoint a_t_flagU a_t_flagV a_t_flagW a_t_next a_t_series a_t_mix a_t_cofactor a_t_square t_p t_isLaid t_isGood t_points t_flags t_formX t_formY t_formZ t_isNought t_sumT t_sumY ((v4 * v6) - (v2 * v5)) v15 hv15) (cwV 1 hts gX9_cofactorOf_X9_of rfl rfl rfl (by decide +kernel) ⟨Nat.le_of_ble_eq_true rfl, Nat.le_of_ble_eq_true rfl⟩) hN hK hP hD hS hA [0] [some 0, none, none] rfl rfl rfl rfl rfl rfl 0 rfl rfl rfl hl.1 rfl (Nat.le_of_ble_eq_true rfl) dX9_cofactorOf_137 ⟨Nat.zero_le _, Nat.zero_le _⟩ (fun H locs hP hD hS => ?_)
  obtain ⟨u16, hu16, hf⟩ := o_b1 hf
  refine x_ast (W1 := [x_o9 a_t t_p a_t_given t_isLaid t_isGood a_t_c t_points a_t_pointX a_t_pointY a_t_pointZ a_t_pointFlags t_flags a_t_flagPoint a_t_flagU a_t_flagV a_t_flagW a_t_next a_t_series a_t_mix a_t_cofactor t_formX t_formY t_formZ a_t_square t_isNought t_sumT t_sumY, x_ar cI a_b1 nb1 b1_r, x_ar cI a_t_cofactor 6 u16]) hx hb hK hP hD hS 2 rfl hu16 rfl dX9_cofactorOf_140 (fun H locs hP hD hS => ?_)
  refine lv_aload_n hx hb dX9_cofactorOf_141 rfl (lv_at hl 6 rfl) ?_
  refine va_get (D := D) (ci := 9) (C := RX9) (T := TX9) (N := 26) hx hb hts iX9 hown hK hP 0 rfl rfl 18 (by decide) l53 (fun _ h9 => h9) rfl dX9_cofactorOf_142 ?_
  refine lv_iconst (v := 5) hx hb dX9_cofactorOf_145 (by decide) ?_
  refine lv_aload_n hx hb dX9_cofactorOf_146 rfl (lv_at hl 6 rfl) ?_
  refine lv_iload hx hb dX9_cofactorOf_147 (lv_at hl 2 rfl) ?_
  refine lv_iload hx hb dX9_cofactorOf_149 (lv_at hl 1 rfl) ?_
  refine lv_imul hx hb dX9_cofactorOf_151 ?_
  refine lv_iload hx hb dX9_cofactorOf_152 (lv_at hl 3 rfl) ?_
  refine lv_iload hx hb dX9_cofactorOf_154 (lv_at hl 0 rfl) ?_
  refine lv_imul hx hb dX9_cofactorOf_156 ?_
  refine lv_isub hx hb dX9_cofactorOf_157 ?_
  obtain ⟨v17, hv17, hf⟩ := o_b1 hf
  refine x_vi (rest := [.int 5, .ref a_t_cofactor]) (W1 := [x_o9 a_t t_p a_t_given t_isLaid t_isGood a_t_c t_points a_t_pointX a_t_pointY a_t_pointZ a_t_pointFlags t_flags a_t_flagPoint a_t_flagU a_t_flagV a_t_flagW a_t_next a_t_series a_t_mix a_t_cofactor t_formX t_formY t_formZ a_t_square t_isNought t_sumT t_sumY, x_ar cI a_b1 nb1 b1_r, x_ar cI a_t_cofactor 6 u16]) ⟨hx, hb, hml, hown, hts⟩ (tX9_of l D cI a_t a_t_given a_t_c a_t_pointX a_t_pointY a_t_pointZ a_t_pointFlags a_t_flagPoint a_t_flagU a_t_flagV a_t_flagW a_t_next a_t_series a_t_mix a_t_cofactor a_t_square t_p t_isLaid t_isGood t_points t_flags t_formX t_formY t_formZ t_isNought t_sumT t_sumY ((v4 * v5) - (v3 * v6)) v17 hv17) (cwV 1 hts gX9_cofactorOf_X9_of rfl rfl rfl (by decide +kernel) ⟨Nat.le_of_ble_eq_true rfl, Nat.le_of_ble_eq_true rfl⟩) hN hK hP hD hS hA [0] [some 0, none, none] rfl rfl rfl rfl rfl rfl 0 rfl rfl rfl hl.1 rfl (Nat.le_of_ble_eq_true rfl) dX9_cofactorOf_158 ⟨Nat.zero_le _, Nat.zero_le _⟩ (fun H locs hP hD hS => ?_)
  obtain ⟨u18, hu18, hf⟩ := o_b1 hf
  refine x_ast (W1 := [x_o9 a_t t_p a_t_given t_isLaid t_isGood a_t_c t_points a_t_pointX a_t_pointY a_t_pointZ a_t_pointFlags t_flags a_t_flagPoint a_t_flagU a_t_flagV a_t_flagW a_t_next a_t_series a_t_mix a_t_cofactor t_formX t_formY t_formZ a_t_square t_isNought t_sumT t_sumY, x_ar cI a_b1 nb1 b1_r, x_ar cI a_t_cofactor 6 u18]) hx hb hK hP hD hS 2 rfl hu18 rfl dX9_cofactorOf_161 (fun H locs hP hD hS => ?_)
  obtain rfl := Option.some.inj hf
  exact hret dX9_cofactorOf_162 hP hD hS
noncomputable def fX9_both (nb1 : Nat) (t_p : Int32) (b1_r : (Nat → Int32)) (i2 : Int32) (i3 : Int32) (i4 : Int32) (i5 : Int32) : Option (Int32) :=
  p_b1 (p_ld b1_r nb1 i2) (fun v1 =>
p_b1 (p_ld b1_r nb1 (i2 + 5)) (fun v2 =>
p_b1 (p_ld b1_r nb1 (i2 + 4)) (fun v3 =>
p_b1 (fX9_of t_p (((v1 * i3) + (v2 * i4)) + (v3 * i5))) (fun v4 =>
p_b1 (p_ld b1_r nb1 (i2 + 5)) (fun v5 =>
p_b1 (p_ld b1_r nb1 (i2 + 1)) (fun v6 =>
p_b1 (p_ld b1_r nb1 (i2 + 3)) (fun v7 =>
p_b1 (fX9_of t_p (((v5 * i3) + (v6 * i4)) + (v7 * i5))) (fun v8 =>
p_b1 (p_ld b1_r nb1 (i2 + 4)) (fun v9 =>
p_b1 (p_ld b1_r nb1 (i2 + 3)) (fun v10 =>
p_b1 (p_ld b1_r nb1 (i2 + 2)) (fun v11 =>
p_b1 (fX9_of t_p (((v9 * i3) + (v10 * i4)) + (v11 * i5))) (fun v12 =>
p_b1 (fX9_of t_p (((v4 * i3) + (v8 * i4)) + (v12 * i5))) (fun v13 =>
some v13)))))))))))))
def rmX9_both : Room := { frames := 1, cells := 0, slots := 0, locals := 22 }
set_option maxHeartbeats 4000000 in
set_option maxRecDepth 100000 in
theorem tX9_both (l : Launch) (D : va_G) (cI : ClassId) (a_t : Nat) (a_b1 : Nat) (a_t_given : Nat) (a_t_c : Nat) (a_t_pointX : Nat) (a_t_pointY : Nat) (a_t_pointZ : Nat) (a_t_pointFlags : Nat) (a_t_flagPoint : Nat) (a_t_flagU : Nat) (a_t_flagV : Nat) (a_t_flagW : Nat) (a_t_next : Nat) (a_t_series : Nat) (a_t_mix : Nat) (a_t_cofactor : Nat) (a_t_square : Nat) (nb1 : Nat) (t_p : Int32) (t_isLaid : Int32) (t_isGood : Int32) (t_points : Int32) (t_flags : Int32) (t_formX : Int32) (t_formY : Int32) (t_formZ : Int32) (t_isNought : Int32) (t_sumT : Int32) (t_sumY : Int32) (b1_r : (Nat → Int32)) (i2 : Int32) (i3 : Int32) (i4 : Int32) (i5 : Int32) (r : Int32) (hf : fX9_both nb1 t_p b1_r i2 i3 i4 i5 = some r) : x_CI l D cI yX9_both wsX9_both rmX9_both [.ref a_t, .ref a_b1, .int i2, .int i3, .int i4, .int i5] [x_o9 a_t t_p a_t_given t_isLaid t_isGood a_t_c t_points a_t_pointX a_t_pointY a_t_pointZ a_t_pointFlags t_flags a_t_flagPoint a_t_flagU a_t_flagV a_t_flagW a_t_next a_t_series a_t_mix a_t_cofactor t_formX t_formY t_formZ a_t_square t_isNought t_sumT t_sumY, x_ar cI a_b1 nb1 b1_r] [x_o9 a_t t_p a_t_given t_isLaid t_isGood a_t_c t_points a_t_pointX a_t_pointY a_t_pointZ a_t_pointFlags t_flags a_t_flagPoint a_t_flagU a_t_flagV a_t_flagW a_t_next a_t_series a_t_mix a_t_cofactor t_formX t_formY t_formZ a_t_square t_isNought t_sumT t_sumY, x_ar cI a_b1 nb1 b1_r] r := by
  refine x_CI_of (cc := cX9_both) (maxL := 9) (ty := .int) (own := RX9) (lv0 := [(0, .ref a_t), (1, .ref a_b1), (2, .int i2), (3, .int i3), (4, .int i4), (5, .int i5)]) (by decide) rfl rfl (Nat.le_of_ble_eq_true rfl) rfl ?_
  intro p e s m args below meth c A Q ls hx hb hml hown hts hN hK hP hD hS hA hl hret
  unfold fX9_both at hf
  refine lv_aload_n hx hb dX9_both_0 rfl (lv_at hl 0 rfl) ?_
  refine lv_aload_n hx hb dX9_both_1 rfl (lv_at hl 1 rfl) ?_
  refine lv_iload_n hx hb dX9_both_2 rfl (lv_at hl 2 rfl) ?_
  obtain ⟨v1, hv1, hf⟩ := o_b1 hf
  refine x_ald hx hb hK hP 1 rfl hv1 dX9_both_3 ?_
  refine lv_iload_n hx hb dX9_both_4 rfl (lv_at hl 3 rfl) ?_
  refine lv_imul hx hb dX9_both_5 ?_
  refine lv_aload_n hx hb dX9_both_6 rfl (lv_at hl 1 rfl) ?_
  refine lv_iload_n hx hb dX9_both_7 rfl (lv_at hl 2 rfl) ?_
  refine lv_iconst (v := 5) hx hb dX9_both_8 (by decide) ?_
  refine lv_iadd hx hb dX9_both_9 ?_
  obtain ⟨v2, hv2, hf⟩ := o_b1 hf
  refine x_ald hx hb hK hP 1 rfl hv2 dX9_both_10 ?_
  refine lv_iload hx hb dX9_both_11 (lv_at hl 4 rfl) ?_
  refine lv_imul hx hb dX9_both_13 ?_
  refine lv_iadd hx hb dX9_both_14 ?_
  refine lv_aload_n hx hb dX9_both_15 rfl (lv_at hl 1 rfl) ?_
  refine lv_iload_n hx hb dX9_both_16 rfl (lv_at hl 2 rfl) ?_
  refine lv_iconst (v := 4) hx hb dX9_both_17 (by decide) ?_
  refine lv_iadd hx hb dX9_both_18 ?_
  obtain ⟨v3, hv3, hf⟩ := o_b1 hf
  refine x_ald hx hb hK hP 1 rfl hv3 dX9_both_19 ?_
  refine lv_iload hx hb dX9_both_20 (lv_at hl 5 rfl) ?_
  refine lv_imul hx hb dX9_both_22 ?_
  refine lv_iadd hx hb dX9_both_23 ?_
  obtain ⟨v4, hv4, hf⟩ := o_b1 hf
  refine x_vi (rest := []) (W1 := [x_o9 a_t t_p a_t_given t_isLaid t_isGood a_t_c t_points a_t_pointX a_t_pointY a_t_pointZ a_t_pointFlags t_flags a_t_flagPoint a_t_flagU a_t_flagV a_t_flagW a_t_next a_t_series a_t_mix a_t_cofactor t_formX t_formY t_formZ a_t_square t_isNought t_sumT t_sumY, x_ar cI a_b1 nb1 b1_r]) ⟨hx, hb, hml, hown, hts⟩ (tX9_of l D cI a_t a_t_given a_t_c a_t_pointX a_t_pointY a_t_pointZ a_t_pointFlags a_t_flagPoint a_t_flagU a_t_flagV a_t_flagW a_t_next a_t_series a_t_mix a_t_cofactor a_t_square t_p t_isLaid t_isGood t_points t_flags t_formX t_formY t_formZ t_isNought t_sumT t_sumY (((v1 * i3) + (v2 * i4)) + (v3 * i5)) v4 hv4) (cwV 1 hts gX9_both_X9_of rfl rfl rfl (by decide +kernel) ⟨Nat.le_of_ble_eq_true rfl, Nat.le_of_ble_eq_true rfl⟩) hN hK hP hD hS hA [0] [some 0, none] rfl rfl rfl rfl rfl rfl 0 rfl rfl rfl hl.1 rfl (Nat.le_of_ble_eq_true rfl) dX9_both_24 ⟨Nat.zero_le _, Nat.zero_le _⟩ (fun H locs hP hD hS => ?_)
  refine lv_istore (lv' := [(6, .int v4), (0, .ref a_t), (1, .ref a_b1), (2, .int i2), (3, .int i3), (4, .int i4), (5, .int i5)]) hx hb dX9_both_27 hl (by decide) rfl (fun ls hl => ?_)
  refine lv_aload_n hx hb dX9_both_29 rfl (lv_at hl 1 rfl) ?_
  refine lv_aload_n hx hb dX9_both_30 rfl (lv_at hl 2 rfl) ?_
  refine lv_iload_n hx hb dX9_both_31 rfl (lv_at hl 3 rfl) ?_
  refine lv_iconst (v := 5) hx hb dX9_both_32 (by decide) ?_
  refine lv_iadd hx hb dX9_both_33 ?_
  obtain ⟨v5, hv5, hf⟩ := o_b1 hf
  refine x_ald hx hb hK hP 1 rfl hv5 dX9_both_34 ?_
  refine lv_iload_n hx hb dX9_both_35 rfl (lv_at hl 4 rfl) ?_
  refine lv_imul hx hb dX9_both_36 ?_
  refine lv_aload_n hx hb dX9_both_37 rfl (lv_at hl 2 rfl) ?_
  refine lv_iload_n hx hb dX9_both_38 rfl (lv_at hl 3 rfl) ?_
  refine lv_iconst (v := 1) hx hb dX9_both_39 (by decide) ?_
  refine lv_iadd hx hb dX9_both_40 ?_
  obtain ⟨v6, hv6, hf⟩ := o_b1 hf
  refine x_ald hx hb hK hP 1 rfl hv6 dX9_both_41 ?_
  refine lv_iload hx hb dX9_both_42 (lv_at hl 5 rfl) ?_
  refine lv_imul hx hb dX9_both_44 ?_
  refine lv_iadd hx hb dX9_both_45 ?_
  refine lv_aload_n hx hb dX9_both_46 rfl (lv_at hl 2 rfl) ?_
  refine lv_iload_n hx hb dX9_both_47 rfl (lv_at hl 3 rfl) ?_
  refine lv_iconst (v := 3) hx hb dX9_both_48 (by decide) ?_
  refine lv_iadd hx hb dX9_both_49 ?_
  obtain ⟨v7, hv7, hf⟩ := o_b1 hf
  refine x_ald hx hb hK hP 1 rfl hv7 dX9_both_50 ?_
  refine lv_iload hx hb dX9_both_51 (lv_at hl 6 rfl) ?_
  refine lv_imul hx hb dX9_both_53 ?_
  refine lv_iadd hx hb dX9_both_54 ?_
  obtain ⟨v8, hv8, hf⟩ := o_b1 hf
  refine x_vi (rest := []) (W1 := [x_o9 a_t t_p a_t_given t_isLaid t_isGood a_t_c t_points a_t_pointX a_t_pointY a_t_pointZ a_t_pointFlags t_flags a_t_flagPoint a_t_flagU a_t_flagV a_t_flagW a_t_next a_t_series a_t_mix a_t_cofactor t_formX t_formY t_formZ a_t_square t_isNought t_sumT t_sumY, x_ar cI a_b1 nb1 b1_r]) ⟨hx, hb, hml, hown, hts⟩ (tX9_of l D cI a_t a_t_given a_t_c a_t_pointX a_t_pointY a_t_pointZ a_t_pointFlags a_t_flagPoint a_t_flagU a_t_flagV a_t_flagW a_t_next a_t_series a_t_mix a_t_cofactor a_t_square t_p t_isLaid t_isGood t_points t_flags t_formX t_formY t_formZ t_isNought t_sumT t_sumY (((v5 * i3) + (v6 * i4)) + (v7 * i5)) v8 hv8) (cwV 1 hts gX9_both_X9_of rfl rfl rfl (by decide +kernel) ⟨Nat.le_of_ble_eq_true rfl, Nat.le_of_ble_eq_true rfl⟩) hN hK hP hD hS hA [0] [some 0, none] rfl rfl rfl rfl rfl rfl 0 rfl rfl rfl hl.1 rfl (Nat.le_of_ble_eq_true rfl) dX9_both_55 ⟨Nat.zero_le _, Nat.zero_le _⟩ (fun H locs hP hD hS => ?_)
  refine lv_istore (lv' := [(7, .int v8), (6, .int v4), (0, .ref a_t), (1, .ref a_b1), (2, .int i2), (3, .int i3), (4, .int i4), (5, .int i5)]) hx hb dX9_both_58 hl (by decide) rfl (fun ls hl => ?_)
  refine lv_aload_n hx hb dX9_both_60 rfl (lv_at hl 2 rfl) ?_
  refine lv_aload_n hx hb dX9_both_61 rfl (lv_at hl 3 rfl) ?_
  refine lv_iload_n hx hb dX9_both_62 rfl (lv_at hl 4 rfl) ?_
  refine lv_iconst (v := 4) hx hb dX9_both_63 (by decide) ?_
  refine lv_iadd hx hb dX9_both_64 ?_
  obtain ⟨v9, hv9, hf⟩ := o_b1 hf
  refine x_ald hx hb hK hP 1 rfl hv9 dX9_both_65 ?_
  refine lv_iload_n hx hb dX9_both_66 rfl (lv_at hl 5 rfl) ?_
  refine lv_imul hx hb dX9_both_67 ?_
  refine lv_aload_n hx hb dX9_both_68 rfl (lv_at hl 3 rfl) ?_
  refine lv_iload_n hx hb dX9_both_69 rfl (lv_at hl 4 rfl) ?_
  refine lv_iconst (v := 3) hx hb dX9_both_70 (by decide) ?_
  refine lv_iadd hx hb dX9_both_71 ?_
  obtain ⟨v10, hv10, hf⟩ := o_b1 hf
  refine x_ald hx hb hK hP 1 rfl hv10 dX9_both_72 ?_
  refine lv_iload hx hb dX9_both_73 (lv_at hl 6 rfl) ?_
  refine lv_imul hx hb dX9_both_75 ?_
  refine lv_iadd hx hb dX9_both_76 ?_
  refine lv_aload_n hx hb dX9_both_77 rfl (lv_at hl 3 rfl) ?_
  refine lv_iload_n hx hb dX9_both_78 rfl (lv_at hl 4 rfl) ?_
  refine lv_iconst (v := 2) hx hb dX9_both_79 (by decide) ?_
  refine lv_iadd hx hb dX9_both_80 ?_
  obtain ⟨v11, hv11, hf⟩ := o_b1 hf
  refine x_ald hx hb hK hP 1 rfl hv11 dX9_both_81 ?_
  refine lv_iload hx hb dX9_both_82 (lv_at hl 7 rfl) ?_
  refine lv_imul hx hb dX9_both_84 ?_
  refine lv_iadd hx hb dX9_both_85 ?_
  obtain ⟨v12, hv12, hf⟩ := o_b1 hf
  refine x_vi (rest := []) (W1 := [x_o9 a_t t_p a_t_given t_isLaid t_isGood a_t_c t_points a_t_pointX a_t_pointY a_t_pointZ a_t_pointFlags t_flags a_t_flagPoint a_t_flagU a_t_flagV a_t_flagW a_t_next a_t_series a_t_mix a_t_cofactor t_formX t_formY t_formZ a_t_square t_isNought t_sumT t_sumY, x_ar cI a_b1 nb1 b1_r]) ⟨hx, hb, hml, hown, hts⟩ (tX9_of l D cI a_t a_t_given a_t_c a_t_pointX a_t_pointY a_t_pointZ a_t_pointFlags a_t_flagPoint a_t_flagU a_t_flagV a_t_flagW a_t_next a_t_series a_t_mix a_t_cofactor a_t_square t_p t_isLaid t_isGood t_points t_flags t_formX t_formY t_formZ t_isNought t_sumT t_sumY (((v9 * i3) + (v10 * i4)) + (v11 * i5)) v12 hv12) (cwV 1 hts gX9_both_X9_of rfl rfl rfl (by decide +kernel) ⟨Nat.le_of_ble_eq_true rfl, Nat.le_of_ble_eq_true rfl⟩) hN hK hP hD hS hA [0] [some 0, none] rfl rfl rfl rfl rfl rfl 0 rfl rfl rfl hl.1 rfl (Nat.le_of_ble_eq_true rfl) dX9_both_86 ⟨Nat.zero_le _, Nat.zero_le _⟩ (fun H locs hP hD hS => ?_)
  refine lv_istore (lv' := [(8, .int v12), (7, .int v8), (6, .int v4), (0, .ref a_t), (1, .ref a_b1), (2, .int i2), (3, .int i3), (4, .int i4), (5, .int i5)]) hx hb dX9_both_89 hl (by decide) rfl (fun ls hl => ?_)
  refine lv_aload_n hx hb dX9_both_91 rfl (lv_at hl 3 rfl) ?_
  refine lv_iload hx hb dX9_both_92 (lv_at hl 2 rfl) ?_
  refine lv_iload_n hx hb dX9_both_94 rfl (lv_at hl 6 rfl) ?_
  refine lv_imul hx hb dX9_both_95 ?_
  refine lv_iload hx hb dX9_both_96 (lv_at hl 1 rfl) ?_
  refine lv_iload hx hb dX9_both_98 (lv_at hl 7 rfl) ?_
  refine lv_imul hx hb dX9_both_100 ?_
  refine lv_iadd hx hb dX9_both_101 ?_
  refine lv_iload hx hb dX9_both_102 (lv_at hl 0 rfl) ?_
  refine lv_iload hx hb dX9_both_104 (lv_at hl 8 rfl) ?_
  refine lv_imul hx hb dX9_both_106 ?_
  refine lv_iadd hx hb dX9_both_107 ?_
  obtain ⟨v13, hv13, hf⟩ := o_b1 hf
  refine x_vi (rest := []) (W1 := [x_o9 a_t t_p a_t_given t_isLaid t_isGood a_t_c t_points a_t_pointX a_t_pointY a_t_pointZ a_t_pointFlags t_flags a_t_flagPoint a_t_flagU a_t_flagV a_t_flagW a_t_next a_t_series a_t_mix a_t_cofactor t_formX t_formY t_formZ a_t_square t_isNought t_sumT t_sumY, x_ar cI a_b1 nb1 b1_r]) ⟨hx, hb, hml, hown, hts⟩ (tX9_of l D cI a_t a_t_given a_t_c a_t_pointX a_t_pointY a_t_pointZ a_t_pointFlags a_t_flagPoint a_t_flagU a_t_flagV a_t_flagW a_t_next a_t_series a_t_mix a_t_cofactor a_t_square t_p t_isLaid t_isGood t_points t_flags t_formX t_formY t_formZ t_isNought t_sumT t_sumY (((v4 * i3) + (v8 * i4)) + (v12 * i5)) v13 hv13) (cwV 1 hts gX9_both_X9_of rfl rfl rfl (by decide +kernel) ⟨Nat.le_of_ble_eq_true rfl, Nat.le_of_ble_eq_true rfl⟩) hN hK hP hD hS hA [0] [some 0, none] rfl rfl rfl rfl rfl rfl 0 rfl rfl rfl hl.1 rfl (Nat.le_of_ble_eq_true rfl) dX9_both_108 ⟨Nat.zero_le _, Nat.zero_le _⟩ (fun H locs hP hD hS => ?_)
  obtain rfl := Option.some.inj hf
  exact hret rfl rfl dX9_both_111 hP hD hS
noncomputable def fX9_trace (nb1 : Nat) (t_p : Int32) (b1_r : (Nat → Int32)) (t_cofactor_r : (Nat → Int32)) (i2 : Int32) : Option (Int32) :=
  p_b1 (p_ld b1_r nb1 i2) (fun v1 =>
p_b1 (p_ld t_cofactor_r 6 0) (fun v2 =>
p_b1 (p_ld b1_r nb1 (i2 + 1)) (fun v3 =>
p_b1 (p_ld t_cofactor_r 6 1) (fun v4 =>
p_b1 (p_ld b1_r nb1 (i2 + 2)) (fun v5 =>
p_b1 (p_ld t_cofactor_r 6 2) (fun v6 =>
p_nm (((v1 * v2) + (v3 * v4)) + (v5 * v6)) (fun v7 =>
p_b1 (p_ld b1_r nb1 (i2 + 3)) (fun v8 =>
p_b1 (p_ld t_cofactor_r 6 3) (fun v9 =>
p_b1 (p_ld b1_r nb1 (i2 + 4)) (fun v10 =>
p_b1 (p_ld t_cofactor_r 6 4) (fun v11 =>
p_b1 (p_ld b1_r nb1 (i2 + 5)) (fun v12 =>
p_b1 (p_ld t_cofactor_r 6 5) (fun v13 =>
p_nm (((v8 * v9) + (v10 * v11)) + (v12 * v13)) (fun v14 =>
p_b1 (fX9_of t_p (v7 + (2 * v14))) (fun v15 =>
some v15)))))))))))))))
def rmX9_trace : Room := { frames := 1, cells := 0, slots := 0, locals := 22 }
set_option maxHeartbeats 4000000 in
set_option maxRecDepth 100000 in
theorem tX9_trace (l : Launch) (D : va_G) (cI : ClassId) (a_t : Nat) (a_b1 : Nat) (a_t_given : Nat) (a_t_c : Nat) (a_t_pointX : Nat) (a_t_pointY : Nat) (a_t_pointZ : Nat) (a_t_pointFlags : Nat) (a_t_flagPoint : Nat) (a_t_flagU : Nat) (a_t_flagV : Nat) (a_t_flagW : Nat) (a_t_next : Nat) (a_t_series : Nat) (a_t_mix : Nat) (a_t_cofactor : Nat) (a_t_square : Nat) (nb1 : Nat) (t_p : Int32) (t_isLaid : Int32) (t_isGood : Int32) (t_points : Int32) (t_flags : Int32) (t_formX : Int32) (t_formY : Int32) (t_formZ : Int32) (t_isNought : Int32) (t_sumT : Int32) (t_sumY : Int32) (b1_r : (Nat → Int32)) (t_cofactor_r : (Nat → Int32)) (i2 : Int32) (r : Int32) (hf : fX9_trace nb1 t_p b1_r t_cofactor_r i2 = some r) : x_CI l D cI yX9_trace wsX9_trace rmX9_trace [.ref a_t, .ref a_b1, .int i2] [x_o9 a_t t_p a_t_given t_isLaid t_isGood a_t_c t_points a_t_pointX a_t_pointY a_t_pointZ a_t_pointFlags t_flags a_t_flagPoint a_t_flagU a_t_flagV a_t_flagW a_t_next a_t_series a_t_mix a_t_cofactor t_formX t_formY t_formZ a_t_square t_isNought t_sumT t_sumY, x_ar cI a_b1 nb1 b1_r, x_ar cI a_t_cofactor 6 t_cofactor_r] [x_o9 a_t t_p a_t_given t_isLaid t_isGood a_t_c t_points a_t_pointX a_t_pointY a_t_pointZ a_t_pointFlags t_flags a_t_flagPoint a_t_flagU a_t_flagV a_t_flagW a_t_next a_t_series a_t_mix a_t_cofactor t_formX t_formY t_formZ a_t_square t_isNought t_sumT t_sumY, x_ar cI a_b1 nb1 b1_r, x_ar cI a_t_cofactor 6 t_cofactor_r] r := by
  refine x_CI_of (cc := cX9_trace) (maxL := 5) (ty := .int) (own := RX9) (lv0 := [(0, .ref a_t), (1, .ref a_b1), (2, .int i2)]) (by decide) rfl rfl (Nat.le_of_ble_eq_true rfl) rfl ?_
  intro p e s m args below meth c A Q ls hx hb hml hown hts hN hK hP hD hS hA hl hret
  have iX9 : ∀ w ∈ u_ws RX9 TX9 26, w ∈ wsX9_trace := by decide +kernel
  have l53 := hts (.fieldLink RX9 53 "ChordRingsModel" "cofactor" "[I") (by decide +kernel)
  unfold fX9_trace at hf
  refine lv_aload_n hx hb dX9_trace_0 rfl (lv_at hl 1 rfl) ?_
  refine lv_iload_n hx hb dX9_trace_1 rfl (lv_at hl 2 rfl) ?_
  obtain ⟨v1, hv1, hf⟩ := o_b1 hf
  refine x_ald hx hb hK hP 1 rfl hv1 dX9_trace_2 ?_
  refine lv_aload_n hx hb dX9_trace_3 rfl (lv_at hl 0 rfl) ?_
  refine va_get (D := D) (ci := 9) (C := RX9) (T := TX9) (N := 26) hx hb hts iX9 hown hK hP 0 rfl rfl 18 (by decide) l53 (fun _ h9 => h9) rfl dX9_trace_4 ?_
  refine lv_iconst (v := 0) hx hb dX9_trace_7 (by decide) ?_
  obtain ⟨v2, hv2, hf⟩ := o_b1 hf
  refine x_ald hx hb hK hP 2 rfl hv2 dX9_trace_8 ?_
  refine lv_imul hx hb dX9_trace_9 ?_
  refine lv_aload_n hx hb dX9_trace_10 rfl (lv_at hl 1 rfl) ?_
  refine lv_iload_n hx hb dX9_trace_11 rfl (lv_at hl 2 rfl) ?_
  refine lv_iconst (v := 1) hx hb dX9_trace_12 (by decide) ?_
  refine lv_iadd hx hb dX9_trace_13 ?_
  obtain ⟨v3, hv3, hf⟩ := o_b1 hf
  refine x_ald hx hb hK hP 1 rfl hv3 dX9_trace_14 ?_
  refine lv_aload_n hx hb dX9_trace_15 rfl (lv_at hl 0 rfl) ?_
  refine va_get (D := D) (ci := 9) (C := RX9) (T := TX9) (N := 26) hx hb hts iX9 hown hK hP 0 rfl rfl 18 (by decide) l53 (fun _ h9 => h9) rfl dX9_trace_16 ?_
  refine lv_iconst (v := 1) hx hb dX9_trace_19 (by decide) ?_
  obtain ⟨v4, hv4, hf⟩ := o_b1 hf
  refine x_ald hx hb hK hP 2 rfl hv4 dX9_trace_20 ?_
  refine lv_imul hx hb dX9_trace_21 ?_
  refine lv_iadd hx hb dX9_trace_22 ?_
  refine lv_aload_n hx hb dX9_trace_23 rfl (lv_at hl 1 rfl) ?_
  refine lv_iload_n hx hb dX9_trace_24 rfl (lv_at hl 2 rfl) ?_
  refine lv_iconst (v := 2) hx hb dX9_trace_25 (by decide) ?_
  refine lv_iadd hx hb dX9_trace_26 ?_
  obtain ⟨v5, hv5, hf⟩ := o_b1 hf
  refine x_ald hx hb hK hP 1 rfl hv5 dX9_trace_27 ?_
  refine lv_aload_n hx hb dX9_trace_28 rfl (lv_at hl 0 rfl) ?_
  refine va_get (D := D) (ci := 9) (C := RX9) (T := TX9) (N := 26) hx hb hts iX9 hown hK hP 0 rfl rfl 18 (by decide) l53 (fun _ h9 => h9) rfl dX9_trace_29 ?_
  refine lv_iconst (v := 2) hx hb dX9_trace_32 (by decide) ?_
  obtain ⟨v6, hv6, hf⟩ := o_b1 hf
  refine x_ald hx hb hK hP 2 rfl hv6 dX9_trace_33 ?_
  refine lv_imul hx hb dX9_trace_34 ?_
  refine lv_iadd hx hb dX9_trace_35 ?_
  obtain ⟨v7, ev7, hf⟩ := o_nm hf
  refine x_top ev7 ?_
  refine lv_istore_n (lv' := [(3, .int v7), (0, .ref a_t), (1, .ref a_b1), (2, .int i2)]) hx hb dX9_trace_36 rfl hl (by decide) rfl (fun ls hl => ?_)
  refine lv_aload_n hx hb dX9_trace_37 rfl (lv_at hl 2 rfl) ?_
  refine lv_iload_n hx hb dX9_trace_38 rfl (lv_at hl 3 rfl) ?_
  refine lv_iconst (v := 3) hx hb dX9_trace_39 (by decide) ?_
  refine lv_iadd hx hb dX9_trace_40 ?_
  obtain ⟨v8, hv8, hf⟩ := o_b1 hf
  refine x_ald hx hb hK hP 1 rfl hv8 dX9_trace_41 ?_
  refine lv_aload_n hx hb dX9_trace_42 rfl (lv_at hl 1 rfl) ?_
  refine va_get (D := D) (ci := 9) (C := RX9) (T := TX9) (N := 26) hx hb hts iX9 hown hK hP 0 rfl rfl 18 (by decide) l53 (fun _ h9 => h9) rfl dX9_trace_43 ?_
  refine lv_iconst (v := 3) hx hb dX9_trace_46 (by decide) ?_
  obtain ⟨v9, hv9, hf⟩ := o_b1 hf
  refine x_ald hx hb hK hP 2 rfl hv9 dX9_trace_47 ?_
  refine lv_imul hx hb dX9_trace_48 ?_
  refine lv_aload_n hx hb dX9_trace_49 rfl (lv_at hl 2 rfl) ?_
  refine lv_iload_n hx hb dX9_trace_50 rfl (lv_at hl 3 rfl) ?_
  refine lv_iconst (v := 4) hx hb dX9_trace_51 (by decide) ?_
  refine lv_iadd hx hb dX9_trace_52 ?_
  obtain ⟨v10, hv10, hf⟩ := o_b1 hf
  refine x_ald hx hb hK hP 1 rfl hv10 dX9_trace_53 ?_
  refine lv_aload_n hx hb dX9_trace_54 rfl (lv_at hl 1 rfl) ?_
  refine va_get (D := D) (ci := 9) (C := RX9) (T := TX9) (N := 26) hx hb hts iX9 hown hK hP 0 rfl rfl 18 (by decide) l53 (fun _ h9 => h9) rfl dX9_trace_55 ?_
  refine lv_iconst (v := 4) hx hb dX9_trace_58 (by decide) ?_
  obtain ⟨v11, hv11, hf⟩ := o_b1 hf
  refine x_ald hx hb hK hP 2 rfl hv11 dX9_trace_59 ?_
  refine lv_imul hx hb dX9_trace_60 ?_
  refine lv_iadd hx hb dX9_trace_61 ?_
  refine lv_aload_n hx hb dX9_trace_62 rfl (lv_at hl 2 rfl) ?_
  refine lv_iload_n hx hb dX9_trace_63 rfl (lv_at hl 3 rfl) ?_
  refine lv_iconst (v := 5) hx hb dX9_trace_64 (by decide) ?_
  refine lv_iadd hx hb dX9_trace_65 ?_
  obtain ⟨v12, hv12, hf⟩ := o_b1 hf
  refine x_ald hx hb hK hP 1 rfl hv12 dX9_trace_66 ?_
  refine lv_aload_n hx hb dX9_trace_67 rfl (lv_at hl 1 rfl) ?_
  refine va_get (D := D) (ci := 9) (C := RX9) (T := TX9) (N := 26) hx hb hts iX9 hown hK hP 0 rfl rfl 18 (by decide) l53 (fun _ h9 => h9) rfl dX9_trace_68 ?_
  refine lv_iconst (v := 5) hx hb dX9_trace_71 (by decide) ?_
  obtain ⟨v13, hv13, hf⟩ := o_b1 hf
  refine x_ald hx hb hK hP 2 rfl hv13 dX9_trace_72 ?_
  refine lv_imul hx hb dX9_trace_73 ?_
  refine lv_iadd hx hb dX9_trace_74 ?_
  obtain ⟨v14, ev14, hf⟩ := o_nm hf
  refine x_top ev14 ?_
  refine lv_istore (lv' := [(4, .int v14), (3, .int v7), (0, .ref a_t), (1, .ref a_b1), (2, .int i2)]) hx hb dX9_trace_75 hl (by decide) rfl (fun ls hl => ?_)
  refine lv_aload_n hx hb dX9_trace_77 rfl (lv_at hl 2 rfl) ?_
  refine lv_iload_n hx hb dX9_trace_78 rfl (lv_at hl 1 rfl) ?_
  refine lv_iconst (v := 2) hx hb dX9_trace_79 (by decide) ?_
  refine lv_iload hx hb dX9_trace_80 (lv_at hl 0 rfl) ?_
  refine lv_imul hx hb dX9_trace_82 ?_
  refine lv_iadd hx hb dX9_trace_83 ?_
  obtain ⟨v15, hv15, hf⟩ := o_b1 hf
  refine x_vi (rest := []) (W1 := [x_o9 a_t t_p a_t_given t_isLaid t_isGood a_t_c t_points a_t_pointX a_t_pointY a_t_pointZ a_t_pointFlags t_flags a_t_flagPoint a_t_flagU a_t_flagV a_t_flagW a_t_next a_t_series a_t_mix a_t_cofactor t_formX t_formY t_formZ a_t_square t_isNought t_sumT t_sumY, x_ar cI a_b1 nb1 b1_r, x_ar cI a_t_cofactor 6 t_cofactor_r]) ⟨hx, hb, hml, hown, hts⟩ (tX9_of l D cI a_t a_t_given a_t_c a_t_pointX a_t_pointY a_t_pointZ a_t_pointFlags a_t_flagPoint a_t_flagU a_t_flagV a_t_flagW a_t_next a_t_series a_t_mix a_t_cofactor a_t_square t_p t_isLaid t_isGood t_points t_flags t_formX t_formY t_formZ t_isNought t_sumT t_sumY (v7 + (2 * v14)) v15 hv15) (cwV 1 hts gX9_trace_X9_of rfl rfl rfl (by decide +kernel) ⟨Nat.le_of_ble_eq_true rfl, Nat.le_of_ble_eq_true rfl⟩) hN hK hP hD hS hA [0] [some 0, none, none] rfl rfl rfl rfl rfl rfl 0 rfl rfl rfl hl.1 rfl (Nat.le_of_ble_eq_true rfl) dX9_trace_84 ⟨Nat.zero_le _, Nat.zero_le _⟩ (fun H locs hP hD hS => ?_)
  obtain rfl := Option.some.inj hf
  exact hret rfl rfl dX9_trace_87 hP hD hS
noncomputable def fX9_layCubic (t_p : Int32) (t_c_r : (Nat → Int32)) (t_cofactor_r : (Nat → Int32)) (t_given_r : (Nat → Int32)) : Option ((Nat → Int32) × (Nat → Int32)) :=
  p_b1 (fX9_cofactorOf 12 t_p t_given_r t_cofactor_r 6) (fun u1 =>
p_b1 (fX9_trace 12 t_p t_given_r u1 6) (fun v2 =>
p_b1 (p_rm 3 t_p) (fun v3 =>
p_b1 (fX9_by t_p v2 v3) (fun v4 =>
p_b1 (p_st t_c_r 4 0 v4) (fun u5 =>
p_b1 (fX9_trace 12 t_p t_given_r u1 0) (fun v6 =>
p_b1 (p_st u5 4 1 v6) (fun u7 =>
p_b1 (fX9_cofactorOf 12 t_p t_given_r u1 0) (fun u8 =>
p_b1 (fX9_trace 12 t_p t_given_r u8 6) (fun v9 =>
p_b1 (p_st u7 4 2 v9) (fun u10 =>
p_b1 (fX9_trace 12 t_p t_given_r u8 0) (fun v11 =>
p_b1 (p_rm 3 t_p) (fun v12 =>
p_b1 (fX9_by t_p v11 v12) (fun v13 =>
p_b1 (p_st u10 4 3 v13) (fun u14 =>
some (u14, u8)))))))))))))))
def rmX9_layCubic : Room := { frames := 2, cells := 0, slots := 0, locals := 50 }
set_option maxHeartbeats 4000000 in
set_option maxRecDepth 100000 in
theorem tX9_layCubic (l : Launch) (D : va_G) (cI : ClassId) (a_t : Nat) (a_t_given : Nat) (a_t_c : Nat) (a_t_pointX : Nat) (a_t_pointY : Nat) (a_t_pointZ : Nat) (a_t_pointFlags : Nat) (a_t_flagPoint : Nat) (a_t_flagU : Nat) (a_t_flagV : Nat) (a_t_flagW : Nat) (a_t_next : Nat) (a_t_series : Nat) (a_t_mix : Nat) (a_t_cofactor : Nat) (a_t_square : Nat) (t_p : Int32) (t_isLaid : Int32) (t_isGood : Int32) (t_points : Int32) (t_flags : Int32) (t_formX : Int32) (t_formY : Int32) (t_formZ : Int32) (t_isNought : Int32) (t_sumT : Int32) (t_sumY : Int32) (t_c_r : (Nat → Int32)) (t_cofactor_r : (Nat → Int32)) (t_given_r : (Nat → Int32)) (s_t_c_r : (Nat → Int32)) (s_t_cofactor_r : (Nat → Int32)) (hf : fX9_layCubic t_p t_c_r t_cofactor_r t_given_r = some (s_t_c_r, s_t_cofactor_r)) : x_CV l D cI yX9_layCubic wsX9_layCubic rmX9_layCubic [.ref a_t] [x_o9 a_t t_p a_t_given t_isLaid t_isGood a_t_c t_points a_t_pointX a_t_pointY a_t_pointZ a_t_pointFlags t_flags a_t_flagPoint a_t_flagU a_t_flagV a_t_flagW a_t_next a_t_series a_t_mix a_t_cofactor t_formX t_formY t_formZ a_t_square t_isNought t_sumT t_sumY, x_ar cI a_t_c 4 t_c_r, x_ar cI a_t_cofactor 6 t_cofactor_r, x_ar cI a_t_given 12 t_given_r] [x_o9 a_t t_p a_t_given t_isLaid t_isGood a_t_c t_points a_t_pointX a_t_pointY a_t_pointZ a_t_pointFlags t_flags a_t_flagPoint a_t_flagU a_t_flagV a_t_flagW a_t_next a_t_series a_t_mix a_t_cofactor t_formX t_formY t_formZ a_t_square t_isNought t_sumT t_sumY, x_ar cI a_t_c 4 s_t_c_r, x_ar cI a_t_cofactor 6 s_t_cofactor_r, x_ar cI a_t_given 12 t_given_r] := by
  refine x_CV_of (cc := cX9_layCubic) (maxL := 1) (own := RX9) (lv0 := [(0, .ref a_t)]) (by decide) rfl rfl (Nat.le_of_ble_eq_true rfl) rfl ?_
  intro p e s m args below meth c A Q ls hx hb hml hown hts hN hK hP hD hS hA hl hret
  have iX9 : ∀ w ∈ u_ws RX9 TX9 26, w ∈ wsX9_layCubic := by decide +kernel
  have l13 := hts (.fieldLink RX9 13 "ChordRingsModel" "given" "[I") (by decide +kernel)
  have l17 := hts (.fieldLink RX9 17 "ChordRingsModel" "c" "[I") (by decide +kernel)
  have l7 := hts (.fieldLink RX9 7 "ChordRingsModel" "p" "I") (by decide +kernel)
  unfold fX9_layCubic at hf
  refine lv_aload_n hx hb dX9_layCubic_0 rfl (lv_at hl 0 rfl) ?_
  refine lv_aload_n hx hb dX9_layCubic_1 rfl (lv_at hl 0 rfl) ?_
  refine va_get (D := D) (ci := 9) (C := RX9) (T := TX9) (N := 26) hx hb hts iX9 hown hK hP 0 rfl rfl 1 (by decide) l13 (fun _ h9 => h9) rfl dX9_layCubic_2 ?_
  refine lv_bipush (v := 6) hx hb dX9_layCubic_5 (by decide) ?_
  obtain ⟨u1, hu1, hf⟩ := o_b1 hf
  refine x_vv (rest := []) (W1 := [x_o9 a_t t_p a_t_given t_isLaid t_isGood a_t_c t_points a_t_pointX a_t_pointY a_t_pointZ a_t_pointFlags t_flags a_t_flagPoint a_t_flagU a_t_flagV a_t_flagW a_t_next a_t_series a_t_mix a_t_cofactor t_formX t_formY t_formZ a_t_square t_isNought t_sumT t_sumY, x_ar cI a_t_c 4 t_c_r, x_ar cI a_t_cofactor 6 u1, x_ar cI a_t_given 12 t_given_r]) ⟨hx, hb, hml, hown, hts⟩ (tX9_cofactorOf l D cI a_t a_t_given a_t_given a_t_c a_t_pointX a_t_pointY a_t_pointZ a_t_pointFlags a_t_flagPoint a_t_flagU a_t_flagV a_t_flagW a_t_next a_t_series a_t_mix a_t_cofactor a_t_square 12 t_p t_isLaid t_isGood t_points t_flags t_formX t_formY t_formZ t_isNought t_sumT t_sumY t_given_r t_cofactor_r 6 u1 hu1) (cwV 2 hts gX9_layCubic_X9_cofactorOf rfl rfl rfl (by decide +kernel) ⟨Nat.le_of_ble_eq_true rfl, Nat.le_of_ble_eq_true rfl⟩) hN hK hP hD hS hA [0, 3, 2] [some 0, none, some 2, some 1] rfl rfl rfl rfl rfl rfl 0 rfl rfl rfl hl.1 rfl (Nat.le_of_ble_eq_true rfl) dX9_layCubic_7 ⟨Nat.zero_le _, Nat.zero_le _⟩ (fun H locs hP hD hS => ?_)
  refine lv_aload_n hx hb dX9_layCubic_10 rfl (lv_at hl 0 rfl) ?_
  refine va_get (D := D) (ci := 9) (C := RX9) (T := TX9) (N := 26) hx hb hts iX9 hown hK hP 0 rfl rfl 4 (by decide) l17 (fun _ h9 => h9) rfl dX9_layCubic_11 ?_
  refine lv_iconst (v := 0) hx hb dX9_layCubic_14 (by decide) ?_
  refine lv_aload_n hx hb dX9_layCubic_15 rfl (lv_at hl 0 rfl) ?_
  refine lv_aload_n hx hb dX9_layCubic_16 rfl (lv_at hl 0 rfl) ?_
  refine lv_aload_n hx hb dX9_layCubic_17 rfl (lv_at hl 0 rfl) ?_
  refine va_get (D := D) (ci := 9) (C := RX9) (T := TX9) (N := 26) hx hb hts iX9 hown hK hP 0 rfl rfl 1 (by decide) l13 (fun _ h9 => h9) rfl dX9_layCubic_18 ?_
  refine lv_bipush (v := 6) hx hb dX9_layCubic_21 (by decide) ?_
  obtain ⟨v2, hv2, hf⟩ := o_b1 hf
  refine x_vi (rest := [.ref a_t, .int 0, .ref a_t_c]) (W1 := [x_o9 a_t t_p a_t_given t_isLaid t_isGood a_t_c t_points a_t_pointX a_t_pointY a_t_pointZ a_t_pointFlags t_flags a_t_flagPoint a_t_flagU a_t_flagV a_t_flagW a_t_next a_t_series a_t_mix a_t_cofactor t_formX t_formY t_formZ a_t_square t_isNought t_sumT t_sumY, x_ar cI a_t_c 4 t_c_r, x_ar cI a_t_cofactor 6 u1, x_ar cI a_t_given 12 t_given_r]) ⟨hx, hb, hml, hown, hts⟩ (tX9_trace l D cI a_t a_t_given a_t_given a_t_c a_t_pointX a_t_pointY a_t_pointZ a_t_pointFlags a_t_flagPoint a_t_flagU a_t_flagV a_t_flagW a_t_next a_t_series a_t_mix a_t_cofactor a_t_square 12 t_p t_isLaid t_isGood t_points t_flags t_formX t_formY t_formZ t_isNought t_sumT t_sumY t_given_r u1 6 v2 hv2) (cwV 2 hts gX9_layCubic_X9_trace rfl rfl rfl (by decide +kernel) ⟨Nat.le_of_ble_eq_true rfl, Nat.le_of_ble_eq_true rfl⟩) hN hK hP hD hS hA [0, 3, 2] [some 0, none, some 2, some 1] rfl rfl rfl rfl rfl rfl 0 rfl rfl rfl hl.1 rfl (Nat.le_of_ble_eq_true rfl) dX9_layCubic_23 ⟨Nat.zero_le _, Nat.zero_le _⟩ (fun H locs hP hD hS => ?_)
  refine lv_iconst (v := 3) hx hb dX9_layCubic_26 (by decide) ?_
  refine lv_aload_n hx hb dX9_layCubic_27 rfl (lv_at hl 0 rfl) ?_
  refine va_get (D := D) (ci := 9) (C := RX9) (T := TX9) (N := 26) hx hb hts iX9 hown hK hP 0 rfl rfl 0 (by decide) l7 (fun _ h9 => h9) rfl dX9_layCubic_28 ?_
  obtain ⟨v3, hv3, hf⟩ := o_b1 hf
  refine x_rm hx hb hv3 dX9_layCubic_31 ?_
  obtain ⟨v4, hv4, hf⟩ := o_b1 hf
  refine x_vi (rest := [.int 0, .ref a_t_c]) (W1 := [x_o9 a_t t_p a_t_given t_isLaid t_isGood a_t_c t_points a_t_pointX a_t_pointY a_t_pointZ a_t_pointFlags t_flags a_t_flagPoint a_t_flagU a_t_flagV a_t_flagW a_t_next a_t_series a_t_mix a_t_cofactor t_formX t_formY t_formZ a_t_square t_isNought t_sumT t_sumY, x_ar cI a_t_c 4 t_c_r, x_ar cI a_t_cofactor 6 u1, x_ar cI a_t_given 12 t_given_r]) ⟨hx, hb, hml, hown, hts⟩ (tX9_by l D cI a_t a_t_given a_t_c a_t_pointX a_t_pointY a_t_pointZ a_t_pointFlags a_t_flagPoint a_t_flagU a_t_flagV a_t_flagW a_t_next a_t_series a_t_mix a_t_cofactor a_t_square t_p t_isLaid t_isGood t_points t_flags t_formX t_formY t_formZ t_isNought t_sumT t_sumY v2 v3 v4 hv4) (cwV 2 hts gX9_layCubic_X9_by rfl rfl rfl (by decide +kernel) ⟨Nat.le_of_ble_eq_true rfl, Nat.le_of_ble_eq_true rfl⟩) hN hK hP hD hS hA [0] [some 0, none, none, none] rfl rfl rfl rfl rfl rfl 0 rfl rfl rfl hl.1 rfl (Nat.le_of_ble_eq_true rfl) dX9_layCubic_32 ⟨Nat.zero_le _, Nat.zero_le _⟩ (fun H locs hP hD hS => ?_)
  obtain ⟨u5, hu5, hf⟩ := o_b1 hf
  refine x_ast (W1 := [x_o9 a_t t_p a_t_given t_isLaid t_isGood a_t_c t_points a_t_pointX a_t_pointY a_t_pointZ a_t_pointFlags t_flags a_t_flagPoint a_t_flagU a_t_flagV a_t_flagW a_t_next a_t_series a_t_mix a_t_cofactor t_formX t_formY t_formZ a_t_square t_isNought t_sumT t_sumY, x_ar cI a_t_c 4 u5, x_ar cI a_t_cofactor 6 u1, x_ar cI a_t_given 12 t_given_r]) hx hb hK hP hD hS 1 rfl hu5 rfl dX9_layCubic_35 (fun H locs hP hD hS => ?_)
  refine lv_aload_n hx hb dX9_layCubic_36 rfl (lv_at hl 0 rfl) ?_
  refine va_get (D := D) (ci := 9) (C := RX9) (T := TX9) (N := 26) hx hb hts iX9 hown hK hP 0 rfl rfl 4 (by decide) l17 (fun _ h9 => h9) rfl dX9_layCubic_37 ?_
  refine lv_iconst (v := 1) hx hb dX9_layCubic_40 (by decide) ?_
  refine lv_aload_n hx hb dX9_layCubic_41 rfl (lv_at hl 0 rfl) ?_
  refine lv_aload_n hx hb dX9_layCubic_42 rfl (lv_at hl 0 rfl) ?_
  refine va_get (D := D) (ci := 9) (C := RX9) (T := TX9) (N := 26) hx hb hts iX9 hown hK hP 0 rfl rfl 1 (by decide) l13 (fun _ h9 => h9) rfl dX9_layCubic_43 ?_
  refine lv_iconst (v := 0) hx hb dX9_layCubic_46 (by decide) ?_
  obtain ⟨v6, hv6, hf⟩ := o_b1 hf
  refine x_vi (rest := [.int 1, .ref a_t_c]) (W1 := [x_o9 a_t t_p a_t_given t_isLaid t_isGood a_t_c t_points a_t_pointX a_t_pointY a_t_pointZ a_t_pointFlags t_flags a_t_flagPoint a_t_flagU a_t_flagV a_t_flagW a_t_next a_t_series a_t_mix a_t_cofactor t_formX t_formY t_formZ a_t_square t_isNought t_sumT t_sumY, x_ar cI a_t_c 4 u5, x_ar cI a_t_cofactor 6 u1, x_ar cI a_t_given 12 t_given_r]) ⟨hx, hb, hml, hown, hts⟩ (tX9_trace l D cI a_t a_t_given a_t_given a_t_c a_t_pointX a_t_pointY a_t_pointZ a_t_pointFlags a_t_flagPoint a_t_flagU a_t_flagV a_t_flagW a_t_next a_t_series a_t_mix a_t_cofactor a_t_square 12 t_p t_isLaid t_isGood t_points t_flags t_formX t_formY t_formZ t_isNought t_sumT t_sumY t_given_r u1 0 v6 hv6) (cwV 2 hts gX9_layCubic_X9_trace rfl rfl rfl (by decide +kernel) ⟨Nat.le_of_ble_eq_true rfl, Nat.le_of_ble_eq_true rfl⟩) hN hK hP hD hS hA [0, 3, 2] [some 0, none, some 2, some 1] rfl rfl rfl rfl rfl rfl 0 rfl rfl rfl hl.1 rfl (Nat.le_of_ble_eq_true rfl) dX9_layCubic_47 ⟨Nat.zero_le _, Nat.zero_le _⟩ (fun H locs hP hD hS => ?_)
  obtain ⟨u7, hu7, hf⟩ := o_b1 hf
  refine x_ast (W1 := [x_o9 a_t t_p a_t_given t_isLaid t_isGood a_t_c t_points a_t_pointX a_t_pointY a_t_pointZ a_t_pointFlags t_flags a_t_flagPoint a_t_flagU a_t_flagV a_t_flagW a_t_next a_t_series a_t_mix a_t_cofactor t_formX t_formY t_formZ a_t_square t_isNought t_sumT t_sumY, x_ar cI a_t_c 4 u7, x_ar cI a_t_cofactor 6 u1, x_ar cI a_t_given 12 t_given_r]) hx hb hK hP hD hS 1 rfl hu7 rfl dX9_layCubic_50 (fun H locs hP hD hS => ?_)
  refine lv_aload_n hx hb dX9_layCubic_51 rfl (lv_at hl 0 rfl) ?_
  refine lv_aload_n hx hb dX9_layCubic_52 rfl (lv_at hl 0 rfl) ?_
  refine va_get (D := D) (ci := 9) (C := RX9) (T := TX9) (N := 26) hx hb hts iX9 hown hK hP 0 rfl rfl 1 (by decide) l13 (fun _ h9 => h9) rfl dX9_layCubic_53 ?_
  refine lv_iconst (v := 0) hx hb dX9_layCubic_56 (by decide) ?_
  obtain ⟨u8, hu8, hf⟩ := o_b1 hf
  refine x_vv (rest := []) (W1 := [x_o9 a_t t_p a_t_given t_isLaid t_isGood a_t_c t_points a_t_pointX a_t_pointY a_t_pointZ a_t_pointFlags t_flags a_t_flagPoint a_t_flagU a_t_flagV a_t_flagW a_t_next a_t_series a_t_mix a_t_cofactor t_formX t_formY t_formZ a_t_square t_isNought t_sumT t_sumY, x_ar cI a_t_c 4 u7, x_ar cI a_t_cofactor 6 u8, x_ar cI a_t_given 12 t_given_r]) ⟨hx, hb, hml, hown, hts⟩ (tX9_cofactorOf l D cI a_t a_t_given a_t_given a_t_c a_t_pointX a_t_pointY a_t_pointZ a_t_pointFlags a_t_flagPoint a_t_flagU a_t_flagV a_t_flagW a_t_next a_t_series a_t_mix a_t_cofactor a_t_square 12 t_p t_isLaid t_isGood t_points t_flags t_formX t_formY t_formZ t_isNought t_sumT t_sumY t_given_r u1 0 u8 hu8) (cwV 2 hts gX9_layCubic_X9_cofactorOf rfl rfl rfl (by decide +kernel) ⟨Nat.le_of_ble_eq_true rfl, Nat.le_of_ble_eq_true rfl⟩) hN hK hP hD hS hA [0, 3, 2] [some 0, none, some 2, some 1] rfl rfl rfl rfl rfl rfl 0 rfl rfl rfl hl.1 rfl (Nat.le_of_ble_eq_true rfl) dX9_layCubic_57 ⟨Nat.zero_le _, Nat.zero_le _⟩ (fun H locs hP hD hS => ?_)
  refine lv_aload_n hx hb dX9_layCubic_60 rfl (lv_at hl 0 rfl) ?_
  refine va_get (D := D) (ci := 9) (C := RX9) (T := TX9) (N := 26) hx hb hts iX9 hown hK hP 0 rfl rfl 4 (by decide) l17 (fun _ h9 => h9) rfl dX9_layCubic_61 ?_
  refine lv_iconst (v := 2) hx hb dX9_layCubic_64 (by decide) ?_
  refine lv_aload_n hx hb dX9_layCubic_65 rfl (lv_at hl 0 rfl) ?_
  refine lv_aload_n hx hb dX9_layCubic_66 rfl (lv_at hl 0 rfl) ?_
  refine va_get (D := D) (ci := 9) (C := RX9) (T := TX9) (N := 26) hx hb hts iX9 hown hK hP 0 rfl rfl 1 (by decide) l13 (fun _ h9 => h9) rfl dX9_layCubic_67 ?_
  refine lv_bipush (v := 6) hx hb dX9_layCubic_70 (by decide) ?_
  obtain ⟨v9, hv9, hf⟩ := o_b1 hf
  refine x_vi (rest := [.int 2, .ref a_t_c]) (W1 := [x_o9 a_t t_p a_t_given t_isLaid t_isGood a_t_c t_points a_t_pointX a_t_pointY a_t_pointZ a_t_pointFlags t_flags a_t_flagPoint a_t_flagU a_t_flagV a_t_flagW a_t_next a_t_series a_t_mix a_t_cofactor t_formX t_formY t_formZ a_t_square t_isNought t_sumT t_sumY, x_ar cI a_t_c 4 u7, x_ar cI a_t_cofactor 6 u8, x_ar cI a_t_given 12 t_given_r]) ⟨hx, hb, hml, hown, hts⟩ (tX9_trace l D cI a_t a_t_given a_t_given a_t_c a_t_pointX a_t_pointY a_t_pointZ a_t_pointFlags a_t_flagPoint a_t_flagU a_t_flagV a_t_flagW a_t_next a_t_series a_t_mix a_t_cofactor a_t_square 12 t_p t_isLaid t_isGood t_points t_flags t_formX t_formY t_formZ t_isNought t_sumT t_sumY t_given_r u8 6 v9 hv9) (cwV 2 hts gX9_layCubic_X9_trace rfl rfl rfl (by decide +kernel) ⟨Nat.le_of_ble_eq_true rfl, Nat.le_of_ble_eq_true rfl⟩) hN hK hP hD hS hA [0, 3, 2] [some 0, none, some 2, some 1] rfl rfl rfl rfl rfl rfl 0 rfl rfl rfl hl.1 rfl (Nat.le_of_ble_eq_true rfl) dX9_layCubic_72 ⟨Nat.zero_le _, Nat.zero_le _⟩ (fun H locs hP hD hS => ?_)
  obtain ⟨u10, hu10, hf⟩ := o_b1 hf
  refine x_ast (W1 := [x_o9 a_t t_p a_t_given t_isLaid t_isGood a_t_c t_points a_t_pointX a_t_pointY a_t_pointZ a_t_pointFlags t_flags a_t_flagPoint a_t_flagU a_t_flagV a_t_flagW a_t_next a_t_series a_t_mix a_t_cofactor t_formX t_formY t_formZ a_t_square t_isNought t_sumT t_sumY, x_ar cI a_t_c 4 u10, x_ar cI a_t_cofactor 6 u8, x_ar cI a_t_given 12 t_given_r]) hx hb hK hP hD hS 1 rfl hu10 rfl dX9_layCubic_75 (fun H locs hP hD hS => ?_)
  refine lv_aload_n hx hb dX9_layCubic_76 rfl (lv_at hl 0 rfl) ?_
  refine va_get (D := D) (ci := 9) (C := RX9) (T := TX9) (N := 26) hx hb hts iX9 hown hK hP 0 rfl rfl 4 (by decide) l17 (fun _ h9 => h9) rfl dX9_layCubic_77 ?_
  refine lv_iconst (v := 3) hx hb dX9_layCubic_80 (by decide) ?_
  refine lv_aload_n hx hb dX9_layCubic_81 rfl (lv_at hl 0 rfl) ?_
  refine lv_aload_n hx hb dX9_layCubic_82 rfl (lv_at hl 0 rfl) ?_
  refine lv_aload_n hx hb dX9_layCubic_83 rfl (lv_at hl 0 rfl) ?_
  refine va_get (D := D) (ci := 9) (C := RX9) (T := TX9) (N := 26) hx hb hts iX9 hown hK hP 0 rfl rfl 1 (by decide) l13 (fun _ h9 => h9) rfl dX9_layCubic_84 ?_
  refine lv_iconst (v := 0) hx hb dX9_layCubic_87 (by decide) ?_
  obtain ⟨v11, hv11, hf⟩ := o_b1 hf
  refine x_vi (rest := [.ref a_t, .int 3, .ref a_t_c]) (W1 := [x_o9 a_t t_p a_t_given t_isLaid t_isGood a_t_c t_points a_t_pointX a_t_pointY a_t_pointZ a_t_pointFlags t_flags a_t_flagPoint a_t_flagU a_t_flagV a_t_flagW a_t_next a_t_series a_t_mix a_t_cofactor t_formX t_formY t_formZ a_t_square t_isNought t_sumT t_sumY, x_ar cI a_t_c 4 u10, x_ar cI a_t_cofactor 6 u8, x_ar cI a_t_given 12 t_given_r]) ⟨hx, hb, hml, hown, hts⟩ (tX9_trace l D cI a_t a_t_given a_t_given a_t_c a_t_pointX a_t_pointY a_t_pointZ a_t_pointFlags a_t_flagPoint a_t_flagU a_t_flagV a_t_flagW a_t_next a_t_series a_t_mix a_t_cofactor a_t_square 12 t_p t_isLaid t_isGood t_points t_flags t_formX t_formY t_formZ t_isNought t_sumT t_sumY t_given_r u8 0 v11 hv11) (cwV 2 hts gX9_layCubic_X9_trace rfl rfl rfl (by decide +kernel) ⟨Nat.le_of_ble_eq_true rfl, Nat.le_of_ble_eq_true rfl⟩) hN hK hP hD hS hA [0, 3, 2] [some 0, none, some 2, some 1] rfl rfl rfl rfl rfl rfl 0 rfl rfl rfl hl.1 rfl (Nat.le_of_ble_eq_true rfl) dX9_layCubic_88 ⟨Nat.zero_le _, Nat.zero_le _⟩ (fun H locs hP hD hS => ?_)
  refine lv_iconst (v := 3) hx hb dX9_layCubic_91 (by decide) ?_
  refine lv_aload_n hx hb dX9_layCubic_92 rfl (lv_at hl 0 rfl) ?_
  refine va_get (D := D) (ci := 9) (C := RX9) (T := TX9) (N := 26) hx hb hts iX9 hown hK hP 0 rfl rfl 0 (by decide) l7 (fun _ h9 => h9) rfl dX9_layCubic_93 ?_
  obtain ⟨v12, hv12, hf⟩ := o_b1 hf
  refine x_rm hx hb hv12 dX9_layCubic_96 ?_
  obtain ⟨v13, hv13, hf⟩ := o_b1 hf
  refine x_vi (rest := [.int 3, .ref a_t_c]) (W1 := [x_o9 a_t t_p a_t_given t_isLaid t_isGood a_t_c t_points a_t_pointX a_t_pointY a_t_pointZ a_t_pointFlags t_flags a_t_flagPoint a_t_flagU a_t_flagV a_t_flagW a_t_next a_t_series a_t_mix a_t_cofactor t_formX t_formY t_formZ a_t_square t_isNought t_sumT t_sumY, x_ar cI a_t_c 4 u10, x_ar cI a_t_cofactor 6 u8, x_ar cI a_t_given 12 t_given_r]) ⟨hx, hb, hml, hown, hts⟩ (tX9_by l D cI a_t a_t_given a_t_c a_t_pointX a_t_pointY a_t_pointZ a_t_pointFlags a_t_flagPoint a_t_flagU a_t_flagV a_t_flagW a_t_next a_t_series a_t_mix a_t_cofactor a_t_square t_p t_isLaid t_isGood t_points t_flags t_formX t_formY t_formZ t_isNought t_sumT t_sumY v11 v12 v13 hv13) (cwV 2 hts gX9_layCubic_X9_by rfl rfl rfl (by decide +kernel) ⟨Nat.le_of_ble_eq_true rfl, Nat.le_of_ble_eq_true rfl⟩) hN hK hP hD hS hA [0] [some 0, none, none, none] rfl rfl rfl rfl rfl rfl 0 rfl rfl rfl hl.1 rfl (Nat.le_of_ble_eq_true rfl) dX9_layCubic_97 ⟨Nat.zero_le _, Nat.zero_le _⟩ (fun H locs hP hD hS => ?_)
  obtain ⟨u14, hu14, hf⟩ := o_b1 hf
  refine x_ast (W1 := [x_o9 a_t t_p a_t_given t_isLaid t_isGood a_t_c t_points a_t_pointX a_t_pointY a_t_pointZ a_t_pointFlags t_flags a_t_flagPoint a_t_flagU a_t_flagV a_t_flagW a_t_next a_t_series a_t_mix a_t_cofactor t_formX t_formY t_formZ a_t_square t_isNought t_sumT t_sumY, x_ar cI a_t_c 4 u14, x_ar cI a_t_cofactor 6 u8, x_ar cI a_t_given 12 t_given_r]) hx hb hK hP hD hS 1 rfl hu14 rfl dX9_layCubic_100 (fun H locs hP hD hS => ?_)
  obtain ⟨rfl, rfl⟩ := o_s2 hf
  exact hret dX9_layCubic_101 hP hD hS
noncomputable def fX9_discriminant (t_p : Int32) (t_c_r : (Nat → Int32)) : Option (Int32) :=
  p_b1 (p_ld t_c_r 4 1) (fun v1 =>
p_b1 (p_ld t_c_r 4 1) (fun v2 =>
p_b1 (p_rm (v1 * v2) t_p) (fun v3 =>
p_b1 (p_ld t_c_r 4 2) (fun v4 =>
p_b1 (p_ld t_c_r 4 2) (fun v5 =>
p_b1 (p_rm (v4 * v5) t_p) (fun v6 =>
p_b1 (fX9_of t_p (v3 * v6)) (fun v7 =>
p_b1 (p_ld t_c_r 4 0) (fun v8 =>
p_b1 (p_ld t_c_r 4 2) (fun v9 =>
p_b1 (p_rm ((4 * v8) * v9) t_p) (fun v10 =>
p_b1 (p_ld t_c_r 4 2) (fun v11 =>
p_b1 (p_ld t_c_r 4 2) (fun v12 =>
p_b1 (p_rm (v11 * v12) t_p) (fun v13 =>
p_b1 (fX9_of t_p (v10 * v13)) (fun v14 =>
p_b1 (p_ld t_c_r 4 1) (fun v15 =>
p_b1 (p_ld t_c_r 4 1) (fun v16 =>
p_b1 (p_rm ((4 * v15) * v16) t_p) (fun v17 =>
p_b1 (p_ld t_c_r 4 1) (fun v18 =>
p_b1 (p_ld t_c_r 4 3) (fun v19 =>
p_b1 (p_rm (v18 * v19) t_p) (fun v20 =>
p_b1 (fX9_of t_p (v17 * v20)) (fun v21 =>
p_b1 (p_ld t_c_r 4 0) (fun v22 =>
p_b1 (p_ld t_c_r 4 0) (fun v23 =>
p_b1 (p_rm ((27 * v22) * v23) t_p) (fun v24 =>
p_b1 (p_ld t_c_r 4 3) (fun v25 =>
p_b1 (p_ld t_c_r 4 3) (fun v26 =>
p_b1 (p_rm (v25 * v26) t_p) (fun v27 =>
p_b1 (fX9_of t_p (v24 * v27)) (fun v28 =>
p_b1 (p_ld t_c_r 4 0) (fun v29 =>
p_b1 (p_ld t_c_r 4 1) (fun v30 =>
p_b1 (p_rm ((18 * v29) * v30) t_p) (fun v31 =>
p_b1 (p_ld t_c_r 4 2) (fun v32 =>
p_b1 (p_ld t_c_r 4 3) (fun v33 =>
p_b1 (p_rm (v32 * v33) t_p) (fun v34 =>
p_b1 (fX9_of t_p (v31 * v34)) (fun v35 =>
p_b1 (fX9_of t_p ((((v7 - v14) - v21) - v28) + v35)) (fun v36 =>
some v36))))))))))))))))))))))))))))))))))))
def rmX9_discriminant : Room := { frames := 1, cells := 0, slots := 0, locals := 22 }
set_option maxHeartbeats 4000000 in
set_option maxRecDepth 100000 in
theorem tX9_discriminant (l : Launch) (D : va_G) (cI : ClassId) (a_t : Nat) (a_t_given : Nat) (a_t_c : Nat) (a_t_pointX : Nat) (a_t_pointY : Nat) (a_t_pointZ : Nat) (a_t_pointFlags : Nat) (a_t_flagPoint : Nat) (a_t_flagU : Nat) (a_t_flagV : Nat) (a_t_flagW : Nat) (a_t_next : Nat) (a_t_series : Nat) (a_t_mix : Nat) (a_t_cofactor : Nat) (a_t_square : Nat) (t_p : Int32) (t_isLaid : Int32) (t_isGood : Int32) (t_points : Int32) (t_flags : Int32) (t_formX : Int32) (t_formY : Int32) (t_formZ : Int32) (t_isNought : Int32) (t_sumT : Int32) (t_sumY : Int32) (t_c_r : (Nat → Int32)) (r : Int32) (hf : fX9_discriminant t_p t_c_r = some r) : x_CI l D cI yX9_discriminant wsX9_discriminant rmX9_discriminant [.ref a_t] [x_o9 a_t t_p a_t_given t_isLaid t_isGood a_t_c t_points a_t_pointX a_t_pointY a_t_pointZ a_t_pointFlags t_flags a_t_flagPoint a_t_flagU a_t_flagV a_t_flagW a_t_next a_t_series a_t_mix a_t_cofactor t_formX t_formY t_formZ a_t_square t_isNought t_sumT t_sumY, x_ar cI a_t_c 4 t_c_r] [x_o9 a_t t_p a_t_given t_isLaid t_isGood a_t_c t_points a_t_pointX a_t_pointY a_t_pointZ a_t_pointFlags t_flags a_t_flagPoint a_t_flagU a_t_flagV a_t_flagW a_t_next a_t_series a_t_mix a_t_cofactor t_formX t_formY t_formZ a_t_square t_isNought t_sumT t_sumY, x_ar cI a_t_c 4 t_c_r] r := by
  refine x_CI_of (cc := cX9_discriminant) (maxL := 6) (ty := .int) (own := RX9) (lv0 := [(0, .ref a_t)]) (by decide) rfl rfl (Nat.le_of_ble_eq_true rfl) rfl ?_
  intro p e s m args below meth c A Q ls hx hb hml hown hts hN hK hP hD hS hA hl hret
  have iX9 : ∀ w ∈ u_ws RX9 TX9 26, w ∈ wsX9_discriminant := by decide +kernel
  have l17 := hts (.fieldLink RX9 17 "ChordRingsModel" "c" "[I") (by decide +kernel)
  have l7 := hts (.fieldLink RX9 7 "ChordRingsModel" "p" "I") (by decide +kernel)
  unfold fX9_discriminant at hf
  refine lv_aload_n hx hb dX9_discriminant_0 rfl (lv_at hl 0 rfl) ?_
  refine lv_aload_n hx hb dX9_discriminant_1 rfl (lv_at hl 0 rfl) ?_
  refine va_get (D := D) (ci := 9) (C := RX9) (T := TX9) (N := 26) hx hb hts iX9 hown hK hP 0 rfl rfl 4 (by decide) l17 (fun _ h9 => h9) rfl dX9_discriminant_2 ?_
  refine lv_iconst (v := 1) hx hb dX9_discriminant_5 (by decide) ?_
  obtain ⟨v1, hv1, hf⟩ := o_b1 hf
  refine x_ald hx hb hK hP 1 rfl hv1 dX9_discriminant_6 ?_
  refine lv_aload_n hx hb dX9_discriminant_7 rfl (lv_at hl 0 rfl) ?_
  refine va_get (D := D) (ci := 9) (C := RX9) (T := TX9) (N := 26) hx hb hts iX9 hown hK hP 0 rfl rfl 4 (by decide) l17 (fun _ h9 => h9) rfl dX9_discriminant_8 ?_
  refine lv_iconst (v := 1) hx hb dX9_discriminant_11 (by decide) ?_
  obtain ⟨v2, hv2, hf⟩ := o_b1 hf
  refine x_ald hx hb hK hP 1 rfl hv2 dX9_discriminant_12 ?_
  refine lv_imul hx hb dX9_discriminant_13 ?_
  refine lv_aload_n hx hb dX9_discriminant_14 rfl (lv_at hl 0 rfl) ?_
  refine va_get (D := D) (ci := 9) (C := RX9) (T := TX9) (N := 26) hx hb hts iX9 hown hK hP 0 rfl rfl 0 (by decide) l7 (fun _ h9 => h9) rfl dX9_discriminant_15 ?_
  obtain ⟨v3, hv3, hf⟩ := o_b1 hf
  refine x_rm hx hb hv3 dX9_discriminant_18 ?_
  refine lv_aload_n hx hb dX9_discriminant_19 rfl (lv_at hl 0 rfl) ?_
  refine va_get (D := D) (ci := 9) (C := RX9) (T := TX9) (N := 26) hx hb hts iX9 hown hK hP 0 rfl rfl 4 (by decide) l17 (fun _ h9 => h9) rfl dX9_discriminant_20 ?_
  refine lv_iconst (v := 2) hx hb dX9_discriminant_23 (by decide) ?_
  obtain ⟨v4, hv4, hf⟩ := o_b1 hf
  refine x_ald hx hb hK hP 1 rfl hv4 dX9_discriminant_24 ?_
  refine lv_aload_n hx hb dX9_discriminant_25 rfl (lv_at hl 0 rfl) ?_
  refine va_get (D := D) (ci := 9) (C := RX9) (T := TX9) (N := 26) hx hb hts iX9 hown hK hP 0 rfl rfl 4 (by decide) l17 (fun _ h9 => h9) rfl dX9_discriminant_26 ?_
  refine lv_iconst (v := 2) hx hb dX9_discriminant_29 (by decide) ?_
  obtain ⟨v5, hv5, hf⟩ := o_b1 hf
  refine x_ald hx hb hK hP 1 rfl hv5 dX9_discriminant_30 ?_
  refine lv_imul hx hb dX9_discriminant_31 ?_
  refine lv_aload_n hx hb dX9_discriminant_32 rfl (lv_at hl 0 rfl) ?_
  refine va_get (D := D) (ci := 9) (C := RX9) (T := TX9) (N := 26) hx hb hts iX9 hown hK hP 0 rfl rfl 0 (by decide) l7 (fun _ h9 => h9) rfl dX9_discriminant_33 ?_
  obtain ⟨v6, hv6, hf⟩ := o_b1 hf
  refine x_rm hx hb hv6 dX9_discriminant_36 ?_
  refine lv_imul hx hb dX9_discriminant_37 ?_
  obtain ⟨v7, hv7, hf⟩ := o_b1 hf
  refine x_vi (rest := []) (W1 := [x_o9 a_t t_p a_t_given t_isLaid t_isGood a_t_c t_points a_t_pointX a_t_pointY a_t_pointZ a_t_pointFlags t_flags a_t_flagPoint a_t_flagU a_t_flagV a_t_flagW a_t_next a_t_series a_t_mix a_t_cofactor t_formX t_formY t_formZ a_t_square t_isNought t_sumT t_sumY, x_ar cI a_t_c 4 t_c_r]) ⟨hx, hb, hml, hown, hts⟩ (tX9_of l D cI a_t a_t_given a_t_c a_t_pointX a_t_pointY a_t_pointZ a_t_pointFlags a_t_flagPoint a_t_flagU a_t_flagV a_t_flagW a_t_next a_t_series a_t_mix a_t_cofactor a_t_square t_p t_isLaid t_isGood t_points t_flags t_formX t_formY t_formZ t_isNought t_sumT t_sumY (v3 * v6) v7 hv7) (cwV 1 hts gX9_discriminant_X9_of rfl rfl rfl (by decide +kernel) ⟨Nat.le_of_ble_eq_true rfl, Nat.le_of_ble_eq_true rfl⟩) hN hK hP hD hS hA [0] [some 0, none] rfl rfl rfl rfl rfl rfl 0 rfl rfl rfl hl.1 rfl (Nat.le_of_ble_eq_true rfl) dX9_discriminant_38 ⟨Nat.zero_le _, Nat.zero_le _⟩ (fun H locs hP hD hS => ?_)
  refine lv_istore_n (lv' := [(1, .int v7), (0, .ref a_t)]) hx hb dX9_discriminant_41 rfl hl (by decide) rfl (fun ls hl => ?_)
  refine lv_aload_n hx hb dX9_discriminant_42 rfl (lv_at hl 1 rfl) ?_
  refine lv_iconst (v := 4) hx hb dX9_discriminant_43 (by decide) ?_
  refine lv_aload_n hx hb dX9_discriminant_44 rfl (lv_at hl 1 rfl) ?_
  refine va_get (D := D) (ci := 9) (C := RX9) (T := TX9) (N := 26) hx hb hts iX9 hown hK hP 0 rfl rfl 4 (by decide) l17 (fun _ h9 => h9) rfl dX9_discriminant_45 ?_
  refine lv_iconst (v := 0) hx hb dX9_discriminant_48 (by decide) ?_
  obtain ⟨v8, hv8, hf⟩ := o_b1 hf
  refine x_ald hx hb hK hP 1 rfl hv8 dX9_discriminant_49 ?_
  refine lv_imul hx hb dX9_discriminant_50 ?_
  refine lv_aload_n hx hb dX9_discriminant_51 rfl (lv_at hl 1 rfl) ?_
  refine va_get (D := D) (ci := 9) (C := RX9) (T := TX9) (N := 26) hx hb hts iX9 hown hK hP 0 rfl rfl 4 (by decide) l17 (fun _ h9 => h9) rfl dX9_discriminant_52 ?_
  refine lv_iconst (v := 2) hx hb dX9_discriminant_55 (by decide) ?_
  obtain ⟨v9, hv9, hf⟩ := o_b1 hf
  refine x_ald hx hb hK hP 1 rfl hv9 dX9_discriminant_56 ?_
  refine lv_imul hx hb dX9_discriminant_57 ?_
  refine lv_aload_n hx hb dX9_discriminant_58 rfl (lv_at hl 1 rfl) ?_
  refine va_get (D := D) (ci := 9) (C := RX9) (T := TX9) (N := 26) hx hb hts iX9 hown hK hP 0 rfl rfl 0 (by decide) l7 (fun _ h9 => h9) rfl dX9_discriminant_59 ?_
  obtain ⟨v10, hv10, hf⟩ := o_b1 hf
  refine x_rm hx hb hv10 dX9_discriminant_62 ?_
  refine lv_aload_n hx hb dX9_discriminant_63 rfl (lv_at hl 1 rfl) ?_
  refine va_get (D := D) (ci := 9) (C := RX9) (T := TX9) (N := 26) hx hb hts iX9 hown hK hP 0 rfl rfl 4 (by decide) l17 (fun _ h9 => h9) rfl dX9_discriminant_64 ?_
  refine lv_iconst (v := 2) hx hb dX9_discriminant_67 (by decide) ?_
  obtain ⟨v11, hv11, hf⟩ := o_b1 hf
  refine x_ald hx hb hK hP 1 rfl hv11 dX9_discriminant_68 ?_
  refine lv_aload_n hx hb dX9_discriminant_69 rfl (lv_at hl 1 rfl) ?_
  refine va_get (D := D) (ci := 9) (C := RX9) (T := TX9) (N := 26) hx hb hts iX9 hown hK hP 0 rfl rfl 4 (by decide) l17 (fun _ h9 => h9) rfl dX9_discriminant_70 ?_
  refine lv_iconst (v := 2) hx hb dX9_discriminant_73 (by decide) ?_
  obtain ⟨v12, hv12, hf⟩ := o_b1 hf
  refine x_ald hx hb hK hP 1 rfl hv12 dX9_discriminant_74 ?_
  refine lv_imul hx hb dX9_discriminant_75 ?_
  refine lv_aload_n hx hb dX9_discriminant_76 rfl (lv_at hl 1 rfl) ?_
  refine va_get (D := D) (ci := 9) (C := RX9) (T := TX9) (N := 26) hx hb hts iX9 hown hK hP 0 rfl rfl 0 (by decide) l7 (fun _ h9 => h9) rfl dX9_discriminant_77 ?_
  obtain ⟨v13, hv13, hf⟩ := o_b1 hf
  refine x_rm hx hb hv13 dX9_discriminant_80 ?_
  refine lv_imul hx hb dX9_discriminant_81 ?_
  obtain ⟨v14, hv14, hf⟩ := o_b1 hf
  refine x_vi (rest := []) (W1 := [x_o9 a_t t_p a_t_given t_isLaid t_isGood a_t_c t_points a_t_pointX a_t_pointY a_t_pointZ a_t_pointFlags t_flags a_t_flagPoint a_t_flagU a_t_flagV a_t_flagW a_t_next a_t_series a_t_mix a_t_cofactor t_formX t_formY t_formZ a_t_square t_isNought t_sumT t_sumY, x_ar cI a_t_c 4 t_c_r]) ⟨hx, hb, hml, hown, hts⟩ (tX9_of l D cI a_t a_t_given a_t_c a_t_pointX a_t_pointY a_t_pointZ a_t_pointFlags a_t_flagPoint a_t_flagU a_t_flagV a_t_flagW a_t_next a_t_series a_t_mix a_t_cofactor a_t_square t_p t_isLaid t_isGood t_points t_flags t_formX t_formY t_formZ t_isNought t_sumT t_sumY (v10 * v13) v14 hv14) (cwV 1 hts gX9_discriminant_X9_of rfl rfl rfl (by decide +kernel) ⟨Nat.le_of_ble_eq_true rfl, Nat.le_of_ble_eq_true rfl⟩) hN hK hP hD hS hA [0] [some 0, none] rfl rfl rfl rfl rfl rfl 0 rfl rfl rfl hl.1 rfl (Nat.le_of_ble_eq_true rfl) dX9_discriminant_82 ⟨Nat.zero_le _, Nat.zero_le _⟩ (fun H locs hP hD hS => ?_)
  refine lv_istore_n (lv' := [(2, .int v14), (1, .int v7), (0, .ref a_t)]) hx hb dX9_discriminant_85 rfl hl (by decide) rfl (fun ls hl => ?_)
  refine lv_aload_n hx hb dX9_discriminant_86 rfl (lv_at hl 2 rfl) ?_
  refine lv_iconst (v := 4) hx hb dX9_discriminant_87 (by decide) ?_
  refine lv_aload_n hx hb dX9_discriminant_88 rfl (lv_at hl 2 rfl) ?_
  refine va_get (D := D) (ci := 9) (C := RX9) (T := TX9) (N := 26) hx hb hts iX9 hown hK hP 0 rfl rfl 4 (by decide) l17 (fun _ h9 => h9) rfl dX9_discriminant_89 ?_
  refine lv_iconst (v := 1) hx hb dX9_discriminant_92 (by decide) ?_
  obtain ⟨v15, hv15, hf⟩ := o_b1 hf
  refine x_ald hx hb hK hP 1 rfl hv15 dX9_discriminant_93 ?_
  refine lv_imul hx hb dX9_discriminant_94 ?_
  refine lv_aload_n hx hb dX9_discriminant_95 rfl (lv_at hl 2 rfl) ?_
  refine va_get (D := D) (ci := 9) (C := RX9) (T := TX9) (N := 26) hx hb hts iX9 hown hK hP 0 rfl rfl 4 (by decide) l17 (fun _ h9 => h9) rfl dX9_discriminant_96 ?_
  refine lv_iconst (v := 1) hx hb dX9_discriminant_99 (by decide) ?_
  obtain ⟨v16, hv16, hf⟩ := o_b1 hf
  refine x_ald hx hb hK hP 1 rfl hv16 dX9_discriminant_100 ?_
  refine lv_imul hx hb dX9_discriminant_101 ?_
  refine lv_aload_n hx hb dX9_discriminant_102 rfl (lv_at hl 2 rfl) ?_
  refine va_get (D := D) (ci := 9) (C := RX9) (T := TX9) (N := 26) hx hb hts iX9 hown hK hP 0 rfl rfl 0 (by decide) l7 (fun _ h9 => h9) rfl dX9_discriminant_103 ?_
  obtain ⟨v17, hv17, hf⟩ := o_b1 hf
  refine x_rm hx hb hv17 dX9_discriminant_106 ?_
  refine lv_aload_n hx hb dX9_discriminant_107 rfl (lv_at hl 2 rfl) ?_
  refine va_get (D := D) (ci := 9) (C := RX9) (T := TX9) (N := 26) hx hb hts iX9 hown hK hP 0 rfl rfl 4 (by decide) l17 (fun _ h9 => h9) rfl dX9_discriminant_108 ?_
  refine lv_iconst (v := 1) hx hb dX9_discriminant_111 (by decide) ?_
  obtain ⟨v18, hv18, hf⟩ := o_b1 hf
  refine x_ald hx hb hK hP 1 rfl hv18 dX9_discriminant_112 ?_
  refine lv_aload_n hx hb dX9_discriminant_113 rfl (lv_at hl 2 rfl) ?_
  refine va_get (D := D) (ci := 9) (C := RX9) (T := TX9) (N := 26) hx hb hts iX9 hown hK hP 0 rfl rfl 4 (by decide) l17 (fun _ h9 => h9) rfl dX9_discriminant_114 ?_
  refine lv_iconst (v := 3) hx hb dX9_discriminant_117 (by decide) ?_
  obtain ⟨v19, hv19, hf⟩ := o_b1 hf
  refine x_ald hx hb hK hP 1 rfl hv19 dX9_discriminant_118 ?_
  refine lv_imul hx hb dX9_discriminant_119 ?_
  refine lv_aload_n hx hb dX9_discriminant_120 rfl (lv_at hl 2 rfl) ?_
  refine va_get (D := D) (ci := 9) (C := RX9) (T := TX9) (N := 26) hx hb hts iX9 hown hK hP 0 rfl rfl 0 (by decide) l7 (fun _ h9 => h9) rfl dX9_discriminant_121 ?_
  obtain ⟨v20, hv20, hf⟩ := o_b1 hf
  refine x_rm hx hb hv20 dX9_discriminant_124 ?_
  refine lv_imul hx hb dX9_discriminant_125 ?_
  obtain ⟨v21, hv21, hf⟩ := o_b1 hf
  refine x_vi (rest := []) (W1 := [x_o9 a_t t_p a_t_given t_isLaid t_isGood a_t_c t_points a_t_pointX a_t_pointY a_t_pointZ a_t_pointFlags t_flags a_t_flagPoint a_t_flagU a_t_flagV a_t_flagW a_t_next a_t_series a_t_mix a_t_cofactor t_formX t_formY t_formZ a_t_square t_isNought t_sumT t_sumY, x_ar cI a_t_c 4 t_c_r]) ⟨hx, hb, hml, hown, hts⟩ (tX9_of l D cI a_t a_t_given a_t_c a_t_pointX a_t_pointY a_t_pointZ a_t_pointFlags a_t_flagPoint a_t_flagU a_t_flagV a_t_flagW a_t_next a_t_series a_t_mix a_t_cofactor a_t_square t_p t_isLaid t_isGood t_points t_flags t_formX t_formY t_formZ t_isNought t_sumT t_sumY (v17 * v20) v21 hv21) (cwV 1 hts gX9_discriminant_X9_of rfl rfl rfl (by decide +kernel) ⟨Nat.le_of_ble_eq_true rfl, Nat.le_of_ble_eq_true rfl⟩) hN hK hP hD hS hA [0] [some 0, none] rfl rfl rfl rfl rfl rfl 0 rfl rfl rfl hl.1 rfl (Nat.le_of_ble_eq_true rfl) dX9_discriminant_126 ⟨Nat.zero_le _, Nat.zero_le _⟩ (fun H locs hP hD hS => ?_)
  refine lv_istore_n (lv' := [(3, .int v21), (2, .int v14), (1, .int v7), (0, .ref a_t)]) hx hb dX9_discriminant_129 rfl hl (by decide) rfl (fun ls hl => ?_)
  refine lv_aload_n hx hb dX9_discriminant_130 rfl (lv_at hl 3 rfl) ?_
  refine lv_bipush (v := 27) hx hb dX9_discriminant_131 (by decide) ?_
  refine lv_aload_n hx hb dX9_discriminant_133 rfl (lv_at hl 3 rfl) ?_
  refine va_get (D := D) (ci := 9) (C := RX9) (T := TX9) (N := 26) hx hb hts iX9 hown hK hP 0 rfl rfl 4 (by decide) l17 (fun _ h9 => h9) rfl dX9_discriminant_134 ?_
  refine lv_iconst (v := 0) hx hb dX9_discriminant_137 (by decide) ?_
  obtain ⟨v22, hv22, hf⟩ := o_b1 hf
  refine x_ald hx hb hK hP 1 rfl hv22 dX9_discriminant_138 ?_
  refine lv_imul hx hb dX9_discriminant_139 ?_
  refine lv_aload_n hx hb dX9_discriminant_140 rfl (lv_at hl 3 rfl) ?_
  refine va_get (D := D) (ci := 9) (C := RX9) (T := TX9) (N := 26) hx hb hts iX9 hown hK hP 0 rfl rfl 4 (by decide) l17 (fun _ h9 => h9) rfl dX9_discriminant_141 ?_
  refine lv_iconst (v := 0) hx hb dX9_discriminant_144 (by decide) ?_
  obtain ⟨v23, hv23, hf⟩ := o_b1 hf
  refine x_ald hx hb hK hP 1 rfl hv23 dX9_discriminant_145 ?_
  refine lv_imul hx hb dX9_discriminant_146 ?_
  refine lv_aload_n hx hb dX9_discriminant_147 rfl (lv_at hl 3 rfl) ?_
  refine va_get (D := D) (ci := 9) (C := RX9) (T := TX9) (N := 26) hx hb hts iX9 hown hK hP 0 rfl rfl 0 (by decide) l7 (fun _ h9 => h9) rfl dX9_discriminant_148 ?_
  obtain ⟨v24, hv24, hf⟩ := o_b1 hf
  refine x_rm hx hb hv24 dX9_discriminant_151 ?_
  refine lv_aload_n hx hb dX9_discriminant_152 rfl (lv_at hl 3 rfl) ?_
  refine va_get (D := D) (ci := 9) (C := RX9) (T := TX9) (N := 26) hx hb hts iX9 hown hK hP 0 rfl rfl 4 (by decide) l17 (fun _ h9 => h9) rfl dX9_discriminant_153 ?_
  refine lv_iconst (v := 3) hx hb dX9_discriminant_156 (by decide) ?_
  obtain ⟨v25, hv25, hf⟩ := o_b1 hf
  refine x_ald hx hb hK hP 1 rfl hv25 dX9_discriminant_157 ?_
  refine lv_aload_n hx hb dX9_discriminant_158 rfl (lv_at hl 3 rfl) ?_
  refine va_get (D := D) (ci := 9) (C := RX9) (T := TX9) (N := 26) hx hb hts iX9 hown hK hP 0 rfl rfl 4 (by decide) l17 (fun _ h9 => h9) rfl dX9_discriminant_159 ?_
  refine lv_iconst (v := 3) hx hb dX9_discriminant_162 (by decide) ?_
  obtain ⟨v26, hv26, hf⟩ := o_b1 hf
  refine x_ald hx hb hK hP 1 rfl hv26 dX9_discriminant_163 ?_
  refine lv_imul hx hb dX9_discriminant_164 ?_
  refine lv_aload_n hx hb dX9_discriminant_165 rfl (lv_at hl 3 rfl) ?_
  refine va_get (D := D) (ci := 9) (C := RX9) (T := TX9) (N := 26) hx hb hts iX9 hown hK hP 0 rfl rfl 0 (by decide) l7 (fun _ h9 => h9) rfl dX9_discriminant_166 ?_
  obtain ⟨v27, hv27, hf⟩ := o_b1 hf
  refine x_rm hx hb hv27 dX9_discriminant_169 ?_
  refine lv_imul hx hb dX9_discriminant_170 ?_
  obtain ⟨v28, hv28, hf⟩ := o_b1 hf
  refine x_vi (rest := []) (W1 := [x_o9 a_t t_p a_t_given t_isLaid t_isGood a_t_c t_points a_t_pointX a_t_pointY a_t_pointZ a_t_pointFlags t_flags a_t_flagPoint a_t_flagU a_t_flagV a_t_flagW a_t_next a_t_series a_t_mix a_t_cofactor t_formX t_formY t_formZ a_t_square t_isNought t_sumT t_sumY, x_ar cI a_t_c 4 t_c_r]) ⟨hx, hb, hml, hown, hts⟩ (tX9_of l D cI a_t a_t_given a_t_c a_t_pointX a_t_pointY a_t_pointZ a_t_pointFlags a_t_flagPoint a_t_flagU a_t_flagV a_t_flagW a_t_next a_t_series a_t_mix a_t_cofactor a_t_square t_p t_isLaid t_isGood t_points t_flags t_formX t_formY t_formZ t_isNought t_sumT t_sumY (v24 * v27) v28 hv28) (cwV 1 hts gX9_discriminant_X9_of rfl rfl rfl (by decide +kernel) ⟨Nat.le_of_ble_eq_true rfl, Nat.le_of_ble_eq_true rfl⟩) hN hK hP hD hS hA [0] [some 0, none] rfl rfl rfl rfl rfl rfl 0 rfl rfl rfl hl.1 rfl (Nat.le_of_ble_eq_true rfl) dX9_discriminant_171 ⟨Nat.zero_le _, Nat.zero_le _⟩ (fun H locs hP hD hS => ?_)
  refine lv_istore (lv' := [(4, .int v28), (3, .int v21), (2, .int v14), (1, .int v7), (0, .ref a_t)]) hx hb dX9_discriminant_174 hl (by decide) rfl (fun ls hl => ?_)
  refine lv_aload_n hx hb dX9_discriminant_176 rfl (lv_at hl 4 rfl) ?_
  refine lv_bipush (v := 18) hx hb dX9_discriminant_177 (by decide) ?_
  refine lv_aload_n hx hb dX9_discriminant_179 rfl (lv_at hl 4 rfl) ?_
  refine va_get (D := D) (ci := 9) (C := RX9) (T := TX9) (N := 26) hx hb hts iX9 hown hK hP 0 rfl rfl 4 (by decide) l17 (fun _ h9 => h9) rfl dX9_discriminant_180 ?_
  refine lv_iconst (v := 0) hx hb dX9_discriminant_183 (by decide) ?_
  obtain ⟨v29, hv29, hf⟩ := o_b1 hf
  refine x_ald hx hb hK hP 1 rfl hv29 dX9_discriminant_184 ?_
  refine lv_imul hx hb dX9_discriminant_185 ?_
  refine lv_aload_n hx hb dX9_discriminant_186 rfl (lv_at hl 4 rfl) ?_
  refine va_get (D := D) (ci := 9) (C := RX9) (T := TX9) (N := 26) hx hb hts iX9 hown hK hP 0 rfl rfl 4 (by decide) l17 (fun _ h9 => h9) rfl dX9_discriminant_187 ?_
  refine lv_iconst (v := 1) hx hb dX9_discriminant_190 (by decide) ?_
  obtain ⟨v30, hv30, hf⟩ := o_b1 hf
  refine x_ald hx hb hK hP 1 rfl hv30 dX9_discriminant_191 ?_
  refine lv_imul hx hb dX9_discriminant_192 ?_
  refine lv_aload_n hx hb dX9_discriminant_193 rfl (lv_at hl 4 rfl) ?_
  refine va_get (D := D) (ci := 9) (C := RX9) (T := TX9) (N := 26) hx hb hts iX9 hown hK hP 0 rfl rfl 0 (by decide) l7 (fun _ h9 => h9) rfl dX9_discriminant_194 ?_
  obtain ⟨v31, hv31, hf⟩ := o_b1 hf
  refine x_rm hx hb hv31 dX9_discriminant_197 ?_
  refine lv_aload_n hx hb dX9_discriminant_198 rfl (lv_at hl 4 rfl) ?_
  refine va_get (D := D) (ci := 9) (C := RX9) (T := TX9) (N := 26) hx hb hts iX9 hown hK hP 0 rfl rfl 4 (by decide) l17 (fun _ h9 => h9) rfl dX9_discriminant_199 ?_
  refine lv_iconst (v := 2) hx hb dX9_discriminant_202 (by decide) ?_
  obtain ⟨v32, hv32, hf⟩ := o_b1 hf
  refine x_ald hx hb hK hP 1 rfl hv32 dX9_discriminant_203 ?_
  refine lv_aload_n hx hb dX9_discriminant_204 rfl (lv_at hl 4 rfl) ?_
  refine va_get (D := D) (ci := 9) (C := RX9) (T := TX9) (N := 26) hx hb hts iX9 hown hK hP 0 rfl rfl 4 (by decide) l17 (fun _ h9 => h9) rfl dX9_discriminant_205 ?_
  refine lv_iconst (v := 3) hx hb dX9_discriminant_208 (by decide) ?_
  obtain ⟨v33, hv33, hf⟩ := o_b1 hf
  refine x_ald hx hb hK hP 1 rfl hv33 dX9_discriminant_209 ?_
  refine lv_imul hx hb dX9_discriminant_210 ?_
  refine lv_aload_n hx hb dX9_discriminant_211 rfl (lv_at hl 4 rfl) ?_
  refine va_get (D := D) (ci := 9) (C := RX9) (T := TX9) (N := 26) hx hb hts iX9 hown hK hP 0 rfl rfl 0 (by decide) l7 (fun _ h9 => h9) rfl dX9_discriminant_212 ?_
  obtain ⟨v34, hv34, hf⟩ := o_b1 hf
  refine x_rm hx hb hv34 dX9_discriminant_215 ?_
  refine lv_imul hx hb dX9_discriminant_216 ?_
  obtain ⟨v35, hv35, hf⟩ := o_b1 hf
  refine x_vi (rest := []) (W1 := [x_o9 a_t t_p a_t_given t_isLaid t_isGood a_t_c t_points a_t_pointX a_t_pointY a_t_pointZ a_t_pointFlags t_flags a_t_flagPoint a_t_flagU a_t_flagV a_t_flagW a_t_next a_t_series a_t_mix a_t_cofactor t_formX t_formY t_formZ a_t_square t_isNought t_sumT t_sumY, x_ar cI a_t_c 4 t_c_r]) ⟨hx, hb, hml, hown, hts⟩ (tX9_of l D cI a_t a_t_given a_t_c a_t_pointX a_t_pointY a_t_pointZ a_t_pointFlags a_t_flagPoint a_t_flagU a_t_flagV a_t_flagW a_t_next a_t_series a_t_mix a_t_cofactor a_t_square t_p t_isLaid t_isGood t_points t_flags t_formX t_formY t_formZ t_isNought t_sumT t_sumY (v31 * v34) v35 hv35) (cwV 1 hts gX9_discriminant_X9_of rfl rfl rfl (by decide +kernel) ⟨Nat.le_of_ble_eq_true rfl, Nat.le_of_ble_eq_true rfl⟩) hN hK hP hD hS hA [0] [some 0, none] rfl rfl rfl rfl rfl rfl 0 rfl rfl rfl hl.1 rfl (Nat.le_of_ble_eq_true rfl) dX9_discriminant_217 ⟨Nat.zero_le _, Nat.zero_le _⟩ (fun H locs hP hD hS => ?_)
  refine lv_istore (lv' := [(5, .int v35), (4, .int v28), (3, .int v21), (2, .int v14), (1, .int v7), (0, .ref a_t)]) hx hb dX9_discriminant_220 hl (by decide) rfl (fun ls hl => ?_)
  refine lv_aload_n hx hb dX9_discriminant_222 rfl (lv_at hl 5 rfl) ?_
  refine lv_iload_n hx hb dX9_discriminant_223 rfl (lv_at hl 4 rfl) ?_
  refine lv_iload_n hx hb dX9_discriminant_224 rfl (lv_at hl 3 rfl) ?_
  refine lv_isub hx hb dX9_discriminant_225 ?_
  refine lv_iload_n hx hb dX9_discriminant_226 rfl (lv_at hl 2 rfl) ?_
  refine lv_isub hx hb dX9_discriminant_227 ?_
  refine lv_iload hx hb dX9_discriminant_228 (lv_at hl 1 rfl) ?_
  refine lv_isub hx hb dX9_discriminant_230 ?_
  refine lv_iload hx hb dX9_discriminant_231 (lv_at hl 0 rfl) ?_
  refine lv_iadd hx hb dX9_discriminant_233 ?_
  obtain ⟨v36, hv36, hf⟩ := o_b1 hf
  refine x_vi (rest := []) (W1 := [x_o9 a_t t_p a_t_given t_isLaid t_isGood a_t_c t_points a_t_pointX a_t_pointY a_t_pointZ a_t_pointFlags t_flags a_t_flagPoint a_t_flagU a_t_flagV a_t_flagW a_t_next a_t_series a_t_mix a_t_cofactor t_formX t_formY t_formZ a_t_square t_isNought t_sumT t_sumY, x_ar cI a_t_c 4 t_c_r]) ⟨hx, hb, hml, hown, hts⟩ (tX9_of l D cI a_t a_t_given a_t_c a_t_pointX a_t_pointY a_t_pointZ a_t_pointFlags a_t_flagPoint a_t_flagU a_t_flagV a_t_flagW a_t_next a_t_series a_t_mix a_t_cofactor a_t_square t_p t_isLaid t_isGood t_points t_flags t_formX t_formY t_formZ t_isNought t_sumT t_sumY ((((v7 - v14) - v21) - v28) + v35) v36 hv36) (cwV 1 hts gX9_discriminant_X9_of rfl rfl rfl (by decide +kernel) ⟨Nat.le_of_ble_eq_true rfl, Nat.le_of_ble_eq_true rfl⟩) hN hK hP hD hS hA [0] [some 0, none] rfl rfl rfl rfl rfl rfl 0 rfl rfl rfl hl.1 rfl (Nat.le_of_ble_eq_true rfl) dX9_discriminant_234 ⟨Nat.zero_le _, Nat.zero_le _⟩ (fun H locs hP hD hS => ?_)
  obtain rfl := Option.some.inj hf
  exact hret rfl rfl dX9_discriminant_237 hP hD hS
noncomputable def fX9_cubic (t_p : Int32) (t_c_r : (Nat → Int32)) (t_cofactor_r : (Nat → Int32)) (t_given_r : (Nat → Int32)) (i1 : Int32) : Option (Int32 × (Nat → Int32) × (Nat → Int32)) :=
  p_b1 (fX9_in i1 0 4) (fun v1 =>
if v1 = 0 then (some ((-2), t_c_r, t_cofactor_r)) else (p_b2 (fX9_layCubic t_p t_c_r t_cofactor_r t_given_r) (fun u2 u3 =>
if i1 = 4 then (p_b1 (fX9_discriminant t_p u2) (fun v5 =>
some (v5, u2, u3))) else (p_b1 (p_ld u2 4 i1) (fun v4 =>
some (v4, u2, u3))))))
def rmX9_cubic : Room := { frames := 3, cells := 0, slots := 0, locals := 70 }
set_option maxHeartbeats 4000000 in
set_option maxRecDepth 100000 in
theorem tX9_cubic (l : Launch) (D : va_G) (cI : ClassId) (a_t : Nat) (a_t_given : Nat) (a_t_c : Nat) (a_t_pointX : Nat) (a_t_pointY : Nat) (a_t_pointZ : Nat) (a_t_pointFlags : Nat) (a_t_flagPoint : Nat) (a_t_flagU : Nat) (a_t_flagV : Nat) (a_t_flagW : Nat) (a_t_next : Nat) (a_t_series : Nat) (a_t_mix : Nat) (a_t_cofactor : Nat) (a_t_square : Nat) (t_p : Int32) (t_isLaid : Int32) (t_isGood : Int32) (t_points : Int32) (t_flags : Int32) (t_formX : Int32) (t_formY : Int32) (t_formZ : Int32) (t_isNought : Int32) (t_sumT : Int32) (t_sumY : Int32) (t_c_r : (Nat → Int32)) (t_cofactor_r : (Nat → Int32)) (t_given_r : (Nat → Int32)) (i1 : Int32) (r : Int32) (s_t_c_r : (Nat → Int32)) (s_t_cofactor_r : (Nat → Int32)) (hf : fX9_cubic t_p t_c_r t_cofactor_r t_given_r i1 = some (r, s_t_c_r, s_t_cofactor_r)) : x_CI l D cI yX9_cubic wsX9_cubic rmX9_cubic [.ref a_t, .int i1] [x_o9 a_t t_p a_t_given t_isLaid t_isGood a_t_c t_points a_t_pointX a_t_pointY a_t_pointZ a_t_pointFlags t_flags a_t_flagPoint a_t_flagU a_t_flagV a_t_flagW a_t_next a_t_series a_t_mix a_t_cofactor t_formX t_formY t_formZ a_t_square t_isNought t_sumT t_sumY, x_ar cI a_t_c 4 t_c_r, x_ar cI a_t_cofactor 6 t_cofactor_r, x_ar cI a_t_given 12 t_given_r] [x_o9 a_t t_p a_t_given t_isLaid t_isGood a_t_c t_points a_t_pointX a_t_pointY a_t_pointZ a_t_pointFlags t_flags a_t_flagPoint a_t_flagU a_t_flagV a_t_flagW a_t_next a_t_series a_t_mix a_t_cofactor t_formX t_formY t_formZ a_t_square t_isNought t_sumT t_sumY, x_ar cI a_t_c 4 s_t_c_r, x_ar cI a_t_cofactor 6 s_t_cofactor_r, x_ar cI a_t_given 12 t_given_r] r := by
  refine x_CI_of (cc := cX9_cubic) (maxL := 2) (ty := .int) (own := RX9) (lv0 := [(0, .ref a_t), (1, .int i1)]) (by decide) rfl rfl (Nat.le_of_ble_eq_true rfl) rfl ?_
  intro p e s m args below meth c A Q ls hx hb hml hown hts hN hK hP hD hS hA hl hret
  have iX9 : ∀ w ∈ u_ws RX9 TX9 26, w ∈ wsX9_cubic := by decide +kernel
  have l17 := hts (.fieldLink RX9 17 "ChordRingsModel" "c" "[I") (by decide +kernel)
  unfold fX9_cubic at hf
  refine lv_iload_n hx hb dX9_cubic_0 rfl (lv_at hl 1 rfl) ?_
  refine lv_iconst (v := 0) hx hb dX9_cubic_1 (by decide) ?_
  refine lv_iconst (v := 4) hx hb dX9_cubic_2 (by decide) ?_
  obtain ⟨v1, hv1, hf⟩ := o_b1 hf
  refine x_si (rest := []) ⟨hx, hb, hml, hown, hts⟩ (tX9_in l D cI i1 0 4 v1 hv1) (va_cwS 3 hts gX9_cubic_X9_in rfl rfl rfl (by decide +kernel) ⟨Nat.le_of_ble_eq_true rfl, Nat.le_of_ble_eq_true rfl⟩) hN hK hP hD hS hA rfl hl.1 rfl (Nat.le_of_ble_eq_true rfl) dX9_cubic_3 ⟨Nat.zero_le _, Nat.zero_le _⟩ (fun H locs hP hD hS => ?_)
  refine lv_if_ne (tgt := 12) hx hb dX9_cubic_6 (by decide) (fun hc => ?_) (fun hc => ?_)
  · have hf := o_f hf hc
    refine lv_aload_n hx hb dX9_cubic_12 rfl (lv_at hl 0 rfl) ?_
    obtain ⟨u2, u3, hu2, hf⟩ := o_b2 hf
    refine x_vv (rest := []) (W1 := [x_o9 a_t t_p a_t_given t_isLaid t_isGood a_t_c t_points a_t_pointX a_t_pointY a_t_pointZ a_t_pointFlags t_flags a_t_flagPoint a_t_flagU a_t_flagV a_t_flagW a_t_next a_t_series a_t_mix a_t_cofactor t_formX t_formY t_formZ a_t_square t_isNought t_sumT t_sumY, x_ar cI a_t_c 4 u2, x_ar cI a_t_cofactor 6 u3, x_ar cI a_t_given 12 t_given_r]) ⟨hx, hb, hml, hown, hts⟩ (tX9_layCubic l D cI a_t a_t_given a_t_c a_t_pointX a_t_pointY a_t_pointZ a_t_pointFlags a_t_flagPoint a_t_flagU a_t_flagV a_t_flagW a_t_next a_t_series a_t_mix a_t_cofactor a_t_square t_p t_isLaid t_isGood t_points t_flags t_formX t_formY t_formZ t_isNought t_sumT t_sumY t_c_r t_cofactor_r t_given_r u2 u3 hu2) (cwV 0 hts gX9_cubic_X9_layCubic rfl rfl rfl (by decide +kernel) ⟨Nat.le_of_ble_eq_true rfl, Nat.le_of_ble_eq_true rfl⟩) hN hK hP hD hS hA [0, 1, 2, 3] [some 0, some 1, some 2, some 3] rfl rfl rfl rfl rfl rfl 0 rfl rfl rfl hl.1 rfl (Nat.le_of_ble_eq_true rfl) dX9_cubic_13 ⟨Nat.zero_le _, Nat.zero_le _⟩ (fun H locs hP hD hS => ?_)
    refine lv_iload_n hx hb dX9_cubic_16 rfl (lv_at hl 1 rfl) ?_
    refine lv_iconst (v := 4) hx hb dX9_cubic_17 (by decide) ?_
    refine lv_icmp_ne (tgt := 28) hx hb dX9_cubic_18 (by decide) (fun hc => ?_) (fun hc => ?_)
    · have hf := o_f hf hc
      refine lv_aload_n hx hb dX9_cubic_28 rfl (lv_at hl 0 rfl) ?_
      refine va_get (D := D) (ci := 9) (C := RX9) (T := TX9) (N := 26) hx hb hts iX9 hown hK hP 0 rfl rfl 4 (by decide) l17 (fun _ h9 => h9) rfl dX9_cubic_29 ?_
      refine lv_iload_n hx hb dX9_cubic_32 rfl (lv_at hl 1 rfl) ?_
      obtain ⟨v4, hv4, hf⟩ := o_b1 hf
      refine x_ald hx hb hK hP 1 rfl hv4 dX9_cubic_33 ?_
      obtain ⟨rfl, rfl, rfl⟩ := o_s3 hf
      exact hret rfl rfl dX9_cubic_34 hP hD hS
    · have hf := o_t hf hc
      refine lv_aload_n hx hb dX9_cubic_21 rfl (lv_at hl 0 rfl) ?_
      obtain ⟨v5, hv5, hf⟩ := o_b1 hf
      refine x_vi (rest := []) (W1 := [x_o9 a_t t_p a_t_given t_isLaid t_isGood a_t_c t_points a_t_pointX a_t_pointY a_t_pointZ a_t_pointFlags t_flags a_t_flagPoint a_t_flagU a_t_flagV a_t_flagW a_t_next a_t_series a_t_mix a_t_cofactor t_formX t_formY t_formZ a_t_square t_isNought t_sumT t_sumY, x_ar cI a_t_c 4 u2, x_ar cI a_t_cofactor 6 u3, x_ar cI a_t_given 12 t_given_r]) ⟨hx, hb, hml, hown, hts⟩ (tX9_discriminant l D cI a_t a_t_given a_t_c a_t_pointX a_t_pointY a_t_pointZ a_t_pointFlags a_t_flagPoint a_t_flagU a_t_flagV a_t_flagW a_t_next a_t_series a_t_mix a_t_cofactor a_t_square t_p t_isLaid t_isGood t_points t_flags t_formX t_formY t_formZ t_isNought t_sumT t_sumY u2 v5 hv5) (cwV 0 hts gX9_cubic_X9_discriminant rfl rfl rfl (by decide +kernel) ⟨Nat.le_of_ble_eq_true rfl, Nat.le_of_ble_eq_true rfl⟩) hN hK hP hD hS hA [0, 1] [some 0, some 1, none, none] rfl rfl rfl rfl rfl rfl 0 rfl rfl rfl hl.1 rfl (Nat.le_of_ble_eq_true rfl) dX9_cubic_22 ⟨Nat.zero_le _, Nat.zero_le _⟩ (fun H locs hP hD hS => ?_)
      refine lv_goto (tgt := 34) hx hb dX9_cubic_25 (by decide) ?_
      obtain ⟨rfl, rfl, rfl⟩ := o_s3 hf
      exact hret rfl rfl dX9_cubic_34 hP hD hS
  · have hf := o_t hf hc
    refine lv_bipush (v := (-2)) hx hb dX9_cubic_9 (by decide) ?_
    obtain ⟨rfl, rfl, rfl⟩ := o_s3 hf
    exact hret rfl rfl dX9_cubic_11 hP hD hS
def fX9_rank (t_p : Int32) (i1 : Int32) (i2 : Int32) (i3 : Int32) : Option (Int32) :=
  if i3 = 1 then (some ((i2 * t_p) + i1)) else (if i2 = 1 then (some ((t_p * t_p) + i1)) else (some ((t_p * t_p) + t_p)))
def rmX9_rank : Room := { frames := 0, cells := 0, slots := 0, locals := 0 }
set_option maxHeartbeats 4000000 in
set_option maxRecDepth 100000 in
theorem tX9_rank (l : Launch) (D : va_G) (cI : ClassId) (a_t : Nat) (a_t_given : Nat) (a_t_c : Nat) (a_t_pointX : Nat) (a_t_pointY : Nat) (a_t_pointZ : Nat) (a_t_pointFlags : Nat) (a_t_flagPoint : Nat) (a_t_flagU : Nat) (a_t_flagV : Nat) (a_t_flagW : Nat) (a_t_next : Nat) (a_t_series : Nat) (a_t_mix : Nat) (a_t_cofactor : Nat) (a_t_square : Nat) (t_p : Int32) (t_isLaid : Int32) (t_isGood : Int32) (t_points : Int32) (t_flags : Int32) (t_formX : Int32) (t_formY : Int32) (t_formZ : Int32) (t_isNought : Int32) (t_sumT : Int32) (t_sumY : Int32) (i1 : Int32) (i2 : Int32) (i3 : Int32) (r : Int32) (hf : fX9_rank t_p i1 i2 i3 = some r) : x_CI l D cI yX9_rank wsX9_rank rmX9_rank [.ref a_t, .int i1, .int i2, .int i3] [x_o9 a_t t_p a_t_given t_isLaid t_isGood a_t_c t_points a_t_pointX a_t_pointY a_t_pointZ a_t_pointFlags t_flags a_t_flagPoint a_t_flagU a_t_flagV a_t_flagW a_t_next a_t_series a_t_mix a_t_cofactor t_formX t_formY t_formZ a_t_square t_isNought t_sumT t_sumY] [x_o9 a_t t_p a_t_given t_isLaid t_isGood a_t_c t_points a_t_pointX a_t_pointY a_t_pointZ a_t_pointFlags t_flags a_t_flagPoint a_t_flagU a_t_flagV a_t_flagW a_t_next a_t_series a_t_mix a_t_cofactor t_formX t_formY t_formZ a_t_square t_isNought t_sumT t_sumY] r := by
  refine x_CI_of (cc := cX9_rank) (maxL := 4) (ty := .int) (own := RX9) (lv0 := [(0, .ref a_t), (1, .int i1), (2, .int i2), (3, .int i3)]) (by decide) rfl rfl (Nat.le_of_ble_eq_true rfl) rfl ?_
  intro p e s m args below meth c A Q ls hx hb hml hown hts hN hK hP hD hS hA hl hret
  have iX9 : ∀ w ∈ u_ws RX9 TX9 26, w ∈ wsX9_rank := by decide +kernel
  have l7 := hts (.fieldLink RX9 7 "ChordRingsModel" "p" "I") (by decide +kernel)
  unfold fX9_rank at hf
  refine lv_iload_n hx hb dX9_rank_0 rfl (lv_at hl 3 rfl) ?_
  refine lv_iconst (v := 1) hx hb dX9_rank_1 (by decide) ?_
  refine lv_icmp_ne (tgt := 16) hx hb dX9_rank_2 (by decide) (fun hc => ?_) (fun hc => ?_)
  · have hf := o_f hf hc
    refine lv_iload_n hx hb dX9_rank_16 rfl (lv_at hl 2 rfl) ?_
    refine lv_iconst (v := 1) hx hb dX9_rank_17 (by decide) ?_
    refine lv_icmp_ne (tgt := 35) hx hb dX9_rank_18 (by decide) (fun hc => ?_) (fun hc => ?_)
    · have hf := o_f hf hc
      refine lv_aload_n hx hb dX9_rank_35 rfl (lv_at hl 0 rfl) ?_
      refine va_get (D := D) (ci := 9) (C := RX9) (T := TX9) (N := 26) hx hb hts iX9 hown hK hP 0 rfl rfl 0 (by decide) l7 (fun _ h9 => h9) rfl dX9_rank_36 ?_
      refine lv_aload_n hx hb dX9_rank_39 rfl (lv_at hl 0 rfl) ?_
      refine va_get (D := D) (ci := 9) (C := RX9) (T := TX9) (N := 26) hx hb hts iX9 hown hK hP 0 rfl rfl 0 (by decide) l7 (fun _ h9 => h9) rfl dX9_rank_40 ?_
      refine lv_imul hx hb dX9_rank_43 ?_
      refine lv_aload_n hx hb dX9_rank_44 rfl (lv_at hl 0 rfl) ?_
      refine va_get (D := D) (ci := 9) (C := RX9) (T := TX9) (N := 26) hx hb hts iX9 hown hK hP 0 rfl rfl 0 (by decide) l7 (fun _ h9 => h9) rfl dX9_rank_45 ?_
      refine lv_iadd hx hb dX9_rank_48 ?_
      obtain rfl := Option.some.inj hf
      exact hret rfl rfl dX9_rank_49 hP hD hS
    · have hf := o_t hf hc
      refine lv_aload_n hx hb dX9_rank_21 rfl (lv_at hl 0 rfl) ?_
      refine va_get (D := D) (ci := 9) (C := RX9) (T := TX9) (N := 26) hx hb hts iX9 hown hK hP 0 rfl rfl 0 (by decide) l7 (fun _ h9 => h9) rfl dX9_rank_22 ?_
      refine lv_aload_n hx hb dX9_rank_25 rfl (lv_at hl 0 rfl) ?_
      refine va_get (D := D) (ci := 9) (C := RX9) (T := TX9) (N := 26) hx hb hts iX9 hown hK hP 0 rfl rfl 0 (by decide) l7 (fun _ h9 => h9) rfl dX9_rank_26 ?_
      refine lv_imul hx hb dX9_rank_29 ?_
      refine lv_iload_n hx hb dX9_rank_30 rfl (lv_at hl 1 rfl) ?_
      refine lv_iadd hx hb dX9_rank_31 ?_
      refine lv_goto (tgt := 49) hx hb dX9_rank_32 (by decide) ?_
      obtain rfl := Option.some.inj hf
      exact hret rfl rfl dX9_rank_49 hP hD hS
  · have hf := o_t hf hc
    refine lv_iload_n hx hb dX9_rank_5 rfl (lv_at hl 2 rfl) ?_
    refine lv_aload_n hx hb dX9_rank_6 rfl (lv_at hl 0 rfl) ?_
    refine va_get (D := D) (ci := 9) (C := RX9) (T := TX9) (N := 26) hx hb hts iX9 hown hK hP 0 rfl rfl 0 (by decide) l7 (fun _ h9 => h9) rfl dX9_rank_7 ?_
    refine lv_imul hx hb dX9_rank_10 ?_
    refine lv_iload_n hx hb dX9_rank_11 rfl (lv_at hl 1 rfl) ?_
    refine lv_iadd hx hb dX9_rank_12 ?_
    refine lv_goto (tgt := 49) hx hb dX9_rank_13 (by decide) ?_
    obtain rfl := Option.some.inj hf
    exact hret rfl rfl dX9_rank_49 hP hD hS
noncomputable def kX9_addFlag_109 (t_flags : Int32) (t_formX : Int32) (t_formY : Int32) (t_formZ : Int32) (t_flagPoint_r : (Nat → Int32)) (i1 : Int32) (y6 : Int32) (w7 : (Nat → Int32)) (w8 : (Nat → Int32)) (w9 : (Nat → Int32)) : Option (Int32 × (Nat → Int32) × (Nat → Int32) × (Nat → Int32) × (Nat → Int32)) :=
  p_b1 (p_st t_flagPoint_r 400 t_flags i1) (fun u10 =>
p_b1 (p_st w7 400 y6 t_formX) (fun u11 =>
p_b1 (p_st w8 400 y6 t_formY) (fun u12 =>
p_b1 (p_st w9 400 y6 t_formZ) (fun u13 =>
p_nm (t_flags + 1) (fun v14 =>
some (v14, u10, u11, u12, u13))))))
noncomputable def FgX9_addFlag_23 (t_p : Int32) (i2 : Int32) (v1 : Int32) (rec23 : Int32 → (Nat → Int32) → (Nat → Int32) → (Nat → Int32) → Option (Int32 × (Nat → Int32) × (Nat → Int32) × (Nat → Int32) × (Nat → Int32))) (kk23 : Int32 → (Nat → Int32) → (Nat → Int32) → (Nat → Int32) → Option (Int32 × (Nat → Int32) × (Nat → Int32) × (Nat → Int32) × (Nat → Int32))) (x2 : Int32) (z3 : (Nat → Int32)) (z4 : (Nat → Int32)) (z5 : (Nat → Int32)) : Option (Int32 × (Nat → Int32) × (Nat → Int32) × (Nat → Int32) × (Nat → Int32)) :=
  if x2 ≤ i2 then (kk23 x2 z3 z4 z5) else (p_b1 (p_ld z3 400 (x2 - 1)) (fun v15 =>
p_b1 (p_ld z4 400 (x2 - 1)) (fun v16 =>
p_b1 (p_ld z5 400 (x2 - 1)) (fun v17 =>
p_b1 (fX9_rank t_p v15 v16 v17) (fun v18 =>
if v18 ≤ v1 then (kk23 x2 z3 z4 z5) else (p_b1 (p_ld z3 400 (x2 - 1)) (fun v19 =>
p_b1 (p_st z3 400 x2 v19) (fun u20 =>
p_b1 (p_ld z4 400 (x2 - 1)) (fun v21 =>
p_b1 (p_st z4 400 x2 v21) (fun u22 =>
p_b1 (p_ld z5 400 (x2 - 1)) (fun v23 =>
p_b1 (p_st z5 400 x2 v23) (fun u24 =>
p_nm (x2 + (-1)) (fun v25 =>
rec23 v25 u20 u22 u24)))))))))))))
noncomputable def gX9_addFlag_23 (t_p : Int32) (i2 : Int32) (v1 : Int32) (kk23 : Int32 → (Nat → Int32) → (Nat → Int32) → (Nat → Int32) → Option (Int32 × (Nat → Int32) × (Nat → Int32) × (Nat → Int32) × (Nat → Int32))) (n : Nat) : Int32 → (Nat → Int32) → (Nat → Int32) → (Nat → Int32) → Option (Int32 × (Nat → Int32) × (Nat → Int32) × (Nat → Int32) × (Nat → Int32)) := Nat.rec (motive := fun _ => Int32 → (Nat → Int32) → (Nat → Int32) → (Nat → Int32) → Option (Int32 × (Nat → Int32) × (Nat → Int32) × (Nat → Int32) × (Nat → Int32))) (fun _ _ _ _ => none) (fun _ rec23 => FgX9_addFlag_23 t_p i2 v1 rec23 kk23) n
noncomputable def fX9_addFlag (t_flags : Int32) (t_formX : Int32) (t_formY : Int32) (t_formZ : Int32) (t_p : Int32) (t_flagPoint_r : (Nat → Int32)) (t_flagU_r : (Nat → Int32)) (t_flagV_r : (Nat → Int32)) (t_flagW_r : (Nat → Int32)) (i1 : Int32) (i2 : Int32) : Option (Int32 × (Nat → Int32) × (Nat → Int32) × (Nat → Int32) × (Nat → Int32)) :=
  p_b1 (fX9_rank t_p t_formX t_formY t_formZ) (fun v1 =>
gX9_addFlag_23 t_p i2 v1 (kX9_addFlag_109 t_flags t_formX t_formY t_formZ t_flagPoint_r i1) p_FU t_flags t_flagU_r t_flagV_r t_flagW_r)
def rmX9_addFlag : Room := { frames := 1, cells := 0, slots := 0, locals := 23 }
set_option maxHeartbeats 4000000 in
set_option maxRecDepth 100000 in
theorem tX9_addFlag (l : Launch) (D : va_G) (cI : ClassId) (a_t : Nat) (a_t_given : Nat) (a_t_c : Nat) (a_t_pointX : Nat) (a_t_pointY : Nat) (a_t_pointZ : Nat) (a_t_pointFlags : Nat) (a_t_flagPoint : Nat) (a_t_flagU : Nat) (a_t_flagV : Nat) (a_t_flagW : Nat) (a_t_next : Nat) (a_t_series : Nat) (a_t_mix : Nat) (a_t_cofactor : Nat) (a_t_square : Nat) (t_p : Int32) (t_isLaid : Int32) (t_isGood : Int32) (t_points : Int32) (t_flags : Int32) (t_formX : Int32) (t_formY : Int32) (t_formZ : Int32) (t_isNought : Int32) (t_sumT : Int32) (t_sumY : Int32) (t_flagPoint_r : (Nat → Int32)) (t_flagU_r : (Nat → Int32)) (t_flagV_r : (Nat → Int32)) (t_flagW_r : (Nat → Int32)) (i1 : Int32) (i2 : Int32) (s_t_flags : Int32) (s_t_flagPoint_r : (Nat → Int32)) (s_t_flagU_r : (Nat → Int32)) (s_t_flagV_r : (Nat → Int32)) (s_t_flagW_r : (Nat → Int32)) (hf : fX9_addFlag t_flags t_formX t_formY t_formZ t_p t_flagPoint_r t_flagU_r t_flagV_r t_flagW_r i1 i2 = some (s_t_flags, s_t_flagPoint_r, s_t_flagU_r, s_t_flagV_r, s_t_flagW_r)) : x_CV l D cI yX9_addFlag wsX9_addFlag rmX9_addFlag [.ref a_t, .int i1, .int i2] [x_o9 a_t t_p a_t_given t_isLaid t_isGood a_t_c t_points a_t_pointX a_t_pointY a_t_pointZ a_t_pointFlags t_flags a_t_flagPoint a_t_flagU a_t_flagV a_t_flagW a_t_next a_t_series a_t_mix a_t_cofactor t_formX t_formY t_formZ a_t_square t_isNought t_sumT t_sumY, x_ar cI a_t_flagPoint 400 t_flagPoint_r, x_ar cI a_t_flagU 400 t_flagU_r, x_ar cI a_t_flagV 400 t_flagV_r, x_ar cI a_t_flagW 400 t_flagW_r] [x_o9 a_t t_p a_t_given t_isLaid t_isGood a_t_c t_points a_t_pointX a_t_pointY a_t_pointZ a_t_pointFlags s_t_flags a_t_flagPoint a_t_flagU a_t_flagV a_t_flagW a_t_next a_t_series a_t_mix a_t_cofactor t_formX t_formY t_formZ a_t_square t_isNought t_sumT t_sumY, x_ar cI a_t_flagPoint 400 s_t_flagPoint_r, x_ar cI a_t_flagU 400 s_t_flagU_r, x_ar cI a_t_flagV 400 s_t_flagV_r, x_ar cI a_t_flagW 400 s_t_flagW_r] := by
  refine x_CV_of (cc := cX9_addFlag) (maxL := 5) (own := RX9) (lv0 := [(0, .ref a_t), (1, .int i1), (2, .int i2)]) (by decide) rfl rfl (Nat.le_of_ble_eq_true rfl) rfl ?_
  intro p e s m args below meth c A Q ls hx hb hml hown hts hN hK hP hD hS hA hl hret
  have iX9 : ∀ w ∈ u_ws RX9 TX9 26, w ∈ wsX9_addFlag := by decide +kernel
  have l140 := hts (.fieldLink RX9 140 "ChordRingsModel" "flags" "I") (by decide +kernel)
  have l124 := hts (.fieldLink RX9 124 "ChordRingsModel" "formX" "I") (by decide +kernel)
  have l127 := hts (.fieldLink RX9 127 "ChordRingsModel" "formY" "I") (by decide +kernel)
  have l130 := hts (.fieldLink RX9 130 "ChordRingsModel" "formZ" "I") (by decide +kernel)
  have l32 := hts (.fieldLink RX9 32 "ChordRingsModel" "flagPoint" "[I") (by decide +kernel)
  have l35 := hts (.fieldLink RX9 35 "ChordRingsModel" "flagU" "[I") (by decide +kernel)
  have l38 := hts (.fieldLink RX9 38 "ChordRingsModel" "flagV" "[I") (by decide +kernel)
  have l41 := hts (.fieldLink RX9 41 "ChordRingsModel" "flagW" "[I") (by decide +kernel)
  unfold fX9_addFlag at hf
  refine lv_aload_n hx hb dX9_addFlag_0 rfl (lv_at hl 0 rfl) ?_
  refine va_get (D := D) (ci := 9) (C := RX9) (T := TX9) (N := 26) hx hb hts iX9 hown hK hP 0 rfl rfl 10 (by decide) l140 (fun _ h9 => h9) rfl dX9_addFlag_1 ?_
  refine lv_istore_n (lv' := [(3, .int t_flags), (0, .ref a_t), (1, .int i1), (2, .int i2)]) hx hb dX9_addFlag_4 rfl hl (by decide) rfl (fun ls hl => ?_)
  refine lv_aload_n hx hb dX9_addFlag_5 rfl (lv_at hl 1 rfl) ?_
  refine lv_aload_n hx hb dX9_addFlag_6 rfl (lv_at hl 1 rfl) ?_
  refine va_get (D := D) (ci := 9) (C := RX9) (T := TX9) (N := 26) hx hb hts iX9 hown hK hP 0 rfl rfl 19 (by decide) l124 (fun _ h9 => h9) rfl dX9_addFlag_7 ?_
  refine lv_aload_n hx hb dX9_addFlag_10 rfl (lv_at hl 1 rfl) ?_
  refine va_get (D := D) (ci := 9) (C := RX9) (T := TX9) (N := 26) hx hb hts iX9 hown hK hP 0 rfl rfl 20 (by decide) l127 (fun _ h9 => h9) rfl dX9_addFlag_11 ?_
  refine lv_aload_n hx hb dX9_addFlag_14 rfl (lv_at hl 1 rfl) ?_
  refine va_get (D := D) (ci := 9) (C := RX9) (T := TX9) (N := 26) hx hb hts iX9 hown hK hP 0 rfl rfl 21 (by decide) l130 (fun _ h9 => h9) rfl dX9_addFlag_15 ?_
  obtain ⟨v1, hv1, hf⟩ := o_b1 hf
  refine x_vi (rest := []) (W1 := [x_o9 a_t t_p a_t_given t_isLaid t_isGood a_t_c t_points a_t_pointX a_t_pointY a_t_pointZ a_t_pointFlags t_flags a_t_flagPoint a_t_flagU a_t_flagV a_t_flagW a_t_next a_t_series a_t_mix a_t_cofactor t_formX t_formY t_formZ a_t_square t_isNought t_sumT t_sumY, x_ar cI a_t_flagPoint 400 t_flagPoint_r, x_ar cI a_t_flagU 400 t_flagU_r, x_ar cI a_t_flagV 400 t_flagV_r, x_ar cI a_t_flagW 400 t_flagW_r]) ⟨hx, hb, hml, hown, hts⟩ (tX9_rank l D cI a_t a_t_given a_t_c a_t_pointX a_t_pointY a_t_pointZ a_t_pointFlags a_t_flagPoint a_t_flagU a_t_flagV a_t_flagW a_t_next a_t_series a_t_mix a_t_cofactor a_t_square t_p t_isLaid t_isGood t_points t_flags t_formX t_formY t_formZ t_isNought t_sumT t_sumY t_formX t_formY t_formZ v1 hv1) (cwV 3 hts gX9_addFlag_X9_rank rfl rfl rfl (by decide +kernel) ⟨Nat.le_of_ble_eq_true rfl, Nat.le_of_ble_eq_true rfl⟩) hN hK hP hD hS hA [0] [some 0, none, none, none, none] rfl rfl rfl rfl rfl rfl 0 rfl rfl rfl hl.1 rfl (Nat.le_of_ble_eq_true rfl) dX9_addFlag_18 ⟨Nat.zero_le _, Nat.zero_le _⟩ (fun H locs hP hD hS => ?_)
  refine lv_istore (lv' := [(4, .int v1), (3, .int t_flags), (0, .ref a_t), (1, .int i1), (2, .int i2)]) hx hb dX9_addFlag_21 hl (by decide) rfl (fun ls hl => ?_)
  have L23 : ∀ (n : Nat) (x2 : Int32) (z3 : (Nat → Int32)) (z4 : (Nat → Int32)) (z5 : (Nat → Int32)) (ls : Array Slot) (H : Heap) (locs : List Loc), gX9_addFlag_23 t_p i2 v1 (kX9_addFlag_109 t_flags t_formX t_formY t_formZ t_flagPoint_r i1) n x2 z3 z4 z5 = some (s_t_flags, s_t_flagPoint_r, s_t_flagU_r, s_t_flagV_r, s_t_flagW_r) → lv_has ls 5 [(0, .ref a_t), (1, .int i1), (2, .int i2), (3, .int x2), (4, .int v1)] → va_P D vwCl [x_o9 a_t t_p a_t_given t_isLaid t_isGood a_t_c t_points a_t_pointX a_t_pointY a_t_pointZ a_t_pointFlags t_flags a_t_flagPoint a_t_flagU a_t_flagV a_t_flagW a_t_next a_t_series a_t_mix a_t_cofactor t_formX t_formY t_formZ a_t_square t_isNought t_sumT t_sumY, x_ar cI a_t_flagPoint 400 t_flagPoint_r, x_ar cI a_t_flagU 400 z3, x_ar cI a_t_flagV 400 z4, x_ar cI a_t_flagW 400 z5] H → va_D A [x_o9 a_t t_p a_t_given t_isLaid t_isGood a_t_c t_points a_t_pointX a_t_pointY a_t_pointZ a_t_pointFlags t_flags a_t_flagPoint a_t_flagU a_t_flagV a_t_flagW a_t_next a_t_series a_t_mix a_t_cofactor t_formX t_formY t_formZ a_t_square t_isNought t_sumT t_sumY, x_ar cI a_t_flagPoint 400 t_flagPoint_r, x_ar cI a_t_flagU 400 z3, x_ar cI a_t_flagV 400 z4, x_ar cI a_t_flagW 400 z5] → va_S A s.heap H locs → W p l e rmX9_addFlag s m args below meth c H locs 0 0 Q (F0 m 23 ls []) := by
    intro n23
    induction n23 with
    | zero =>
      intro x2 z3 z4 z5 ls H locs hf
      exact nomatch (show (none : Option (Int32 × (Nat → Int32) × (Nat → Int32) × (Nat → Int32) × (Nat → Int32))) = some (s_t_flags, s_t_flagPoint_r, s_t_flagU_r, s_t_flagV_r, s_t_flagW_r) from hf)
    | succ n23 ih23 =>
      intro x2 z3 z4 z5 ls H locs hf hl hP hD hS
      have hf : FgX9_addFlag_23 t_p i2 v1 (gX9_addFlag_23 t_p i2 v1 (kX9_addFlag_109 t_flags t_formX t_formY t_formZ t_flagPoint_r i1) n23) (kX9_addFlag_109 t_flags t_formX t_formY t_formZ t_flagPoint_r i1) x2 z3 z4 z5 = some (s_t_flags, s_t_flagPoint_r, s_t_flagU_r, s_t_flagV_r, s_t_flagW_r) := hf
      unfold FgX9_addFlag_23 at hf
      refine lv_iload_n hx hb dX9_addFlag_23 rfl (lv_at hl 3 rfl) ?_
      refine lv_iload_n hx hb dX9_addFlag_24 rfl (lv_at hl 2 rfl) ?_
      have J109 : ∀ (y6 : Int32) (w7 : (Nat → Int32)) (w8 : (Nat → Int32)) (w9 : (Nat → Int32)) (ls : Array Slot) (H : Heap) (locs : List Loc), kX9_addFlag_109 t_flags t_formX t_formY t_formZ t_flagPoint_r i1 y6 w7 w8 w9 = some (s_t_flags, s_t_flagPoint_r, s_t_flagU_r, s_t_flagV_r, s_t_flagW_r) → lv_has ls 5 [(0, .ref a_t), (1, .int i1), (3, .int y6)] → va_P D vwCl [x_o9 a_t t_p a_t_given t_isLaid t_isGood a_t_c t_points a_t_pointX a_t_pointY a_t_pointZ a_t_pointFlags t_flags a_t_flagPoint a_t_flagU a_t_flagV a_t_flagW a_t_next a_t_series a_t_mix a_t_cofactor t_formX t_formY t_formZ a_t_square t_isNought t_sumT t_sumY, x_ar cI a_t_flagPoint 400 t_flagPoint_r, x_ar cI a_t_flagU 400 w7, x_ar cI a_t_flagV 400 w8, x_ar cI a_t_flagW 400 w9] H → va_D A [x_o9 a_t t_p a_t_given t_isLaid t_isGood a_t_c t_points a_t_pointX a_t_pointY a_t_pointZ a_t_pointFlags t_flags a_t_flagPoint a_t_flagU a_t_flagV a_t_flagW a_t_next a_t_series a_t_mix a_t_cofactor t_formX t_formY t_formZ a_t_square t_isNought t_sumT t_sumY, x_ar cI a_t_flagPoint 400 t_flagPoint_r, x_ar cI a_t_flagU 400 w7, x_ar cI a_t_flagV 400 w8, x_ar cI a_t_flagW 400 w9] → va_S A s.heap H locs → W p l e rmX9_addFlag s m args below meth c H locs 0 0 Q (F0 m 109 ls []) := by
        intro y6 w7 w8 w9 ls H locs hf hl hP hD hS
        unfold kX9_addFlag_109 at hf
        refine lv_aload_n hx hb dX9_addFlag_109 rfl (lv_at hl 0 rfl) ?_
        refine va_get (D := D) (ci := 9) (C := RX9) (T := TX9) (N := 26) hx hb hts iX9 hown hK hP 0 rfl rfl 11 (by decide) l32 (fun _ h9 => h9) rfl dX9_addFlag_110 ?_
        refine lv_aload_n hx hb dX9_addFlag_113 rfl (lv_at hl 0 rfl) ?_
        refine va_get (D := D) (ci := 9) (C := RX9) (T := TX9) (N := 26) hx hb hts iX9 hown hK hP 0 rfl rfl 10 (by decide) l140 (fun _ h9 => h9) rfl dX9_addFlag_114 ?_
        refine lv_iload_n hx hb dX9_addFlag_117 rfl (lv_at hl 1 rfl) ?_
        obtain ⟨u10, hu10, hf⟩ := o_b1 hf
        refine x_ast (W1 := [x_o9 a_t t_p a_t_given t_isLaid t_isGood a_t_c t_points a_t_pointX a_t_pointY a_t_pointZ a_t_pointFlags t_flags a_t_flagPoint a_t_flagU a_t_flagV a_t_flagW a_t_next a_t_series a_t_mix a_t_cofactor t_formX t_formY t_formZ a_t_square t_isNought t_sumT t_sumY, x_ar cI a_t_flagPoint 400 u10, x_ar cI a_t_flagU 400 w7, x_ar cI a_t_flagV 400 w8, x_ar cI a_t_flagW 400 w9]) hx hb hK hP hD hS 1 rfl hu10 rfl dX9_addFlag_118 (fun H locs hP hD hS => ?_)
        refine lv_aload_n hx hb dX9_addFlag_119 rfl (lv_at hl 0 rfl) ?_
        refine va_get (D := D) (ci := 9) (C := RX9) (T := TX9) (N := 26) hx hb hts iX9 hown hK hP 0 rfl rfl 12 (by decide) l35 (fun _ h9 => h9) rfl dX9_addFlag_120 ?_
        refine lv_iload_n hx hb dX9_addFlag_123 rfl (lv_at hl 2 rfl) ?_
        refine lv_aload_n hx hb dX9_addFlag_124 rfl (lv_at hl 0 rfl) ?_
        refine va_get (D := D) (ci := 9) (C := RX9) (T := TX9) (N := 26) hx hb hts iX9 hown hK hP 0 rfl rfl 19 (by decide) l124 (fun _ h9 => h9) rfl dX9_addFlag_125 ?_
        obtain ⟨u11, hu11, hf⟩ := o_b1 hf
        refine x_ast (W1 := [x_o9 a_t t_p a_t_given t_isLaid t_isGood a_t_c t_points a_t_pointX a_t_pointY a_t_pointZ a_t_pointFlags t_flags a_t_flagPoint a_t_flagU a_t_flagV a_t_flagW a_t_next a_t_series a_t_mix a_t_cofactor t_formX t_formY t_formZ a_t_square t_isNought t_sumT t_sumY, x_ar cI a_t_flagPoint 400 u10, x_ar cI a_t_flagU 400 u11, x_ar cI a_t_flagV 400 w8, x_ar cI a_t_flagW 400 w9]) hx hb hK hP hD hS 2 rfl hu11 rfl dX9_addFlag_128 (fun H locs hP hD hS => ?_)
        refine lv_aload_n hx hb dX9_addFlag_129 rfl (lv_at hl 0 rfl) ?_
        refine va_get (D := D) (ci := 9) (C := RX9) (T := TX9) (N := 26) hx hb hts iX9 hown hK hP 0 rfl rfl 13 (by decide) l38 (fun _ h9 => h9) rfl dX9_addFlag_130 ?_
        refine lv_iload_n hx hb dX9_addFlag_133 rfl (lv_at hl 2 rfl) ?_
        refine lv_aload_n hx hb dX9_addFlag_134 rfl (lv_at hl 0 rfl) ?_
        refine va_get (D := D) (ci := 9) (C := RX9) (T := TX9) (N := 26) hx hb hts iX9 hown hK hP 0 rfl rfl 20 (by decide) l127 (fun _ h9 => h9) rfl dX9_addFlag_135 ?_
        obtain ⟨u12, hu12, hf⟩ := o_b1 hf
        refine x_ast (W1 := [x_o9 a_t t_p a_t_given t_isLaid t_isGood a_t_c t_points a_t_pointX a_t_pointY a_t_pointZ a_t_pointFlags t_flags a_t_flagPoint a_t_flagU a_t_flagV a_t_flagW a_t_next a_t_series a_t_mix a_t_cofactor t_formX t_formY t_formZ a_t_square t_isNought t_sumT t_sumY, x_ar cI a_t_flagPoint 400 u10, x_ar cI a_t_flagU 400 u11, x_ar cI a_t_flagV 400 u12, x_ar cI a_t_flagW 400 w9]) hx hb hK hP hD hS 3 rfl hu12 rfl dX9_addFlag_138 (fun H locs hP hD hS => ?_)
        refine lv_aload_n hx hb dX9_addFlag_139 rfl (lv_at hl 0 rfl) ?_
        refine va_get (D := D) (ci := 9) (C := RX9) (T := TX9) (N := 26) hx hb hts iX9 hown hK hP 0 rfl rfl 14 (by decide) l41 (fun _ h9 => h9) rfl dX9_addFlag_140 ?_
        refine lv_iload_n hx hb dX9_addFlag_143 rfl (lv_at hl 2 rfl) ?_
        refine lv_aload_n hx hb dX9_addFlag_144 rfl (lv_at hl 0 rfl) ?_
        refine va_get (D := D) (ci := 9) (C := RX9) (T := TX9) (N := 26) hx hb hts iX9 hown hK hP 0 rfl rfl 21 (by decide) l130 (fun _ h9 => h9) rfl dX9_addFlag_145 ?_
        obtain ⟨u13, hu13, hf⟩ := o_b1 hf
        refine x_ast (W1 := [x_o9 a_t t_p a_t_given t_isLaid t_isGood a_t_c t_points a_t_pointX a_t_pointY a_t_pointZ a_t_pointFlags t_flags a_t_flagPoint a_t_flagU a_t_flagV a_t_flagW a_t_next a_t_series a_t_mix a_t_cofactor t_formX t_formY t_formZ a_t_square t_isNought t_sumT t_sumY, x_ar cI a_t_flagPoint 400 u10, x_ar cI a_t_flagU 400 u11, x_ar cI a_t_flagV 400 u12, x_ar cI a_t_flagW 400 u13]) hx hb hK hP hD hS 4 rfl hu13 rfl dX9_addFlag_148 (fun H locs hP hD hS => ?_)
        refine lv_aload_n hx hb dX9_addFlag_149 rfl (lv_at hl 0 rfl) ?_
        refine lv_dup hx hb dX9_addFlag_150 rfl ?_
        refine va_get (D := D) (ci := 9) (C := RX9) (T := TX9) (N := 26) hx hb hts iX9 hown hK hP 0 rfl rfl 10 (by decide) l140 (fun _ h9 => h9) rfl dX9_addFlag_151 ?_
        refine lv_iconst (v := 1) hx hb dX9_addFlag_154 (by decide) ?_
        refine lv_iadd hx hb dX9_addFlag_155 ?_
        obtain ⟨v14, ev14, hf⟩ := o_nm hf
        refine x_top ev14 ?_
        refine x_put (W1 := [x_o9 a_t t_p a_t_given t_isLaid t_isGood a_t_c t_points a_t_pointX a_t_pointY a_t_pointZ a_t_pointFlags v14 a_t_flagPoint a_t_flagU a_t_flagV a_t_flagW a_t_next a_t_series a_t_mix a_t_cofactor t_formX t_formY t_formZ a_t_square t_isNought t_sumT t_sumY, x_ar cI a_t_flagPoint 400 u10, x_ar cI a_t_flagU 400 u11, x_ar cI a_t_flagV 400 u12, x_ar cI a_t_flagW 400 u13]) (ty := .int) (C := RX9) (T := TX9) (N := 26) hx hb hts iX9 tyX9 tyX9_ok nmX9 hown hK hP hD hS 0 rfl rfl 10 (by decide) l140 rfl rfl (by decide +kernel) rfl rfl (Nat.le_of_ble_eq_true rfl) rfl dX9_addFlag_156 (fun H locs hP hD hS => ?_)
        obtain ⟨rfl, rfl, rfl, rfl, rfl⟩ := o_s5 hf
        exact hret dX9_addFlag_159 hP hD hS
      refine lv_icmp_le (tgt := 109) hx hb dX9_addFlag_25 (by decide) (fun hc => ?_) (fun hc => ?_)
      · have hf := o_t hf hc
        exact J109 x2 z3 z4 z5 _ _ _ hf (lv_sub hl [0, 1, 3] rfl) hP hD hS
      · have hf := o_f hf hc
        refine lv_aload_n hx hb dX9_addFlag_28 rfl (lv_at hl 0 rfl) ?_
        refine lv_aload_n hx hb dX9_addFlag_29 rfl (lv_at hl 0 rfl) ?_
        refine va_get (D := D) (ci := 9) (C := RX9) (T := TX9) (N := 26) hx hb hts iX9 hown hK hP 0 rfl rfl 12 (by decide) l35 (fun _ h9 => h9) rfl dX9_addFlag_30 ?_
        refine lv_iload_n hx hb dX9_addFlag_33 rfl (lv_at hl 3 rfl) ?_
        refine lv_iconst (v := 1) hx hb dX9_addFlag_34 (by decide) ?_
        refine lv_isub hx hb dX9_addFlag_35 ?_
        obtain ⟨v15, hv15, hf⟩ := o_b1 hf
        refine x_ald hx hb hK hP 2 rfl hv15 dX9_addFlag_36 ?_
        refine lv_aload_n hx hb dX9_addFlag_37 rfl (lv_at hl 0 rfl) ?_
        refine va_get (D := D) (ci := 9) (C := RX9) (T := TX9) (N := 26) hx hb hts iX9 hown hK hP 0 rfl rfl 13 (by decide) l38 (fun _ h9 => h9) rfl dX9_addFlag_38 ?_
        refine lv_iload_n hx hb dX9_addFlag_41 rfl (lv_at hl 3 rfl) ?_
        refine lv_iconst (v := 1) hx hb dX9_addFlag_42 (by decide) ?_
        refine lv_isub hx hb dX9_addFlag_43 ?_
        obtain ⟨v16, hv16, hf⟩ := o_b1 hf
        refine x_ald hx hb hK hP 3 rfl hv16 dX9_addFlag_44 ?_
        refine lv_aload_n hx hb dX9_addFlag_45 rfl (lv_at hl 0 rfl) ?_
        refine va_get (D := D) (ci := 9) (C := RX9) (T := TX9) (N := 26) hx hb hts iX9 hown hK hP 0 rfl rfl 14 (by decide) l41 (fun _ h9 => h9) rfl dX9_addFlag_46 ?_
        refine lv_iload_n hx hb dX9_addFlag_49 rfl (lv_at hl 3 rfl) ?_
        refine lv_iconst (v := 1) hx hb dX9_addFlag_50 (by decide) ?_
        refine lv_isub hx hb dX9_addFlag_51 ?_
        obtain ⟨v17, hv17, hf⟩ := o_b1 hf
        refine x_ald hx hb hK hP 4 rfl hv17 dX9_addFlag_52 ?_
        obtain ⟨v18, hv18, hf⟩ := o_b1 hf
        refine x_vi (rest := []) (W1 := [x_o9 a_t t_p a_t_given t_isLaid t_isGood a_t_c t_points a_t_pointX a_t_pointY a_t_pointZ a_t_pointFlags t_flags a_t_flagPoint a_t_flagU a_t_flagV a_t_flagW a_t_next a_t_series a_t_mix a_t_cofactor t_formX t_formY t_formZ a_t_square t_isNought t_sumT t_sumY, x_ar cI a_t_flagPoint 400 t_flagPoint_r, x_ar cI a_t_flagU 400 z3, x_ar cI a_t_flagV 400 z4, x_ar cI a_t_flagW 400 z5]) ⟨hx, hb, hml, hown, hts⟩ (tX9_rank l D cI a_t a_t_given a_t_c a_t_pointX a_t_pointY a_t_pointZ a_t_pointFlags a_t_flagPoint a_t_flagU a_t_flagV a_t_flagW a_t_next a_t_series a_t_mix a_t_cofactor a_t_square t_p t_isLaid t_isGood t_points t_flags t_formX t_formY t_formZ t_isNought t_sumT t_sumY v15 v16 v17 v18 hv18) (cwV 3 hts gX9_addFlag_X9_rank rfl rfl rfl (by decide +kernel) ⟨Nat.le_of_ble_eq_true rfl, Nat.le_of_ble_eq_true rfl⟩) hN hK hP hD hS hA [0] [some 0, none, none, none, none] rfl rfl rfl rfl rfl rfl 0 rfl rfl rfl hl.1 rfl (Nat.le_of_ble_eq_true rfl) dX9_addFlag_53 ⟨Nat.zero_le _, Nat.zero_le _⟩ (fun H locs hP hD hS => ?_)
        refine lv_iload hx hb dX9_addFlag_56 (lv_at hl 4 rfl) ?_
        refine lv_icmp_le (tgt := 109) hx hb dX9_addFlag_58 (by decide) (fun hc => ?_) (fun hc => ?_)
        · have hf := o_t hf hc
          exact J109 x2 z3 z4 z5 _ _ _ hf (lv_sub hl [0, 1, 3] rfl) hP hD hS
        · have hf := o_f hf hc
          refine lv_aload_n hx hb dX9_addFlag_61 rfl (lv_at hl 0 rfl) ?_
          refine va_get (D := D) (ci := 9) (C := RX9) (T := TX9) (N := 26) hx hb hts iX9 hown hK hP 0 rfl rfl 12 (by decide) l35 (fun _ h9 => h9) rfl dX9_addFlag_62 ?_
          refine lv_iload_n hx hb dX9_addFlag_65 rfl (lv_at hl 3 rfl) ?_
          refine lv_aload_n hx hb dX9_addFlag_66 rfl (lv_at hl 0 rfl) ?_
          refine va_get (D := D) (ci := 9) (C := RX9) (T := TX9) (N := 26) hx hb hts iX9 hown hK hP 0 rfl rfl 12 (by decide) l35 (fun _ h9 => h9) rfl dX9_addFlag_67 ?_
          refine lv_iload_n hx hb dX9_addFlag_70 rfl (lv_at hl 3 rfl) ?_
          refine lv_iconst (v := 1) hx hb dX9_addFlag_71 (by decide) ?_
          refine lv_isub hx hb dX9_addFlag_72 ?_
          obtain ⟨v19, hv19, hf⟩ := o_b1 hf
          refine x_ald hx hb hK hP 2 rfl hv19 dX9_addFlag_73 ?_
          obtain ⟨u20, hu20, hf⟩ := o_b1 hf
          refine x_ast (W1 := [x_o9 a_t t_p a_t_given t_isLaid t_isGood a_t_c t_points a_t_pointX a_t_pointY a_t_pointZ a_t_pointFlags t_flags a_t_flagPoint a_t_flagU a_t_flagV a_t_flagW a_t_next a_t_series a_t_mix a_t_cofactor t_formX t_formY t_formZ a_t_square t_isNought t_sumT t_sumY, x_ar cI a_t_flagPoint 400 t_flagPoint_r, x_ar cI a_t_flagU 400 u20, x_ar cI a_t_flagV 400 z4, x_ar cI a_t_flagW 400 z5]) hx hb hK hP hD hS 2 rfl hu20 rfl dX9_addFlag_74 (fun H locs hP hD hS => ?_)
          refine lv_aload_n hx hb dX9_addFlag_75 rfl (lv_at hl 0 rfl) ?_
          refine va_get (D := D) (ci := 9) (C := RX9) (T := TX9) (N := 26) hx hb hts iX9 hown hK hP 0 rfl rfl 13 (by decide) l38 (fun _ h9 => h9) rfl dX9_addFlag_76 ?_
          refine lv_iload_n hx hb dX9_addFlag_79 rfl (lv_at hl 3 rfl) ?_
          refine lv_aload_n hx hb dX9_addFlag_80 rfl (lv_at hl 0 rfl) ?_
          refine va_get (D := D) (ci := 9) (C := RX9) (T := TX9) (N := 26) hx hb hts iX9 hown hK hP 0 rfl rfl 13 (by decide) l38 (fun _ h9 => h9) rfl dX9_addFlag_81 ?_
          refine lv_iload_n hx hb dX9_addFlag_84 rfl (lv_at hl 3 rfl) ?_
          refine lv_iconst (v := 1) hx hb dX9_addFlag_85 (by decide) ?_
          refine lv_isub hx hb dX9_addFlag_86 ?_
          obtain ⟨v21, hv21, hf⟩ := o_b1 hf
          refine x_ald hx hb hK hP 3 rfl hv21 dX9_addFlag_87 ?_
          obtain ⟨u22, hu22, hf⟩ := o_b1 hf
          refine x_ast (W1 := [x_o9 a_t t_p a_t_given t_isLaid t_isGood a_t_c t_points a_t_pointX a_t_pointY a_t_pointZ a_t_pointFlags t_flags a_t_flagPoint a_t_flagU a_t_flagV a_t_flagW a_t_next a_t_series a_t_mix a_t_cofactor t_formX t_formY t_formZ a_t_square t_isNought t_sumT t_sumY, x_ar cI a_t_flagPoint 400 t_flagPoint_r, x_ar cI a_t_flagU 400 u20, x_ar cI a_t_flagV 400 u22, x_ar cI a_t_flagW 400 z5]) hx hb hK hP hD hS 3 rfl hu22 rfl dX9_addFlag_88 (fun H locs hP hD hS => ?_)
          refine lv_aload_n hx hb dX9_addFlag_89 rfl (lv_at hl 0 rfl) ?_
          refine va_get (D := D) (ci := 9) (C := RX9) (T := TX9) (N := 26) hx hb hts iX9 hown hK hP 0 rfl rfl 14 (by decide) l41 (fun _ h9 => h9) rfl dX9_addFlag_90 ?_
          refine lv_iload_n hx hb dX9_addFlag_93 rfl (lv_at hl 3 rfl) ?_
          refine lv_aload_n hx hb dX9_addFlag_94 rfl (lv_at hl 0 rfl) ?_
          refine va_get (D := D) (ci := 9) (C := RX9) (T := TX9) (N := 26) hx hb hts iX9 hown hK hP 0 rfl rfl 14 (by decide) l41 (fun _ h9 => h9) rfl dX9_addFlag_95 ?_
          refine lv_iload_n hx hb dX9_addFlag_98 rfl (lv_at hl 3 rfl) ?_
          refine lv_iconst (v := 1) hx hb dX9_addFlag_99 (by decide) ?_
          refine lv_isub hx hb dX9_addFlag_100 ?_
          obtain ⟨v23, hv23, hf⟩ := o_b1 hf
          refine x_ald hx hb hK hP 4 rfl hv23 dX9_addFlag_101 ?_
          obtain ⟨u24, hu24, hf⟩ := o_b1 hf
          refine x_ast (W1 := [x_o9 a_t t_p a_t_given t_isLaid t_isGood a_t_c t_points a_t_pointX a_t_pointY a_t_pointZ a_t_pointFlags t_flags a_t_flagPoint a_t_flagU a_t_flagV a_t_flagW a_t_next a_t_series a_t_mix a_t_cofactor t_formX t_formY t_formZ a_t_square t_isNought t_sumT t_sumY, x_ar cI a_t_flagPoint 400 t_flagPoint_r, x_ar cI a_t_flagU 400 u20, x_ar cI a_t_flagV 400 u22, x_ar cI a_t_flagW 400 u24]) hx hb hK hP hD hS 4 rfl hu24 rfl dX9_addFlag_102 (fun H locs hP hD hS => ?_)
          obtain ⟨v25, ev25, hf⟩ := o_nm hf
          refine lv_iinc (v := v25) (lv' := [(3, .int v25), (0, .ref a_t), (1, .int i1), (2, .int i2), (4, .int v1)]) hx hb dX9_addFlag_103 hl (k := 3) rfl (by rw [ev25]; rfl) (by decide) rfl (fun ls hl => ?_)
          refine lv_goto (tgt := 23) hx hb dX9_addFlag_106 (by decide) ?_
          exact ih23 v25 u20 u22 u24 _ _ _ hf (lv_sub hl [1, 2, 3, 0, 4] rfl) hP hD hS
  exact L23 p_FU t_flags t_flagU_r t_flagV_r t_flagW_r _ _ _ hf (lv_sub hl [2, 3, 4, 1, 0] rfl) hP hD hS
noncomputable def jX9_form_17 (t_p : Int32) (i1 : Int32) (i2 : Int32) (i3 : Int32) (y1 : Int32) : Option (Int32 × Int32 × Int32) :=
  p_b1 (fX9_by t_p i1 y1) (fun v2 =>
p_b1 (fX9_by t_p i2 y1) (fun v3 =>
p_b1 (fX9_by t_p i3 y1) (fun v4 =>
some (v2, v3, v4))))
noncomputable def fX9_form (t_formX : Int32) (t_formY : Int32) (t_formZ : Int32) (t_p : Int32) (i1 : Int32) (i2 : Int32) (i3 : Int32) : Option (Int32 × Int32 × Int32) :=
  if i3 = 0 then (if i2 = 0 then (jX9_form_17 t_p i1 i2 i3 i1) else (jX9_form_17 t_p i1 i2 i3 i2)) else (jX9_form_17 t_p i1 i2 i3 i3)
def rmX9_form : Room := { frames := 2, cells := 0, slots := 0, locals := 47 }
set_option maxHeartbeats 4000000 in
set_option maxRecDepth 100000 in
theorem tX9_form (l : Launch) (D : va_G) (cI : ClassId) (a_t : Nat) (a_t_given : Nat) (a_t_c : Nat) (a_t_pointX : Nat) (a_t_pointY : Nat) (a_t_pointZ : Nat) (a_t_pointFlags : Nat) (a_t_flagPoint : Nat) (a_t_flagU : Nat) (a_t_flagV : Nat) (a_t_flagW : Nat) (a_t_next : Nat) (a_t_series : Nat) (a_t_mix : Nat) (a_t_cofactor : Nat) (a_t_square : Nat) (t_p : Int32) (t_isLaid : Int32) (t_isGood : Int32) (t_points : Int32) (t_flags : Int32) (t_formX : Int32) (t_formY : Int32) (t_formZ : Int32) (t_isNought : Int32) (t_sumT : Int32) (t_sumY : Int32) (i1 : Int32) (i2 : Int32) (i3 : Int32) (s_t_formX : Int32) (s_t_formY : Int32) (s_t_formZ : Int32) (hf : fX9_form t_formX t_formY t_formZ t_p i1 i2 i3 = some (s_t_formX, s_t_formY, s_t_formZ)) : x_CV l D cI yX9_form wsX9_form rmX9_form [.ref a_t, .int i1, .int i2, .int i3] [x_o9 a_t t_p a_t_given t_isLaid t_isGood a_t_c t_points a_t_pointX a_t_pointY a_t_pointZ a_t_pointFlags t_flags a_t_flagPoint a_t_flagU a_t_flagV a_t_flagW a_t_next a_t_series a_t_mix a_t_cofactor t_formX t_formY t_formZ a_t_square t_isNought t_sumT t_sumY] [x_o9 a_t t_p a_t_given t_isLaid t_isGood a_t_c t_points a_t_pointX a_t_pointY a_t_pointZ a_t_pointFlags t_flags a_t_flagPoint a_t_flagU a_t_flagV a_t_flagW a_t_next a_t_series a_t_mix a_t_cofactor s_t_formX s_t_formY s_t_formZ a_t_square t_isNought t_sumT t_sumY] := by
  refine x_CV_of (cc := cX9_form) (maxL := 5) (own := RX9) (lv0 := [(0, .ref a_t), (1, .int i1), (2, .int i2), (3, .int i3)]) (by decide) rfl rfl (Nat.le_of_ble_eq_true rfl) rfl ?_
  intro p e s m args below meth c A Q ls hx hb hml hown hts hN hK hP hD hS hA hl hret
  have iX9 : ∀ w ∈ u_ws RX9 TX9 26, w ∈ wsX9_form := by decide +kernel
  have l124 := hts (.fieldLink RX9 124 "ChordRingsModel" "formX" "I") (by decide +kernel)
  have l127 := hts (.fieldLink RX9 127 "ChordRingsModel" "formY" "I") (by decide +kernel)
  have l130 := hts (.fieldLink RX9 130 "ChordRingsModel" "formZ" "I") (by decide +kernel)
  unfold fX9_form at hf
  refine lv_iload_n hx hb dX9_form_0 rfl (lv_at hl 3 rfl) ?_
  have J17 : ∀ (y1 : Int32) (ls : Array Slot) (H : Heap) (locs : List Loc), jX9_form_17 t_p i1 i2 i3 y1 = some (s_t_formX, s_t_formY, s_t_formZ) → lv_has ls 5 [(0, .ref a_t), (1, .int i1), (2, .int i2), (3, .int i3)] → va_P D vwCl [x_o9 a_t t_p a_t_given t_isLaid t_isGood a_t_c t_points a_t_pointX a_t_pointY a_t_pointZ a_t_pointFlags t_flags a_t_flagPoint a_t_flagU a_t_flagV a_t_flagW a_t_next a_t_series a_t_mix a_t_cofactor t_formX t_formY t_formZ a_t_square t_isNought t_sumT t_sumY] H → va_D A [x_o9 a_t t_p a_t_given t_isLaid t_isGood a_t_c t_points a_t_pointX a_t_pointY a_t_pointZ a_t_pointFlags t_flags a_t_flagPoint a_t_flagU a_t_flagV a_t_flagW a_t_next a_t_series a_t_mix a_t_cofactor t_formX t_formY t_formZ a_t_square t_isNought t_sumT t_sumY] → va_S A s.heap H locs → W p l e rmX9_form s m args below meth c H locs 0 0 Q (F0 m 17 ls [.int y1]) := by
    intro y1 ls H locs hf hl hP hD hS
    unfold jX9_form_17 at hf
    refine lv_istore (lv' := [(4, .int y1), (0, .ref a_t), (1, .int i1), (2, .int i2), (3, .int i3)]) hx hb dX9_form_17 hl (by decide) rfl (fun ls hl => ?_)
    refine lv_aload_n hx hb dX9_form_19 rfl (lv_at hl 1 rfl) ?_
    refine lv_aload_n hx hb dX9_form_20 rfl (lv_at hl 1 rfl) ?_
    refine lv_iload_n hx hb dX9_form_21 rfl (lv_at hl 2 rfl) ?_
    refine lv_iload hx hb dX9_form_22 (lv_at hl 0 rfl) ?_
    obtain ⟨v2, hv2, hf⟩ := o_b1 hf
    refine x_vi (rest := [.ref a_t]) (W1 := [x_o9 a_t t_p a_t_given t_isLaid t_isGood a_t_c t_points a_t_pointX a_t_pointY a_t_pointZ a_t_pointFlags t_flags a_t_flagPoint a_t_flagU a_t_flagV a_t_flagW a_t_next a_t_series a_t_mix a_t_cofactor t_formX t_formY t_formZ a_t_square t_isNought t_sumT t_sumY]) ⟨hx, hb, hml, hown, hts⟩ (tX9_by l D cI a_t a_t_given a_t_c a_t_pointX a_t_pointY a_t_pointZ a_t_pointFlags a_t_flagPoint a_t_flagU a_t_flagV a_t_flagW a_t_next a_t_series a_t_mix a_t_cofactor a_t_square t_p t_isLaid t_isGood t_points t_flags t_formX t_formY t_formZ t_isNought t_sumT t_sumY i1 y1 v2 hv2) (cwV 2 hts gX9_form_X9_by rfl rfl rfl (by decide +kernel) ⟨Nat.le_of_ble_eq_true rfl, Nat.le_of_ble_eq_true rfl⟩) hN hK hP hD hS hA [0] [some 0] rfl rfl rfl rfl rfl rfl 0 rfl rfl rfl hl.1 rfl (Nat.le_of_ble_eq_true rfl) dX9_form_24 ⟨Nat.zero_le _, Nat.zero_le _⟩ (fun H locs hP hD hS => ?_)
    refine x_put (W1 := [x_o9 a_t t_p a_t_given t_isLaid t_isGood a_t_c t_points a_t_pointX a_t_pointY a_t_pointZ a_t_pointFlags t_flags a_t_flagPoint a_t_flagU a_t_flagV a_t_flagW a_t_next a_t_series a_t_mix a_t_cofactor v2 t_formY t_formZ a_t_square t_isNought t_sumT t_sumY]) (ty := .int) (C := RX9) (T := TX9) (N := 26) hx hb hts iX9 tyX9 tyX9_ok nmX9 hown hK hP hD hS 0 rfl rfl 19 (by decide) l124 rfl rfl (by decide +kernel) rfl rfl (Nat.le_of_ble_eq_true rfl) rfl dX9_form_27 (fun H locs hP hD hS => ?_)
    refine lv_aload_n hx hb dX9_form_30 rfl (lv_at hl 1 rfl) ?_
    refine lv_aload_n hx hb dX9_form_31 rfl (lv_at hl 1 rfl) ?_
    refine lv_iload_n hx hb dX9_form_32 rfl (lv_at hl 3 rfl) ?_
    refine lv_iload hx hb dX9_form_33 (lv_at hl 0 rfl) ?_
    obtain ⟨v3, hv3, hf⟩ := o_b1 hf
    refine x_vi (rest := [.ref a_t]) (W1 := [x_o9 a_t t_p a_t_given t_isLaid t_isGood a_t_c t_points a_t_pointX a_t_pointY a_t_pointZ a_t_pointFlags t_flags a_t_flagPoint a_t_flagU a_t_flagV a_t_flagW a_t_next a_t_series a_t_mix a_t_cofactor v2 t_formY t_formZ a_t_square t_isNought t_sumT t_sumY]) ⟨hx, hb, hml, hown, hts⟩ (tX9_by l D cI a_t a_t_given a_t_c a_t_pointX a_t_pointY a_t_pointZ a_t_pointFlags a_t_flagPoint a_t_flagU a_t_flagV a_t_flagW a_t_next a_t_series a_t_mix a_t_cofactor a_t_square t_p t_isLaid t_isGood t_points t_flags v2 t_formY t_formZ t_isNought t_sumT t_sumY i2 y1 v3 hv3) (cwV 2 hts gX9_form_X9_by rfl rfl rfl (by decide +kernel) ⟨Nat.le_of_ble_eq_true rfl, Nat.le_of_ble_eq_true rfl⟩) hN hK hP hD hS hA [0] [some 0] rfl rfl rfl rfl rfl rfl 0 rfl rfl rfl hl.1 rfl (Nat.le_of_ble_eq_true rfl) dX9_form_35 ⟨Nat.zero_le _, Nat.zero_le _⟩ (fun H locs hP hD hS => ?_)
    refine x_put (W1 := [x_o9 a_t t_p a_t_given t_isLaid t_isGood a_t_c t_points a_t_pointX a_t_pointY a_t_pointZ a_t_pointFlags t_flags a_t_flagPoint a_t_flagU a_t_flagV a_t_flagW a_t_next a_t_series a_t_mix a_t_cofactor v2 v3 t_formZ a_t_square t_isNought t_sumT t_sumY]) (ty := .int) (C := RX9) (T := TX9) (N := 26) hx hb hts iX9 tyX9 tyX9_ok nmX9 hown hK hP hD hS 0 rfl rfl 20 (by decide) l127 rfl rfl (by decide +kernel) rfl rfl (Nat.le_of_ble_eq_true rfl) rfl dX9_form_38 (fun H locs hP hD hS => ?_)
    refine lv_aload_n hx hb dX9_form_41 rfl (lv_at hl 1 rfl) ?_
    refine lv_aload_n hx hb dX9_form_42 rfl (lv_at hl 1 rfl) ?_
    refine lv_iload_n hx hb dX9_form_43 rfl (lv_at hl 4 rfl) ?_
    refine lv_iload hx hb dX9_form_44 (lv_at hl 0 rfl) ?_
    obtain ⟨v4, hv4, hf⟩ := o_b1 hf
    refine x_vi (rest := [.ref a_t]) (W1 := [x_o9 a_t t_p a_t_given t_isLaid t_isGood a_t_c t_points a_t_pointX a_t_pointY a_t_pointZ a_t_pointFlags t_flags a_t_flagPoint a_t_flagU a_t_flagV a_t_flagW a_t_next a_t_series a_t_mix a_t_cofactor v2 v3 t_formZ a_t_square t_isNought t_sumT t_sumY]) ⟨hx, hb, hml, hown, hts⟩ (tX9_by l D cI a_t a_t_given a_t_c a_t_pointX a_t_pointY a_t_pointZ a_t_pointFlags a_t_flagPoint a_t_flagU a_t_flagV a_t_flagW a_t_next a_t_series a_t_mix a_t_cofactor a_t_square t_p t_isLaid t_isGood t_points t_flags v2 v3 t_formZ t_isNought t_sumT t_sumY i3 y1 v4 hv4) (cwV 2 hts gX9_form_X9_by rfl rfl rfl (by decide +kernel) ⟨Nat.le_of_ble_eq_true rfl, Nat.le_of_ble_eq_true rfl⟩) hN hK hP hD hS hA [0] [some 0] rfl rfl rfl rfl rfl rfl 0 rfl rfl rfl hl.1 rfl (Nat.le_of_ble_eq_true rfl) dX9_form_46 ⟨Nat.zero_le _, Nat.zero_le _⟩ (fun H locs hP hD hS => ?_)
    refine x_put (W1 := [x_o9 a_t t_p a_t_given t_isLaid t_isGood a_t_c t_points a_t_pointX a_t_pointY a_t_pointZ a_t_pointFlags t_flags a_t_flagPoint a_t_flagU a_t_flagV a_t_flagW a_t_next a_t_series a_t_mix a_t_cofactor v2 v3 v4 a_t_square t_isNought t_sumT t_sumY]) (ty := .int) (C := RX9) (T := TX9) (N := 26) hx hb hts iX9 tyX9 tyX9_ok nmX9 hown hK hP hD hS 0 rfl rfl 21 (by decide) l130 rfl rfl (by decide +kernel) rfl rfl (Nat.le_of_ble_eq_true rfl) rfl dX9_form_49 (fun H locs hP hD hS => ?_)
    obtain ⟨rfl, rfl, rfl⟩ := o_s3 hf
    exact hret dX9_form_52 hP hD hS
  refine lv_if_eq (tgt := 8) hx hb dX9_form_1 (by decide) (fun hc => ?_) (fun hc => ?_)
  · have hf := o_t hf hc
    refine lv_iload_n hx hb dX9_form_8 rfl (lv_at hl 2 rfl) ?_
    refine lv_if_eq (tgt := 16) hx hb dX9_form_9 (by decide) (fun hc => ?_) (fun hc => ?_)
    · have hf := o_t hf hc
      refine lv_iload_n hx hb dX9_form_16 rfl (lv_at hl 1 rfl) ?_
      exact J17 i1 _ _ _ hf (lv_sub hl [0, 1, 2, 3] rfl) hP hD hS
    · have hf := o_f hf hc
      refine lv_iload_n hx hb dX9_form_12 rfl (lv_at hl 2 rfl) ?_
      refine lv_goto (tgt := 17) hx hb dX9_form_13 (by decide) ?_
      exact J17 i2 _ _ _ hf (lv_sub hl [0, 1, 2, 3] rfl) hP hD hS
  · have hf := o_f hf hc
    refine lv_iload_n hx hb dX9_form_4 rfl (lv_at hl 3 rfl) ?_
    refine lv_goto (tgt := 17) hx hb dX9_form_5 (by decide) ?_
    exact J17 i3 _ _ _ hf (lv_sub hl [0, 1, 2, 3] rfl) hP hD hS
noncomputable def kX9_layFlags_274 (u1 : (Nat → Int32)) (y12 : Int32) (y13 : Int32) (y14 : Int32) (y15 : Int32) (w16 : (Nat → Int32)) (w17 : (Nat → Int32)) (w18 : (Nat → Int32)) (w19 : (Nat → Int32)) (w20 : (Nat → Int32)) : Option (Int32 × Int32 × Int32 × Int32 × (Nat → Int32) × (Nat → Int32) × (Nat → Int32) × (Nat → Int32) × (Nat → Int32) × (Nat → Int32)) :=
  some (y12, y13, y14, y15, u1, w16, w17, w18, w19, w20)
noncomputable def kX9_layFlags_255 (x2 : Int32) (x3 : Int32) (z11 : (Nat → Int32)) (rec17 : Int32 → Int32 → Int32 → Int32 → Int32 → (Nat → Int32) → (Nat → Int32) → (Nat → Int32) → (Nat → Int32) → (Nat → Int32) → Option (Int32 × Int32 × Int32 × Int32 × (Nat → Int32) × (Nat → Int32) × (Nat → Int32) × (Nat → Int32) × (Nat → Int32) × (Nat → Int32))) (y37 : Int32) (y38 : Int32) (y39 : Int32) (y40 : Int32) (w41 : (Nat → Int32)) (w42 : (Nat → Int32)) (w43 : (Nat → Int32)) (w44 : (Nat → Int32)) : Option (Int32 × Int32 × Int32 × Int32 × (Nat → Int32) × (Nat → Int32) × (Nat → Int32) × (Nat → Int32) × (Nat → Int32) × (Nat → Int32)) :=
  p_b1 (p_st z11 200 x2 (y37 - x3)) (fun u45 =>
p_nm (x2 + 1) (fun v46 =>
rec17 v46 y37 y38 y39 y40 w41 w42 w43 w44 u45))
noncomputable def jX9_layFlags_249 (x28 : Int32) (rec127 : Int32 → Int32 → Int32 → Int32 → Int32 → (Nat → Int32) → (Nat → Int32) → (Nat → Int32) → (Nat → Int32) → Option (Int32 × Int32 × Int32 × Int32 × (Nat → Int32) × (Nat → Int32) × (Nat → Int32) × (Nat → Int32) × (Nat → Int32) × (Nat → Int32))) (v52 : Int32) (v53 : Int32) (v54 : Int32) (y56 : Int32) (w57 : (Nat → Int32)) (w58 : (Nat → Int32)) (w59 : (Nat → Int32)) (w60 : (Nat → Int32)) : Option (Int32 × Int32 × Int32 × Int32 × (Nat → Int32) × (Nat → Int32) × (Nat → Int32) × (Nat → Int32) × (Nat → Int32) × (Nat → Int32)) :=
  p_nm (x28 + 1) (fun v61 =>
rec127 v61 y56 v52 v53 v54 w57 w58 w59 w60)
noncomputable def jX9_layFlags_167 (t_p : Int32) (u1 : (Nat → Int32)) (x2 : Int32) (x3 : Int32) (v23 : Int32) (y24 : Int32) (y25 : Int32) (y26 : Int32) (y27 : Int32) (x28 : Int32) (x29 : Int32) (x30 : Int32) (x31 : Int32) (x32 : Int32) (z33 : (Nat → Int32)) (z34 : (Nat → Int32)) (z35 : (Nat → Int32)) (z36 : (Nat → Int32)) (rec127 : Int32 → Int32 → Int32 → Int32 → Int32 → (Nat → Int32) → (Nat → Int32) → (Nat → Int32) → (Nat → Int32) → Option (Int32 × Int32 × Int32 × Int32 × (Nat → Int32) × (Nat → Int32) × (Nat → Int32) × (Nat → Int32) × (Nat → Int32) × (Nat → Int32))) (y47 : Int32) (y48 : Int32) : Option (Int32 × Int32 × Int32 × Int32 × (Nat → Int32) × (Nat → Int32) × (Nat → Int32) × (Nat → Int32) × (Nat → Int32) × (Nat → Int32)) :=
  p_b1 (fX9_of t_p ((y47 * v23) + (y48 * y25))) (fun v49 =>
p_b1 (fX9_of t_p ((y47 * 0) + (y48 * y26))) (fun v50 =>
p_b1 (fX9_of t_p ((y47 * y24) + (y48 * y27))) (fun v51 =>
p_b3 (fX9_form x30 x31 x32 t_p v49 v50 v51) (fun v52 v53 v54 =>
p_b1 (fX9_both 6 t_p u1 0 v52 v53 v54) (fun v55 =>
if v55 = 0 then (p_b5 (fX9_addFlag x29 v52 v53 v54 t_p z33 z34 z35 z36 x2 x3) (fun v62 u63 u64 u65 u66 =>
jX9_layFlags_249 x28 rec127 v52 v53 v54 v62 u63 u64 u65 u66)) else (jX9_layFlags_249 x28 rec127 v52 v53 v54 x29 z33 z34 z35 z36))))))
noncomputable def jX9_layFlags_151 (t_p : Int32) (u1 : (Nat → Int32)) (x2 : Int32) (x3 : Int32) (v23 : Int32) (y24 : Int32) (y25 : Int32) (y26 : Int32) (y27 : Int32) (x28 : Int32) (x29 : Int32) (x30 : Int32) (x31 : Int32) (x32 : Int32) (z33 : (Nat → Int32)) (z34 : (Nat → Int32)) (z35 : (Nat → Int32)) (z36 : (Nat → Int32)) (rec127 : Int32 → Int32 → Int32 → Int32 → Int32 → (Nat → Int32) → (Nat → Int32) → (Nat → Int32) → (Nat → Int32) → Option (Int32 × Int32 × Int32 × Int32 × (Nat → Int32) × (Nat → Int32) × (Nat → Int32) × (Nat → Int32) × (Nat → Int32) × (Nat → Int32))) (y47 : Int32) : Option (Int32 × Int32 × Int32 × Int32 × (Nat → Int32) × (Nat → Int32) × (Nat → Int32) × (Nat → Int32) × (Nat → Int32) × (Nat → Int32)) :=
  if t_p ≤ x28 then (jX9_layFlags_167 t_p u1 x2 x3 v23 y24 y25 y26 y27 x28 x29 x30 x31 x32 z33 z34 z35 z36 rec127 y47 0) else (jX9_layFlags_167 t_p u1 x2 x3 v23 y24 y25 y26 y27 x28 x29 x30 x31 x32 z33 z34 z35 z36 rec127 y47 1)
noncomputable def FgX9_layFlags_127 (t_p : Int32) (u1 : (Nat → Int32)) (x2 : Int32) (x3 : Int32) (v23 : Int32) (y24 : Int32) (y25 : Int32) (y26 : Int32) (y27 : Int32) (rec127 : Int32 → Int32 → Int32 → Int32 → Int32 → (Nat → Int32) → (Nat → Int32) → (Nat → Int32) → (Nat → Int32) → Option (Int32 × Int32 × Int32 × Int32 × (Nat → Int32) × (Nat → Int32) × (Nat → Int32) × (Nat → Int32) × (Nat → Int32) × (Nat → Int32))) (kk127 : Int32 → Int32 → Int32 → Int32 → (Nat → Int32) → (Nat → Int32) → (Nat → Int32) → (Nat → Int32) → Option (Int32 × Int32 × Int32 × Int32 × (Nat → Int32) × (Nat → Int32) × (Nat → Int32) × (Nat → Int32) × (Nat → Int32) × (Nat → Int32))) (x28 : Int32) (x29 : Int32) (x30 : Int32) (x31 : Int32) (x32 : Int32) (z33 : (Nat → Int32)) (z34 : (Nat → Int32)) (z35 : (Nat → Int32)) (z36 : (Nat → Int32)) : Option (Int32 × Int32 × Int32 × Int32 × (Nat → Int32) × (Nat → Int32) × (Nat → Int32) × (Nat → Int32) × (Nat → Int32) × (Nat → Int32)) :=
  if t_p < x28 then (kk127 x29 x30 x31 x32 z33 z34 z35 z36) else (if t_p ≤ x28 then (jX9_layFlags_151 t_p u1 x2 x3 v23 y24 y25 y26 y27 x28 x29 x30 x31 x32 z33 z34 z35 z36 rec127 1) else (jX9_layFlags_151 t_p u1 x2 x3 v23 y24 y25 y26 y27 x28 x29 x30 x31 x32 z33 z34 z35 z36 rec127 x28))
noncomputable def gX9_layFlags_127 (t_p : Int32) (u1 : (Nat → Int32)) (x2 : Int32) (x3 : Int32) (v23 : Int32) (y24 : Int32) (y25 : Int32) (y26 : Int32) (y27 : Int32) (kk127 : Int32 → Int32 → Int32 → Int32 → (Nat → Int32) → (Nat → Int32) → (Nat → Int32) → (Nat → Int32) → Option (Int32 × Int32 × Int32 × Int32 × (Nat → Int32) × (Nat → Int32) × (Nat → Int32) × (Nat → Int32) × (Nat → Int32) × (Nat → Int32))) (n : Nat) : Int32 → Int32 → Int32 → Int32 → Int32 → (Nat → Int32) → (Nat → Int32) → (Nat → Int32) → (Nat → Int32) → Option (Int32 × Int32 × Int32 × Int32 × (Nat → Int32) × (Nat → Int32) × (Nat → Int32) × (Nat → Int32) × (Nat → Int32) × (Nat → Int32)) := Nat.rec (motive := fun _ => Int32 → Int32 → Int32 → Int32 → Int32 → (Nat → Int32) → (Nat → Int32) → (Nat → Int32) → (Nat → Int32) → Option (Int32 × Int32 × Int32 × Int32 × (Nat → Int32) × (Nat → Int32) × (Nat → Int32) × (Nat → Int32) × (Nat → Int32) × (Nat → Int32))) (fun _ _ _ _ _ _ _ _ _ => none) (fun _ rec127 => FgX9_layFlags_127 t_p u1 x2 x3 v23 y24 y25 y26 y27 rec127 kk127) n
noncomputable def jX9_layFlags_122 (t_p : Int32) (u1 : (Nat → Int32)) (x2 : Int32) (x3 : Int32) (x4 : Int32) (x5 : Int32) (x6 : Int32) (z7 : (Nat → Int32)) (z8 : (Nat → Int32)) (z9 : (Nat → Int32)) (z10 : (Nat → Int32)) (z11 : (Nat → Int32)) (rec17 : Int32 → Int32 → Int32 → Int32 → Int32 → (Nat → Int32) → (Nat → Int32) → (Nat → Int32) → (Nat → Int32) → (Nat → Int32) → Option (Int32 × Int32 × Int32 × Int32 × (Nat → Int32) × (Nat → Int32) × (Nat → Int32) × (Nat → Int32) × (Nat → Int32) × (Nat → Int32))) (v23 : Int32) (y24 : Int32) (y25 : Int32) (y26 : Int32) (y27 : Int32) : Option (Int32 × Int32 × Int32 × Int32 × (Nat → Int32) × (Nat → Int32) × (Nat → Int32) × (Nat → Int32) × (Nat → Int32) × (Nat → Int32)) :=
  gX9_layFlags_127 t_p u1 x2 x3 v23 y24 y25 y26 y27 (kX9_layFlags_255 x2 x3 z11 rec17) p_FU 0 x3 x4 x5 x6 z7 z8 z9 z10
noncomputable def jX9_layFlags_105 (t_p : Int32) (u1 : (Nat → Int32)) (x2 : Int32) (x3 : Int32) (x4 : Int32) (x5 : Int32) (x6 : Int32) (z7 : (Nat → Int32)) (z8 : (Nat → Int32)) (z9 : (Nat → Int32)) (z10 : (Nat → Int32)) (z11 : (Nat → Int32)) (rec17 : Int32 → Int32 → Int32 → Int32 → Int32 → (Nat → Int32) → (Nat → Int32) → (Nat → Int32) → (Nat → Int32) → (Nat → Int32) → Option (Int32 × Int32 × Int32 × Int32 × (Nat → Int32) × (Nat → Int32) × (Nat → Int32) × (Nat → Int32) × (Nat → Int32) × (Nat → Int32))) (v22 : Int32) (v23 : Int32) (y24 : Int32) (y25 : Int32) (y26 : Int32) : Option (Int32 × Int32 × Int32 × Int32 × (Nat → Int32) × (Nat → Int32) × (Nat → Int32) × (Nat → Int32) × (Nat → Int32) × (Nat → Int32)) :=
  if v23 = 0 then (jX9_layFlags_122 t_p u1 x2 x3 x4 x5 x6 z7 z8 z9 z10 z11 rec17 v23 y24 y25 y26 0) else (p_b1 (fX9_of t_p (-v22)) (fun v67 =>
jX9_layFlags_122 t_p u1 x2 x3 x4 x5 x6 z7 z8 z9 z10 z11 rec17 v23 y24 y25 y26 v67))
noncomputable def jX9_layFlags_87 (t_p : Int32) (u1 : (Nat → Int32)) (x2 : Int32) (x3 : Int32) (x4 : Int32) (x5 : Int32) (x6 : Int32) (z7 : (Nat → Int32)) (z8 : (Nat → Int32)) (z9 : (Nat → Int32)) (z10 : (Nat → Int32)) (z11 : (Nat → Int32)) (rec17 : Int32 → Int32 → Int32 → Int32 → Int32 → (Nat → Int32) → (Nat → Int32) → (Nat → Int32) → (Nat → Int32) → (Nat → Int32) → Option (Int32 × Int32 × Int32 × Int32 × (Nat → Int32) × (Nat → Int32) × (Nat → Int32) × (Nat → Int32) × (Nat → Int32) × (Nat → Int32))) (v21 : Int32) (v22 : Int32) (v23 : Int32) (y24 : Int32) (y25 : Int32) : Option (Int32 × Int32 × Int32 × Int32 × (Nat → Int32) × (Nat → Int32) × (Nat → Int32) × (Nat → Int32) × (Nat → Int32) × (Nat → Int32)) :=
  if v23 = 0 then (p_b1 (fX9_of t_p (-v21)) (fun v68 =>
jX9_layFlags_105 t_p u1 x2 x3 x4 x5 x6 z7 z8 z9 z10 z11 rec17 v22 v23 y24 y25 v68)) else (jX9_layFlags_105 t_p u1 x2 x3 x4 x5 x6 z7 z8 z9 z10 z11 rec17 v22 v23 y24 y25 v23)
noncomputable def jX9_layFlags_75 (t_p : Int32) (u1 : (Nat → Int32)) (x2 : Int32) (x3 : Int32) (x4 : Int32) (x5 : Int32) (x6 : Int32) (z7 : (Nat → Int32)) (z8 : (Nat → Int32)) (z9 : (Nat → Int32)) (z10 : (Nat → Int32)) (z11 : (Nat → Int32)) (rec17 : Int32 → Int32 → Int32 → Int32 → Int32 → (Nat → Int32) → (Nat → Int32) → (Nat → Int32) → (Nat → Int32) → (Nat → Int32) → Option (Int32 × Int32 × Int32 × Int32 × (Nat → Int32) × (Nat → Int32) × (Nat → Int32) × (Nat → Int32) × (Nat → Int32) × (Nat → Int32))) (v21 : Int32) (v22 : Int32) (v23 : Int32) (y24 : Int32) : Option (Int32 × Int32 × Int32 × Int32 × (Nat → Int32) × (Nat → Int32) × (Nat → Int32) × (Nat → Int32) × (Nat → Int32) × (Nat → Int32)) :=
  if v23 = 0 then (jX9_layFlags_87 t_p u1 x2 x3 x4 x5 x6 z7 z8 z9 z10 z11 rec17 v21 v22 v23 y24 v22) else (jX9_layFlags_87 t_p u1 x2 x3 x4 x5 x6 z7 z8 z9 z10 z11 rec17 v21 v22 v23 y24 0)
noncomputable def FgX9_layFlags_17 (t_p : Int32) (t_points : Int32) (t_pointX_r : (Nat → Int32)) (t_pointY_r : (Nat → Int32)) (t_pointZ_r : (Nat → Int32)) (u1 : (Nat → Int32)) (rec17 : Int32 → Int32 → Int32 → Int32 → Int32 → (Nat → Int32) → (Nat → Int32) → (Nat → Int32) → (Nat → Int32) → (Nat → Int32) → Option (Int32 × Int32 × Int32 × Int32 × (Nat → Int32) × (Nat → Int32) × (Nat → Int32) × (Nat → Int32) × (Nat → Int32) × (Nat → Int32))) (kk17 : Int32 → Int32 → Int32 → Int32 → (Nat → Int32) → (Nat → Int32) → (Nat → Int32) → (Nat → Int32) → (Nat → Int32) → Option (Int32 × Int32 × Int32 × Int32 × (Nat → Int32) × (Nat → Int32) × (Nat → Int32) × (Nat → Int32) × (Nat → Int32) × (Nat → Int32))) (x2 : Int32) (x3 : Int32) (x4 : Int32) (x5 : Int32) (x6 : Int32) (z7 : (Nat → Int32)) (z8 : (Nat → Int32)) (z9 : (Nat → Int32)) (z10 : (Nat → Int32)) (z11 : (Nat → Int32)) : Option (Int32 × Int32 × Int32 × Int32 × (Nat → Int32) × (Nat → Int32) × (Nat → Int32) × (Nat → Int32) × (Nat → Int32) × (Nat → Int32)) :=
  if t_points ≤ x2 then (kk17 x3 x4 x5 x6 z7 z8 z9 z10 z11) else (p_b1 (p_ld t_pointX_r 200 x2) (fun v21 =>
p_b1 (p_ld t_pointY_r 200 x2) (fun v22 =>
p_b1 (p_ld t_pointZ_r 200 x2) (fun v23 =>
if v23 = 0 then (jX9_layFlags_75 t_p u1 x2 x3 x4 x5 x6 z7 z8 z9 z10 z11 rec17 v21 v22 v23 1) else (p_b1 (fX9_of t_p (-v21)) (fun v69 =>
jX9_layFlags_75 t_p u1 x2 x3 x4 x5 x6 z7 z8 z9 z10 z11 rec17 v21 v22 v23 v69))))))
noncomputable def gX9_layFlags_17 (t_p : Int32) (t_points : Int32) (t_pointX_r : (Nat → Int32)) (t_pointY_r : (Nat → Int32)) (t_pointZ_r : (Nat → Int32)) (u1 : (Nat → Int32)) (kk17 : Int32 → Int32 → Int32 → Int32 → (Nat → Int32) → (Nat → Int32) → (Nat → Int32) → (Nat → Int32) → (Nat → Int32) → Option (Int32 × Int32 × Int32 × Int32 × (Nat → Int32) × (Nat → Int32) × (Nat → Int32) × (Nat → Int32) × (Nat → Int32) × (Nat → Int32))) (n : Nat) : Int32 → Int32 → Int32 → Int32 → Int32 → (Nat → Int32) → (Nat → Int32) → (Nat → Int32) → (Nat → Int32) → (Nat → Int32) → Option (Int32 × Int32 × Int32 × Int32 × (Nat → Int32) × (Nat → Int32) × (Nat → Int32) × (Nat → Int32) × (Nat → Int32) × (Nat → Int32)) := Nat.rec (motive := fun _ => Int32 → Int32 → Int32 → Int32 → Int32 → (Nat → Int32) → (Nat → Int32) → (Nat → Int32) → (Nat → Int32) → (Nat → Int32) → Option (Int32 × Int32 × Int32 × Int32 × (Nat → Int32) × (Nat → Int32) × (Nat → Int32) × (Nat → Int32) × (Nat → Int32) × (Nat → Int32))) (fun _ _ _ _ _ _ _ _ _ _ => none) (fun _ rec17 => FgX9_layFlags_17 t_p t_points t_pointX_r t_pointY_r t_pointZ_r u1 rec17 kk17) n
noncomputable def fX9_layFlags (t_flags : Int32) (t_formX : Int32) (t_formY : Int32) (t_formZ : Int32) (t_p : Int32) (t_points : Int32) (t_cofactor_r : (Nat → Int32)) (t_flagPoint_r : (Nat → Int32)) (t_flagU_r : (Nat → Int32)) (t_flagV_r : (Nat → Int32)) (t_flagW_r : (Nat → Int32)) (t_given_r : (Nat → Int32)) (t_pointFlags_r : (Nat → Int32)) (t_pointX_r : (Nat → Int32)) (t_pointY_r : (Nat → Int32)) (t_pointZ_r : (Nat → Int32)) : Option (Int32 × Int32 × Int32 × Int32 × (Nat → Int32) × (Nat → Int32) × (Nat → Int32) × (Nat → Int32) × (Nat → Int32) × (Nat → Int32)) :=
  p_b1 (fX9_cofactorOf 12 t_p t_given_r t_cofactor_r 6) (fun u1 =>
gX9_layFlags_17 t_p t_points t_pointX_r t_pointY_r t_pointZ_r u1 (kX9_layFlags_274 u1) p_FU 0 0 t_formX t_formY t_formZ t_flagPoint_r t_flagU_r t_flagV_r t_flagW_r t_pointFlags_r)
def rmX9_layFlags : Room := { frames := 3, cells := 0, slots := 0, locals := 71 }
set_option maxHeartbeats 4000000 in
set_option maxRecDepth 100000 in
theorem tX9_layFlags (l : Launch) (D : va_G) (cI : ClassId) (a_t : Nat) (a_t_given : Nat) (a_t_c : Nat) (a_t_pointX : Nat) (a_t_pointY : Nat) (a_t_pointZ : Nat) (a_t_pointFlags : Nat) (a_t_flagPoint : Nat) (a_t_flagU : Nat) (a_t_flagV : Nat) (a_t_flagW : Nat) (a_t_next : Nat) (a_t_series : Nat) (a_t_mix : Nat) (a_t_cofactor : Nat) (a_t_square : Nat) (t_p : Int32) (t_isLaid : Int32) (t_isGood : Int32) (t_points : Int32) (t_flags : Int32) (t_formX : Int32) (t_formY : Int32) (t_formZ : Int32) (t_isNought : Int32) (t_sumT : Int32) (t_sumY : Int32) (t_cofactor_r : (Nat → Int32)) (t_flagPoint_r : (Nat → Int32)) (t_flagU_r : (Nat → Int32)) (t_flagV_r : (Nat → Int32)) (t_flagW_r : (Nat → Int32)) (t_given_r : (Nat → Int32)) (t_pointFlags_r : (Nat → Int32)) (t_pointX_r : (Nat → Int32)) (t_pointY_r : (Nat → Int32)) (t_pointZ_r : (Nat → Int32)) (s_t_flags : Int32) (s_t_formX : Int32) (s_t_formY : Int32) (s_t_formZ : Int32) (s_t_cofactor_r : (Nat → Int32)) (s_t_flagPoint_r : (Nat → Int32)) (s_t_flagU_r : (Nat → Int32)) (s_t_flagV_r : (Nat → Int32)) (s_t_flagW_r : (Nat → Int32)) (s_t_pointFlags_r : (Nat → Int32)) (hf : fX9_layFlags t_flags t_formX t_formY t_formZ t_p t_points t_cofactor_r t_flagPoint_r t_flagU_r t_flagV_r t_flagW_r t_given_r t_pointFlags_r t_pointX_r t_pointY_r t_pointZ_r = some (s_t_flags, s_t_formX, s_t_formY, s_t_formZ, s_t_cofactor_r, s_t_flagPoint_r, s_t_flagU_r, s_t_flagV_r, s_t_flagW_r, s_t_pointFlags_r)) : x_CV l D cI yX9_layFlags wsX9_layFlags rmX9_layFlags [.ref a_t] [x_o9 a_t t_p a_t_given t_isLaid t_isGood a_t_c t_points a_t_pointX a_t_pointY a_t_pointZ a_t_pointFlags t_flags a_t_flagPoint a_t_flagU a_t_flagV a_t_flagW a_t_next a_t_series a_t_mix a_t_cofactor t_formX t_formY t_formZ a_t_square t_isNought t_sumT t_sumY, x_ar cI a_t_cofactor 6 t_cofactor_r, x_ar cI a_t_flagPoint 400 t_flagPoint_r, x_ar cI a_t_flagU 400 t_flagU_r, x_ar cI a_t_flagV 400 t_flagV_r, x_ar cI a_t_flagW 400 t_flagW_r, x_ar cI a_t_given 12 t_given_r, x_ar cI a_t_pointFlags 200 t_pointFlags_r, x_ar cI a_t_pointX 200 t_pointX_r, x_ar cI a_t_pointY 200 t_pointY_r, x_ar cI a_t_pointZ 200 t_pointZ_r] [x_o9 a_t t_p a_t_given t_isLaid t_isGood a_t_c t_points a_t_pointX a_t_pointY a_t_pointZ a_t_pointFlags s_t_flags a_t_flagPoint a_t_flagU a_t_flagV a_t_flagW a_t_next a_t_series a_t_mix a_t_cofactor s_t_formX s_t_formY s_t_formZ a_t_square t_isNought t_sumT t_sumY, x_ar cI a_t_cofactor 6 s_t_cofactor_r, x_ar cI a_t_flagPoint 400 s_t_flagPoint_r, x_ar cI a_t_flagU 400 s_t_flagU_r, x_ar cI a_t_flagV 400 s_t_flagV_r, x_ar cI a_t_flagW 400 s_t_flagW_r, x_ar cI a_t_given 12 t_given_r, x_ar cI a_t_pointFlags 200 s_t_pointFlags_r, x_ar cI a_t_pointX 200 t_pointX_r, x_ar cI a_t_pointY 200 t_pointY_r, x_ar cI a_t_pointZ 200 t_pointZ_r] := by
  refine x_CV_of (cc := cX9_layFlags) (maxL := 15) (own := RX9) (lv0 := [(0, .ref a_t)]) (by decide) rfl rfl (Nat.le_of_ble_eq_true rfl) rfl ?_
  intro p e s m args below meth c A Q ls hx hb hml hown hts hN hK hP hD hS hA hl hret
  have iX9 : ∀ w ∈ u_ws RX9 TX9 26, w ∈ wsX9_layFlags := by decide +kernel
  have l13 := hts (.fieldLink RX9 13 "ChordRingsModel" "given" "[I") (by decide +kernel)
  have l140 := hts (.fieldLink RX9 140 "ChordRingsModel" "flags" "I") (by decide +kernel)
  have l137 := hts (.fieldLink RX9 137 "ChordRingsModel" "points" "I") (by decide +kernel)
  have l20 := hts (.fieldLink RX9 20 "ChordRingsModel" "pointX" "[I") (by decide +kernel)
  have l23 := hts (.fieldLink RX9 23 "ChordRingsModel" "pointY" "[I") (by decide +kernel)
  have l26 := hts (.fieldLink RX9 26 "ChordRingsModel" "pointZ" "[I") (by decide +kernel)
  have l7 := hts (.fieldLink RX9 7 "ChordRingsModel" "p" "I") (by decide +kernel)
  have l29 := hts (.fieldLink RX9 29 "ChordRingsModel" "pointFlags" "[I") (by decide +kernel)
  have l53 := hts (.fieldLink RX9 53 "ChordRingsModel" "cofactor" "[I") (by decide +kernel)
  have l124 := hts (.fieldLink RX9 124 "ChordRingsModel" "formX" "I") (by decide +kernel)
  have l127 := hts (.fieldLink RX9 127 "ChordRingsModel" "formY" "I") (by decide +kernel)
  have l130 := hts (.fieldLink RX9 130 "ChordRingsModel" "formZ" "I") (by decide +kernel)
  unfold fX9_layFlags at hf
  refine lv_aload_n hx hb dX9_layFlags_0 rfl (lv_at hl 0 rfl) ?_
  refine lv_aload_n hx hb dX9_layFlags_1 rfl (lv_at hl 0 rfl) ?_
  refine va_get (D := D) (ci := 9) (C := RX9) (T := TX9) (N := 26) hx hb hts iX9 hown hK hP 0 rfl rfl 1 (by decide) l13 (fun _ h9 => h9) rfl dX9_layFlags_2 ?_
  refine lv_bipush (v := 6) hx hb dX9_layFlags_5 (by decide) ?_
  obtain ⟨u1, hu1, hf⟩ := o_b1 hf
  refine x_vv (rest := []) (W1 := [x_o9 a_t t_p a_t_given t_isLaid t_isGood a_t_c t_points a_t_pointX a_t_pointY a_t_pointZ a_t_pointFlags t_flags a_t_flagPoint a_t_flagU a_t_flagV a_t_flagW a_t_next a_t_series a_t_mix a_t_cofactor t_formX t_formY t_formZ a_t_square t_isNought t_sumT t_sumY, x_ar cI a_t_cofactor 6 u1, x_ar cI a_t_flagPoint 400 t_flagPoint_r, x_ar cI a_t_flagU 400 t_flagU_r, x_ar cI a_t_flagV 400 t_flagV_r, x_ar cI a_t_flagW 400 t_flagW_r, x_ar cI a_t_given 12 t_given_r, x_ar cI a_t_pointFlags 200 t_pointFlags_r, x_ar cI a_t_pointX 200 t_pointX_r, x_ar cI a_t_pointY 200 t_pointY_r, x_ar cI a_t_pointZ 200 t_pointZ_r]) ⟨hx, hb, hml, hown, hts⟩ (tX9_cofactorOf l D cI a_t a_t_given a_t_given a_t_c a_t_pointX a_t_pointY a_t_pointZ a_t_pointFlags a_t_flagPoint a_t_flagU a_t_flagV a_t_flagW a_t_next a_t_series a_t_mix a_t_cofactor a_t_square 12 t_p t_isLaid t_isGood t_points t_flags t_formX t_formY t_formZ t_isNought t_sumT t_sumY t_given_r t_cofactor_r 6 u1 hu1) (cwV 2 hts gX9_layFlags_X9_cofactorOf rfl rfl rfl (by decide +kernel) ⟨Nat.le_of_ble_eq_true rfl, Nat.le_of_ble_eq_true rfl⟩) hN hK hP hD hS hA [0, 6, 1] [some 0, some 2, none, none, none, none, some 1, none, none, none, none] rfl rfl rfl rfl rfl rfl 0 rfl rfl rfl hl.1 rfl (Nat.le_of_ble_eq_true rfl) dX9_layFlags_7 ⟨Nat.zero_le _, Nat.zero_le _⟩ (fun H locs hP hD hS => ?_)
  refine lv_aload_n hx hb dX9_layFlags_10 rfl (lv_at hl 0 rfl) ?_
  refine lv_iconst (v := 0) hx hb dX9_layFlags_11 (by decide) ?_
  refine x_put (W1 := [x_o9 a_t t_p a_t_given t_isLaid t_isGood a_t_c t_points a_t_pointX a_t_pointY a_t_pointZ a_t_pointFlags 0 a_t_flagPoint a_t_flagU a_t_flagV a_t_flagW a_t_next a_t_series a_t_mix a_t_cofactor t_formX t_formY t_formZ a_t_square t_isNought t_sumT t_sumY, x_ar cI a_t_cofactor 6 u1, x_ar cI a_t_flagPoint 400 t_flagPoint_r, x_ar cI a_t_flagU 400 t_flagU_r, x_ar cI a_t_flagV 400 t_flagV_r, x_ar cI a_t_flagW 400 t_flagW_r, x_ar cI a_t_given 12 t_given_r, x_ar cI a_t_pointFlags 200 t_pointFlags_r, x_ar cI a_t_pointX 200 t_pointX_r, x_ar cI a_t_pointY 200 t_pointY_r, x_ar cI a_t_pointZ 200 t_pointZ_r]) (ty := .int) (C := RX9) (T := TX9) (N := 26) hx hb hts iX9 tyX9 tyX9_ok nmX9 hown hK hP hD hS 0 rfl rfl 10 (by decide) l140 rfl rfl (by decide +kernel) rfl rfl (Nat.le_of_ble_eq_true rfl) rfl dX9_layFlags_12 (fun H locs hP hD hS => ?_)
  refine lv_iconst (v := 0) hx hb dX9_layFlags_15 (by decide) ?_
  refine lv_istore_n (lv' := [(1, .int 0), (0, .ref a_t)]) hx hb dX9_layFlags_16 rfl hl (by decide) rfl (fun ls hl => ?_)
  have L17 : ∀ (n : Nat) (x2 : Int32) (x3 : Int32) (x4 : Int32) (x5 : Int32) (x6 : Int32) (z7 : (Nat → Int32)) (z8 : (Nat → Int32)) (z9 : (Nat → Int32)) (z10 : (Nat → Int32)) (z11 : (Nat → Int32)) (ls : Array Slot) (H : Heap) (locs : List Loc), gX9_layFlags_17 t_p t_points t_pointX_r t_pointY_r t_pointZ_r u1 (kX9_layFlags_274 u1) n x2 x3 x4 x5 x6 z7 z8 z9 z10 z11 = some (s_t_flags, s_t_formX, s_t_formY, s_t_formZ, s_t_cofactor_r, s_t_flagPoint_r, s_t_flagU_r, s_t_flagV_r, s_t_flagW_r, s_t_pointFlags_r) → lv_has ls 15 [(0, .ref a_t), (1, .int x2)] → va_P D vwCl [x_o9 a_t t_p a_t_given t_isLaid t_isGood a_t_c t_points a_t_pointX a_t_pointY a_t_pointZ a_t_pointFlags x3 a_t_flagPoint a_t_flagU a_t_flagV a_t_flagW a_t_next a_t_series a_t_mix a_t_cofactor x4 x5 x6 a_t_square t_isNought t_sumT t_sumY, x_ar cI a_t_cofactor 6 u1, x_ar cI a_t_flagPoint 400 z7, x_ar cI a_t_flagU 400 z8, x_ar cI a_t_flagV 400 z9, x_ar cI a_t_flagW 400 z10, x_ar cI a_t_given 12 t_given_r, x_ar cI a_t_pointFlags 200 z11, x_ar cI a_t_pointX 200 t_pointX_r, x_ar cI a_t_pointY 200 t_pointY_r, x_ar cI a_t_pointZ 200 t_pointZ_r] H → va_D A [x_o9 a_t t_p a_t_given t_isLaid t_isGood a_t_c t_points a_t_pointX a_t_pointY a_t_pointZ a_t_pointFlags x3 a_t_flagPoint a_t_flagU a_t_flagV a_t_flagW a_t_next a_t_series a_t_mix a_t_cofactor x4 x5 x6 a_t_square t_isNought t_sumT t_sumY, x_ar cI a_t_cofactor 6 u1, x_ar cI a_t_flagPoint 400 z7, x_ar cI a_t_flagU 400 z8, x_ar cI a_t_flagV 400 z9, x_ar cI a_t_flagW 400 z10, x_ar cI a_t_given 12 t_given_r, x_ar cI a_t_pointFlags 200 z11, x_ar cI a_t_pointX 200 t_pointX_r, x_ar cI a_t_pointY 200 t_pointY_r, x_ar cI a_t_pointZ 200 t_pointZ_r] → va_S A s.heap H locs → W p l e rmX9_layFlags s m args below meth c H locs 0 0 Q (F0 m 17 ls []) := by
    intro n17
    induction n17 with
    | zero =>
      intro x2 x3 x4 x5 x6 z7 z8 z9 z10 z11 ls H locs hf
      exact nomatch (show (none : Option (Int32 × Int32 × Int32 × Int32 × (Nat → Int32) × (Nat → Int32) × (Nat → Int32) × (Nat → Int32) × (Nat → Int32) × (Nat → Int32))) = some (s_t_flags, s_t_formX, s_t_formY, s_t_formZ, s_t_cofactor_r, s_t_flagPoint_r, s_t_flagU_r, s_t_flagV_r, s_t_flagW_r, s_t_pointFlags_r) from hf)
    | succ n17 ih17 =>
      intro x2 x3 x4 x5 x6 z7 z8 z9 z10 z11 ls H locs hf hl hP hD hS
      have hf : FgX9_layFlags_17 t_p t_points t_pointX_r t_pointY_r t_pointZ_r u1 (gX9_layFlags_17 t_p t_points t_pointX_r t_pointY_r t_pointZ_r u1 (kX9_layFlags_274 u1) n17) (kX9_layFlags_274 u1) x2 x3 x4 x5 x6 z7 z8 z9 z10 z11 = some (s_t_flags, s_t_formX, s_t_formY, s_t_formZ, s_t_cofactor_r, s_t_flagPoint_r, s_t_flagU_r, s_t_flagV_r, s_t_flagW_r, s_t_pointFlags_r) := hf
      unfold FgX9_layFlags_17 at hf
      refine lv_iload_n hx hb dX9_layFlags_17 rfl (lv_at hl 1 rfl) ?_
      refine lv_aload_n hx hb dX9_layFlags_18 rfl (lv_at hl 0 rfl) ?_
      refine va_get (D := D) (ci := 9) (C := RX9) (T := TX9) (N := 26) hx hb hts iX9 hown hK hP 0 rfl rfl 5 (by decide) l137 (fun _ h9 => h9) rfl dX9_layFlags_19 ?_
      have J274 : ∀ (y12 : Int32) (y13 : Int32) (y14 : Int32) (y15 : Int32) (w16 : (Nat → Int32)) (w17 : (Nat → Int32)) (w18 : (Nat → Int32)) (w19 : (Nat → Int32)) (w20 : (Nat → Int32)) (ls : Array Slot) (H : Heap) (locs : List Loc), kX9_layFlags_274 u1 y12 y13 y14 y15 w16 w17 w18 w19 w20 = some (s_t_flags, s_t_formX, s_t_formY, s_t_formZ, s_t_cofactor_r, s_t_flagPoint_r, s_t_flagU_r, s_t_flagV_r, s_t_flagW_r, s_t_pointFlags_r) → lv_has ls 15 [] → va_P D vwCl [x_o9 a_t t_p a_t_given t_isLaid t_isGood a_t_c t_points a_t_pointX a_t_pointY a_t_pointZ a_t_pointFlags y12 a_t_flagPoint a_t_flagU a_t_flagV a_t_flagW a_t_next a_t_series a_t_mix a_t_cofactor y13 y14 y15 a_t_square t_isNought t_sumT t_sumY, x_ar cI a_t_cofactor 6 u1, x_ar cI a_t_flagPoint 400 w16, x_ar cI a_t_flagU 400 w17, x_ar cI a_t_flagV 400 w18, x_ar cI a_t_flagW 400 w19, x_ar cI a_t_given 12 t_given_r, x_ar cI a_t_pointFlags 200 w20, x_ar cI a_t_pointX 200 t_pointX_r, x_ar cI a_t_pointY 200 t_pointY_r, x_ar cI a_t_pointZ 200 t_pointZ_r] H → va_D A [x_o9 a_t t_p a_t_given t_isLaid t_isGood a_t_c t_points a_t_pointX a_t_pointY a_t_pointZ a_t_pointFlags y12 a_t_flagPoint a_t_flagU a_t_flagV a_t_flagW a_t_next a_t_series a_t_mix a_t_cofactor y13 y14 y15 a_t_square t_isNought t_sumT t_sumY, x_ar cI a_t_cofactor 6 u1, x_ar cI a_t_flagPoint 400 w16, x_ar cI a_t_flagU 400 w17, x_ar cI a_t_flagV 400 w18, x_ar cI a_t_flagW 400 w19, x_ar cI a_t_given 12 t_given_r, x_ar cI a_t_pointFlags 200 w20, x_ar cI a_t_pointX 200 t_pointX_r, x_ar cI a_t_pointY 200 t_pointY_r, x_ar cI a_t_pointZ 200 t_pointZ_r] → va_S A s.heap H locs → W p l e rmX9_layFlags s m args below meth c H locs 0 0 Q (F0 m 274 ls []) := by
        intro y12 y13 y14 y15 w16 w17 w18 w19 w20 ls H locs hf hl hP hD hS
        unfold kX9_layFlags_274 at hf
        obtain ⟨rfl, rfl, rfl, rfl, rfl, rfl, rfl, rfl, rfl, rfl⟩ := o_s10 hf
        exact hret dX9_layFlags_274 hP hD hS
      refine lv_icmp_ge (tgt := 274) hx hb dX9_layFlags_22 (by decide) (fun hc => ?_) (fun hc => ?_)
      · have hf := o_t hf hc
        exact J274 x3 x4 x5 x6 z7 z8 z9 z10 z11 _ _ _ hf (lv_sub hl [] rfl) hP hD hS
      · have hf := o_f hf hc
        refine lv_aload_n hx hb dX9_layFlags_25 rfl (lv_at hl 0 rfl) ?_
        refine va_get (D := D) (ci := 9) (C := RX9) (T := TX9) (N := 26) hx hb hts iX9 hown hK hP 0 rfl rfl 6 (by decide) l20 (fun _ h9 => h9) rfl dX9_layFlags_26 ?_
        refine lv_iload_n hx hb dX9_layFlags_29 rfl (lv_at hl 1 rfl) ?_
        obtain ⟨v21, hv21, hf⟩ := o_b1 hf
        refine x_ald hx hb hK hP 8 rfl hv21 dX9_layFlags_30 ?_
        refine lv_istore_n (lv' := [(2, .int v21), (0, .ref a_t), (1, .int x2)]) hx hb dX9_layFlags_31 rfl hl (by decide) rfl (fun ls hl => ?_)
        refine lv_aload_n hx hb dX9_layFlags_32 rfl (lv_at hl 1 rfl) ?_
        refine va_get (D := D) (ci := 9) (C := RX9) (T := TX9) (N := 26) hx hb hts iX9 hown hK hP 0 rfl rfl 7 (by decide) l23 (fun _ h9 => h9) rfl dX9_layFlags_33 ?_
        refine lv_iload_n hx hb dX9_layFlags_36 rfl (lv_at hl 2 rfl) ?_
        obtain ⟨v22, hv22, hf⟩ := o_b1 hf
        refine x_ald hx hb hK hP 9 rfl hv22 dX9_layFlags_37 ?_
        refine lv_istore_n (lv' := [(3, .int v22), (2, .int v21), (0, .ref a_t), (1, .int x2)]) hx hb dX9_layFlags_38 rfl hl (by decide) rfl (fun ls hl => ?_)
        refine lv_aload_n hx hb dX9_layFlags_39 rfl (lv_at hl 2 rfl) ?_
        refine va_get (D := D) (ci := 9) (C := RX9) (T := TX9) (N := 26) hx hb hts iX9 hown hK hP 0 rfl rfl 8 (by decide) l26 (fun _ h9 => h9) rfl dX9_layFlags_40 ?_
        refine lv_iload_n hx hb dX9_layFlags_43 rfl (lv_at hl 3 rfl) ?_
        obtain ⟨v23, hv23, hf⟩ := o_b1 hf
        refine x_ald hx hb hK hP 10 rfl hv23 dX9_layFlags_44 ?_
        refine lv_istore (lv' := [(4, .int v23), (3, .int v22), (2, .int v21), (0, .ref a_t), (1, .int x2)]) hx hb dX9_layFlags_45 hl (by decide) rfl (fun ls hl => ?_)
        refine lv_aload_n hx hb dX9_layFlags_47 rfl (lv_at hl 3 rfl) ?_
        refine va_get (D := D) (ci := 9) (C := RX9) (T := TX9) (N := 26) hx hb hts iX9 hown hK hP 0 rfl rfl 10 (by decide) l140 (fun _ h9 => h9) rfl dX9_layFlags_48 ?_
        refine lv_istore (lv' := [(5, .int x3), (4, .int v23), (3, .int v22), (2, .int v21), (0, .ref a_t), (1, .int x2)]) hx hb dX9_layFlags_51 hl (by decide) rfl (fun ls hl => ?_)
        refine lv_iload hx hb dX9_layFlags_53 (lv_at hl 1 rfl) ?_
        refine lv_istore (lv' := [(6, .int v23), (5, .int x3), (4, .int v23), (3, .int v22), (2, .int v21), (0, .ref a_t), (1, .int x2)]) hx hb dX9_layFlags_55 hl (by decide) rfl (fun ls hl => ?_)
        refine lv_iconst (v := 0) hx hb dX9_layFlags_57 (by decide) ?_
        refine lv_istore (lv' := [(7, .int 0), (6, .int v23), (5, .int x3), (4, .int v23), (3, .int v22), (2, .int v21), (0, .ref a_t), (1, .int x2)]) hx hb dX9_layFlags_58 hl (by decide) rfl (fun ls hl => ?_)
        refine lv_iload hx hb dX9_layFlags_60 (lv_at hl 3 rfl) ?_
        have J75 : ∀ (y24 : Int32) (ls : Array Slot) (H : Heap) (locs : List Loc), jX9_layFlags_75 t_p u1 x2 x3 x4 x5 x6 z7 z8 z9 z10 z11 (gX9_layFlags_17 t_p t_points t_pointX_r t_pointY_r t_pointZ_r u1 (kX9_layFlags_274 u1) n17) v21 v22 v23 y24 = some (s_t_flags, s_t_formX, s_t_formY, s_t_formZ, s_t_cofactor_r, s_t_flagPoint_r, s_t_flagU_r, s_t_flagV_r, s_t_flagW_r, s_t_pointFlags_r) → lv_has ls 15 [(0, .ref a_t), (1, .int x2), (2, .int v21), (3, .int v22), (4, .int v23), (5, .int x3), (6, .int v23), (7, .int 0)] → va_P D vwCl [x_o9 a_t t_p a_t_given t_isLaid t_isGood a_t_c t_points a_t_pointX a_t_pointY a_t_pointZ a_t_pointFlags x3 a_t_flagPoint a_t_flagU a_t_flagV a_t_flagW a_t_next a_t_series a_t_mix a_t_cofactor x4 x5 x6 a_t_square t_isNought t_sumT t_sumY, x_ar cI a_t_cofactor 6 u1, x_ar cI a_t_flagPoint 400 z7, x_ar cI a_t_flagU 400 z8, x_ar cI a_t_flagV 400 z9, x_ar cI a_t_flagW 400 z10, x_ar cI a_t_given 12 t_given_r, x_ar cI a_t_pointFlags 200 z11, x_ar cI a_t_pointX 200 t_pointX_r, x_ar cI a_t_pointY 200 t_pointY_r, x_ar cI a_t_pointZ 200 t_pointZ_r] H → va_D A [x_o9 a_t t_p a_t_given t_isLaid t_isGood a_t_c t_points a_t_pointX a_t_pointY a_t_pointZ a_t_pointFlags x3 a_t_flagPoint a_t_flagU a_t_flagV a_t_flagW a_t_next a_t_series a_t_mix a_t_cofactor x4 x5 x6 a_t_square t_isNought t_sumT t_sumY, x_ar cI a_t_cofactor 6 u1, x_ar cI a_t_flagPoint 400 z7, x_ar cI a_t_flagU 400 z8, x_ar cI a_t_flagV 400 z9, x_ar cI a_t_flagW 400 z10, x_ar cI a_t_given 12 t_given_r, x_ar cI a_t_pointFlags 200 z11, x_ar cI a_t_pointX 200 t_pointX_r, x_ar cI a_t_pointY 200 t_pointY_r, x_ar cI a_t_pointZ 200 t_pointZ_r] → va_S A s.heap H locs → W p l e rmX9_layFlags s m args below meth c H locs 0 0 Q (F0 m 75 ls [.int y24]) := by
          intro y24 ls H locs hf hl hP hD hS
          unfold jX9_layFlags_75 at hf
          refine lv_istore (lv' := [(8, .int y24), (0, .ref a_t), (1, .int x2), (2, .int v21), (3, .int v22), (4, .int v23), (5, .int x3), (6, .int v23), (7, .int 0)]) hx hb dX9_layFlags_75 hl (by decide) rfl (fun ls hl => ?_)
          refine lv_iload hx hb dX9_layFlags_77 (lv_at hl 5 rfl) ?_
          have J87 : ∀ (y25 : Int32) (ls : Array Slot) (H : Heap) (locs : List Loc), jX9_layFlags_87 t_p u1 x2 x3 x4 x5 x6 z7 z8 z9 z10 z11 (gX9_layFlags_17 t_p t_points t_pointX_r t_pointY_r t_pointZ_r u1 (kX9_layFlags_274 u1) n17) v21 v22 v23 y24 y25 = some (s_t_flags, s_t_formX, s_t_formY, s_t_formZ, s_t_cofactor_r, s_t_flagPoint_r, s_t_flagU_r, s_t_flagV_r, s_t_flagW_r, s_t_pointFlags_r) → lv_has ls 15 [(0, .ref a_t), (1, .int x2), (2, .int v21), (3, .int v22), (4, .int v23), (5, .int x3), (6, .int v23), (7, .int 0), (8, .int y24)] → va_P D vwCl [x_o9 a_t t_p a_t_given t_isLaid t_isGood a_t_c t_points a_t_pointX a_t_pointY a_t_pointZ a_t_pointFlags x3 a_t_flagPoint a_t_flagU a_t_flagV a_t_flagW a_t_next a_t_series a_t_mix a_t_cofactor x4 x5 x6 a_t_square t_isNought t_sumT t_sumY, x_ar cI a_t_cofactor 6 u1, x_ar cI a_t_flagPoint 400 z7, x_ar cI a_t_flagU 400 z8, x_ar cI a_t_flagV 400 z9, x_ar cI a_t_flagW 400 z10, x_ar cI a_t_given 12 t_given_r, x_ar cI a_t_pointFlags 200 z11, x_ar cI a_t_pointX 200 t_pointX_r, x_ar cI a_t_pointY 200 t_pointY_r, x_ar cI a_t_pointZ 200 t_pointZ_r] H → va_D A [x_o9 a_t t_p a_t_given t_isLaid t_isGood a_t_c t_points a_t_pointX a_t_pointY a_t_pointZ a_t_pointFlags x3 a_t_flagPoint a_t_flagU a_t_flagV a_t_flagW a_t_next a_t_series a_t_mix a_t_cofactor x4 x5 x6 a_t_square t_isNought t_sumT t_sumY, x_ar cI a_t_cofactor 6 u1, x_ar cI a_t_flagPoint 400 z7, x_ar cI a_t_flagU 400 z8, x_ar cI a_t_flagV 400 z9, x_ar cI a_t_flagW 400 z10, x_ar cI a_t_given 12 t_given_r, x_ar cI a_t_pointFlags 200 z11, x_ar cI a_t_pointX 200 t_pointX_r, x_ar cI a_t_pointY 200 t_pointY_r, x_ar cI a_t_pointZ 200 t_pointZ_r] → va_S A s.heap H locs → W p l e rmX9_layFlags s m args below meth c H locs 0 0 Q (F0 m 87 ls [.int y25]) := by
            intro y25 ls H locs hf hl hP hD hS
            unfold jX9_layFlags_87 at hf
            refine lv_istore (lv' := [(9, .int y25), (0, .ref a_t), (1, .int x2), (2, .int v21), (3, .int v22), (4, .int v23), (5, .int x3), (6, .int v23), (7, .int 0), (8, .int y24)]) hx hb dX9_layFlags_87 hl (by decide) rfl (fun ls hl => ?_)
            refine lv_iload hx hb dX9_layFlags_89 (lv_at hl 5 rfl) ?_
            have J105 : ∀ (y26 : Int32) (ls : Array Slot) (H : Heap) (locs : List Loc), jX9_layFlags_105 t_p u1 x2 x3 x4 x5 x6 z7 z8 z9 z10 z11 (gX9_layFlags_17 t_p t_points t_pointX_r t_pointY_r t_pointZ_r u1 (kX9_layFlags_274 u1) n17) v22 v23 y24 y25 y26 = some (s_t_flags, s_t_formX, s_t_formY, s_t_formZ, s_t_cofactor_r, s_t_flagPoint_r, s_t_flagU_r, s_t_flagV_r, s_t_flagW_r, s_t_pointFlags_r) → lv_has ls 15 [(0, .ref a_t), (1, .int x2), (3, .int v22), (4, .int v23), (5, .int x3), (6, .int v23), (7, .int 0), (8, .int y24), (9, .int y25)] → va_P D vwCl [x_o9 a_t t_p a_t_given t_isLaid t_isGood a_t_c t_points a_t_pointX a_t_pointY a_t_pointZ a_t_pointFlags x3 a_t_flagPoint a_t_flagU a_t_flagV a_t_flagW a_t_next a_t_series a_t_mix a_t_cofactor x4 x5 x6 a_t_square t_isNought t_sumT t_sumY, x_ar cI a_t_cofactor 6 u1, x_ar cI a_t_flagPoint 400 z7, x_ar cI a_t_flagU 400 z8, x_ar cI a_t_flagV 400 z9, x_ar cI a_t_flagW 400 z10, x_ar cI a_t_given 12 t_given_r, x_ar cI a_t_pointFlags 200 z11, x_ar cI a_t_pointX 200 t_pointX_r, x_ar cI a_t_pointY 200 t_pointY_r, x_ar cI a_t_pointZ 200 t_pointZ_r] H → va_D A [x_o9 a_t t_p a_t_given t_isLaid t_isGood a_t_c t_points a_t_pointX a_t_pointY a_t_pointZ a_t_pointFlags x3 a_t_flagPoint a_t_flagU a_t_flagV a_t_flagW a_t_next a_t_series a_t_mix a_t_cofactor x4 x5 x6 a_t_square t_isNought t_sumT t_sumY, x_ar cI a_t_cofactor 6 u1, x_ar cI a_t_flagPoint 400 z7, x_ar cI a_t_flagU 400 z8, x_ar cI a_t_flagV 400 z9, x_ar cI a_t_flagW 400 z10, x_ar cI a_t_given 12 t_given_r, x_ar cI a_t_pointFlags 200 z11, x_ar cI a_t_pointX 200 t_pointX_r, x_ar cI a_t_pointY 200 t_pointY_r, x_ar cI a_t_pointZ 200 t_pointZ_r] → va_S A s.heap H locs → W p l e rmX9_layFlags s m args below meth c H locs 0 0 Q (F0 m 105 ls [.int y26]) := by
              intro y26 ls H locs hf hl hP hD hS
              unfold jX9_layFlags_105 at hf
              refine lv_istore (lv' := [(10, .int y26), (0, .ref a_t), (1, .int x2), (3, .int v22), (4, .int v23), (5, .int x3), (6, .int v23), (7, .int 0), (8, .int y24), (9, .int y25)]) hx hb dX9_layFlags_105 hl (by decide) rfl (fun ls hl => ?_)
              refine lv_iload hx hb dX9_layFlags_107 (lv_at hl 4 rfl) ?_
              have J122 : ∀ (y27 : Int32) (ls : Array Slot) (H : Heap) (locs : List Loc), jX9_layFlags_122 t_p u1 x2 x3 x4 x5 x6 z7 z8 z9 z10 z11 (gX9_layFlags_17 t_p t_points t_pointX_r t_pointY_r t_pointZ_r u1 (kX9_layFlags_274 u1) n17) v23 y24 y25 y26 y27 = some (s_t_flags, s_t_formX, s_t_formY, s_t_formZ, s_t_cofactor_r, s_t_flagPoint_r, s_t_flagU_r, s_t_flagV_r, s_t_flagW_r, s_t_pointFlags_r) → lv_has ls 15 [(0, .ref a_t), (1, .int x2), (5, .int x3), (6, .int v23), (7, .int 0), (8, .int y24), (9, .int y25), (10, .int y26)] → va_P D vwCl [x_o9 a_t t_p a_t_given t_isLaid t_isGood a_t_c t_points a_t_pointX a_t_pointY a_t_pointZ a_t_pointFlags x3 a_t_flagPoint a_t_flagU a_t_flagV a_t_flagW a_t_next a_t_series a_t_mix a_t_cofactor x4 x5 x6 a_t_square t_isNought t_sumT t_sumY, x_ar cI a_t_cofactor 6 u1, x_ar cI a_t_flagPoint 400 z7, x_ar cI a_t_flagU 400 z8, x_ar cI a_t_flagV 400 z9, x_ar cI a_t_flagW 400 z10, x_ar cI a_t_given 12 t_given_r, x_ar cI a_t_pointFlags 200 z11, x_ar cI a_t_pointX 200 t_pointX_r, x_ar cI a_t_pointY 200 t_pointY_r, x_ar cI a_t_pointZ 200 t_pointZ_r] H → va_D A [x_o9 a_t t_p a_t_given t_isLaid t_isGood a_t_c t_points a_t_pointX a_t_pointY a_t_pointZ a_t_pointFlags x3 a_t_flagPoint a_t_flagU a_t_flagV a_t_flagW a_t_next a_t_series a_t_mix a_t_cofactor x4 x5 x6 a_t_square t_isNought t_sumT t_sumY, x_ar cI a_t_cofactor 6 u1, x_ar cI a_t_flagPoint 400 z7, x_ar cI a_t_flagU 400 z8, x_ar cI a_t_flagV 400 z9, x_ar cI a_t_flagW 400 z10, x_ar cI a_t_given 12 t_given_r, x_ar cI a_t_pointFlags 200 z11, x_ar cI a_t_pointX 200 t_pointX_r, x_ar cI a_t_pointY 200 t_pointY_r, x_ar cI a_t_pointZ 200 t_pointZ_r] → va_S A s.heap H locs → W p l e rmX9_layFlags s m args below meth c H locs 0 0 Q (F0 m 122 ls [.int y27]) := by
                intro y27 ls H locs hf hl hP hD hS
                unfold jX9_layFlags_122 at hf
                refine lv_istore (lv' := [(11, .int y27), (0, .ref a_t), (1, .int x2), (5, .int x3), (6, .int v23), (7, .int 0), (8, .int y24), (9, .int y25), (10, .int y26)]) hx hb dX9_layFlags_122 hl (by decide) rfl (fun ls hl => ?_)
                refine lv_iconst (v := 0) hx hb dX9_layFlags_124 (by decide) ?_
                refine lv_istore (lv' := [(12, .int 0), (11, .int y27), (0, .ref a_t), (1, .int x2), (5, .int x3), (6, .int v23), (7, .int 0), (8, .int y24), (9, .int y25), (10, .int y26)]) hx hb dX9_layFlags_125 hl (by decide) rfl (fun ls hl => ?_)
                have L127 : ∀ (n : Nat) (x28 : Int32) (x29 : Int32) (x30 : Int32) (x31 : Int32) (x32 : Int32) (z33 : (Nat → Int32)) (z34 : (Nat → Int32)) (z35 : (Nat → Int32)) (z36 : (Nat → Int32)) (ls : Array Slot) (H : Heap) (locs : List Loc), gX9_layFlags_127 t_p u1 x2 x3 v23 y24 y25 y26 y27 (kX9_layFlags_255 x2 x3 z11 (gX9_layFlags_17 t_p t_points t_pointX_r t_pointY_r t_pointZ_r u1 (kX9_layFlags_274 u1) n17)) n x28 x29 x30 x31 x32 z33 z34 z35 z36 = some (s_t_flags, s_t_formX, s_t_formY, s_t_formZ, s_t_cofactor_r, s_t_flagPoint_r, s_t_flagU_r, s_t_flagV_r, s_t_flagW_r, s_t_pointFlags_r) → lv_has ls 15 [(0, .ref a_t), (1, .int x2), (5, .int x3), (6, .int v23), (7, .int 0), (8, .int y24), (9, .int y25), (10, .int y26), (11, .int y27), (12, .int x28)] → va_P D vwCl [x_o9 a_t t_p a_t_given t_isLaid t_isGood a_t_c t_points a_t_pointX a_t_pointY a_t_pointZ a_t_pointFlags x29 a_t_flagPoint a_t_flagU a_t_flagV a_t_flagW a_t_next a_t_series a_t_mix a_t_cofactor x30 x31 x32 a_t_square t_isNought t_sumT t_sumY, x_ar cI a_t_cofactor 6 u1, x_ar cI a_t_flagPoint 400 z33, x_ar cI a_t_flagU 400 z34, x_ar cI a_t_flagV 400 z35, x_ar cI a_t_flagW 400 z36, x_ar cI a_t_given 12 t_given_r, x_ar cI a_t_pointFlags 200 z11, x_ar cI a_t_pointX 200 t_pointX_r, x_ar cI a_t_pointY 200 t_pointY_r, x_ar cI a_t_pointZ 200 t_pointZ_r] H → va_D A [x_o9 a_t t_p a_t_given t_isLaid t_isGood a_t_c t_points a_t_pointX a_t_pointY a_t_pointZ a_t_pointFlags x29 a_t_flagPoint a_t_flagU a_t_flagV a_t_flagW a_t_next a_t_series a_t_mix a_t_cofactor x30 x31 x32 a_t_square t_isNought t_sumT t_sumY, x_ar cI a_t_cofactor 6 u1, x_ar cI a_t_flagPoint 400 z33, x_ar cI a_t_flagU 400 z34, x_ar cI a_t_flagV 400 z35, x_ar cI a_t_flagW 400 z36, x_ar cI a_t_given 12 t_given_r, x_ar cI a_t_pointFlags 200 z11, x_ar cI a_t_pointX 200 t_pointX_r, x_ar cI a_t_pointY 200 t_pointY_r, x_ar cI a_t_pointZ 200 t_pointZ_r] → va_S A s.heap H locs → W p l e rmX9_layFlags s m args below meth c H locs 0 0 Q (F0 m 127 ls []) := by
                  intro n127
                  induction n127 with
                  | zero =>
                    intro x28 x29 x30 x31 x32 z33 z34 z35 z36 ls H locs hf
                    exact nomatch (show (none : Option (Int32 × Int32 × Int32 × Int32 × (Nat → Int32) × (Nat → Int32) × (Nat → Int32) × (Nat → Int32) × (Nat → Int32) × (Nat → Int32))) = some (s_t_flags, s_t_formX, s_t_formY, s_t_formZ, s_t_cofactor_r, s_t_flagPoint_r, s_t_flagU_r, s_t_flagV_r, s_t_flagW_r, s_t_pointFlags_r) from hf)
                  | succ n127 ih127 =>
                    intro x28 x29 x30 x31 x32 z33 z34 z35 z36 ls H locs hf hl hP hD hS
                    have hf : FgX9_layFlags_127 t_p u1 x2 x3 v23 y24 y25 y26 y27 (gX9_layFlags_127 t_p u1 x2 x3 v23 y24 y25 y26 y27 (kX9_layFlags_255 x2 x3 z11 (gX9_layFlags_17 t_p t_points t_pointX_r t_pointY_r t_pointZ_r u1 (kX9_layFlags_274 u1) n17)) n127) (kX9_layFlags_255 x2 x3 z11 (gX9_layFlags_17 t_p t_points t_pointX_r t_pointY_r t_pointZ_r u1 (kX9_layFlags_274 u1) n17)) x28 x29 x30 x31 x32 z33 z34 z35 z36 = some (s_t_flags, s_t_formX, s_t_formY, s_t_formZ, s_t_cofactor_r, s_t_flagPoint_r, s_t_flagU_r, s_t_flagV_r, s_t_flagW_r, s_t_pointFlags_r) := hf
                    unfold FgX9_layFlags_127 at hf
                    refine lv_iload hx hb dX9_layFlags_127 (lv_at hl 9 rfl) ?_
                    refine lv_aload_n hx hb dX9_layFlags_129 rfl (lv_at hl 0 rfl) ?_
                    refine va_get (D := D) (ci := 9) (C := RX9) (T := TX9) (N := 26) hx hb hts iX9 hown hK hP 0 rfl rfl 0 (by decide) l7 (fun _ h9 => h9) rfl dX9_layFlags_130 ?_
                    have J255 : ∀ (y37 : Int32) (y38 : Int32) (y39 : Int32) (y40 : Int32) (w41 : (Nat → Int32)) (w42 : (Nat → Int32)) (w43 : (Nat → Int32)) (w44 : (Nat → Int32)) (ls : Array Slot) (H : Heap) (locs : List Loc), kX9_layFlags_255 x2 x3 z11 (gX9_layFlags_17 t_p t_points t_pointX_r t_pointY_r t_pointZ_r u1 (kX9_layFlags_274 u1) n17) y37 y38 y39 y40 w41 w42 w43 w44 = some (s_t_flags, s_t_formX, s_t_formY, s_t_formZ, s_t_cofactor_r, s_t_flagPoint_r, s_t_flagU_r, s_t_flagV_r, s_t_flagW_r, s_t_pointFlags_r) → lv_has ls 15 [(0, .ref a_t), (1, .int x2), (5, .int x3)] → va_P D vwCl [x_o9 a_t t_p a_t_given t_isLaid t_isGood a_t_c t_points a_t_pointX a_t_pointY a_t_pointZ a_t_pointFlags y37 a_t_flagPoint a_t_flagU a_t_flagV a_t_flagW a_t_next a_t_series a_t_mix a_t_cofactor y38 y39 y40 a_t_square t_isNought t_sumT t_sumY, x_ar cI a_t_cofactor 6 u1, x_ar cI a_t_flagPoint 400 w41, x_ar cI a_t_flagU 400 w42, x_ar cI a_t_flagV 400 w43, x_ar cI a_t_flagW 400 w44, x_ar cI a_t_given 12 t_given_r, x_ar cI a_t_pointFlags 200 z11, x_ar cI a_t_pointX 200 t_pointX_r, x_ar cI a_t_pointY 200 t_pointY_r, x_ar cI a_t_pointZ 200 t_pointZ_r] H → va_D A [x_o9 a_t t_p a_t_given t_isLaid t_isGood a_t_c t_points a_t_pointX a_t_pointY a_t_pointZ a_t_pointFlags y37 a_t_flagPoint a_t_flagU a_t_flagV a_t_flagW a_t_next a_t_series a_t_mix a_t_cofactor y38 y39 y40 a_t_square t_isNought t_sumT t_sumY, x_ar cI a_t_cofactor 6 u1, x_ar cI a_t_flagPoint 400 w41, x_ar cI a_t_flagU 400 w42, x_ar cI a_t_flagV 400 w43, x_ar cI a_t_flagW 400 w44, x_ar cI a_t_given 12 t_given_r, x_ar cI a_t_pointFlags 200 z11, x_ar cI a_t_pointX 200 t_pointX_r, x_ar cI a_t_pointY 200 t_pointY_r, x_ar cI a_t_pointZ 200 t_pointZ_r] → va_S A s.heap H locs → W p l e rmX9_layFlags s m args below meth c H locs 0 0 Q (F0 m 255 ls []) := by
                      intro y37 y38 y39 y40 w41 w42 w43 w44 ls H locs hf hl hP hD hS
                      unfold kX9_layFlags_255 at hf
                      refine lv_aload_n hx hb dX9_layFlags_255 rfl (lv_at hl 0 rfl) ?_
                      refine va_get (D := D) (ci := 9) (C := RX9) (T := TX9) (N := 26) hx hb hts iX9 hown hK hP 0 rfl rfl 9 (by decide) l29 (fun _ h9 => h9) rfl dX9_layFlags_256 ?_
                      refine lv_iload_n hx hb dX9_layFlags_259 rfl (lv_at hl 1 rfl) ?_
                      refine lv_aload_n hx hb dX9_layFlags_260 rfl (lv_at hl 0 rfl) ?_
                      refine va_get (D := D) (ci := 9) (C := RX9) (T := TX9) (N := 26) hx hb hts iX9 hown hK hP 0 rfl rfl 10 (by decide) l140 (fun _ h9 => h9) rfl dX9_layFlags_261 ?_
                      refine lv_iload hx hb dX9_layFlags_264 (lv_at hl 2 rfl) ?_
                      refine lv_isub hx hb dX9_layFlags_266 ?_
                      obtain ⟨u45, hu45, hf⟩ := o_b1 hf
                      refine x_ast (W1 := [x_o9 a_t t_p a_t_given t_isLaid t_isGood a_t_c t_points a_t_pointX a_t_pointY a_t_pointZ a_t_pointFlags y37 a_t_flagPoint a_t_flagU a_t_flagV a_t_flagW a_t_next a_t_series a_t_mix a_t_cofactor y38 y39 y40 a_t_square t_isNought t_sumT t_sumY, x_ar cI a_t_cofactor 6 u1, x_ar cI a_t_flagPoint 400 w41, x_ar cI a_t_flagU 400 w42, x_ar cI a_t_flagV 400 w43, x_ar cI a_t_flagW 400 w44, x_ar cI a_t_given 12 t_given_r, x_ar cI a_t_pointFlags 200 u45, x_ar cI a_t_pointX 200 t_pointX_r, x_ar cI a_t_pointY 200 t_pointY_r, x_ar cI a_t_pointZ 200 t_pointZ_r]) hx hb hK hP hD hS 7 rfl hu45 rfl dX9_layFlags_267 (fun H locs hP hD hS => ?_)
                      obtain ⟨v46, ev46, hf⟩ := o_nm hf
                      refine lv_iinc (v := v46) (lv' := [(1, .int v46), (0, .ref a_t), (5, .int x3)]) hx hb dX9_layFlags_268 hl (k := 1) rfl (by rw [ev46]; rfl) (by decide) rfl (fun ls hl => ?_)
                      refine lv_goto (tgt := 17) hx hb dX9_layFlags_271 (by decide) ?_
                      exact ih17 v46 y37 y38 y39 y40 w41 w42 w43 w44 u45 _ _ _ hf (lv_sub hl [1, 0] rfl) hP hD hS
                    refine lv_icmp_gt (tgt := 255) hx hb dX9_layFlags_133 (by decide) (fun hc => ?_) (fun hc => ?_)
                    · have hf := o_t hf hc
                      exact J255 x29 x30 x31 x32 z33 z34 z35 z36 _ _ _ hf (lv_sub hl [0, 1, 2] rfl) hP hD hS
                    · have hf := o_f hf hc
                      refine lv_iload hx hb dX9_layFlags_136 (lv_at hl 9 rfl) ?_
                      refine lv_aload_n hx hb dX9_layFlags_138 rfl (lv_at hl 0 rfl) ?_
                      refine va_get (D := D) (ci := 9) (C := RX9) (T := TX9) (N := 26) hx hb hts iX9 hown hK hP 0 rfl rfl 0 (by decide) l7 (fun _ h9 => h9) rfl dX9_layFlags_139 ?_
                      have J151 : ∀ (y47 : Int32) (ls : Array Slot) (H : Heap) (locs : List Loc), jX9_layFlags_151 t_p u1 x2 x3 v23 y24 y25 y26 y27 x28 x29 x30 x31 x32 z33 z34 z35 z36 (gX9_layFlags_127 t_p u1 x2 x3 v23 y24 y25 y26 y27 (kX9_layFlags_255 x2 x3 z11 (gX9_layFlags_17 t_p t_points t_pointX_r t_pointY_r t_pointZ_r u1 (kX9_layFlags_274 u1) n17)) n127) y47 = some (s_t_flags, s_t_formX, s_t_formY, s_t_formZ, s_t_cofactor_r, s_t_flagPoint_r, s_t_flagU_r, s_t_flagV_r, s_t_flagW_r, s_t_pointFlags_r) → lv_has ls 15 [(0, .ref a_t), (1, .int x2), (5, .int x3), (6, .int v23), (7, .int 0), (8, .int y24), (9, .int y25), (10, .int y26), (11, .int y27), (12, .int x28)] → va_P D vwCl [x_o9 a_t t_p a_t_given t_isLaid t_isGood a_t_c t_points a_t_pointX a_t_pointY a_t_pointZ a_t_pointFlags x29 a_t_flagPoint a_t_flagU a_t_flagV a_t_flagW a_t_next a_t_series a_t_mix a_t_cofactor x30 x31 x32 a_t_square t_isNought t_sumT t_sumY, x_ar cI a_t_cofactor 6 u1, x_ar cI a_t_flagPoint 400 z33, x_ar cI a_t_flagU 400 z34, x_ar cI a_t_flagV 400 z35, x_ar cI a_t_flagW 400 z36, x_ar cI a_t_given 12 t_given_r, x_ar cI a_t_pointFlags 200 z11, x_ar cI a_t_pointX 200 t_pointX_r, x_ar cI a_t_pointY 200 t_pointY_r, x_ar cI a_t_pointZ 200 t_pointZ_r] H → va_D A [x_o9 a_t t_p a_t_given t_isLaid t_isGood a_t_c t_points a_t_pointX a_t_pointY a_t_pointZ a_t_pointFlags x29 a_t_flagPoint a_t_flagU a_t_flagV a_t_flagW a_t_next a_t_series a_t_mix a_t_cofactor x30 x31 x32 a_t_square t_isNought t_sumT t_sumY, x_ar cI a_t_cofactor 6 u1, x_ar cI a_t_flagPoint 400 z33, x_ar cI a_t_flagU 400 z34, x_ar cI a_t_flagV 400 z35, x_ar cI a_t_flagW 400 z36, x_ar cI a_t_given 12 t_given_r, x_ar cI a_t_pointFlags 200 z11, x_ar cI a_t_pointX 200 t_pointX_r, x_ar cI a_t_pointY 200 t_pointY_r, x_ar cI a_t_pointZ 200 t_pointZ_r] → va_S A s.heap H locs → W p l e rmX9_layFlags s m args below meth c H locs 0 0 Q (F0 m 151 ls [.int y47]) := by
                        intro y47 ls H locs hf hl hP hD hS
                        unfold jX9_layFlags_151 at hf
                        refine lv_istore (lv' := [(13, .int y47), (0, .ref a_t), (1, .int x2), (5, .int x3), (6, .int v23), (7, .int 0), (8, .int y24), (9, .int y25), (10, .int y26), (11, .int y27), (12, .int x28)]) hx hb dX9_layFlags_151 hl (by decide) rfl (fun ls hl => ?_)
                        refine lv_iload hx hb dX9_layFlags_153 (lv_at hl 10 rfl) ?_
                        refine lv_aload_n hx hb dX9_layFlags_155 rfl (lv_at hl 1 rfl) ?_
                        refine va_get (D := D) (ci := 9) (C := RX9) (T := TX9) (N := 26) hx hb hts iX9 hown hK hP 0 rfl rfl 0 (by decide) l7 (fun _ h9 => h9) rfl dX9_layFlags_156 ?_
                        have J167 : ∀ (y48 : Int32) (ls : Array Slot) (H : Heap) (locs : List Loc), jX9_layFlags_167 t_p u1 x2 x3 v23 y24 y25 y26 y27 x28 x29 x30 x31 x32 z33 z34 z35 z36 (gX9_layFlags_127 t_p u1 x2 x3 v23 y24 y25 y26 y27 (kX9_layFlags_255 x2 x3 z11 (gX9_layFlags_17 t_p t_points t_pointX_r t_pointY_r t_pointZ_r u1 (kX9_layFlags_274 u1) n17)) n127) y47 y48 = some (s_t_flags, s_t_formX, s_t_formY, s_t_formZ, s_t_cofactor_r, s_t_flagPoint_r, s_t_flagU_r, s_t_flagV_r, s_t_flagW_r, s_t_pointFlags_r) → lv_has ls 15 [(0, .ref a_t), (1, .int x2), (5, .int x3), (6, .int v23), (7, .int 0), (8, .int y24), (9, .int y25), (10, .int y26), (11, .int y27), (12, .int x28), (13, .int y47)] → va_P D vwCl [x_o9 a_t t_p a_t_given t_isLaid t_isGood a_t_c t_points a_t_pointX a_t_pointY a_t_pointZ a_t_pointFlags x29 a_t_flagPoint a_t_flagU a_t_flagV a_t_flagW a_t_next a_t_series a_t_mix a_t_cofactor x30 x31 x32 a_t_square t_isNought t_sumT t_sumY, x_ar cI a_t_cofactor 6 u1, x_ar cI a_t_flagPoint 400 z33, x_ar cI a_t_flagU 400 z34, x_ar cI a_t_flagV 400 z35, x_ar cI a_t_flagW 400 z36, x_ar cI a_t_given 12 t_given_r, x_ar cI a_t_pointFlags 200 z11, x_ar cI a_t_pointX 200 t_pointX_r, x_ar cI a_t_pointY 200 t_pointY_r, x_ar cI a_t_pointZ 200 t_pointZ_r] H → va_D A [x_o9 a_t t_p a_t_given t_isLaid t_isGood a_t_c t_points a_t_pointX a_t_pointY a_t_pointZ a_t_pointFlags x29 a_t_flagPoint a_t_flagU a_t_flagV a_t_flagW a_t_next a_t_series a_t_mix a_t_cofactor x30 x31 x32 a_t_square t_isNought t_sumT t_sumY, x_ar cI a_t_cofactor 6 u1, x_ar cI a_t_flagPoint 400 z33, x_ar cI a_t_flagU 400 z34, x_ar cI a_t_flagV 400 z35, x_ar cI a_t_flagW 400 z36, x_ar cI a_t_given 12 t_given_r, x_ar cI a_t_pointFlags 200 z11, x_ar cI a_t_pointX 200 t_pointX_r, x_ar cI a_t_pointY 200 t_pointY_r, x_ar cI a_t_pointZ 200 t_pointZ_r] → va_S A s.heap H locs → W p l e rmX9_layFlags s m args below meth c H locs 0 0 Q (F0 m 167 ls [.int y48]) := by
                          intro y48 ls H locs hf hl hP hD hS
                          unfold jX9_layFlags_167 at hf
                          refine lv_istore (lv' := [(14, .int y48), (0, .ref a_t), (1, .int x2), (5, .int x3), (6, .int v23), (7, .int 0), (8, .int y24), (9, .int y25), (10, .int y26), (11, .int y27), (12, .int x28), (13, .int y47)]) hx hb dX9_layFlags_167 hl (by decide) rfl (fun ls hl => ?_)
                          refine lv_aload_n hx hb dX9_layFlags_169 rfl (lv_at hl 1 rfl) ?_
                          refine lv_aload_n hx hb dX9_layFlags_170 rfl (lv_at hl 1 rfl) ?_
                          refine lv_iload hx hb dX9_layFlags_171 (lv_at hl 11 rfl) ?_
                          refine lv_iload hx hb dX9_layFlags_173 (lv_at hl 4 rfl) ?_
                          refine lv_imul hx hb dX9_layFlags_175 ?_
                          refine lv_iload hx hb dX9_layFlags_176 (lv_at hl 0 rfl) ?_
                          refine lv_iload hx hb dX9_layFlags_178 (lv_at hl 7 rfl) ?_
                          refine lv_imul hx hb dX9_layFlags_180 ?_
                          refine lv_iadd hx hb dX9_layFlags_181 ?_
                          obtain ⟨v49, hv49, hf⟩ := o_b1 hf
                          refine x_vi (rest := [.ref a_t]) (W1 := [x_o9 a_t t_p a_t_given t_isLaid t_isGood a_t_c t_points a_t_pointX a_t_pointY a_t_pointZ a_t_pointFlags x29 a_t_flagPoint a_t_flagU a_t_flagV a_t_flagW a_t_next a_t_series a_t_mix a_t_cofactor x30 x31 x32 a_t_square t_isNought t_sumT t_sumY, x_ar cI a_t_cofactor 6 u1, x_ar cI a_t_flagPoint 400 z33, x_ar cI a_t_flagU 400 z34, x_ar cI a_t_flagV 400 z35, x_ar cI a_t_flagW 400 z36, x_ar cI a_t_given 12 t_given_r, x_ar cI a_t_pointFlags 200 z11, x_ar cI a_t_pointX 200 t_pointX_r, x_ar cI a_t_pointY 200 t_pointY_r, x_ar cI a_t_pointZ 200 t_pointZ_r]) ⟨hx, hb, hml, hown, hts⟩ (tX9_of l D cI a_t a_t_given a_t_c a_t_pointX a_t_pointY a_t_pointZ a_t_pointFlags a_t_flagPoint a_t_flagU a_t_flagV a_t_flagW a_t_next a_t_series a_t_mix a_t_cofactor a_t_square t_p t_isLaid t_isGood t_points x29 x30 x31 x32 t_isNought t_sumT t_sumY ((y47 * v23) + (y48 * y25)) v49 hv49) (cwV 1 hts gX9_layFlags_X9_of rfl rfl rfl (by decide +kernel) ⟨Nat.le_of_ble_eq_true rfl, Nat.le_of_ble_eq_true rfl⟩) hN hK hP hD hS hA [0] [some 0, none, none, none, none, none, none, none, none, none, none] rfl rfl rfl rfl rfl rfl 0 rfl rfl rfl hl.1 rfl (Nat.le_of_ble_eq_true rfl) dX9_layFlags_182 ⟨Nat.zero_le _, Nat.zero_le _⟩ (fun H locs hP hD hS => ?_)
                          refine lv_aload_n hx hb dX9_layFlags_185 rfl (lv_at hl 1 rfl) ?_
                          refine lv_iload hx hb dX9_layFlags_186 (lv_at hl 11 rfl) ?_
                          refine lv_iload hx hb dX9_layFlags_188 (lv_at hl 5 rfl) ?_
                          refine lv_imul hx hb dX9_layFlags_190 ?_
                          refine lv_iload hx hb dX9_layFlags_191 (lv_at hl 0 rfl) ?_
                          refine lv_iload hx hb dX9_layFlags_193 (lv_at hl 8 rfl) ?_
                          refine lv_imul hx hb dX9_layFlags_195 ?_
                          refine lv_iadd hx hb dX9_layFlags_196 ?_
                          obtain ⟨v50, hv50, hf⟩ := o_b1 hf
                          refine x_vi (rest := [.int v49, .ref a_t]) (W1 := [x_o9 a_t t_p a_t_given t_isLaid t_isGood a_t_c t_points a_t_pointX a_t_pointY a_t_pointZ a_t_pointFlags x29 a_t_flagPoint a_t_flagU a_t_flagV a_t_flagW a_t_next a_t_series a_t_mix a_t_cofactor x30 x31 x32 a_t_square t_isNought t_sumT t_sumY, x_ar cI a_t_cofactor 6 u1, x_ar cI a_t_flagPoint 400 z33, x_ar cI a_t_flagU 400 z34, x_ar cI a_t_flagV 400 z35, x_ar cI a_t_flagW 400 z36, x_ar cI a_t_given 12 t_given_r, x_ar cI a_t_pointFlags 200 z11, x_ar cI a_t_pointX 200 t_pointX_r, x_ar cI a_t_pointY 200 t_pointY_r, x_ar cI a_t_pointZ 200 t_pointZ_r]) ⟨hx, hb, hml, hown, hts⟩ (tX9_of l D cI a_t a_t_given a_t_c a_t_pointX a_t_pointY a_t_pointZ a_t_pointFlags a_t_flagPoint a_t_flagU a_t_flagV a_t_flagW a_t_next a_t_series a_t_mix a_t_cofactor a_t_square t_p t_isLaid t_isGood t_points x29 x30 x31 x32 t_isNought t_sumT t_sumY ((y47 * 0) + (y48 * y26)) v50 hv50) (cwV 1 hts gX9_layFlags_X9_of rfl rfl rfl (by decide +kernel) ⟨Nat.le_of_ble_eq_true rfl, Nat.le_of_ble_eq_true rfl⟩) hN hK hP hD hS hA [0] [some 0, none, none, none, none, none, none, none, none, none, none] rfl rfl rfl rfl rfl rfl 0 rfl rfl rfl hl.1 rfl (Nat.le_of_ble_eq_true rfl) dX9_layFlags_197 ⟨Nat.zero_le _, Nat.zero_le _⟩ (fun H locs hP hD hS => ?_)
                          refine lv_aload_n hx hb dX9_layFlags_200 rfl (lv_at hl 1 rfl) ?_
                          refine lv_iload hx hb dX9_layFlags_201 (lv_at hl 11 rfl) ?_
                          refine lv_iload hx hb dX9_layFlags_203 (lv_at hl 6 rfl) ?_
                          refine lv_imul hx hb dX9_layFlags_205 ?_
                          refine lv_iload hx hb dX9_layFlags_206 (lv_at hl 0 rfl) ?_
                          refine lv_iload hx hb dX9_layFlags_208 (lv_at hl 9 rfl) ?_
                          refine lv_imul hx hb dX9_layFlags_210 ?_
                          refine lv_iadd hx hb dX9_layFlags_211 ?_
                          obtain ⟨v51, hv51, hf⟩ := o_b1 hf
                          refine x_vi (rest := [.int v50, .int v49, .ref a_t]) (W1 := [x_o9 a_t t_p a_t_given t_isLaid t_isGood a_t_c t_points a_t_pointX a_t_pointY a_t_pointZ a_t_pointFlags x29 a_t_flagPoint a_t_flagU a_t_flagV a_t_flagW a_t_next a_t_series a_t_mix a_t_cofactor x30 x31 x32 a_t_square t_isNought t_sumT t_sumY, x_ar cI a_t_cofactor 6 u1, x_ar cI a_t_flagPoint 400 z33, x_ar cI a_t_flagU 400 z34, x_ar cI a_t_flagV 400 z35, x_ar cI a_t_flagW 400 z36, x_ar cI a_t_given 12 t_given_r, x_ar cI a_t_pointFlags 200 z11, x_ar cI a_t_pointX 200 t_pointX_r, x_ar cI a_t_pointY 200 t_pointY_r, x_ar cI a_t_pointZ 200 t_pointZ_r]) ⟨hx, hb, hml, hown, hts⟩ (tX9_of l D cI a_t a_t_given a_t_c a_t_pointX a_t_pointY a_t_pointZ a_t_pointFlags a_t_flagPoint a_t_flagU a_t_flagV a_t_flagW a_t_next a_t_series a_t_mix a_t_cofactor a_t_square t_p t_isLaid t_isGood t_points x29 x30 x31 x32 t_isNought t_sumT t_sumY ((y47 * y24) + (y48 * y27)) v51 hv51) (cwV 1 hts gX9_layFlags_X9_of rfl rfl rfl (by decide +kernel) ⟨Nat.le_of_ble_eq_true rfl, Nat.le_of_ble_eq_true rfl⟩) hN hK hP hD hS hA [0] [some 0, none, none, none, none, none, none, none, none, none, none] rfl rfl rfl rfl rfl rfl 0 rfl rfl rfl hl.1 rfl (Nat.le_of_ble_eq_true rfl) dX9_layFlags_212 ⟨Nat.zero_le _, Nat.zero_le _⟩ (fun H locs hP hD hS => ?_)
                          obtain ⟨v52, v53, v54, hv52, hf⟩ := o_b3 hf
                          refine x_vv (rest := []) (W1 := [x_o9 a_t t_p a_t_given t_isLaid t_isGood a_t_c t_points a_t_pointX a_t_pointY a_t_pointZ a_t_pointFlags x29 a_t_flagPoint a_t_flagU a_t_flagV a_t_flagW a_t_next a_t_series a_t_mix a_t_cofactor v52 v53 v54 a_t_square t_isNought t_sumT t_sumY, x_ar cI a_t_cofactor 6 u1, x_ar cI a_t_flagPoint 400 z33, x_ar cI a_t_flagU 400 z34, x_ar cI a_t_flagV 400 z35, x_ar cI a_t_flagW 400 z36, x_ar cI a_t_given 12 t_given_r, x_ar cI a_t_pointFlags 200 z11, x_ar cI a_t_pointX 200 t_pointX_r, x_ar cI a_t_pointY 200 t_pointY_r, x_ar cI a_t_pointZ 200 t_pointZ_r]) ⟨hx, hb, hml, hown, hts⟩ (tX9_form l D cI a_t a_t_given a_t_c a_t_pointX a_t_pointY a_t_pointZ a_t_pointFlags a_t_flagPoint a_t_flagU a_t_flagV a_t_flagW a_t_next a_t_series a_t_mix a_t_cofactor a_t_square t_p t_isLaid t_isGood t_points x29 x30 x31 x32 t_isNought t_sumT t_sumY v49 v50 v51 v52 v53 v54 hv52) (cwV 3 hts gX9_layFlags_X9_form rfl rfl rfl (by decide +kernel) ⟨Nat.le_of_ble_eq_true rfl, Nat.le_of_ble_eq_true rfl⟩) hN hK hP hD hS hA [0] [some 0, none, none, none, none, none, none, none, none, none, none] rfl rfl rfl rfl rfl rfl 0 rfl rfl rfl hl.1 rfl (Nat.le_of_ble_eq_true rfl) dX9_layFlags_215 ⟨Nat.zero_le _, Nat.zero_le _⟩ (fun H locs hP hD hS => ?_)
                          refine lv_aload_n hx hb dX9_layFlags_218 rfl (lv_at hl 1 rfl) ?_
                          refine lv_aload_n hx hb dX9_layFlags_219 rfl (lv_at hl 1 rfl) ?_
                          refine va_get (D := D) (ci := 9) (C := RX9) (T := TX9) (N := 26) hx hb hts iX9 hown hK hP 0 rfl rfl 18 (by decide) l53 (fun _ h9 => h9) rfl dX9_layFlags_220 ?_
                          refine lv_iconst (v := 0) hx hb dX9_layFlags_223 (by decide) ?_
                          refine lv_aload_n hx hb dX9_layFlags_224 rfl (lv_at hl 1 rfl) ?_
                          refine va_get (D := D) (ci := 9) (C := RX9) (T := TX9) (N := 26) hx hb hts iX9 hown hK hP 0 rfl rfl 19 (by decide) l124 (fun _ h9 => h9) rfl dX9_layFlags_225 ?_
                          refine lv_aload_n hx hb dX9_layFlags_228 rfl (lv_at hl 1 rfl) ?_
                          refine va_get (D := D) (ci := 9) (C := RX9) (T := TX9) (N := 26) hx hb hts iX9 hown hK hP 0 rfl rfl 20 (by decide) l127 (fun _ h9 => h9) rfl dX9_layFlags_229 ?_
                          refine lv_aload_n hx hb dX9_layFlags_232 rfl (lv_at hl 1 rfl) ?_
                          refine va_get (D := D) (ci := 9) (C := RX9) (T := TX9) (N := 26) hx hb hts iX9 hown hK hP 0 rfl rfl 21 (by decide) l130 (fun _ h9 => h9) rfl dX9_layFlags_233 ?_
                          obtain ⟨v55, hv55, hf⟩ := o_b1 hf
                          refine x_vi (rest := []) (W1 := [x_o9 a_t t_p a_t_given t_isLaid t_isGood a_t_c t_points a_t_pointX a_t_pointY a_t_pointZ a_t_pointFlags x29 a_t_flagPoint a_t_flagU a_t_flagV a_t_flagW a_t_next a_t_series a_t_mix a_t_cofactor v52 v53 v54 a_t_square t_isNought t_sumT t_sumY, x_ar cI a_t_cofactor 6 u1, x_ar cI a_t_flagPoint 400 z33, x_ar cI a_t_flagU 400 z34, x_ar cI a_t_flagV 400 z35, x_ar cI a_t_flagW 400 z36, x_ar cI a_t_given 12 t_given_r, x_ar cI a_t_pointFlags 200 z11, x_ar cI a_t_pointX 200 t_pointX_r, x_ar cI a_t_pointY 200 t_pointY_r, x_ar cI a_t_pointZ 200 t_pointZ_r]) ⟨hx, hb, hml, hown, hts⟩ (tX9_both l D cI a_t a_t_cofactor a_t_given a_t_c a_t_pointX a_t_pointY a_t_pointZ a_t_pointFlags a_t_flagPoint a_t_flagU a_t_flagV a_t_flagW a_t_next a_t_series a_t_mix a_t_cofactor a_t_square 6 t_p t_isLaid t_isGood t_points x29 v52 v53 v54 t_isNought t_sumT t_sumY u1 0 v52 v53 v54 v55 hv55) (cwV 5 hts gX9_layFlags_X9_both rfl rfl rfl (by decide +kernel) ⟨Nat.le_of_ble_eq_true rfl, Nat.le_of_ble_eq_true rfl⟩) hN hK hP hD hS hA [0, 1] [some 0, some 1, none, none, none, none, none, none, none, none, none] rfl rfl rfl rfl rfl rfl 0 rfl rfl rfl hl.1 rfl (Nat.le_of_ble_eq_true rfl) dX9_layFlags_236 ⟨Nat.zero_le _, Nat.zero_le _⟩ (fun H locs hP hD hS => ?_)
                          have J249 : ∀ (y56 : Int32) (w57 : (Nat → Int32)) (w58 : (Nat → Int32)) (w59 : (Nat → Int32)) (w60 : (Nat → Int32)) (ls : Array Slot) (H : Heap) (locs : List Loc), jX9_layFlags_249 x28 (gX9_layFlags_127 t_p u1 x2 x3 v23 y24 y25 y26 y27 (kX9_layFlags_255 x2 x3 z11 (gX9_layFlags_17 t_p t_points t_pointX_r t_pointY_r t_pointZ_r u1 (kX9_layFlags_274 u1) n17)) n127) v52 v53 v54 y56 w57 w58 w59 w60 = some (s_t_flags, s_t_formX, s_t_formY, s_t_formZ, s_t_cofactor_r, s_t_flagPoint_r, s_t_flagU_r, s_t_flagV_r, s_t_flagW_r, s_t_pointFlags_r) → lv_has ls 15 [(0, .ref a_t), (1, .int x2), (5, .int x3), (6, .int v23), (7, .int 0), (8, .int y24), (9, .int y25), (10, .int y26), (11, .int y27), (12, .int x28)] → va_P D vwCl [x_o9 a_t t_p a_t_given t_isLaid t_isGood a_t_c t_points a_t_pointX a_t_pointY a_t_pointZ a_t_pointFlags y56 a_t_flagPoint a_t_flagU a_t_flagV a_t_flagW a_t_next a_t_series a_t_mix a_t_cofactor v52 v53 v54 a_t_square t_isNought t_sumT t_sumY, x_ar cI a_t_cofactor 6 u1, x_ar cI a_t_flagPoint 400 w57, x_ar cI a_t_flagU 400 w58, x_ar cI a_t_flagV 400 w59, x_ar cI a_t_flagW 400 w60, x_ar cI a_t_given 12 t_given_r, x_ar cI a_t_pointFlags 200 z11, x_ar cI a_t_pointX 200 t_pointX_r, x_ar cI a_t_pointY 200 t_pointY_r, x_ar cI a_t_pointZ 200 t_pointZ_r] H → va_D A [x_o9 a_t t_p a_t_given t_isLaid t_isGood a_t_c t_points a_t_pointX a_t_pointY a_t_pointZ a_t_pointFlags y56 a_t_flagPoint a_t_flagU a_t_flagV a_t_flagW a_t_next a_t_series a_t_mix a_t_cofactor v52 v53 v54 a_t_square t_isNought t_sumT t_sumY, x_ar cI a_t_cofactor 6 u1, x_ar cI a_t_flagPoint 400 w57, x_ar cI a_t_flagU 400 w58, x_ar cI a_t_flagV 400 w59, x_ar cI a_t_flagW 400 w60, x_ar cI a_t_given 12 t_given_r, x_ar cI a_t_pointFlags 200 z11, x_ar cI a_t_pointX 200 t_pointX_r, x_ar cI a_t_pointY 200 t_pointY_r, x_ar cI a_t_pointZ 200 t_pointZ_r] → va_S A s.heap H locs → W p l e rmX9_layFlags s m args below meth c H locs 0 0 Q (F0 m 249 ls []) := by
                            intro y56 w57 w58 w59 w60 ls H locs hf hl hP hD hS
                            unfold jX9_layFlags_249 at hf
                            obtain ⟨v61, ev61, hf⟩ := o_nm hf
                            refine lv_iinc (v := v61) (lv' := [(12, .int v61), (0, .ref a_t), (1, .int x2), (5, .int x3), (6, .int v23), (7, .int 0), (8, .int y24), (9, .int y25), (10, .int y26), (11, .int y27)]) hx hb dX9_layFlags_249 hl (k := 9) rfl (by rw [ev61]; rfl) (by decide) rfl (fun ls hl => ?_)
                            refine lv_goto (tgt := 127) hx hb dX9_layFlags_252 (by decide) ?_
                            exact ih127 v61 y56 v52 v53 v54 w57 w58 w59 w60 _ _ _ hf (lv_sub hl [1, 2, 3, 4, 5, 6, 7, 8, 9, 0] rfl) hP hD hS
                          refine lv_if_ne (tgt := 249) hx hb dX9_layFlags_239 (by decide) (fun hc => ?_) (fun hc => ?_)
                          · have hf := o_f hf hc
                            exact J249 x29 z33 z34 z35 z36 _ _ _ hf (lv_sub hl [1, 2, 3, 4, 5, 6, 7, 8, 9, 10] rfl) hP hD hS
                          · have hf := o_t hf hc
                            refine lv_aload_n hx hb dX9_layFlags_242 rfl (lv_at hl 1 rfl) ?_
                            refine lv_iload_n hx hb dX9_layFlags_243 rfl (lv_at hl 2 rfl) ?_
                            refine lv_iload hx hb dX9_layFlags_244 (lv_at hl 3 rfl) ?_
                            obtain ⟨v62, u63, u64, u65, u66, hv62, hf⟩ := o_b5 hf
                            refine x_vv (rest := []) (W1 := [x_o9 a_t t_p a_t_given t_isLaid t_isGood a_t_c t_points a_t_pointX a_t_pointY a_t_pointZ a_t_pointFlags v62 a_t_flagPoint a_t_flagU a_t_flagV a_t_flagW a_t_next a_t_series a_t_mix a_t_cofactor v52 v53 v54 a_t_square t_isNought t_sumT t_sumY, x_ar cI a_t_cofactor 6 u1, x_ar cI a_t_flagPoint 400 u63, x_ar cI a_t_flagU 400 u64, x_ar cI a_t_flagV 400 u65, x_ar cI a_t_flagW 400 u66, x_ar cI a_t_given 12 t_given_r, x_ar cI a_t_pointFlags 200 z11, x_ar cI a_t_pointX 200 t_pointX_r, x_ar cI a_t_pointY 200 t_pointY_r, x_ar cI a_t_pointZ 200 t_pointZ_r]) ⟨hx, hb, hml, hown, hts⟩ (tX9_addFlag l D cI a_t a_t_given a_t_c a_t_pointX a_t_pointY a_t_pointZ a_t_pointFlags a_t_flagPoint a_t_flagU a_t_flagV a_t_flagW a_t_next a_t_series a_t_mix a_t_cofactor a_t_square t_p t_isLaid t_isGood t_points x29 v52 v53 v54 t_isNought t_sumT t_sumY z33 z34 z35 z36 x2 x3 v62 u63 u64 u65 u66 hv62) (cwV 2 hts gX9_layFlags_X9_addFlag rfl rfl rfl (by decide +kernel) ⟨Nat.le_of_ble_eq_true rfl, Nat.le_of_ble_eq_true rfl⟩) hN hK hP hD hS hA [0, 2, 3, 4, 5] [some 0, none, some 1, some 2, some 3, some 4, none, none, none, none, none] rfl rfl rfl rfl rfl rfl 0 rfl rfl rfl hl.1 rfl (Nat.le_of_ble_eq_true rfl) dX9_layFlags_246 ⟨Nat.zero_le _, Nat.zero_le _⟩ (fun H locs hP hD hS => ?_)
                            exact J249 v62 u63 u64 u65 u66 _ _ _ hf (lv_sub hl [1, 2, 3, 4, 5, 6, 7, 8, 9, 10] rfl) hP hD hS
                        refine lv_icmp_ge (tgt := 166) hx hb dX9_layFlags_159 (by decide) (fun hc => ?_) (fun hc => ?_)
                        · have hf := o_t hf hc
                          refine lv_iconst (v := 0) hx hb dX9_layFlags_166 (by decide) ?_
                          exact J167 0 _ _ _ hf (lv_sub hl [1, 2, 3, 4, 5, 6, 7, 8, 9, 10, 0] rfl) hP hD hS
                        · have hf := o_f hf hc
                          refine lv_iconst (v := 1) hx hb dX9_layFlags_162 (by decide) ?_
                          refine lv_goto (tgt := 167) hx hb dX9_layFlags_163 (by decide) ?_
                          exact J167 1 _ _ _ hf (lv_sub hl [1, 2, 3, 4, 5, 6, 7, 8, 9, 10, 0] rfl) hP hD hS
                      refine lv_icmp_ge (tgt := 150) hx hb dX9_layFlags_142 (by decide) (fun hc => ?_) (fun hc => ?_)
                      · have hf := o_t hf hc
                        refine lv_iconst (v := 1) hx hb dX9_layFlags_150 (by decide) ?_
                        exact J151 1 _ _ _ hf (lv_sub hl [0, 1, 2, 3, 4, 5, 6, 7, 8, 9] rfl) hP hD hS
                      · have hf := o_f hf hc
                        refine lv_iload hx hb dX9_layFlags_145 (lv_at hl 9 rfl) ?_
                        refine lv_goto (tgt := 151) hx hb dX9_layFlags_147 (by decide) ?_
                        exact J151 x28 _ _ _ hf (lv_sub hl [0, 1, 2, 3, 4, 5, 6, 7, 8, 9] rfl) hP hD hS
                exact L127 p_FU 0 x3 x4 x5 x6 z7 z8 z9 z10 _ _ _ hf (lv_sub hl [2, 3, 4, 5, 6, 7, 8, 9, 1, 0] rfl) hP hD hS
              refine lv_if_eq (tgt := 121) hx hb dX9_layFlags_109 (by decide) (fun hc => ?_) (fun hc => ?_)
              · have hf := o_t hf hc
                refine lv_iconst (v := 0) hx hb dX9_layFlags_121 (by decide) ?_
                exact J122 0 _ _ _ hf (lv_sub hl [1, 2, 5, 6, 7, 8, 9, 0] rfl) hP hD hS
              · have hf := o_f hf hc
                refine lv_aload_n hx hb dX9_layFlags_112 rfl (lv_at hl 1 rfl) ?_
                refine lv_iload_n hx hb dX9_layFlags_113 rfl (lv_at hl 3 rfl) ?_
                refine lv_ineg hx hb dX9_layFlags_114 ?_
                obtain ⟨v67, hv67, hf⟩ := o_b1 hf
                refine x_vi (rest := []) (W1 := [x_o9 a_t t_p a_t_given t_isLaid t_isGood a_t_c t_points a_t_pointX a_t_pointY a_t_pointZ a_t_pointFlags x3 a_t_flagPoint a_t_flagU a_t_flagV a_t_flagW a_t_next a_t_series a_t_mix a_t_cofactor x4 x5 x6 a_t_square t_isNought t_sumT t_sumY, x_ar cI a_t_cofactor 6 u1, x_ar cI a_t_flagPoint 400 z7, x_ar cI a_t_flagU 400 z8, x_ar cI a_t_flagV 400 z9, x_ar cI a_t_flagW 400 z10, x_ar cI a_t_given 12 t_given_r, x_ar cI a_t_pointFlags 200 z11, x_ar cI a_t_pointX 200 t_pointX_r, x_ar cI a_t_pointY 200 t_pointY_r, x_ar cI a_t_pointZ 200 t_pointZ_r]) ⟨hx, hb, hml, hown, hts⟩ (tX9_of l D cI a_t a_t_given a_t_c a_t_pointX a_t_pointY a_t_pointZ a_t_pointFlags a_t_flagPoint a_t_flagU a_t_flagV a_t_flagW a_t_next a_t_series a_t_mix a_t_cofactor a_t_square t_p t_isLaid t_isGood t_points x3 x4 x5 x6 t_isNought t_sumT t_sumY (-v22) v67 hv67) (cwV 1 hts gX9_layFlags_X9_of rfl rfl rfl (by decide +kernel) ⟨Nat.le_of_ble_eq_true rfl, Nat.le_of_ble_eq_true rfl⟩) hN hK hP hD hS hA [0] [some 0, none, none, none, none, none, none, none, none, none, none] rfl rfl rfl rfl rfl rfl 0 rfl rfl rfl hl.1 rfl (Nat.le_of_ble_eq_true rfl) dX9_layFlags_115 ⟨Nat.zero_le _, Nat.zero_le _⟩ (fun H locs hP hD hS => ?_)
                refine lv_goto (tgt := 122) hx hb dX9_layFlags_118 (by decide) ?_
                exact J122 v67 _ _ _ hf (lv_sub hl [1, 2, 5, 6, 7, 8, 9, 0] rfl) hP hD hS
            refine lv_if_eq (tgt := 99) hx hb dX9_layFlags_91 (by decide) (fun hc => ?_) (fun hc => ?_)
            · have hf := o_t hf hc
              refine lv_aload_n hx hb dX9_layFlags_99 rfl (lv_at hl 1 rfl) ?_
              refine lv_iload_n hx hb dX9_layFlags_100 rfl (lv_at hl 3 rfl) ?_
              refine lv_ineg hx hb dX9_layFlags_101 ?_
              obtain ⟨v68, hv68, hf⟩ := o_b1 hf
              refine x_vi (rest := []) (W1 := [x_o9 a_t t_p a_t_given t_isLaid t_isGood a_t_c t_points a_t_pointX a_t_pointY a_t_pointZ a_t_pointFlags x3 a_t_flagPoint a_t_flagU a_t_flagV a_t_flagW a_t_next a_t_series a_t_mix a_t_cofactor x4 x5 x6 a_t_square t_isNought t_sumT t_sumY, x_ar cI a_t_cofactor 6 u1, x_ar cI a_t_flagPoint 400 z7, x_ar cI a_t_flagU 400 z8, x_ar cI a_t_flagV 400 z9, x_ar cI a_t_flagW 400 z10, x_ar cI a_t_given 12 t_given_r, x_ar cI a_t_pointFlags 200 z11, x_ar cI a_t_pointX 200 t_pointX_r, x_ar cI a_t_pointY 200 t_pointY_r, x_ar cI a_t_pointZ 200 t_pointZ_r]) ⟨hx, hb, hml, hown, hts⟩ (tX9_of l D cI a_t a_t_given a_t_c a_t_pointX a_t_pointY a_t_pointZ a_t_pointFlags a_t_flagPoint a_t_flagU a_t_flagV a_t_flagW a_t_next a_t_series a_t_mix a_t_cofactor a_t_square t_p t_isLaid t_isGood t_points x3 x4 x5 x6 t_isNought t_sumT t_sumY (-v21) v68 hv68) (cwV 1 hts gX9_layFlags_X9_of rfl rfl rfl (by decide +kernel) ⟨Nat.le_of_ble_eq_true rfl, Nat.le_of_ble_eq_true rfl⟩) hN hK hP hD hS hA [0] [some 0, none, none, none, none, none, none, none, none, none, none] rfl rfl rfl rfl rfl rfl 0 rfl rfl rfl hl.1 rfl (Nat.le_of_ble_eq_true rfl) dX9_layFlags_102 ⟨Nat.zero_le _, Nat.zero_le _⟩ (fun H locs hP hD hS => ?_)
              exact J105 v68 _ _ _ hf (lv_sub hl [1, 2, 4, 5, 6, 7, 8, 9, 0] rfl) hP hD hS
            · have hf := o_f hf hc
              refine lv_iload hx hb dX9_layFlags_94 (lv_at hl 5 rfl) ?_
              refine lv_goto (tgt := 105) hx hb dX9_layFlags_96 (by decide) ?_
              exact J105 v23 _ _ _ hf (lv_sub hl [1, 2, 4, 5, 6, 7, 8, 9, 0] rfl) hP hD hS
          refine lv_if_eq (tgt := 86) hx hb dX9_layFlags_79 (by decide) (fun hc => ?_) (fun hc => ?_)
          · have hf := o_t hf hc
            refine lv_iload_n hx hb dX9_layFlags_86 rfl (lv_at hl 4 rfl) ?_
            exact J87 v22 _ _ _ hf (lv_sub hl [1, 2, 3, 4, 5, 6, 7, 8, 0] rfl) hP hD hS
          · have hf := o_f hf hc
            refine lv_iconst (v := 0) hx hb dX9_layFlags_82 (by decide) ?_
            refine lv_goto (tgt := 87) hx hb dX9_layFlags_83 (by decide) ?_
            exact J87 0 _ _ _ hf (lv_sub hl [1, 2, 3, 4, 5, 6, 7, 8, 0] rfl) hP hD hS
        refine lv_if_eq (tgt := 74) hx hb dX9_layFlags_62 (by decide) (fun hc => ?_) (fun hc => ?_)
        · have hf := o_t hf hc
          refine lv_iconst (v := 1) hx hb dX9_layFlags_74 (by decide) ?_
          exact J75 1 _ _ _ hf (lv_sub hl [6, 7, 5, 4, 3, 2, 1, 0] rfl) hP hD hS
        · have hf := o_f hf hc
          refine lv_aload_n hx hb dX9_layFlags_65 rfl (lv_at hl 6 rfl) ?_
          refine lv_iload_n hx hb dX9_layFlags_66 rfl (lv_at hl 5 rfl) ?_
          refine lv_ineg hx hb dX9_layFlags_67 ?_
          obtain ⟨v69, hv69, hf⟩ := o_b1 hf
          refine x_vi (rest := []) (W1 := [x_o9 a_t t_p a_t_given t_isLaid t_isGood a_t_c t_points a_t_pointX a_t_pointY a_t_pointZ a_t_pointFlags x3 a_t_flagPoint a_t_flagU a_t_flagV a_t_flagW a_t_next a_t_series a_t_mix a_t_cofactor x4 x5 x6 a_t_square t_isNought t_sumT t_sumY, x_ar cI a_t_cofactor 6 u1, x_ar cI a_t_flagPoint 400 z7, x_ar cI a_t_flagU 400 z8, x_ar cI a_t_flagV 400 z9, x_ar cI a_t_flagW 400 z10, x_ar cI a_t_given 12 t_given_r, x_ar cI a_t_pointFlags 200 z11, x_ar cI a_t_pointX 200 t_pointX_r, x_ar cI a_t_pointY 200 t_pointY_r, x_ar cI a_t_pointZ 200 t_pointZ_r]) ⟨hx, hb, hml, hown, hts⟩ (tX9_of l D cI a_t a_t_given a_t_c a_t_pointX a_t_pointY a_t_pointZ a_t_pointFlags a_t_flagPoint a_t_flagU a_t_flagV a_t_flagW a_t_next a_t_series a_t_mix a_t_cofactor a_t_square t_p t_isLaid t_isGood t_points x3 x4 x5 x6 t_isNought t_sumT t_sumY (-v21) v69 hv69) (cwV 1 hts gX9_layFlags_X9_of rfl rfl rfl (by decide +kernel) ⟨Nat.le_of_ble_eq_true rfl, Nat.le_of_ble_eq_true rfl⟩) hN hK hP hD hS hA [0] [some 0, none, none, none, none, none, none, none, none, none, none] rfl rfl rfl rfl rfl rfl 0 rfl rfl rfl hl.1 rfl (Nat.le_of_ble_eq_true rfl) dX9_layFlags_68 ⟨Nat.zero_le _, Nat.zero_le _⟩ (fun H locs hP hD hS => ?_)
          refine lv_goto (tgt := 75) hx hb dX9_layFlags_71 (by decide) ?_
          exact J75 v69 _ _ _ hf (lv_sub hl [6, 7, 5, 4, 3, 2, 1, 0] rfl) hP hD hS
  exact L17 p_FU 0 0 t_formX t_formY t_formZ t_flagPoint_r t_flagU_r t_flagV_r t_flagW_r t_pointFlags_r _ _ _ hf (lv_sub hl [1, 0] rfl) hP hD hS
noncomputable def kX9_layPoints_212 (y6 : Int32) (w7 : (Nat → Int32)) (w8 : (Nat → Int32)) (w9 : (Nat → Int32)) : Option (Int32 × (Nat → Int32) × (Nat → Int32) × (Nat → Int32)) :=
  some (y6, w7, w8, w9)
noncomputable def jX9_layPoints_206 (x1 : Int32) (rec7 : Int32 → Int32 → (Nat → Int32) → (Nat → Int32) → (Nat → Int32) → Option (Int32 × (Nat → Int32) × (Nat → Int32) × (Nat → Int32))) (y14 : Int32) (w15 : (Nat → Int32)) (w16 : (Nat → Int32)) (w17 : (Nat → Int32)) : Option (Int32 × (Nat → Int32) × (Nat → Int32) × (Nat → Int32)) :=
  p_nm (x1 + 1) (fun v18 =>
rec7 v18 y14 w15 w16 w17)
noncomputable def jX9_layPoints_147 (t_p : Int32) (t_given_r : (Nat → Int32)) (x1 : Int32) (x2 : Int32) (z3 : (Nat → Int32)) (z4 : (Nat → Int32)) (z5 : (Nat → Int32)) (rec7 : Int32 → Int32 → (Nat → Int32) → (Nat → Int32) → (Nat → Int32) → Option (Int32 × (Nat → Int32) × (Nat → Int32) × (Nat → Int32))) (y10 : Int32) (y11 : Int32) (y12 : Int32) : Option (Int32 × (Nat → Int32) × (Nat → Int32) × (Nat → Int32)) :=
  p_b1 (fX9_both 12 t_p t_given_r 0 y10 y11 y12) (fun v13 =>
if v13 = 0 then (p_b1 (p_st z3 200 x2 y10) (fun u19 =>
p_b1 (p_st z4 200 x2 y11) (fun u20 =>
p_b1 (p_st z5 200 x2 y12) (fun u21 =>
p_nm (x2 + 1) (fun v22 =>
jX9_layPoints_206 x1 rec7 v22 u19 u20 u21))))) else (jX9_layPoints_206 x1 rec7 x2 z3 z4 z5))
noncomputable def jX9_layPoints_128 (t_p : Int32) (t_given_r : (Nat → Int32)) (x1 : Int32) (x2 : Int32) (z3 : (Nat → Int32)) (z4 : (Nat → Int32)) (z5 : (Nat → Int32)) (rec7 : Int32 → Int32 → (Nat → Int32) → (Nat → Int32) → (Nat → Int32) → Option (Int32 × (Nat → Int32) × (Nat → Int32) × (Nat → Int32))) (y10 : Int32) (y11 : Int32) : Option (Int32 × (Nat → Int32) × (Nat → Int32) × (Nat → Int32)) :=
  if (t_p * t_p) ≤ x1 then (jX9_layPoints_147 t_p t_given_r x1 x2 z3 z4 z5 rec7 y10 y11 0) else (jX9_layPoints_147 t_p t_given_r x1 x2 z3 z4 z5 rec7 y10 y11 1)
noncomputable def jX9_layPoints_82 (t_p : Int32) (t_given_r : (Nat → Int32)) (x1 : Int32) (x2 : Int32) (z3 : (Nat → Int32)) (z4 : (Nat → Int32)) (z5 : (Nat → Int32)) (rec7 : Int32 → Int32 → (Nat → Int32) → (Nat → Int32) → (Nat → Int32) → Option (Int32 × (Nat → Int32) × (Nat → Int32) × (Nat → Int32))) (y10 : Int32) : Option (Int32 × (Nat → Int32) × (Nat → Int32) × (Nat → Int32)) :=
  if (t_p * t_p) ≤ x1 then (if ((t_p * t_p) + t_p) ≤ x1 then (jX9_layPoints_128 t_p t_given_r x1 x2 z3 z4 z5 rec7 y10 0) else (jX9_layPoints_128 t_p t_given_r x1 x2 z3 z4 z5 rec7 y10 1)) else (p_b1 (p_dv x1 t_p) (fun v23 =>
jX9_layPoints_128 t_p t_given_r x1 x2 z3 z4 z5 rec7 y10 v23))
noncomputable def FgX9_layPoints_7 (t_p : Int32) (t_given_r : (Nat → Int32)) (rec7 : Int32 → Int32 → (Nat → Int32) → (Nat → Int32) → (Nat → Int32) → Option (Int32 × (Nat → Int32) × (Nat → Int32) × (Nat → Int32))) (kk7 : Int32 → (Nat → Int32) → (Nat → Int32) → (Nat → Int32) → Option (Int32 × (Nat → Int32) × (Nat → Int32) × (Nat → Int32))) (x1 : Int32) (x2 : Int32) (z3 : (Nat → Int32)) (z4 : (Nat → Int32)) (z5 : (Nat → Int32)) : Option (Int32 × (Nat → Int32) × (Nat → Int32) × (Nat → Int32)) :=
  if (((t_p * t_p) + t_p) + 1) ≤ x1 then (kk7 x2 z3 z4 z5) else (if (t_p * t_p) ≤ x1 then (if ((t_p * t_p) + t_p) ≤ x1 then (jX9_layPoints_82 t_p t_given_r x1 x2 z3 z4 z5 rec7 1) else (jX9_layPoints_82 t_p t_given_r x1 x2 z3 z4 z5 rec7 (x1 - (t_p * t_p)))) else (p_b1 (p_rm x1 t_p) (fun v24 =>
jX9_layPoints_82 t_p t_given_r x1 x2 z3 z4 z5 rec7 v24)))
noncomputable def gX9_layPoints_7 (t_p : Int32) (t_given_r : (Nat → Int32)) (kk7 : Int32 → (Nat → Int32) → (Nat → Int32) → (Nat → Int32) → Option (Int32 × (Nat → Int32) × (Nat → Int32) × (Nat → Int32))) (n : Nat) : Int32 → Int32 → (Nat → Int32) → (Nat → Int32) → (Nat → Int32) → Option (Int32 × (Nat → Int32) × (Nat → Int32) × (Nat → Int32)) := Nat.rec (motive := fun _ => Int32 → Int32 → (Nat → Int32) → (Nat → Int32) → (Nat → Int32) → Option (Int32 × (Nat → Int32) × (Nat → Int32) × (Nat → Int32))) (fun _ _ _ _ _ => none) (fun _ rec7 => FgX9_layPoints_7 t_p t_given_r rec7 kk7) n
noncomputable def fX9_layPoints (t_p : Int32) (t_points : Int32) (t_given_r : (Nat → Int32)) (t_pointX_r : (Nat → Int32)) (t_pointY_r : (Nat → Int32)) (t_pointZ_r : (Nat → Int32)) : Option (Int32 × (Nat → Int32) × (Nat → Int32) × (Nat → Int32)) :=
  gX9_layPoints_7 t_p t_given_r (kX9_layPoints_212) p_FU 0 0 t_pointX_r t_pointY_r t_pointZ_r
def rmX9_layPoints : Room := { frames := 2, cells := 0, slots := 0, locals := 50 }
set_option maxHeartbeats 4000000 in
set_option maxRecDepth 100000 in
theorem tX9_layPoints (l : Launch) (D : va_G) (cI : ClassId) (a_t : Nat) (a_t_given : Nat) (a_t_c : Nat) (a_t_pointX : Nat) (a_t_pointY : Nat) (a_t_pointZ : Nat) (a_t_pointFlags : Nat) (a_t_flagPoint : Nat) (a_t_flagU : Nat) (a_t_flagV : Nat) (a_t_flagW : Nat) (a_t_next : Nat) (a_t_series : Nat) (a_t_mix : Nat) (a_t_cofactor : Nat) (a_t_square : Nat) (t_p : Int32) (t_isLaid : Int32) (t_isGood : Int32) (t_points : Int32) (t_flags : Int32) (t_formX : Int32) (t_formY : Int32) (t_formZ : Int32) (t_isNought : Int32) (t_sumT : Int32) (t_sumY : Int32) (t_given_r : (Nat → Int32)) (t_pointX_r : (Nat → Int32)) (t_pointY_r : (Nat → Int32)) (t_pointZ_r : (Nat → Int32)) (s_t_points : Int32) (s_t_pointX_r : (Nat → Int32)) (s_t_pointY_r : (Nat → Int32)) (s_t_pointZ_r : (Nat → Int32)) (hf : fX9_layPoints t_p t_points t_given_r t_pointX_r t_pointY_r t_pointZ_r = some (s_t_points, s_t_pointX_r, s_t_pointY_r, s_t_pointZ_r)) : x_CV l D cI yX9_layPoints wsX9_layPoints rmX9_layPoints [.ref a_t] [x_o9 a_t t_p a_t_given t_isLaid t_isGood a_t_c t_points a_t_pointX a_t_pointY a_t_pointZ a_t_pointFlags t_flags a_t_flagPoint a_t_flagU a_t_flagV a_t_flagW a_t_next a_t_series a_t_mix a_t_cofactor t_formX t_formY t_formZ a_t_square t_isNought t_sumT t_sumY, x_ar cI a_t_given 12 t_given_r, x_ar cI a_t_pointX 200 t_pointX_r, x_ar cI a_t_pointY 200 t_pointY_r, x_ar cI a_t_pointZ 200 t_pointZ_r] [x_o9 a_t t_p a_t_given t_isLaid t_isGood a_t_c s_t_points a_t_pointX a_t_pointY a_t_pointZ a_t_pointFlags t_flags a_t_flagPoint a_t_flagU a_t_flagV a_t_flagW a_t_next a_t_series a_t_mix a_t_cofactor t_formX t_formY t_formZ a_t_square t_isNought t_sumT t_sumY, x_ar cI a_t_given 12 t_given_r, x_ar cI a_t_pointX 200 s_t_pointX_r, x_ar cI a_t_pointY 200 s_t_pointY_r, x_ar cI a_t_pointZ 200 s_t_pointZ_r] := by
  refine x_CV_of (cc := cX9_layPoints) (maxL := 5) (own := RX9) (lv0 := [(0, .ref a_t)]) (by decide) rfl rfl (Nat.le_of_ble_eq_true rfl) rfl ?_
  intro p e s m args below meth c A Q ls hx hb hml hown hts hN hK hP hD hS hA hl hret
  have iX9 : ∀ w ∈ u_ws RX9 TX9 26, w ∈ wsX9_layPoints := by decide +kernel
  have l137 := hts (.fieldLink RX9 137 "ChordRingsModel" "points" "I") (by decide +kernel)
  have l7 := hts (.fieldLink RX9 7 "ChordRingsModel" "p" "I") (by decide +kernel)
  have l13 := hts (.fieldLink RX9 13 "ChordRingsModel" "given" "[I") (by decide +kernel)
  have l20 := hts (.fieldLink RX9 20 "ChordRingsModel" "pointX" "[I") (by decide +kernel)
  have l23 := hts (.fieldLink RX9 23 "ChordRingsModel" "pointY" "[I") (by decide +kernel)
  have l26 := hts (.fieldLink RX9 26 "ChordRingsModel" "pointZ" "[I") (by decide +kernel)
  unfold fX9_layPoints at hf
  refine lv_aload_n hx hb dX9_layPoints_0 rfl (lv_at hl 0 rfl) ?_
  refine lv_iconst (v := 0) hx hb dX9_layPoints_1 (by decide) ?_
  refine x_put (W1 := [x_o9 a_t t_p a_t_given t_isLaid t_isGood a_t_c 0 a_t_pointX a_t_pointY a_t_pointZ a_t_pointFlags t_flags a_t_flagPoint a_t_flagU a_t_flagV a_t_flagW a_t_next a_t_series a_t_mix a_t_cofactor t_formX t_formY t_formZ a_t_square t_isNought t_sumT t_sumY, x_ar cI a_t_given 12 t_given_r, x_ar cI a_t_pointX 200 t_pointX_r, x_ar cI a_t_pointY 200 t_pointY_r, x_ar cI a_t_pointZ 200 t_pointZ_r]) (ty := .int) (C := RX9) (T := TX9) (N := 26) hx hb hts iX9 tyX9 tyX9_ok nmX9 hown hK hP hD hS 0 rfl rfl 5 (by decide) l137 rfl rfl (by decide +kernel) rfl rfl (Nat.le_of_ble_eq_true rfl) rfl dX9_layPoints_2 (fun H locs hP hD hS => ?_)
  refine lv_iconst (v := 0) hx hb dX9_layPoints_5 (by decide) ?_
  refine lv_istore_n (lv' := [(1, .int 0), (0, .ref a_t)]) hx hb dX9_layPoints_6 rfl hl (by decide) rfl (fun ls hl => ?_)
  have L7 : ∀ (n : Nat) (x1 : Int32) (x2 : Int32) (z3 : (Nat → Int32)) (z4 : (Nat → Int32)) (z5 : (Nat → Int32)) (ls : Array Slot) (H : Heap) (locs : List Loc), gX9_layPoints_7 t_p t_given_r (kX9_layPoints_212) n x1 x2 z3 z4 z5 = some (s_t_points, s_t_pointX_r, s_t_pointY_r, s_t_pointZ_r) → lv_has ls 5 [(0, .ref a_t), (1, .int x1)] → va_P D vwCl [x_o9 a_t t_p a_t_given t_isLaid t_isGood a_t_c x2 a_t_pointX a_t_pointY a_t_pointZ a_t_pointFlags t_flags a_t_flagPoint a_t_flagU a_t_flagV a_t_flagW a_t_next a_t_series a_t_mix a_t_cofactor t_formX t_formY t_formZ a_t_square t_isNought t_sumT t_sumY, x_ar cI a_t_given 12 t_given_r, x_ar cI a_t_pointX 200 z3, x_ar cI a_t_pointY 200 z4, x_ar cI a_t_pointZ 200 z5] H → va_D A [x_o9 a_t t_p a_t_given t_isLaid t_isGood a_t_c x2 a_t_pointX a_t_pointY a_t_pointZ a_t_pointFlags t_flags a_t_flagPoint a_t_flagU a_t_flagV a_t_flagW a_t_next a_t_series a_t_mix a_t_cofactor t_formX t_formY t_formZ a_t_square t_isNought t_sumT t_sumY, x_ar cI a_t_given 12 t_given_r, x_ar cI a_t_pointX 200 z3, x_ar cI a_t_pointY 200 z4, x_ar cI a_t_pointZ 200 z5] → va_S A s.heap H locs → W p l e rmX9_layPoints s m args below meth c H locs 0 0 Q (F0 m 7 ls []) := by
    intro n7
    induction n7 with
    | zero =>
      intro x1 x2 z3 z4 z5 ls H locs hf
      exact nomatch (show (none : Option (Int32 × (Nat → Int32) × (Nat → Int32) × (Nat → Int32))) = some (s_t_points, s_t_pointX_r, s_t_pointY_r, s_t_pointZ_r) from hf)
    | succ n7 ih7 =>
      intro x1 x2 z3 z4 z5 ls H locs hf hl hP hD hS
      have hf : FgX9_layPoints_7 t_p t_given_r (gX9_layPoints_7 t_p t_given_r (kX9_layPoints_212) n7) (kX9_layPoints_212) x1 x2 z3 z4 z5 = some (s_t_points, s_t_pointX_r, s_t_pointY_r, s_t_pointZ_r) := hf
      unfold FgX9_layPoints_7 at hf
      refine lv_iload_n hx hb dX9_layPoints_7 rfl (lv_at hl 1 rfl) ?_
      refine lv_aload_n hx hb dX9_layPoints_8 rfl (lv_at hl 0 rfl) ?_
      refine va_get (D := D) (ci := 9) (C := RX9) (T := TX9) (N := 26) hx hb hts iX9 hown hK hP 0 rfl rfl 0 (by decide) l7 (fun _ h9 => h9) rfl dX9_layPoints_9 ?_
      refine lv_aload_n hx hb dX9_layPoints_12 rfl (lv_at hl 0 rfl) ?_
      refine va_get (D := D) (ci := 9) (C := RX9) (T := TX9) (N := 26) hx hb hts iX9 hown hK hP 0 rfl rfl 0 (by decide) l7 (fun _ h9 => h9) rfl dX9_layPoints_13 ?_
      refine lv_imul hx hb dX9_layPoints_16 ?_
      refine lv_aload_n hx hb dX9_layPoints_17 rfl (lv_at hl 0 rfl) ?_
      refine va_get (D := D) (ci := 9) (C := RX9) (T := TX9) (N := 26) hx hb hts iX9 hown hK hP 0 rfl rfl 0 (by decide) l7 (fun _ h9 => h9) rfl dX9_layPoints_18 ?_
      refine lv_iadd hx hb dX9_layPoints_21 ?_
      refine lv_iconst (v := 1) hx hb dX9_layPoints_22 (by decide) ?_
      refine lv_iadd hx hb dX9_layPoints_23 ?_
      have J212 : ∀ (y6 : Int32) (w7 : (Nat → Int32)) (w8 : (Nat → Int32)) (w9 : (Nat → Int32)) (ls : Array Slot) (H : Heap) (locs : List Loc), kX9_layPoints_212 y6 w7 w8 w9 = some (s_t_points, s_t_pointX_r, s_t_pointY_r, s_t_pointZ_r) → lv_has ls 5 [] → va_P D vwCl [x_o9 a_t t_p a_t_given t_isLaid t_isGood a_t_c y6 a_t_pointX a_t_pointY a_t_pointZ a_t_pointFlags t_flags a_t_flagPoint a_t_flagU a_t_flagV a_t_flagW a_t_next a_t_series a_t_mix a_t_cofactor t_formX t_formY t_formZ a_t_square t_isNought t_sumT t_sumY, x_ar cI a_t_given 12 t_given_r, x_ar cI a_t_pointX 200 w7, x_ar cI a_t_pointY 200 w8, x_ar cI a_t_pointZ 200 w9] H → va_D A [x_o9 a_t t_p a_t_given t_isLaid t_isGood a_t_c y6 a_t_pointX a_t_pointY a_t_pointZ a_t_pointFlags t_flags a_t_flagPoint a_t_flagU a_t_flagV a_t_flagW a_t_next a_t_series a_t_mix a_t_cofactor t_formX t_formY t_formZ a_t_square t_isNought t_sumT t_sumY, x_ar cI a_t_given 12 t_given_r, x_ar cI a_t_pointX 200 w7, x_ar cI a_t_pointY 200 w8, x_ar cI a_t_pointZ 200 w9] → va_S A s.heap H locs → W p l e rmX9_layPoints s m args below meth c H locs 0 0 Q (F0 m 212 ls []) := by
        intro y6 w7 w8 w9 ls H locs hf hl hP hD hS
        unfold kX9_layPoints_212 at hf
        obtain ⟨rfl, rfl, rfl, rfl⟩ := o_s4 hf
        exact hret dX9_layPoints_212 hP hD hS
      refine lv_icmp_ge (tgt := 212) hx hb dX9_layPoints_24 (by decide) (fun hc => ?_) (fun hc => ?_)
      · have hf := o_t hf hc
        exact J212 x2 z3 z4 z5 _ _ _ hf (lv_sub hl [] rfl) hP hD hS
      · have hf := o_f hf hc
        refine lv_iload_n hx hb dX9_layPoints_27 rfl (lv_at hl 1 rfl) ?_
        refine lv_aload_n hx hb dX9_layPoints_28 rfl (lv_at hl 0 rfl) ?_
        refine va_get (D := D) (ci := 9) (C := RX9) (T := TX9) (N := 26) hx hb hts iX9 hown hK hP 0 rfl rfl 0 (by decide) l7 (fun _ h9 => h9) rfl dX9_layPoints_29 ?_
        refine lv_aload_n hx hb dX9_layPoints_32 rfl (lv_at hl 0 rfl) ?_
        refine va_get (D := D) (ci := 9) (C := RX9) (T := TX9) (N := 26) hx hb hts iX9 hown hK hP 0 rfl rfl 0 (by decide) l7 (fun _ h9 => h9) rfl dX9_layPoints_33 ?_
        refine lv_imul hx hb dX9_layPoints_36 ?_
        have J82 : ∀ (y10 : Int32) (ls : Array Slot) (H : Heap) (locs : List Loc), jX9_layPoints_82 t_p t_given_r x1 x2 z3 z4 z5 (gX9_layPoints_7 t_p t_given_r (kX9_layPoints_212) n7) y10 = some (s_t_points, s_t_pointX_r, s_t_pointY_r, s_t_pointZ_r) → lv_has ls 5 [(0, .ref a_t), (1, .int x1)] → va_P D vwCl [x_o9 a_t t_p a_t_given t_isLaid t_isGood a_t_c x2 a_t_pointX a_t_pointY a_t_pointZ a_t_pointFlags t_flags a_t_flagPoint a_t_flagU a_t_flagV a_t_flagW a_t_next a_t_series a_t_mix a_t_cofactor t_formX t_formY t_formZ a_t_square t_isNought t_sumT t_sumY, x_ar cI a_t_given 12 t_given_r, x_ar cI a_t_pointX 200 z3, x_ar cI a_t_pointY 200 z4, x_ar cI a_t_pointZ 200 z5] H → va_D A [x_o9 a_t t_p a_t_given t_isLaid t_isGood a_t_c x2 a_t_pointX a_t_pointY a_t_pointZ a_t_pointFlags t_flags a_t_flagPoint a_t_flagU a_t_flagV a_t_flagW a_t_next a_t_series a_t_mix a_t_cofactor t_formX t_formY t_formZ a_t_square t_isNought t_sumT t_sumY, x_ar cI a_t_given 12 t_given_r, x_ar cI a_t_pointX 200 z3, x_ar cI a_t_pointY 200 z4, x_ar cI a_t_pointZ 200 z5] → va_S A s.heap H locs → W p l e rmX9_layPoints s m args below meth c H locs 0 0 Q (F0 m 82 ls [.int y10]) := by
          intro y10 ls H locs hf hl hP hD hS
          unfold jX9_layPoints_82 at hf
          refine lv_istore_n (lv' := [(2, .int y10), (0, .ref a_t), (1, .int x1)]) hx hb dX9_layPoints_82 rfl hl (by decide) rfl (fun ls hl => ?_)
          refine lv_iload_n hx hb dX9_layPoints_83 rfl (lv_at hl 2 rfl) ?_
          refine lv_aload_n hx hb dX9_layPoints_84 rfl (lv_at hl 1 rfl) ?_
          refine va_get (D := D) (ci := 9) (C := RX9) (T := TX9) (N := 26) hx hb hts iX9 hown hK hP 0 rfl rfl 0 (by decide) l7 (fun _ h9 => h9) rfl dX9_layPoints_85 ?_
          refine lv_aload_n hx hb dX9_layPoints_88 rfl (lv_at hl 1 rfl) ?_
          refine va_get (D := D) (ci := 9) (C := RX9) (T := TX9) (N := 26) hx hb hts iX9 hown hK hP 0 rfl rfl 0 (by decide) l7 (fun _ h9 => h9) rfl dX9_layPoints_89 ?_
          refine lv_imul hx hb dX9_layPoints_92 ?_
          have J128 : ∀ (y11 : Int32) (ls : Array Slot) (H : Heap) (locs : List Loc), jX9_layPoints_128 t_p t_given_r x1 x2 z3 z4 z5 (gX9_layPoints_7 t_p t_given_r (kX9_layPoints_212) n7) y10 y11 = some (s_t_points, s_t_pointX_r, s_t_pointY_r, s_t_pointZ_r) → lv_has ls 5 [(0, .ref a_t), (1, .int x1), (2, .int y10)] → va_P D vwCl [x_o9 a_t t_p a_t_given t_isLaid t_isGood a_t_c x2 a_t_pointX a_t_pointY a_t_pointZ a_t_pointFlags t_flags a_t_flagPoint a_t_flagU a_t_flagV a_t_flagW a_t_next a_t_series a_t_mix a_t_cofactor t_formX t_formY t_formZ a_t_square t_isNought t_sumT t_sumY, x_ar cI a_t_given 12 t_given_r, x_ar cI a_t_pointX 200 z3, x_ar cI a_t_pointY 200 z4, x_ar cI a_t_pointZ 200 z5] H → va_D A [x_o9 a_t t_p a_t_given t_isLaid t_isGood a_t_c x2 a_t_pointX a_t_pointY a_t_pointZ a_t_pointFlags t_flags a_t_flagPoint a_t_flagU a_t_flagV a_t_flagW a_t_next a_t_series a_t_mix a_t_cofactor t_formX t_formY t_formZ a_t_square t_isNought t_sumT t_sumY, x_ar cI a_t_given 12 t_given_r, x_ar cI a_t_pointX 200 z3, x_ar cI a_t_pointY 200 z4, x_ar cI a_t_pointZ 200 z5] → va_S A s.heap H locs → W p l e rmX9_layPoints s m args below meth c H locs 0 0 Q (F0 m 128 ls [.int y11]) := by
            intro y11 ls H locs hf hl hP hD hS
            unfold jX9_layPoints_128 at hf
            refine lv_istore_n (lv' := [(3, .int y11), (0, .ref a_t), (1, .int x1), (2, .int y10)]) hx hb dX9_layPoints_128 rfl hl (by decide) rfl (fun ls hl => ?_)
            refine lv_iload_n hx hb dX9_layPoints_129 rfl (lv_at hl 2 rfl) ?_
            refine lv_aload_n hx hb dX9_layPoints_130 rfl (lv_at hl 1 rfl) ?_
            refine va_get (D := D) (ci := 9) (C := RX9) (T := TX9) (N := 26) hx hb hts iX9 hown hK hP 0 rfl rfl 0 (by decide) l7 (fun _ h9 => h9) rfl dX9_layPoints_131 ?_
            refine lv_aload_n hx hb dX9_layPoints_134 rfl (lv_at hl 1 rfl) ?_
            refine va_get (D := D) (ci := 9) (C := RX9) (T := TX9) (N := 26) hx hb hts iX9 hown hK hP 0 rfl rfl 0 (by decide) l7 (fun _ h9 => h9) rfl dX9_layPoints_135 ?_
            refine lv_imul hx hb dX9_layPoints_138 ?_
            have J147 : ∀ (y12 : Int32) (ls : Array Slot) (H : Heap) (locs : List Loc), jX9_layPoints_147 t_p t_given_r x1 x2 z3 z4 z5 (gX9_layPoints_7 t_p t_given_r (kX9_layPoints_212) n7) y10 y11 y12 = some (s_t_points, s_t_pointX_r, s_t_pointY_r, s_t_pointZ_r) → lv_has ls 5 [(0, .ref a_t), (1, .int x1), (2, .int y10), (3, .int y11)] → va_P D vwCl [x_o9 a_t t_p a_t_given t_isLaid t_isGood a_t_c x2 a_t_pointX a_t_pointY a_t_pointZ a_t_pointFlags t_flags a_t_flagPoint a_t_flagU a_t_flagV a_t_flagW a_t_next a_t_series a_t_mix a_t_cofactor t_formX t_formY t_formZ a_t_square t_isNought t_sumT t_sumY, x_ar cI a_t_given 12 t_given_r, x_ar cI a_t_pointX 200 z3, x_ar cI a_t_pointY 200 z4, x_ar cI a_t_pointZ 200 z5] H → va_D A [x_o9 a_t t_p a_t_given t_isLaid t_isGood a_t_c x2 a_t_pointX a_t_pointY a_t_pointZ a_t_pointFlags t_flags a_t_flagPoint a_t_flagU a_t_flagV a_t_flagW a_t_next a_t_series a_t_mix a_t_cofactor t_formX t_formY t_formZ a_t_square t_isNought t_sumT t_sumY, x_ar cI a_t_given 12 t_given_r, x_ar cI a_t_pointX 200 z3, x_ar cI a_t_pointY 200 z4, x_ar cI a_t_pointZ 200 z5] → va_S A s.heap H locs → W p l e rmX9_layPoints s m args below meth c H locs 0 0 Q (F0 m 147 ls [.int y12]) := by
              intro y12 ls H locs hf hl hP hD hS
              unfold jX9_layPoints_147 at hf
              refine lv_istore (lv' := [(4, .int y12), (0, .ref a_t), (1, .int x1), (2, .int y10), (3, .int y11)]) hx hb dX9_layPoints_147 hl (by decide) rfl (fun ls hl => ?_)
              refine lv_aload_n hx hb dX9_layPoints_149 rfl (lv_at hl 1 rfl) ?_
              refine lv_aload_n hx hb dX9_layPoints_150 rfl (lv_at hl 1 rfl) ?_
              refine va_get (D := D) (ci := 9) (C := RX9) (T := TX9) (N := 26) hx hb hts iX9 hown hK hP 0 rfl rfl 1 (by decide) l13 (fun _ h9 => h9) rfl dX9_layPoints_151 ?_
              refine lv_iconst (v := 0) hx hb dX9_layPoints_154 (by decide) ?_
              refine lv_iload_n hx hb dX9_layPoints_155 rfl (lv_at hl 3 rfl) ?_
              refine lv_iload_n hx hb dX9_layPoints_156 rfl (lv_at hl 4 rfl) ?_
              refine lv_iload hx hb dX9_layPoints_157 (lv_at hl 0 rfl) ?_
              obtain ⟨v13, hv13, hf⟩ := o_b1 hf
              refine x_vi (rest := []) (W1 := [x_o9 a_t t_p a_t_given t_isLaid t_isGood a_t_c x2 a_t_pointX a_t_pointY a_t_pointZ a_t_pointFlags t_flags a_t_flagPoint a_t_flagU a_t_flagV a_t_flagW a_t_next a_t_series a_t_mix a_t_cofactor t_formX t_formY t_formZ a_t_square t_isNought t_sumT t_sumY, x_ar cI a_t_given 12 t_given_r, x_ar cI a_t_pointX 200 z3, x_ar cI a_t_pointY 200 z4, x_ar cI a_t_pointZ 200 z5]) ⟨hx, hb, hml, hown, hts⟩ (tX9_both l D cI a_t a_t_given a_t_given a_t_c a_t_pointX a_t_pointY a_t_pointZ a_t_pointFlags a_t_flagPoint a_t_flagU a_t_flagV a_t_flagW a_t_next a_t_series a_t_mix a_t_cofactor a_t_square 12 t_p t_isLaid t_isGood x2 t_flags t_formX t_formY t_formZ t_isNought t_sumT t_sumY t_given_r 0 y10 y11 y12 v13 hv13) (cwV 5 hts gX9_layPoints_X9_both rfl rfl rfl (by decide +kernel) ⟨Nat.le_of_ble_eq_true rfl, Nat.le_of_ble_eq_true rfl⟩) hN hK hP hD hS hA [0, 1] [some 0, some 1, none, none, none] rfl rfl rfl rfl rfl rfl 0 rfl rfl rfl hl.1 rfl (Nat.le_of_ble_eq_true rfl) dX9_layPoints_159 ⟨Nat.zero_le _, Nat.zero_le _⟩ (fun H locs hP hD hS => ?_)
              have J206 : ∀ (y14 : Int32) (w15 : (Nat → Int32)) (w16 : (Nat → Int32)) (w17 : (Nat → Int32)) (ls : Array Slot) (H : Heap) (locs : List Loc), jX9_layPoints_206 x1 (gX9_layPoints_7 t_p t_given_r (kX9_layPoints_212) n7) y14 w15 w16 w17 = some (s_t_points, s_t_pointX_r, s_t_pointY_r, s_t_pointZ_r) → lv_has ls 5 [(0, .ref a_t), (1, .int x1)] → va_P D vwCl [x_o9 a_t t_p a_t_given t_isLaid t_isGood a_t_c y14 a_t_pointX a_t_pointY a_t_pointZ a_t_pointFlags t_flags a_t_flagPoint a_t_flagU a_t_flagV a_t_flagW a_t_next a_t_series a_t_mix a_t_cofactor t_formX t_formY t_formZ a_t_square t_isNought t_sumT t_sumY, x_ar cI a_t_given 12 t_given_r, x_ar cI a_t_pointX 200 w15, x_ar cI a_t_pointY 200 w16, x_ar cI a_t_pointZ 200 w17] H → va_D A [x_o9 a_t t_p a_t_given t_isLaid t_isGood a_t_c y14 a_t_pointX a_t_pointY a_t_pointZ a_t_pointFlags t_flags a_t_flagPoint a_t_flagU a_t_flagV a_t_flagW a_t_next a_t_series a_t_mix a_t_cofactor t_formX t_formY t_formZ a_t_square t_isNought t_sumT t_sumY, x_ar cI a_t_given 12 t_given_r, x_ar cI a_t_pointX 200 w15, x_ar cI a_t_pointY 200 w16, x_ar cI a_t_pointZ 200 w17] → va_S A s.heap H locs → W p l e rmX9_layPoints s m args below meth c H locs 0 0 Q (F0 m 206 ls []) := by
                intro y14 w15 w16 w17 ls H locs hf hl hP hD hS
                unfold jX9_layPoints_206 at hf
                obtain ⟨v18, ev18, hf⟩ := o_nm hf
                refine lv_iinc (v := v18) (lv' := [(1, .int v18), (0, .ref a_t)]) hx hb dX9_layPoints_206 hl (k := 1) rfl (by rw [ev18]; rfl) (by decide) rfl (fun ls hl => ?_)
                refine lv_goto (tgt := 7) hx hb dX9_layPoints_209 (by decide) ?_
                exact ih7 v18 y14 w15 w16 w17 _ _ _ hf (lv_sub hl [1, 0] rfl) hP hD hS
              refine lv_if_ne (tgt := 206) hx hb dX9_layPoints_162 (by decide) (fun hc => ?_) (fun hc => ?_)
              · have hf := o_f hf hc
                exact J206 x2 z3 z4 z5 _ _ _ hf (lv_sub hl [1, 2] rfl) hP hD hS
              · have hf := o_t hf hc
                refine lv_aload_n hx hb dX9_layPoints_165 rfl (lv_at hl 1 rfl) ?_
                refine va_get (D := D) (ci := 9) (C := RX9) (T := TX9) (N := 26) hx hb hts iX9 hown hK hP 0 rfl rfl 6 (by decide) l20 (fun _ h9 => h9) rfl dX9_layPoints_166 ?_
                refine lv_aload_n hx hb dX9_layPoints_169 rfl (lv_at hl 1 rfl) ?_
                refine va_get (D := D) (ci := 9) (C := RX9) (T := TX9) (N := 26) hx hb hts iX9 hown hK hP 0 rfl rfl 5 (by decide) l137 (fun _ h9 => h9) rfl dX9_layPoints_170 ?_
                refine lv_iload_n hx hb dX9_layPoints_173 rfl (lv_at hl 3 rfl) ?_
                obtain ⟨u19, hu19, hf⟩ := o_b1 hf
                refine x_ast (W1 := [x_o9 a_t t_p a_t_given t_isLaid t_isGood a_t_c x2 a_t_pointX a_t_pointY a_t_pointZ a_t_pointFlags t_flags a_t_flagPoint a_t_flagU a_t_flagV a_t_flagW a_t_next a_t_series a_t_mix a_t_cofactor t_formX t_formY t_formZ a_t_square t_isNought t_sumT t_sumY, x_ar cI a_t_given 12 t_given_r, x_ar cI a_t_pointX 200 u19, x_ar cI a_t_pointY 200 z4, x_ar cI a_t_pointZ 200 z5]) hx hb hK hP hD hS 2 rfl hu19 rfl dX9_layPoints_174 (fun H locs hP hD hS => ?_)
                refine lv_aload_n hx hb dX9_layPoints_175 rfl (lv_at hl 1 rfl) ?_
                refine va_get (D := D) (ci := 9) (C := RX9) (T := TX9) (N := 26) hx hb hts iX9 hown hK hP 0 rfl rfl 7 (by decide) l23 (fun _ h9 => h9) rfl dX9_layPoints_176 ?_
                refine lv_aload_n hx hb dX9_layPoints_179 rfl (lv_at hl 1 rfl) ?_
                refine va_get (D := D) (ci := 9) (C := RX9) (T := TX9) (N := 26) hx hb hts iX9 hown hK hP 0 rfl rfl 5 (by decide) l137 (fun _ h9 => h9) rfl dX9_layPoints_180 ?_
                refine lv_iload_n hx hb dX9_layPoints_183 rfl (lv_at hl 4 rfl) ?_
                obtain ⟨u20, hu20, hf⟩ := o_b1 hf
                refine x_ast (W1 := [x_o9 a_t t_p a_t_given t_isLaid t_isGood a_t_c x2 a_t_pointX a_t_pointY a_t_pointZ a_t_pointFlags t_flags a_t_flagPoint a_t_flagU a_t_flagV a_t_flagW a_t_next a_t_series a_t_mix a_t_cofactor t_formX t_formY t_formZ a_t_square t_isNought t_sumT t_sumY, x_ar cI a_t_given 12 t_given_r, x_ar cI a_t_pointX 200 u19, x_ar cI a_t_pointY 200 u20, x_ar cI a_t_pointZ 200 z5]) hx hb hK hP hD hS 3 rfl hu20 rfl dX9_layPoints_184 (fun H locs hP hD hS => ?_)
                refine lv_aload_n hx hb dX9_layPoints_185 rfl (lv_at hl 1 rfl) ?_
                refine va_get (D := D) (ci := 9) (C := RX9) (T := TX9) (N := 26) hx hb hts iX9 hown hK hP 0 rfl rfl 8 (by decide) l26 (fun _ h9 => h9) rfl dX9_layPoints_186 ?_
                refine lv_aload_n hx hb dX9_layPoints_189 rfl (lv_at hl 1 rfl) ?_
                refine va_get (D := D) (ci := 9) (C := RX9) (T := TX9) (N := 26) hx hb hts iX9 hown hK hP 0 rfl rfl 5 (by decide) l137 (fun _ h9 => h9) rfl dX9_layPoints_190 ?_
                refine lv_iload hx hb dX9_layPoints_193 (lv_at hl 0 rfl) ?_
                obtain ⟨u21, hu21, hf⟩ := o_b1 hf
                refine x_ast (W1 := [x_o9 a_t t_p a_t_given t_isLaid t_isGood a_t_c x2 a_t_pointX a_t_pointY a_t_pointZ a_t_pointFlags t_flags a_t_flagPoint a_t_flagU a_t_flagV a_t_flagW a_t_next a_t_series a_t_mix a_t_cofactor t_formX t_formY t_formZ a_t_square t_isNought t_sumT t_sumY, x_ar cI a_t_given 12 t_given_r, x_ar cI a_t_pointX 200 u19, x_ar cI a_t_pointY 200 u20, x_ar cI a_t_pointZ 200 u21]) hx hb hK hP hD hS 4 rfl hu21 rfl dX9_layPoints_195 (fun H locs hP hD hS => ?_)
                refine lv_aload_n hx hb dX9_layPoints_196 rfl (lv_at hl 1 rfl) ?_
                refine lv_dup hx hb dX9_layPoints_197 rfl ?_
                refine va_get (D := D) (ci := 9) (C := RX9) (T := TX9) (N := 26) hx hb hts iX9 hown hK hP 0 rfl rfl 5 (by decide) l137 (fun _ h9 => h9) rfl dX9_layPoints_198 ?_
                refine lv_iconst (v := 1) hx hb dX9_layPoints_201 (by decide) ?_
                refine lv_iadd hx hb dX9_layPoints_202 ?_
                obtain ⟨v22, ev22, hf⟩ := o_nm hf
                refine x_top ev22 ?_
                refine x_put (W1 := [x_o9 a_t t_p a_t_given t_isLaid t_isGood a_t_c v22 a_t_pointX a_t_pointY a_t_pointZ a_t_pointFlags t_flags a_t_flagPoint a_t_flagU a_t_flagV a_t_flagW a_t_next a_t_series a_t_mix a_t_cofactor t_formX t_formY t_formZ a_t_square t_isNought t_sumT t_sumY, x_ar cI a_t_given 12 t_given_r, x_ar cI a_t_pointX 200 u19, x_ar cI a_t_pointY 200 u20, x_ar cI a_t_pointZ 200 u21]) (ty := .int) (C := RX9) (T := TX9) (N := 26) hx hb hts iX9 tyX9 tyX9_ok nmX9 hown hK hP hD hS 0 rfl rfl 5 (by decide) l137 rfl rfl (by decide +kernel) rfl rfl (Nat.le_of_ble_eq_true rfl) rfl dX9_layPoints_203 (fun H locs hP hD hS => ?_)
                exact J206 v22 u19 u20 u21 _ _ _ hf (lv_sub hl [1, 2] rfl) hP hD hS
            refine lv_icmp_ge (tgt := 146) hx hb dX9_layPoints_139 (by decide) (fun hc => ?_) (fun hc => ?_)
            · have hf := o_t hf hc
              refine lv_iconst (v := 0) hx hb dX9_layPoints_146 (by decide) ?_
              exact J147 0 _ _ _ hf (lv_sub hl [1, 2, 3, 0] rfl) hP hD hS
            · have hf := o_f hf hc
              refine lv_iconst (v := 1) hx hb dX9_layPoints_142 (by decide) ?_
              refine lv_goto (tgt := 147) hx hb dX9_layPoints_143 (by decide) ?_
              exact J147 1 _ _ _ hf (lv_sub hl [1, 2, 3, 0] rfl) hP hD hS
          refine lv_icmp_ge (tgt := 105) hx hb dX9_layPoints_93 (by decide) (fun hc => ?_) (fun hc => ?_)
          · have hf := o_t hf hc
            refine lv_iload_n hx hb dX9_layPoints_105 rfl (lv_at hl 2 rfl) ?_
            refine lv_aload_n hx hb dX9_layPoints_106 rfl (lv_at hl 1 rfl) ?_
            refine va_get (D := D) (ci := 9) (C := RX9) (T := TX9) (N := 26) hx hb hts iX9 hown hK hP 0 rfl rfl 0 (by decide) l7 (fun _ h9 => h9) rfl dX9_layPoints_107 ?_
            refine lv_aload_n hx hb dX9_layPoints_110 rfl (lv_at hl 1 rfl) ?_
            refine va_get (D := D) (ci := 9) (C := RX9) (T := TX9) (N := 26) hx hb hts iX9 hown hK hP 0 rfl rfl 0 (by decide) l7 (fun _ h9 => h9) rfl dX9_layPoints_111 ?_
            refine lv_imul hx hb dX9_layPoints_114 ?_
            refine lv_aload_n hx hb dX9_layPoints_115 rfl (lv_at hl 1 rfl) ?_
            refine va_get (D := D) (ci := 9) (C := RX9) (T := TX9) (N := 26) hx hb hts iX9 hown hK hP 0 rfl rfl 0 (by decide) l7 (fun _ h9 => h9) rfl dX9_layPoints_116 ?_
            refine lv_iadd hx hb dX9_layPoints_119 ?_
            refine lv_icmp_ge (tgt := 127) hx hb dX9_layPoints_120 (by decide) (fun hc => ?_) (fun hc => ?_)
            · have hf := o_t hf hc
              refine lv_iconst (v := 0) hx hb dX9_layPoints_127 (by decide) ?_
              exact J128 0 _ _ _ hf (lv_sub hl [1, 2, 0] rfl) hP hD hS
            · have hf := o_f hf hc
              refine lv_iconst (v := 1) hx hb dX9_layPoints_123 (by decide) ?_
              refine lv_goto (tgt := 128) hx hb dX9_layPoints_124 (by decide) ?_
              exact J128 1 _ _ _ hf (lv_sub hl [1, 2, 0] rfl) hP hD hS
          · have hf := o_f hf hc
            refine lv_iload_n hx hb dX9_layPoints_96 rfl (lv_at hl 2 rfl) ?_
            refine lv_aload_n hx hb dX9_layPoints_97 rfl (lv_at hl 1 rfl) ?_
            refine va_get (D := D) (ci := 9) (C := RX9) (T := TX9) (N := 26) hx hb hts iX9 hown hK hP 0 rfl rfl 0 (by decide) l7 (fun _ h9 => h9) rfl dX9_layPoints_98 ?_
            obtain ⟨v23, hv23, hf⟩ := o_b1 hf
            refine x_dv hx hb hv23 dX9_layPoints_101 ?_
            refine lv_goto (tgt := 128) hx hb dX9_layPoints_102 (by decide) ?_
            exact J128 v23 _ _ _ hf (lv_sub hl [1, 2, 0] rfl) hP hD hS
        refine lv_icmp_ge (tgt := 49) hx hb dX9_layPoints_37 (by decide) (fun hc => ?_) (fun hc => ?_)
        · have hf := o_t hf hc
          refine lv_iload_n hx hb dX9_layPoints_49 rfl (lv_at hl 1 rfl) ?_
          refine lv_aload_n hx hb dX9_layPoints_50 rfl (lv_at hl 0 rfl) ?_
          refine va_get (D := D) (ci := 9) (C := RX9) (T := TX9) (N := 26) hx hb hts iX9 hown hK hP 0 rfl rfl 0 (by decide) l7 (fun _ h9 => h9) rfl dX9_layPoints_51 ?_
          refine lv_aload_n hx hb dX9_layPoints_54 rfl (lv_at hl 0 rfl) ?_
          refine va_get (D := D) (ci := 9) (C := RX9) (T := TX9) (N := 26) hx hb hts iX9 hown hK hP 0 rfl rfl 0 (by decide) l7 (fun _ h9 => h9) rfl dX9_layPoints_55 ?_
          refine lv_imul hx hb dX9_layPoints_58 ?_
          refine lv_aload_n hx hb dX9_layPoints_59 rfl (lv_at hl 0 rfl) ?_
          refine va_get (D := D) (ci := 9) (C := RX9) (T := TX9) (N := 26) hx hb hts iX9 hown hK hP 0 rfl rfl 0 (by decide) l7 (fun _ h9 => h9) rfl dX9_layPoints_60 ?_
          refine lv_iadd hx hb dX9_layPoints_63 ?_
          refine lv_icmp_ge (tgt := 81) hx hb dX9_layPoints_64 (by decide) (fun hc => ?_) (fun hc => ?_)
          · have hf := o_t hf hc
            refine lv_iconst (v := 1) hx hb dX9_layPoints_81 (by decide) ?_
            exact J82 1 _ _ _ hf (lv_sub hl [0, 1] rfl) hP hD hS
          · have hf := o_f hf hc
            refine lv_iload_n hx hb dX9_layPoints_67 rfl (lv_at hl 1 rfl) ?_
            refine lv_aload_n hx hb dX9_layPoints_68 rfl (lv_at hl 0 rfl) ?_
            refine va_get (D := D) (ci := 9) (C := RX9) (T := TX9) (N := 26) hx hb hts iX9 hown hK hP 0 rfl rfl 0 (by decide) l7 (fun _ h9 => h9) rfl dX9_layPoints_69 ?_
            refine lv_aload_n hx hb dX9_layPoints_72 rfl (lv_at hl 0 rfl) ?_
            refine va_get (D := D) (ci := 9) (C := RX9) (T := TX9) (N := 26) hx hb hts iX9 hown hK hP 0 rfl rfl 0 (by decide) l7 (fun _ h9 => h9) rfl dX9_layPoints_73 ?_
            refine lv_imul hx hb dX9_layPoints_76 ?_
            refine lv_isub hx hb dX9_layPoints_77 ?_
            refine lv_goto (tgt := 82) hx hb dX9_layPoints_78 (by decide) ?_
            exact J82 (x1 - (t_p * t_p)) _ _ _ hf (lv_sub hl [0, 1] rfl) hP hD hS
        · have hf := o_f hf hc
          refine lv_iload_n hx hb dX9_layPoints_40 rfl (lv_at hl 1 rfl) ?_
          refine lv_aload_n hx hb dX9_layPoints_41 rfl (lv_at hl 0 rfl) ?_
          refine va_get (D := D) (ci := 9) (C := RX9) (T := TX9) (N := 26) hx hb hts iX9 hown hK hP 0 rfl rfl 0 (by decide) l7 (fun _ h9 => h9) rfl dX9_layPoints_42 ?_
          obtain ⟨v24, hv24, hf⟩ := o_b1 hf
          refine x_rm hx hb hv24 dX9_layPoints_45 ?_
          refine lv_goto (tgt := 82) hx hb dX9_layPoints_46 (by decide) ?_
          exact J82 v24 _ _ _ hf (lv_sub hl [0, 1] rfl) hP hD hS
  exact L7 p_FU 0 0 t_pointX_r t_pointY_r t_pointZ_r _ _ _ hf (lv_sub hl [1, 0] rfl) hP hD hS
noncomputable def kX9_laySeries_95 (w3 : (Nat → Int32)) : Option ((Nat → Int32)) :=
  some w3
noncomputable def jX9_laySeries_88 (x1 : Int32) (z2 : (Nat → Int32)) (rec2 : Int32 → (Nat → Int32) → Option ((Nat → Int32))) (y8 : Int32) : Option ((Nat → Int32)) :=
  p_b1 (p_st z2 32 x1 y8) (fun u9 =>
p_nm (x1 + 1) (fun v10 =>
rec2 v10 u9))
noncomputable def kX9_laySeries_69 (t_p : Int32) (x1 : Int32) (z2 : (Nat → Int32)) (rec2 : Int32 → (Nat → Int32) → Option ((Nat → Int32))) (y7 : Int32) : Option ((Nat → Int32)) :=
  if x1 = 0 then (jX9_laySeries_88 x1 z2 rec2 1) else (p_b1 (fX9_by t_p y7 2) (fun v11 =>
jX9_laySeries_88 x1 z2 rec2 v11))
noncomputable def FgX9_laySeries_36 (t_p : Int32) (x1 : Int32) (z2 : (Nat → Int32)) (rec36 : Int32 → Int32 → Option ((Nat → Int32))) (kk36 : Int32 → Option ((Nat → Int32))) (x5 : Int32) (x6 : Int32) : Option ((Nat → Int32)) :=
  if x1 ≤ x6 then (kk36 x5) else (p_b1 (p_ld z2 32 x6) (fun v12 =>
p_b1 (p_ld z2 32 (x1 - x6)) (fun v13 =>
p_b1 (fX9_of t_p (x5 - (v12 * v13))) (fun v14 =>
p_nm (x6 + 1) (fun v15 =>
rec36 v14 v15)))))
noncomputable def gX9_laySeries_36 (t_p : Int32) (x1 : Int32) (z2 : (Nat → Int32)) (kk36 : Int32 → Option ((Nat → Int32))) (n : Nat) : Int32 → Int32 → Option ((Nat → Int32)) := Nat.rec (motive := fun _ => Int32 → Int32 → Option ((Nat → Int32))) (fun _ _ => none) (fun _ rec36 => FgX9_laySeries_36 t_p x1 z2 rec36 kk36) n
noncomputable def jX9_laySeries_33 (t_p : Int32) (x1 : Int32) (z2 : (Nat → Int32)) (rec2 : Int32 → (Nat → Int32) → Option ((Nat → Int32))) (y4 : Int32) : Option ((Nat → Int32)) :=
  gX9_laySeries_36 t_p x1 z2 (kX9_laySeries_69 t_p x1 z2 rec2) p_FU y4 1
noncomputable def FgX9_laySeries_2 (t_p : Int32) (t_c_r : (Nat → Int32)) (rec2 : Int32 → (Nat → Int32) → Option ((Nat → Int32))) (kk2 : (Nat → Int32) → Option ((Nat → Int32))) (x1 : Int32) (z2 : (Nat → Int32)) : Option ((Nat → Int32)) :=
  if 32 ≤ x1 then (kk2 z2) else (if 4 ≤ x1 then (jX9_laySeries_33 t_p x1 z2 rec2 0) else (p_b1 (p_ld t_c_r 4 x1) (fun v16 =>
p_b1 (p_ld t_c_r 4 0) (fun v17 =>
p_b1 (fX9_by t_p v16 v17) (fun v18 =>
jX9_laySeries_33 t_p x1 z2 rec2 v18)))))
noncomputable def gX9_laySeries_2 (t_p : Int32) (t_c_r : (Nat → Int32)) (kk2 : (Nat → Int32) → Option ((Nat → Int32))) (n : Nat) : Int32 → (Nat → Int32) → Option ((Nat → Int32)) := Nat.rec (motive := fun _ => Int32 → (Nat → Int32) → Option ((Nat → Int32))) (fun _ _ => none) (fun _ rec2 => FgX9_laySeries_2 t_p t_c_r rec2 kk2) n
noncomputable def fX9_laySeries (t_p : Int32) (t_c_r : (Nat → Int32)) (t_series_r : (Nat → Int32)) : Option ((Nat → Int32)) :=
  gX9_laySeries_2 t_p t_c_r (kX9_laySeries_95) p_FU 0 t_series_r
def rmX9_laySeries : Room := { frames := 2, cells := 0, slots := 0, locals := 47 }
set_option maxHeartbeats 4000000 in
set_option maxRecDepth 100000 in
theorem tX9_laySeries (l : Launch) (D : va_G) (cI : ClassId) (a_t : Nat) (a_t_given : Nat) (a_t_c : Nat) (a_t_pointX : Nat) (a_t_pointY : Nat) (a_t_pointZ : Nat) (a_t_pointFlags : Nat) (a_t_flagPoint : Nat) (a_t_flagU : Nat) (a_t_flagV : Nat) (a_t_flagW : Nat) (a_t_next : Nat) (a_t_series : Nat) (a_t_mix : Nat) (a_t_cofactor : Nat) (a_t_square : Nat) (t_p : Int32) (t_isLaid : Int32) (t_isGood : Int32) (t_points : Int32) (t_flags : Int32) (t_formX : Int32) (t_formY : Int32) (t_formZ : Int32) (t_isNought : Int32) (t_sumT : Int32) (t_sumY : Int32) (t_c_r : (Nat → Int32)) (t_series_r : (Nat → Int32)) (s_t_series_r : (Nat → Int32)) (hf : fX9_laySeries t_p t_c_r t_series_r = some s_t_series_r) : x_CV l D cI yX9_laySeries wsX9_laySeries rmX9_laySeries [.ref a_t] [x_o9 a_t t_p a_t_given t_isLaid t_isGood a_t_c t_points a_t_pointX a_t_pointY a_t_pointZ a_t_pointFlags t_flags a_t_flagPoint a_t_flagU a_t_flagV a_t_flagW a_t_next a_t_series a_t_mix a_t_cofactor t_formX t_formY t_formZ a_t_square t_isNought t_sumT t_sumY, x_ar cI a_t_c 4 t_c_r, x_ar cI a_t_series 32 t_series_r] [x_o9 a_t t_p a_t_given t_isLaid t_isGood a_t_c t_points a_t_pointX a_t_pointY a_t_pointZ a_t_pointFlags t_flags a_t_flagPoint a_t_flagU a_t_flagV a_t_flagW a_t_next a_t_series a_t_mix a_t_cofactor t_formX t_formY t_formZ a_t_square t_isNought t_sumT t_sumY, x_ar cI a_t_c 4 t_c_r, x_ar cI a_t_series 32 s_t_series_r] := by
  refine x_CV_of (cc := cX9_laySeries) (maxL := 4) (own := RX9) (lv0 := [(0, .ref a_t)]) (by decide) rfl rfl (Nat.le_of_ble_eq_true rfl) rfl ?_
  intro p e s m args below meth c A Q ls hx hb hml hown hts hN hK hP hD hS hA hl hret
  have iX9 : ∀ w ∈ u_ws RX9 TX9 26, w ∈ wsX9_laySeries := by decide +kernel
  have l47 := hts (.fieldLink RX9 47 "ChordRingsModel" "series" "[I") (by decide +kernel)
  have l17 := hts (.fieldLink RX9 17 "ChordRingsModel" "c" "[I") (by decide +kernel)
  unfold fX9_laySeries at hf
  refine lv_iconst (v := 0) hx hb dX9_laySeries_0 (by decide) ?_
  refine lv_istore_n (lv' := [(1, .int 0), (0, .ref a_t)]) hx hb dX9_laySeries_1 rfl hl (by decide) rfl (fun ls hl => ?_)
  have L2 : ∀ (n : Nat) (x1 : Int32) (z2 : (Nat → Int32)) (ls : Array Slot) (H : Heap) (locs : List Loc), gX9_laySeries_2 t_p t_c_r (kX9_laySeries_95) n x1 z2 = some s_t_series_r → lv_has ls 4 [(0, .ref a_t), (1, .int x1)] → va_P D vwCl [x_o9 a_t t_p a_t_given t_isLaid t_isGood a_t_c t_points a_t_pointX a_t_pointY a_t_pointZ a_t_pointFlags t_flags a_t_flagPoint a_t_flagU a_t_flagV a_t_flagW a_t_next a_t_series a_t_mix a_t_cofactor t_formX t_formY t_formZ a_t_square t_isNought t_sumT t_sumY, x_ar cI a_t_c 4 t_c_r, x_ar cI a_t_series 32 z2] H → va_D A [x_o9 a_t t_p a_t_given t_isLaid t_isGood a_t_c t_points a_t_pointX a_t_pointY a_t_pointZ a_t_pointFlags t_flags a_t_flagPoint a_t_flagU a_t_flagV a_t_flagW a_t_next a_t_series a_t_mix a_t_cofactor t_formX t_formY t_formZ a_t_square t_isNought t_sumT t_sumY, x_ar cI a_t_c 4 t_c_r, x_ar cI a_t_series 32 z2] → va_S A s.heap H locs → W p l e rmX9_laySeries s m args below meth c H locs 0 0 Q (F0 m 2 ls []) := by
    intro n2
    induction n2 with
    | zero =>
      intro x1 z2 ls H locs hf
      exact nomatch (show (none : Option ((Nat → Int32))) = some s_t_series_r from hf)
    | succ n2 ih2 =>
      intro x1 z2 ls H locs hf hl hP hD hS
      have hf : FgX9_laySeries_2 t_p t_c_r (gX9_laySeries_2 t_p t_c_r (kX9_laySeries_95) n2) (kX9_laySeries_95) x1 z2 = some s_t_series_r := hf
      unfold FgX9_laySeries_2 at hf
      refine lv_iload_n hx hb dX9_laySeries_2 rfl (lv_at hl 1 rfl) ?_
      refine lv_bipush (v := 32) hx hb dX9_laySeries_3 (by decide) ?_
      have J95 : ∀ (w3 : (Nat → Int32)) (ls : Array Slot) (H : Heap) (locs : List Loc), kX9_laySeries_95 w3 = some s_t_series_r → lv_has ls 4 [] → va_P D vwCl [x_o9 a_t t_p a_t_given t_isLaid t_isGood a_t_c t_points a_t_pointX a_t_pointY a_t_pointZ a_t_pointFlags t_flags a_t_flagPoint a_t_flagU a_t_flagV a_t_flagW a_t_next a_t_series a_t_mix a_t_cofactor t_formX t_formY t_formZ a_t_square t_isNought t_sumT t_sumY, x_ar cI a_t_c 4 t_c_r, x_ar cI a_t_series 32 w3] H → va_D A [x_o9 a_t t_p a_t_given t_isLaid t_isGood a_t_c t_points a_t_pointX a_t_pointY a_t_pointZ a_t_pointFlags t_flags a_t_flagPoint a_t_flagU a_t_flagV a_t_flagW a_t_next a_t_series a_t_mix a_t_cofactor t_formX t_formY t_formZ a_t_square t_isNought t_sumT t_sumY, x_ar cI a_t_c 4 t_c_r, x_ar cI a_t_series 32 w3] → va_S A s.heap H locs → W p l e rmX9_laySeries s m args below meth c H locs 0 0 Q (F0 m 95 ls []) := by
        intro w3 ls H locs hf hl hP hD hS
        unfold kX9_laySeries_95 at hf
        obtain rfl := Option.some.inj hf
        exact hret dX9_laySeries_95 hP hD hS
      refine lv_icmp_ge (tgt := 95) hx hb dX9_laySeries_5 (by decide) (fun hc => ?_) (fun hc => ?_)
      · have hf := o_t hf hc
        exact J95 z2 _ _ _ hf (lv_sub hl [] rfl) hP hD hS
      · have hf := o_f hf hc
        refine lv_iload_n hx hb dX9_laySeries_8 rfl (lv_at hl 1 rfl) ?_
        refine lv_iconst (v := 4) hx hb dX9_laySeries_9 (by decide) ?_
        have J33 : ∀ (y4 : Int32) (ls : Array Slot) (H : Heap) (locs : List Loc), jX9_laySeries_33 t_p x1 z2 (gX9_laySeries_2 t_p t_c_r (kX9_laySeries_95) n2) y4 = some s_t_series_r → lv_has ls 4 [(0, .ref a_t), (1, .int x1)] → va_P D vwCl [x_o9 a_t t_p a_t_given t_isLaid t_isGood a_t_c t_points a_t_pointX a_t_pointY a_t_pointZ a_t_pointFlags t_flags a_t_flagPoint a_t_flagU a_t_flagV a_t_flagW a_t_next a_t_series a_t_mix a_t_cofactor t_formX t_formY t_formZ a_t_square t_isNought t_sumT t_sumY, x_ar cI a_t_c 4 t_c_r, x_ar cI a_t_series 32 z2] H → va_D A [x_o9 a_t t_p a_t_given t_isLaid t_isGood a_t_c t_points a_t_pointX a_t_pointY a_t_pointZ a_t_pointFlags t_flags a_t_flagPoint a_t_flagU a_t_flagV a_t_flagW a_t_next a_t_series a_t_mix a_t_cofactor t_formX t_formY t_formZ a_t_square t_isNought t_sumT t_sumY, x_ar cI a_t_c 4 t_c_r, x_ar cI a_t_series 32 z2] → va_S A s.heap H locs → W p l e rmX9_laySeries s m args below meth c H locs 0 0 Q (F0 m 33 ls [.int y4]) := by
          intro y4 ls H locs hf hl hP hD hS
          unfold jX9_laySeries_33 at hf
          refine lv_istore_n (lv' := [(2, .int y4), (0, .ref a_t), (1, .int x1)]) hx hb dX9_laySeries_33 rfl hl (by decide) rfl (fun ls hl => ?_)
          refine lv_iconst (v := 1) hx hb dX9_laySeries_34 (by decide) ?_
          refine lv_istore_n (lv' := [(3, .int 1), (2, .int y4), (0, .ref a_t), (1, .int x1)]) hx hb dX9_laySeries_35 rfl hl (by decide) rfl (fun ls hl => ?_)
          have L36 : ∀ (n : Nat) (x5 : Int32) (x6 : Int32) (ls : Array Slot) (H : Heap) (locs : List Loc), gX9_laySeries_36 t_p x1 z2 (kX9_laySeries_69 t_p x1 z2 (gX9_laySeries_2 t_p t_c_r (kX9_laySeries_95) n2)) n x5 x6 = some s_t_series_r → lv_has ls 4 [(0, .ref a_t), (1, .int x1), (2, .int x5), (3, .int x6)] → va_P D vwCl [x_o9 a_t t_p a_t_given t_isLaid t_isGood a_t_c t_points a_t_pointX a_t_pointY a_t_pointZ a_t_pointFlags t_flags a_t_flagPoint a_t_flagU a_t_flagV a_t_flagW a_t_next a_t_series a_t_mix a_t_cofactor t_formX t_formY t_formZ a_t_square t_isNought t_sumT t_sumY, x_ar cI a_t_c 4 t_c_r, x_ar cI a_t_series 32 z2] H → va_D A [x_o9 a_t t_p a_t_given t_isLaid t_isGood a_t_c t_points a_t_pointX a_t_pointY a_t_pointZ a_t_pointFlags t_flags a_t_flagPoint a_t_flagU a_t_flagV a_t_flagW a_t_next a_t_series a_t_mix a_t_cofactor t_formX t_formY t_formZ a_t_square t_isNought t_sumT t_sumY, x_ar cI a_t_c 4 t_c_r, x_ar cI a_t_series 32 z2] → va_S A s.heap H locs → W p l e rmX9_laySeries s m args below meth c H locs 0 0 Q (F0 m 36 ls []) := by
            intro n36
            induction n36 with
            | zero =>
              intro x5 x6 ls H locs hf
              exact nomatch (show (none : Option ((Nat → Int32))) = some s_t_series_r from hf)
            | succ n36 ih36 =>
              intro x5 x6 ls H locs hf hl hP hD hS
              have hf : FgX9_laySeries_36 t_p x1 z2 (gX9_laySeries_36 t_p x1 z2 (kX9_laySeries_69 t_p x1 z2 (gX9_laySeries_2 t_p t_c_r (kX9_laySeries_95) n2)) n36) (kX9_laySeries_69 t_p x1 z2 (gX9_laySeries_2 t_p t_c_r (kX9_laySeries_95) n2)) x5 x6 = some s_t_series_r := hf
              unfold FgX9_laySeries_36 at hf
              refine lv_iload_n hx hb dX9_laySeries_36 rfl (lv_at hl 3 rfl) ?_
              refine lv_iload_n hx hb dX9_laySeries_37 rfl (lv_at hl 1 rfl) ?_
              have J69 : ∀ (y7 : Int32) (ls : Array Slot) (H : Heap) (locs : List Loc), kX9_laySeries_69 t_p x1 z2 (gX9_laySeries_2 t_p t_c_r (kX9_laySeries_95) n2) y7 = some s_t_series_r → lv_has ls 4 [(0, .ref a_t), (1, .int x1), (2, .int y7)] → va_P D vwCl [x_o9 a_t t_p a_t_given t_isLaid t_isGood a_t_c t_points a_t_pointX a_t_pointY a_t_pointZ a_t_pointFlags t_flags a_t_flagPoint a_t_flagU a_t_flagV a_t_flagW a_t_next a_t_series a_t_mix a_t_cofactor t_formX t_formY t_formZ a_t_square t_isNought t_sumT t_sumY, x_ar cI a_t_c 4 t_c_r, x_ar cI a_t_series 32 z2] H → va_D A [x_o9 a_t t_p a_t_given t_isLaid t_isGood a_t_c t_points a_t_pointX a_t_pointY a_t_pointZ a_t_pointFlags t_flags a_t_flagPoint a_t_flagU a_t_flagV a_t_flagW a_t_next a_t_series a_t_mix a_t_cofactor t_formX t_formY t_formZ a_t_square t_isNought t_sumT t_sumY, x_ar cI a_t_c 4 t_c_r, x_ar cI a_t_series 32 z2] → va_S A s.heap H locs → W p l e rmX9_laySeries s m args below meth c H locs 0 0 Q (F0 m 69 ls []) := by
                intro y7 ls H locs hf hl hP hD hS
                unfold kX9_laySeries_69 at hf
                refine lv_aload_n hx hb dX9_laySeries_69 rfl (lv_at hl 0 rfl) ?_
                refine va_get (D := D) (ci := 9) (C := RX9) (T := TX9) (N := 26) hx hb hts iX9 hown hK hP 0 rfl rfl 16 (by decide) l47 (fun _ h9 => h9) rfl dX9_laySeries_70 ?_
                refine lv_iload_n hx hb dX9_laySeries_73 rfl (lv_at hl 1 rfl) ?_
                refine lv_iload_n hx hb dX9_laySeries_74 rfl (lv_at hl 1 rfl) ?_
                have J88 : ∀ (y8 : Int32) (ls : Array Slot) (H : Heap) (locs : List Loc), jX9_laySeries_88 x1 z2 (gX9_laySeries_2 t_p t_c_r (kX9_laySeries_95) n2) y8 = some s_t_series_r → lv_has ls 4 [(0, .ref a_t), (1, .int x1)] → va_P D vwCl [x_o9 a_t t_p a_t_given t_isLaid t_isGood a_t_c t_points a_t_pointX a_t_pointY a_t_pointZ a_t_pointFlags t_flags a_t_flagPoint a_t_flagU a_t_flagV a_t_flagW a_t_next a_t_series a_t_mix a_t_cofactor t_formX t_formY t_formZ a_t_square t_isNought t_sumT t_sumY, x_ar cI a_t_c 4 t_c_r, x_ar cI a_t_series 32 z2] H → va_D A [x_o9 a_t t_p a_t_given t_isLaid t_isGood a_t_c t_points a_t_pointX a_t_pointY a_t_pointZ a_t_pointFlags t_flags a_t_flagPoint a_t_flagU a_t_flagV a_t_flagW a_t_next a_t_series a_t_mix a_t_cofactor t_formX t_formY t_formZ a_t_square t_isNought t_sumT t_sumY, x_ar cI a_t_c 4 t_c_r, x_ar cI a_t_series 32 z2] → va_S A s.heap H locs → W p l e rmX9_laySeries s m args below meth c H locs 0 0 Q (F0 m 88 ls [.int y8, .int x1, .ref a_t_series]) := by
                  intro y8 ls H locs hf hl hP hD hS
                  unfold jX9_laySeries_88 at hf
                  obtain ⟨u9, hu9, hf⟩ := o_b1 hf
                  refine x_ast (W1 := [x_o9 a_t t_p a_t_given t_isLaid t_isGood a_t_c t_points a_t_pointX a_t_pointY a_t_pointZ a_t_pointFlags t_flags a_t_flagPoint a_t_flagU a_t_flagV a_t_flagW a_t_next a_t_series a_t_mix a_t_cofactor t_formX t_formY t_formZ a_t_square t_isNought t_sumT t_sumY, x_ar cI a_t_c 4 t_c_r, x_ar cI a_t_series 32 u9]) hx hb hK hP hD hS 2 rfl hu9 rfl dX9_laySeries_88 (fun H locs hP hD hS => ?_)
                  obtain ⟨v10, ev10, hf⟩ := o_nm hf
                  refine lv_iinc (v := v10) (lv' := [(1, .int v10), (0, .ref a_t)]) hx hb dX9_laySeries_89 hl (k := 1) rfl (by rw [ev10]; rfl) (by decide) rfl (fun ls hl => ?_)
                  refine lv_goto (tgt := 2) hx hb dX9_laySeries_92 (by decide) ?_
                  exact ih2 v10 u9 _ _ _ hf (lv_sub hl [1, 0] rfl) hP hD hS
                refine lv_if_ne (tgt := 82) hx hb dX9_laySeries_75 (by decide) (fun hc => ?_) (fun hc => ?_)
                · have hf := o_f hf hc
                  refine lv_aload_n hx hb dX9_laySeries_82 rfl (lv_at hl 0 rfl) ?_
                  refine lv_iload_n hx hb dX9_laySeries_83 rfl (lv_at hl 2 rfl) ?_
                  refine lv_iconst (v := 2) hx hb dX9_laySeries_84 (by decide) ?_
                  obtain ⟨v11, hv11, hf⟩ := o_b1 hf
                  refine x_vi (rest := [.int x1, .ref a_t_series]) (W1 := [x_o9 a_t t_p a_t_given t_isLaid t_isGood a_t_c t_points a_t_pointX a_t_pointY a_t_pointZ a_t_pointFlags t_flags a_t_flagPoint a_t_flagU a_t_flagV a_t_flagW a_t_next a_t_series a_t_mix a_t_cofactor t_formX t_formY t_formZ a_t_square t_isNought t_sumT t_sumY, x_ar cI a_t_c 4 t_c_r, x_ar cI a_t_series 32 z2]) ⟨hx, hb, hml, hown, hts⟩ (tX9_by l D cI a_t a_t_given a_t_c a_t_pointX a_t_pointY a_t_pointZ a_t_pointFlags a_t_flagPoint a_t_flagU a_t_flagV a_t_flagW a_t_next a_t_series a_t_mix a_t_cofactor a_t_square t_p t_isLaid t_isGood t_points t_flags t_formX t_formY t_formZ t_isNought t_sumT t_sumY y7 2 v11 hv11) (cwV 2 hts gX9_laySeries_X9_by rfl rfl rfl (by decide +kernel) ⟨Nat.le_of_ble_eq_true rfl, Nat.le_of_ble_eq_true rfl⟩) hN hK hP hD hS hA [0] [some 0, none, none] rfl rfl rfl rfl rfl rfl 0 rfl rfl rfl hl.1 rfl (Nat.le_of_ble_eq_true rfl) dX9_laySeries_85 ⟨Nat.zero_le _, Nat.zero_le _⟩ (fun H locs hP hD hS => ?_)
                  exact J88 v11 _ _ _ hf (lv_sub hl [0, 1] rfl) hP hD hS
                · have hf := o_t hf hc
                  refine lv_iconst (v := 1) hx hb dX9_laySeries_78 (by decide) ?_
                  refine lv_goto (tgt := 88) hx hb dX9_laySeries_79 (by decide) ?_
                  exact J88 1 _ _ _ hf (lv_sub hl [0, 1] rfl) hP hD hS
              refine lv_icmp_ge (tgt := 69) hx hb dX9_laySeries_38 (by decide) (fun hc => ?_) (fun hc => ?_)
              · have hf := o_t hf hc
                exact J69 x5 _ _ _ hf (lv_sub hl [0, 1, 2] rfl) hP hD hS
              · have hf := o_f hf hc
                refine lv_aload_n hx hb dX9_laySeries_41 rfl (lv_at hl 0 rfl) ?_
                refine lv_iload_n hx hb dX9_laySeries_42 rfl (lv_at hl 2 rfl) ?_
                refine lv_aload_n hx hb dX9_laySeries_43 rfl (lv_at hl 0 rfl) ?_
                refine va_get (D := D) (ci := 9) (C := RX9) (T := TX9) (N := 26) hx hb hts iX9 hown hK hP 0 rfl rfl 16 (by decide) l47 (fun _ h9 => h9) rfl dX9_laySeries_44 ?_
                refine lv_iload_n hx hb dX9_laySeries_47 rfl (lv_at hl 3 rfl) ?_
                obtain ⟨v12, hv12, hf⟩ := o_b1 hf
                refine x_ald hx hb hK hP 2 rfl hv12 dX9_laySeries_48 ?_
                refine lv_aload_n hx hb dX9_laySeries_49 rfl (lv_at hl 0 rfl) ?_
                refine va_get (D := D) (ci := 9) (C := RX9) (T := TX9) (N := 26) hx hb hts iX9 hown hK hP 0 rfl rfl 16 (by decide) l47 (fun _ h9 => h9) rfl dX9_laySeries_50 ?_
                refine lv_iload_n hx hb dX9_laySeries_53 rfl (lv_at hl 1 rfl) ?_
                refine lv_iload_n hx hb dX9_laySeries_54 rfl (lv_at hl 3 rfl) ?_
                refine lv_isub hx hb dX9_laySeries_55 ?_
                obtain ⟨v13, hv13, hf⟩ := o_b1 hf
                refine x_ald hx hb hK hP 2 rfl hv13 dX9_laySeries_56 ?_
                refine lv_imul hx hb dX9_laySeries_57 ?_
                refine lv_isub hx hb dX9_laySeries_58 ?_
                obtain ⟨v14, hv14, hf⟩ := o_b1 hf
                refine x_vi (rest := []) (W1 := [x_o9 a_t t_p a_t_given t_isLaid t_isGood a_t_c t_points a_t_pointX a_t_pointY a_t_pointZ a_t_pointFlags t_flags a_t_flagPoint a_t_flagU a_t_flagV a_t_flagW a_t_next a_t_series a_t_mix a_t_cofactor t_formX t_formY t_formZ a_t_square t_isNought t_sumT t_sumY, x_ar cI a_t_c 4 t_c_r, x_ar cI a_t_series 32 z2]) ⟨hx, hb, hml, hown, hts⟩ (tX9_of l D cI a_t a_t_given a_t_c a_t_pointX a_t_pointY a_t_pointZ a_t_pointFlags a_t_flagPoint a_t_flagU a_t_flagV a_t_flagW a_t_next a_t_series a_t_mix a_t_cofactor a_t_square t_p t_isLaid t_isGood t_points t_flags t_formX t_formY t_formZ t_isNought t_sumT t_sumY (x5 - (v12 * v13)) v14 hv14) (cwV 1 hts gX9_laySeries_X9_of rfl rfl rfl (by decide +kernel) ⟨Nat.le_of_ble_eq_true rfl, Nat.le_of_ble_eq_true rfl⟩) hN hK hP hD hS hA [0] [some 0, none, none] rfl rfl rfl rfl rfl rfl 0 rfl rfl rfl hl.1 rfl (Nat.le_of_ble_eq_true rfl) dX9_laySeries_59 ⟨Nat.zero_le _, Nat.zero_le _⟩ (fun H locs hP hD hS => ?_)
                refine lv_istore_n (lv' := [(2, .int v14), (0, .ref a_t), (1, .int x1), (3, .int x6)]) hx hb dX9_laySeries_62 rfl hl (by decide) rfl (fun ls hl => ?_)
                obtain ⟨v15, ev15, hf⟩ := o_nm hf
                refine lv_iinc (v := v15) (lv' := [(3, .int v15), (2, .int v14), (0, .ref a_t), (1, .int x1)]) hx hb dX9_laySeries_63 hl (k := 3) rfl (by rw [ev15]; rfl) (by decide) rfl (fun ls hl => ?_)
                refine lv_goto (tgt := 36) hx hb dX9_laySeries_66 (by decide) ?_
                exact ih36 v14 v15 _ _ _ hf (lv_sub hl [2, 3, 1, 0] rfl) hP hD hS
          exact L36 p_FU y4 1 _ _ _ hf (lv_sub hl [2, 3, 1, 0] rfl) hP hD hS
        refine lv_icmp_ge (tgt := 32) hx hb dX9_laySeries_10 (by decide) (fun hc => ?_) (fun hc => ?_)
        · have hf := o_t hf hc
          refine lv_iconst (v := 0) hx hb dX9_laySeries_32 (by decide) ?_
          exact J33 0 _ _ _ hf (lv_sub hl [0, 1] rfl) hP hD hS
        · have hf := o_f hf hc
          refine lv_aload_n hx hb dX9_laySeries_13 rfl (lv_at hl 0 rfl) ?_
          refine lv_aload_n hx hb dX9_laySeries_14 rfl (lv_at hl 0 rfl) ?_
          refine va_get (D := D) (ci := 9) (C := RX9) (T := TX9) (N := 26) hx hb hts iX9 hown hK hP 0 rfl rfl 4 (by decide) l17 (fun _ h9 => h9) rfl dX9_laySeries_15 ?_
          refine lv_iload_n hx hb dX9_laySeries_18 rfl (lv_at hl 1 rfl) ?_
          obtain ⟨v16, hv16, hf⟩ := o_b1 hf
          refine x_ald hx hb hK hP 1 rfl hv16 dX9_laySeries_19 ?_
          refine lv_aload_n hx hb dX9_laySeries_20 rfl (lv_at hl 0 rfl) ?_
          refine va_get (D := D) (ci := 9) (C := RX9) (T := TX9) (N := 26) hx hb hts iX9 hown hK hP 0 rfl rfl 4 (by decide) l17 (fun _ h9 => h9) rfl dX9_laySeries_21 ?_
          refine lv_iconst (v := 0) hx hb dX9_laySeries_24 (by decide) ?_
          obtain ⟨v17, hv17, hf⟩ := o_b1 hf
          refine x_ald hx hb hK hP 1 rfl hv17 dX9_laySeries_25 ?_
          obtain ⟨v18, hv18, hf⟩ := o_b1 hf
          refine x_vi (rest := []) (W1 := [x_o9 a_t t_p a_t_given t_isLaid t_isGood a_t_c t_points a_t_pointX a_t_pointY a_t_pointZ a_t_pointFlags t_flags a_t_flagPoint a_t_flagU a_t_flagV a_t_flagW a_t_next a_t_series a_t_mix a_t_cofactor t_formX t_formY t_formZ a_t_square t_isNought t_sumT t_sumY, x_ar cI a_t_c 4 t_c_r, x_ar cI a_t_series 32 z2]) ⟨hx, hb, hml, hown, hts⟩ (tX9_by l D cI a_t a_t_given a_t_c a_t_pointX a_t_pointY a_t_pointZ a_t_pointFlags a_t_flagPoint a_t_flagU a_t_flagV a_t_flagW a_t_next a_t_series a_t_mix a_t_cofactor a_t_square t_p t_isLaid t_isGood t_points t_flags t_formX t_formY t_formZ t_isNought t_sumT t_sumY v16 v17 v18 hv18) (cwV 2 hts gX9_laySeries_X9_by rfl rfl rfl (by decide +kernel) ⟨Nat.le_of_ble_eq_true rfl, Nat.le_of_ble_eq_true rfl⟩) hN hK hP hD hS hA [0] [some 0, none, none] rfl rfl rfl rfl rfl rfl 0 rfl rfl rfl hl.1 rfl (Nat.le_of_ble_eq_true rfl) dX9_laySeries_26 ⟨Nat.zero_le _, Nat.zero_le _⟩ (fun H locs hP hD hS => ?_)
          refine lv_goto (tgt := 33) hx hb dX9_laySeries_29 (by decide) ?_
          exact J33 v18 _ _ _ hf (lv_sub hl [0, 1] rfl) hP hD hS
  exact L2 p_FU 0 t_series_r _ _ _ hf (lv_sub hl [1, 0] rfl) hP hD hS
noncomputable def fX9_isOnLine (t_p : Int32) (t_flagU_r : (Nat → Int32)) (t_flagV_r : (Nat → Int32)) (t_flagW_r : (Nat → Int32)) (t_pointX_r : (Nat → Int32)) (t_pointY_r : (Nat → Int32)) (t_pointZ_r : (Nat → Int32)) (i1 : Int32) (i2 : Int32) : Option (Int32) :=
  p_b1 (p_ld t_flagU_r 400 i2) (fun v1 =>
p_b1 (p_ld t_pointX_r 200 i1) (fun v2 =>
p_b1 (p_ld t_flagV_r 400 i2) (fun v3 =>
p_b1 (p_ld t_pointY_r 200 i1) (fun v4 =>
p_b1 (p_ld t_flagW_r 400 i2) (fun v5 =>
p_b1 (p_ld t_pointZ_r 200 i1) (fun v6 =>
p_b1 (fX9_of t_p (((v1 * v2) + (v3 * v4)) + (v5 * v6))) (fun v7 =>
if v7 = 0 then (some 1) else (some 0))))))))
def rmX9_isOnLine : Room := { frames := 1, cells := 0, slots := 0, locals := 22 }
set_option maxHeartbeats 4000000 in
set_option maxRecDepth 100000 in
theorem tX9_isOnLine (l : Launch) (D : va_G) (cI : ClassId) (a_t : Nat) (a_t_given : Nat) (a_t_c : Nat) (a_t_pointX : Nat) (a_t_pointY : Nat) (a_t_pointZ : Nat) (a_t_pointFlags : Nat) (a_t_flagPoint : Nat) (a_t_flagU : Nat) (a_t_flagV : Nat) (a_t_flagW : Nat) (a_t_next : Nat) (a_t_series : Nat) (a_t_mix : Nat) (a_t_cofactor : Nat) (a_t_square : Nat) (t_p : Int32) (t_isLaid : Int32) (t_isGood : Int32) (t_points : Int32) (t_flags : Int32) (t_formX : Int32) (t_formY : Int32) (t_formZ : Int32) (t_isNought : Int32) (t_sumT : Int32) (t_sumY : Int32) (t_flagU_r : (Nat → Int32)) (t_flagV_r : (Nat → Int32)) (t_flagW_r : (Nat → Int32)) (t_pointX_r : (Nat → Int32)) (t_pointY_r : (Nat → Int32)) (t_pointZ_r : (Nat → Int32)) (i1 : Int32) (i2 : Int32) (r : Int32) (hf : fX9_isOnLine t_p t_flagU_r t_flagV_r t_flagW_r t_pointX_r t_pointY_r t_pointZ_r i1 i2 = some r) : x_CI l D cI yX9_isOnLine wsX9_isOnLine rmX9_isOnLine [.ref a_t, .int i1, .int i2] [x_o9 a_t t_p a_t_given t_isLaid t_isGood a_t_c t_points a_t_pointX a_t_pointY a_t_pointZ a_t_pointFlags t_flags a_t_flagPoint a_t_flagU a_t_flagV a_t_flagW a_t_next a_t_series a_t_mix a_t_cofactor t_formX t_formY t_formZ a_t_square t_isNought t_sumT t_sumY, x_ar cI a_t_flagU 400 t_flagU_r, x_ar cI a_t_flagV 400 t_flagV_r, x_ar cI a_t_flagW 400 t_flagW_r, x_ar cI a_t_pointX 200 t_pointX_r, x_ar cI a_t_pointY 200 t_pointY_r, x_ar cI a_t_pointZ 200 t_pointZ_r] [x_o9 a_t t_p a_t_given t_isLaid t_isGood a_t_c t_points a_t_pointX a_t_pointY a_t_pointZ a_t_pointFlags t_flags a_t_flagPoint a_t_flagU a_t_flagV a_t_flagW a_t_next a_t_series a_t_mix a_t_cofactor t_formX t_formY t_formZ a_t_square t_isNought t_sumT t_sumY, x_ar cI a_t_flagU 400 t_flagU_r, x_ar cI a_t_flagV 400 t_flagV_r, x_ar cI a_t_flagW 400 t_flagW_r, x_ar cI a_t_pointX 200 t_pointX_r, x_ar cI a_t_pointY 200 t_pointY_r, x_ar cI a_t_pointZ 200 t_pointZ_r] r := by
  refine x_CI_of (cc := cX9_isOnLine) (maxL := 3) (ty := .boolean) (own := RX9) (lv0 := [(0, .ref a_t), (1, .int i1), (2, .int i2)]) (by decide) rfl rfl (Nat.le_of_ble_eq_true rfl) rfl ?_
  intro p e s m args below meth c A Q ls hx hb hml hown hts hN hK hP hD hS hA hl hret
  have iX9 : ∀ w ∈ u_ws RX9 TX9 26, w ∈ wsX9_isOnLine := by decide +kernel
  have l35 := hts (.fieldLink RX9 35 "ChordRingsModel" "flagU" "[I") (by decide +kernel)
  have l20 := hts (.fieldLink RX9 20 "ChordRingsModel" "pointX" "[I") (by decide +kernel)
  have l38 := hts (.fieldLink RX9 38 "ChordRingsModel" "flagV" "[I") (by decide +kernel)
  have l23 := hts (.fieldLink RX9 23 "ChordRingsModel" "pointY" "[I") (by decide +kernel)
  have l41 := hts (.fieldLink RX9 41 "ChordRingsModel" "flagW" "[I") (by decide +kernel)
  have l26 := hts (.fieldLink RX9 26 "ChordRingsModel" "pointZ" "[I") (by decide +kernel)
  unfold fX9_isOnLine at hf
  refine lv_aload_n hx hb dX9_isOnLine_0 rfl (lv_at hl 0 rfl) ?_
  refine lv_aload_n hx hb dX9_isOnLine_1 rfl (lv_at hl 0 rfl) ?_
  refine va_get (D := D) (ci := 9) (C := RX9) (T := TX9) (N := 26) hx hb hts iX9 hown hK hP 0 rfl rfl 12 (by decide) l35 (fun _ h9 => h9) rfl dX9_isOnLine_2 ?_
  refine lv_iload_n hx hb dX9_isOnLine_5 rfl (lv_at hl 2 rfl) ?_
  obtain ⟨v1, hv1, hf⟩ := o_b1 hf
  refine x_ald hx hb hK hP 1 rfl hv1 dX9_isOnLine_6 ?_
  refine lv_aload_n hx hb dX9_isOnLine_7 rfl (lv_at hl 0 rfl) ?_
  refine va_get (D := D) (ci := 9) (C := RX9) (T := TX9) (N := 26) hx hb hts iX9 hown hK hP 0 rfl rfl 6 (by decide) l20 (fun _ h9 => h9) rfl dX9_isOnLine_8 ?_
  refine lv_iload_n hx hb dX9_isOnLine_11 rfl (lv_at hl 1 rfl) ?_
  obtain ⟨v2, hv2, hf⟩ := o_b1 hf
  refine x_ald hx hb hK hP 4 rfl hv2 dX9_isOnLine_12 ?_
  refine lv_imul hx hb dX9_isOnLine_13 ?_
  refine lv_aload_n hx hb dX9_isOnLine_14 rfl (lv_at hl 0 rfl) ?_
  refine va_get (D := D) (ci := 9) (C := RX9) (T := TX9) (N := 26) hx hb hts iX9 hown hK hP 0 rfl rfl 13 (by decide) l38 (fun _ h9 => h9) rfl dX9_isOnLine_15 ?_
  refine lv_iload_n hx hb dX9_isOnLine_18 rfl (lv_at hl 2 rfl) ?_
  obtain ⟨v3, hv3, hf⟩ := o_b1 hf
  refine x_ald hx hb hK hP 2 rfl hv3 dX9_isOnLine_19 ?_
  refine lv_aload_n hx hb dX9_isOnLine_20 rfl (lv_at hl 0 rfl) ?_
  refine va_get (D := D) (ci := 9) (C := RX9) (T := TX9) (N := 26) hx hb hts iX9 hown hK hP 0 rfl rfl 7 (by decide) l23 (fun _ h9 => h9) rfl dX9_isOnLine_21 ?_
  refine lv_iload_n hx hb dX9_isOnLine_24 rfl (lv_at hl 1 rfl) ?_
  obtain ⟨v4, hv4, hf⟩ := o_b1 hf
  refine x_ald hx hb hK hP 5 rfl hv4 dX9_isOnLine_25 ?_
  refine lv_imul hx hb dX9_isOnLine_26 ?_
  refine lv_iadd hx hb dX9_isOnLine_27 ?_
  refine lv_aload_n hx hb dX9_isOnLine_28 rfl (lv_at hl 0 rfl) ?_
  refine va_get (D := D) (ci := 9) (C := RX9) (T := TX9) (N := 26) hx hb hts iX9 hown hK hP 0 rfl rfl 14 (by decide) l41 (fun _ h9 => h9) rfl dX9_isOnLine_29 ?_
  refine lv_iload_n hx hb dX9_isOnLine_32 rfl (lv_at hl 2 rfl) ?_
  obtain ⟨v5, hv5, hf⟩ := o_b1 hf
  refine x_ald hx hb hK hP 3 rfl hv5 dX9_isOnLine_33 ?_
  refine lv_aload_n hx hb dX9_isOnLine_34 rfl (lv_at hl 0 rfl) ?_
  refine va_get (D := D) (ci := 9) (C := RX9) (T := TX9) (N := 26) hx hb hts iX9 hown hK hP 0 rfl rfl 8 (by decide) l26 (fun _ h9 => h9) rfl dX9_isOnLine_35 ?_
  refine lv_iload_n hx hb dX9_isOnLine_38 rfl (lv_at hl 1 rfl) ?_
  obtain ⟨v6, hv6, hf⟩ := o_b1 hf
  refine x_ald hx hb hK hP 6 rfl hv6 dX9_isOnLine_39 ?_
  refine lv_imul hx hb dX9_isOnLine_40 ?_
  refine lv_iadd hx hb dX9_isOnLine_41 ?_
  obtain ⟨v7, hv7, hf⟩ := o_b1 hf
  refine x_vi (rest := []) (W1 := [x_o9 a_t t_p a_t_given t_isLaid t_isGood a_t_c t_points a_t_pointX a_t_pointY a_t_pointZ a_t_pointFlags t_flags a_t_flagPoint a_t_flagU a_t_flagV a_t_flagW a_t_next a_t_series a_t_mix a_t_cofactor t_formX t_formY t_formZ a_t_square t_isNought t_sumT t_sumY, x_ar cI a_t_flagU 400 t_flagU_r, x_ar cI a_t_flagV 400 t_flagV_r, x_ar cI a_t_flagW 400 t_flagW_r, x_ar cI a_t_pointX 200 t_pointX_r, x_ar cI a_t_pointY 200 t_pointY_r, x_ar cI a_t_pointZ 200 t_pointZ_r]) ⟨hx, hb, hml, hown, hts⟩ (tX9_of l D cI a_t a_t_given a_t_c a_t_pointX a_t_pointY a_t_pointZ a_t_pointFlags a_t_flagPoint a_t_flagU a_t_flagV a_t_flagW a_t_next a_t_series a_t_mix a_t_cofactor a_t_square t_p t_isLaid t_isGood t_points t_flags t_formX t_formY t_formZ t_isNought t_sumT t_sumY (((v1 * v2) + (v3 * v4)) + (v5 * v6)) v7 hv7) (cwV 1 hts gX9_isOnLine_X9_of rfl rfl rfl (by decide +kernel) ⟨Nat.le_of_ble_eq_true rfl, Nat.le_of_ble_eq_true rfl⟩) hN hK hP hD hS hA [0] [some 0, none, none, none, none, none, none] rfl rfl rfl rfl rfl rfl 0 rfl rfl rfl hl.1 rfl (Nat.le_of_ble_eq_true rfl) dX9_isOnLine_42 ⟨Nat.zero_le _, Nat.zero_le _⟩ (fun H locs hP hD hS => ?_)
  refine lv_if_ne (tgt := 52) hx hb dX9_isOnLine_45 (by decide) (fun hc => ?_) (fun hc => ?_)
  · have hf := o_f hf hc
    refine lv_iconst (v := 0) hx hb dX9_isOnLine_52 (by decide) ?_
    obtain rfl := Option.some.inj hf
    exact hret rfl (by decide) dX9_isOnLine_53 hP hD hS
  · have hf := o_t hf hc
    refine lv_iconst (v := 1) hx hb dX9_isOnLine_48 (by decide) ?_
    refine lv_goto (tgt := 53) hx hb dX9_isOnLine_49 (by decide) ?_
    obtain rfl := Option.some.inj hf
    exact hret rfl (by decide) dX9_isOnLine_53 hP hD hS
noncomputable def kX9_stepOf_165 (y8 : Int32) (y9 : Int32) : Option (Int32) :=
  if 0 ≤ y9 then (some y9) else (some y8)
noncomputable def jX9_stepOf_159 (x7 : Int32) (rec58 : Int32 → Int32 → Int32 → Option (Int32)) (y11 : Int32) (y12 : Int32) : Option (Int32) :=
  p_nm (x7 + 1) (fun v13 =>
rec58 y11 y12 v13)
noncomputable def jX9_stepOf_157 (x7 : Int32) (rec58 : Int32 → Int32 → Int32 → Option (Int32)) (y17 : Int32) (y18 : Int32) : Option (Int32) :=
  jX9_stepOf_159 x7 rec58 y17 y18
noncomputable def jX9_stepOf_144 (x6 : Int32) (x7 : Int32) (rec58 : Int32 → Int32 → Int32 → Option (Int32)) (y16 : Int32) (y17 : Int32) : Option (Int32) :=
  if y16 = 0 then (jX9_stepOf_157 x7 rec58 y17 x7) else (jX9_stepOf_157 x7 rec58 y17 x6)
noncomputable def jX9_stepOf_131 (x5 : Int32) (x6 : Int32) (x7 : Int32) (rec58 : Int32 → Int32 → Int32 → Option (Int32)) (y16 : Int32) : Option (Int32) :=
  if y16 = 0 then (jX9_stepOf_144 x6 x7 rec58 y16 x5) else (jX9_stepOf_144 x6 x7 rec58 y16 x7)
noncomputable def jX9_stepOf_130 (x5 : Int32) (x6 : Int32) (x7 : Int32) (rec58 : Int32 → Int32 → Int32 → Option (Int32)) : Option (Int32) :=
  jX9_stepOf_131 x5 x6 x7 rec58 0
noncomputable def FgX9_stepOf_58 (t_flags : Int32) (t_flagPoint_r : (Nat → Int32)) (t_flagU_r : (Nat → Int32)) (t_flagV_r : (Nat → Int32)) (t_flagW_r : (Nat → Int32)) (i1 : Int32) (y4 : Int32) (rec58 : Int32 → Int32 → Int32 → Option (Int32)) (kk58 : Int32 → Int32 → Option (Int32)) (x5 : Int32) (x6 : Int32) (x7 : Int32) : Option (Int32) :=
  if t_flags ≤ x7 then (kk58 x5 x6) else (p_b1 (p_ld t_flagPoint_r 400 x7) (fun v10 =>
if v10 = y4 then (p_b1 (p_ld t_flagU_r 400 x7) (fun v14 =>
p_b1 (p_ld t_flagU_r 400 i1) (fun v15 =>
if v14 = v15 then (p_b1 (p_ld t_flagV_r 400 x7) (fun v19 =>
p_b1 (p_ld t_flagV_r 400 i1) (fun v20 =>
if v19 = v20 then (p_b1 (p_ld t_flagW_r 400 x7) (fun v21 =>
p_b1 (p_ld t_flagW_r 400 i1) (fun v22 =>
if v21 = v22 then (jX9_stepOf_131 x5 x6 x7 rec58 1) else (jX9_stepOf_130 x5 x6 x7 rec58)))) else (jX9_stepOf_130 x5 x6 x7 rec58)))) else (jX9_stepOf_130 x5 x6 x7 rec58)))) else (jX9_stepOf_159 x7 rec58 x5 x6)))
noncomputable def gX9_stepOf_58 (t_flags : Int32) (t_flagPoint_r : (Nat → Int32)) (t_flagU_r : (Nat → Int32)) (t_flagV_r : (Nat → Int32)) (t_flagW_r : (Nat → Int32)) (i1 : Int32) (y4 : Int32) (kk58 : Int32 → Int32 → Option (Int32)) (n : Nat) : Int32 → Int32 → Int32 → Option (Int32) := Nat.rec (motive := fun _ => Int32 → Int32 → Int32 → Option (Int32)) (fun _ _ _ => none) (fun _ rec58 => FgX9_stepOf_58 t_flags t_flagPoint_r t_flagU_r t_flagV_r t_flagW_r i1 y4 rec58 kk58) n
noncomputable def kX9_stepOf_48 (t_flags : Int32) (t_flagPoint_r : (Nat → Int32)) (t_flagU_r : (Nat → Int32)) (t_flagV_r : (Nat → Int32)) (t_flagW_r : (Nat → Int32)) (i1 : Int32) (y4 : Int32) : Option (Int32) :=
  gX9_stepOf_58 t_flags t_flagPoint_r t_flagU_r t_flagV_r t_flagW_r i1 y4 (kX9_stepOf_165) p_FU (-6) (-6) 0
noncomputable def jX9_stepOf_41 (x3 : Int32) (rec9 : Int32 → Int32 → Option (Int32)) (y24 : Int32) : Option (Int32) :=
  p_nm (x3 + 1) (fun v25 =>
rec9 y24 v25)
noncomputable def jX9_stepOf_40 (x2 : Int32) (x3 : Int32) (rec9 : Int32 → Int32 → Option (Int32)) : Option (Int32) :=
  jX9_stepOf_41 x3 rec9 x2
noncomputable def FgX9_stepOf_9 (t_p : Int32) (t_points : Int32) (t_flagPoint_r : (Nat → Int32)) (t_flagU_r : (Nat → Int32)) (t_flagV_r : (Nat → Int32)) (t_flagW_r : (Nat → Int32)) (t_pointX_r : (Nat → Int32)) (t_pointY_r : (Nat → Int32)) (t_pointZ_r : (Nat → Int32)) (i1 : Int32) (rec9 : Int32 → Int32 → Option (Int32)) (kk9 : Int32 → Option (Int32)) (x2 : Int32) (x3 : Int32) : Option (Int32) :=
  if t_points ≤ x3 then (kk9 x2) else (p_b1 (p_ld t_flagPoint_r 400 i1) (fun v23 =>
if x3 = v23 then (jX9_stepOf_40 x2 x3 rec9) else (p_b1 (fX9_isOnLine t_p t_flagU_r t_flagV_r t_flagW_r t_pointX_r t_pointY_r t_pointZ_r x3 i1) (fun v26 =>
if v26 = 0 then (jX9_stepOf_40 x2 x3 rec9) else (jX9_stepOf_41 x3 rec9 x3)))))
noncomputable def gX9_stepOf_9 (t_p : Int32) (t_points : Int32) (t_flagPoint_r : (Nat → Int32)) (t_flagU_r : (Nat → Int32)) (t_flagV_r : (Nat → Int32)) (t_flagW_r : (Nat → Int32)) (t_pointX_r : (Nat → Int32)) (t_pointY_r : (Nat → Int32)) (t_pointZ_r : (Nat → Int32)) (i1 : Int32) (kk9 : Int32 → Option (Int32)) (n : Nat) : Int32 → Int32 → Option (Int32) := Nat.rec (motive := fun _ => Int32 → Int32 → Option (Int32)) (fun _ _ => none) (fun _ rec9 => FgX9_stepOf_9 t_p t_points t_flagPoint_r t_flagU_r t_flagV_r t_flagW_r t_pointX_r t_pointY_r t_pointZ_r i1 rec9 kk9) n
noncomputable def fX9_stepOf (t_flags : Int32) (t_p : Int32) (t_points : Int32) (t_flagPoint_r : (Nat → Int32)) (t_flagU_r : (Nat → Int32)) (t_flagV_r : (Nat → Int32)) (t_flagW_r : (Nat → Int32)) (t_pointX_r : (Nat → Int32)) (t_pointY_r : (Nat → Int32)) (t_pointZ_r : (Nat → Int32)) (i1 : Int32) : Option (Int32) :=
  p_b1 (p_ld t_flagPoint_r 400 i1) (fun v1 =>
gX9_stepOf_9 t_p t_points t_flagPoint_r t_flagU_r t_flagV_r t_flagW_r t_pointX_r t_pointY_r t_pointZ_r i1 (kX9_stepOf_48 t_flags t_flagPoint_r t_flagU_r t_flagV_r t_flagW_r i1) p_FU v1 0)
def rmX9_stepOf : Room := { frames := 2, cells := 0, slots := 0, locals := 44 }
set_option maxHeartbeats 4000000 in
set_option maxRecDepth 100000 in
theorem tX9_stepOf (l : Launch) (D : va_G) (cI : ClassId) (a_t : Nat) (a_t_given : Nat) (a_t_c : Nat) (a_t_pointX : Nat) (a_t_pointY : Nat) (a_t_pointZ : Nat) (a_t_pointFlags : Nat) (a_t_flagPoint : Nat) (a_t_flagU : Nat) (a_t_flagV : Nat) (a_t_flagW : Nat) (a_t_next : Nat) (a_t_series : Nat) (a_t_mix : Nat) (a_t_cofactor : Nat) (a_t_square : Nat) (t_p : Int32) (t_isLaid : Int32) (t_isGood : Int32) (t_points : Int32) (t_flags : Int32) (t_formX : Int32) (t_formY : Int32) (t_formZ : Int32) (t_isNought : Int32) (t_sumT : Int32) (t_sumY : Int32) (t_flagPoint_r : (Nat → Int32)) (t_flagU_r : (Nat → Int32)) (t_flagV_r : (Nat → Int32)) (t_flagW_r : (Nat → Int32)) (t_pointX_r : (Nat → Int32)) (t_pointY_r : (Nat → Int32)) (t_pointZ_r : (Nat → Int32)) (i1 : Int32) (r : Int32) (hf : fX9_stepOf t_flags t_p t_points t_flagPoint_r t_flagU_r t_flagV_r t_flagW_r t_pointX_r t_pointY_r t_pointZ_r i1 = some r) : x_CI l D cI yX9_stepOf wsX9_stepOf rmX9_stepOf [.ref a_t, .int i1] [x_o9 a_t t_p a_t_given t_isLaid t_isGood a_t_c t_points a_t_pointX a_t_pointY a_t_pointZ a_t_pointFlags t_flags a_t_flagPoint a_t_flagU a_t_flagV a_t_flagW a_t_next a_t_series a_t_mix a_t_cofactor t_formX t_formY t_formZ a_t_square t_isNought t_sumT t_sumY, x_ar cI a_t_flagPoint 400 t_flagPoint_r, x_ar cI a_t_flagU 400 t_flagU_r, x_ar cI a_t_flagV 400 t_flagV_r, x_ar cI a_t_flagW 400 t_flagW_r, x_ar cI a_t_pointX 200 t_pointX_r, x_ar cI a_t_pointY 200 t_pointY_r, x_ar cI a_t_pointZ 200 t_pointZ_r] [x_o9 a_t t_p a_t_given t_isLaid t_isGood a_t_c t_points a_t_pointX a_t_pointY a_t_pointZ a_t_pointFlags t_flags a_t_flagPoint a_t_flagU a_t_flagV a_t_flagW a_t_next a_t_series a_t_mix a_t_cofactor t_formX t_formY t_formZ a_t_square t_isNought t_sumT t_sumY, x_ar cI a_t_flagPoint 400 t_flagPoint_r, x_ar cI a_t_flagU 400 t_flagU_r, x_ar cI a_t_flagV 400 t_flagV_r, x_ar cI a_t_flagW 400 t_flagW_r, x_ar cI a_t_pointX 200 t_pointX_r, x_ar cI a_t_pointY 200 t_pointY_r, x_ar cI a_t_pointZ 200 t_pointZ_r] r := by
  refine x_CI_of (cc := cX9_stepOf) (maxL := 7) (ty := .int) (own := RX9) (lv0 := [(0, .ref a_t), (1, .int i1)]) (by decide) rfl rfl (Nat.le_of_ble_eq_true rfl) rfl ?_
  intro p e s m args below meth c A Q ls hx hb hml hown hts hN hK hP hD hS hA hl hret
  have iX9 : ∀ w ∈ u_ws RX9 TX9 26, w ∈ wsX9_stepOf := by decide +kernel
  have l32 := hts (.fieldLink RX9 32 "ChordRingsModel" "flagPoint" "[I") (by decide +kernel)
  have l137 := hts (.fieldLink RX9 137 "ChordRingsModel" "points" "I") (by decide +kernel)
  have l140 := hts (.fieldLink RX9 140 "ChordRingsModel" "flags" "I") (by decide +kernel)
  have l35 := hts (.fieldLink RX9 35 "ChordRingsModel" "flagU" "[I") (by decide +kernel)
  have l38 := hts (.fieldLink RX9 38 "ChordRingsModel" "flagV" "[I") (by decide +kernel)
  have l41 := hts (.fieldLink RX9 41 "ChordRingsModel" "flagW" "[I") (by decide +kernel)
  unfold fX9_stepOf at hf
  refine lv_aload_n hx hb dX9_stepOf_0 rfl (lv_at hl 0 rfl) ?_
  refine va_get (D := D) (ci := 9) (C := RX9) (T := TX9) (N := 26) hx hb hts iX9 hown hK hP 0 rfl rfl 11 (by decide) l32 (fun _ h9 => h9) rfl dX9_stepOf_1 ?_
  refine lv_iload_n hx hb dX9_stepOf_4 rfl (lv_at hl 1 rfl) ?_
  obtain ⟨v1, hv1, hf⟩ := o_b1 hf
  refine x_ald hx hb hK hP 1 rfl hv1 dX9_stepOf_5 ?_
  refine lv_istore_n (lv' := [(2, .int v1), (0, .ref a_t), (1, .int i1)]) hx hb dX9_stepOf_6 rfl hl (by decide) rfl (fun ls hl => ?_)
  refine lv_iconst (v := 0) hx hb dX9_stepOf_7 (by decide) ?_
  refine lv_istore_n (lv' := [(3, .int 0), (2, .int v1), (0, .ref a_t), (1, .int i1)]) hx hb dX9_stepOf_8 rfl hl (by decide) rfl (fun ls hl => ?_)
  have L9 : ∀ (n : Nat) (x2 : Int32) (x3 : Int32) (ls : Array Slot) (H : Heap) (locs : List Loc), gX9_stepOf_9 t_p t_points t_flagPoint_r t_flagU_r t_flagV_r t_flagW_r t_pointX_r t_pointY_r t_pointZ_r i1 (kX9_stepOf_48 t_flags t_flagPoint_r t_flagU_r t_flagV_r t_flagW_r i1) n x2 x3 = some r → lv_has ls 7 [(0, .ref a_t), (1, .int i1), (2, .int x2), (3, .int x3)] → va_P D vwCl [x_o9 a_t t_p a_t_given t_isLaid t_isGood a_t_c t_points a_t_pointX a_t_pointY a_t_pointZ a_t_pointFlags t_flags a_t_flagPoint a_t_flagU a_t_flagV a_t_flagW a_t_next a_t_series a_t_mix a_t_cofactor t_formX t_formY t_formZ a_t_square t_isNought t_sumT t_sumY, x_ar cI a_t_flagPoint 400 t_flagPoint_r, x_ar cI a_t_flagU 400 t_flagU_r, x_ar cI a_t_flagV 400 t_flagV_r, x_ar cI a_t_flagW 400 t_flagW_r, x_ar cI a_t_pointX 200 t_pointX_r, x_ar cI a_t_pointY 200 t_pointY_r, x_ar cI a_t_pointZ 200 t_pointZ_r] H → va_D A [x_o9 a_t t_p a_t_given t_isLaid t_isGood a_t_c t_points a_t_pointX a_t_pointY a_t_pointZ a_t_pointFlags t_flags a_t_flagPoint a_t_flagU a_t_flagV a_t_flagW a_t_next a_t_series a_t_mix a_t_cofactor t_formX t_formY t_formZ a_t_square t_isNought t_sumT t_sumY, x_ar cI a_t_flagPoint 400 t_flagPoint_r, x_ar cI a_t_flagU 400 t_flagU_r, x_ar cI a_t_flagV 400 t_flagV_r, x_ar cI a_t_flagW 400 t_flagW_r, x_ar cI a_t_pointX 200 t_pointX_r, x_ar cI a_t_pointY 200 t_pointY_r, x_ar cI a_t_pointZ 200 t_pointZ_r] → va_S A s.heap H locs → W p l e rmX9_stepOf s m args below meth c H locs 0 0 Q (F0 m 9 ls []) := by
    intro n9
    induction n9 with
    | zero =>
      intro x2 x3 ls H locs hf
      exact nomatch (show (none : Option (Int32)) = some r from hf)
    | succ n9 ih9 =>
      intro x2 x3 ls H locs hf hl hP hD hS
      have hf : FgX9_stepOf_9 t_p t_points t_flagPoint_r t_flagU_r t_flagV_r t_flagW_r t_pointX_r t_pointY_r t_pointZ_r i1 (gX9_stepOf_9 t_p t_points t_flagPoint_r t_flagU_r t_flagV_r t_flagW_r t_pointX_r t_pointY_r t_pointZ_r i1 (kX9_stepOf_48 t_flags t_flagPoint_r t_flagU_r t_flagV_r t_flagW_r i1) n9) (kX9_stepOf_48 t_flags t_flagPoint_r t_flagU_r t_flagV_r t_flagW_r i1) x2 x3 = some r := hf
      unfold FgX9_stepOf_9 at hf
      refine lv_iload_n hx hb dX9_stepOf_9 rfl (lv_at hl 3 rfl) ?_
      refine lv_aload_n hx hb dX9_stepOf_10 rfl (lv_at hl 0 rfl) ?_
      refine va_get (D := D) (ci := 9) (C := RX9) (T := TX9) (N := 26) hx hb hts iX9 hown hK hP 0 rfl rfl 5 (by decide) l137 (fun _ h9 => h9) rfl dX9_stepOf_11 ?_
      have J48 : ∀ (y4 : Int32) (ls : Array Slot) (H : Heap) (locs : List Loc), kX9_stepOf_48 t_flags t_flagPoint_r t_flagU_r t_flagV_r t_flagW_r i1 y4 = some r → lv_has ls 7 [(0, .ref a_t), (1, .int i1), (2, .int y4)] → va_P D vwCl [x_o9 a_t t_p a_t_given t_isLaid t_isGood a_t_c t_points a_t_pointX a_t_pointY a_t_pointZ a_t_pointFlags t_flags a_t_flagPoint a_t_flagU a_t_flagV a_t_flagW a_t_next a_t_series a_t_mix a_t_cofactor t_formX t_formY t_formZ a_t_square t_isNought t_sumT t_sumY, x_ar cI a_t_flagPoint 400 t_flagPoint_r, x_ar cI a_t_flagU 400 t_flagU_r, x_ar cI a_t_flagV 400 t_flagV_r, x_ar cI a_t_flagW 400 t_flagW_r, x_ar cI a_t_pointX 200 t_pointX_r, x_ar cI a_t_pointY 200 t_pointY_r, x_ar cI a_t_pointZ 200 t_pointZ_r] H → va_D A [x_o9 a_t t_p a_t_given t_isLaid t_isGood a_t_c t_points a_t_pointX a_t_pointY a_t_pointZ a_t_pointFlags t_flags a_t_flagPoint a_t_flagU a_t_flagV a_t_flagW a_t_next a_t_series a_t_mix a_t_cofactor t_formX t_formY t_formZ a_t_square t_isNought t_sumT t_sumY, x_ar cI a_t_flagPoint 400 t_flagPoint_r, x_ar cI a_t_flagU 400 t_flagU_r, x_ar cI a_t_flagV 400 t_flagV_r, x_ar cI a_t_flagW 400 t_flagW_r, x_ar cI a_t_pointX 200 t_pointX_r, x_ar cI a_t_pointY 200 t_pointY_r, x_ar cI a_t_pointZ 200 t_pointZ_r] → va_S A s.heap H locs → W p l e rmX9_stepOf s m args below meth c H locs 0 0 Q (F0 m 48 ls []) := by
        intro y4 ls H locs hf hl hP hD hS
        unfold kX9_stepOf_48 at hf
        refine lv_bipush (v := (-6)) hx hb dX9_stepOf_48 (by decide) ?_
        refine lv_istore_n (lv' := [(3, .int (-6)), (0, .ref a_t), (1, .int i1), (2, .int y4)]) hx hb dX9_stepOf_50 rfl hl (by decide) rfl (fun ls hl => ?_)
        refine lv_bipush (v := (-6)) hx hb dX9_stepOf_51 (by decide) ?_
        refine lv_istore (lv' := [(4, .int (-6)), (3, .int (-6)), (0, .ref a_t), (1, .int i1), (2, .int y4)]) hx hb dX9_stepOf_53 hl (by decide) rfl (fun ls hl => ?_)
        refine lv_iconst (v := 0) hx hb dX9_stepOf_55 (by decide) ?_
        refine lv_istore (lv' := [(5, .int 0), (4, .int (-6)), (3, .int (-6)), (0, .ref a_t), (1, .int i1), (2, .int y4)]) hx hb dX9_stepOf_56 hl (by decide) rfl (fun ls hl => ?_)
        have L58 : ∀ (n : Nat) (x5 : Int32) (x6 : Int32) (x7 : Int32) (ls : Array Slot) (H : Heap) (locs : List Loc), gX9_stepOf_58 t_flags t_flagPoint_r t_flagU_r t_flagV_r t_flagW_r i1 y4 (kX9_stepOf_165) n x5 x6 x7 = some r → lv_has ls 7 [(0, .ref a_t), (1, .int i1), (2, .int y4), (3, .int x5), (4, .int x6), (5, .int x7)] → va_P D vwCl [x_o9 a_t t_p a_t_given t_isLaid t_isGood a_t_c t_points a_t_pointX a_t_pointY a_t_pointZ a_t_pointFlags t_flags a_t_flagPoint a_t_flagU a_t_flagV a_t_flagW a_t_next a_t_series a_t_mix a_t_cofactor t_formX t_formY t_formZ a_t_square t_isNought t_sumT t_sumY, x_ar cI a_t_flagPoint 400 t_flagPoint_r, x_ar cI a_t_flagU 400 t_flagU_r, x_ar cI a_t_flagV 400 t_flagV_r, x_ar cI a_t_flagW 400 t_flagW_r, x_ar cI a_t_pointX 200 t_pointX_r, x_ar cI a_t_pointY 200 t_pointY_r, x_ar cI a_t_pointZ 200 t_pointZ_r] H → va_D A [x_o9 a_t t_p a_t_given t_isLaid t_isGood a_t_c t_points a_t_pointX a_t_pointY a_t_pointZ a_t_pointFlags t_flags a_t_flagPoint a_t_flagU a_t_flagV a_t_flagW a_t_next a_t_series a_t_mix a_t_cofactor t_formX t_formY t_formZ a_t_square t_isNought t_sumT t_sumY, x_ar cI a_t_flagPoint 400 t_flagPoint_r, x_ar cI a_t_flagU 400 t_flagU_r, x_ar cI a_t_flagV 400 t_flagV_r, x_ar cI a_t_flagW 400 t_flagW_r, x_ar cI a_t_pointX 200 t_pointX_r, x_ar cI a_t_pointY 200 t_pointY_r, x_ar cI a_t_pointZ 200 t_pointZ_r] → va_S A s.heap H locs → W p l e rmX9_stepOf s m args below meth c H locs 0 0 Q (F0 m 58 ls []) := by
          intro n58
          induction n58 with
          | zero =>
            intro x5 x6 x7 ls H locs hf
            exact nomatch (show (none : Option (Int32)) = some r from hf)
          | succ n58 ih58 =>
            intro x5 x6 x7 ls H locs hf hl hP hD hS
            have hf : FgX9_stepOf_58 t_flags t_flagPoint_r t_flagU_r t_flagV_r t_flagW_r i1 y4 (gX9_stepOf_58 t_flags t_flagPoint_r t_flagU_r t_flagV_r t_flagW_r i1 y4 (kX9_stepOf_165) n58) (kX9_stepOf_165) x5 x6 x7 = some r := hf
            unfold FgX9_stepOf_58 at hf
            refine lv_iload hx hb dX9_stepOf_58 (lv_at hl 5 rfl) ?_
            refine lv_aload_n hx hb dX9_stepOf_60 rfl (lv_at hl 0 rfl) ?_
            refine va_get (D := D) (ci := 9) (C := RX9) (T := TX9) (N := 26) hx hb hts iX9 hown hK hP 0 rfl rfl 10 (by decide) l140 (fun _ h9 => h9) rfl dX9_stepOf_61 ?_
            have J165 : ∀ (y8 : Int32) (y9 : Int32) (ls : Array Slot) (H : Heap) (locs : List Loc), kX9_stepOf_165 y8 y9 = some r → lv_has ls 7 [(3, .int y8), (4, .int y9)] → va_P D vwCl [x_o9 a_t t_p a_t_given t_isLaid t_isGood a_t_c t_points a_t_pointX a_t_pointY a_t_pointZ a_t_pointFlags t_flags a_t_flagPoint a_t_flagU a_t_flagV a_t_flagW a_t_next a_t_series a_t_mix a_t_cofactor t_formX t_formY t_formZ a_t_square t_isNought t_sumT t_sumY, x_ar cI a_t_flagPoint 400 t_flagPoint_r, x_ar cI a_t_flagU 400 t_flagU_r, x_ar cI a_t_flagV 400 t_flagV_r, x_ar cI a_t_flagW 400 t_flagW_r, x_ar cI a_t_pointX 200 t_pointX_r, x_ar cI a_t_pointY 200 t_pointY_r, x_ar cI a_t_pointZ 200 t_pointZ_r] H → va_D A [x_o9 a_t t_p a_t_given t_isLaid t_isGood a_t_c t_points a_t_pointX a_t_pointY a_t_pointZ a_t_pointFlags t_flags a_t_flagPoint a_t_flagU a_t_flagV a_t_flagW a_t_next a_t_series a_t_mix a_t_cofactor t_formX t_formY t_formZ a_t_square t_isNought t_sumT t_sumY, x_ar cI a_t_flagPoint 400 t_flagPoint_r, x_ar cI a_t_flagU 400 t_flagU_r, x_ar cI a_t_flagV 400 t_flagV_r, x_ar cI a_t_flagW 400 t_flagW_r, x_ar cI a_t_pointX 200 t_pointX_r, x_ar cI a_t_pointY 200 t_pointY_r, x_ar cI a_t_pointZ 200 t_pointZ_r] → va_S A s.heap H locs → W p l e rmX9_stepOf s m args below meth c H locs 0 0 Q (F0 m 165 ls []) := by
              intro y8 y9 ls H locs hf hl hP hD hS
              unfold kX9_stepOf_165 at hf
              refine lv_iload hx hb dX9_stepOf_165 (lv_at hl 1 rfl) ?_
              refine lv_if_ge (tgt := 174) hx hb dX9_stepOf_167 (by decide) (fun hc => ?_) (fun hc => ?_)
              · have hf := o_t hf hc
                refine lv_iload hx hb dX9_stepOf_174 (lv_at hl 1 rfl) ?_
                obtain rfl := Option.some.inj hf
                exact hret rfl rfl dX9_stepOf_176 hP hD hS
              · have hf := o_f hf hc
                refine lv_iload_n hx hb dX9_stepOf_170 rfl (lv_at hl 0 rfl) ?_
                refine lv_goto (tgt := 176) hx hb dX9_stepOf_171 (by decide) ?_
                obtain rfl := Option.some.inj hf
                exact hret rfl rfl dX9_stepOf_176 hP hD hS
            refine lv_icmp_ge (tgt := 165) hx hb dX9_stepOf_64 (by decide) (fun hc => ?_) (fun hc => ?_)
            · have hf := o_t hf hc
              exact J165 x5 x6 _ _ _ hf (lv_sub hl [3, 4] rfl) hP hD hS
            · have hf := o_f hf hc
              refine lv_aload_n hx hb dX9_stepOf_67 rfl (lv_at hl 0 rfl) ?_
              refine va_get (D := D) (ci := 9) (C := RX9) (T := TX9) (N := 26) hx hb hts iX9 hown hK hP 0 rfl rfl 11 (by decide) l32 (fun _ h9 => h9) rfl dX9_stepOf_68 ?_
              refine lv_iload hx hb dX9_stepOf_71 (lv_at hl 5 rfl) ?_
              obtain ⟨v10, hv10, hf⟩ := o_b1 hf
              refine x_ald hx hb hK hP 1 rfl hv10 dX9_stepOf_73 ?_
              refine lv_iload_n hx hb dX9_stepOf_74 rfl (lv_at hl 2 rfl) ?_
              have J159 : ∀ (y11 : Int32) (y12 : Int32) (ls : Array Slot) (H : Heap) (locs : List Loc), jX9_stepOf_159 x7 (gX9_stepOf_58 t_flags t_flagPoint_r t_flagU_r t_flagV_r t_flagW_r i1 y4 (kX9_stepOf_165) n58) y11 y12 = some r → lv_has ls 7 [(0, .ref a_t), (1, .int i1), (2, .int y4), (3, .int y11), (4, .int y12), (5, .int x7)] → va_P D vwCl [x_o9 a_t t_p a_t_given t_isLaid t_isGood a_t_c t_points a_t_pointX a_t_pointY a_t_pointZ a_t_pointFlags t_flags a_t_flagPoint a_t_flagU a_t_flagV a_t_flagW a_t_next a_t_series a_t_mix a_t_cofactor t_formX t_formY t_formZ a_t_square t_isNought t_sumT t_sumY, x_ar cI a_t_flagPoint 400 t_flagPoint_r, x_ar cI a_t_flagU 400 t_flagU_r, x_ar cI a_t_flagV 400 t_flagV_r, x_ar cI a_t_flagW 400 t_flagW_r, x_ar cI a_t_pointX 200 t_pointX_r, x_ar cI a_t_pointY 200 t_pointY_r, x_ar cI a_t_pointZ 200 t_pointZ_r] H → va_D A [x_o9 a_t t_p a_t_given t_isLaid t_isGood a_t_c t_points a_t_pointX a_t_pointY a_t_pointZ a_t_pointFlags t_flags a_t_flagPoint a_t_flagU a_t_flagV a_t_flagW a_t_next a_t_series a_t_mix a_t_cofactor t_formX t_formY t_formZ a_t_square t_isNought t_sumT t_sumY, x_ar cI a_t_flagPoint 400 t_flagPoint_r, x_ar cI a_t_flagU 400 t_flagU_r, x_ar cI a_t_flagV 400 t_flagV_r, x_ar cI a_t_flagW 400 t_flagW_r, x_ar cI a_t_pointX 200 t_pointX_r, x_ar cI a_t_pointY 200 t_pointY_r, x_ar cI a_t_pointZ 200 t_pointZ_r] → va_S A s.heap H locs → W p l e rmX9_stepOf s m args below meth c H locs 0 0 Q (F0 m 159 ls []) := by
                intro y11 y12 ls H locs hf hl hP hD hS
                unfold jX9_stepOf_159 at hf
                obtain ⟨v13, ev13, hf⟩ := o_nm hf
                refine lv_iinc (v := v13) (lv' := [(5, .int v13), (0, .ref a_t), (1, .int i1), (2, .int y4), (3, .int y11), (4, .int y12)]) hx hb dX9_stepOf_159 hl (k := 5) rfl (by rw [ev13]; rfl) (by decide) rfl (fun ls hl => ?_)
                refine lv_goto (tgt := 58) hx hb dX9_stepOf_162 (by decide) ?_
                exact ih58 y11 y12 v13 _ _ _ hf (lv_sub hl [1, 2, 3, 4, 5, 0] rfl) hP hD hS
              refine lv_icmp_ne (tgt := 159) hx hb dX9_stepOf_75 (by decide) (fun hc => ?_) (fun hc => ?_)
              · have hf := o_f hf hc
                exact J159 x5 x6 _ _ _ hf (lv_sub hl [0, 1, 2, 3, 4, 5] rfl) hP hD hS
              · have hf := o_t hf hc
                refine lv_aload_n hx hb dX9_stepOf_78 rfl (lv_at hl 0 rfl) ?_
                refine va_get (D := D) (ci := 9) (C := RX9) (T := TX9) (N := 26) hx hb hts iX9 hown hK hP 0 rfl rfl 12 (by decide) l35 (fun _ h9 => h9) rfl dX9_stepOf_79 ?_
                refine lv_iload hx hb dX9_stepOf_82 (lv_at hl 5 rfl) ?_
                obtain ⟨v14, hv14, hf⟩ := o_b1 hf
                refine x_ald hx hb hK hP 2 rfl hv14 dX9_stepOf_84 ?_
                refine lv_aload_n hx hb dX9_stepOf_85 rfl (lv_at hl 0 rfl) ?_
                refine va_get (D := D) (ci := 9) (C := RX9) (T := TX9) (N := 26) hx hb hts iX9 hown hK hP 0 rfl rfl 12 (by decide) l35 (fun _ h9 => h9) rfl dX9_stepOf_86 ?_
                refine lv_iload_n hx hb dX9_stepOf_89 rfl (lv_at hl 1 rfl) ?_
                obtain ⟨v15, hv15, hf⟩ := o_b1 hf
                refine x_ald hx hb hK hP 2 rfl hv15 dX9_stepOf_90 ?_
                have J131 : ∀ (y16 : Int32) (ls : Array Slot) (H : Heap) (locs : List Loc), jX9_stepOf_131 x5 x6 x7 (gX9_stepOf_58 t_flags t_flagPoint_r t_flagU_r t_flagV_r t_flagW_r i1 y4 (kX9_stepOf_165) n58) y16 = some r → lv_has ls 7 [(0, .ref a_t), (1, .int i1), (2, .int y4), (3, .int x5), (4, .int x6), (5, .int x7)] → va_P D vwCl [x_o9 a_t t_p a_t_given t_isLaid t_isGood a_t_c t_points a_t_pointX a_t_pointY a_t_pointZ a_t_pointFlags t_flags a_t_flagPoint a_t_flagU a_t_flagV a_t_flagW a_t_next a_t_series a_t_mix a_t_cofactor t_formX t_formY t_formZ a_t_square t_isNought t_sumT t_sumY, x_ar cI a_t_flagPoint 400 t_flagPoint_r, x_ar cI a_t_flagU 400 t_flagU_r, x_ar cI a_t_flagV 400 t_flagV_r, x_ar cI a_t_flagW 400 t_flagW_r, x_ar cI a_t_pointX 200 t_pointX_r, x_ar cI a_t_pointY 200 t_pointY_r, x_ar cI a_t_pointZ 200 t_pointZ_r] H → va_D A [x_o9 a_t t_p a_t_given t_isLaid t_isGood a_t_c t_points a_t_pointX a_t_pointY a_t_pointZ a_t_pointFlags t_flags a_t_flagPoint a_t_flagU a_t_flagV a_t_flagW a_t_next a_t_series a_t_mix a_t_cofactor t_formX t_formY t_formZ a_t_square t_isNought t_sumT t_sumY, x_ar cI a_t_flagPoint 400 t_flagPoint_r, x_ar cI a_t_flagU 400 t_flagU_r, x_ar cI a_t_flagV 400 t_flagV_r, x_ar cI a_t_flagW 400 t_flagW_r, x_ar cI a_t_pointX 200 t_pointX_r, x_ar cI a_t_pointY 200 t_pointY_r, x_ar cI a_t_pointZ 200 t_pointZ_r] → va_S A s.heap H locs → W p l e rmX9_stepOf s m args below meth c H locs 0 0 Q (F0 m 131 ls [.int y16]) := by
                  intro y16 ls H locs hf hl hP hD hS
                  unfold jX9_stepOf_131 at hf
                  refine lv_istore (lv' := [(6, .int y16), (0, .ref a_t), (1, .int i1), (2, .int y4), (3, .int x5), (4, .int x6), (5, .int x7)]) hx hb dX9_stepOf_131 hl (by decide) rfl (fun ls hl => ?_)
                  refine lv_iload hx hb dX9_stepOf_133 (lv_at hl 0 rfl) ?_
                  have J144 : ∀ (y17 : Int32) (ls : Array Slot) (H : Heap) (locs : List Loc), jX9_stepOf_144 x6 x7 (gX9_stepOf_58 t_flags t_flagPoint_r t_flagU_r t_flagV_r t_flagW_r i1 y4 (kX9_stepOf_165) n58) y16 y17 = some r → lv_has ls 7 [(0, .ref a_t), (1, .int i1), (2, .int y4), (4, .int x6), (5, .int x7), (6, .int y16)] → va_P D vwCl [x_o9 a_t t_p a_t_given t_isLaid t_isGood a_t_c t_points a_t_pointX a_t_pointY a_t_pointZ a_t_pointFlags t_flags a_t_flagPoint a_t_flagU a_t_flagV a_t_flagW a_t_next a_t_series a_t_mix a_t_cofactor t_formX t_formY t_formZ a_t_square t_isNought t_sumT t_sumY, x_ar cI a_t_flagPoint 400 t_flagPoint_r, x_ar cI a_t_flagU 400 t_flagU_r, x_ar cI a_t_flagV 400 t_flagV_r, x_ar cI a_t_flagW 400 t_flagW_r, x_ar cI a_t_pointX 200 t_pointX_r, x_ar cI a_t_pointY 200 t_pointY_r, x_ar cI a_t_pointZ 200 t_pointZ_r] H → va_D A [x_o9 a_t t_p a_t_given t_isLaid t_isGood a_t_c t_points a_t_pointX a_t_pointY a_t_pointZ a_t_pointFlags t_flags a_t_flagPoint a_t_flagU a_t_flagV a_t_flagW a_t_next a_t_series a_t_mix a_t_cofactor t_formX t_formY t_formZ a_t_square t_isNought t_sumT t_sumY, x_ar cI a_t_flagPoint 400 t_flagPoint_r, x_ar cI a_t_flagU 400 t_flagU_r, x_ar cI a_t_flagV 400 t_flagV_r, x_ar cI a_t_flagW 400 t_flagW_r, x_ar cI a_t_pointX 200 t_pointX_r, x_ar cI a_t_pointY 200 t_pointY_r, x_ar cI a_t_pointZ 200 t_pointZ_r] → va_S A s.heap H locs → W p l e rmX9_stepOf s m args below meth c H locs 0 0 Q (F0 m 144 ls [.int y17]) := by
                    intro y17 ls H locs hf hl hP hD hS
                    unfold jX9_stepOf_144 at hf
                    refine lv_istore_n (lv' := [(3, .int y17), (0, .ref a_t), (1, .int i1), (2, .int y4), (4, .int x6), (5, .int x7), (6, .int y16)]) hx hb dX9_stepOf_144 rfl hl (by decide) rfl (fun ls hl => ?_)
                    refine lv_iload hx hb dX9_stepOf_145 (lv_at hl 6 rfl) ?_
                    have J157 : ∀ (y18 : Int32) (ls : Array Slot) (H : Heap) (locs : List Loc), jX9_stepOf_157 x7 (gX9_stepOf_58 t_flags t_flagPoint_r t_flagU_r t_flagV_r t_flagW_r i1 y4 (kX9_stepOf_165) n58) y17 y18 = some r → lv_has ls 7 [(0, .ref a_t), (1, .int i1), (2, .int y4), (3, .int y17), (5, .int x7)] → va_P D vwCl [x_o9 a_t t_p a_t_given t_isLaid t_isGood a_t_c t_points a_t_pointX a_t_pointY a_t_pointZ a_t_pointFlags t_flags a_t_flagPoint a_t_flagU a_t_flagV a_t_flagW a_t_next a_t_series a_t_mix a_t_cofactor t_formX t_formY t_formZ a_t_square t_isNought t_sumT t_sumY, x_ar cI a_t_flagPoint 400 t_flagPoint_r, x_ar cI a_t_flagU 400 t_flagU_r, x_ar cI a_t_flagV 400 t_flagV_r, x_ar cI a_t_flagW 400 t_flagW_r, x_ar cI a_t_pointX 200 t_pointX_r, x_ar cI a_t_pointY 200 t_pointY_r, x_ar cI a_t_pointZ 200 t_pointZ_r] H → va_D A [x_o9 a_t t_p a_t_given t_isLaid t_isGood a_t_c t_points a_t_pointX a_t_pointY a_t_pointZ a_t_pointFlags t_flags a_t_flagPoint a_t_flagU a_t_flagV a_t_flagW a_t_next a_t_series a_t_mix a_t_cofactor t_formX t_formY t_formZ a_t_square t_isNought t_sumT t_sumY, x_ar cI a_t_flagPoint 400 t_flagPoint_r, x_ar cI a_t_flagU 400 t_flagU_r, x_ar cI a_t_flagV 400 t_flagV_r, x_ar cI a_t_flagW 400 t_flagW_r, x_ar cI a_t_pointX 200 t_pointX_r, x_ar cI a_t_pointY 200 t_pointY_r, x_ar cI a_t_pointZ 200 t_pointZ_r] → va_S A s.heap H locs → W p l e rmX9_stepOf s m args below meth c H locs 0 0 Q (F0 m 157 ls [.int y18]) := by
                      intro y18 ls H locs hf hl hP hD hS
                      unfold jX9_stepOf_157 at hf
                      refine lv_istore (lv' := [(4, .int y18), (0, .ref a_t), (1, .int i1), (2, .int y4), (3, .int y17), (5, .int x7)]) hx hb dX9_stepOf_157 hl (by decide) rfl (fun ls hl => ?_)
                      exact J159 y17 y18 _ _ _ hf (lv_sub hl [1, 2, 3, 4, 0, 5] rfl) hP hD hS
                    refine lv_if_eq (tgt := 155) hx hb dX9_stepOf_147 (by decide) (fun hc => ?_) (fun hc => ?_)
                    · have hf := o_t hf hc
                      refine lv_iload hx hb dX9_stepOf_155 (lv_at hl 5 rfl) ?_
                      exact J157 x7 _ _ _ hf (lv_sub hl [1, 2, 3, 0, 5] rfl) hP hD hS
                    · have hf := o_f hf hc
                      refine lv_iload hx hb dX9_stepOf_150 (lv_at hl 4 rfl) ?_
                      refine lv_goto (tgt := 157) hx hb dX9_stepOf_152 (by decide) ?_
                      exact J157 x6 _ _ _ hf (lv_sub hl [1, 2, 3, 0, 5] rfl) hP hD hS
                  refine lv_if_eq (tgt := 143) hx hb dX9_stepOf_135 (by decide) (fun hc => ?_) (fun hc => ?_)
                  · have hf := o_t hf hc
                    refine lv_iload_n hx hb dX9_stepOf_143 rfl (lv_at hl 4 rfl) ?_
                    exact J144 x5 _ _ _ hf (lv_sub hl [1, 2, 3, 5, 6, 0] rfl) hP hD hS
                  · have hf := o_f hf hc
                    refine lv_iload hx hb dX9_stepOf_138 (lv_at hl 6 rfl) ?_
                    refine lv_goto (tgt := 144) hx hb dX9_stepOf_140 (by decide) ?_
                    exact J144 x7 _ _ _ hf (lv_sub hl [1, 2, 3, 5, 6, 0] rfl) hP hD hS
                have J130 : ∀ (ls : Array Slot) (H : Heap) (locs : List Loc), jX9_stepOf_130 x5 x6 x7 (gX9_stepOf_58 t_flags t_flagPoint_r t_flagU_r t_flagV_r t_flagW_r i1 y4 (kX9_stepOf_165) n58) = some r → lv_has ls 7 [(0, .ref a_t), (1, .int i1), (2, .int y4), (3, .int x5), (4, .int x6), (5, .int x7)] → va_P D vwCl [x_o9 a_t t_p a_t_given t_isLaid t_isGood a_t_c t_points a_t_pointX a_t_pointY a_t_pointZ a_t_pointFlags t_flags a_t_flagPoint a_t_flagU a_t_flagV a_t_flagW a_t_next a_t_series a_t_mix a_t_cofactor t_formX t_formY t_formZ a_t_square t_isNought t_sumT t_sumY, x_ar cI a_t_flagPoint 400 t_flagPoint_r, x_ar cI a_t_flagU 400 t_flagU_r, x_ar cI a_t_flagV 400 t_flagV_r, x_ar cI a_t_flagW 400 t_flagW_r, x_ar cI a_t_pointX 200 t_pointX_r, x_ar cI a_t_pointY 200 t_pointY_r, x_ar cI a_t_pointZ 200 t_pointZ_r] H → va_D A [x_o9 a_t t_p a_t_given t_isLaid t_isGood a_t_c t_points a_t_pointX a_t_pointY a_t_pointZ a_t_pointFlags t_flags a_t_flagPoint a_t_flagU a_t_flagV a_t_flagW a_t_next a_t_series a_t_mix a_t_cofactor t_formX t_formY t_formZ a_t_square t_isNought t_sumT t_sumY, x_ar cI a_t_flagPoint 400 t_flagPoint_r, x_ar cI a_t_flagU 400 t_flagU_r, x_ar cI a_t_flagV 400 t_flagV_r, x_ar cI a_t_flagW 400 t_flagW_r, x_ar cI a_t_pointX 200 t_pointX_r, x_ar cI a_t_pointY 200 t_pointY_r, x_ar cI a_t_pointZ 200 t_pointZ_r] → va_S A s.heap H locs → W p l e rmX9_stepOf s m args below meth c H locs 0 0 Q (F0 m 130 ls []) := by
                  intro ls H locs hf hl hP hD hS
                  unfold jX9_stepOf_130 at hf
                  refine lv_iconst (v := 0) hx hb dX9_stepOf_130 (by decide) ?_
                  exact J131 0 _ _ _ hf (lv_sub hl [0, 1, 2, 3, 4, 5] rfl) hP hD hS
                refine lv_icmp_ne (tgt := 130) hx hb dX9_stepOf_91 (by decide) (fun hc => ?_) (fun hc => ?_)
                · have hf := o_f hf hc
                  exact J130 _ _ _ hf (lv_sub hl [0, 1, 2, 3, 4, 5] rfl) hP hD hS
                · have hf := o_t hf hc
                  refine lv_aload_n hx hb dX9_stepOf_94 rfl (lv_at hl 0 rfl) ?_
                  refine va_get (D := D) (ci := 9) (C := RX9) (T := TX9) (N := 26) hx hb hts iX9 hown hK hP 0 rfl rfl 13 (by decide) l38 (fun _ h9 => h9) rfl dX9_stepOf_95 ?_
                  refine lv_iload hx hb dX9_stepOf_98 (lv_at hl 5 rfl) ?_
                  obtain ⟨v19, hv19, hf⟩ := o_b1 hf
                  refine x_ald hx hb hK hP 3 rfl hv19 dX9_stepOf_100 ?_
                  refine lv_aload_n hx hb dX9_stepOf_101 rfl (lv_at hl 0 rfl) ?_
                  refine va_get (D := D) (ci := 9) (C := RX9) (T := TX9) (N := 26) hx hb hts iX9 hown hK hP 0 rfl rfl 13 (by decide) l38 (fun _ h9 => h9) rfl dX9_stepOf_102 ?_
                  refine lv_iload_n hx hb dX9_stepOf_105 rfl (lv_at hl 1 rfl) ?_
                  obtain ⟨v20, hv20, hf⟩ := o_b1 hf
                  refine x_ald hx hb hK hP 3 rfl hv20 dX9_stepOf_106 ?_
                  refine lv_icmp_ne (tgt := 130) hx hb dX9_stepOf_107 (by decide) (fun hc => ?_) (fun hc => ?_)
                  · have hf := o_f hf hc
                    exact J130 _ _ _ hf (lv_sub hl [0, 1, 2, 3, 4, 5] rfl) hP hD hS
                  · have hf := o_t hf hc
                    refine lv_aload_n hx hb dX9_stepOf_110 rfl (lv_at hl 0 rfl) ?_
                    refine va_get (D := D) (ci := 9) (C := RX9) (T := TX9) (N := 26) hx hb hts iX9 hown hK hP 0 rfl rfl 14 (by decide) l41 (fun _ h9 => h9) rfl dX9_stepOf_111 ?_
                    refine lv_iload hx hb dX9_stepOf_114 (lv_at hl 5 rfl) ?_
                    obtain ⟨v21, hv21, hf⟩ := o_b1 hf
                    refine x_ald hx hb hK hP 4 rfl hv21 dX9_stepOf_116 ?_
                    refine lv_aload_n hx hb dX9_stepOf_117 rfl (lv_at hl 0 rfl) ?_
                    refine va_get (D := D) (ci := 9) (C := RX9) (T := TX9) (N := 26) hx hb hts iX9 hown hK hP 0 rfl rfl 14 (by decide) l41 (fun _ h9 => h9) rfl dX9_stepOf_118 ?_
                    refine lv_iload_n hx hb dX9_stepOf_121 rfl (lv_at hl 1 rfl) ?_
                    obtain ⟨v22, hv22, hf⟩ := o_b1 hf
                    refine x_ald hx hb hK hP 4 rfl hv22 dX9_stepOf_122 ?_
                    refine lv_icmp_ne (tgt := 130) hx hb dX9_stepOf_123 (by decide) (fun hc => ?_) (fun hc => ?_)
                    · have hf := o_f hf hc
                      exact J130 _ _ _ hf (lv_sub hl [0, 1, 2, 3, 4, 5] rfl) hP hD hS
                    · have hf := o_t hf hc
                      refine lv_iconst (v := 1) hx hb dX9_stepOf_126 (by decide) ?_
                      refine lv_goto (tgt := 131) hx hb dX9_stepOf_127 (by decide) ?_
                      exact J131 1 _ _ _ hf (lv_sub hl [0, 1, 2, 3, 4, 5] rfl) hP hD hS
        exact L58 p_FU (-6) (-6) 0 _ _ _ hf (lv_sub hl [3, 4, 5, 2, 1, 0] rfl) hP hD hS
      refine lv_icmp_ge (tgt := 48) hx hb dX9_stepOf_14 (by decide) (fun hc => ?_) (fun hc => ?_)
      · have hf := o_t hf hc
        exact J48 x2 _ _ _ hf (lv_sub hl [0, 1, 2] rfl) hP hD hS
      · have hf := o_f hf hc
        refine lv_iload_n hx hb dX9_stepOf_17 rfl (lv_at hl 3 rfl) ?_
        refine lv_aload_n hx hb dX9_stepOf_18 rfl (lv_at hl 0 rfl) ?_
        refine va_get (D := D) (ci := 9) (C := RX9) (T := TX9) (N := 26) hx hb hts iX9 hown hK hP 0 rfl rfl 11 (by decide) l32 (fun _ h9 => h9) rfl dX9_stepOf_19 ?_
        refine lv_iload_n hx hb dX9_stepOf_22 rfl (lv_at hl 1 rfl) ?_
        obtain ⟨v23, hv23, hf⟩ := o_b1 hf
        refine x_ald hx hb hK hP 1 rfl hv23 dX9_stepOf_23 ?_
        have J41 : ∀ (y24 : Int32) (ls : Array Slot) (H : Heap) (locs : List Loc), jX9_stepOf_41 x3 (gX9_stepOf_9 t_p t_points t_flagPoint_r t_flagU_r t_flagV_r t_flagW_r t_pointX_r t_pointY_r t_pointZ_r i1 (kX9_stepOf_48 t_flags t_flagPoint_r t_flagU_r t_flagV_r t_flagW_r i1) n9) y24 = some r → lv_has ls 7 [(0, .ref a_t), (1, .int i1), (3, .int x3)] → va_P D vwCl [x_o9 a_t t_p a_t_given t_isLaid t_isGood a_t_c t_points a_t_pointX a_t_pointY a_t_pointZ a_t_pointFlags t_flags a_t_flagPoint a_t_flagU a_t_flagV a_t_flagW a_t_next a_t_series a_t_mix a_t_cofactor t_formX t_formY t_formZ a_t_square t_isNought t_sumT t_sumY, x_ar cI a_t_flagPoint 400 t_flagPoint_r, x_ar cI a_t_flagU 400 t_flagU_r, x_ar cI a_t_flagV 400 t_flagV_r, x_ar cI a_t_flagW 400 t_flagW_r, x_ar cI a_t_pointX 200 t_pointX_r, x_ar cI a_t_pointY 200 t_pointY_r, x_ar cI a_t_pointZ 200 t_pointZ_r] H → va_D A [x_o9 a_t t_p a_t_given t_isLaid t_isGood a_t_c t_points a_t_pointX a_t_pointY a_t_pointZ a_t_pointFlags t_flags a_t_flagPoint a_t_flagU a_t_flagV a_t_flagW a_t_next a_t_series a_t_mix a_t_cofactor t_formX t_formY t_formZ a_t_square t_isNought t_sumT t_sumY, x_ar cI a_t_flagPoint 400 t_flagPoint_r, x_ar cI a_t_flagU 400 t_flagU_r, x_ar cI a_t_flagV 400 t_flagV_r, x_ar cI a_t_flagW 400 t_flagW_r, x_ar cI a_t_pointX 200 t_pointX_r, x_ar cI a_t_pointY 200 t_pointY_r, x_ar cI a_t_pointZ 200 t_pointZ_r] → va_S A s.heap H locs → W p l e rmX9_stepOf s m args below meth c H locs 0 0 Q (F0 m 41 ls [.int y24]) := by
          intro y24 ls H locs hf hl hP hD hS
          unfold jX9_stepOf_41 at hf
          refine lv_istore_n (lv' := [(2, .int y24), (0, .ref a_t), (1, .int i1), (3, .int x3)]) hx hb dX9_stepOf_41 rfl hl (by decide) rfl (fun ls hl => ?_)
          obtain ⟨v25, ev25, hf⟩ := o_nm hf
          refine lv_iinc (v := v25) (lv' := [(3, .int v25), (2, .int y24), (0, .ref a_t), (1, .int i1)]) hx hb dX9_stepOf_42 hl (k := 3) rfl (by rw [ev25]; rfl) (by decide) rfl (fun ls hl => ?_)
          refine lv_goto (tgt := 9) hx hb dX9_stepOf_45 (by decide) ?_
          exact ih9 y24 v25 _ _ _ hf (lv_sub hl [2, 3, 1, 0] rfl) hP hD hS
        have J40 : ∀ (ls : Array Slot) (H : Heap) (locs : List Loc), jX9_stepOf_40 x2 x3 (gX9_stepOf_9 t_p t_points t_flagPoint_r t_flagU_r t_flagV_r t_flagW_r t_pointX_r t_pointY_r t_pointZ_r i1 (kX9_stepOf_48 t_flags t_flagPoint_r t_flagU_r t_flagV_r t_flagW_r i1) n9) = some r → lv_has ls 7 [(0, .ref a_t), (1, .int i1), (2, .int x2), (3, .int x3)] → va_P D vwCl [x_o9 a_t t_p a_t_given t_isLaid t_isGood a_t_c t_points a_t_pointX a_t_pointY a_t_pointZ a_t_pointFlags t_flags a_t_flagPoint a_t_flagU a_t_flagV a_t_flagW a_t_next a_t_series a_t_mix a_t_cofactor t_formX t_formY t_formZ a_t_square t_isNought t_sumT t_sumY, x_ar cI a_t_flagPoint 400 t_flagPoint_r, x_ar cI a_t_flagU 400 t_flagU_r, x_ar cI a_t_flagV 400 t_flagV_r, x_ar cI a_t_flagW 400 t_flagW_r, x_ar cI a_t_pointX 200 t_pointX_r, x_ar cI a_t_pointY 200 t_pointY_r, x_ar cI a_t_pointZ 200 t_pointZ_r] H → va_D A [x_o9 a_t t_p a_t_given t_isLaid t_isGood a_t_c t_points a_t_pointX a_t_pointY a_t_pointZ a_t_pointFlags t_flags a_t_flagPoint a_t_flagU a_t_flagV a_t_flagW a_t_next a_t_series a_t_mix a_t_cofactor t_formX t_formY t_formZ a_t_square t_isNought t_sumT t_sumY, x_ar cI a_t_flagPoint 400 t_flagPoint_r, x_ar cI a_t_flagU 400 t_flagU_r, x_ar cI a_t_flagV 400 t_flagV_r, x_ar cI a_t_flagW 400 t_flagW_r, x_ar cI a_t_pointX 200 t_pointX_r, x_ar cI a_t_pointY 200 t_pointY_r, x_ar cI a_t_pointZ 200 t_pointZ_r] → va_S A s.heap H locs → W p l e rmX9_stepOf s m args below meth c H locs 0 0 Q (F0 m 40 ls []) := by
          intro ls H locs hf hl hP hD hS
          unfold jX9_stepOf_40 at hf
          refine lv_iload_n hx hb dX9_stepOf_40 rfl (lv_at hl 2 rfl) ?_
          exact J41 x2 _ _ _ hf (lv_sub hl [0, 1, 3] rfl) hP hD hS
        refine lv_icmp_eq (tgt := 40) hx hb dX9_stepOf_24 (by decide) (fun hc => ?_) (fun hc => ?_)
        · have hf := o_t hf hc
          exact J40 _ _ _ hf (lv_sub hl [0, 1, 2, 3] rfl) hP hD hS
        · have hf := o_f hf hc
          refine lv_aload_n hx hb dX9_stepOf_27 rfl (lv_at hl 0 rfl) ?_
          refine lv_iload_n hx hb dX9_stepOf_28 rfl (lv_at hl 3 rfl) ?_
          refine lv_iload_n hx hb dX9_stepOf_29 rfl (lv_at hl 1 rfl) ?_
          obtain ⟨v26, hv26, hf⟩ := o_b1 hf
          refine x_vi (rest := []) (W1 := [x_o9 a_t t_p a_t_given t_isLaid t_isGood a_t_c t_points a_t_pointX a_t_pointY a_t_pointZ a_t_pointFlags t_flags a_t_flagPoint a_t_flagU a_t_flagV a_t_flagW a_t_next a_t_series a_t_mix a_t_cofactor t_formX t_formY t_formZ a_t_square t_isNought t_sumT t_sumY, x_ar cI a_t_flagPoint 400 t_flagPoint_r, x_ar cI a_t_flagU 400 t_flagU_r, x_ar cI a_t_flagV 400 t_flagV_r, x_ar cI a_t_flagW 400 t_flagW_r, x_ar cI a_t_pointX 200 t_pointX_r, x_ar cI a_t_pointY 200 t_pointY_r, x_ar cI a_t_pointZ 200 t_pointZ_r]) ⟨hx, hb, hml, hown, hts⟩ (tX9_isOnLine l D cI a_t a_t_given a_t_c a_t_pointX a_t_pointY a_t_pointZ a_t_pointFlags a_t_flagPoint a_t_flagU a_t_flagV a_t_flagW a_t_next a_t_series a_t_mix a_t_cofactor a_t_square t_p t_isLaid t_isGood t_points t_flags t_formX t_formY t_formZ t_isNought t_sumT t_sumY t_flagU_r t_flagV_r t_flagW_r t_pointX_r t_pointY_r t_pointZ_r x3 i1 v26 hv26) (cwV 2 hts gX9_stepOf_X9_isOnLine rfl rfl rfl (by decide +kernel) ⟨Nat.le_of_ble_eq_true rfl, Nat.le_of_ble_eq_true rfl⟩) hN hK hP hD hS hA [0, 2, 3, 4, 5, 6, 7] [some 0, none, some 1, some 2, some 3, some 4, some 5, some 6] rfl rfl rfl rfl rfl rfl 0 rfl rfl rfl hl.1 rfl (Nat.le_of_ble_eq_true rfl) dX9_stepOf_30 ⟨Nat.zero_le _, Nat.zero_le _⟩ (fun H locs hP hD hS => ?_)
          refine lv_if_eq (tgt := 40) hx hb dX9_stepOf_33 (by decide) (fun hc => ?_) (fun hc => ?_)
          · have hf := o_t hf hc
            exact J40 _ _ _ hf (lv_sub hl [0, 1, 2, 3] rfl) hP hD hS
          · have hf := o_f hf hc
            refine lv_iload_n hx hb dX9_stepOf_36 rfl (lv_at hl 3 rfl) ?_
            refine lv_goto (tgt := 41) hx hb dX9_stepOf_37 (by decide) ?_
            exact J41 x3 _ _ _ hf (lv_sub hl [0, 1, 3] rfl) hP hD hS
  exact L9 p_FU v1 0 _ _ _ hf (lv_sub hl [2, 3, 1, 0] rfl) hP hD hS
