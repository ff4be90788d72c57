noncomputable def kX9_lay_94 (t_p : Int32) (t_series_r : (Nat → Int32)) (u1 : (Nat → Int32)) (v5 : Int32) (v6 : Int32) (u7 : (Nat → Int32)) (u8 : (Nat → Int32)) (u9 : (Nat → Int32)) (v10 : Int32) (v11 : Int32) (v12 : Int32) (v13 : Int32) (u14 : (Nat → Int32)) (u15 : (Nat → Int32)) (u16 : (Nat → Int32)) (u17 : (Nat → Int32)) (u18 : (Nat → Int32)) (u19 : (Nat → Int32)) (w22 : (Nat → Int32)) : Option (Int32 × Int32 × Int32 × Int32 × Int32 × Int32 × Int32 × (Nat → Int32) × (Nat → Int32) × (Nat → Int32) × (Nat → Int32) × (Nat → Int32) × (Nat → Int32) × (Nat → Int32) × (Nat → Int32) × (Nat → Int32) × (Nat → Int32) × (Nat → Int32) × (Nat → Int32)) :=
  p_b1 (fX9_laySeries t_p u1 t_series_r) (fun u23 =>
some (v10, v11, v12, v13, v5, 1, v6, u1, u14, u15, u16, u17, u18, w22, u19, u7, u8, u9, u23))
noncomputable def FgX9_lay_69 (t_p : Int32) (v6 : Int32) (u7 : (Nat → Int32)) (u8 : (Nat → Int32)) (u9 : (Nat → Int32)) (v10 : Int32) (u15 : (Nat → Int32)) (u16 : (Nat → Int32)) (u17 : (Nat → Int32)) (u18 : (Nat → Int32)) (rec69 : Int32 → (Nat → Int32) → Option (Int32 × Int32 × Int32 × Int32 × Int32 × Int32 × Int32 × (Nat → Int32) × (Nat → Int32) × (Nat → Int32) × (Nat → Int32) × (Nat → Int32) × (Nat → Int32) × (Nat → Int32) × (Nat → Int32) × (Nat → Int32) × (Nat → Int32) × (Nat → Int32) × (Nat → Int32))) (kk69 : (Nat → Int32) → Option (Int32 × Int32 × Int32 × Int32 × Int32 × Int32 × Int32 × (Nat → Int32) × (Nat → Int32) × (Nat → Int32) × (Nat → Int32) × (Nat → Int32) × (Nat → Int32) × (Nat → Int32) × (Nat → Int32) × (Nat → Int32) × (Nat → Int32) × (Nat → Int32) × (Nat → Int32))) (x20 : Int32) (z21 : (Nat → Int32)) : Option (Int32 × Int32 × Int32 × Int32 × Int32 × Int32 × Int32 × (Nat → Int32) × (Nat → Int32) × (Nat → Int32) × (Nat → Int32) × (Nat → Int32) × (Nat → Int32) × (Nat → Int32) × (Nat → Int32) × (Nat → Int32) × (Nat → Int32) × (Nat → Int32) × (Nat → Int32)) :=
  if v10 ≤ x20 then (kk69 z21) else (p_b1 (fX9_stepOf v10 t_p v6 u15 u16 u17 u18 u7 u8 u9 x20) (fun v24 =>
p_b1 (p_st z21 400 x20 v24) (fun u25 =>
p_nm (x20 + 1) (fun v26 =>
rec69 v26 u25))))
noncomputable def gX9_lay_69 (t_p : Int32) (v6 : Int32) (u7 : (Nat → Int32)) (u8 : (Nat → Int32)) (u9 : (Nat → Int32)) (v10 : Int32) (u15 : (Nat → Int32)) (u16 : (Nat → Int32)) (u17 : (Nat → Int32)) (u18 : (Nat → Int32)) (kk69 : (Nat → Int32) → Option (Int32 × Int32 × Int32 × Int32 × Int32 × Int32 × Int32 × (Nat → Int32) × (Nat → Int32) × (Nat → Int32) × (Nat → Int32) × (Nat → Int32) × (Nat → Int32) × (Nat → Int32) × (Nat → Int32) × (Nat → Int32) × (Nat → Int32) × (Nat → Int32) × (Nat → Int32))) (n : Nat) : Int32 → (Nat → Int32) → Option (Int32 × Int32 × Int32 × Int32 × Int32 × Int32 × Int32 × (Nat → Int32) × (Nat → Int32) × (Nat → Int32) × (Nat → Int32) × (Nat → Int32) × (Nat → Int32) × (Nat → Int32) × (Nat → Int32) × (Nat → Int32) × (Nat → Int32) × (Nat → Int32) × (Nat → Int32)) := Nat.rec (motive := fun _ => Int32 → (Nat → Int32) → Option (Int32 × Int32 × Int32 × Int32 × Int32 × Int32 × Int32 × (Nat → Int32) × (Nat → Int32) × (Nat → Int32) × (Nat → Int32) × (Nat → Int32) × (Nat → Int32) × (Nat → Int32) × (Nat → Int32) × (Nat → Int32) × (Nat → Int32) × (Nat → Int32) × (Nat → Int32))) (fun _ _ => none) (fun _ rec69 => FgX9_lay_69 t_p v6 u7 u8 u9 v10 u15 u16 u17 u18 rec69 kk69) n
noncomputable def jX9_lay_48 (t_p : Int32) (t_points : Int32) (t_flags : Int32) (t_formX : Int32) (t_formY : Int32) (t_formZ : Int32) (t_flagPoint_r : (Nat → Int32)) (t_flagU_r : (Nat → Int32)) (t_flagV_r : (Nat → Int32)) (t_flagW_r : (Nat → Int32)) (t_given_r : (Nat → Int32)) (t_next_r : (Nat → Int32)) (t_pointFlags_r : (Nat → Int32)) (t_pointX_r : (Nat → Int32)) (t_pointY_r : (Nat → Int32)) (t_pointZ_r : (Nat → Int32)) (t_series_r : (Nat → Int32)) (u1 : (Nat → Int32)) (u2 : (Nat → Int32)) (y4 : Int32) : Option (Int32 × Int32 × Int32 × Int32 × Int32 × Int32 × Int32 × (Nat → Int32) × (Nat → Int32) × (Nat → Int32) × (Nat → Int32) × (Nat → Int32) × (Nat → Int32) × (Nat → Int32) × (Nat → Int32) × (Nat → Int32) × (Nat → Int32) × (Nat → Int32) × (Nat → Int32)) :=
  p_b1 (p_bz y4) (fun v5 =>
if v5 = 0 then (some (t_flags, t_formX, t_formY, t_formZ, v5, 1, t_points, u1, u2, t_flagPoint_r, t_flagU_r, t_flagV_r, t_flagW_r, t_next_r, t_pointFlags_r, t_pointX_r, t_pointY_r, t_pointZ_r, t_series_r)) else (p_b4 (fX9_layPoints t_p t_points t_given_r t_pointX_r t_pointY_r t_pointZ_r) (fun v6 u7 u8 u9 =>
p_b10 (fX9_layFlags t_flags t_formX t_formY t_formZ t_p v6 u2 t_flagPoint_r t_flagU_r t_flagV_r t_flagW_r t_given_r t_pointFlags_r u7 u8 u9) (fun v10 v11 v12 v13 u14 u15 u16 u17 u18 u19 =>
gX9_lay_69 t_p v6 u7 u8 u9 v10 u15 u16 u17 u18 (kX9_lay_94 t_p t_series_r u1 v5 v6 u7 u8 u9 v10 v11 v12 v13 u14 u15 u16 u17 u18 u19) p_FU 0 t_next_r))))
noncomputable def jX9_lay_47 (t_p : Int32) (t_points : Int32) (t_flags : Int32) (t_formX : Int32) (t_formY : Int32) (t_formZ : Int32) (t_flagPoint_r : (Nat → Int32)) (t_flagU_r : (Nat → Int32)) (t_flagV_r : (Nat → Int32)) (t_flagW_r : (Nat → Int32)) (t_given_r : (Nat → Int32)) (t_next_r : (Nat → Int32)) (t_pointFlags_r : (Nat → Int32)) (t_pointX_r : (Nat → Int32)) (t_pointY_r : (Nat → Int32)) (t_pointZ_r : (Nat → Int32)) (t_series_r : (Nat → Int32)) (u1 : (Nat → Int32)) (u2 : (Nat → Int32)) : Option (Int32 × Int32 × Int32 × Int32 × Int32 × Int32 × Int32 × (Nat → Int32) × (Nat → Int32) × (Nat → Int32) × (Nat → Int32) × (Nat → Int32) × (Nat → Int32) × (Nat → Int32) × (Nat → Int32) × (Nat → Int32) × (Nat → Int32) × (Nat → Int32) × (Nat → Int32)) :=
  jX9_lay_48 t_p t_points t_flags t_formX t_formY t_formZ t_flagPoint_r t_flagU_r t_flagV_r t_flagW_r t_given_r t_next_r t_pointFlags_r t_pointX_r t_pointY_r t_pointZ_r t_series_r u1 u2 0
noncomputable def fX9_lay (t_flags : Int32) (t_formX : Int32) (t_formY : Int32) (t_formZ : Int32) (t_isGood : Int32) (t_isLaid : Int32) (t_p : Int32) (t_points : Int32) (t_c_r : (Nat → Int32)) (t_cofactor_r : (Nat → Int32)) (t_flagPoint_r : (Nat → Int32)) (t_flagU_r : (Nat → Int32)) (t_flagV_r : (Nat → Int32)) (t_flagW_r : (Nat → Int32)) (t_given_r : (Nat → Int32)) (t_next_r : (Nat → Int32)) (t_pointFlags_r : (Nat → Int32)) (t_pointX_r : (Nat → Int32)) (t_pointY_r : (Nat → Int32)) (t_pointZ_r : (Nat → Int32)) (t_series_r : (Nat → Int32)) : Option (Int32 × Int32 × Int32 × Int32 × Int32 × Int32 × Int32 × (Nat → Int32) × (Nat → Int32) × (Nat → Int32) × (Nat → Int32) × (Nat → Int32) × (Nat → Int32) × (Nat → Int32) × (Nat → Int32) × (Nat → Int32) × (Nat → Int32) × (Nat → Int32) × (Nat → Int32)) :=
  if t_isLaid = 0 then (p_b2 (fX9_layCubic t_p t_c_r t_cofactor_r t_given_r) (fun u1 u2 =>
p_b1 (p_ld u1 4 0) (fun v3 =>
if v3 = 0 then (jX9_lay_47 t_p t_points t_flags t_formX t_formY t_formZ t_flagPoint_r t_flagU_r t_flagV_r t_flagW_r t_given_r t_next_r t_pointFlags_r t_pointX_r t_pointY_r t_pointZ_r t_series_r u1 u2) else (p_b1 (p_ld u1 4 3) (fun v27 =>
if v27 = 0 then (jX9_lay_47 t_p t_points t_flags t_formX t_formY t_formZ t_flagPoint_r t_flagU_r t_flagV_r t_flagW_r t_given_r t_next_r t_pointFlags_r t_pointX_r t_pointY_r t_pointZ_r t_series_r u1 u2) else (p_b1 (fX9_discriminant t_p u1) (fun v28 =>
if v28 = 0 then (jX9_lay_47 t_p t_points t_flags t_formX t_formY t_formZ t_flagPoint_r t_flagU_r t_flagV_r t_flagW_r t_given_r t_next_r t_pointFlags_r t_pointX_r t_pointY_r t_pointZ_r t_series_r u1 u2) else (jX9_lay_48 t_p t_points t_flags t_formX t_formY t_formZ t_flagPoint_r t_flagU_r t_flagV_r t_flagW_r t_given_r t_next_r t_pointFlags_r t_pointX_r t_pointY_r t_pointZ_r t_series_r u1 u2 1)))))))) else (some (t_flags, t_formX, t_formY, t_formZ, t_isGood, t_isLaid, t_points, t_c_r, t_cofactor_r, t_flagPoint_r, t_flagU_r, t_flagV_r, t_flagW_r, t_next_r, t_pointFlags_r, t_pointX_r, t_pointY_r, t_pointZ_r, t_series_r))
def rmX9_lay : Room := { frames := 4, cells := 0, slots := 0, locals := 105 }
set_option maxHeartbeats 4000000 in
set_option maxRecDepth 100000 in
theorem tX9_lay (l : Launch) (D : va_G) (cI : ClassId) (a_t : Nat) (a_t_given : Nat) (a_t_c : Nat) (a_t_pointX : Nat) (a_t_pointY : Nat) (a_t_pointZ : Nat) (a_t_pointFlags : Nat) (a_t_flagPoint : Nat) (a_t_flagU : Nat) (a_t_flagV : Nat) (a_t_flagW : Nat) (a_t_next : Nat) (a_t_series : Nat) (a_t_mix : Nat) (a_t_cofactor : Nat) (a_t_square : Nat) (t_p : Int32) (t_isLaid : Int32) (t_isGood : Int32) (t_points : Int32) (t_flags : Int32) (t_formX : Int32) (t_formY : Int32) (t_formZ : Int32) (t_isNought : Int32) (t_sumT : Int32) (t_sumY : Int32) (t_c_r : (Nat → Int32)) (t_cofactor_r : (Nat → Int32)) (t_flagPoint_r : (Nat → Int32)) (t_flagU_r : (Nat → Int32)) (t_flagV_r : (Nat → Int32)) (t_flagW_r : (Nat → Int32)) (t_given_r : (Nat → Int32)) (t_next_r : (Nat → Int32)) (t_pointFlags_r : (Nat → Int32)) (t_pointX_r : (Nat → Int32)) (t_pointY_r : (Nat → Int32)) (t_pointZ_r : (Nat → Int32)) (t_series_r : (Nat → Int32)) (s_t_flags : Int32) (s_t_formX : Int32) (s_t_formY : Int32) (s_t_formZ : Int32) (s_t_isGood : Int32) (s_t_isLaid : Int32) (s_t_points : Int32) (s_t_c_r : (Nat → Int32)) (s_t_cofactor_r : (Nat → Int32)) (s_t_flagPoint_r : (Nat → Int32)) (s_t_flagU_r : (Nat → Int32)) (s_t_flagV_r : (Nat → Int32)) (s_t_flagW_r : (Nat → Int32)) (s_t_next_r : (Nat → Int32)) (s_t_pointFlags_r : (Nat → Int32)) (s_t_pointX_r : (Nat → Int32)) (s_t_pointY_r : (Nat → Int32)) (s_t_pointZ_r : (Nat → Int32)) (s_t_series_r : (Nat → Int32)) (hf : fX9_lay t_flags t_formX t_formY t_formZ t_isGood t_isLaid t_p t_points t_c_r t_cofactor_r t_flagPoint_r t_flagU_r t_flagV_r t_flagW_r t_given_r t_next_r t_pointFlags_r t_pointX_r t_pointY_r t_pointZ_r t_series_r = some (s_t_flags, s_t_formX, s_t_formY, s_t_formZ, s_t_isGood, s_t_isLaid, s_t_points, s_t_c_r, s_t_cofactor_r, s_t_flagPoint_r, s_t_flagU_r, s_t_flagV_r, s_t_flagW_r, s_t_next_r, s_t_pointFlags_r, s_t_pointX_r, s_t_pointY_r, s_t_pointZ_r, s_t_series_r)) : x_CV l D cI yX9_lay wsX9_lay rmX9_lay [.ref a_t] [x_o9 a_t t_p a_t_given t_isLaid t_isGood a_t_c t_points a_t_pointX a_t_pointY a_t_pointZ a_t_pointFlags t_flags a_t_flagPoint a_t_flagU a_t_flagV a_t_flagW a_t_next a_t_series a_t_mix a_t_cofactor t_formX t_formY t_formZ a_t_square t_isNought t_sumT t_sumY, x_ar cI a_t_c 4 t_c_r, x_ar cI a_t_cofactor 6 t_cofactor_r, x_ar cI a_t_flagPoint 400 t_flagPoint_r, x_ar cI a_t_flagU 400 t_flagU_r, x_ar cI a_t_flagV 400 t_flagV_r, x_ar cI a_t_flagW 400 t_flagW_r, x_ar cI a_t_given 12 t_given_r, x_ar cI a_t_next 400 t_next_r, x_ar cI a_t_pointFlags 200 t_pointFlags_r, x_ar cI a_t_pointX 200 t_pointX_r, x_ar cI a_t_pointY 200 t_pointY_r, x_ar cI a_t_pointZ 200 t_pointZ_r, x_ar cI a_t_series 32 t_series_r] [x_o9 a_t t_p a_t_given s_t_isLaid s_t_isGood a_t_c s_t_points a_t_pointX a_t_pointY a_t_pointZ a_t_pointFlags s_t_flags a_t_flagPoint a_t_flagU a_t_flagV a_t_flagW a_t_next a_t_series a_t_mix a_t_cofactor s_t_formX s_t_formY s_t_formZ a_t_square t_isNought t_sumT t_sumY, x_ar cI a_t_c 4 s_t_c_r, x_ar cI a_t_cofactor 6 s_t_cofactor_r, x_ar cI a_t_flagPoint 400 s_t_flagPoint_r, x_ar cI a_t_flagU 400 s_t_flagU_r, x_ar cI a_t_flagV 400 s_t_flagV_r, x_ar cI a_t_flagW 400 s_t_flagW_r, x_ar cI a_t_given 12 t_given_r, x_ar cI a_t_next 400 s_t_next_r, x_ar cI a_t_pointFlags 200 s_t_pointFlags_r, x_ar cI a_t_pointX 200 s_t_pointX_r, x_ar cI a_t_pointY 200 s_t_pointY_r, x_ar cI a_t_pointZ 200 s_t_pointZ_r, x_ar cI a_t_series 32 s_t_series_r] := by
  refine x_CV_of (cc := cX9_lay) (maxL := 2) (own := RX9) (lv0 := [(0, .ref a_t)]) (by decide) rfl rfl (Nat.le_of_ble_eq_true rfl) rfl ?_
  intro p e s m args below meth c A Q ls hx hb hml hown hts hN hK hP hD hS hA hl hret
  have iX9 : ∀ w ∈ u_ws RX9 TX9 26, w ∈ wsX9_lay := by decide +kernel
  have l66 := hts (.fieldLink RX9 66 "ChordRingsModel" "isLaid" "Z") (by decide +kernel)
  have l17 := hts (.fieldLink RX9 17 "ChordRingsModel" "c" "[I") (by decide +kernel)
  have l106 := hts (.fieldLink RX9 106 "ChordRingsModel" "isGood" "Z") (by decide +kernel)
  have l140 := hts (.fieldLink RX9 140 "ChordRingsModel" "flags" "I") (by decide +kernel)
  have l44 := hts (.fieldLink RX9 44 "ChordRingsModel" "next" "[I") (by decide +kernel)
  unfold fX9_lay at hf
  refine lv_aload_n hx hb dX9_lay_0 rfl (lv_at hl 0 rfl) ?_
  refine va_get (D := D) (ci := 9) (C := RX9) (T := TX9) (N := 26) hx hb hts iX9 hown hK hP 0 rfl rfl 2 (by decide) l66 (fun _ h9 => h9) rfl dX9_lay_1 ?_
  refine lv_if_eq (tgt := 8) hx hb dX9_lay_4 (by decide) (fun hc => ?_) (fun hc => ?_)
  · have hf := o_t hf hc
    refine lv_aload_n hx hb dX9_lay_8 rfl (lv_at hl 0 rfl) ?_
    refine lv_iconst (v := 1) hx hb dX9_lay_9 (by decide) ?_
    refine x_put (W1 := [x_o9 a_t t_p a_t_given 1 t_isGood a_t_c t_points a_t_pointX a_t_pointY a_t_pointZ a_t_pointFlags t_flags a_t_flagPoint a_t_flagU a_t_flagV a_t_flagW a_t_next a_t_series a_t_mix a_t_cofactor t_formX t_formY t_formZ a_t_square t_isNought t_sumT t_sumY, x_ar cI a_t_c 4 t_c_r, x_ar cI a_t_cofactor 6 t_cofactor_r, x_ar cI a_t_flagPoint 400 t_flagPoint_r, x_ar cI a_t_flagU 400 t_flagU_r, x_ar cI a_t_flagV 400 t_flagV_r, x_ar cI a_t_flagW 400 t_flagW_r, x_ar cI a_t_given 12 t_given_r, x_ar cI a_t_next 400 t_next_r, x_ar cI a_t_pointFlags 200 t_pointFlags_r, x_ar cI a_t_pointX 200 t_pointX_r, x_ar cI a_t_pointY 200 t_pointY_r, x_ar cI a_t_pointZ 200 t_pointZ_r, x_ar cI a_t_series 32 t_series_r]) (ty := .boolean) (C := RX9) (T := TX9) (N := 26) hx hb hts iX9 tyX9 tyX9_ok nmX9 hown hK hP hD hS 0 rfl rfl 2 (by decide) l66 rfl rfl (by decide +kernel) (by decide) (by decide) (Nat.le_of_ble_eq_true rfl) rfl dX9_lay_10 (fun H locs hP hD hS => ?_)
    refine lv_aload_n hx hb dX9_lay_13 rfl (lv_at hl 0 rfl) ?_
    obtain ⟨u1, u2, hu1, hf⟩ := o_b2 hf
    refine x_vv (rest := []) (W1 := [x_o9 a_t t_p a_t_given 1 t_isGood a_t_c t_points a_t_pointX a_t_pointY a_t_pointZ a_t_pointFlags t_flags a_t_flagPoint a_t_flagU a_t_flagV a_t_flagW a_t_next a_t_series a_t_mix a_t_cofactor t_formX t_formY t_formZ a_t_square t_isNought t_sumT t_sumY, x_ar cI a_t_c 4 u1, x_ar cI a_t_cofactor 6 u2, x_ar cI a_t_flagPoint 400 t_flagPoint_r, x_ar cI a_t_flagU 400 t_flagU_r, x_ar cI a_t_flagV 400 t_flagV_r, x_ar cI a_t_flagW 400 t_flagW_r, x_ar cI a_t_given 12 t_given_r, x_ar cI a_t_next 400 t_next_r, x_ar cI a_t_pointFlags 200 t_pointFlags_r, x_ar cI a_t_pointX 200 t_pointX_r, x_ar cI a_t_pointY 200 t_pointY_r, x_ar cI a_t_pointZ 200 t_pointZ_r, x_ar cI a_t_series 32 t_series_r]) ⟨hx, hb, hml, hown, hts⟩ (tX9_layCubic l D cI a_t a_t_given a_t_c a_t_pointX a_t_pointY a_t_pointZ a_t_pointFlags a_t_flagPoint a_t_flagU a_t_flagV a_t_flagW a_t_next a_t_series a_t_mix a_t_cofactor a_t_square t_p 1 t_isGood t_points t_flags t_formX t_formY t_formZ t_isNought t_sumT t_sumY t_c_r t_cofactor_r t_given_r u1 u2 hu1) (cwV 0 hts gX9_lay_X9_layCubic rfl rfl rfl (by decide +kernel) ⟨Nat.le_of_ble_eq_true rfl, Nat.le_of_ble_eq_true rfl⟩) hN hK hP hD hS hA [0, 1, 2, 7] [some 0, some 1, some 2, none, none, none, none, some 3, none, none, none, none, none, none] rfl rfl rfl rfl rfl rfl 0 rfl rfl rfl hl.1 rfl (Nat.le_of_ble_eq_true rfl) dX9_lay_14 ⟨Nat.zero_le _, Nat.zero_le _⟩ (fun H locs hP hD hS => ?_)
    refine lv_aload_n hx hb dX9_lay_17 rfl (lv_at hl 0 rfl) ?_
    refine lv_aload_n hx hb dX9_lay_18 rfl (lv_at hl 0 rfl) ?_
    refine va_get (D := D) (ci := 9) (C := RX9) (T := TX9) (N := 26) hx hb hts iX9 hown hK hP 0 rfl rfl 4 (by decide) l17 (fun _ h9 => h9) rfl dX9_lay_19 ?_
    refine lv_iconst (v := 0) hx hb dX9_lay_22 (by decide) ?_
    obtain ⟨v3, hv3, hf⟩ := o_b1 hf
    refine x_ald hx hb hK hP 1 rfl hv3 dX9_lay_23 ?_
    have J48 : ∀ (y4 : Int32) (ls : Array Slot) (H : Heap) (locs : List Loc), jX9_lay_48 t_p t_points t_flags t_formX t_formY t_formZ t_flagPoint_r t_flagU_r t_flagV_r t_flagW_r t_given_r t_next_r t_pointFlags_r t_pointX_r t_pointY_r t_pointZ_r t_series_r u1 u2 y4 = some (s_t_flags, s_t_formX, s_t_formY, s_t_formZ, s_t_isGood, s_t_isLaid, s_t_points, s_t_c_r, s_t_cofactor_r, s_t_flagPoint_r, s_t_flagU_r, s_t_flagV_r, s_t_flagW_r, s_t_next_r, s_t_pointFlags_r, s_t_pointX_r, s_t_pointY_r, s_t_pointZ_r, s_t_series_r) → lv_has ls 2 [(0, .ref a_t)] → va_P D vwCl [x_o9 a_t t_p a_t_given 1 t_isGood a_t_c t_points a_t_pointX a_t_pointY a_t_pointZ a_t_pointFlags t_flags a_t_flagPoint a_t_flagU a_t_flagV a_t_flagW a_t_next a_t_series a_t_mix a_t_cofactor t_formX t_formY t_formZ a_t_square t_isNought t_sumT t_sumY, x_ar cI a_t_c 4 u1, x_ar cI a_t_cofactor 6 u2, x_ar cI a_t_flagPoint 400 t_flagPoint_r, x_ar cI a_t_flagU 400 t_flagU_r, x_ar cI a_t_flagV 400 t_flagV_r, x_ar cI a_t_flagW 400 t_flagW_r, x_ar cI a_t_given 12 t_given_r, x_ar cI a_t_next 400 t_next_r, x_ar cI a_t_pointFlags 200 t_pointFlags_r, x_ar cI a_t_pointX 200 t_pointX_r, x_ar cI a_t_pointY 200 t_pointY_r, x_ar cI a_t_pointZ 200 t_pointZ_r, x_ar cI a_t_series 32 t_series_r] H → va_D A [x_o9 a_t t_p a_t_given 1 t_isGood a_t_c t_points a_t_pointX a_t_pointY a_t_pointZ a_t_pointFlags t_flags a_t_flagPoint a_t_flagU a_t_flagV a_t_flagW a_t_next a_t_series a_t_mix a_t_cofactor t_formX t_formY t_formZ a_t_square t_isNought t_sumT t_sumY, x_ar cI a_t_c 4 u1, x_ar cI a_t_cofactor 6 u2, x_ar cI a_t_flagPoint 400 t_flagPoint_r, x_ar cI a_t_flagU 400 t_flagU_r, x_ar cI a_t_flagV 400 t_flagV_r, x_ar cI a_t_flagW 400 t_flagW_r, x_ar cI a_t_given 12 t_given_r, x_ar cI a_t_next 400 t_next_r, x_ar cI a_t_pointFlags 200 t_pointFlags_r, x_ar cI a_t_pointX 200 t_pointX_r, x_ar cI a_t_pointY 200 t_pointY_r, x_ar cI a_t_pointZ 200 t_pointZ_r, x_ar cI a_t_series 32 t_series_r] → va_S A s.heap H locs → W p l e rmX9_lay s m args below meth c H locs 0 0 Q (F0 m 48 ls [.int y4, .ref a_t]) := by
      intro y4 ls H locs hf hl hP hD hS
      unfold jX9_lay_48 at hf
      obtain ⟨v5, hv5, hf⟩ := o_b1 hf
      obtain ⟨ev5, hnv5, hfv5⟩ := o_bz hv5
      refine x_top ev5.symm ?_
      rw [ev5] at hnv5 hfv5
      refine x_put (W1 := [x_o9 a_t t_p a_t_given 1 v5 a_t_c t_points a_t_pointX a_t_pointY a_t_pointZ a_t_pointFlags t_flags a_t_flagPoint a_t_flagU a_t_flagV a_t_flagW a_t_next a_t_series a_t_mix a_t_cofactor t_formX t_formY t_formZ a_t_square t_isNought t_sumT t_sumY, x_ar cI a_t_c 4 u1, x_ar cI a_t_cofactor 6 u2, x_ar cI a_t_flagPoint 400 t_flagPoint_r, x_ar cI a_t_flagU 400 t_flagU_r, x_ar cI a_t_flagV 400 t_flagV_r, x_ar cI a_t_flagW 400 t_flagW_r, x_ar cI a_t_given 12 t_given_r, x_ar cI a_t_next 400 t_next_r, x_ar cI a_t_pointFlags 200 t_pointFlags_r, x_ar cI a_t_pointX 200 t_pointX_r, x_ar cI a_t_pointY 200 t_pointY_r, x_ar cI a_t_pointZ 200 t_pointZ_r, x_ar cI a_t_series 32 t_series_r]) (ty := .boolean) (C := RX9) (T := TX9) (N := 26) hx hb hts iX9 tyX9 tyX9_ok nmX9 hown hK hP hD hS 0 rfl rfl 3 (by decide) l106 rfl rfl (by decide +kernel) hnv5 hfv5 (Nat.le_of_ble_eq_true rfl) rfl dX9_lay_48 (fun H locs hP hD hS => ?_)
      refine lv_aload_n hx hb dX9_lay_51 rfl (lv_at hl 0 rfl) ?_
      refine va_get (D := D) (ci := 9) (C := RX9) (T := TX9) (N := 26) hx hb hts iX9 hown hK hP 0 rfl rfl 3 (by decide) l106 (fun _ h9 => h9) rfl dX9_lay_52 ?_
      refine lv_if_ne (tgt := 59) hx hb dX9_lay_55 (by decide) (fun hc => ?_) (fun hc => ?_)
      · have hf := o_f hf hc
        refine lv_aload_n hx hb dX9_lay_59 rfl (lv_at hl 0 rfl) ?_
        obtain ⟨v6, u7, u8, u9, hv6, hf⟩ := o_b4 hf
        refine x_vv (rest := []) (W1 := [x_o9 a_t t_p a_t_given 1 v5 a_t_c v6 a_t_pointX a_t_pointY a_t_pointZ a_t_pointFlags t_flags a_t_flagPoint a_t_flagU a_t_flagV a_t_flagW a_t_next a_t_series a_t_mix a_t_cofactor t_formX t_formY t_formZ a_t_square t_isNought t_sumT t_sumY, x_ar cI a_t_c 4 u1, x_ar cI a_t_cofactor 6 u2, x_ar cI a_t_flagPoint 400 t_flagPoint_r, x_ar cI a_t_flagU 400 t_flagU_r, x_ar cI a_t_flagV 400 t_flagV_r, x_ar cI a_t_flagW 400 t_flagW_r, x_ar cI a_t_given 12 t_given_r, x_ar cI a_t_next 400 t_next_r, x_ar cI a_t_pointFlags 200 t_pointFlags_r, x_ar cI a_t_pointX 200 u7, x_ar cI a_t_pointY 200 u8, x_ar cI a_t_pointZ 200 u9, x_ar cI a_t_series 32 t_series_r]) ⟨hx, hb, hml, hown, hts⟩ (tX9_layPoints l D cI a_t a_t_given a_t_c a_t_pointX a_t_pointY a_t_pointZ a_t_pointFlags a_t_flagPoint a_t_flagU a_t_flagV a_t_flagW a_t_next a_t_series a_t_mix a_t_cofactor a_t_square t_p 1 v5 t_points t_flags t_formX t_formY t_formZ t_isNought t_sumT t_sumY t_given_r t_pointX_r t_pointY_r t_pointZ_r v6 u7 u8 u9 hv6) (cwV 0 hts gX9_lay_X9_layPoints rfl rfl rfl (by decide +kernel) ⟨Nat.le_of_ble_eq_true rfl, Nat.le_of_ble_eq_true rfl⟩) hN hK hP hD hS hA [0, 7, 10, 11, 12] [some 0, none, none, none, none, none, none, some 1, none, none, some 2, some 3, some 4, none] rfl rfl rfl rfl rfl rfl 0 rfl rfl rfl hl.1 rfl (Nat.le_of_ble_eq_true rfl) dX9_lay_60 ⟨Nat.zero_le _, Nat.zero_le _⟩ (fun H locs hP hD hS => ?_)
        refine lv_aload_n hx hb dX9_lay_63 rfl (lv_at hl 0 rfl) ?_
        obtain ⟨v10, v11, v12, v13, u14, u15, u16, u17, u18, u19, hv10, hf⟩ := o_b10 hf
        refine x_vv (rest := []) (W1 := [x_o9 a_t t_p a_t_given 1 v5 a_t_c v6 a_t_pointX a_t_pointY a_t_pointZ a_t_pointFlags v10 a_t_flagPoint a_t_flagU a_t_flagV a_t_flagW a_t_next a_t_series a_t_mix a_t_cofactor v11 v12 v13 a_t_square t_isNought t_sumT t_sumY, x_ar cI a_t_c 4 u1, x_ar cI a_t_cofactor 6 u14, x_ar cI a_t_flagPoint 400 u15, x_ar cI a_t_flagU 400 u16, x_ar cI a_t_flagV 400 u17, x_ar cI a_t_flagW 400 u18, x_ar cI a_t_given 12 t_given_r, x_ar cI a_t_next 400 t_next_r, x_ar cI a_t_pointFlags 200 u19, x_ar cI a_t_pointX 200 u7, x_ar cI a_t_pointY 200 u8, x_ar cI a_t_pointZ 200 u9, x_ar cI a_t_series 32 t_series_r]) ⟨hx, hb, hml, hown, hts⟩ (tX9_layFlags l D cI a_t a_t_given a_t_c a_t_pointX a_t_pointY a_t_pointZ a_t_pointFlags a_t_flagPoint a_t_flagU a_t_flagV a_t_flagW a_t_next a_t_series a_t_mix a_t_cofactor a_t_square t_p 1 v5 v6 t_flags t_formX t_formY t_formZ t_isNought t_sumT t_sumY u2 t_flagPoint_r t_flagU_r t_flagV_r t_flagW_r t_given_r t_pointFlags_r u7 u8 u9 v10 v11 v12 v13 u14 u15 u16 u17 u18 u19 hv10) (cwV 0 hts gX9_lay_X9_layFlags rfl rfl rfl (by decide +kernel) ⟨Nat.le_of_ble_eq_true rfl, Nat.le_of_ble_eq_true rfl⟩) hN hK hP hD hS hA [0, 2, 3, 4, 5, 6, 7, 9, 10, 11, 12] [some 0, none, some 1, some 2, some 3, some 4, some 5, some 6, none, some 7, some 8, some 9, some 10, none] rfl rfl rfl rfl rfl rfl 0 rfl rfl rfl hl.1 rfl (Nat.le_of_ble_eq_true rfl) dX9_lay_64 ⟨Nat.zero_le _, Nat.zero_le _⟩ (fun H locs hP hD hS => ?_)
        refine lv_iconst (v := 0) hx hb dX9_lay_67 (by decide) ?_
        refine lv_istore_n (lv' := [(1, .int 0), (0, .ref a_t)]) hx hb dX9_lay_68 rfl hl (by decide) rfl (fun ls hl => ?_)
        have L69 : ∀ (n : Nat) (x20 : Int32) (z21 : (Nat → Int32)) (ls : Array Slot) (H : Heap) (locs : List Loc), gX9_lay_69 t_p v6 u7 u8 u9 v10 u15 u16 u17 u18 (kX9_lay_94 t_p t_series_r u1 v5 v6 u7 u8 u9 v10 v11 v12 v13 u14 u15 u16 u17 u18 u19) n x20 z21 = some (s_t_flags, s_t_formX, s_t_formY, s_t_formZ, s_t_isGood, s_t_isLaid, s_t_points, s_t_c_r, s_t_cofactor_r, s_t_flagPoint_r, s_t_flagU_r, s_t_flagV_r, s_t_flagW_r, s_t_next_r, s_t_pointFlags_r, s_t_pointX_r, s_t_pointY_r, s_t_pointZ_r, s_t_series_r) → lv_has ls 2 [(0, .ref a_t), (1, .int x20)] → va_P D vwCl [x_o9 a_t t_p a_t_given 1 v5 a_t_c v6 a_t_pointX a_t_pointY a_t_pointZ a_t_pointFlags v10 a_t_flagPoint a_t_flagU a_t_flagV a_t_flagW a_t_next a_t_series a_t_mix a_t_cofactor v11 v12 v13 a_t_square t_isNought t_sumT t_sumY, x_ar cI a_t_c 4 u1, x_ar cI a_t_cofactor 6 u14, x_ar cI a_t_flagPoint 400 u15, x_ar cI a_t_flagU 400 u16, x_ar cI a_t_flagV 400 u17, x_ar cI a_t_flagW 400 u18, x_ar cI a_t_given 12 t_given_r, x_ar cI a_t_next 400 z21, x_ar cI a_t_pointFlags 200 u19, x_ar cI a_t_pointX 200 u7, x_ar cI a_t_pointY 200 u8, x_ar cI a_t_pointZ 200 u9, x_ar cI a_t_series 32 t_series_r] H → va_D A [x_o9 a_t t_p a_t_given 1 v5 a_t_c v6 a_t_pointX a_t_pointY a_t_pointZ a_t_pointFlags v10 a_t_flagPoint a_t_flagU a_t_flagV a_t_flagW a_t_next a_t_series a_t_mix a_t_cofactor v11 v12 v13 a_t_square t_isNought t_sumT t_sumY, x_ar cI a_t_c 4 u1, x_ar cI a_t_cofactor 6 u14, x_ar cI a_t_flagPoint 400 u15, x_ar cI a_t_flagU 400 u16, x_ar cI a_t_flagV 400 u17, x_ar cI a_t_flagW 400 u18, x_ar cI a_t_given 12 t_given_r, x_ar cI a_t_next 400 z21, x_ar cI a_t_pointFlags 200 u19, x_ar cI a_t_pointX 200 u7, x_ar cI a_t_pointY 200 u8, x_ar cI a_t_pointZ 200 u9, x_ar cI a_t_series 32 t_series_r] → va_S A s.heap H locs → W p l e rmX9_lay s m args below meth c H locs 0 0 Q (F0 m 69 ls []) := by
          intro n69
          induction n69 with
          | zero =>
            intro x20 z21 ls H locs hf
            exact nomatch (show (none : Option (Int32 × Int32 × Int32 × Int32 × Int32 × Int32 × Int32 × (Nat → Int32) × (Nat → Int32) × (Nat → Int32) × (Nat → Int32) × (Nat → Int32) × (Nat → Int32) × (Nat → Int32) × (Nat → Int32) × (Nat → Int32) × (Nat → Int32) × (Nat → Int32) × (Nat → Int32))) = some (s_t_flags, s_t_formX, s_t_formY, s_t_formZ, s_t_isGood, s_t_isLaid, s_t_points, s_t_c_r, s_t_cofactor_r, s_t_flagPoint_r, s_t_flagU_r, s_t_flagV_r, s_t_flagW_r, s_t_next_r, s_t_pointFlags_r, s_t_pointX_r, s_t_pointY_r, s_t_pointZ_r, s_t_series_r) from hf)
          | succ n69 ih69 =>
            intro x20 z21 ls H locs hf hl hP hD hS
            have hf : FgX9_lay_69 t_p v6 u7 u8 u9 v10 u15 u16 u17 u18 (gX9_lay_69 t_p v6 u7 u8 u9 v10 u15 u16 u17 u18 (kX9_lay_94 t_p t_series_r u1 v5 v6 u7 u8 u9 v10 v11 v12 v13 u14 u15 u16 u17 u18 u19) n69) (kX9_lay_94 t_p t_series_r u1 v5 v6 u7 u8 u9 v10 v11 v12 v13 u14 u15 u16 u17 u18 u19) x20 z21 = some (s_t_flags, s_t_formX, s_t_formY, s_t_formZ, s_t_isGood, s_t_isLaid, s_t_points, s_t_c_r, s_t_cofactor_r, s_t_flagPoint_r, s_t_flagU_r, s_t_flagV_r, s_t_flagW_r, s_t_next_r, s_t_pointFlags_r, s_t_pointX_r, s_t_pointY_r, s_t_pointZ_r, s_t_series_r) := hf
            unfold FgX9_lay_69 at hf
            refine lv_iload_n hx hb dX9_lay_69 rfl (lv_at hl 1 rfl) ?_
            refine lv_aload_n hx hb dX9_lay_70 rfl (lv_at hl 0 rfl) ?_
            refine va_get (D := D) (ci := 9) (C := RX9) (T := TX9) (N := 26) hx hb hts iX9 hown hK hP 0 rfl rfl 10 (by decide) l140 (fun _ h9 => h9) rfl dX9_lay_71 ?_
            have J94 : ∀ (w22 : (Nat → Int32)) (ls : Array Slot) (H : Heap) (locs : List Loc), kX9_lay_94 t_p t_series_r u1 v5 v6 u7 u8 u9 v10 v11 v12 v13 u14 u15 u16 u17 u18 u19 w22 = some (s_t_flags, s_t_formX, s_t_formY, s_t_formZ, s_t_isGood, s_t_isLaid, s_t_points, s_t_c_r, s_t_cofactor_r, s_t_flagPoint_r, s_t_flagU_r, s_t_flagV_r, s_t_flagW_r, s_t_next_r, s_t_pointFlags_r, s_t_pointX_r, s_t_pointY_r, s_t_pointZ_r, s_t_series_r) → lv_has ls 2 [(0, .ref a_t)] → va_P D vwCl [x_o9 a_t t_p a_t_given 1 v5 a_t_c v6 a_t_pointX a_t_pointY a_t_pointZ a_t_pointFlags v10 a_t_flagPoint a_t_flagU a_t_flagV a_t_flagW a_t_next a_t_series a_t_mix a_t_cofactor v11 v12 v13 a_t_square t_isNought t_sumT t_sumY, x_ar cI a_t_c 4 u1, x_ar cI a_t_cofactor 6 u14, x_ar cI a_t_flagPoint 400 u15, x_ar cI a_t_flagU 400 u16, x_ar cI a_t_flagV 400 u17, x_ar cI a_t_flagW 400 u18, x_ar cI a_t_given 12 t_given_r, x_ar cI a_t_next 400 w22, x_ar cI a_t_pointFlags 200 u19, x_ar cI a_t_pointX 200 u7, x_ar cI a_t_pointY 200 u8, x_ar cI a_t_pointZ 200 u9, x_ar cI a_t_series 32 t_series_r] H → va_D A [x_o9 a_t t_p a_t_given 1 v5 a_t_c v6 a_t_pointX a_t_pointY a_t_pointZ a_t_pointFlags v10 a_t_flagPoint a_t_flagU a_t_flagV a_t_flagW a_t_next a_t_series a_t_mix a_t_cofactor v11 v12 v13 a_t_square t_isNought t_sumT t_sumY, x_ar cI a_t_c 4 u1, x_ar cI a_t_cofactor 6 u14, x_ar cI a_t_flagPoint 400 u15, x_ar cI a_t_flagU 400 u16, x_ar cI a_t_flagV 400 u17, x_ar cI a_t_flagW 400 u18, x_ar cI a_t_given 12 t_given_r, x_ar cI a_t_next 400 w22, x_ar cI a_t_pointFlags 200 u19, x_ar cI a_t_pointX 200 u7, x_ar cI a_t_pointY 200 u8, x_ar cI a_t_pointZ 200 u9, x_ar cI a_t_series 32 t_series_r] → va_S A s.heap H locs → W p l e rmX9_lay s m args below meth c H locs 0 0 Q (F0 m 94 ls []) := by
              intro w22 ls H locs hf hl hP hD hS
              unfold kX9_lay_94 at hf
              refine lv_aload_n hx hb dX9_lay_94 rfl (lv_at hl 0 rfl) ?_
              obtain ⟨u23, hu23, hf⟩ := o_b1 hf
              refine x_vv (rest := []) (W1 := [x_o9 a_t t_p a_t_given 1 v5 a_t_c v6 a_t_pointX a_t_pointY a_t_pointZ a_t_pointFlags v10 a_t_flagPoint a_t_flagU a_t_flagV a_t_flagW a_t_next a_t_series a_t_mix a_t_cofactor v11 v12 v13 a_t_square t_isNought t_sumT t_sumY, x_ar cI a_t_c 4 u1, x_ar cI a_t_cofactor 6 u14, x_ar cI a_t_flagPoint 400 u15, x_ar cI a_t_flagU 400 u16, x_ar cI a_t_flagV 400 u17, x_ar cI a_t_flagW 400 u18, x_ar cI a_t_given 12 t_given_r, x_ar cI a_t_next 400 w22, x_ar cI a_t_pointFlags 200 u19, x_ar cI a_t_pointX 200 u7, x_ar cI a_t_pointY 200 u8, x_ar cI a_t_pointZ 200 u9, x_ar cI a_t_series 32 u23]) ⟨hx, hb, hml, hown, hts⟩ (tX9_laySeries l D cI a_t a_t_given a_t_c a_t_pointX a_t_pointY a_t_pointZ a_t_pointFlags a_t_flagPoint a_t_flagU a_t_flagV a_t_flagW a_t_next a_t_series a_t_mix a_t_cofactor a_t_square t_p 1 v5 v6 v10 v11 v12 v13 t_isNought t_sumT t_sumY u1 t_series_r u23 hu23) (cwV 0 hts gX9_lay_X9_laySeries rfl rfl rfl (by decide +kernel) ⟨Nat.le_of_ble_eq_true rfl, Nat.le_of_ble_eq_true rfl⟩) hN hK hP hD hS hA [0, 1, 13] [some 0, some 1, none, none, none, none, none, none, none, none, none, none, none, some 2] rfl rfl rfl rfl rfl rfl 0 rfl rfl rfl hl.1 rfl (Nat.le_of_ble_eq_true rfl) dX9_lay_95 ⟨Nat.zero_le _, Nat.zero_le _⟩ (fun H locs hP hD hS => ?_)
              obtain ⟨rfl, rfl, rfl, rfl, rfl, rfl, rfl, rfl, rfl, rfl, rfl, rfl, rfl, rfl, rfl, rfl, rfl, rfl, rfl⟩ := o_s19 hf
              exact hret dX9_lay_98 hP hD hS
            refine lv_icmp_ge (tgt := 94) hx hb dX9_lay_74 (by decide) (fun hc => ?_) (fun hc => ?_)
            · have hf := o_t hf hc
              exact J94 z21 _ _ _ hf (lv_sub hl [0] rfl) hP hD hS
            · have hf := o_f hf hc
              refine lv_aload_n hx hb dX9_lay_77 rfl (lv_at hl 0 rfl) ?_
              refine va_get (D := D) (ci := 9) (C := RX9) (T := TX9) (N := 26) hx hb hts iX9 hown hK hP 0 rfl rfl 15 (by decide) l44 (fun _ h9 => h9) rfl dX9_lay_78 ?_
              refine lv_iload_n hx hb dX9_lay_81 rfl (lv_at hl 1 rfl) ?_
              refine lv_aload_n hx hb dX9_lay_82 rfl (lv_at hl 0 rfl) ?_
              refine lv_iload_n hx hb dX9_lay_83 rfl (lv_at hl 1 rfl) ?_
              obtain ⟨v24, hv24, hf⟩ := o_b1 hf
              refine x_vi (rest := [.int x20, .ref a_t_next]) (W1 := [x_o9 a_t t_p a_t_given 1 v5 a_t_c v6 a_t_pointX a_t_pointY a_t_pointZ a_t_pointFlags v10 a_t_flagPoint a_t_flagU a_t_flagV a_t_flagW a_t_next a_t_series a_t_mix a_t_cofactor v11 v12 v13 a_t_square t_isNought t_sumT t_sumY, x_ar cI a_t_c 4 u1, x_ar cI a_t_cofactor 6 u14, x_ar cI a_t_flagPoint 400 u15, x_ar cI a_t_flagU 400 u16, x_ar cI a_t_flagV 400 u17, x_ar cI a_t_flagW 400 u18, x_ar cI a_t_given 12 t_given_r, x_ar cI a_t_next 400 z21, x_ar cI a_t_pointFlags 200 u19, x_ar cI a_t_pointX 200 u7, x_ar cI a_t_pointY 200 u8, x_ar cI a_t_pointZ 200 u9, x_ar cI a_t_series 32 t_series_r]) ⟨hx, hb, hml, hown, hts⟩ (tX9_stepOf l D cI a_t a_t_given a_t_c a_t_pointX a_t_pointY a_t_pointZ a_t_pointFlags a_t_flagPoint a_t_flagU a_t_flagV a_t_flagW a_t_next a_t_series a_t_mix a_t_cofactor a_t_square t_p 1 v5 v6 v10 v11 v12 v13 t_isNought t_sumT t_sumY u15 u16 u17 u18 u7 u8 u9 x20 v24 hv24) (cwV 1 hts gX9_lay_X9_stepOf rfl rfl rfl (by decide +kernel) ⟨Nat.le_of_ble_eq_true rfl, Nat.le_of_ble_eq_true rfl⟩) hN hK hP hD hS hA [0, 3, 4, 5, 6, 10, 11, 12] [some 0, none, none, some 1, some 2, some 3, some 4, none, none, none, some 5, some 6, some 7, none] rfl rfl rfl rfl rfl rfl 0 rfl rfl rfl hl.1 rfl (Nat.le_of_ble_eq_true rfl) dX9_lay_84 ⟨Nat.zero_le _, Nat.zero_le _⟩ (fun H locs hP hD hS => ?_)
              obtain ⟨u25, hu25, hf⟩ := o_b1 hf
              refine x_ast (W1 := [x_o9 a_t t_p a_t_given 1 v5 a_t_c v6 a_t_pointX a_t_pointY a_t_pointZ a_t_pointFlags v10 a_t_flagPoint a_t_flagU a_t_flagV a_t_flagW a_t_next a_t_series a_t_mix a_t_cofactor v11 v12 v13 a_t_square t_isNought t_sumT t_sumY, x_ar cI a_t_c 4 u1, x_ar cI a_t_cofactor 6 u14, x_ar cI a_t_flagPoint 400 u15, x_ar cI a_t_flagU 400 u16, x_ar cI a_t_flagV 400 u17, x_ar cI a_t_flagW 400 u18, x_ar cI a_t_given 12 t_given_r, x_ar cI a_t_next 400 u25, x_ar cI a_t_pointFlags 200 u19, x_ar cI a_t_pointX 200 u7, x_ar cI a_t_pointY 200 u8, x_ar cI a_t_pointZ 200 u9, x_ar cI a_t_series 32 t_series_r]) hx hb hK hP hD hS 8 rfl hu25 rfl dX9_lay_87 (fun H locs hP hD hS => ?_)
              obtain ⟨v26, ev26, hf⟩ := o_nm hf
              refine lv_iinc (v := v26) (lv' := [(1, .int v26), (0, .ref a_t)]) hx hb dX9_lay_88 hl (k := 1) rfl (by rw [ev26]; rfl) (by decide) rfl (fun ls hl => ?_)
              refine lv_goto (tgt := 69) hx hb dX9_lay_91 (by decide) ?_
              exact ih69 v26 u25 _ _ _ hf (lv_sub hl [1, 0] rfl) hP hD hS
        exact L69 p_FU 0 t_next_r _ _ _ hf (lv_sub hl [1, 0] rfl) hP hD hS
      · have hf := o_t hf hc
        obtain ⟨rfl, rfl, rfl, rfl, rfl, rfl, rfl, rfl, rfl, rfl, rfl, rfl, rfl, rfl, rfl, rfl, rfl, rfl, rfl⟩ := o_s19 hf
        exact hret dX9_lay_58 hP hD hS
    have J47 : ∀ (ls : Array Slot) (H : Heap) (locs : List Loc), jX9_lay_47 t_p t_points t_flags t_formX t_formY t_formZ t_flagPoint_r t_flagU_r t_flagV_r t_flagW_r t_given_r t_next_r t_pointFlags_r t_pointX_r t_pointY_r t_pointZ_r t_series_r u1 u2 = some (s_t_flags, s_t_formX, s_t_formY, s_t_formZ, s_t_isGood, s_t_isLaid, s_t_points, s_t_c_r, s_t_cofactor_r, s_t_flagPoint_r, s_t_flagU_r, s_t_flagV_r, s_t_flagW_r, s_t_next_r, s_t_pointFlags_r, s_t_pointX_r, s_t_pointY_r, s_t_pointZ_r, s_t_series_r) → lv_has ls 2 [(0, .ref a_t)] → va_P D vwCl [x_o9 a_t t_p a_t_given 1 t_isGood a_t_c t_points a_t_pointX a_t_pointY a_t_pointZ a_t_pointFlags t_flags a_t_flagPoint a_t_flagU a_t_flagV a_t_flagW a_t_next a_t_series a_t_mix a_t_cofactor t_formX t_formY t_formZ a_t_square t_isNought t_sumT t_sumY, x_ar cI a_t_c 4 u1, x_ar cI a_t_cofactor 6 u2, x_ar cI a_t_flagPoint 400 t_flagPoint_r, x_ar cI a_t_flagU 400 t_flagU_r, x_ar cI a_t_flagV 400 t_flagV_r, x_ar cI a_t_flagW 400 t_flagW_r, x_ar cI a_t_given 12 t_given_r, x_ar cI a_t_next 400 t_next_r, x_ar cI a_t_pointFlags 200 t_pointFlags_r, x_ar cI a_t_pointX 200 t_pointX_r, x_ar cI a_t_pointY 200 t_pointY_r, x_ar cI a_t_pointZ 200 t_pointZ_r, x_ar cI a_t_series 32 t_series_r] H → va_D A [x_o9 a_t t_p a_t_given 1 t_isGood a_t_c t_points a_t_pointX a_t_pointY a_t_pointZ a_t_pointFlags t_flags a_t_flagPoint a_t_flagU a_t_flagV a_t_flagW a_t_next a_t_series a_t_mix a_t_cofactor t_formX t_formY t_formZ a_t_square t_isNought t_sumT t_sumY, x_ar cI a_t_c 4 u1, x_ar cI a_t_cofactor 6 u2, x_ar cI a_t_flagPoint 400 t_flagPoint_r, x_ar cI a_t_flagU 400 t_flagU_r, x_ar cI a_t_flagV 400 t_flagV_r, x_ar cI a_t_flagW 400 t_flagW_r, x_ar cI a_t_given 12 t_given_r, x_ar cI a_t_next 400 t_next_r, x_ar cI a_t_pointFlags 200 t_pointFlags_r, x_ar cI a_t_pointX 200 t_pointX_r, x_ar cI a_t_pointY 200 t_pointY_r, x_ar cI a_t_pointZ 200 t_pointZ_r, x_ar cI a_t_series 32 t_series_r] → va_S A s.heap H locs → W p l e rmX9_lay s m args below meth c H locs 0 0 Q (F0 m 47 ls [.ref a_t]) := by
      intro ls H locs hf hl hP hD hS
      unfold jX9_lay_47 at hf
      refine lv_iconst (v := 0) hx hb dX9_lay_47 (by decide) ?_
      exact J48 0 _ _ _ hf (lv_sub hl [0] rfl) hP hD hS
    refine lv_if_eq (tgt := 47) hx hb dX9_lay_24 (by decide) (fun hc => ?_) (fun hc => ?_)
    · have hf := o_t hf hc
      exact J47 _ _ _ hf (lv_sub hl [0] rfl) hP hD hS
    · have hf := o_f hf hc
      refine lv_aload_n hx hb dX9_lay_27 rfl (lv_at hl 0 rfl) ?_
      refine va_get (D := D) (ci := 9) (C := RX9) (T := TX9) (N := 26) hx hb hts iX9 hown hK hP 0 rfl rfl 4 (by decide) l17 (fun _ h9 => h9) rfl dX9_lay_28 ?_
      refine lv_iconst (v := 3) hx hb dX9_lay_31 (by decide) ?_
      obtain ⟨v27, hv27, hf⟩ := o_b1 hf
      refine x_ald hx hb hK hP 1 rfl hv27 dX9_lay_32 ?_
      refine lv_if_eq (tgt := 47) hx hb dX9_lay_33 (by decide) (fun hc => ?_) (fun hc => ?_)
      · have hf := o_t hf hc
        exact J47 _ _ _ hf (lv_sub hl [0] rfl) hP hD hS
      · have hf := o_f hf hc
        refine lv_aload_n hx hb dX9_lay_36 rfl (lv_at hl 0 rfl) ?_
        obtain ⟨v28, hv28, hf⟩ := o_b1 hf
        refine x_vi (rest := [.ref a_t]) (W1 := [x_o9 a_t t_p a_t_given 1 t_isGood a_t_c t_points a_t_pointX a_t_pointY a_t_pointZ a_t_pointFlags t_flags a_t_flagPoint a_t_flagU a_t_flagV a_t_flagW a_t_next a_t_series a_t_mix a_t_cofactor t_formX t_formY t_formZ a_t_square t_isNought t_sumT t_sumY, x_ar cI a_t_c 4 u1, x_ar cI a_t_cofactor 6 u2, x_ar cI a_t_flagPoint 400 t_flagPoint_r, x_ar cI a_t_flagU 400 t_flagU_r, x_ar cI a_t_flagV 400 t_flagV_r, x_ar cI a_t_flagW 400 t_flagW_r, x_ar cI a_t_given 12 t_given_r, x_ar cI a_t_next 400 t_next_r, x_ar cI a_t_pointFlags 200 t_pointFlags_r, x_ar cI a_t_pointX 200 t_pointX_r, x_ar cI a_t_pointY 200 t_pointY_r, x_ar cI a_t_pointZ 200 t_pointZ_r, x_ar cI a_t_series 32 t_series_r]) ⟨hx, hb, hml, hown, hts⟩ (tX9_discriminant l D cI a_t a_t_given a_t_c a_t_pointX a_t_pointY a_t_pointZ a_t_pointFlags a_t_flagPoint a_t_flagU a_t_flagV a_t_flagW a_t_next a_t_series a_t_mix a_t_cofactor a_t_square t_p 1 t_isGood t_points t_flags t_formX t_formY t_formZ t_isNought t_sumT t_sumY u1 v28 hv28) (cwV 0 hts gX9_lay_X9_discriminant rfl rfl rfl (by decide +kernel) ⟨Nat.le_of_ble_eq_true rfl, Nat.le_of_ble_eq_true rfl⟩) hN hK hP hD hS hA [0, 1] [some 0, some 1, none, none, none, none, none, none, none, none, none, none, none, none] rfl rfl rfl rfl rfl rfl 0 rfl rfl rfl hl.1 rfl (Nat.le_of_ble_eq_true rfl) dX9_lay_37 ⟨Nat.zero_le _, Nat.zero_le _⟩ (fun H locs hP hD hS => ?_)
        refine lv_if_eq (tgt := 47) hx hb dX9_lay_40 (by decide) (fun hc => ?_) (fun hc => ?_)
        · have hf := o_t hf hc
          exact J47 _ _ _ hf (lv_sub hl [0] rfl) hP hD hS
        · have hf := o_f hf hc
          refine lv_iconst (v := 1) hx hb dX9_lay_43 (by decide) ?_
          refine lv_goto (tgt := 48) hx hb dX9_lay_44 (by decide) ?_
          exact J48 1 _ _ _ hf (lv_sub hl [0] rfl) hP hD hS
  · have hf := o_f hf hc
    obtain ⟨rfl, rfl, rfl, rfl, rfl, rfl, rfl, rfl, rfl, rfl, rfl, rfl, rfl, rfl, rfl, rfl, rfl, rfl, rfl⟩ := o_s19 hf
    exact hret dX9_lay_7 hP hD hS
noncomputable def fX9_isGood (t_flags : Int32) (t_formX : Int32) (t_formY : Int32) (t_formZ : Int32) (t_isGood : Int32) (t_isLaid : Int32) (t_p : Int32) (t_points : Int32) (t_c_r : (Nat → Int32)) (t_cofactor_r : (Nat → Int32)) (t_flagPoint_r : (Nat → Int32)) (t_flagU_r : (Nat → Int32)) (t_flagV_r : (Nat → Int32)) (t_flagW_r : (Nat → Int32)) (t_given_r : (Nat → Int32)) (t_next_r : (Nat → Int32)) (t_pointFlags_r : (Nat → Int32)) (t_pointX_r : (Nat → Int32)) (t_pointY_r : (Nat → Int32)) (t_pointZ_r : (Nat → Int32)) (t_series_r : (Nat → Int32)) : Option (Int32 × Int32 × Int32 × Int32 × Int32 × Int32 × Int32 × Int32 × (Nat → Int32) × (Nat → Int32) × (Nat → Int32) × (Nat → Int32) × (Nat → Int32) × (Nat → Int32) × (Nat → Int32) × (Nat → Int32) × (Nat → Int32) × (Nat → Int32) × (Nat → Int32) × (Nat → Int32)) :=
  p_b19 (fX9_lay t_flags t_formX t_formY t_formZ t_isGood t_isLaid t_p t_points t_c_r t_cofactor_r t_flagPoint_r t_flagU_r t_flagV_r t_flagW_r t_given_r t_next_r t_pointFlags_r t_pointX_r t_pointY_r t_pointZ_r t_series_r) (fun v1 v2 v3 v4 v5 v6 v7 u8 u9 u10 u11 u12 u13 u14 u15 u16 u17 u18 u19 =>
p_b1 (p_bz v5) (fun v20 =>
some (v20, v1, v2, v3, v4, v5, v6, v7, u8, u9, u10, u11, u12, u13, u14, u15, u16, u17, u18, u19)))
def rmX9_isGood : Room := { frames := 5, cells := 0, slots := 0, locals := 126 }
set_option maxHeartbeats 4000000 in
set_option maxRecDepth 100000 in
theorem tX9_isGood (l : Launch) (D : va_G) (cI : ClassId) (a_t : Nat) (a_t_given : Nat) (a_t_c : Nat) (a_t_pointX : Nat) (a_t_pointY : Nat) (a_t_pointZ : Nat) (a_t_pointFlags : Nat) (a_t_flagPoint : Nat) (a_t_flagU : Nat) (a_t_flagV : Nat) (a_t_flagW : Nat) (a_t_next : Nat) (a_t_series : Nat) (a_t_mix : Nat) (a_t_cofactor : Nat) (a_t_square : Nat) (t_p : Int32) (t_isLaid : Int32) (t_isGood : Int32) (t_points : Int32) (t_flags : Int32) (t_formX : Int32) (t_formY : Int32) (t_formZ : Int32) (t_isNought : Int32) (t_sumT : Int32) (t_sumY : Int32) (t_c_r : (Nat → Int32)) (t_cofactor_r : (Nat → Int32)) (t_flagPoint_r : (Nat → Int32)) (t_flagU_r : (Nat → Int32)) (t_flagV_r : (Nat → Int32)) (t_flagW_r : (Nat → Int32)) (t_given_r : (Nat → Int32)) (t_next_r : (Nat → Int32)) (t_pointFlags_r : (Nat → Int32)) (t_pointX_r : (Nat → Int32)) (t_pointY_r : (Nat → Int32)) (t_pointZ_r : (Nat → Int32)) (t_series_r : (Nat → Int32)) (r : Int32) (s_t_flags : Int32) (s_t_formX : Int32) (s_t_formY : Int32) (s_t_formZ : Int32) (s_t_isGood : Int32) (s_t_isLaid : Int32) (s_t_points : Int32) (s_t_c_r : (Nat → Int32)) (s_t_cofactor_r : (Nat → Int32)) (s_t_flagPoint_r : (Nat → Int32)) (s_t_flagU_r : (Nat → Int32)) (s_t_flagV_r : (Nat → Int32)) (s_t_flagW_r : (Nat → Int32)) (s_t_next_r : (Nat → Int32)) (s_t_pointFlags_r : (Nat → Int32)) (s_t_pointX_r : (Nat → Int32)) (s_t_pointY_r : (Nat → Int32)) (s_t_pointZ_r : (Nat → Int32)) (s_t_series_r : (Nat → Int32)) (hf : fX9_isGood t_flags t_formX t_formY t_formZ t_isGood t_isLaid t_p t_points t_c_r t_cofactor_r t_flagPoint_r t_flagU_r t_flagV_r t_flagW_r t_given_r t_next_r t_pointFlags_r t_pointX_r t_pointY_r t_pointZ_r t_series_r = some (r, s_t_flags, s_t_formX, s_t_formY, s_t_formZ, s_t_isGood, s_t_isLaid, s_t_points, s_t_c_r, s_t_cofactor_r, s_t_flagPoint_r, s_t_flagU_r, s_t_flagV_r, s_t_flagW_r, s_t_next_r, s_t_pointFlags_r, s_t_pointX_r, s_t_pointY_r, s_t_pointZ_r, s_t_series_r)) : x_CI l D cI yX9_isGood wsX9_isGood rmX9_isGood [.ref a_t] [x_o9 a_t t_p a_t_given t_isLaid t_isGood a_t_c t_points a_t_pointX a_t_pointY a_t_pointZ a_t_pointFlags t_flags a_t_flagPoint a_t_flagU a_t_flagV a_t_flagW a_t_next a_t_series a_t_mix a_t_cofactor t_formX t_formY t_formZ a_t_square t_isNought t_sumT t_sumY, x_ar cI a_t_c 4 t_c_r, x_ar cI a_t_cofactor 6 t_cofactor_r, x_ar cI a_t_flagPoint 400 t_flagPoint_r, x_ar cI a_t_flagU 400 t_flagU_r, x_ar cI a_t_flagV 400 t_flagV_r, x_ar cI a_t_flagW 400 t_flagW_r, x_ar cI a_t_given 12 t_given_r, x_ar cI a_t_next 400 t_next_r, x_ar cI a_t_pointFlags 200 t_pointFlags_r, x_ar cI a_t_pointX 200 t_pointX_r, x_ar cI a_t_pointY 200 t_pointY_r, x_ar cI a_t_pointZ 200 t_pointZ_r, x_ar cI a_t_series 32 t_series_r] [x_o9 a_t t_p a_t_given s_t_isLaid s_t_isGood a_t_c s_t_points a_t_pointX a_t_pointY a_t_pointZ a_t_pointFlags s_t_flags a_t_flagPoint a_t_flagU a_t_flagV a_t_flagW a_t_next a_t_series a_t_mix a_t_cofactor s_t_formX s_t_formY s_t_formZ a_t_square t_isNought t_sumT t_sumY, x_ar cI a_t_c 4 s_t_c_r, x_ar cI a_t_cofactor 6 s_t_cofactor_r, x_ar cI a_t_flagPoint 400 s_t_flagPoint_r, x_ar cI a_t_flagU 400 s_t_flagU_r, x_ar cI a_t_flagV 400 s_t_flagV_r, x_ar cI a_t_flagW 400 s_t_flagW_r, x_ar cI a_t_given 12 t_given_r, x_ar cI a_t_next 400 s_t_next_r, x_ar cI a_t_pointFlags 200 s_t_pointFlags_r, x_ar cI a_t_pointX 200 s_t_pointX_r, x_ar cI a_t_pointY 200 s_t_pointY_r, x_ar cI a_t_pointZ 200 s_t_pointZ_r, x_ar cI a_t_series 32 s_t_series_r] r := by
  refine x_CI_of (cc := cX9_isGood) (maxL := 1) (ty := .boolean) (own := RX9) (lv0 := [(0, .ref a_t)]) (by decide) rfl rfl (Nat.le_of_ble_eq_true rfl) rfl ?_
  intro p e s m args below meth c A Q ls hx hb hml hown hts hN hK hP hD hS hA hl hret
  have iX9 : ∀ w ∈ u_ws RX9 TX9 26, w ∈ wsX9_isGood := by decide +kernel
  have l106 := hts (.fieldLink RX9 106 "ChordRingsModel" "isGood" "Z") (by decide +kernel)
  unfold fX9_isGood at hf
  refine lv_aload_n hx hb dX9_isGood_0 rfl (lv_at hl 0 rfl) ?_
  obtain ⟨v1, v2, v3, v4, v5, v6, v7, u8, u9, u10, u11, u12, u13, u14, u15, u16, u17, u18, u19, hv1, hf⟩ := o_b19 hf
  refine x_vv (rest := []) (W1 := [x_o9 a_t t_p a_t_given v6 v5 a_t_c v7 a_t_pointX a_t_pointY a_t_pointZ a_t_pointFlags v1 a_t_flagPoint a_t_flagU a_t_flagV a_t_flagW a_t_next a_t_series a_t_mix a_t_cofactor v2 v3 v4 a_t_square t_isNought t_sumT t_sumY, x_ar cI a_t_c 4 u8, x_ar cI a_t_cofactor 6 u9, x_ar cI a_t_flagPoint 400 u10, x_ar cI a_t_flagU 400 u11, x_ar cI a_t_flagV 400 u12, x_ar cI a_t_flagW 400 u13, x_ar cI a_t_given 12 t_given_r, x_ar cI a_t_next 400 u14, x_ar cI a_t_pointFlags 200 u15, x_ar cI a_t_pointX 200 u16, x_ar cI a_t_pointY 200 u17, x_ar cI a_t_pointZ 200 u18, x_ar cI a_t_series 32 u19]) ⟨hx, hb, hml, hown, hts⟩ (tX9_lay l D cI a_t a_t_given a_t_c a_t_pointX a_t_pointY a_t_pointZ a_t_pointFlags a_t_flagPoint a_t_flagU a_t_flagV a_t_flagW a_t_next a_t_series a_t_mix a_t_cofactor a_t_square t_p t_isLaid t_isGood t_points t_flags t_formX t_formY t_formZ t_isNought t_sumT t_sumY t_c_r t_cofactor_r t_flagPoint_r t_flagU_r t_flagV_r t_flagW_r t_given_r t_next_r t_pointFlags_r t_pointX_r t_pointY_r t_pointZ_r t_series_r v1 v2 v3 v4 v5 v6 v7 u8 u9 u10 u11 u12 u13 u14 u15 u16 u17 u18 u19 hv1) (cwV 0 hts gX9_isGood_X9_lay rfl rfl rfl (by decide +kernel) ⟨Nat.le_of_ble_eq_true rfl, Nat.le_of_ble_eq_true rfl⟩) hN hK hP hD hS hA [0, 1, 2, 3, 4, 5, 6, 7, 8, 9, 10, 11, 12, 13] [some 0, some 1, some 2, some 3, some 4, some 5, some 6, some 7, some 8, some 9, some 10, some 11, some 12, some 13] rfl rfl rfl rfl rfl rfl 0 rfl rfl rfl hl.1 rfl (Nat.le_of_ble_eq_true rfl) dX9_isGood_1 ⟨Nat.zero_le _, Nat.zero_le _⟩ (fun H locs hP hD hS => ?_)
  refine lv_aload_n hx hb dX9_isGood_4 rfl (lv_at hl 0 rfl) ?_
  refine va_get (D := D) (ci := 9) (C := RX9) (T := TX9) (N := 26) hx hb hts iX9 hown hK hP 0 rfl rfl 3 (by decide) l106 (fun _ h9 => h9) rfl dX9_isGood_5 ?_
  obtain ⟨v20, hv20, hf⟩ := o_b1 hf
  obtain ⟨ev20, hnv20, -⟩ := o_bz hv20
  refine x_top ev20.symm ?_
  rw [ev20] at hnv20
  obtain ⟨rfl, rfl, rfl, rfl, rfl, rfl, rfl, rfl, rfl, rfl, rfl, rfl, rfl, rfl, rfl, rfl, rfl, rfl, rfl, rfl⟩ := o_s20 hf
  exact hret rfl hnv20 dX9_isGood_8 hP hD hS
noncomputable def fX9_good (t_flags : Int32) (t_formX : Int32) (t_formY : Int32) (t_formZ : Int32) (t_isGood : Int32) (t_isLaid : Int32) (t_p : Int32) (t_points : Int32) (t_c_r : (Nat → Int32)) (t_cofactor_r : (Nat → Int32)) (t_flagPoint_r : (Nat → Int32)) (t_flagU_r : (Nat → Int32)) (t_flagV_r : (Nat → Int32)) (t_flagW_r : (Nat → Int32)) (t_given_r : (Nat → Int32)) (t_next_r : (Nat → Int32)) (t_pointFlags_r : (Nat → Int32)) (t_pointX_r : (Nat → Int32)) (t_pointY_r : (Nat → Int32)) (t_pointZ_r : (Nat → Int32)) (t_series_r : (Nat → Int32)) : Option (Int32 × Int32 × Int32 × Int32 × Int32 × Int32 × Int32 × Int32 × (Nat → Int32) × (Nat → Int32) × (Nat → Int32) × (Nat → Int32) × (Nat → Int32) × (Nat → Int32) × (Nat → Int32) × (Nat → Int32) × (Nat → Int32) × (Nat → Int32) × (Nat → Int32) × (Nat → Int32)) :=
  p_b20 (fX9_isGood t_flags t_formX t_formY t_formZ t_isGood t_isLaid t_p t_points t_c_r t_cofactor_r t_flagPoint_r t_flagU_r t_flagV_r t_flagW_r t_given_r t_next_r t_pointFlags_r t_pointX_r t_pointY_r t_pointZ_r t_series_r) (fun v1 v2 v3 v4 v5 v6 v7 v8 u9 u10 u11 u12 u13 u14 u15 u16 u17 u18 u19 u20 =>
if v1 = 0 then (some (0, v2, v3, v4, v5, v6, v7, v8, u9, u10, u11, u12, u13, u14, u15, u16, u17, u18, u19, u20)) else (some (1, v2, v3, v4, v5, v6, v7, v8, u9, u10, u11, u12, u13, u14, u15, u16, u17, u18, u19, u20)))
def rmX9_good : Room := { frames := 6, cells := 0, slots := 0, locals := 146 }
set_option maxHeartbeats 4000000 in
set_option maxRecDepth 100000 in
theorem tX9_good (l : Launch) (D : va_G) (cI : ClassId) (a_t : Nat) (a_t_given : Nat) (a_t_c : Nat) (a_t_pointX : Nat) (a_t_pointY : Nat) (a_t_pointZ : Nat) (a_t_pointFlags : Nat) (a_t_flagPoint : Nat) (a_t_flagU : Nat) (a_t_flagV : Nat) (a_t_flagW : Nat) (a_t_next : Nat) (a_t_series : Nat) (a_t_mix : Nat) (a_t_cofactor : Nat) (a_t_square : Nat) (t_p : Int32) (t_isLaid : Int32) (t_isGood : Int32) (t_points : Int32) (t_flags : Int32) (t_formX : Int32) (t_formY : Int32) (t_formZ : Int32) (t_isNought : Int32) (t_sumT : Int32) (t_sumY : Int32) (t_c_r : (Nat → Int32)) (t_cofactor_r : (Nat → Int32)) (t_flagPoint_r : (Nat → Int32)) (t_flagU_r : (Nat → Int32)) (t_flagV_r : (Nat → Int32)) (t_flagW_r : (Nat → Int32)) (t_given_r : (Nat → Int32)) (t_next_r : (Nat → Int32)) (t_pointFlags_r : (Nat → Int32)) (t_pointX_r : (Nat → Int32)) (t_pointY_r : (Nat → Int32)) (t_pointZ_r : (Nat → Int32)) (t_series_r : (Nat → Int32)) (r : Int32) (s_t_flags : Int32) (s_t_formX : Int32) (s_t_formY : Int32) (s_t_formZ : Int32) (s_t_isGood : Int32) (s_t_isLaid : Int32) (s_t_points : Int32) (s_t_c_r : (Nat → Int32)) (s_t_cofactor_r : (Nat → Int32)) (s_t_flagPoint_r : (Nat → Int32)) (s_t_flagU_r : (Nat → Int32)) (s_t_flagV_r : (Nat → Int32)) (s_t_flagW_r : (Nat → Int32)) (s_t_next_r : (Nat → Int32)) (s_t_pointFlags_r : (Nat → Int32)) (s_t_pointX_r : (Nat → Int32)) (s_t_pointY_r : (Nat → Int32)) (s_t_pointZ_r : (Nat → Int32)) (s_t_series_r : (Nat → Int32)) (hf : fX9_good t_flags t_formX t_formY t_formZ t_isGood t_isLaid t_p t_points t_c_r t_cofactor_r t_flagPoint_r t_flagU_r t_flagV_r t_flagW_r t_given_r t_next_r t_pointFlags_r t_pointX_r t_pointY_r t_pointZ_r t_series_r = some (r, s_t_flags, s_t_formX, s_t_formY, s_t_formZ, s_t_isGood, s_t_isLaid, s_t_points, s_t_c_r, s_t_cofactor_r, s_t_flagPoint_r, s_t_flagU_r, s_t_flagV_r, s_t_flagW_r, s_t_next_r, s_t_pointFlags_r, s_t_pointX_r, s_t_pointY_r, s_t_pointZ_r, s_t_series_r)) : x_CI l D cI yX9_good wsX9_good rmX9_good [.ref a_t] [x_o9 a_t t_p a_t_given t_isLaid t_isGood a_t_c t_points a_t_pointX a_t_pointY a_t_pointZ a_t_pointFlags t_flags a_t_flagPoint a_t_flagU a_t_flagV a_t_flagW a_t_next a_t_series a_t_mix a_t_cofactor t_formX t_formY t_formZ a_t_square t_isNought t_sumT t_sumY, x_ar cI a_t_c 4 t_c_r, x_ar cI a_t_cofactor 6 t_cofactor_r, x_ar cI a_t_flagPoint 400 t_flagPoint_r, x_ar cI a_t_flagU 400 t_flagU_r, x_ar cI a_t_flagV 400 t_flagV_r, x_ar cI a_t_flagW 400 t_flagW_r, x_ar cI a_t_given 12 t_given_r, x_ar cI a_t_next 400 t_next_r, x_ar cI a_t_pointFlags 200 t_pointFlags_r, x_ar cI a_t_pointX 200 t_pointX_r, x_ar cI a_t_pointY 200 t_pointY_r, x_ar cI a_t_pointZ 200 t_pointZ_r, x_ar cI a_t_series 32 t_series_r] [x_o9 a_t t_p a_t_given s_t_isLaid s_t_isGood a_t_c s_t_points a_t_pointX a_t_pointY a_t_pointZ a_t_pointFlags s_t_flags a_t_flagPoint a_t_flagU a_t_flagV a_t_flagW a_t_next a_t_series a_t_mix a_t_cofactor s_t_formX s_t_formY s_t_formZ a_t_square t_isNought t_sumT t_sumY, x_ar cI a_t_c 4 s_t_c_r, x_ar cI a_t_cofactor 6 s_t_cofactor_r, x_ar cI a_t_flagPoint 400 s_t_flagPoint_r, x_ar cI a_t_flagU 400 s_t_flagU_r, x_ar cI a_t_flagV 400 s_t_flagV_r, x_ar cI a_t_flagW 400 s_t_flagW_r, x_ar cI a_t_given 12 t_given_r, x_ar cI a_t_next 400 s_t_next_r, x_ar cI a_t_pointFlags 200 s_t_pointFlags_r, x_ar cI a_t_pointX 200 s_t_pointX_r, x_ar cI a_t_pointY 200 s_t_pointY_r, x_ar cI a_t_pointZ 200 s_t_pointZ_r, x_ar cI a_t_series 32 s_t_series_r] r := by
  refine x_CI_of (cc := cX9_good) (maxL := 1) (ty := .int) (own := RX9) (lv0 := [(0, .ref a_t)]) (by decide) rfl rfl (Nat.le_of_ble_eq_true rfl) rfl ?_
  intro p e s m args below meth c A Q ls hx hb hml hown hts hN hK hP hD hS hA hl hret
  unfold fX9_good at hf
  refine lv_aload_n hx hb dX9_good_0 rfl (lv_at hl 0 rfl) ?_
  obtain ⟨v1, v2, v3, v4, v5, v6, v7, v8, u9, u10, u11, u12, u13, u14, u15, u16, u17, u18, u19, u20, hv1, hf⟩ := o_b20 hf
  refine x_vi (rest := []) (W1 := [x_o9 a_t t_p a_t_given v7 v6 a_t_c v8 a_t_pointX a_t_pointY a_t_pointZ a_t_pointFlags v2 a_t_flagPoint a_t_flagU a_t_flagV a_t_flagW a_t_next a_t_series a_t_mix a_t_cofactor v3 v4 v5 a_t_square t_isNought t_sumT t_sumY, x_ar cI a_t_c 4 u9, x_ar cI a_t_cofactor 6 u10, x_ar cI a_t_flagPoint 400 u11, x_ar cI a_t_flagU 400 u12, x_ar cI a_t_flagV 400 u13, x_ar cI a_t_flagW 400 u14, x_ar cI a_t_given 12 t_given_r, x_ar cI a_t_next 400 u15, x_ar cI a_t_pointFlags 200 u16, x_ar cI a_t_pointX 200 u17, x_ar cI a_t_pointY 200 u18, x_ar cI a_t_pointZ 200 u19, x_ar cI a_t_series 32 u20]) ⟨hx, hb, hml, hown, hts⟩ (tX9_isGood l D cI a_t a_t_given a_t_c a_t_pointX a_t_pointY a_t_pointZ a_t_pointFlags a_t_flagPoint a_t_flagU a_t_flagV a_t_flagW a_t_next a_t_series a_t_mix a_t_cofactor a_t_square t_p t_isLaid t_isGood t_points t_flags t_formX t_formY t_formZ t_isNought t_sumT t_sumY t_c_r t_cofactor_r t_flagPoint_r t_flagU_r t_flagV_r t_flagW_r t_given_r t_next_r t_pointFlags_r t_pointX_r t_pointY_r t_pointZ_r t_series_r v1 v2 v3 v4 v5 v6 v7 v8 u9 u10 u11 u12 u13 u14 u15 u16 u17 u18 u19 u20 hv1) (cwV 0 hts gX9_good_X9_isGood rfl rfl rfl (by decide +kernel) ⟨Nat.le_of_ble_eq_true rfl, Nat.le_of_ble_eq_true rfl⟩) hN hK hP hD hS hA [0, 1, 2, 3, 4, 5, 6, 7, 8, 9, 10, 11, 12, 13] [some 0, some 1, some 2, some 3, some 4, some 5, some 6, some 7, some 8, some 9, some 10, some 11, some 12, some 13] rfl rfl rfl rfl rfl rfl 0 rfl rfl rfl hl.1 rfl (Nat.le_of_ble_eq_true rfl) dX9_good_1 ⟨Nat.zero_le _, Nat.zero_le _⟩ (fun H locs hP hD hS => ?_)
  refine lv_if_eq (tgt := 11) hx hb dX9_good_4 (by decide) (fun hc => ?_) (fun hc => ?_)
  · have hf := o_t hf hc
    refine lv_iconst (v := 0) hx hb dX9_good_11 (by decide) ?_
    obtain ⟨rfl, rfl, rfl, rfl, rfl, rfl, rfl, rfl, rfl, rfl, rfl, rfl, rfl, rfl, rfl, rfl, rfl, rfl, rfl, rfl⟩ := o_s20 hf
    exact hret rfl rfl dX9_good_12 hP hD hS
  · have hf := o_f hf hc
    refine lv_iconst (v := 1) hx hb dX9_good_7 (by decide) ?_
    refine lv_goto (tgt := 12) hx hb dX9_good_8 (by decide) ?_
    obtain ⟨rfl, rfl, rfl, rfl, rfl, rfl, rfl, rfl, rfl, rfl, rfl, rfl, rfl, rfl, rfl, rfl, rfl, rfl, rfl, rfl⟩ := o_s20 hf
    exact hret rfl rfl dX9_good_12 hP hD hS
noncomputable def fX9_on (t_p : Int32) (t_given_r : (Nat → Int32)) (t_mix_r : (Nat → Int32)) (i1 : Int32) (i2 : Int32) (i3 : Int32) (i4 : Int32) (i5 : Int32) : Option (Int32 × (Nat → Int32)) :=
  p_b1 (fX9_isNumber t_p i1) (fun v1 =>
if v1 = 0 then (some ((-2), t_mix_r)) else (p_b1 (fX9_isNumber t_p i2) (fun v2 =>
if v2 = 0 then (some ((-2), t_mix_r)) else (p_b1 (fX9_isNumber t_p i3) (fun v3 =>
if v3 = 0 then (some ((-2), t_mix_r)) else (p_b1 (fX9_isNumber t_p i4) (fun v4 =>
if v4 = 0 then (some ((-2), t_mix_r)) else (p_b1 (fX9_isNumber t_p i5) (fun v5 =>
if v5 = 0 then (some ((-2), t_mix_r)) else (p_b1 (fX9_mixOf t_p t_given_r t_mix_r i1 i2) (fun u6 =>
p_b1 (fX9_both 6 t_p u6 0 i3 i4 i5) (fun v7 =>
some (v7, u6)))))))))))))
def rmX9_on : Room := { frames := 2, cells := 0, slots := 0, locals := 50 }
set_option maxHeartbeats 4000000 in
set_option maxRecDepth 100000 in
theorem tX9_on (l : Launch) (D : va_G) (cI : ClassId) (a_t : Nat) (a_t_given : Nat) (a_t_c : Nat) (a_t_pointX : Nat) (a_t_pointY : Nat) (a_t_pointZ : Nat) (a_t_pointFlags : Nat) (a_t_flagPoint : Nat) (a_t_flagU : Nat) (a_t_flagV : Nat) (a_t_flagW : Nat) (a_t_next : Nat) (a_t_series : Nat) (a_t_mix : Nat) (a_t_cofactor : Nat) (a_t_square : Nat) (t_p : Int32) (t_isLaid : Int32) (t_isGood : Int32) (t_points : Int32) (t_flags : Int32) (t_formX : Int32) (t_formY : Int32) (t_formZ : Int32) (t_isNought : Int32) (t_sumT : Int32) (t_sumY : Int32) (t_given_r : (Nat → Int32)) (t_mix_r : (Nat → Int32)) (i1 : Int32) (i2 : Int32) (i3 : Int32) (i4 : Int32) (i5 : Int32) (r : Int32) (s_t_mix_r : (Nat → Int32)) (hf : fX9_on t_p t_given_r t_mix_r i1 i2 i3 i4 i5 = some (r, s_t_mix_r)) : x_CI l D cI yX9_on wsX9_on rmX9_on [.ref a_t, .int i1, .int i2, .int i3, .int i4, .int i5] [x_o9 a_t t_p a_t_given t_isLaid t_isGood a_t_c t_points a_t_pointX a_t_pointY a_t_pointZ a_t_pointFlags t_flags a_t_flagPoint a_t_flagU a_t_flagV a_t_flagW a_t_next a_t_series a_t_mix a_t_cofactor t_formX t_formY t_formZ a_t_square t_isNought t_sumT t_sumY, x_ar cI a_t_given 12 t_given_r, x_ar cI a_t_mix 6 t_mix_r] [x_o9 a_t t_p a_t_given t_isLaid t_isGood a_t_c t_points a_t_pointX a_t_pointY a_t_pointZ a_t_pointFlags t_flags a_t_flagPoint a_t_flagU a_t_flagV a_t_flagW a_t_next a_t_series a_t_mix a_t_cofactor t_formX t_formY t_formZ a_t_square t_isNought t_sumT t_sumY, x_ar cI a_t_given 12 t_given_r, x_ar cI a_t_mix 6 s_t_mix_r] r := by
  refine x_CI_of (cc := cX9_on) (maxL := 6) (ty := .int) (own := RX9) (lv0 := [(0, .ref a_t), (1, .int i1), (2, .int i2), (3, .int i3), (4, .int i4), (5, .int i5)]) (by decide) rfl rfl (Nat.le_of_ble_eq_true rfl) rfl ?_
  intro p e s m args below meth c A Q ls hx hb hml hown hts hN hK hP hD hS hA hl hret
  have iX9 : ∀ w ∈ u_ws RX9 TX9 26, w ∈ wsX9_on := by decide +kernel
  have l50 := hts (.fieldLink RX9 50 "ChordRingsModel" "mix" "[I") (by decide +kernel)
  unfold fX9_on at hf
  refine lv_aload_n hx hb dX9_on_0 rfl (lv_at hl 0 rfl) ?_
  refine lv_iload_n hx hb dX9_on_1 rfl (lv_at hl 1 rfl) ?_
  obtain ⟨v1, hv1, hf⟩ := o_b1 hf
  refine x_vi (rest := []) (W1 := [x_o9 a_t t_p a_t_given t_isLaid t_isGood a_t_c t_points a_t_pointX a_t_pointY a_t_pointZ a_t_pointFlags t_flags a_t_flagPoint a_t_flagU a_t_flagV a_t_flagW a_t_next a_t_series a_t_mix a_t_cofactor t_formX t_formY t_formZ a_t_square t_isNought t_sumT t_sumY, x_ar cI a_t_given 12 t_given_r, x_ar cI a_t_mix 6 t_mix_r]) ⟨hx, hb, hml, hown, hts⟩ (tX9_isNumber l D cI a_t a_t_given a_t_c a_t_pointX a_t_pointY a_t_pointZ a_t_pointFlags a_t_flagPoint a_t_flagU a_t_flagV a_t_flagW a_t_next a_t_series a_t_mix a_t_cofactor a_t_square t_p t_isLaid t_isGood t_points t_flags t_formX t_formY t_formZ t_isNought t_sumT t_sumY i1 v1 hv1) (cwV 1 hts gX9_on_X9_isNumber rfl rfl rfl (by decide +kernel) ⟨Nat.le_of_ble_eq_true rfl, Nat.le_of_ble_eq_true rfl⟩) hN hK hP hD hS hA [0] [some 0, none, none] rfl rfl rfl rfl rfl rfl 0 rfl rfl rfl hl.1 rfl (Nat.le_of_ble_eq_true rfl) dX9_on_2 ⟨Nat.zero_le _, Nat.zero_le _⟩ (fun H locs hP hD hS => ?_)
  refine lv_if_eq (tgt := 42) hx hb dX9_on_5 (by decide) (fun hc => ?_) (fun hc => ?_)
  · have hf := o_t hf hc
    refine lv_bipush (v := (-2)) hx hb dX9_on_42 (by decide) ?_
    obtain ⟨rfl, rfl⟩ := o_s2 hf
    exact hret rfl rfl dX9_on_44 hP hD hS
  · have hf := o_f hf hc
    refine lv_aload_n hx hb dX9_on_8 rfl (lv_at hl 0 rfl) ?_
    refine lv_iload_n hx hb dX9_on_9 rfl (lv_at hl 2 rfl) ?_
    obtain ⟨v2, hv2, hf⟩ := o_b1 hf
    refine x_vi (rest := []) (W1 := [x_o9 a_t t_p a_t_given t_isLaid t_isGood a_t_c t_points a_t_pointX a_t_pointY a_t_pointZ a_t_pointFlags t_flags a_t_flagPoint a_t_flagU a_t_flagV a_t_flagW a_t_next a_t_series a_t_mix a_t_cofactor t_formX t_formY t_formZ a_t_square t_isNought t_sumT t_sumY, x_ar cI a_t_given 12 t_given_r, x_ar cI a_t_mix 6 t_mix_r]) ⟨hx, hb, hml, hown, hts⟩ (tX9_isNumber l D cI a_t a_t_given a_t_c a_t_pointX a_t_pointY a_t_pointZ a_t_pointFlags a_t_flagPoint a_t_flagU a_t_flagV a_t_flagW a_t_next a_t_series a_t_mix a_t_cofactor a_t_square t_p t_isLaid t_isGood t_points t_flags t_formX t_formY t_formZ t_isNought t_sumT t_sumY i2 v2 hv2) (cwV 1 hts gX9_on_X9_isNumber rfl rfl rfl (by decide +kernel) ⟨Nat.le_of_ble_eq_true rfl, Nat.le_of_ble_eq_true rfl⟩) hN hK hP hD hS hA [0] [some 0, none, none] rfl rfl rfl rfl rfl rfl 0 rfl rfl rfl hl.1 rfl (Nat.le_of_ble_eq_true rfl) dX9_on_10 ⟨Nat.zero_le _, Nat.zero_le _⟩ (fun H locs hP hD hS => ?_)
    refine lv_if_eq (tgt := 42) hx hb dX9_on_13 (by decide) (fun hc => ?_) (fun hc => ?_)
    · have hf := o_t hf hc
      refine lv_bipush (v := (-2)) hx hb dX9_on_42 (by decide) ?_
      obtain ⟨rfl, rfl⟩ := o_s2 hf
      exact hret rfl rfl dX9_on_44 hP hD hS
    · have hf := o_f hf hc
      refine lv_aload_n hx hb dX9_on_16 rfl (lv_at hl 0 rfl) ?_
      refine lv_iload_n hx hb dX9_on_17 rfl (lv_at hl 3 rfl) ?_
      obtain ⟨v3, hv3, hf⟩ := o_b1 hf
      refine x_vi (rest := []) (W1 := [x_o9 a_t t_p a_t_given t_isLaid t_isGood a_t_c t_points a_t_pointX a_t_pointY a_t_pointZ a_t_pointFlags t_flags a_t_flagPoint a_t_flagU a_t_flagV a_t_flagW a_t_next a_t_series a_t_mix a_t_cofactor t_formX t_formY t_formZ a_t_square t_isNought t_sumT t_sumY, x_ar cI a_t_given 12 t_given_r, x_ar cI a_t_mix 6 t_mix_r]) ⟨hx, hb, hml, hown, hts⟩ (tX9_isNumber l D cI a_t a_t_given a_t_c a_t_pointX a_t_pointY a_t_pointZ a_t_pointFlags a_t_flagPoint a_t_flagU a_t_flagV a_t_flagW a_t_next a_t_series a_t_mix a_t_cofactor a_t_square t_p t_isLaid t_isGood t_points t_flags t_formX t_formY t_formZ t_isNought t_sumT t_sumY i3 v3 hv3) (cwV 1 hts gX9_on_X9_isNumber rfl rfl rfl (by decide +kernel) ⟨Nat.le_of_ble_eq_true rfl, Nat.le_of_ble_eq_true rfl⟩) hN hK hP hD hS hA [0] [some 0, none, none] rfl rfl rfl rfl rfl rfl 0 rfl rfl rfl hl.1 rfl (Nat.le_of_ble_eq_true rfl) dX9_on_18 ⟨Nat.zero_le _, Nat.zero_le _⟩ (fun H locs hP hD hS => ?_)
      refine lv_if_eq (tgt := 42) hx hb dX9_on_21 (by decide) (fun hc => ?_) (fun hc => ?_)
      · have hf := o_t hf hc
        refine lv_bipush (v := (-2)) hx hb dX9_on_42 (by decide) ?_
        obtain ⟨rfl, rfl⟩ := o_s2 hf
        exact hret rfl rfl dX9_on_44 hP hD hS
      · have hf := o_f hf hc
        refine lv_aload_n hx hb dX9_on_24 rfl (lv_at hl 0 rfl) ?_
        refine lv_iload hx hb dX9_on_25 (lv_at hl 4 rfl) ?_
        obtain ⟨v4, hv4, hf⟩ := o_b1 hf
        refine x_vi (rest := []) (W1 := [x_o9 a_t t_p a_t_given t_isLaid t_isGood a_t_c t_points a_t_pointX a_t_pointY a_t_pointZ a_t_pointFlags t_flags a_t_flagPoint a_t_flagU a_t_flagV a_t_flagW a_t_next a_t_series a_t_mix a_t_cofactor t_formX t_formY t_formZ a_t_square t_isNought t_sumT t_sumY, x_ar cI a_t_given 12 t_given_r, x_ar cI a_t_mix 6 t_mix_r]) ⟨hx, hb, hml, hown, hts⟩ (tX9_isNumber l D cI a_t a_t_given a_t_c a_t_pointX a_t_pointY a_t_pointZ a_t_pointFlags a_t_flagPoint a_t_flagU a_t_flagV a_t_flagW a_t_next a_t_series a_t_mix a_t_cofactor a_t_square t_p t_isLaid t_isGood t_points t_flags t_formX t_formY t_formZ t_isNought t_sumT t_sumY i4 v4 hv4) (cwV 1 hts gX9_on_X9_isNumber rfl rfl rfl (by decide +kernel) ⟨Nat.le_of_ble_eq_true rfl, Nat.le_of_ble_eq_true rfl⟩) hN hK hP hD hS hA [0] [some 0, none, none] rfl rfl rfl rfl rfl rfl 0 rfl rfl rfl hl.1 rfl (Nat.le_of_ble_eq_true rfl) dX9_on_27 ⟨Nat.zero_le _, Nat.zero_le _⟩ (fun H locs hP hD hS => ?_)
        refine lv_if_eq (tgt := 42) hx hb dX9_on_30 (by decide) (fun hc => ?_) (fun hc => ?_)
        · have hf := o_t hf hc
          refine lv_bipush (v := (-2)) hx hb dX9_on_42 (by decide) ?_
          obtain ⟨rfl, rfl⟩ := o_s2 hf
          exact hret rfl rfl dX9_on_44 hP hD hS
        · have hf := o_f hf hc
          refine lv_aload_n hx hb dX9_on_33 rfl (lv_at hl 0 rfl) ?_
          refine lv_iload hx hb dX9_on_34 (lv_at hl 5 rfl) ?_
          obtain ⟨v5, hv5, hf⟩ := o_b1 hf
          refine x_vi (rest := []) (W1 := [x_o9 a_t t_p a_t_given t_isLaid t_isGood a_t_c t_points a_t_pointX a_t_pointY a_t_pointZ a_t_pointFlags t_flags a_t_flagPoint a_t_flagU a_t_flagV a_t_flagW a_t_next a_t_series a_t_mix a_t_cofactor t_formX t_formY t_formZ a_t_square t_isNought t_sumT t_sumY, x_ar cI a_t_given 12 t_given_r, x_ar cI a_t_mix 6 t_mix_r]) ⟨hx, hb, hml, hown, hts⟩ (tX9_isNumber l D cI a_t a_t_given a_t_c a_t_pointX a_t_pointY a_t_pointZ a_t_pointFlags a_t_flagPoint a_t_flagU a_t_flagV a_t_flagW a_t_next a_t_series a_t_mix a_t_cofactor a_t_square t_p t_isLaid t_isGood t_points t_flags t_formX t_formY t_formZ t_isNought t_sumT t_sumY i5 v5 hv5) (cwV 1 hts gX9_on_X9_isNumber rfl rfl rfl (by decide +kernel) ⟨Nat.le_of_ble_eq_true rfl, Nat.le_of_ble_eq_true rfl⟩) hN hK hP hD hS hA [0] [some 0, none, none] rfl rfl rfl rfl rfl rfl 0 rfl rfl rfl hl.1 rfl (Nat.le_of_ble_eq_true rfl) dX9_on_36 ⟨Nat.zero_le _, Nat.zero_le _⟩ (fun H locs hP hD hS => ?_)
          refine lv_if_ne (tgt := 45) hx hb dX9_on_39 (by decide) (fun hc => ?_) (fun hc => ?_)
          · have hf := o_f hf hc
            refine lv_aload_n hx hb dX9_on_45 rfl (lv_at hl 0 rfl) ?_
            refine lv_iload_n hx hb dX9_on_46 rfl (lv_at hl 1 rfl) ?_
            refine lv_iload_n hx hb dX9_on_47 rfl (lv_at hl 2 rfl) ?_
            obtain ⟨u6, hu6, hf⟩ := o_b1 hf
            refine x_vv (rest := []) (W1 := [x_o9 a_t t_p a_t_given t_isLaid t_isGood a_t_c t_points a_t_pointX a_t_pointY a_t_pointZ a_t_pointFlags t_flags a_t_flagPoint a_t_flagU a_t_flagV a_t_flagW a_t_next a_t_series a_t_mix a_t_cofactor t_formX t_formY t_formZ a_t_square t_isNought t_sumT t_sumY, x_ar cI a_t_given 12 t_given_r, x_ar cI a_t_mix 6 u6]) ⟨hx, hb, hml, hown, hts⟩ (tX9_mixOf l D cI a_t a_t_given a_t_c a_t_pointX a_t_pointY a_t_pointZ a_t_pointFlags a_t_flagPoint a_t_flagU a_t_flagV a_t_flagW a_t_next a_t_series a_t_mix a_t_cofactor a_t_square t_p t_isLaid t_isGood t_points t_flags t_formX t_formY t_formZ t_isNought t_sumT t_sumY t_given_r t_mix_r i1 i2 u6 hu6) (cwV 2 hts gX9_on_X9_mixOf rfl rfl rfl (by decide +kernel) ⟨Nat.le_of_ble_eq_true rfl, Nat.le_of_ble_eq_true rfl⟩) hN hK hP hD hS hA [0, 1, 2] [some 0, some 1, some 2] rfl rfl rfl rfl rfl rfl 0 rfl rfl rfl hl.1 rfl (Nat.le_of_ble_eq_true rfl) dX9_on_48 ⟨Nat.zero_le _, Nat.zero_le _⟩ (fun H locs hP hD hS => ?_)
            refine lv_aload_n hx hb dX9_on_51 rfl (lv_at hl 0 rfl) ?_
            refine lv_aload_n hx hb dX9_on_52 rfl (lv_at hl 0 rfl) ?_
            refine va_get (D := D) (ci := 9) (C := RX9) (T := TX9) (N := 26) hx hb hts iX9 hown hK hP 0 rfl rfl 17 (by decide) l50 (fun _ h9 => h9) rfl dX9_on_53 ?_
            refine lv_iconst (v := 0) hx hb dX9_on_56 (by decide) ?_
            refine lv_iload_n hx hb dX9_on_57 rfl (lv_at hl 3 rfl) ?_
            refine lv_iload hx hb dX9_on_58 (lv_at hl 4 rfl) ?_
            refine lv_iload hx hb dX9_on_60 (lv_at hl 5 rfl) ?_
            obtain ⟨v7, hv7, hf⟩ := o_b1 hf
            refine x_vi (rest := []) (W1 := [x_o9 a_t t_p a_t_given t_isLaid t_isGood a_t_c t_points a_t_pointX a_t_pointY a_t_pointZ a_t_pointFlags t_flags a_t_flagPoint a_t_flagU a_t_flagV a_t_flagW a_t_next a_t_series a_t_mix a_t_cofactor t_formX t_formY t_formZ a_t_square t_isNought t_sumT t_sumY, x_ar cI a_t_given 12 t_given_r, x_ar cI a_t_mix 6 u6]) ⟨hx, hb, hml, hown, hts⟩ (tX9_both l D cI a_t a_t_mix a_t_given a_t_c a_t_pointX a_t_pointY a_t_pointZ a_t_pointFlags a_t_flagPoint a_t_flagU a_t_flagV a_t_flagW a_t_next a_t_series a_t_mix a_t_cofactor a_t_square 6 t_p t_isLaid t_isGood t_points t_flags t_formX t_formY t_formZ t_isNought t_sumT t_sumY u6 0 i3 i4 i5 v7 hv7) (cwV 5 hts gX9_on_X9_both rfl rfl rfl (by decide +kernel) ⟨Nat.le_of_ble_eq_true rfl, Nat.le_of_ble_eq_true rfl⟩) hN hK hP hD hS hA [0, 2] [some 0, none, some 1] rfl rfl rfl rfl rfl rfl 0 rfl rfl rfl hl.1 rfl (Nat.le_of_ble_eq_true rfl) dX9_on_62 ⟨Nat.zero_le _, Nat.zero_le _⟩ (fun H locs hP hD hS => ?_)
            obtain ⟨rfl, rfl⟩ := o_s2 hf
            exact hret rfl rfl dX9_on_65 hP hD hS
          · have hf := o_t hf hc
            refine lv_bipush (v := (-2)) hx hb dX9_on_42 (by decide) ?_
            obtain ⟨rfl, rfl⟩ := o_s2 hf
            exact hret rfl rfl dX9_on_44 hP hD hS
noncomputable def fX9_touching (t_p : Int32) (t_cofactor_r : (Nat → Int32)) (t_given_r : (Nat → Int32)) (t_mix_r : (Nat → Int32)) (i1 : Int32) (i2 : Int32) (i3 : Int32) (i4 : Int32) (i5 : Int32) : Option (Int32 × (Nat → Int32) × (Nat → Int32)) :=
  p_b1 (fX9_mixOf t_p t_given_r t_mix_r i1 i2) (fun u1 =>
p_b1 (fX9_cofactorOf 6 t_p u1 t_cofactor_r 0) (fun u2 =>
p_b1 (fX9_both 6 t_p u2 0 i3 i4 i5) (fun v3 =>
some (v3, u2, u1))))
def rmX9_touching : Room := { frames := 2, cells := 0, slots := 0, locals := 50 }
set_option maxHeartbeats 4000000 in
set_option maxRecDepth 100000 in
theorem tX9_touching (l : Launch) (D : va_G) (cI : ClassId) (a_t : Nat) (a_t_given : Nat) (a_t_c : Nat) (a_t_pointX : Nat) (a_t_pointY : Nat) (a_t_pointZ : Nat) (a_t_pointFlags : Nat) (a_t_flagPoint : Nat) (a_t_flagU : Nat) (a_t_flagV : Nat) (a_t_flagW : Nat) (a_t_next : Nat) (a_t_series : Nat) (a_t_mix : Nat) (a_t_cofactor : Nat) (a_t_square : Nat) (t_p : Int32) (t_isLaid : Int32) (t_isGood : Int32) (t_points : Int32) (t_flags : Int32) (t_formX : Int32) (t_formY : Int32) (t_formZ : Int32) (t_isNought : Int32) (t_sumT : Int32) (t_sumY : Int32) (t_cofactor_r : (Nat → Int32)) (t_given_r : (Nat → Int32)) (t_mix_r : (Nat → Int32)) (i1 : Int32) (i2 : Int32) (i3 : Int32) (i4 : Int32) (i5 : Int32) (r : Int32) (s_t_cofactor_r : (Nat → Int32)) (s_t_mix_r : (Nat → Int32)) (hf : fX9_touching t_p t_cofactor_r t_given_r t_mix_r i1 i2 i3 i4 i5 = some (r, s_t_cofactor_r, s_t_mix_r)) : x_CI l D cI yX9_touching wsX9_touching rmX9_touching [.ref a_t, .int i1, .int i2, .int i3, .int i4, .int i5] [x_o9 a_t t_p a_t_given t_isLaid t_isGood a_t_c t_points a_t_pointX a_t_pointY a_t_pointZ a_t_pointFlags t_flags a_t_flagPoint a_t_flagU a_t_flagV a_t_flagW a_t_next a_t_series a_t_mix a_t_cofactor t_formX t_formY t_formZ a_t_square t_isNought t_sumT t_sumY, x_ar cI a_t_cofactor 6 t_cofactor_r, x_ar cI a_t_given 12 t_given_r, x_ar cI a_t_mix 6 t_mix_r] [x_o9 a_t t_p a_t_given t_isLaid t_isGood a_t_c t_points a_t_pointX a_t_pointY a_t_pointZ a_t_pointFlags t_flags a_t_flagPoint a_t_flagU a_t_flagV a_t_flagW a_t_next a_t_series a_t_mix a_t_cofactor t_formX t_formY t_formZ a_t_square t_isNought t_sumT t_sumY, x_ar cI a_t_cofactor 6 s_t_cofactor_r, x_ar cI a_t_given 12 t_given_r, x_ar cI a_t_mix 6 s_t_mix_r] r := by
  refine x_CI_of (cc := cX9_touching) (maxL := 6) (ty := .int) (own := RX9) (lv0 := [(0, .ref a_t), (1, .int i1), (2, .int i2), (3, .int i3), (4, .int i4), (5, .int i5)]) (by decide) rfl rfl (Nat.le_of_ble_eq_true rfl) rfl ?_
  intro p e s m args below meth c A Q ls hx hb hml hown hts hN hK hP hD hS hA hl hret
  have iX9 : ∀ w ∈ u_ws RX9 TX9 26, w ∈ wsX9_touching := by decide +kernel
  have l50 := hts (.fieldLink RX9 50 "ChordRingsModel" "mix" "[I") (by decide +kernel)
  have l53 := hts (.fieldLink RX9 53 "ChordRingsModel" "cofactor" "[I") (by decide +kernel)
  unfold fX9_touching at hf
  refine lv_aload_n hx hb dX9_touching_0 rfl (lv_at hl 0 rfl) ?_
  refine lv_iload_n hx hb dX9_touching_1 rfl (lv_at hl 1 rfl) ?_
  refine lv_iload_n hx hb dX9_touching_2 rfl (lv_at hl 2 rfl) ?_
  obtain ⟨u1, hu1, hf⟩ := o_b1 hf
  refine x_vv (rest := []) (W1 := [x_o9 a_t t_p a_t_given t_isLaid t_isGood a_t_c t_points a_t_pointX a_t_pointY a_t_pointZ a_t_pointFlags t_flags a_t_flagPoint a_t_flagU a_t_flagV a_t_flagW a_t_next a_t_series a_t_mix a_t_cofactor t_formX t_formY t_formZ a_t_square t_isNought t_sumT t_sumY, x_ar cI a_t_cofactor 6 t_cofactor_r, x_ar cI a_t_given 12 t_given_r, x_ar cI a_t_mix 6 u1]) ⟨hx, hb, hml, hown, hts⟩ (tX9_mixOf l D cI a_t a_t_given a_t_c a_t_pointX a_t_pointY a_t_pointZ a_t_pointFlags a_t_flagPoint a_t_flagU a_t_flagV a_t_flagW a_t_next a_t_series a_t_mix a_t_cofactor a_t_square t_p t_isLaid t_isGood t_points t_flags t_formX t_formY t_formZ t_isNought t_sumT t_sumY t_given_r t_mix_r i1 i2 u1 hu1) (cwV 2 hts gX9_touching_X9_mixOf rfl rfl rfl (by decide +kernel) ⟨Nat.le_of_ble_eq_true rfl, Nat.le_of_ble_eq_true rfl⟩) hN hK hP hD hS hA [0, 2, 3] [some 0, none, some 1, some 2] rfl rfl rfl rfl rfl rfl 0 rfl rfl rfl hl.1 rfl (Nat.le_of_ble_eq_true rfl) dX9_touching_3 ⟨Nat.zero_le _, Nat.zero_le _⟩ (fun H locs hP hD hS => ?_)
  refine lv_aload_n hx hb dX9_touching_6 rfl (lv_at hl 0 rfl) ?_
  refine lv_aload_n hx hb dX9_touching_7 rfl (lv_at hl 0 rfl) ?_
  refine va_get (D := D) (ci := 9) (C := RX9) (T := TX9) (N := 26) hx hb hts iX9 hown hK hP 0 rfl rfl 17 (by decide) l50 (fun _ h9 => h9) rfl dX9_touching_8 ?_
  refine lv_iconst (v := 0) hx hb dX9_touching_11 (by decide) ?_
  obtain ⟨u2, hu2, hf⟩ := o_b1 hf
  refine x_vv (rest := []) (W1 := [x_o9 a_t t_p a_t_given t_isLaid t_isGood a_t_c t_points a_t_pointX a_t_pointY a_t_pointZ a_t_pointFlags t_flags a_t_flagPoint a_t_flagU a_t_flagV a_t_flagW a_t_next a_t_series a_t_mix a_t_cofactor t_formX t_formY t_formZ a_t_square t_isNought t_sumT t_sumY, x_ar cI a_t_cofactor 6 u2, x_ar cI a_t_given 12 t_given_r, x_ar cI a_t_mix 6 u1]) ⟨hx, hb, hml, hown, hts⟩ (tX9_cofactorOf l D cI a_t a_t_mix a_t_given a_t_c a_t_pointX a_t_pointY a_t_pointZ a_t_pointFlags a_t_flagPoint a_t_flagU a_t_flagV a_t_flagW a_t_next a_t_series a_t_mix a_t_cofactor a_t_square 6 t_p t_isLaid t_isGood t_points t_flags t_formX t_formY t_formZ t_isNought t_sumT t_sumY u1 t_cofactor_r 0 u2 hu2) (cwV 2 hts gX9_touching_X9_cofactorOf rfl rfl rfl (by decide +kernel) ⟨Nat.le_of_ble_eq_true rfl, Nat.le_of_ble_eq_true rfl⟩) hN hK hP hD hS hA [0, 3, 1] [some 0, some 2, none, some 1] rfl rfl rfl rfl rfl rfl 0 rfl rfl rfl hl.1 rfl (Nat.le_of_ble_eq_true rfl) dX9_touching_12 ⟨Nat.zero_le _, Nat.zero_le _⟩ (fun H locs hP hD hS => ?_)
  refine lv_aload_n hx hb dX9_touching_15 rfl (lv_at hl 0 rfl) ?_
  refine lv_aload_n hx hb dX9_touching_16 rfl (lv_at hl 0 rfl) ?_
  refine va_get (D := D) (ci := 9) (C := RX9) (T := TX9) (N := 26) hx hb hts iX9 hown hK hP 0 rfl rfl 18 (by decide) l53 (fun _ h9 => h9) rfl dX9_touching_17 ?_
  refine lv_iconst (v := 0) hx hb dX9_touching_20 (by decide) ?_
  refine lv_iload_n hx hb dX9_touching_21 rfl (lv_at hl 3 rfl) ?_
  refine lv_iload hx hb dX9_touching_22 (lv_at hl 4 rfl) ?_
  refine lv_iload hx hb dX9_touching_24 (lv_at hl 5 rfl) ?_
  obtain ⟨v3, hv3, hf⟩ := o_b1 hf
  refine x_vi (rest := []) (W1 := [x_o9 a_t t_p a_t_given t_isLaid t_isGood a_t_c t_points a_t_pointX a_t_pointY a_t_pointZ a_t_pointFlags t_flags a_t_flagPoint a_t_flagU a_t_flagV a_t_flagW a_t_next a_t_series a_t_mix a_t_cofactor t_formX t_formY t_formZ a_t_square t_isNought t_sumT t_sumY, x_ar cI a_t_cofactor 6 u2, x_ar cI a_t_given 12 t_given_r, x_ar cI a_t_mix 6 u1]) ⟨hx, hb, hml, hown, hts⟩ (tX9_both l D cI a_t a_t_cofactor a_t_given a_t_c a_t_pointX a_t_pointY a_t_pointZ a_t_pointFlags a_t_flagPoint a_t_flagU a_t_flagV a_t_flagW a_t_next a_t_series a_t_mix a_t_cofactor a_t_square 6 t_p t_isLaid t_isGood t_points t_flags t_formX t_formY t_formZ t_isNought t_sumT t_sumY u2 0 i3 i4 i5 v3 hv3) (cwV 5 hts gX9_touching_X9_both rfl rfl rfl (by decide +kernel) ⟨Nat.le_of_ble_eq_true rfl, Nat.le_of_ble_eq_true rfl⟩) hN hK hP hD hS hA [0, 1] [some 0, some 1, none, none] rfl rfl rfl rfl rfl rfl 0 rfl rfl rfl hl.1 rfl (Nat.le_of_ble_eq_true rfl) dX9_touching_26 ⟨Nat.zero_le _, Nat.zero_le _⟩ (fun H locs hP hD hS => ?_)
  obtain ⟨rfl, rfl, rfl⟩ := o_s3 hf
  exact hret rfl rfl dX9_touching_29 hP hD hS
noncomputable def fX9_touches (t_p : Int32) (t_cofactor_r : (Nat → Int32)) (t_given_r : (Nat → Int32)) (t_mix_r : (Nat → Int32)) (i1 : Int32) (i2 : Int32) (i3 : Int32) (i4 : Int32) (i5 : Int32) : Option (Int32 × (Nat → Int32) × (Nat → Int32)) :=
  p_b1 (fX9_isNumber t_p i1) (fun v1 =>
if v1 = 0 then (some ((-2), t_cofactor_r, t_mix_r)) else (p_b1 (fX9_isNumber t_p i2) (fun v2 =>
if v2 = 0 then (some ((-2), t_cofactor_r, t_mix_r)) else (p_b1 (fX9_isNumber t_p i3) (fun v3 =>
if v3 = 0 then (some ((-2), t_cofactor_r, t_mix_r)) else (p_b1 (fX9_isNumber t_p i4) (fun v4 =>
if v4 = 0 then (some ((-2), t_cofactor_r, t_mix_r)) else (p_b1 (fX9_isNumber t_p i5) (fun v5 =>
if v5 = 0 then (some ((-2), t_cofactor_r, t_mix_r)) else (p_b3 (fX9_touching t_p t_cofactor_r t_given_r t_mix_r i1 i2 i3 i4 i5) (fun v6 u7 u8 =>
some (v6, u7, u8))))))))))))
def rmX9_touches : Room := { frames := 3, cells := 0, slots := 0, locals := 75 }
set_option maxHeartbeats 4000000 in
set_option maxRecDepth 100000 in
theorem tX9_touches (l : Launch) (D : va_G) (cI : ClassId) (a_t : Nat) (a_t_given : Nat) (a_t_c : Nat) (a_t_pointX : Nat) (a_t_pointY : Nat) (a_t_pointZ : Nat) (a_t_pointFlags : Nat) (a_t_flagPoint : Nat) (a_t_flagU : Nat) (a_t_flagV : Nat) (a_t_flagW : Nat) (a_t_next : Nat) (a_t_series : Nat) (a_t_mix : Nat) (a_t_cofactor : Nat) (a_t_square : Nat) (t_p : Int32) (t_isLaid : Int32) (t_isGood : Int32) (t_points : Int32) (t_flags : Int32) (t_formX : Int32) (t_formY : Int32) (t_formZ : Int32) (t_isNought : Int32) (t_sumT : Int32) (t_sumY : Int32) (t_cofactor_r : (Nat → Int32)) (t_given_r : (Nat → Int32)) (t_mix_r : (Nat → Int32)) (i1 : Int32) (i2 : Int32) (i3 : Int32) (i4 : Int32) (i5 : Int32) (r : Int32) (s_t_cofactor_r : (Nat → Int32)) (s_t_mix_r : (Nat → Int32)) (hf : fX9_touches t_p t_cofactor_r t_given_r t_mix_r i1 i2 i3 i4 i5 = some (r, s_t_cofactor_r, s_t_mix_r)) : x_CI l D cI yX9_touches wsX9_touches rmX9_touches [.ref a_t, .int i1, .int i2, .int i3, .int i4, .int i5] [x_o9 a_t t_p a_t_given t_isLaid t_isGood a_t_c t_points a_t_pointX a_t_pointY a_t_pointZ a_t_pointFlags t_flags a_t_flagPoint a_t_flagU a_t_flagV a_t_flagW a_t_next a_t_series a_t_mix a_t_cofactor t_formX t_formY t_formZ a_t_square t_isNought t_sumT t_sumY, x_ar cI a_t_cofactor 6 t_cofactor_r, x_ar cI a_t_given 12 t_given_r, x_ar cI a_t_mix 6 t_mix_r] [x_o9 a_t t_p a_t_given t_isLaid t_isGood a_t_c t_points a_t_pointX a_t_pointY a_t_pointZ a_t_pointFlags t_flags a_t_flagPoint a_t_flagU a_t_flagV a_t_flagW a_t_next a_t_series a_t_mix a_t_cofactor t_formX t_formY t_formZ a_t_square t_isNought t_sumT t_sumY, x_ar cI a_t_cofactor 6 s_t_cofactor_r, x_ar cI a_t_given 12 t_given_r, x_ar cI a_t_mix 6 s_t_mix_r] r := by
  refine x_CI_of (cc := cX9_touches) (maxL := 6) (ty := .int) (own := RX9) (lv0 := [(0, .ref a_t), (1, .int i1), (2, .int i2), (3, .int i3), (4, .int i4), (5, .int i5)]) (by decide) rfl rfl (Nat.le_of_ble_eq_true rfl) rfl ?_
  intro p e s m args below meth c A Q ls hx hb hml hown hts hN hK hP hD hS hA hl hret
  unfold fX9_touches at hf
  refine lv_aload_n hx hb dX9_touches_0 rfl (lv_at hl 0 rfl) ?_
  refine lv_iload_n hx hb dX9_touches_1 rfl (lv_at hl 1 rfl) ?_
  obtain ⟨v1, hv1, hf⟩ := o_b1 hf
  refine x_vi (rest := []) (W1 := [x_o9 a_t t_p a_t_given t_isLaid t_isGood a_t_c t_points a_t_pointX a_t_pointY a_t_pointZ a_t_pointFlags t_flags a_t_flagPoint a_t_flagU a_t_flagV a_t_flagW a_t_next a_t_series a_t_mix a_t_cofactor t_formX t_formY t_formZ a_t_square t_isNought t_sumT t_sumY, x_ar cI a_t_cofactor 6 t_cofactor_r, x_ar cI a_t_given 12 t_given_r, x_ar cI a_t_mix 6 t_mix_r]) ⟨hx, hb, hml, hown, hts⟩ (tX9_isNumber l D cI a_t a_t_given a_t_c a_t_pointX a_t_pointY a_t_pointZ a_t_pointFlags a_t_flagPoint a_t_flagU a_t_flagV a_t_flagW a_t_next a_t_series a_t_mix a_t_cofactor a_t_square t_p t_isLaid t_isGood t_points t_flags t_formX t_formY t_formZ t_isNought t_sumT t_sumY i1 v1 hv1) (cwV 1 hts gX9_touches_X9_isNumber rfl rfl rfl (by decide +kernel) ⟨Nat.le_of_ble_eq_true rfl, Nat.le_of_ble_eq_true rfl⟩) hN hK hP hD hS hA [0] [some 0, none, none, none] rfl rfl rfl rfl rfl rfl 0 rfl rfl rfl hl.1 rfl (Nat.le_of_ble_eq_true rfl) dX9_touches_2 ⟨Nat.zero_le _, Nat.zero_le _⟩ (fun H locs hP hD hS => ?_)
  refine lv_if_eq (tgt := 42) hx hb dX9_touches_5 (by decide) (fun hc => ?_) (fun hc => ?_)
  · have hf := o_t hf hc
    refine lv_bipush (v := (-2)) hx hb dX9_touches_42 (by decide) ?_
    obtain ⟨rfl, rfl, rfl⟩ := o_s3 hf
    exact hret rfl rfl dX9_touches_44 hP hD hS
  · have hf := o_f hf hc
    refine lv_aload_n hx hb dX9_touches_8 rfl (lv_at hl 0 rfl) ?_
    refine lv_iload_n hx hb dX9_touches_9 rfl (lv_at hl 2 rfl) ?_
    obtain ⟨v2, hv2, hf⟩ := o_b1 hf
    refine x_vi (rest := []) (W1 := [x_o9 a_t t_p a_t_given t_isLaid t_isGood a_t_c t_points a_t_pointX a_t_pointY a_t_pointZ a_t_pointFlags t_flags a_t_flagPoint a_t_flagU a_t_flagV a_t_flagW a_t_next a_t_series a_t_mix a_t_cofactor t_formX t_formY t_formZ a_t_square t_isNought t_sumT t_sumY, x_ar cI a_t_cofactor 6 t_cofactor_r, x_ar cI a_t_given 12 t_given_r, x_ar cI a_t_mix 6 t_mix_r]) ⟨hx, hb, hml, hown, hts⟩ (tX9_isNumber l D cI a_t a_t_given a_t_c a_t_pointX a_t_pointY a_t_pointZ a_t_pointFlags a_t_flagPoint a_t_flagU a_t_flagV a_t_flagW a_t_next a_t_series a_t_mix a_t_cofactor a_t_square t_p t_isLaid t_isGood t_points t_flags t_formX t_formY t_formZ t_isNought t_sumT t_sumY i2 v2 hv2) (cwV 1 hts gX9_touches_X9_isNumber rfl rfl rfl (by decide +kernel) ⟨Nat.le_of_ble_eq_true rfl, Nat.le_of_ble_eq_true rfl⟩) hN hK hP hD hS hA [0] [some 0, none, none, none] rfl rfl rfl rfl rfl rfl 0 rfl rfl rfl hl.1 rfl (Nat.le_of_ble_eq_true rfl) dX9_touches_10 ⟨Nat.zero_le _, Nat.zero_le _⟩ (fun H locs hP hD hS => ?_)
    refine lv_if_eq (tgt := 42) hx hb dX9_touches_13 (by decide) (fun hc => ?_) (fun hc => ?_)
    · have hf := o_t hf hc
      refine lv_bipush (v := (-2)) hx hb dX9_touches_42 (by decide) ?_
      obtain ⟨rfl, rfl, rfl⟩ := o_s3 hf
      exact hret rfl rfl dX9_touches_44 hP hD hS
    · have hf := o_f hf hc
      refine lv_aload_n hx hb dX9_touches_16 rfl (lv_at hl 0 rfl) ?_
      refine lv_iload_n hx hb dX9_touches_17 rfl (lv_at hl 3 rfl) ?_
      obtain ⟨v3, hv3, hf⟩ := o_b1 hf
      refine x_vi (rest := []) (W1 := [x_o9 a_t t_p a_t_given t_isLaid t_isGood a_t_c t_points a_t_pointX a_t_pointY a_t_pointZ a_t_pointFlags t_flags a_t_flagPoint a_t_flagU a_t_flagV a_t_flagW a_t_next a_t_series a_t_mix a_t_cofactor t_formX t_formY t_formZ a_t_square t_isNought t_sumT t_sumY, x_ar cI a_t_cofactor 6 t_cofactor_r, x_ar cI a_t_given 12 t_given_r, x_ar cI a_t_mix 6 t_mix_r]) ⟨hx, hb, hml, hown, hts⟩ (tX9_isNumber l D cI a_t a_t_given a_t_c a_t_pointX a_t_pointY a_t_pointZ a_t_pointFlags a_t_flagPoint a_t_flagU a_t_flagV a_t_flagW a_t_next a_t_series a_t_mix a_t_cofactor a_t_square t_p t_isLaid t_isGood t_points t_flags t_formX t_formY t_formZ t_isNought t_sumT t_sumY i3 v3 hv3) (cwV 1 hts gX9_touches_X9_isNumber rfl rfl rfl (by decide +kernel) ⟨Nat.le_of_ble_eq_true rfl, Nat.le_of_ble_eq_true rfl⟩) hN hK hP hD hS hA [0] [some 0, none, none, none] rfl rfl rfl rfl rfl rfl 0 rfl rfl rfl hl.1 rfl (Nat.le_of_ble_eq_true rfl) dX9_touches_18 ⟨Nat.zero_le _, Nat.zero_le _⟩ (fun H locs hP hD hS => ?_)
      refine lv_if_eq (tgt := 42) hx hb dX9_touches_21 (by decide) (fun hc => ?_) (fun hc => ?_)
      · have hf := o_t hf hc
        refine lv_bipush (v := (-2)) hx hb dX9_touches_42 (by decide) ?_
        obtain ⟨rfl, rfl, rfl⟩ := o_s3 hf
        exact hret rfl rfl dX9_touches_44 hP hD hS
      · have hf := o_f hf hc
        refine lv_aload_n hx hb dX9_touches_24 rfl (lv_at hl 0 rfl) ?_
        refine lv_iload hx hb dX9_touches_25 (lv_at hl 4 rfl) ?_
        obtain ⟨v4, hv4, hf⟩ := o_b1 hf
        refine x_vi (rest := []) (W1 := [x_o9 a_t t_p a_t_given t_isLaid t_isGood a_t_c t_points a_t_pointX a_t_pointY a_t_pointZ a_t_pointFlags t_flags a_t_flagPoint a_t_flagU a_t_flagV a_t_flagW a_t_next a_t_series a_t_mix a_t_cofactor t_formX t_formY t_formZ a_t_square t_isNought t_sumT t_sumY, x_ar cI a_t_cofactor 6 t_cofactor_r, x_ar cI a_t_given 12 t_given_r, x_ar cI a_t_mix 6 t_mix_r]) ⟨hx, hb, hml, hown, hts⟩ (tX9_isNumber l D cI a_t a_t_given a_t_c a_t_pointX a_t_pointY a_t_pointZ a_t_pointFlags a_t_flagPoint a_t_flagU a_t_flagV a_t_flagW a_t_next a_t_series a_t_mix a_t_cofactor a_t_square t_p t_isLaid t_isGood t_points t_flags t_formX t_formY t_formZ t_isNought t_sumT t_sumY i4 v4 hv4) (cwV 1 hts gX9_touches_X9_isNumber rfl rfl rfl (by decide +kernel) ⟨Nat.le_of_ble_eq_true rfl, Nat.le_of_ble_eq_true rfl⟩) hN hK hP hD hS hA [0] [some 0, none, none, none] rfl rfl rfl rfl rfl rfl 0 rfl rfl rfl hl.1 rfl (Nat.le_of_ble_eq_true rfl) dX9_touches_27 ⟨Nat.zero_le _, Nat.zero_le _⟩ (fun H locs hP hD hS => ?_)
        refine lv_if_eq (tgt := 42) hx hb dX9_touches_30 (by decide) (fun hc => ?_) (fun hc => ?_)
        · have hf := o_t hf hc
          refine lv_bipush (v := (-2)) hx hb dX9_touches_42 (by decide) ?_
          obtain ⟨rfl, rfl, rfl⟩ := o_s3 hf
          exact hret rfl rfl dX9_touches_44 hP hD hS
        · have hf := o_f hf hc
          refine lv_aload_n hx hb dX9_touches_33 rfl (lv_at hl 0 rfl) ?_
          refine lv_iload hx hb dX9_touches_34 (lv_at hl 5 rfl) ?_
          obtain ⟨v5, hv5, hf⟩ := o_b1 hf
          refine x_vi (rest := []) (W1 := [x_o9 a_t t_p a_t_given t_isLaid t_isGood a_t_c t_points a_t_pointX a_t_pointY a_t_pointZ a_t_pointFlags t_flags a_t_flagPoint a_t_flagU a_t_flagV a_t_flagW a_t_next a_t_series a_t_mix a_t_cofactor t_formX t_formY t_formZ a_t_square t_isNought t_sumT t_sumY, x_ar cI a_t_cofactor 6 t_cofactor_r, x_ar cI a_t_given 12 t_given_r, x_ar cI a_t_mix 6 t_mix_r]) ⟨hx, hb, hml, hown, hts⟩ (tX9_isNumber l D cI a_t a_t_given a_t_c a_t_pointX a_t_pointY a_t_pointZ a_t_pointFlags a_t_flagPoint a_t_flagU a_t_flagV a_t_flagW a_t_next a_t_series a_t_mix a_t_cofactor a_t_square t_p t_isLaid t_isGood t_points t_flags t_formX t_formY t_formZ t_isNought t_sumT t_sumY i5 v5 hv5) (cwV 1 hts gX9_touches_X9_isNumber rfl rfl rfl (by decide +kernel) ⟨Nat.le_of_ble_eq_true rfl, Nat.le_of_ble_eq_true rfl⟩) hN hK hP hD hS hA [0] [some 0, none, none, none] rfl rfl rfl rfl rfl rfl 0 rfl rfl rfl hl.1 rfl (Nat.le_of_ble_eq_true rfl) dX9_touches_36 ⟨Nat.zero_le _, Nat.zero_le _⟩ (fun H locs hP hD hS => ?_)
          refine lv_if_ne (tgt := 45) hx hb dX9_touches_39 (by decide) (fun hc => ?_) (fun hc => ?_)
          · have hf := o_f hf hc
            refine lv_aload_n hx hb dX9_touches_45 rfl (lv_at hl 0 rfl) ?_
            refine lv_iload_n hx hb dX9_touches_46 rfl (lv_at hl 1 rfl) ?_
            refine lv_iload_n hx hb dX9_touches_47 rfl (lv_at hl 2 rfl) ?_
            refine lv_iload_n hx hb dX9_touches_48 rfl (lv_at hl 3 rfl) ?_
            refine lv_iload hx hb dX9_touches_49 (lv_at hl 4 rfl) ?_
            refine lv_iload hx hb dX9_touches_51 (lv_at hl 5 rfl) ?_
            obtain ⟨v6, u7, u8, hv6, hf⟩ := o_b3 hf
            refine x_vi (rest := []) (W1 := [x_o9 a_t t_p a_t_given t_isLaid t_isGood a_t_c t_points a_t_pointX a_t_pointY a_t_pointZ a_t_pointFlags t_flags a_t_flagPoint a_t_flagU a_t_flagV a_t_flagW a_t_next a_t_series a_t_mix a_t_cofactor t_formX t_formY t_formZ a_t_square t_isNought t_sumT t_sumY, x_ar cI a_t_cofactor 6 u7, x_ar cI a_t_given 12 t_given_r, x_ar cI a_t_mix 6 u8]) ⟨hx, hb, hml, hown, hts⟩ (tX9_touching l D cI a_t a_t_given a_t_c a_t_pointX a_t_pointY a_t_pointZ a_t_pointFlags a_t_flagPoint a_t_flagU a_t_flagV a_t_flagW a_t_next a_t_series a_t_mix a_t_cofactor a_t_square t_p t_isLaid t_isGood t_points t_flags t_formX t_formY t_formZ t_isNought t_sumT t_sumY t_cofactor_r t_given_r t_mix_r i1 i2 i3 i4 i5 v6 u7 u8 hv6) (cwV 5 hts gX9_touches_X9_touching rfl rfl rfl (by decide +kernel) ⟨Nat.le_of_ble_eq_true rfl, Nat.le_of_ble_eq_true rfl⟩) hN hK hP hD hS hA [0, 1, 2, 3] [some 0, some 1, some 2, some 3] rfl rfl rfl rfl rfl rfl 0 rfl rfl rfl hl.1 rfl (Nat.le_of_ble_eq_true rfl) dX9_touches_53 ⟨Nat.zero_le _, Nat.zero_le _⟩ (fun H locs hP hD hS => ?_)
            obtain ⟨rfl, rfl, rfl⟩ := o_s3 hf
            exact hret rfl rfl dX9_touches_56 hP hD hS
          · have hf := o_t hf hc
            refine lv_bipush (v := (-2)) hx hb dX9_touches_42 (by decide) ?_
            obtain ⟨rfl, rfl, rfl⟩ := o_s3 hf
            exact hret rfl rfl dX9_touches_44 hP hD hS
noncomputable def fX9_cross (t_formX : Int32) (t_formY : Int32) (t_formZ : Int32) (t_p : Int32) (i1 : Int32) (i2 : Int32) (i3 : Int32) (i4 : Int32) (i5 : Int32) (i6 : Int32) : Option (Int32 × Int32 × Int32) :=
  p_b1 (fX9_of t_p ((i2 * i6) - (i3 * i5))) (fun v1 =>
p_b1 (fX9_of t_p ((i3 * i4) - (i1 * i6))) (fun v2 =>
p_b1 (fX9_of t_p ((i1 * i5) - (i2 * i4))) (fun v3 =>
p_b3 (fX9_form t_formX t_formY t_formZ t_p v1 v2 v3) (fun v4 v5 v6 =>
some (v4, v5, v6)))))
def rmX9_cross : Room := { frames := 3, cells := 0, slots := 0, locals := 71 }
set_option maxHeartbeats 4000000 in
set_option maxRecDepth 100000 in
theorem tX9_cross (l : Launch) (D : va_G) (cI : ClassId) (a_t : Nat) (a_t_given : Nat) (a_t_c : Nat) (a_t_pointX : Nat) (a_t_pointY : Nat) (a_t_pointZ : Nat) (a_t_pointFlags : Nat) (a_t_flagPoint : Nat) (a_t_flagU : Nat) (a_t_flagV : Nat) (a_t_flagW : Nat) (a_t_next : Nat) (a_t_series : Nat) (a_t_mix : Nat) (a_t_cofactor : Nat) (a_t_square : Nat) (t_p : Int32) (t_isLaid : Int32) (t_isGood : Int32) (t_points : Int32) (t_flags : Int32) (t_formX : Int32) (t_formY : Int32) (t_formZ : Int32) (t_isNought : Int32) (t_sumT : Int32) (t_sumY : Int32) (i1 : Int32) (i2 : Int32) (i3 : Int32) (i4 : Int32) (i5 : Int32) (i6 : Int32) (s_t_formX : Int32) (s_t_formY : Int32) (s_t_formZ : Int32) (hf : fX9_cross t_formX t_formY t_formZ t_p i1 i2 i3 i4 i5 i6 = some (s_t_formX, s_t_formY, s_t_formZ)) : x_CV l D cI yX9_cross wsX9_cross rmX9_cross [.ref a_t, .int i1, .int i2, .int i3, .int i4, .int i5, .int i6] [x_o9 a_t t_p a_t_given t_isLaid t_isGood a_t_c t_points a_t_pointX a_t_pointY a_t_pointZ a_t_pointFlags t_flags a_t_flagPoint a_t_flagU a_t_flagV a_t_flagW a_t_next a_t_series a_t_mix a_t_cofactor t_formX t_formY t_formZ a_t_square t_isNought t_sumT t_sumY] [x_o9 a_t t_p a_t_given t_isLaid t_isGood a_t_c t_points a_t_pointX a_t_pointY a_t_pointZ a_t_pointFlags t_flags a_t_flagPoint a_t_flagU a_t_flagV a_t_flagW a_t_next a_t_series a_t_mix a_t_cofactor s_t_formX s_t_formY s_t_formZ a_t_square t_isNought t_sumT t_sumY] := by
  refine x_CV_of (cc := cX9_cross) (maxL := 7) (own := RX9) (lv0 := [(0, .ref a_t), (1, .int i1), (2, .int i2), (3, .int i3), (4, .int i4), (5, .int i5), (6, .int i6)]) (by decide) rfl rfl (Nat.le_of_ble_eq_true rfl) rfl ?_
  intro p e s m args below meth c A Q ls hx hb hml hown hts hN hK hP hD hS hA hl hret
  unfold fX9_cross at hf
  refine lv_aload_n hx hb dX9_cross_0 rfl (lv_at hl 0 rfl) ?_
  refine lv_aload_n hx hb dX9_cross_1 rfl (lv_at hl 0 rfl) ?_
  refine lv_iload_n hx hb dX9_cross_2 rfl (lv_at hl 2 rfl) ?_
  refine lv_iload hx hb dX9_cross_3 (lv_at hl 6 rfl) ?_
  refine lv_imul hx hb dX9_cross_5 ?_
  refine lv_iload_n hx hb dX9_cross_6 rfl (lv_at hl 3 rfl) ?_
  refine lv_iload hx hb dX9_cross_7 (lv_at hl 5 rfl) ?_
  refine lv_imul hx hb dX9_cross_9 ?_
  refine lv_isub hx hb dX9_cross_10 ?_
  obtain ⟨v1, hv1, hf⟩ := o_b1 hf
  refine x_vi (rest := [.ref a_t]) (W1 := [x_o9 a_t t_p a_t_given t_isLaid t_isGood a_t_c t_points a_t_pointX a_t_pointY a_t_pointZ a_t_pointFlags t_flags a_t_flagPoint a_t_flagU a_t_flagV a_t_flagW a_t_next a_t_series a_t_mix a_t_cofactor t_formX t_formY t_formZ a_t_square t_isNought t_sumT t_sumY]) ⟨hx, hb, hml, hown, hts⟩ (tX9_of l D cI a_t a_t_given a_t_c a_t_pointX a_t_pointY a_t_pointZ a_t_pointFlags a_t_flagPoint a_t_flagU a_t_flagV a_t_flagW a_t_next a_t_series a_t_mix a_t_cofactor a_t_square t_p t_isLaid t_isGood t_points t_flags t_formX t_formY t_formZ t_isNought t_sumT t_sumY ((i2 * i6) - (i3 * i5)) v1 hv1) (cwV 1 hts gX9_cross_X9_of rfl rfl rfl (by decide +kernel) ⟨Nat.le_of_ble_eq_true rfl, Nat.le_of_ble_eq_true rfl⟩) hN hK hP hD hS hA [0] [some 0] rfl rfl rfl rfl rfl rfl 0 rfl rfl rfl hl.1 rfl (Nat.le_of_ble_eq_true rfl) dX9_cross_11 ⟨Nat.zero_le _, Nat.zero_le _⟩ (fun H locs hP hD hS => ?_)
  refine lv_aload_n hx hb dX9_cross_14 rfl (lv_at hl 0 rfl) ?_
  refine lv_iload_n hx hb dX9_cross_15 rfl (lv_at hl 3 rfl) ?_
  refine lv_iload hx hb dX9_cross_16 (lv_at hl 4 rfl) ?_
  refine lv_imul hx hb dX9_cross_18 ?_
  refine lv_iload_n hx hb dX9_cross_19 rfl (lv_at hl 1 rfl) ?_
  refine lv_iload hx hb dX9_cross_20 (lv_at hl 6 rfl) ?_
  refine lv_imul hx hb dX9_cross_22 ?_
  refine lv_isub hx hb dX9_cross_23 ?_
  obtain ⟨v2, hv2, hf⟩ := o_b1 hf
  refine x_vi (rest := [.int v1, .ref a_t]) (W1 := [x_o9 a_t t_p a_t_given t_isLaid t_isGood a_t_c t_points a_t_pointX a_t_pointY a_t_pointZ a_t_pointFlags t_flags a_t_flagPoint a_t_flagU a_t_flagV a_t_flagW a_t_next a_t_series a_t_mix a_t_cofactor t_formX t_formY t_formZ a_t_square t_isNought t_sumT t_sumY]) ⟨hx, hb, hml, hown, hts⟩ (tX9_of l D cI a_t a_t_given a_t_c a_t_pointX a_t_pointY a_t_pointZ a_t_pointFlags a_t_flagPoint a_t_flagU a_t_flagV a_t_flagW a_t_next a_t_series a_t_mix a_t_cofactor a_t_square t_p t_isLaid t_isGood t_points t_flags t_formX t_formY t_formZ t_isNought t_sumT t_sumY ((i3 * i4) - (i1 * i6)) v2 hv2) (cwV 1 hts gX9_cross_X9_of rfl rfl rfl (by decide +kernel) ⟨Nat.le_of_ble_eq_true rfl, Nat.le_of_ble_eq_true rfl⟩) hN hK hP hD hS hA [0] [some 0] rfl rfl rfl rfl rfl rfl 0 rfl rfl rfl hl.1 rfl (Nat.le_of_ble_eq_true rfl) dX9_cross_24 ⟨Nat.zero_le _, Nat.zero_le _⟩ (fun H locs hP hD hS => ?_)
  refine lv_aload_n hx hb dX9_cross_27 rfl (lv_at hl 0 rfl) ?_
  refine lv_iload_n hx hb dX9_cross_28 rfl (lv_at hl 1 rfl) ?_
  refine lv_iload hx hb dX9_cross_29 (lv_at hl 5 rfl) ?_
  refine lv_imul hx hb dX9_cross_31 ?_
  refine lv_iload_n hx hb dX9_cross_32 rfl (lv_at hl 2 rfl) ?_
  refine lv_iload hx hb dX9_cross_33 (lv_at hl 4 rfl) ?_
  refine lv_imul hx hb dX9_cross_35 ?_
  refine lv_isub hx hb dX9_cross_36 ?_
  obtain ⟨v3, hv3, hf⟩ := o_b1 hf
  refine x_vi (rest := [.int v2, .int v1, .ref a_t]) (W1 := [x_o9 a_t t_p a_t_given t_isLaid t_isGood a_t_c t_points a_t_pointX a_t_pointY a_t_pointZ a_t_pointFlags t_flags a_t_flagPoint a_t_flagU a_t_flagV a_t_flagW a_t_next a_t_series a_t_mix a_t_cofactor t_formX t_formY t_formZ a_t_square t_isNought t_sumT t_sumY]) ⟨hx, hb, hml, hown, hts⟩ (tX9_of l D cI a_t a_t_given a_t_c a_t_pointX a_t_pointY a_t_pointZ a_t_pointFlags a_t_flagPoint a_t_flagU a_t_flagV a_t_flagW a_t_next a_t_series a_t_mix a_t_cofactor a_t_square t_p t_isLaid t_isGood t_points t_flags t_formX t_formY t_formZ t_isNought t_sumT t_sumY ((i1 * i5) - (i2 * i4)) v3 hv3) (cwV 1 hts gX9_cross_X9_of rfl rfl rfl (by decide +kernel) ⟨Nat.le_of_ble_eq_true rfl, Nat.le_of_ble_eq_true rfl⟩) hN hK hP hD hS hA [0] [some 0] rfl rfl rfl rfl rfl rfl 0 rfl rfl rfl hl.1 rfl (Nat.le_of_ble_eq_true rfl) dX9_cross_37 ⟨Nat.zero_le _, Nat.zero_le _⟩ (fun H locs hP hD hS => ?_)
  obtain ⟨v4, v5, v6, hv4, hf⟩ := o_b3 hf
  refine x_vv (rest := []) (W1 := [x_o9 a_t t_p a_t_given t_isLaid t_isGood a_t_c t_points a_t_pointX a_t_pointY a_t_pointZ a_t_pointFlags t_flags a_t_flagPoint a_t_flagU a_t_flagV a_t_flagW a_t_next a_t_series a_t_mix a_t_cofactor v4 v5 v6 a_t_square t_isNought t_sumT t_sumY]) ⟨hx, hb, hml, hown, hts⟩ (tX9_form l D cI a_t a_t_given a_t_c a_t_pointX a_t_pointY a_t_pointZ a_t_pointFlags a_t_flagPoint a_t_flagU a_t_flagV a_t_flagW a_t_next a_t_series a_t_mix a_t_cofactor a_t_square t_p t_isLaid t_isGood t_points t_flags t_formX t_formY t_formZ t_isNought t_sumT t_sumY v1 v2 v3 v4 v5 v6 hv4) (cwV 3 hts gX9_cross_X9_form rfl rfl rfl (by decide +kernel) ⟨Nat.le_of_ble_eq_true rfl, Nat.le_of_ble_eq_true rfl⟩) hN hK hP hD hS hA [0] [some 0] rfl rfl rfl rfl rfl rfl 0 rfl rfl rfl hl.1 rfl (Nat.le_of_ble_eq_true rfl) dX9_cross_40 ⟨Nat.zero_le _, Nat.zero_le _⟩ (fun H locs hP hD hS => ?_)
  obtain ⟨rfl, rfl, rfl⟩ := o_s3 hf
  exact hret dX9_cross_43 hP hD hS
noncomputable def fX9_points (t_flags : Int32) (t_formX : Int32) (t_formY : Int32) (t_formZ : Int32) (t_isGood : Int32) (t_isLaid : Int32) (t_p : Int32) (t_points : Int32) (t_c_r : (Nat → Int32)) (t_cofactor_r : (Nat → Int32)) (t_flagPoint_r : (Nat → Int32)) (t_flagU_r : (Nat → Int32)) (t_flagV_r : (Nat → Int32)) (t_flagW_r : (Nat → Int32)) (t_given_r : (Nat → Int32)) (t_next_r : (Nat → Int32)) (t_pointFlags_r : (Nat → Int32)) (t_pointX_r : (Nat → Int32)) (t_pointY_r : (Nat → Int32)) (t_pointZ_r : (Nat → Int32)) (t_series_r : (Nat → Int32)) : Option (Int32 × Int32 × Int32 × Int32 × Int32 × Int32 × Int32 × Int32 × (Nat → Int32) × (Nat → Int32) × (Nat → Int32) × (Nat → Int32) × (Nat → Int32) × (Nat → Int32) × (Nat → Int32) × (Nat → Int32) × (Nat → Int32) × (Nat → Int32) × (Nat → Int32) × (Nat → Int32)) :=
  p_b20 (fX9_isGood t_flags t_formX t_formY t_formZ t_isGood t_isLaid t_p t_points t_c_r t_cofactor_r t_flagPoint_r t_flagU_r t_flagV_r t_flagW_r t_given_r t_next_r t_pointFlags_r t_pointX_r t_pointY_r t_pointZ_r t_series_r) (fun v1 v2 v3 v4 v5 v6 v7 v8 u9 u10 u11 u12 u13 u14 u15 u16 u17 u18 u19 u20 =>
if v1 = 0 then (some ((-5), v2, v3, v4, v5, v6, v7, v8, u9, u10, u11, u12, u13, u14, u15, u16, u17, u18, u19, u20)) else (some (v8, v2, v3, v4, v5, v6, v7, v8, u9, u10, u11, u12, u13, u14, u15, u16, u17, u18, u19, u20)))
def rmX9_points : Room := { frames := 6, cells := 0, slots := 0, locals := 146 }
set_option maxHeartbeats 4000000 in
set_option maxRecDepth 100000 in
theorem tX9_points (l : Launch) (D : va_G) (cI : ClassId) (a_t : Nat) (a_t_given : Nat) (a_t_c : Nat) (a_t_pointX : Nat) (a_t_pointY : Nat) (a_t_pointZ : Nat) (a_t_pointFlags : Nat) (a_t_flagPoint : Nat) (a_t_flagU : Nat) (a_t_flagV : Nat) (a_t_flagW : Nat) (a_t_next : Nat) (a_t_series : Nat) (a_t_mix : Nat) (a_t_cofactor : Nat) (a_t_square : Nat) (t_p : Int32) (t_isLaid : Int32) (t_isGood : Int32) (t_points : Int32) (t_flags : Int32) (t_formX : Int32) (t_formY : Int32) (t_formZ : Int32) (t_isNought : Int32) (t_sumT : Int32) (t_sumY : Int32) (t_c_r : (Nat → Int32)) (t_cofactor_r : (Nat → Int32)) (t_flagPoint_r : (Nat → Int32)) (t_flagU_r : (Nat → Int32)) (t_flagV_r : (Nat → Int32)) (t_flagW_r : (Nat → Int32)) (t_given_r : (Nat → Int32)) (t_next_r : (Nat → Int32)) (t_pointFlags_r : (Nat → Int32)) (t_pointX_r : (Nat → Int32)) (t_pointY_r : (Nat → Int32)) (t_pointZ_r : (Nat → Int32)) (t_series_r : (Nat → Int32)) (r : Int32) (s_t_flags : Int32) (s_t_formX : Int32) (s_t_formY : Int32) (s_t_formZ : Int32) (s_t_isGood : Int32) (s_t_isLaid : Int32) (s_t_points : Int32) (s_t_c_r : (Nat → Int32)) (s_t_cofactor_r : (Nat → Int32)) (s_t_flagPoint_r : (Nat → Int32)) (s_t_flagU_r : (Nat → Int32)) (s_t_flagV_r : (Nat → Int32)) (s_t_flagW_r : (Nat → Int32)) (s_t_next_r : (Nat → Int32)) (s_t_pointFlags_r : (Nat → Int32)) (s_t_pointX_r : (Nat → Int32)) (s_t_pointY_r : (Nat → Int32)) (s_t_pointZ_r : (Nat → Int32)) (s_t_series_r : (Nat → Int32)) (hf : fX9_points t_flags t_formX t_formY t_formZ t_isGood t_isLaid t_p t_points t_c_r t_cofactor_r t_flagPoint_r t_flagU_r t_flagV_r t_flagW_r t_given_r t_next_r t_pointFlags_r t_pointX_r t_pointY_r t_pointZ_r t_series_r = some (r, s_t_flags, s_t_formX, s_t_formY, s_t_formZ, s_t_isGood, s_t_isLaid, s_t_points, s_t_c_r, s_t_cofactor_r, s_t_flagPoint_r, s_t_flagU_r, s_t_flagV_r, s_t_flagW_r, s_t_next_r, s_t_pointFlags_r, s_t_pointX_r, s_t_pointY_r, s_t_pointZ_r, s_t_series_r)) : x_CI l D cI yX9_points wsX9_points rmX9_points [.ref a_t] [x_o9 a_t t_p a_t_given t_isLaid t_isGood a_t_c t_points a_t_pointX a_t_pointY a_t_pointZ a_t_pointFlags t_flags a_t_flagPoint a_t_flagU a_t_flagV a_t_flagW a_t_next a_t_series a_t_mix a_t_cofactor t_formX t_formY t_formZ a_t_square t_isNought t_sumT t_sumY, x_ar cI a_t_c 4 t_c_r, x_ar cI a_t_cofactor 6 t_cofactor_r, x_ar cI a_t_flagPoint 400 t_flagPoint_r, x_ar cI a_t_flagU 400 t_flagU_r, x_ar cI a_t_flagV 400 t_flagV_r, x_ar cI a_t_flagW 400 t_flagW_r, x_ar cI a_t_given 12 t_given_r, x_ar cI a_t_next 400 t_next_r, x_ar cI a_t_pointFlags 200 t_pointFlags_r, x_ar cI a_t_pointX 200 t_pointX_r, x_ar cI a_t_pointY 200 t_pointY_r, x_ar cI a_t_pointZ 200 t_pointZ_r, x_ar cI a_t_series 32 t_series_r] [x_o9 a_t t_p a_t_given s_t_isLaid s_t_isGood a_t_c s_t_points a_t_pointX a_t_pointY a_t_pointZ a_t_pointFlags s_t_flags a_t_flagPoint a_t_flagU a_t_flagV a_t_flagW a_t_next a_t_series a_t_mix a_t_cofactor s_t_formX s_t_formY s_t_formZ a_t_square t_isNought t_sumT t_sumY, x_ar cI a_t_c 4 s_t_c_r, x_ar cI a_t_cofactor 6 s_t_cofactor_r, x_ar cI a_t_flagPoint 400 s_t_flagPoint_r, x_ar cI a_t_flagU 400 s_t_flagU_r, x_ar cI a_t_flagV 400 s_t_flagV_r, x_ar cI a_t_flagW 400 s_t_flagW_r, x_ar cI a_t_given 12 t_given_r, x_ar cI a_t_next 400 s_t_next_r, x_ar cI a_t_pointFlags 200 s_t_pointFlags_r, x_ar cI a_t_pointX 200 s_t_pointX_r, x_ar cI a_t_pointY 200 s_t_pointY_r, x_ar cI a_t_pointZ 200 s_t_pointZ_r, x_ar cI a_t_series 32 s_t_series_r] r := by
  refine x_CI_of (cc := cX9_points) (maxL := 1) (ty := .int) (own := RX9) (lv0 := [(0, .ref a_t)]) (by decide) rfl rfl (Nat.le_of_ble_eq_true rfl) rfl ?_
  intro p e s m args below meth c A Q ls hx hb hml hown hts hN hK hP hD hS hA hl hret
  have iX9 : ∀ w ∈ u_ws RX9 TX9 26, w ∈ wsX9_points := by decide +kernel
  have l137 := hts (.fieldLink RX9 137 "ChordRingsModel" "points" "I") (by decide +kernel)
  unfold fX9_points at hf
  refine lv_aload_n hx hb dX9_points_0 rfl (lv_at hl 0 rfl) ?_
  obtain ⟨v1, v2, v3, v4, v5, v6, v7, v8, u9, u10, u11, u12, u13, u14, u15, u16, u17, u18, u19, u20, hv1, hf⟩ := o_b20 hf
  refine x_vi (rest := []) (W1 := [x_o9 a_t t_p a_t_given v7 v6 a_t_c v8 a_t_pointX a_t_pointY a_t_pointZ a_t_pointFlags v2 a_t_flagPoint a_t_flagU a_t_flagV a_t_flagW a_t_next a_t_series a_t_mix a_t_cofactor v3 v4 v5 a_t_square t_isNought t_sumT t_sumY, x_ar cI a_t_c 4 u9, x_ar cI a_t_cofactor 6 u10, x_ar cI a_t_flagPoint 400 u11, x_ar cI a_t_flagU 400 u12, x_ar cI a_t_flagV 400 u13, x_ar cI a_t_flagW 400 u14, x_ar cI a_t_given 12 t_given_r, x_ar cI a_t_next 400 u15, x_ar cI a_t_pointFlags 200 u16, x_ar cI a_t_pointX 200 u17, x_ar cI a_t_pointY 200 u18, x_ar cI a_t_pointZ 200 u19, x_ar cI a_t_series 32 u20]) ⟨hx, hb, hml, hown, hts⟩ (tX9_isGood l D cI a_t a_t_given a_t_c a_t_pointX a_t_pointY a_t_pointZ a_t_pointFlags a_t_flagPoint a_t_flagU a_t_flagV a_t_flagW a_t_next a_t_series a_t_mix a_t_cofactor a_t_square t_p t_isLaid t_isGood t_points t_flags t_formX t_formY t_formZ t_isNought t_sumT t_sumY t_c_r t_cofactor_r t_flagPoint_r t_flagU_r t_flagV_r t_flagW_r t_given_r t_next_r t_pointFlags_r t_pointX_r t_pointY_r t_pointZ_r t_series_r v1 v2 v3 v4 v5 v6 v7 v8 u9 u10 u11 u12 u13 u14 u15 u16 u17 u18 u19 u20 hv1) (cwV 0 hts gX9_points_X9_isGood rfl rfl rfl (by decide +kernel) ⟨Nat.le_of_ble_eq_true rfl, Nat.le_of_ble_eq_true rfl⟩) hN hK hP hD hS hA [0, 1, 2, 3, 4, 5, 6, 7, 8, 9, 10, 11, 12, 13] [some 0, some 1, some 2, some 3, some 4, some 5, some 6, some 7, some 8, some 9, some 10, some 11, some 12, some 13] rfl rfl rfl rfl rfl rfl 0 rfl rfl rfl hl.1 rfl (Nat.le_of_ble_eq_true rfl) dX9_points_1 ⟨Nat.zero_le _, Nat.zero_le _⟩ (fun H locs hP hD hS => ?_)
  refine lv_if_eq (tgt := 14) hx hb dX9_points_4 (by decide) (fun hc => ?_) (fun hc => ?_)
  · have hf := o_t hf hc
    refine lv_bipush (v := (-5)) hx hb dX9_points_14 (by decide) ?_
    obtain ⟨rfl, rfl, rfl, rfl, rfl, rfl, rfl, rfl, rfl, rfl, rfl, rfl, rfl, rfl, rfl, rfl, rfl, rfl, rfl, rfl⟩ := o_s20 hf
    exact hret rfl rfl dX9_points_16 hP hD hS
  · have hf := o_f hf hc
    refine lv_aload_n hx hb dX9_points_7 rfl (lv_at hl 0 rfl) ?_
    refine va_get (D := D) (ci := 9) (C := RX9) (T := TX9) (N := 26) hx hb hts iX9 hown hK hP 0 rfl rfl 5 (by decide) l137 (fun _ h9 => h9) rfl dX9_points_8 ?_
    refine lv_goto (tgt := 16) hx hb dX9_points_11 (by decide) ?_
    obtain ⟨rfl, rfl, rfl, rfl, rfl, rfl, rfl, rfl, rfl, rfl, rfl, rfl, rfl, rfl, rfl, rfl, rfl, rfl, rfl, rfl⟩ := o_s20 hf
    exact hret rfl rfl dX9_points_16 hP hD hS
noncomputable def fX9_point (t_flags : Int32) (t_formX : Int32) (t_formY : Int32) (t_formZ : Int32) (t_isGood : Int32) (t_isLaid : Int32) (t_p : Int32) (t_points : Int32) (t_c_r : (Nat → Int32)) (t_cofactor_r : (Nat → Int32)) (t_flagPoint_r : (Nat → Int32)) (t_flagU_r : (Nat → Int32)) (t_flagV_r : (Nat → Int32)) (t_flagW_r : (Nat → Int32)) (t_given_r : (Nat → Int32)) (t_next_r : (Nat → Int32)) (t_pointFlags_r : (Nat → Int32)) (t_pointX_r : (Nat → Int32)) (t_pointY_r : (Nat → Int32)) (t_pointZ_r : (Nat → Int32)) (t_series_r : (Nat → Int32)) (i1 : Int32) (i2 : Int32) : Option (Int32 × Int32 × Int32 × Int32 × Int32 × Int32 × Int32 × Int32 × (Nat → Int32) × (Nat → Int32) × (Nat → Int32) × (Nat → Int32) × (Nat → Int32) × (Nat → Int32) × (Nat → Int32) × (Nat → Int32) × (Nat → Int32) × (Nat → Int32) × (Nat → Int32) × (Nat → Int32)) :=
  p_b20 (fX9_isGood t_flags t_formX t_formY t_formZ t_isGood t_isLaid t_p t_points t_c_r t_cofactor_r t_flagPoint_r t_flagU_r t_flagV_r t_flagW_r t_given_r t_next_r t_pointFlags_r t_pointX_r t_pointY_r t_pointZ_r t_series_r) (fun v1 v2 v3 v4 v5 v6 v7 v8 u9 u10 u11 u12 u13 u14 u15 u16 u17 u18 u19 u20 =>
if v1 = 0 then (some ((-5), v2, v3, v4, v5, v6, v7, v8, u9, u10, u11, u12, u13, u14, u15, u16, u17, u18, u19, u20)) else (p_b1 (fX9_in i1 0 (v8 - 1)) (fun v21 =>
if v21 = 0 then (some ((-1), v2, v3, v4, v5, v6, v7, v8, u9, u10, u11, u12, u13, u14, u15, u16, u17, u18, u19, u20)) else (if i2 = 0 then (p_b1 (p_ld u17 200 i1) (fun v25 =>
some (v25, v2, v3, v4, v5, v6, v7, v8, u9, u10, u11, u12, u13, u14, u15, u16, u17, u18, u19, u20))) else (if i2 = 1 then (p_b1 (p_ld u18 200 i1) (fun v24 =>
some (v24, v2, v3, v4, v5, v6, v7, v8, u9, u10, u11, u12, u13, u14, u15, u16, u17, u18, u19, u20))) else (if i2 = 2 then (p_b1 (p_ld u19 200 i1) (fun v23 =>
some (v23, v2, v3, v4, v5, v6, v7, v8, u9, u10, u11, u12, u13, u14, u15, u16, u17, u18, u19, u20))) else (if i2 = 3 then (p_b1 (p_ld u16 200 i1) (fun v22 =>
some (v22, v2, v3, v4, v5, v6, v7, v8, u9, u10, u11, u12, u13, u14, u15, u16, u17, u18, u19, u20))) else (some ((-2), v2, v3, v4, v5, v6, v7, v8, u9, u10, u11, u12, u13, u14, u15, u16, u17, u18, u19, u20)))))))))
def rmX9_point : Room := { frames := 6, cells := 0, slots := 0, locals := 146 }
set_option maxHeartbeats 4000000 in
set_option maxRecDepth 100000 in
theorem tX9_point (l : Launch) (D : va_G) (cI : ClassId) (a_t : Nat) (a_t_given : Nat) (a_t_c : Nat) (a_t_pointX : Nat) (a_t_pointY : Nat) (a_t_pointZ : Nat) (a_t_pointFlags : Nat) (a_t_flagPoint : Nat) (a_t_flagU : Nat) (a_t_flagV : Nat) (a_t_flagW : Nat) (a_t_next : Nat) (a_t_series : Nat) (a_t_mix : Nat) (a_t_cofactor : Nat) (a_t_square : Nat) (t_p : Int32) (t_isLaid : Int32) (t_isGood : Int32) (t_points : Int32) (t_flags : Int32) (t_formX : Int32) (t_formY : Int32) (t_formZ : Int32) (t_isNought : Int32) (t_sumT : Int32) (t_sumY : Int32) (t_c_r : (Nat → Int32)) (t_cofactor_r : (Nat → Int32)) (t_flagPoint_r : (Nat → Int32)) (t_flagU_r : (Nat → Int32)) (t_flagV_r : (Nat → Int32)) (t_flagW_r : (Nat → Int32)) (t_given_r : (Nat → Int32)) (t_next_r : (Nat → Int32)) (t_pointFlags_r : (Nat → Int32)) (t_pointX_r : (Nat → Int32)) (t_pointY_r : (Nat → Int32)) (t_pointZ_r : (Nat → Int32)) (t_series_r : (Nat → Int32)) (i1 : Int32) (i2 : Int32) (r : Int32) (s_t_flags : Int32) (s_t_formX : Int32) (s_t_formY : Int32) (s_t_formZ : Int32) (s_t_isGood : Int32) (s_t_isLaid : Int32) (s_t_points : Int32) (s_t_c_r : (Nat → Int32)) (s_t_cofactor_r : (Nat → Int32)) (s_t_flagPoint_r : (Nat → Int32)) (s_t_flagU_r : (Nat → Int32)) (s_t_flagV_r : (Nat → Int32)) (s_t_flagW_r : (Nat → Int32)) (s_t_next_r : (Nat → Int32)) (s_t_pointFlags_r : (Nat → Int32)) (s_t_pointX_r : (Nat → Int32)) (s_t_pointY_r : (Nat → Int32)) (s_t_pointZ_r : (Nat → Int32)) (s_t_series_r : (Nat → Int32)) (hf : fX9_point t_flags t_formX t_formY t_formZ t_isGood t_isLaid t_p t_points t_c_r t_cofactor_r t_flagPoint_r t_flagU_r t_flagV_r t_flagW_r t_given_r t_next_r t_pointFlags_r t_pointX_r t_pointY_r t_pointZ_r t_series_r i1 i2 = some (r, s_t_flags, s_t_formX, s_t_formY, s_t_formZ, s_t_isGood, s_t_isLaid, s_t_points, s_t_c_r, s_t_cofactor_r, s_t_flagPoint_r, s_t_flagU_r, s_t_flagV_r, s_t_flagW_r, s_t_next_r, s_t_pointFlags_r, s_t_pointX_r, s_t_pointY_r, s_t_pointZ_r, s_t_series_r)) : x_CI l D cI yX9_point wsX9_point rmX9_point [.ref a_t, .int i1, .int i2] [x_o9 a_t t_p a_t_given t_isLaid t_isGood a_t_c t_points a_t_pointX a_t_pointY a_t_pointZ a_t_pointFlags t_flags a_t_flagPoint a_t_flagU a_t_flagV a_t_flagW a_t_next a_t_series a_t_mix a_t_cofactor t_formX t_formY t_formZ a_t_square t_isNought t_sumT t_sumY, x_ar cI a_t_c 4 t_c_r, x_ar cI a_t_cofactor 6 t_cofactor_r, x_ar cI a_t_flagPoint 400 t_flagPoint_r, x_ar cI a_t_flagU 400 t_flagU_r, x_ar cI a_t_flagV 400 t_flagV_r, x_ar cI a_t_flagW 400 t_flagW_r, x_ar cI a_t_given 12 t_given_r, x_ar cI a_t_next 400 t_next_r, x_ar cI a_t_pointFlags 200 t_pointFlags_r, x_ar cI a_t_pointX 200 t_pointX_r, x_ar cI a_t_pointY 200 t_pointY_r, x_ar cI a_t_pointZ 200 t_pointZ_r, x_ar cI a_t_series 32 t_series_r] [x_o9 a_t t_p a_t_given s_t_isLaid s_t_isGood a_t_c s_t_points a_t_pointX a_t_pointY a_t_pointZ a_t_pointFlags s_t_flags a_t_flagPoint a_t_flagU a_t_flagV a_t_flagW a_t_next a_t_series a_t_mix a_t_cofactor s_t_formX s_t_formY s_t_formZ a_t_square t_isNought t_sumT t_sumY, x_ar cI a_t_c 4 s_t_c_r, x_ar cI a_t_cofactor 6 s_t_cofactor_r, x_ar cI a_t_flagPoint 400 s_t_flagPoint_r, x_ar cI a_t_flagU 400 s_t_flagU_r, x_ar cI a_t_flagV 400 s_t_flagV_r, x_ar cI a_t_flagW 400 s_t_flagW_r, x_ar cI a_t_given 12 t_given_r, x_ar cI a_t_next 400 s_t_next_r, x_ar cI a_t_pointFlags 200 s_t_pointFlags_r, x_ar cI a_t_pointX 200 s_t_pointX_r, x_ar cI a_t_pointY 200 s_t_pointY_r, x_ar cI a_t_pointZ 200 s_t_pointZ_r, x_ar cI a_t_series 32 s_t_series_r] r := by
  refine x_CI_of (cc := cX9_point) (maxL := 3) (ty := .int) (own := RX9) (lv0 := [(0, .ref a_t), (1, .int i1), (2, .int i2)]) (by decide) rfl rfl (Nat.le_of_ble_eq_true rfl) rfl ?_
  intro p e s m args below meth c A Q ls hx hb hml hown hts hN hK hP hD hS hA hl hret
  have iX9 : ∀ w ∈ u_ws RX9 TX9 26, w ∈ wsX9_point := by decide +kernel
  have l137 := hts (.fieldLink RX9 137 "ChordRingsModel" "points" "I") (by decide +kernel)
  have l29 := hts (.fieldLink RX9 29 "ChordRingsModel" "pointFlags" "[I") (by decide +kernel)
  have l26 := hts (.fieldLink RX9 26 "ChordRingsModel" "pointZ" "[I") (by decide +kernel)
  have l23 := hts (.fieldLink RX9 23 "ChordRingsModel" "pointY" "[I") (by decide +kernel)
  have l20 := hts (.fieldLink RX9 20 "ChordRingsModel" "pointX" "[I") (by decide +kernel)
  unfold fX9_point at hf
  refine lv_aload_n hx hb dX9_point_0 rfl (lv_at hl 0 rfl) ?_
  obtain ⟨v1, v2, v3, v4, v5, v6, v7, v8, u9, u10, u11, u12, u13, u14, u15, u16, u17, u18, u19, u20, hv1, hf⟩ := o_b20 hf
  refine x_vi (rest := []) (W1 := [x_o9 a_t t_p a_t_given v7 v6 a_t_c v8 a_t_pointX a_t_pointY a_t_pointZ a_t_pointFlags v2 a_t_flagPoint a_t_flagU a_t_flagV a_t_flagW a_t_next a_t_series a_t_mix a_t_cofactor v3 v4 v5 a_t_square t_isNought t_sumT t_sumY, x_ar cI a_t_c 4 u9, x_ar cI a_t_cofactor 6 u10, x_ar cI a_t_flagPoint 400 u11, x_ar cI a_t_flagU 400 u12, x_ar cI a_t_flagV 400 u13, x_ar cI a_t_flagW 400 u14, x_ar cI a_t_given 12 t_given_r, x_ar cI a_t_next 400 u15, x_ar cI a_t_pointFlags 200 u16, x_ar cI a_t_pointX 200 u17, x_ar cI a_t_pointY 200 u18, x_ar cI a_t_pointZ 200 u19, x_ar cI a_t_series 32 u20]) ⟨hx, hb, hml, hown, hts⟩ (tX9_isGood l D cI a_t a_t_given a_t_c a_t_pointX a_t_pointY a_t_pointZ a_t_pointFlags a_t_flagPoint a_t_flagU a_t_flagV a_t_flagW a_t_next a_t_series a_t_mix a_t_cofactor a_t_square t_p t_isLaid t_isGood t_points t_flags t_formX t_formY t_formZ t_isNought t_sumT t_sumY t_c_r t_cofactor_r t_flagPoint_r t_flagU_r t_flagV_r t_flagW_r t_given_r t_next_r t_pointFlags_r t_pointX_r t_pointY_r t_pointZ_r t_series_r v1 v2 v3 v4 v5 v6 v7 v8 u9 u10 u11 u12 u13 u14 u15 u16 u17 u18 u19 u20 hv1) (cwV 0 hts gX9_point_X9_isGood rfl rfl rfl (by decide +kernel) ⟨Nat.le_of_ble_eq_true rfl, Nat.le_of_ble_eq_true rfl⟩) hN hK hP hD hS hA [0, 1, 2, 3, 4, 5, 6, 7, 8, 9, 10, 11, 12, 13] [some 0, some 1, some 2, some 3, some 4, some 5, some 6, some 7, some 8, some 9, some 10, some 11, some 12, some 13] rfl rfl rfl rfl rfl rfl 0 rfl rfl rfl hl.1 rfl (Nat.le_of_ble_eq_true rfl) dX9_point_1 ⟨Nat.zero_le _, Nat.zero_le _⟩ (fun H locs hP hD hS => ?_)
  refine lv_if_ne (tgt := 10) hx hb dX9_point_4 (by decide) (fun hc => ?_) (fun hc => ?_)
  · have hf := o_f hf hc
    refine lv_iload_n hx hb dX9_point_10 rfl (lv_at hl 1 rfl) ?_
    refine lv_iconst (v := 0) hx hb dX9_point_11 (by decide) ?_
    refine lv_aload_n hx hb dX9_point_12 rfl (lv_at hl 0 rfl) ?_
    refine va_get (D := D) (ci := 9) (C := RX9) (T := TX9) (N := 26) hx hb hts iX9 hown hK hP 0 rfl rfl 5 (by decide) l137 (fun _ h9 => h9) rfl dX9_point_13 ?_
    refine lv_iconst (v := 1) hx hb dX9_point_16 (by decide) ?_
    refine lv_isub hx hb dX9_point_17 ?_
    obtain ⟨v21, hv21, hf⟩ := o_b1 hf
    refine x_si (rest := []) ⟨hx, hb, hml, hown, hts⟩ (tX9_in l D cI i1 0 (v8 - 1) v21 hv21) (va_cwS 3 hts gX9_point_X9_in rfl rfl rfl (by decide +kernel) ⟨Nat.le_of_ble_eq_true rfl, Nat.le_of_ble_eq_true rfl⟩) hN hK hP hD hS hA rfl hl.1 rfl (Nat.le_of_ble_eq_true rfl) dX9_point_18 ⟨Nat.zero_le _, Nat.zero_le _⟩ (fun H locs hP hD hS => ?_)
    refine lv_if_ne (tgt := 26) hx hb dX9_point_21 (by decide) (fun hc => ?_) (fun hc => ?_)
    · have hf := o_f hf hc
      refine lv_iload_n hx hb dX9_point_26 rfl (lv_at hl 2 rfl) ?_
      refine lv_if_ne (tgt := 39) hx hb dX9_point_27 (by decide) (fun hc => ?_) (fun hc => ?_)
      · have hf := o_f hf hc
        refine lv_iload_n hx hb dX9_point_39 rfl (lv_at hl 2 rfl) ?_
        refine lv_iconst (v := 1) hx hb dX9_point_40 (by decide) ?_
        refine lv_icmp_ne (tgt := 53) hx hb dX9_point_41 (by decide) (fun hc => ?_) (fun hc => ?_)
        · have hf := o_f hf hc
          refine lv_iload_n hx hb dX9_point_53 rfl (lv_at hl 2 rfl) ?_
          refine lv_iconst (v := 2) hx hb dX9_point_54 (by decide) ?_
          refine lv_icmp_ne (tgt := 67) hx hb dX9_point_55 (by decide) (fun hc => ?_) (fun hc => ?_)
          · have hf := o_f hf hc
            refine lv_iload_n hx hb dX9_point_67 rfl (lv_at hl 2 rfl) ?_
            refine lv_iconst (v := 3) hx hb dX9_point_68 (by decide) ?_
            refine lv_icmp_ne (tgt := 81) hx hb dX9_point_69 (by decide) (fun hc => ?_) (fun hc => ?_)
            · have hf := o_f hf hc
              refine lv_bipush (v := (-2)) hx hb dX9_point_81 (by decide) ?_
              obtain ⟨rfl, rfl, rfl, rfl, rfl, rfl, rfl, rfl, rfl, rfl, rfl, rfl, rfl, rfl, rfl, rfl, rfl, rfl, rfl, rfl⟩ := o_s20 hf
              exact hret rfl rfl dX9_point_83 hP hD hS
            · have hf := o_t hf hc
              refine lv_aload_n hx hb dX9_point_72 rfl (lv_at hl 0 rfl) ?_
              refine va_get (D := D) (ci := 9) (C := RX9) (T := TX9) (N := 26) hx hb hts iX9 hown hK hP 0 rfl rfl 9 (by decide) l29 (fun _ h9 => h9) rfl dX9_point_73 ?_
              refine lv_iload_n hx hb dX9_point_76 rfl (lv_at hl 1 rfl) ?_
              obtain ⟨v22, hv22, hf⟩ := o_b1 hf
              refine x_ald hx hb hK hP 9 rfl hv22 dX9_point_77 ?_
              refine lv_goto (tgt := 83) hx hb dX9_point_78 (by decide) ?_
              obtain ⟨rfl, rfl, rfl, rfl, rfl, rfl, rfl, rfl, rfl, rfl, rfl, rfl, rfl, rfl, rfl, rfl, rfl, rfl, rfl, rfl⟩ := o_s20 hf
              exact hret rfl rfl dX9_point_83 hP hD hS
          · have hf := o_t hf hc
            refine lv_aload_n hx hb dX9_point_58 rfl (lv_at hl 0 rfl) ?_
            refine va_get (D := D) (ci := 9) (C := RX9) (T := TX9) (N := 26) hx hb hts iX9 hown hK hP 0 rfl rfl 8 (by decide) l26 (fun _ h9 => h9) rfl dX9_point_59 ?_
            refine lv_iload_n hx hb dX9_point_62 rfl (lv_at hl 1 rfl) ?_
            obtain ⟨v23, hv23, hf⟩ := o_b1 hf
            refine x_ald hx hb hK hP 12 rfl hv23 dX9_point_63 ?_
            refine lv_goto (tgt := 83) hx hb dX9_point_64 (by decide) ?_
            obtain ⟨rfl, rfl, rfl, rfl, rfl, rfl, rfl, rfl, rfl, rfl, rfl, rfl, rfl, rfl, rfl, rfl, rfl, rfl, rfl, rfl⟩ := o_s20 hf
            exact hret rfl rfl dX9_point_83 hP hD hS
        · have hf := o_t hf hc
          refine lv_aload_n hx hb dX9_point_44 rfl (lv_at hl 0 rfl) ?_
          refine va_get (D := D) (ci := 9) (C := RX9) (T := TX9) (N := 26) hx hb hts iX9 hown hK hP 0 rfl rfl 7 (by decide) l23 (fun _ h9 => h9) rfl dX9_point_45 ?_
          refine lv_iload_n hx hb dX9_point_48 rfl (lv_at hl 1 rfl) ?_
          obtain ⟨v24, hv24, hf⟩ := o_b1 hf
          refine x_ald hx hb hK hP 11 rfl hv24 dX9_point_49 ?_
          refine lv_goto (tgt := 83) hx hb dX9_point_50 (by decide) ?_
          obtain ⟨rfl, rfl, rfl, rfl, rfl, rfl, rfl, rfl, rfl, rfl, rfl, rfl, rfl, rfl, rfl, rfl, rfl, rfl, rfl, rfl⟩ := o_s20 hf
          exact hret rfl rfl dX9_point_83 hP hD hS
      · have hf := o_t hf hc
        refine lv_aload_n hx hb dX9_point_30 rfl (lv_at hl 0 rfl) ?_
        refine va_get (D := D) (ci := 9) (C := RX9) (T := TX9) (N := 26) hx hb hts iX9 hown hK hP 0 rfl rfl 6 (by decide) l20 (fun _ h9 => h9) rfl dX9_point_31 ?_
        refine lv_iload_n hx hb dX9_point_34 rfl (lv_at hl 1 rfl) ?_
        obtain ⟨v25, hv25, hf⟩ := o_b1 hf
        refine x_ald hx hb hK hP 10 rfl hv25 dX9_point_35 ?_
        refine lv_goto (tgt := 83) hx hb dX9_point_36 (by decide) ?_
        obtain ⟨rfl, rfl, rfl, rfl, rfl, rfl, rfl, rfl, rfl, rfl, rfl, rfl, rfl, rfl, rfl, rfl, rfl, rfl, rfl, rfl⟩ := o_s20 hf
        exact hret rfl rfl dX9_point_83 hP hD hS
    · have hf := o_t hf hc
      refine lv_iconst (v := (-1)) hx hb dX9_point_24 (by decide) ?_
      obtain ⟨rfl, rfl, rfl, rfl, rfl, rfl, rfl, rfl, rfl, rfl, rfl, rfl, rfl, rfl, rfl, rfl, rfl, rfl, rfl, rfl⟩ := o_s20 hf
      exact hret rfl rfl dX9_point_25 hP hD hS
  · have hf := o_t hf hc
    refine lv_bipush (v := (-5)) hx hb dX9_point_7 (by decide) ?_
    obtain ⟨rfl, rfl, rfl, rfl, rfl, rfl, rfl, rfl, rfl, rfl, rfl, rfl, rfl, rfl, rfl, rfl, rfl, rfl, rfl, rfl⟩ := o_s20 hf
    exact hret rfl rfl dX9_point_9 hP hD hS
noncomputable def fX9_flags (t_flags : Int32) (t_formX : Int32) (t_formY : Int32) (t_formZ : Int32) (t_isGood : Int32) (t_isLaid : Int32) (t_p : Int32) (t_points : Int32) (t_c_r : (Nat → Int32)) (t_cofactor_r : (Nat → Int32)) (t_flagPoint_r : (Nat → Int32)) (t_flagU_r : (Nat → Int32)) (t_flagV_r : (Nat → Int32)) (t_flagW_r : (Nat → Int32)) (t_given_r : (Nat → Int32)) (t_next_r : (Nat → Int32)) (t_pointFlags_r : (Nat → Int32)) (t_pointX_r : (Nat → Int32)) (t_pointY_r : (Nat → Int32)) (t_pointZ_r : (Nat → Int32)) (t_series_r : (Nat → Int32)) : Option (Int32 × Int32 × Int32 × Int32 × Int32 × Int32 × Int32 × Int32 × (Nat → Int32) × (Nat → Int32) × (Nat → Int32) × (Nat → Int32) × (Nat → Int32) × (Nat → Int32) × (Nat → Int32) × (Nat → Int32) × (Nat → Int32) × (Nat → Int32) × (Nat → Int32) × (Nat → Int32)) :=
  p_b20 (fX9_isGood t_flags t_formX t_formY t_formZ t_isGood t_isLaid t_p t_points t_c_r t_cofactor_r t_flagPoint_r t_flagU_r t_flagV_r t_flagW_r t_given_r t_next_r t_pointFlags_r t_pointX_r t_pointY_r t_pointZ_r t_series_r) (fun v1 v2 v3 v4 v5 v6 v7 v8 u9 u10 u11 u12 u13 u14 u15 u16 u17 u18 u19 u20 =>
if v1 = 0 then (some ((-5), v2, v3, v4, v5, v6, v7, v8, u9, u10, u11, u12, u13, u14, u15, u16, u17, u18, u19, u20)) else (some (v2, v2, v3, v4, v5, v6, v7, v8, u9, u10, u11, u12, u13, u14, u15, u16, u17, u18, u19, u20)))
def rmX9_flags : Room := { frames := 6, cells := 0, slots := 0, locals := 146 }
set_option maxHeartbeats 4000000 in
set_option maxRecDepth 100000 in
theorem tX9_flags (l : Launch) (D : va_G) (cI : ClassId) (a_t : Nat) (a_t_given : Nat) (a_t_c : Nat) (a_t_pointX : Nat) (a_t_pointY : Nat) (a_t_pointZ : Nat) (a_t_pointFlags : Nat) (a_t_flagPoint : Nat) (a_t_flagU : Nat) (a_t_flagV : Nat) (a_t_flagW : Nat) (a_t_next : Nat) (a_t_series : Nat) (a_t_mix : Nat) (a_t_cofactor : Nat) (a_t_square : Nat) (t_p : Int32) (t_isLaid : Int32) (t_isGood : Int32) (t_points : Int32) (t_flags : Int32) (t_formX : Int32) (t_formY : Int32) (t_formZ : Int32) (t_isNought : Int32) (t_sumT : Int32) (t_sumY : Int32) (t_c_r : (Nat → Int32)) (t_cofactor_r : (Nat → Int32)) (t_flagPoint_r : (Nat → Int32)) (t_flagU_r : (Nat → Int32)) (t_flagV_r : (Nat → Int32)) (t_flagW_r : (Nat → Int32)) (t_given_r : (Nat → Int32)) (t_next_r : (Nat → Int32)) (t_pointFlags_r : (Nat → Int32)) (t_pointX_r : (Nat → Int32)) (t_pointY_r : (Nat → Int32)) (t_pointZ_r : (Nat → Int32)) (t_series_r : (Nat → Int32)) (r : Int32) (s_t_flags : Int32) (s_t_formX : Int32) (s_t_formY : Int32) (s_t_formZ : Int32) (s_t_isGood : Int32) (s_t_isLaid : Int32) (s_t_points : Int32) (s_t_c_r : (Nat → Int32)) (s_t_cofactor_r : (Nat → Int32)) (s_t_flagPoint_r : (Nat → Int32)) (s_t_flagU_r : (Nat → Int32)) (s_t_flagV_r : (Nat → Int32)) (s_t_flagW_r : (Nat → Int32)) (s_t_next_r : (Nat → Int32)) (s_t_pointFlags_r : (Nat → Int32)) (s_t_pointX_r : (Nat → Int32)) (s_t_pointY_r : (Nat → Int32)) (s_t_pointZ_r : (Nat → Int32)) (s_t_series_r : (Nat → Int32)) (hf : fX9_flags t_flags t_formX t_formY t_formZ t_isGood t_isLaid t_p t_points t_c_r t_cofactor_r t_flagPoint_r t_flagU_r t_flagV_r t_flagW_r t_given_r t_next_r t_pointFlags_r t_pointX_r t_pointY_r t_pointZ_r t_series_r = some (r, s_t_flags, s_t_formX, s_t_formY, s_t_formZ, s_t_isGood, s_t_isLaid, s_t_points, s_t_c_r, s_t_cofactor_r, s_t_flagPoint_r, s_t_flagU_r, s_t_flagV_r, s_t_flagW_r, s_t_next_r, s_t_pointFlags_r, s_t_pointX_r, s_t_pointY_r, s_t_pointZ_r, s_t_series_r)) : x_CI l D cI yX9_flags wsX9_flags rmX9_flags [.ref a_t] [x_o9 a_t t_p a_t_given t_isLaid t_isGood a_t_c t_points a_t_pointX a_t_pointY a_t_pointZ a_t_pointFlags t_flags a_t_flagPoint a_t_flagU a_t_flagV a_t_flagW a_t_next a_t_series a_t_mix a_t_cofactor t_formX t_formY t_formZ a_t_square t_isNought t_sumT t_sumY, x_ar cI a_t_c 4 t_c_r, x_ar cI a_t_cofactor 6 t_cofactor_r, x_ar cI a_t_flagPoint 400 t_flagPoint_r, x_ar cI a_t_flagU 400 t_flagU_r, x_ar cI a_t_flagV 400 t_flagV_r, x_ar cI a_t_flagW 400 t_flagW_r, x_ar cI a_t_given 12 t_given_r, x_ar cI a_t_next 400 t_next_r, x_ar cI a_t_pointFlags 200 t_pointFlags_r, x_ar cI a_t_pointX 200 t_pointX_r, x_ar cI a_t_pointY 200 t_pointY_r, x_ar cI a_t_pointZ 200 t_pointZ_r, x_ar cI a_t_series 32 t_series_r] [x_o9 a_t t_p a_t_given s_t_isLaid s_t_isGood a_t_c s_t_points a_t_pointX a_t_pointY a_t_pointZ a_t_pointFlags s_t_flags a_t_flagPoint a_t_flagU a_t_flagV a_t_flagW a_t_next a_t_series a_t_mix a_t_cofactor s_t_formX s_t_formY s_t_formZ a_t_square t_isNought t_sumT t_sumY, x_ar cI a_t_c 4 s_t_c_r, x_ar cI a_t_cofactor 6 s_t_cofactor_r, x_ar cI a_t_flagPoint 400 s_t_flagPoint_r, x_ar cI a_t_flagU 400 s_t_flagU_r, x_ar cI a_t_flagV 400 s_t_flagV_r, x_ar cI a_t_flagW 400 s_t_flagW_r, x_ar cI a_t_given 12 t_given_r, x_ar cI a_t_next 400 s_t_next_r, x_ar cI a_t_pointFlags 200 s_t_pointFlags_r, x_ar cI a_t_pointX 200 s_t_pointX_r, x_ar cI a_t_pointY 200 s_t_pointY_r, x_ar cI a_t_pointZ 200 s_t_pointZ_r, x_ar cI a_t_series 32 s_t_series_r] r := by
  refine x_CI_of (cc := cX9_flags) (maxL := 1) (ty := .int) (own := RX9) (lv0 := [(0, .ref a_t)]) (by decide) rfl rfl (Nat.le_of_ble_eq_true rfl) rfl ?_
  intro p e s m args below meth c A Q ls hx hb hml hown hts hN hK hP hD hS hA hl hret
  have iX9 : ∀ w ∈ u_ws RX9 TX9 26, w ∈ wsX9_flags := by decide +kernel
  have l140 := hts (.fieldLink RX9 140 "ChordRingsModel" "flags" "I") (by decide +kernel)
  unfold fX9_flags at hf
  refine lv_aload_n hx hb dX9_flags_0 rfl (lv_at hl 0 rfl) ?_
  obtain ⟨v1, v2, v3, v4, v5, v6, v7, v8, u9, u10, u11, u12, u13, u14, u15, u16, u17, u18, u19, u20, hv1, hf⟩ := o_b20 hf
  refine x_vi (rest := []) (W1 := [x_o9 a_t t_p a_t_given v7 v6 a_t_c v8 a_t_pointX a_t_pointY a_t_pointZ a_t_pointFlags v2 a_t_flagPoint a_t_flagU a_t_flagV a_t_flagW a_t_next a_t_series a_t_mix a_t_cofactor v3 v4 v5 a_t_square t_isNought t_sumT t_sumY, x_ar cI a_t_c 4 u9, x_ar cI a_t_cofactor 6 u10, x_ar cI a_t_flagPoint 400 u11, x_ar cI a_t_flagU 400 u12, x_ar cI a_t_flagV 400 u13, x_ar cI a_t_flagW 400 u14, x_ar cI a_t_given 12 t_given_r, x_ar cI a_t_next 400 u15, x_ar cI a_t_pointFlags 200 u16, x_ar cI a_t_pointX 200 u17, x_ar cI a_t_pointY 200 u18, x_ar cI a_t_pointZ 200 u19, x_ar cI a_t_series 32 u20]) ⟨hx, hb, hml, hown, hts⟩ (tX9_isGood l D cI a_t a_t_given a_t_c a_t_pointX a_t_pointY a_t_pointZ a_t_pointFlags a_t_flagPoint a_t_flagU a_t_flagV a_t_flagW a_t_next a_t_series a_t_mix a_t_cofactor a_t_square t_p t_isLaid t_isGood t_points t_flags t_formX t_formY t_formZ t_isNought t_sumT t_sumY t_c_r t_cofactor_r t_flagPoint_r t_flagU_r t_flagV_r t_flagW_r t_given_r t_next_r t_pointFlags_r t_pointX_r t_pointY_r t_pointZ_r t_series_r v1 v2 v3 v4 v5 v6 v7 v8 u9 u10 u11 u12 u13 u14 u15 u16 u17 u18 u19 u20 hv1) (cwV 0 hts gX9_flags_X9_isGood rfl rfl rfl (by decide +kernel) ⟨Nat.le_of_ble_eq_true rfl, Nat.le_of_ble_eq_true rfl⟩) hN hK hP hD hS hA [0, 1, 2, 3, 4, 5, 6, 7, 8, 9, 10, 11, 12, 13] [some 0, some 1, some 2, some 3, some 4, some 5, some 6, some 7, some 8, some 9, some 10, some 11, some 12, some 13] rfl rfl rfl rfl rfl rfl 0 rfl rfl rfl hl.1 rfl (Nat.le_of_ble_eq_true rfl) dX9_flags_1 ⟨Nat.zero_le _, Nat.zero_le _⟩ (fun H locs hP hD hS => ?_)
  refine lv_if_eq (tgt := 14) hx hb dX9_flags_4 (by decide) (fun hc => ?_) (fun hc => ?_)
  · have hf := o_t hf hc
    refine lv_bipush (v := (-5)) hx hb dX9_flags_14 (by decide) ?_
    obtain ⟨rfl, rfl, rfl, rfl, rfl, rfl, rfl, rfl, rfl, rfl, rfl, rfl, rfl, rfl, rfl, rfl, rfl, rfl, rfl, rfl⟩ := o_s20 hf
    exact hret rfl rfl dX9_flags_16 hP hD hS
  · have hf := o_f hf hc
    refine lv_aload_n hx hb dX9_flags_7 rfl (lv_at hl 0 rfl) ?_
    refine va_get (D := D) (ci := 9) (C := RX9) (T := TX9) (N := 26) hx hb hts iX9 hown hK hP 0 rfl rfl 10 (by decide) l140 (fun _ h9 => h9) rfl dX9_flags_8 ?_
    refine lv_goto (tgt := 16) hx hb dX9_flags_11 (by decide) ?_
    obtain ⟨rfl, rfl, rfl, rfl, rfl, rfl, rfl, rfl, rfl, rfl, rfl, rfl, rfl, rfl, rfl, rfl, rfl, rfl, rfl, rfl⟩ := o_s20 hf
    exact hret rfl rfl dX9_flags_16 hP hD hS
noncomputable def fX9_isFlag (t_flags : Int32) (i1 : Int32) : Option (Int32) :=
  p_b1 (fX9_in i1 0 (t_flags - 1)) (fun v1 =>
p_b1 (p_bz v1) (fun v2 =>
some v2))
def rmX9_isFlag : Room := { frames := 1, cells := 0, slots := 0, locals := 22 }
set_option maxHeartbeats 4000000 in
set_option maxRecDepth 100000 in
theorem tX9_isFlag (l : Launch) (D : va_G) (cI : ClassId) (a_t : Nat) (a_t_given : Nat) (a_t_c : Nat) (a_t_pointX : Nat) (a_t_pointY : Nat) (a_t_pointZ : Nat) (a_t_pointFlags : Nat) (a_t_flagPoint : Nat) (a_t_flagU : Nat) (a_t_flagV : Nat) (a_t_flagW : Nat) (a_t_next : Nat) (a_t_series : Nat) (a_t_mix : Nat) (a_t_cofactor : Nat) (a_t_square : Nat) (t_p : Int32) (t_isLaid : Int32) (t_isGood : Int32) (t_points : Int32) (t_flags : Int32) (t_formX : Int32) (t_formY : Int32) (t_formZ : Int32) (t_isNought : Int32) (t_sumT : Int32) (t_sumY : Int32) (i1 : Int32) (r : Int32) (hf : fX9_isFlag t_flags i1 = some r) : x_CI l D cI yX9_isFlag wsX9_isFlag rmX9_isFlag [.ref a_t, .int i1] [x_o9 a_t t_p a_t_given t_isLaid t_isGood a_t_c t_points a_t_pointX a_t_pointY a_t_pointZ a_t_pointFlags t_flags a_t_flagPoint a_t_flagU a_t_flagV a_t_flagW a_t_next a_t_series a_t_mix a_t_cofactor t_formX t_formY t_formZ a_t_square t_isNought t_sumT t_sumY] [x_o9 a_t t_p a_t_given t_isLaid t_isGood a_t_c t_points a_t_pointX a_t_pointY a_t_pointZ a_t_pointFlags t_flags a_t_flagPoint a_t_flagU a_t_flagV a_t_flagW a_t_next a_t_series a_t_mix a_t_cofactor t_formX t_formY t_formZ a_t_square t_isNought t_sumT t_sumY] r := by
  refine x_CI_of (cc := cX9_isFlag) (maxL := 2) (ty := .boolean) (own := RX9) (lv0 := [(0, .ref a_t), (1, .int i1)]) (by decide) rfl rfl (Nat.le_of_ble_eq_true rfl) rfl ?_
  intro p e s m args below meth c A Q ls hx hb hml hown hts hN hK hP hD hS hA hl hret
  have iX9 : ∀ w ∈ u_ws RX9 TX9 26, w ∈ wsX9_isFlag := by decide +kernel
  have l140 := hts (.fieldLink RX9 140 "ChordRingsModel" "flags" "I") (by decide +kernel)
  unfold fX9_isFlag at hf
  refine lv_iload_n hx hb dX9_isFlag_0 rfl (lv_at hl 1 rfl) ?_
  refine lv_iconst (v := 0) hx hb dX9_isFlag_1 (by decide) ?_
  refine lv_aload_n hx hb dX9_isFlag_2 rfl (lv_at hl 0 rfl) ?_
  refine va_get (D := D) (ci := 9) (C := RX9) (T := TX9) (N := 26) hx hb hts iX9 hown hK hP 0 rfl rfl 10 (by decide) l140 (fun _ h9 => h9) rfl dX9_isFlag_3 ?_
  refine lv_iconst (v := 1) hx hb dX9_isFlag_6 (by decide) ?_
  refine lv_isub hx hb dX9_isFlag_7 ?_
  obtain ⟨v1, hv1, hf⟩ := o_b1 hf
  refine x_si (rest := []) ⟨hx, hb, hml, hown, hts⟩ (tX9_in l D cI i1 0 (t_flags - 1) v1 hv1) (va_cwS 3 hts gX9_isFlag_X9_in rfl rfl rfl (by decide +kernel) ⟨Nat.le_of_ble_eq_true rfl, Nat.le_of_ble_eq_true rfl⟩) hN hK hP hD hS hA rfl hl.1 rfl (Nat.le_of_ble_eq_true rfl) dX9_isFlag_8 ⟨Nat.zero_le _, Nat.zero_le _⟩ (fun H locs hP hD hS => ?_)
  obtain ⟨v2, hv2, hf⟩ := o_b1 hf
  obtain ⟨ev2, hnv2, -⟩ := o_bz hv2
  refine x_top ev2.symm ?_
  rw [ev2] at hnv2
  obtain rfl := Option.some.inj hf
  exact hret rfl hnv2 dX9_isFlag_11 hP hD hS
noncomputable def kX9_ahead_35 (y3 : Int32) : Option (Int32) :=
  some y3
noncomputable def jX9_ahead_28 (x2 : Int32) (rec5 : Int32 → Int32 → Option (Int32)) (y5 : Int32) : Option (Int32) :=
  p_nm (x2 + 1) (fun v6 =>
rec5 y5 v6)
noncomputable def FgX9_ahead_5 (t_flags : Int32) (t_next_r : (Nat → Int32)) (i1 : Int32) (rec5 : Int32 → Int32 → Option (Int32)) (kk5 : Int32 → Option (Int32)) (x1 : Int32) (x2 : Int32) : Option (Int32) :=
  if t_flags ≤ x2 then (kk5 x1) else (p_b1 (p_ld t_next_r 400 x2) (fun v4 =>
if v4 = i1 then (jX9_ahead_28 x2 rec5 x2) else (jX9_ahead_28 x2 rec5 x1)))
noncomputable def gX9_ahead_5 (t_flags : Int32) (t_next_r : (Nat → Int32)) (i1 : Int32) (kk5 : Int32 → Option (Int32)) (n : Nat) : Int32 → Int32 → Option (Int32) := Nat.rec (motive := fun _ => Int32 → Int32 → Option (Int32)) (fun _ _ => none) (fun _ rec5 => FgX9_ahead_5 t_flags t_next_r i1 rec5 kk5) n
noncomputable def fX9_ahead (t_flags : Int32) (t_next_r : (Nat → Int32)) (i1 : Int32) : Option (Int32) :=
  gX9_ahead_5 t_flags t_next_r i1 (kX9_ahead_35) p_FU (-6) 0
def rmX9_ahead : Room := { frames := 0, cells := 0, slots := 0, locals := 0 }
set_option maxHeartbeats 4000000 in
set_option maxRecDepth 100000 in
theorem tX9_ahead (l : Launch) (D : va_G) (cI : ClassId) (a_t : Nat) (a_t_given : Nat) (a_t_c : Nat) (a_t_pointX : Nat) (a_t_pointY : Nat) (a_t_pointZ : Nat) (a_t_pointFlags : Nat) (a_t_flagPoint : Nat) (a_t_flagU : Nat) (a_t_flagV : Nat) (a_t_flagW : Nat) (a_t_next : Nat) (a_t_series : Nat) (a_t_mix : Nat) (a_t_cofactor : Nat) (a_t_square : Nat) (t_p : Int32) (t_isLaid : Int32) (t_isGood : Int32) (t_points : Int32) (t_flags : Int32) (t_formX : Int32) (t_formY : Int32) (t_formZ : Int32) (t_isNought : Int32) (t_sumT : Int32) (t_sumY : Int32) (t_next_r : (Nat → Int32)) (i1 : Int32) (r : Int32) (hf : fX9_ahead t_flags t_next_r i1 = some r) : x_CI l D cI yX9_ahead wsX9_ahead rmX9_ahead [.ref a_t, .int i1] [x_o9 a_t t_p a_t_given t_isLaid t_isGood a_t_c t_points a_t_pointX a_t_pointY a_t_pointZ a_t_pointFlags t_flags a_t_flagPoint a_t_flagU a_t_flagV a_t_flagW a_t_next a_t_series a_t_mix a_t_cofactor t_formX t_formY t_formZ a_t_square t_isNought t_sumT t_sumY, x_ar cI a_t_next 400 t_next_r] [x_o9 a_t t_p a_t_given t_isLaid t_isGood a_t_c t_points a_t_pointX a_t_pointY a_t_pointZ a_t_pointFlags t_flags a_t_flagPoint a_t_flagU a_t_flagV a_t_flagW a_t_next a_t_series a_t_mix a_t_cofactor t_formX t_formY t_formZ a_t_square t_isNought t_sumT t_sumY, x_ar cI a_t_next 400 t_next_r] r := by
  refine x_CI_of (cc := cX9_ahead) (maxL := 4) (ty := .int) (own := RX9) (lv0 := [(0, .ref a_t), (1, .int i1)]) (by decide) rfl rfl (Nat.le_of_ble_eq_true rfl) rfl ?_
  intro p e s m args below meth c A Q ls hx hb hml hown hts hN hK hP hD hS hA hl hret
  have iX9 : ∀ w ∈ u_ws RX9 TX9 26, w ∈ wsX9_ahead := by decide +kernel
  have l140 := hts (.fieldLink RX9 140 "ChordRingsModel" "flags" "I") (by decide +kernel)
  have l44 := hts (.fieldLink RX9 44 "ChordRingsModel" "next" "[I") (by decide +kernel)
  unfold fX9_ahead at hf
  refine lv_bipush (v := (-6)) hx hb dX9_ahead_0 (by decide) ?_
  refine lv_istore_n (lv' := [(2, .int (-6)), (0, .ref a_t), (1, .int i1)]) hx hb dX9_ahead_2 rfl hl (by decide) rfl (fun ls hl => ?_)
  refine lv_iconst (v := 0) hx hb dX9_ahead_3 (by decide) ?_
  refine lv_istore_n (lv' := [(3, .int 0), (2, .int (-6)), (0, .ref a_t), (1, .int i1)]) hx hb dX9_ahead_4 rfl hl (by decide) rfl (fun ls hl => ?_)
  have L5 : ∀ (n : Nat) (x1 : Int32) (x2 : Int32) (ls : Array Slot) (H : Heap) (locs : List Loc), gX9_ahead_5 t_flags t_next_r i1 (kX9_ahead_35) n x1 x2 = some r → lv_has ls 4 [(0, .ref a_t), (1, .int i1), (2, .int x1), (3, .int x2)] → va_P D vwCl [x_o9 a_t t_p a_t_given t_isLaid t_isGood a_t_c t_points a_t_pointX a_t_pointY a_t_pointZ a_t_pointFlags t_flags a_t_flagPoint a_t_flagU a_t_flagV a_t_flagW a_t_next a_t_series a_t_mix a_t_cofactor t_formX t_formY t_formZ a_t_square t_isNought t_sumT t_sumY, x_ar cI a_t_next 400 t_next_r] H → va_D A [x_o9 a_t t_p a_t_given t_isLaid t_isGood a_t_c t_points a_t_pointX a_t_pointY a_t_pointZ a_t_pointFlags t_flags a_t_flagPoint a_t_flagU a_t_flagV a_t_flagW a_t_next a_t_series a_t_mix a_t_cofactor t_formX t_formY t_formZ a_t_square t_isNought t_sumT t_sumY, x_ar cI a_t_next 400 t_next_r] → va_S A s.heap H locs → W p l e rmX9_ahead s m args below meth c H locs 0 0 Q (F0 m 5 ls []) := by
    intro n5
    induction n5 with
    | zero =>
      intro x1 x2 ls H locs hf
      exact nomatch (show (none : Option (Int32)) = some r from hf)
    | succ n5 ih5 =>
      intro x1 x2 ls H locs hf hl hP hD hS
      have hf : FgX9_ahead_5 t_flags t_next_r i1 (gX9_ahead_5 t_flags t_next_r i1 (kX9_ahead_35) n5) (kX9_ahead_35) x1 x2 = some r := hf
      unfold FgX9_ahead_5 at hf
      refine lv_iload_n hx hb dX9_ahead_5 rfl (lv_at hl 3 rfl) ?_
      refine lv_aload_n hx hb dX9_ahead_6 rfl (lv_at hl 0 rfl) ?_
      refine va_get (D := D) (ci := 9) (C := RX9) (T := TX9) (N := 26) hx hb hts iX9 hown hK hP 0 rfl rfl 10 (by decide) l140 (fun _ h9 => h9) rfl dX9_ahead_7 ?_
      have J35 : ∀ (y3 : Int32) (ls : Array Slot) (H : Heap) (locs : List Loc), kX9_ahead_35 y3 = some r → lv_has ls 4 [(2, .int y3)] → va_P D vwCl [x_o9 a_t t_p a_t_given t_isLaid t_isGood a_t_c t_points a_t_pointX a_t_pointY a_t_pointZ a_t_pointFlags t_flags a_t_flagPoint a_t_flagU a_t_flagV a_t_flagW a_t_next a_t_series a_t_mix a_t_cofactor t_formX t_formY t_formZ a_t_square t_isNought t_sumT t_sumY, x_ar cI a_t_next 400 t_next_r] H → va_D A [x_o9 a_t t_p a_t_given t_isLaid t_isGood a_t_c t_points a_t_pointX a_t_pointY a_t_pointZ a_t_pointFlags t_flags a_t_flagPoint a_t_flagU a_t_flagV a_t_flagW a_t_next a_t_series a_t_mix a_t_cofactor t_formX t_formY t_formZ a_t_square t_isNought t_sumT t_sumY, x_ar cI a_t_next 400 t_next_r] → va_S A s.heap H locs → W p l e rmX9_ahead s m args below meth c H locs 0 0 Q (F0 m 35 ls []) := by
        intro y3 ls H locs hf hl hP hD hS
        unfold kX9_ahead_35 at hf
        refine lv_iload_n hx hb dX9_ahead_35 rfl (lv_at hl 0 rfl) ?_
        obtain rfl := Option.some.inj hf
        exact hret rfl rfl dX9_ahead_36 hP hD hS
      refine lv_icmp_ge (tgt := 35) hx hb dX9_ahead_10 (by decide) (fun hc => ?_) (fun hc => ?_)
      · have hf := o_t hf hc
        exact J35 x1 _ _ _ hf (lv_sub hl [2] rfl) hP hD hS
      · have hf := o_f hf hc
        refine lv_aload_n hx hb dX9_ahead_13 rfl (lv_at hl 0 rfl) ?_
        refine va_get (D := D) (ci := 9) (C := RX9) (T := TX9) (N := 26) hx hb hts iX9 hown hK hP 0 rfl rfl 15 (by decide) l44 (fun _ h9 => h9) rfl dX9_ahead_14 ?_
        refine lv_iload_n hx hb dX9_ahead_17 rfl (lv_at hl 3 rfl) ?_
        obtain ⟨v4, hv4, hf⟩ := o_b1 hf
        refine x_ald hx hb hK hP 1 rfl hv4 dX9_ahead_18 ?_
        refine lv_iload_n hx hb dX9_ahead_19 rfl (lv_at hl 1 rfl) ?_
        have J28 : ∀ (y5 : Int32) (ls : Array Slot) (H : Heap) (locs : List Loc), jX9_ahead_28 x2 (gX9_ahead_5 t_flags t_next_r i1 (kX9_ahead_35) n5) y5 = some r → lv_has ls 4 [(0, .ref a_t), (1, .int i1), (3, .int x2)] → va_P D vwCl [x_o9 a_t t_p a_t_given t_isLaid t_isGood a_t_c t_points a_t_pointX a_t_pointY a_t_pointZ a_t_pointFlags t_flags a_t_flagPoint a_t_flagU a_t_flagV a_t_flagW a_t_next a_t_series a_t_mix a_t_cofactor t_formX t_formY t_formZ a_t_square t_isNought t_sumT t_sumY, x_ar cI a_t_next 400 t_next_r] H → va_D A [x_o9 a_t t_p a_t_given t_isLaid t_isGood a_t_c t_points a_t_pointX a_t_pointY a_t_pointZ a_t_pointFlags t_flags a_t_flagPoint a_t_flagU a_t_flagV a_t_flagW a_t_next a_t_series a_t_mix a_t_cofactor t_formX t_formY t_formZ a_t_square t_isNought t_sumT t_sumY, x_ar cI a_t_next 400 t_next_r] → va_S A s.heap H locs → W p l e rmX9_ahead s m args below meth c H locs 0 0 Q (F0 m 28 ls [.int y5]) := by
          intro y5 ls H locs hf hl hP hD hS
          unfold jX9_ahead_28 at hf
          refine lv_istore_n (lv' := [(2, .int y5), (0, .ref a_t), (1, .int i1), (3, .int x2)]) hx hb dX9_ahead_28 rfl hl (by decide) rfl (fun ls hl => ?_)
          obtain ⟨v6, ev6, hf⟩ := o_nm hf
          refine lv_iinc (v := v6) (lv' := [(3, .int v6), (2, .int y5), (0, .ref a_t), (1, .int i1)]) hx hb dX9_ahead_29 hl (k := 3) rfl (by rw [ev6]; rfl) (by decide) rfl (fun ls hl => ?_)
          refine lv_goto (tgt := 5) hx hb dX9_ahead_32 (by decide) ?_
          exact ih5 y5 v6 _ _ _ hf (lv_sub hl [2, 3, 1, 0] rfl) hP hD hS
        refine lv_icmp_ne (tgt := 27) hx hb dX9_ahead_20 (by decide) (fun hc => ?_) (fun hc => ?_)
        · have hf := o_f hf hc
          refine lv_iload_n hx hb dX9_ahead_27 rfl (lv_at hl 2 rfl) ?_
          exact J28 x1 _ _ _ hf (lv_sub hl [0, 1, 3] rfl) hP hD hS
        · have hf := o_t hf hc
          refine lv_iload_n hx hb dX9_ahead_23 rfl (lv_at hl 3 rfl) ?_
          refine lv_goto (tgt := 28) hx hb dX9_ahead_24 (by decide) ?_
          exact J28 x2 _ _ _ hf (lv_sub hl [0, 1, 3] rfl) hP hD hS
  exact L5 p_FU (-6) 0 _ _ _ hf (lv_sub hl [2, 3, 1, 0] rfl) hP hD hS
noncomputable def fX9_flag (t_flags : Int32) (t_formX : Int32) (t_formY : Int32) (t_formZ : Int32) (t_isGood : Int32) (t_isLaid : Int32) (t_p : Int32) (t_points : Int32) (t_c_r : (Nat → Int32)) (t_cofactor_r : (Nat → Int32)) (t_flagPoint_r : (Nat → Int32)) (t_flagU_r : (Nat → Int32)) (t_flagV_r : (Nat → Int32)) (t_flagW_r : (Nat → Int32)) (t_given_r : (Nat → Int32)) (t_next_r : (Nat → Int32)) (t_pointFlags_r : (Nat → Int32)) (t_pointX_r : (Nat → Int32)) (t_pointY_r : (Nat → Int32)) (t_pointZ_r : (Nat → Int32)) (t_series_r : (Nat → Int32)) (i1 : Int32) (i2 : Int32) : Option (Int32 × Int32 × Int32 × Int32 × Int32 × Int32 × Int32 × Int32 × (Nat → Int32) × (Nat → Int32) × (Nat → Int32) × (Nat → Int32) × (Nat → Int32) × (Nat → Int32) × (Nat → Int32) × (Nat → Int32) × (Nat → Int32) × (Nat → Int32) × (Nat → Int32) × (Nat → Int32)) :=
  p_b20 (fX9_isGood t_flags t_formX t_formY t_formZ t_isGood t_isLaid t_p t_points t_c_r t_cofactor_r t_flagPoint_r t_flagU_r t_flagV_r t_flagW_r t_given_r t_next_r t_pointFlags_r t_pointX_r t_pointY_r t_pointZ_r t_series_r) (fun v1 v2 v3 v4 v5 v6 v7 v8 u9 u10 u11 u12 u13 u14 u15 u16 u17 u18 u19 u20 =>
if v1 = 0 then (some ((-5), v2, v3, v4, v5, v6, v7, v8, u9, u10, u11, u12, u13, u14, u15, u16, u17, u18, u19, u20)) else (p_b1 (fX9_isFlag v2 i1) (fun v21 =>
if v21 = 0 then (some ((-1), v2, v3, v4, v5, v6, v7, v8, u9, u10, u11, u12, u13, u14, u15, u16, u17, u18, u19, u20)) else (if i2 = 0 then (p_b1 (p_ld u11 400 i1) (fun v22 =>
some (v22, v2, v3, v4, v5, v6, v7, v8, u9, u10, u11, u12, u13, u14, u15, u16, u17, u18, u19, u20))) else if i2 = 1 then (p_b1 (p_ld u12 400 i1) (fun v23 =>
some (v23, v2, v3, v4, v5, v6, v7, v8, u9, u10, u11, u12, u13, u14, u15, u16, u17, u18, u19, u20))) else if i2 = 2 then (p_b1 (p_ld u13 400 i1) (fun v24 =>
some (v24, v2, v3, v4, v5, v6, v7, v8, u9, u10, u11, u12, u13, u14, u15, u16, u17, u18, u19, u20))) else if i2 = 3 then (p_b1 (p_ld u14 400 i1) (fun v25 =>
some (v25, v2, v3, v4, v5, v6, v7, v8, u9, u10, u11, u12, u13, u14, u15, u16, u17, u18, u19, u20))) else if i2 = 4 then (p_b1 (p_ld u15 400 i1) (fun v26 =>
some (v26, v2, v3, v4, v5, v6, v7, v8, u9, u10, u11, u12, u13, u14, u15, u16, u17, u18, u19, u20))) else if i2 = 5 then (p_b1 (fX9_ahead v2 u15 i1) (fun v27 =>
some (v27, v2, v3, v4, v5, v6, v7, v8, u9, u10, u11, u12, u13, u14, u15, u16, u17, u18, u19, u20))) else (some ((-2), v2, v3, v4, v5, v6, v7, v8, u9, u10, u11, u12, u13, u14, u15, u16, u17, u18, u19, u20))))))
def rmX9_flag : Room := { frames := 6, cells := 0, slots := 0, locals := 146 }
set_option maxHeartbeats 4000000 in
set_option maxRecDepth 100000 in
theorem tX9_flag (l : Launch) (D : va_G) (cI : ClassId) (a_t : Nat) (a_t_given : Nat) (a_t_c : Nat) (a_t_pointX : Nat) (a_t_pointY : Nat) (a_t_pointZ : Nat) (a_t_pointFlags : Nat) (a_t_flagPoint : Nat) (a_t_flagU : Nat) (a_t_flagV : Nat) (a_t_flagW : Nat) (a_t_next : Nat) (a_t_series : Nat) (a_t_mix : Nat) (a_t_cofactor : Nat) (a_t_square : Nat) (t_p : Int32) (t_isLaid : Int32) (t_isGood : Int32) (t_points : Int32) (t_flags : Int32) (t_formX : Int32) (t_formY : Int32) (t_formZ : Int32) (t_isNought : Int32) (t_sumT : Int32) (t_sumY : Int32) (t_c_r : (Nat → Int32)) (t_cofactor_r : (Nat → Int32)) (t_flagPoint_r : (Nat → Int32)) (t_flagU_r : (Nat → Int32)) (t_flagV_r : (Nat → Int32)) (t_flagW_r : (Nat → Int32)) (t_given_r : (Nat → Int32)) (t_next_r : (Nat → Int32)) (t_pointFlags_r : (Nat → Int32)) (t_pointX_r : (Nat → Int32)) (t_pointY_r : (Nat → Int32)) (t_pointZ_r : (Nat → Int32)) (t_series_r : (Nat → Int32)) (i1 : Int32) (i2 : Int32) (r : Int32) (s_t_flags : Int32) (s_t_formX : Int32) (s_t_formY : Int32) (s_t_formZ : Int32) (s_t_isGood : Int32) (s_t_isLaid : Int32) (s_t_points : Int32) (s_t_c_r : (Nat → Int32)) (s_t_cofactor_r : (Nat → Int32)) (s_t_flagPoint_r : (Nat → Int32)) (s_t_flagU_r : (Nat → Int32)) (s_t_flagV_r : (Nat → Int32)) (s_t_flagW_r : (Nat → Int32)) (s_t_next_r : (Nat → Int32)) (s_t_pointFlags_r : (Nat → Int32)) (s_t_pointX_r : (Nat → Int32)) (s_t_pointY_r : (Nat → Int32)) (s_t_pointZ_r : (Nat → Int32)) (s_t_series_r : (Nat → Int32)) (hf : fX9_flag t_flags t_formX t_formY t_formZ t_isGood t_isLaid t_p t_points t_c_r t_cofactor_r t_flagPoint_r t_flagU_r t_flagV_r t_flagW_r t_given_r t_next_r t_pointFlags_r t_pointX_r t_pointY_r t_pointZ_r t_series_r i1 i2 = some (r, s_t_flags, s_t_formX, s_t_formY, s_t_formZ, s_t_isGood, s_t_isLaid, s_t_points, s_t_c_r, s_t_cofactor_r, s_t_flagPoint_r, s_t_flagU_r, s_t_flagV_r, s_t_flagW_r, s_t_next_r, s_t_pointFlags_r, s_t_pointX_r, s_t_pointY_r, s_t_pointZ_r, s_t_series_r)) : x_CI l D cI yX9_flag wsX9_flag rmX9_flag [.ref a_t, .int i1, .int i2] [x_o9 a_t t_p a_t_given t_isLaid t_isGood a_t_c t_points a_t_pointX a_t_pointY a_t_pointZ a_t_pointFlags t_flags a_t_flagPoint a_t_flagU a_t_flagV a_t_flagW a_t_next a_t_series a_t_mix a_t_cofactor t_formX t_formY t_formZ a_t_square t_isNought t_sumT t_sumY, x_ar cI a_t_c 4 t_c_r, x_ar cI a_t_cofactor 6 t_cofactor_r, x_ar cI a_t_flagPoint 400 t_flagPoint_r, x_ar cI a_t_flagU 400 t_flagU_r, x_ar cI a_t_flagV 400 t_flagV_r, x_ar cI a_t_flagW 400 t_flagW_r, x_ar cI a_t_given 12 t_given_r, x_ar cI a_t_next 400 t_next_r, x_ar cI a_t_pointFlags 200 t_pointFlags_r, x_ar cI a_t_pointX 200 t_pointX_r, x_ar cI a_t_pointY 200 t_pointY_r, x_ar cI a_t_pointZ 200 t_pointZ_r, x_ar cI a_t_series 32 t_series_r] [x_o9 a_t t_p a_t_given s_t_isLaid s_t_isGood a_t_c s_t_points a_t_pointX a_t_pointY a_t_pointZ a_t_pointFlags s_t_flags a_t_flagPoint a_t_flagU a_t_flagV a_t_flagW a_t_next a_t_series a_t_mix a_t_cofactor s_t_formX s_t_formY s_t_formZ a_t_square t_isNought t_sumT t_sumY, x_ar cI a_t_c 4 s_t_c_r, x_ar cI a_t_cofactor 6 s_t_cofactor_r, x_ar cI a_t_flagPoint 400 s_t_flagPoint_r, x_ar cI a_t_flagU 400 s_t_flagU_r, x_ar cI a_t_flagV 400 s_t_flagV_r, x_ar cI a_t_flagW 400 s_t_flagW_r, x_ar cI a_t_given 12 t_given_r, x_ar cI a_t_next 400 s_t_next_r, x_ar cI a_t_pointFlags 200 s_t_pointFlags_r, x_ar cI a_t_pointX 200 s_t_pointX_r, x_ar cI a_t_pointY 200 s_t_pointY_r, x_ar cI a_t_pointZ 200 s_t_pointZ_r, x_ar cI a_t_series 32 s_t_series_r] r := by
  refine x_CI_of (cc := cX9_flag) (maxL := 3) (ty := .int) (own := RX9) (lv0 := [(0, .ref a_t), (1, .int i1), (2, .int i2)]) (by decide) rfl rfl (Nat.le_of_ble_eq_true rfl) rfl ?_
  intro p e s m args below meth c A Q ls hx hb hml hown hts hN hK hP hD hS hA hl hret
  have iX9 : ∀ w ∈ u_ws RX9 TX9 26, w ∈ wsX9_flag := by decide +kernel
  have l32 := hts (.fieldLink RX9 32 "ChordRingsModel" "flagPoint" "[I") (by decide +kernel)
  have l35 := hts (.fieldLink RX9 35 "ChordRingsModel" "flagU" "[I") (by decide +kernel)
  have l38 := hts (.fieldLink RX9 38 "ChordRingsModel" "flagV" "[I") (by decide +kernel)
  have l41 := hts (.fieldLink RX9 41 "ChordRingsModel" "flagW" "[I") (by decide +kernel)
  have l44 := hts (.fieldLink RX9 44 "ChordRingsModel" "next" "[I") (by decide +kernel)
  unfold fX9_flag at hf
  refine lv_aload_n hx hb dX9_flag_0 rfl (lv_at hl 0 rfl) ?_
  obtain ⟨v1, v2, v3, v4, v5, v6, v7, v8, u9, u10, u11, u12, u13, u14, u15, u16, u17, u18, u19, u20, hv1, hf⟩ := o_b20 hf
  refine x_vi (rest := []) (W1 := [x_o9 a_t t_p a_t_given v7 v6 a_t_c v8 a_t_pointX a_t_pointY a_t_pointZ a_t_pointFlags v2 a_t_flagPoint a_t_flagU a_t_flagV a_t_flagW a_t_next a_t_series a_t_mix a_t_cofactor v3 v4 v5 a_t_square t_isNought t_sumT t_sumY, x_ar cI a_t_c 4 u9, x_ar cI a_t_cofactor 6 u10, x_ar cI a_t_flagPoint 400 u11, x_ar cI a_t_flagU 400 u12, x_ar cI a_t_flagV 400 u13, x_ar cI a_t_flagW 400 u14, x_ar cI a_t_given 12 t_given_r, x_ar cI a_t_next 400 u15, x_ar cI a_t_pointFlags 200 u16, x_ar cI a_t_pointX 200 u17, x_ar cI a_t_pointY 200 u18, x_ar cI a_t_pointZ 200 u19, x_ar cI a_t_series 32 u20]) ⟨hx, hb, hml, hown, hts⟩ (tX9_isGood l D cI a_t a_t_given a_t_c a_t_pointX a_t_pointY a_t_pointZ a_t_pointFlags a_t_flagPoint a_t_flagU a_t_flagV a_t_flagW a_t_next a_t_series a_t_mix a_t_cofactor a_t_square t_p t_isLaid t_isGood t_points t_flags t_formX t_formY t_formZ t_isNought t_sumT t_sumY t_c_r t_cofactor_r t_flagPoint_r t_flagU_r t_flagV_r t_flagW_r t_given_r t_next_r t_pointFlags_r t_pointX_r t_pointY_r t_pointZ_r t_series_r v1 v2 v3 v4 v5 v6 v7 v8 u9 u10 u11 u12 u13 u14 u15 u16 u17 u18 u19 u20 hv1) (cwV 0 hts gX9_flag_X9_isGood rfl rfl rfl (by decide +kernel) ⟨Nat.le_of_ble_eq_true rfl, Nat.le_of_ble_eq_true rfl⟩) hN hK hP hD hS hA [0, 1, 2, 3, 4, 5, 6, 7, 8, 9, 10, 11, 12, 13] [some 0, some 1, some 2, some 3, some 4, some 5, some 6, some 7, some 8, some 9, some 10, some 11, some 12, some 13] rfl rfl rfl rfl rfl rfl 0 rfl rfl rfl hl.1 rfl (Nat.le_of_ble_eq_true rfl) dX9_flag_1 ⟨Nat.zero_le _, Nat.zero_le _⟩ (fun H locs hP hD hS => ?_)
  refine lv_if_ne (tgt := 10) hx hb dX9_flag_4 (by decide) (fun hc => ?_) (fun hc => ?_)
  · have hf := o_f hf hc
    refine lv_aload_n hx hb dX9_flag_10 rfl (lv_at hl 0 rfl) ?_
    refine lv_iload_n hx hb dX9_flag_11 rfl (lv_at hl 1 rfl) ?_
    obtain ⟨v21, hv21, hf⟩ := o_b1 hf
    refine x_vi (rest := []) (W1 := [x_o9 a_t t_p a_t_given v7 v6 a_t_c v8 a_t_pointX a_t_pointY a_t_pointZ a_t_pointFlags v2 a_t_flagPoint a_t_flagU a_t_flagV a_t_flagW a_t_next a_t_series a_t_mix a_t_cofactor v3 v4 v5 a_t_square t_isNought t_sumT t_sumY, x_ar cI a_t_c 4 u9, x_ar cI a_t_cofactor 6 u10, x_ar cI a_t_flagPoint 400 u11, x_ar cI a_t_flagU 400 u12, x_ar cI a_t_flagV 400 u13, x_ar cI a_t_flagW 400 u14, x_ar cI a_t_given 12 t_given_r, x_ar cI a_t_next 400 u15, x_ar cI a_t_pointFlags 200 u16, x_ar cI a_t_pointX 200 u17, x_ar cI a_t_pointY 200 u18, x_ar cI a_t_pointZ 200 u19, x_ar cI a_t_series 32 u20]) ⟨hx, hb, hml, hown, hts⟩ (tX9_isFlag l D cI a_t a_t_given a_t_c a_t_pointX a_t_pointY a_t_pointZ a_t_pointFlags a_t_flagPoint a_t_flagU a_t_flagV a_t_flagW a_t_next a_t_series a_t_mix a_t_cofactor a_t_square t_p v7 v6 v8 v2 v3 v4 v5 t_isNought t_sumT t_sumY i1 v21 hv21) (cwV 1 hts gX9_flag_X9_isFlag rfl rfl rfl (by decide +kernel) ⟨Nat.le_of_ble_eq_true rfl, Nat.le_of_ble_eq_true rfl⟩) hN hK hP hD hS hA [0] [some 0, none, none, none, none, none, none, none, none, none, none, none, none, none] rfl rfl rfl rfl rfl rfl 0 rfl rfl rfl hl.1 rfl (Nat.le_of_ble_eq_true rfl) dX9_flag_12 ⟨Nat.zero_le _, Nat.zero_le _⟩ (fun H locs hP hD hS => ?_)
    refine lv_if_ne (tgt := 20) hx hb dX9_flag_15 (by decide) (fun hc => ?_) (fun hc => ?_)
    · have hf := o_f hf hc
      refine lv_iload_n hx hb dX9_flag_20 rfl (lv_at hl 2 rfl) ?_
      by_cases hc0 : i2 = 0
      · have hf := o_t hf hc0
        refine lv_tableIn (tgt := 60) hx hb dX9_flag_21 (by rw [hc0]; decide) (by rw [hc0]; decide) (by rw [hc0]; rfl) (by decide) ?_
        refine lv_aload_n hx hb dX9_flag_60 rfl (lv_at hl 0 rfl) ?_
        refine va_get (D := D) (ci := 9) (C := RX9) (T := TX9) (N := 26) hx hb hts iX9 hown hK hP 0 rfl rfl 11 (by decide) l32 (fun _ h9 => h9) rfl dX9_flag_61 ?_
        refine lv_iload_n hx hb dX9_flag_64 rfl (lv_at hl 1 rfl) ?_
        obtain ⟨v22, hv22, hf⟩ := o_b1 hf
        refine x_ald hx hb hK hP 3 rfl hv22 dX9_flag_65 ?_
        obtain ⟨rfl, rfl, rfl, rfl, rfl, rfl, rfl, rfl, rfl, rfl, rfl, rfl, rfl, rfl, rfl, rfl, rfl, rfl, rfl, rfl⟩ := o_s20 hf
        exact hret rfl rfl dX9_flag_66 hP hD hS
      have hf := o_f hf hc0
      by_cases hc1 : i2 = 1
      · have hf := o_t hf hc1
        refine lv_tableIn (tgt := 67) hx hb dX9_flag_21 (by rw [hc1]; decide) (by rw [hc1]; decide) (by rw [hc1]; rfl) (by decide) ?_
        refine lv_aload_n hx hb dX9_flag_67 rfl (lv_at hl 0 rfl) ?_
        refine va_get (D := D) (ci := 9) (C := RX9) (T := TX9) (N := 26) hx hb hts iX9 hown hK hP 0 rfl rfl 12 (by decide) l35 (fun _ h9 => h9) rfl dX9_flag_68 ?_
        refine lv_iload_n hx hb dX9_flag_71 rfl (lv_at hl 1 rfl) ?_
        obtain ⟨v23, hv23, hf⟩ := o_b1 hf
        refine x_ald hx hb hK hP 4 rfl hv23 dX9_flag_72 ?_
        obtain ⟨rfl, rfl, rfl, rfl, rfl, rfl, rfl, rfl, rfl, rfl, rfl, rfl, rfl, rfl, rfl, rfl, rfl, rfl, rfl, rfl⟩ := o_s20 hf
        exact hret rfl rfl dX9_flag_73 hP hD hS
      have hf := o_f hf hc1
      by_cases hc2 : i2 = 2
      · have hf := o_t hf hc2
        refine lv_tableIn (tgt := 74) hx hb dX9_flag_21 (by rw [hc2]; decide) (by rw [hc2]; decide) (by rw [hc2]; rfl) (by decide) ?_
        refine lv_aload_n hx hb dX9_flag_74 rfl (lv_at hl 0 rfl) ?_
        refine va_get (D := D) (ci := 9) (C := RX9) (T := TX9) (N := 26) hx hb hts iX9 hown hK hP 0 rfl rfl 13 (by decide) l38 (fun _ h9 => h9) rfl dX9_flag_75 ?_
        refine lv_iload_n hx hb dX9_flag_78 rfl (lv_at hl 1 rfl) ?_
        obtain ⟨v24, hv24, hf⟩ := o_b1 hf
        refine x_ald hx hb hK hP 5 rfl hv24 dX9_flag_79 ?_
        obtain ⟨rfl, rfl, rfl, rfl, rfl, rfl, rfl, rfl, rfl, rfl, rfl, rfl, rfl, rfl, rfl, rfl, rfl, rfl, rfl, rfl⟩ := o_s20 hf
        exact hret rfl rfl dX9_flag_80 hP hD hS
      have hf := o_f hf hc2
      by_cases hc3 : i2 = 3
      · have hf := o_t hf hc3
        refine lv_tableIn (tgt := 81) hx hb dX9_flag_21 (by rw [hc3]; decide) (by rw [hc3]; decide) (by rw [hc3]; rfl) (by decide) ?_
        refine lv_aload_n hx hb dX9_flag_81 rfl (lv_at hl 0 rfl) ?_
        refine va_get (D := D) (ci := 9) (C := RX9) (T := TX9) (N := 26) hx hb hts iX9 hown hK hP 0 rfl rfl 14 (by decide) l41 (fun _ h9 => h9) rfl dX9_flag_82 ?_
        refine lv_iload_n hx hb dX9_flag_85 rfl (lv_at hl 1 rfl) ?_
        obtain ⟨v25, hv25, hf⟩ := o_b1 hf
        refine x_ald hx hb hK hP 6 rfl hv25 dX9_flag_86 ?_
        obtain ⟨rfl, rfl, rfl, rfl, rfl, rfl, rfl, rfl, rfl, rfl, rfl, rfl, rfl, rfl, rfl, rfl, rfl, rfl, rfl, rfl⟩ := o_s20 hf
        exact hret rfl rfl dX9_flag_87 hP hD hS
      have hf := o_f hf hc3
      by_cases hc4 : i2 = 4
      · have hf := o_t hf hc4
        refine lv_tableIn (tgt := 88) hx hb dX9_flag_21 (by rw [hc4]; decide) (by rw [hc4]; decide) (by rw [hc4]; rfl) (by decide) ?_
        refine lv_aload_n hx hb dX9_flag_88 rfl (lv_at hl 0 rfl) ?_
        refine va_get (D := D) (ci := 9) (C := RX9) (T := TX9) (N := 26) hx hb hts iX9 hown hK hP 0 rfl rfl 15 (by decide) l44 (fun _ h9 => h9) rfl dX9_flag_89 ?_
        refine lv_iload_n hx hb dX9_flag_92 rfl (lv_at hl 1 rfl) ?_
        obtain ⟨v26, hv26, hf⟩ := o_b1 hf
        refine x_ald hx hb hK hP 8 rfl hv26 dX9_flag_93 ?_
        obtain ⟨rfl, rfl, rfl, rfl, rfl, rfl, rfl, rfl, rfl, rfl, rfl, rfl, rfl, rfl, rfl, rfl, rfl, rfl, rfl, rfl⟩ := o_s20 hf
        exact hret rfl rfl dX9_flag_94 hP hD hS
      have hf := o_f hf hc4
      by_cases hc5 : i2 = 5
      · have hf := o_t hf hc5
        refine lv_tableIn (tgt := 95) hx hb dX9_flag_21 (by rw [hc5]; decide) (by rw [hc5]; decide) (by rw [hc5]; rfl) (by decide) ?_
        refine lv_aload_n hx hb dX9_flag_95 rfl (lv_at hl 0 rfl) ?_
        refine lv_iload_n hx hb dX9_flag_96 rfl (lv_at hl 1 rfl) ?_
        obtain ⟨v27, hv27, hf⟩ := o_b1 hf
        refine x_vi (rest := []) (W1 := [x_o9 a_t t_p a_t_given v7 v6 a_t_c v8 a_t_pointX a_t_pointY a_t_pointZ a_t_pointFlags v2 a_t_flagPoint a_t_flagU a_t_flagV a_t_flagW a_t_next a_t_series a_t_mix a_t_cofactor v3 v4 v5 a_t_square t_isNought t_sumT t_sumY, x_ar cI a_t_c 4 u9, x_ar cI a_t_cofactor 6 u10, x_ar cI a_t_flagPoint 400 u11, x_ar cI a_t_flagU 400 u12, x_ar cI a_t_flagV 400 u13, x_ar cI a_t_flagW 400 u14, x_ar cI a_t_given 12 t_given_r, x_ar cI a_t_next 400 u15, x_ar cI a_t_pointFlags 200 u16, x_ar cI a_t_pointX 200 u17, x_ar cI a_t_pointY 200 u18, x_ar cI a_t_pointZ 200 u19, x_ar cI a_t_series 32 u20]) ⟨hx, hb, hml, hown, hts⟩ (tX9_ahead l D cI a_t a_t_given a_t_c a_t_pointX a_t_pointY a_t_pointZ a_t_pointFlags a_t_flagPoint a_t_flagU a_t_flagV a_t_flagW a_t_next a_t_series a_t_mix a_t_cofactor a_t_square t_p v7 v6 v8 v2 v3 v4 v5 t_isNought t_sumT t_sumY u15 i1 v27 hv27) (cwV 1 hts gX9_flag_X9_ahead rfl rfl rfl (by decide +kernel) ⟨Nat.le_of_ble_eq_true rfl, Nat.le_of_ble_eq_true rfl⟩) hN hK hP hD hS hA [0, 8] [some 0, none, none, none, none, none, none, none, some 1, none, none, none, none, none] rfl rfl rfl rfl rfl rfl 0 rfl rfl rfl hl.1 rfl (Nat.le_of_ble_eq_true rfl) dX9_flag_97 ⟨Nat.zero_le _, Nat.zero_le _⟩ (fun H locs hP hD hS => ?_)
        obtain ⟨rfl, rfl, rfl, rfl, rfl, rfl, rfl, rfl, rfl, rfl, rfl, rfl, rfl, rfl, rfl, rfl, rfl, rfl, rfl, rfl⟩ := o_s20 hf
        exact hret rfl rfl dX9_flag_100 hP hD hS
      have hf := o_f hf hc5
      refine lv_tableOut (tgt := 101) hx hb dX9_flag_21 (x_out5 hc0 hc1 hc2 hc3 hc4 hc5) (by decide) ?_
      refine lv_bipush (v := (-2)) hx hb dX9_flag_101 (by decide) ?_
      obtain ⟨rfl, rfl, rfl, rfl, rfl, rfl, rfl, rfl, rfl, rfl, rfl, rfl, rfl, rfl, rfl, rfl, rfl, rfl, rfl, rfl⟩ := o_s20 hf
      exact hret rfl rfl dX9_flag_103 hP hD hS
    · have hf := o_t hf hc
      refine lv_iconst (v := (-1)) hx hb dX9_flag_18 (by decide) ?_
      obtain ⟨rfl, rfl, rfl, rfl, rfl, rfl, rfl, rfl, rfl, rfl, rfl, rfl, rfl, rfl, rfl, rfl, rfl, rfl, rfl, rfl⟩ := o_s20 hf
      exact hret rfl rfl dX9_flag_19 hP hD hS
  · have hf := o_t hf hc
    refine lv_bipush (v := (-5)) hx hb dX9_flag_7 (by decide) ?_
    obtain ⟨rfl, rfl, rfl, rfl, rfl, rfl, rfl, rfl, rfl, rfl, rfl, rfl, rfl, rfl, rfl, rfl, rfl, rfl, rfl, rfl⟩ := o_s20 hf
    exact hret rfl rfl dX9_flag_9 hP hD hS
noncomputable def kX9_ringOf_34 (y4 : Int32) : Option (Int32) :=
  some y4
noncomputable def FgX9_ringOf_9 (t_next_r : (Nat → Int32)) (i1 : Int32) (rec9 : Int32 → Int32 → Option (Int32)) (kk9 : Int32 → Option (Int32)) (x2 : Int32) (x3 : Int32) : Option (Int32) :=
  if x3 = i1 then (kk9 x2) else (if 400 < x2 then (kk9 x2) else (p_nm (x2 + 1) (fun v5 =>
p_b1 (p_ld t_next_r 400 x3) (fun v6 =>
rec9 v5 v6))))
noncomputable def gX9_ringOf_9 (t_next_r : (Nat → Int32)) (i1 : Int32) (kk9 : Int32 → Option (Int32)) (n : Nat) : Int32 → Int32 → Option (Int32) := Nat.rec (motive := fun _ => Int32 → Int32 → Option (Int32)) (fun _ _ => none) (fun _ rec9 => FgX9_ringOf_9 t_next_r i1 rec9 kk9) n
noncomputable def fX9_ringOf (t_next_r : (Nat → Int32)) (i1 : Int32) : Option (Int32) :=
  p_b1 (p_ld t_next_r 400 i1) (fun v1 =>
gX9_ringOf_9 t_next_r i1 (kX9_ringOf_34) p_FU 1 v1)
def rmX9_ringOf : Room := { frames := 0, cells := 0, slots := 0, locals := 0 }
set_option maxHeartbeats 4000000 in
set_option maxRecDepth 100000 in
theorem tX9_ringOf (l : Launch) (D : va_G) (cI : ClassId) (a_t : Nat) (a_t_given : Nat) (a_t_c : Nat) (a_t_pointX : Nat) (a_t_pointY : Nat) (a_t_pointZ : Nat) (a_t_pointFlags : Nat) (a_t_flagPoint : Nat) (a_t_flagU : Nat) (a_t_flagV : Nat) (a_t_flagW : Nat) (a_t_next : Nat) (a_t_series : Nat) (a_t_mix : Nat) (a_t_cofactor : Nat) (a_t_square : Nat) (t_p : Int32) (t_isLaid : Int32) (t_isGood : Int32) (t_points : Int32) (t_flags : Int32) (t_formX : Int32) (t_formY : Int32) (t_formZ : Int32) (t_isNought : Int32) (t_sumT : Int32) (t_sumY : Int32) (t_next_r : (Nat → Int32)) (i1 : Int32) (r : Int32) (hf : fX9_ringOf t_next_r i1 = some r) : x_CI l D cI yX9_ringOf wsX9_ringOf rmX9_ringOf [.ref a_t, .int i1] [x_o9 a_t t_p a_t_given t_isLaid t_isGood a_t_c t_points a_t_pointX a_t_pointY a_t_pointZ a_t_pointFlags t_flags a_t_flagPoint a_t_flagU a_t_flagV a_t_flagW a_t_next a_t_series a_t_mix a_t_cofactor t_formX t_formY t_formZ a_t_square t_isNought t_sumT t_sumY, x_ar cI a_t_next 400 t_next_r] [x_o9 a_t t_p a_t_given t_isLaid t_isGood a_t_c t_points a_t_pointX a_t_pointY a_t_pointZ a_t_pointFlags t_flags a_t_flagPoint a_t_flagU a_t_flagV a_t_flagW a_t_next a_t_series a_t_mix a_t_cofactor t_formX t_formY t_formZ a_t_square t_isNought t_sumT t_sumY, x_ar cI a_t_next 400 t_next_r] r := by
  refine x_CI_of (cc := cX9_ringOf) (maxL := 4) (ty := .int) (own := RX9) (lv0 := [(0, .ref a_t), (1, .int i1)]) (by decide) rfl rfl (Nat.le_of_ble_eq_true rfl) rfl ?_
  intro p e s m args below meth c A Q ls hx hb hml hown hts hN hK hP hD hS hA hl hret
  have iX9 : ∀ w ∈ u_ws RX9 TX9 26, w ∈ wsX9_ringOf := by decide +kernel
  have l44 := hts (.fieldLink RX9 44 "ChordRingsModel" "next" "[I") (by decide +kernel)
  unfold fX9_ringOf at hf
  refine lv_iconst (v := 1) hx hb dX9_ringOf_0 (by decide) ?_
  refine lv_istore_n (lv' := [(2, .int 1), (0, .ref a_t), (1, .int i1)]) hx hb dX9_ringOf_1 rfl hl (by decide) rfl (fun ls hl => ?_)
  refine lv_aload_n hx hb dX9_ringOf_2 rfl (lv_at hl 1 rfl) ?_
  refine va_get (D := D) (ci := 9) (C := RX9) (T := TX9) (N := 26) hx hb hts iX9 hown hK hP 0 rfl rfl 15 (by decide) l44 (fun _ h9 => h9) rfl dX9_ringOf_3 ?_
  refine lv_iload_n hx hb dX9_ringOf_6 rfl (lv_at hl 2 rfl) ?_
  obtain ⟨v1, hv1, hf⟩ := o_b1 hf
  refine x_ald hx hb hK hP 1 rfl hv1 dX9_ringOf_7 ?_
  refine lv_istore_n (lv' := [(3, .int v1), (2, .int 1), (0, .ref a_t), (1, .int i1)]) hx hb dX9_ringOf_8 rfl hl (by decide) rfl (fun ls hl => ?_)
  have L9 : ∀ (n : Nat) (x2 : Int32) (x3 : Int32) (ls : Array Slot) (H : Heap) (locs : List Loc), gX9_ringOf_9 t_next_r i1 (kX9_ringOf_34) n x2 x3 = some r → lv_has ls 4 [(0, .ref a_t), (1, .int i1), (2, .int x2), (3, .int x3)] → va_P D vwCl [x_o9 a_t t_p a_t_given t_isLaid t_isGood a_t_c t_points a_t_pointX a_t_pointY a_t_pointZ a_t_pointFlags t_flags a_t_flagPoint a_t_flagU a_t_flagV a_t_flagW a_t_next a_t_series a_t_mix a_t_cofactor t_formX t_formY t_formZ a_t_square t_isNought t_sumT t_sumY, x_ar cI a_t_next 400 t_next_r] H → va_D A [x_o9 a_t t_p a_t_given t_isLaid t_isGood a_t_c t_points a_t_pointX a_t_pointY a_t_pointZ a_t_pointFlags t_flags a_t_flagPoint a_t_flagU a_t_flagV a_t_flagW a_t_next a_t_series a_t_mix a_t_cofactor t_formX t_formY t_formZ a_t_square t_isNought t_sumT t_sumY, x_ar cI a_t_next 400 t_next_r] → va_S A s.heap H locs → W p l e rmX9_ringOf s m args below meth c H locs 0 0 Q (F0 m 9 ls []) := by
    intro n9
    induction n9 with
    | zero =>
      intro x2 x3 ls H locs hf
      exact nomatch (show (none : Option (Int32)) = some r from hf)
    | succ n9 ih9 =>
      intro x2 x3 ls H locs hf hl hP hD hS
      have hf : FgX9_ringOf_9 t_next_r i1 (gX9_ringOf_9 t_next_r i1 (kX9_ringOf_34) n9) (kX9_ringOf_34) x2 x3 = some r := hf
      unfold FgX9_ringOf_9 at hf
      refine lv_iload_n hx hb dX9_ringOf_9 rfl (lv_at hl 3 rfl) ?_
      refine lv_iload_n hx hb dX9_ringOf_10 rfl (lv_at hl 1 rfl) ?_
      have J34 : ∀ (y4 : Int32) (ls : Array Slot) (H : Heap) (locs : List Loc), kX9_ringOf_34 y4 = some r → lv_has ls 4 [(2, .int y4)] → va_P D vwCl [x_o9 a_t t_p a_t_given t_isLaid t_isGood a_t_c t_points a_t_pointX a_t_pointY a_t_pointZ a_t_pointFlags t_flags a_t_flagPoint a_t_flagU a_t_flagV a_t_flagW a_t_next a_t_series a_t_mix a_t_cofactor t_formX t_formY t_formZ a_t_square t_isNought t_sumT t_sumY, x_ar cI a_t_next 400 t_next_r] H → va_D A [x_o9 a_t t_p a_t_given t_isLaid t_isGood a_t_c t_points a_t_pointX a_t_pointY a_t_pointZ a_t_pointFlags t_flags a_t_flagPoint a_t_flagU a_t_flagV a_t_flagW a_t_next a_t_series a_t_mix a_t_cofactor t_formX t_formY t_formZ a_t_square t_isNought t_sumT t_sumY, x_ar cI a_t_next 400 t_next_r] → va_S A s.heap H locs → W p l e rmX9_ringOf s m args below meth c H locs 0 0 Q (F0 m 34 ls []) := by
        intro y4 ls H locs hf hl hP hD hS
        unfold kX9_ringOf_34 at hf
        refine lv_iload_n hx hb dX9_ringOf_34 rfl (lv_at hl 0 rfl) ?_
        obtain rfl := Option.some.inj hf
        exact hret rfl rfl dX9_ringOf_35 hP hD hS
      refine lv_icmp_eq (tgt := 34) hx hb dX9_ringOf_11 (by decide) (fun hc => ?_) (fun hc => ?_)
      · have hf := o_t hf hc
        exact J34 x2 _ _ _ hf (lv_sub hl [2] rfl) hP hD hS
      · have hf := o_f hf hc
        refine lv_iload_n hx hb dX9_ringOf_14 rfl (lv_at hl 2 rfl) ?_
        refine lv_sipush (v := 400) hx hb dX9_ringOf_15 (by decide) ?_
        refine lv_icmp_gt (tgt := 34) hx hb dX9_ringOf_18 (by decide) (fun hc => ?_) (fun hc => ?_)
        · have hf := o_t hf hc
          exact J34 x2 _ _ _ hf (lv_sub hl [2] rfl) hP hD hS
        · have hf := o_f hf hc
          obtain ⟨v5, ev5, hf⟩ := o_nm hf
          refine lv_iinc (v := v5) (lv' := [(2, .int v5), (0, .ref a_t), (1, .int i1), (3, .int x3)]) hx hb dX9_ringOf_21 hl (k := 2) rfl (by rw [ev5]; rfl) (by decide) rfl (fun ls hl => ?_)
          refine lv_aload_n hx hb dX9_ringOf_24 rfl (lv_at hl 1 rfl) ?_
          refine va_get (D := D) (ci := 9) (C := RX9) (T := TX9) (N := 26) hx hb hts iX9 hown hK hP 0 rfl rfl 15 (by decide) l44 (fun _ h9 => h9) rfl dX9_ringOf_25 ?_
          refine lv_iload_n hx hb dX9_ringOf_28 rfl (lv_at hl 3 rfl) ?_
          obtain ⟨v6, hv6, hf⟩ := o_b1 hf
          refine x_ald hx hb hK hP 1 rfl hv6 dX9_ringOf_29 ?_
          refine lv_istore_n (lv' := [(3, .int v6), (2, .int v5), (0, .ref a_t), (1, .int i1)]) hx hb dX9_ringOf_30 rfl hl (by decide) rfl (fun ls hl => ?_)
          refine lv_goto (tgt := 9) hx hb dX9_ringOf_31 (by decide) ?_
          exact ih9 v5 v6 _ _ _ hf (lv_sub hl [2, 3, 1, 0] rfl) hP hD hS
  exact L9 p_FU 1 v1 _ _ _ hf (lv_sub hl [2, 3, 1, 0] rfl) hP hD hS
noncomputable def kX9_onFrom_29 (y5 : Int32) : Option (Int32) :=
  some y5
noncomputable def FgX9_onFrom_11 (t_next_r : (Nat → Int32)) (rec11 : Int32 → Int32 → Option (Int32)) (kk11 : Int32 → Option (Int32)) (x3 : Int32) (x4 : Int32) : Option (Int32) :=
  if x4 ≤ 0 then (kk11 x3) else (p_b1 (p_ld t_next_r 400 x3) (fun v6 =>
p_nm (x4 + (-1)) (fun v7 =>
rec11 v6 v7)))
noncomputable def gX9_onFrom_11 (t_next_r : (Nat → Int32)) (kk11 : Int32 → Option (Int32)) (n : Nat) : Int32 → Int32 → Option (Int32) := Nat.rec (motive := fun _ => Int32 → Int32 → Option (Int32)) (fun _ _ => none) (fun _ rec11 => FgX9_onFrom_11 t_next_r rec11 kk11) n
noncomputable def fX9_onFrom (t_next_r : (Nat → Int32)) (i1 : Int32) (i2 : Int32) : Option (Int32) :=
  p_b1 (fX9_ringOf t_next_r i1) (fun v1 =>
p_b1 (p_rm i2 v1) (fun v2 =>
gX9_onFrom_11 t_next_r (kX9_onFrom_29) p_FU i1 v2))
def rmX9_onFrom : Room := { frames := 1, cells := 0, slots := 0, locals := 23 }
set_option maxHeartbeats 4000000 in
set_option maxRecDepth 100000 in
theorem tX9_onFrom (l : Launch) (D : va_G) (cI : ClassId) (a_t : Nat) (a_t_given : Nat) (a_t_c : Nat) (a_t_pointX : Nat) (a_t_pointY : Nat) (a_t_pointZ : Nat) (a_t_pointFlags : Nat) (a_t_flagPoint : Nat) (a_t_flagU : Nat) (a_t_flagV : Nat) (a_t_flagW : Nat) (a_t_next : Nat) (a_t_series : Nat) (a_t_mix : Nat) (a_t_cofactor : Nat) (a_t_square : Nat) (t_p : Int32) (t_isLaid : Int32) (t_isGood : Int32) (t_points : Int32) (t_flags : Int32) (t_formX : Int32) (t_formY : Int32) (t_formZ : Int32) (t_isNought : Int32) (t_sumT : Int32) (t_sumY : Int32) (t_next_r : (Nat → Int32)) (i1 : Int32) (i2 : Int32) (r : Int32) (hf : fX9_onFrom t_next_r i1 i2 = some r) : x_CI l D cI yX9_onFrom wsX9_onFrom rmX9_onFrom [.ref a_t, .int i1, .int i2] [x_o9 a_t t_p a_t_given t_isLaid t_isGood a_t_c t_points a_t_pointX a_t_pointY a_t_pointZ a_t_pointFlags t_flags a_t_flagPoint a_t_flagU a_t_flagV a_t_flagW a_t_next a_t_series a_t_mix a_t_cofactor t_formX t_formY t_formZ a_t_square t_isNought t_sumT t_sumY, x_ar cI a_t_next 400 t_next_r] [x_o9 a_t t_p a_t_given t_isLaid t_isGood a_t_c t_points a_t_pointX a_t_pointY a_t_pointZ a_t_pointFlags t_flags a_t_flagPoint a_t_flagU a_t_flagV a_t_flagW a_t_next a_t_series a_t_mix a_t_cofactor t_formX t_formY t_formZ a_t_square t_isNought t_sumT t_sumY, x_ar cI a_t_next 400 t_next_r] r := by
  refine x_CI_of (cc := cX9_onFrom) (maxL := 5) (ty := .int) (own := RX9) (lv0 := [(0, .ref a_t), (1, .int i1), (2, .int i2)]) (by decide) rfl rfl (Nat.le_of_ble_eq_true rfl) rfl ?_
  intro p e s m args below meth c A Q ls hx hb hml hown hts hN hK hP hD hS hA hl hret
  have iX9 : ∀ w ∈ u_ws RX9 TX9 26, w ∈ wsX9_onFrom := by decide +kernel
  have l44 := hts (.fieldLink RX9 44 "ChordRingsModel" "next" "[I") (by decide +kernel)
  unfold fX9_onFrom at hf
  refine lv_iload_n hx hb dX9_onFrom_0 rfl (lv_at hl 1 rfl) ?_
  refine lv_istore_n (lv' := [(3, .int i1), (0, .ref a_t), (1, .int i1), (2, .int i2)]) hx hb dX9_onFrom_1 rfl hl (by decide) rfl (fun ls hl => ?_)
  refine lv_iload_n hx hb dX9_onFrom_2 rfl (lv_at hl 3 rfl) ?_
  refine lv_aload_n hx hb dX9_onFrom_3 rfl (lv_at hl 1 rfl) ?_
  refine lv_iload_n hx hb dX9_onFrom_4 rfl (lv_at hl 2 rfl) ?_
  obtain ⟨v1, hv1, hf⟩ := o_b1 hf
  refine x_vi (rest := [.int i2]) (W1 := [x_o9 a_t t_p a_t_given t_isLaid t_isGood a_t_c t_points a_t_pointX a_t_pointY a_t_pointZ a_t_pointFlags t_flags a_t_flagPoint a_t_flagU a_t_flagV a_t_flagW a_t_next a_t_series a_t_mix a_t_cofactor t_formX t_formY t_formZ a_t_square t_isNought t_sumT t_sumY, x_ar cI a_t_next 400 t_next_r]) ⟨hx, hb, hml, hown, hts⟩ (tX9_ringOf l D cI a_t a_t_given a_t_c a_t_pointX a_t_pointY a_t_pointZ a_t_pointFlags a_t_flagPoint a_t_flagU a_t_flagV a_t_flagW a_t_next a_t_series a_t_mix a_t_cofactor a_t_square t_p t_isLaid t_isGood t_points t_flags t_formX t_formY t_formZ t_isNought t_sumT t_sumY t_next_r i1 v1 hv1) (cwV 1 hts gX9_onFrom_X9_ringOf rfl rfl rfl (by decide +kernel) ⟨Nat.le_of_ble_eq_true rfl, Nat.le_of_ble_eq_true rfl⟩) hN hK hP hD hS hA [0, 1] [some 0, some 1] rfl rfl rfl rfl rfl rfl 0 rfl rfl rfl hl.1 rfl (Nat.le_of_ble_eq_true rfl) dX9_onFrom_5 ⟨Nat.zero_le _, Nat.zero_le _⟩ (fun H locs hP hD hS => ?_)
  obtain ⟨v2, hv2, hf⟩ := o_b1 hf
  refine x_rm hx hb hv2 dX9_onFrom_8 ?_
  refine lv_istore (lv' := [(4, .int v2), (3, .int i1), (0, .ref a_t), (1, .int i1), (2, .int i2)]) hx hb dX9_onFrom_9 hl (by decide) rfl (fun ls hl => ?_)
  have L11 : ∀ (n : Nat) (x3 : Int32) (x4 : Int32) (ls : Array Slot) (H : Heap) (locs : List Loc), gX9_onFrom_11 t_next_r (kX9_onFrom_29) n x3 x4 = some r → lv_has ls 5 [(0, .ref a_t), (3, .int x3), (4, .int x4)] → va_P D vwCl [x_o9 a_t t_p a_t_given t_isLaid t_isGood a_t_c t_points a_t_pointX a_t_pointY a_t_pointZ a_t_pointFlags t_flags a_t_flagPoint a_t_flagU a_t_flagV a_t_flagW a_t_next a_t_series a_t_mix a_t_cofactor t_formX t_formY t_formZ a_t_square t_isNought t_sumT t_sumY, x_ar cI a_t_next 400 t_next_r] H → va_D A [x_o9 a_t t_p a_t_given t_isLaid t_isGood a_t_c t_points a_t_pointX a_t_pointY a_t_pointZ a_t_pointFlags t_flags a_t_flagPoint a_t_flagU a_t_flagV a_t_flagW a_t_next a_t_series a_t_mix a_t_cofactor t_formX t_formY t_formZ a_t_square t_isNought t_sumT t_sumY, x_ar cI a_t_next 400 t_next_r] → va_S A s.heap H locs → W p l e rmX9_onFrom s m args below meth c H locs 0 0 Q (F0 m 11 ls []) := by
    intro n11
    induction n11 with
    | zero =>
      intro x3 x4 ls H locs hf
      exact nomatch (show (none : Option (Int32)) = some r from hf)
    | succ n11 ih11 =>
      intro x3 x4 ls H locs hf hl hP hD hS
      have hf : FgX9_onFrom_11 t_next_r (gX9_onFrom_11 t_next_r (kX9_onFrom_29) n11) (kX9_onFrom_29) x3 x4 = some r := hf
      unfold FgX9_onFrom_11 at hf
      refine lv_iload hx hb dX9_onFrom_11 (lv_at hl 2 rfl) ?_
      have J29 : ∀ (y5 : Int32) (ls : Array Slot) (H : Heap) (locs : List Loc), kX9_onFrom_29 y5 = some r → lv_has ls 5 [(3, .int y5)] → va_P D vwCl [x_o9 a_t t_p a_t_given t_isLaid t_isGood a_t_c t_points a_t_pointX a_t_pointY a_t_pointZ a_t_pointFlags t_flags a_t_flagPoint a_t_flagU a_t_flagV a_t_flagW a_t_next a_t_series a_t_mix a_t_cofactor t_formX t_formY t_formZ a_t_square t_isNought t_sumT t_sumY, x_ar cI a_t_next 400 t_next_r] H → va_D A [x_o9 a_t t_p a_t_given t_isLaid t_isGood a_t_c t_points a_t_pointX a_t_pointY a_t_pointZ a_t_pointFlags t_flags a_t_flagPoint a_t_flagU a_t_flagV a_t_flagW a_t_next a_t_series a_t_mix a_t_cofactor t_formX t_formY t_formZ a_t_square t_isNought t_sumT t_sumY, x_ar cI a_t_next 400 t_next_r] → va_S A s.heap H locs → W p l e rmX9_onFrom s m args below meth c H locs 0 0 Q (F0 m 29 ls []) := by
        intro y5 ls H locs hf hl hP hD hS
        unfold kX9_onFrom_29 at hf
        refine lv_iload_n hx hb dX9_onFrom_29 rfl (lv_at hl 0 rfl) ?_
        obtain rfl := Option.some.inj hf
        exact hret rfl rfl dX9_onFrom_30 hP hD hS
      refine lv_if_le (tgt := 29) hx hb dX9_onFrom_13 (by decide) (fun hc => ?_) (fun hc => ?_)
      · have hf := o_t hf hc
        exact J29 x3 _ _ _ hf (lv_sub hl [1] rfl) hP hD hS
      · have hf := o_f hf hc
        refine lv_aload_n hx hb dX9_onFrom_16 rfl (lv_at hl 0 rfl) ?_
        refine va_get (D := D) (ci := 9) (C := RX9) (T := TX9) (N := 26) hx hb hts iX9 hown hK hP 0 rfl rfl 15 (by decide) l44 (fun _ h9 => h9) rfl dX9_onFrom_17 ?_
        refine lv_iload_n hx hb dX9_onFrom_20 rfl (lv_at hl 1 rfl) ?_
        obtain ⟨v6, hv6, hf⟩ := o_b1 hf
        refine x_ald hx hb hK hP 1 rfl hv6 dX9_onFrom_21 ?_
        refine lv_istore_n (lv' := [(3, .int v6), (0, .ref a_t), (4, .int x4)]) hx hb dX9_onFrom_22 rfl hl (by decide) rfl (fun ls hl => ?_)
        obtain ⟨v7, ev7, hf⟩ := o_nm hf
        refine lv_iinc (v := v7) (lv' := [(4, .int v7), (3, .int v6), (0, .ref a_t)]) hx hb dX9_onFrom_23 hl (k := 2) rfl (by rw [ev7]; rfl) (by decide) rfl (fun ls hl => ?_)
        refine lv_goto (tgt := 11) hx hb dX9_onFrom_26 (by decide) ?_
        exact ih11 v6 v7 _ _ _ hf (lv_sub hl [2, 1, 0] rfl) hP hD hS
  exact L11 p_FU i1 v2 _ _ _ hf (lv_sub hl [2, 1, 0] rfl) hP hD hS
noncomputable def fX9_go (t_flags : Int32) (t_formX : Int32) (t_formY : Int32) (t_formZ : Int32) (t_isGood : Int32) (t_isLaid : Int32) (t_p : Int32) (t_points : Int32) (t_c_r : (Nat → Int32)) (t_cofactor_r : (Nat → Int32)) (t_flagPoint_r : (Nat → Int32)) (t_flagU_r : (Nat → Int32)) (t_flagV_r : (Nat → Int32)) (t_flagW_r : (Nat → Int32)) (t_given_r : (Nat → Int32)) (t_next_r : (Nat → Int32)) (t_pointFlags_r : (Nat → Int32)) (t_pointX_r : (Nat → Int32)) (t_pointY_r : (Nat → Int32)) (t_pointZ_r : (Nat → Int32)) (t_series_r : (Nat → Int32)) (i1 : Int32) (i2 : Int32) : Option (Int32 × Int32 × Int32 × Int32 × Int32 × Int32 × Int32 × Int32 × (Nat → Int32) × (Nat → Int32) × (Nat → Int32) × (Nat → Int32) × (Nat → Int32) × (Nat → Int32) × (Nat → Int32) × (Nat → Int32) × (Nat → Int32) × (Nat → Int32) × (Nat → Int32) × (Nat → Int32)) :=
  p_b20 (fX9_isGood t_flags t_formX t_formY t_formZ t_isGood t_isLaid t_p t_points t_c_r t_cofactor_r t_flagPoint_r t_flagU_r t_flagV_r t_flagW_r t_given_r t_next_r t_pointFlags_r t_pointX_r t_pointY_r t_pointZ_r t_series_r) (fun v1 v2 v3 v4 v5 v6 v7 v8 u9 u10 u11 u12 u13 u14 u15 u16 u17 u18 u19 u20 =>
if v1 = 0 then (some ((-5), v2, v3, v4, v5, v6, v7, v8, u9, u10, u11, u12, u13, u14, u15, u16, u17, u18, u19, u20)) else (p_b1 (fX9_isFlag v2 i1) (fun v21 =>
if v21 = 0 then (some ((-1), v2, v3, v4, v5, v6, v7, v8, u9, u10, u11, u12, u13, u14, u15, u16, u17, u18, u19, u20)) else (p_b1 (fX9_in i2 0 100000) (fun v22 =>
if v22 = 0 then (some ((-2), v2, v3, v4, v5, v6, v7, v8, u9, u10, u11, u12, u13, u14, u15, u16, u17, u18, u19, u20)) else (p_b1 (fX9_onFrom u15 i1 i2) (fun v23 =>
some (v23, v2, v3, v4, v5, v6, v7, v8, u9, u10, u11, u12, u13, u14, u15, u16, u17, u18, u19, u20))))))))
def rmX9_go : Room := { frames := 6, cells := 0, slots := 0, locals := 146 }
set_option maxHeartbeats 4000000 in
set_option maxRecDepth 100000 in
theorem tX9_go (l : Launch) (D : va_G) (cI : ClassId) (a_t : Nat) (a_t_given : Nat) (a_t_c : Nat) (a_t_pointX : Nat) (a_t_pointY : Nat) (a_t_pointZ : Nat) (a_t_pointFlags : Nat) (a_t_flagPoint : Nat) (a_t_flagU : Nat) (a_t_flagV : Nat) (a_t_flagW : Nat) (a_t_next : Nat) (a_t_series : Nat) (a_t_mix : Nat) (a_t_cofactor : Nat) (a_t_square : Nat) (t_p : Int32) (t_isLaid : Int32) (t_isGood : Int32) (t_points : Int32) (t_flags : Int32) (t_formX : Int32) (t_formY : Int32) (t_formZ : Int32) (t_isNought : Int32) (t_sumT : Int32) (t_sumY : Int32) (t_c_r : (Nat → Int32)) (t_cofactor_r : (Nat → Int32)) (t_flagPoint_r : (Nat → Int32)) (t_flagU_r : (Nat → Int32)) (t_flagV_r : (Nat → Int32)) (t_flagW_r : (Nat → Int32)) (t_given_r : (Nat → Int32)) (t_next_r : (Nat → Int32)) (t_pointFlags_r : (Nat → Int32)) (t_pointX_r : (Nat → Int32)) (t_pointY_r : (Nat → Int32)) (t_pointZ_r : (Nat → Int32)) (t_series_r : (Nat → Int32)) (i1 : Int32) (i2 : Int32) (r : Int32) (s_t_flags : Int32) (s_t_formX : Int32) (s_t_formY : Int32) (s_t_formZ : Int32) (s_t_isGood : Int32) (s_t_isLaid : Int32) (s_t_points : Int32) (s_t_c_r : (Nat → Int32)) (s_t_cofactor_r : (Nat → Int32)) (s_t_flagPoint_r : (Nat → Int32)) (s_t_flagU_r : (Nat → Int32)) (s_t_flagV_r : (Nat → Int32)) (s_t_flagW_r : (Nat → Int32)) (s_t_next_r : (Nat → Int32)) (s_t_pointFlags_r : (Nat → Int32)) (s_t_pointX_r : (Nat → Int32)) (s_t_pointY_r : (Nat → Int32)) (s_t_pointZ_r : (Nat → Int32)) (s_t_series_r : (Nat → Int32)) (hf : fX9_go t_flags t_formX t_formY t_formZ t_isGood t_isLaid t_p t_points t_c_r t_cofactor_r t_flagPoint_r t_flagU_r t_flagV_r t_flagW_r t_given_r t_next_r t_pointFlags_r t_pointX_r t_pointY_r t_pointZ_r t_series_r i1 i2 = some (r, s_t_flags, s_t_formX, s_t_formY, s_t_formZ, s_t_isGood, s_t_isLaid, s_t_points, s_t_c_r, s_t_cofactor_r, s_t_flagPoint_r, s_t_flagU_r, s_t_flagV_r, s_t_flagW_r, s_t_next_r, s_t_pointFlags_r, s_t_pointX_r, s_t_pointY_r, s_t_pointZ_r, s_t_series_r)) : x_CI l D cI yX9_go wsX9_go rmX9_go [.ref a_t, .int i1, .int i2] [x_o9 a_t t_p a_t_given t_isLaid t_isGood a_t_c t_points a_t_pointX a_t_pointY a_t_pointZ a_t_pointFlags t_flags a_t_flagPoint a_t_flagU a_t_flagV a_t_flagW a_t_next a_t_series a_t_mix a_t_cofactor t_formX t_formY t_formZ a_t_square t_isNought t_sumT t_sumY, x_ar cI a_t_c 4 t_c_r, x_ar cI a_t_cofactor 6 t_cofactor_r, x_ar cI a_t_flagPoint 400 t_flagPoint_r, x_ar cI a_t_flagU 400 t_flagU_r, x_ar cI a_t_flagV 400 t_flagV_r, x_ar cI a_t_flagW 400 t_flagW_r, x_ar cI a_t_given 12 t_given_r, x_ar cI a_t_next 400 t_next_r, x_ar cI a_t_pointFlags 200 t_pointFlags_r, x_ar cI a_t_pointX 200 t_pointX_r, x_ar cI a_t_pointY 200 t_pointY_r, x_ar cI a_t_pointZ 200 t_pointZ_r, x_ar cI a_t_series 32 t_series_r] [x_o9 a_t t_p a_t_given s_t_isLaid s_t_isGood a_t_c s_t_points a_t_pointX a_t_pointY a_t_pointZ a_t_pointFlags s_t_flags a_t_flagPoint a_t_flagU a_t_flagV a_t_flagW a_t_next a_t_series a_t_mix a_t_cofactor s_t_formX s_t_formY s_t_formZ a_t_square t_isNought t_sumT t_sumY, x_ar cI a_t_c 4 s_t_c_r, x_ar cI a_t_cofactor 6 s_t_cofactor_r, x_ar cI a_t_flagPoint 400 s_t_flagPoint_r, x_ar cI a_t_flagU 400 s_t_flagU_r, x_ar cI a_t_flagV 400 s_t_flagV_r, x_ar cI a_t_flagW 400 s_t_flagW_r, x_ar cI a_t_given 12 t_given_r, x_ar cI a_t_next 400 s_t_next_r, x_ar cI a_t_pointFlags 200 s_t_pointFlags_r, x_ar cI a_t_pointX 200 s_t_pointX_r, x_ar cI a_t_pointY 200 s_t_pointY_r, x_ar cI a_t_pointZ 200 s_t_pointZ_r, x_ar cI a_t_series 32 s_t_series_r] r := by
  refine x_CI_of (cc := cX9_go) (maxL := 3) (ty := .int) (own := RX9) (lv0 := [(0, .ref a_t), (1, .int i1), (2, .int i2)]) (by decide) rfl rfl (Nat.le_of_ble_eq_true rfl) rfl ?_
  intro p e s m args below meth c A Q ls hx hb hml hown hts hN hK hP hD hS hA hl hret
  unfold fX9_go at hf
  refine lv_aload_n hx hb dX9_go_0 rfl (lv_at hl 0 rfl) ?_
  obtain ⟨v1, v2, v3, v4, v5, v6, v7, v8, u9, u10, u11, u12, u13, u14, u15, u16, u17, u18, u19, u20, hv1, hf⟩ := o_b20 hf
  refine x_vi (rest := []) (W1 := [x_o9 a_t t_p a_t_given v7 v6 a_t_c v8 a_t_pointX a_t_pointY a_t_pointZ a_t_pointFlags v2 a_t_flagPoint a_t_flagU a_t_flagV a_t_flagW a_t_next a_t_series a_t_mix a_t_cofactor v3 v4 v5 a_t_square t_isNought t_sumT t_sumY, x_ar cI a_t_c 4 u9, x_ar cI a_t_cofactor 6 u10, x_ar cI a_t_flagPoint 400 u11, x_ar cI a_t_flagU 400 u12, x_ar cI a_t_flagV 400 u13, x_ar cI a_t_flagW 400 u14, x_ar cI a_t_given 12 t_given_r, x_ar cI a_t_next 400 u15, x_ar cI a_t_pointFlags 200 u16, x_ar cI a_t_pointX 200 u17, x_ar cI a_t_pointY 200 u18, x_ar cI a_t_pointZ 200 u19, x_ar cI a_t_series 32 u20]) ⟨hx, hb, hml, hown, hts⟩ (tX9_isGood l D cI a_t a_t_given a_t_c a_t_pointX a_t_pointY a_t_pointZ a_t_pointFlags a_t_flagPoint a_t_flagU a_t_flagV a_t_flagW a_t_next a_t_series a_t_mix a_t_cofactor a_t_square t_p t_isLaid t_isGood t_points t_flags t_formX t_formY t_formZ t_isNought t_sumT t_sumY t_c_r t_cofactor_r t_flagPoint_r t_flagU_r t_flagV_r t_flagW_r t_given_r t_next_r t_pointFlags_r t_pointX_r t_pointY_r t_pointZ_r t_series_r v1 v2 v3 v4 v5 v6 v7 v8 u9 u10 u11 u12 u13 u14 u15 u16 u17 u18 u19 u20 hv1) (cwV 0 hts gX9_go_X9_isGood rfl rfl rfl (by decide +kernel) ⟨Nat.le_of_ble_eq_true rfl, Nat.le_of_ble_eq_true rfl⟩) hN hK hP hD hS hA [0, 1, 2, 3, 4, 5, 6, 7, 8, 9, 10, 11, 12, 13] [some 0, some 1, some 2, some 3, some 4, some 5, some 6, some 7, some 8, some 9, some 10, some 11, some 12, some 13] rfl rfl rfl rfl rfl rfl 0 rfl rfl rfl hl.1 rfl (Nat.le_of_ble_eq_true rfl) dX9_go_1 ⟨Nat.zero_le _, Nat.zero_le _⟩ (fun H locs hP hD hS => ?_)
  refine lv_if_ne (tgt := 10) hx hb dX9_go_4 (by decide) (fun hc => ?_) (fun hc => ?_)
  · have hf := o_f hf hc
    refine lv_aload_n hx hb dX9_go_10 rfl (lv_at hl 0 rfl) ?_
    refine lv_iload_n hx hb dX9_go_11 rfl (lv_at hl 1 rfl) ?_
    obtain ⟨v21, hv21, hf⟩ := o_b1 hf
    refine x_vi (rest := []) (W1 := [x_o9 a_t t_p a_t_given v7 v6 a_t_c v8 a_t_pointX a_t_pointY a_t_pointZ a_t_pointFlags v2 a_t_flagPoint a_t_flagU a_t_flagV a_t_flagW a_t_next a_t_series a_t_mix a_t_cofactor v3 v4 v5 a_t_square t_isNought t_sumT t_sumY, x_ar cI a_t_c 4 u9, x_ar cI a_t_cofactor 6 u10, x_ar cI a_t_flagPoint 400 u11, x_ar cI a_t_flagU 400 u12, x_ar cI a_t_flagV 400 u13, x_ar cI a_t_flagW 400 u14, x_ar cI a_t_given 12 t_given_r, x_ar cI a_t_next 400 u15, x_ar cI a_t_pointFlags 200 u16, x_ar cI a_t_pointX 200 u17, x_ar cI a_t_pointY 200 u18, x_ar cI a_t_pointZ 200 u19, x_ar cI a_t_series 32 u20]) ⟨hx, hb, hml, hown, hts⟩ (tX9_isFlag l D cI a_t a_t_given a_t_c a_t_pointX a_t_pointY a_t_pointZ a_t_pointFlags a_t_flagPoint a_t_flagU a_t_flagV a_t_flagW a_t_next a_t_series a_t_mix a_t_cofactor a_t_square t_p v7 v6 v8 v2 v3 v4 v5 t_isNought t_sumT t_sumY i1 v21 hv21) (cwV 1 hts gX9_go_X9_isFlag rfl rfl rfl (by decide +kernel) ⟨Nat.le_of_ble_eq_true rfl, Nat.le_of_ble_eq_true rfl⟩) hN hK hP hD hS hA [0] [some 0, none, none, none, none, none, none, none, none, none, none, none, none, none] rfl rfl rfl rfl rfl rfl 0 rfl rfl rfl hl.1 rfl (Nat.le_of_ble_eq_true rfl) dX9_go_12 ⟨Nat.zero_le _, Nat.zero_le _⟩ (fun H locs hP hD hS => ?_)
    refine lv_if_ne (tgt := 20) hx hb dX9_go_15 (by decide) (fun hc => ?_) (fun hc => ?_)
    · have hf := o_f hf hc
      refine lv_iload_n hx hb dX9_go_20 rfl (lv_at hl 2 rfl) ?_
      refine lv_iconst (v := 0) hx hb dX9_go_21 (by decide) ?_
      refine lv_ldc (v := 100000) hx hb hown (hts (.constant RX9 175 100000) (by decide +kernel)) dX9_go_22 ?_
      obtain ⟨v22, hv22, hf⟩ := o_b1 hf
      refine x_si (rest := []) ⟨hx, hb, hml, hown, hts⟩ (tX9_in l D cI i2 0 100000 v22 hv22) (va_cwS 3 hts gX9_go_X9_in rfl rfl rfl (by decide +kernel) ⟨Nat.le_of_ble_eq_true rfl, Nat.le_of_ble_eq_true rfl⟩) hN hK hP hD hS hA rfl hl.1 rfl (Nat.le_of_ble_eq_true rfl) dX9_go_24 ⟨Nat.zero_le _, Nat.zero_le _⟩ (fun H locs hP hD hS => ?_)
      refine lv_if_eq (tgt := 39) hx hb dX9_go_27 (by decide) (fun hc => ?_) (fun hc => ?_)
      · have hf := o_t hf hc
        refine lv_bipush (v := (-2)) hx hb dX9_go_39 (by decide) ?_
        obtain ⟨rfl, rfl, rfl, rfl, rfl, rfl, rfl, rfl, rfl, rfl, rfl, rfl, rfl, rfl, rfl, rfl, rfl, rfl, rfl, rfl⟩ := o_s20 hf
        exact hret rfl rfl dX9_go_41 hP hD hS
      · have hf := o_f hf hc
        refine lv_aload_n hx hb dX9_go_30 rfl (lv_at hl 0 rfl) ?_
        refine lv_iload_n hx hb dX9_go_31 rfl (lv_at hl 1 rfl) ?_
        refine lv_iload_n hx hb dX9_go_32 rfl (lv_at hl 2 rfl) ?_
        obtain ⟨v23, hv23, hf⟩ := o_b1 hf
        refine x_vi (rest := []) (W1 := [x_o9 a_t t_p a_t_given v7 v6 a_t_c v8 a_t_pointX a_t_pointY a_t_pointZ a_t_pointFlags v2 a_t_flagPoint a_t_flagU a_t_flagV a_t_flagW a_t_next a_t_series a_t_mix a_t_cofactor v3 v4 v5 a_t_square t_isNought t_sumT t_sumY, x_ar cI a_t_c 4 u9, x_ar cI a_t_cofactor 6 u10, x_ar cI a_t_flagPoint 400 u11, x_ar cI a_t_flagU 400 u12, x_ar cI a_t_flagV 400 u13, x_ar cI a_t_flagW 400 u14, x_ar cI a_t_given 12 t_given_r, x_ar cI a_t_next 400 u15, x_ar cI a_t_pointFlags 200 u16, x_ar cI a_t_pointX 200 u17, x_ar cI a_t_pointY 200 u18, x_ar cI a_t_pointZ 200 u19, x_ar cI a_t_series 32 u20]) ⟨hx, hb, hml, hown, hts⟩ (tX9_onFrom l D cI a_t a_t_given a_t_c a_t_pointX a_t_pointY a_t_pointZ a_t_pointFlags a_t_flagPoint a_t_flagU a_t_flagV a_t_flagW a_t_next a_t_series a_t_mix a_t_cofactor a_t_square t_p v7 v6 v8 v2 v3 v4 v5 t_isNought t_sumT t_sumY u15 i1 i2 v23 hv23) (cwV 2 hts gX9_go_X9_onFrom rfl rfl rfl (by decide +kernel) ⟨Nat.le_of_ble_eq_true rfl, Nat.le_of_ble_eq_true rfl⟩) hN hK hP hD hS hA [0, 8] [some 0, none, none, none, none, none, none, none, some 1, none, none, none, none, none] rfl rfl rfl rfl rfl rfl 0 rfl rfl rfl hl.1 rfl (Nat.le_of_ble_eq_true rfl) dX9_go_33 ⟨Nat.zero_le _, Nat.zero_le _⟩ (fun H locs hP hD hS => ?_)
        refine lv_goto (tgt := 41) hx hb dX9_go_36 (by decide) ?_
        obtain ⟨rfl, rfl, rfl, rfl, rfl, rfl, rfl, rfl, rfl, rfl, rfl, rfl, rfl, rfl, rfl, rfl, rfl, rfl, rfl, rfl⟩ := o_s20 hf
        exact hret rfl rfl dX9_go_41 hP hD hS
    · have hf := o_t hf hc
      refine lv_iconst (v := (-1)) hx hb dX9_go_18 (by decide) ?_
      obtain ⟨rfl, rfl, rfl, rfl, rfl, rfl, rfl, rfl, rfl, rfl, rfl, rfl, rfl, rfl, rfl, rfl, rfl, rfl, rfl, rfl⟩ := o_s20 hf
      exact hret rfl rfl dX9_go_19 hP hD hS
  · have hf := o_t hf hc
    refine lv_bipush (v := (-5)) hx hb dX9_go_7 (by decide) ?_
    obtain ⟨rfl, rfl, rfl, rfl, rfl, rfl, rfl, rfl, rfl, rfl, rfl, rfl, rfl, rfl, rfl, rfl, rfl, rfl, rfl, rfl⟩ := o_s20 hf
    exact hret rfl rfl dX9_go_9 hP hD hS
noncomputable def fX9_ring (t_flags : Int32) (t_formX : Int32) (t_formY : Int32) (t_formZ : Int32) (t_isGood : Int32) (t_isLaid : Int32) (t_p : Int32) (t_points : Int32) (t_c_r : (Nat → Int32)) (t_cofactor_r : (Nat → Int32)) (t_flagPoint_r : (Nat → Int32)) (t_flagU_r : (Nat → Int32)) (t_flagV_r : (Nat → Int32)) (t_flagW_r : (Nat → Int32)) (t_given_r : (Nat → Int32)) (t_next_r : (Nat → Int32)) (t_pointFlags_r : (Nat → Int32)) (t_pointX_r : (Nat → Int32)) (t_pointY_r : (Nat → Int32)) (t_pointZ_r : (Nat → Int32)) (t_series_r : (Nat → Int32)) (i1 : Int32) : Option (Int32 × Int32 × Int32 × Int32 × Int32 × Int32 × Int32 × Int32 × (Nat → Int32) × (Nat → Int32) × (Nat → Int32) × (Nat → Int32) × (Nat → Int32) × (Nat → Int32) × (Nat → Int32) × (Nat → Int32) × (Nat → Int32) × (Nat → Int32) × (Nat → Int32) × (Nat → Int32)) :=
  p_b20 (fX9_isGood t_flags t_formX t_formY t_formZ t_isGood t_isLaid t_p t_points t_c_r t_cofactor_r t_flagPoint_r t_flagU_r t_flagV_r t_flagW_r t_given_r t_next_r t_pointFlags_r t_pointX_r t_pointY_r t_pointZ_r t_series_r) (fun v1 v2 v3 v4 v5 v6 v7 v8 u9 u10 u11 u12 u13 u14 u15 u16 u17 u18 u19 u20 =>
if v1 = 0 then (some ((-5), v2, v3, v4, v5, v6, v7, v8, u9, u10, u11, u12, u13, u14, u15, u16, u17, u18, u19, u20)) else (p_b1 (fX9_isFlag v2 i1) (fun v21 =>
if v21 = 0 then (some ((-1), v2, v3, v4, v5, v6, v7, v8, u9, u10, u11, u12, u13, u14, u15, u16, u17, u18, u19, u20)) else (p_b1 (fX9_ringOf u15 i1) (fun v22 =>
some (v22, v2, v3, v4, v5, v6, v7, v8, u9, u10, u11, u12, u13, u14, u15, u16, u17, u18, u19, u20))))))
def rmX9_ring : Room := { frames := 6, cells := 0, slots := 0, locals := 146 }
set_option maxHeartbeats 4000000 in
set_option maxRecDepth 100000 in
theorem tX9_ring (l : Launch) (D : va_G) (cI : ClassId) (a_t : Nat) (a_t_given : Nat) (a_t_c : Nat) (a_t_pointX : Nat) (a_t_pointY : Nat) (a_t_pointZ : Nat) (a_t_pointFlags : Nat) (a_t_flagPoint : Nat) (a_t_flagU : Nat) (a_t_flagV : Nat) (a_t_flagW : Nat) (a_t_next : Nat) (a_t_series : Nat) (a_t_mix : Nat) (a_t_cofactor : Nat) (a_t_square : Nat) (t_p : Int32) (t_isLaid : Int32) (t_isGood : Int32) (t_points : Int32) (t_flags : Int32) (t_formX : Int32) (t_formY : Int32) (t_formZ : Int32) (t_isNought : Int32) (t_sumT : Int32) (t_sumY : Int32) (t_c_r : (Nat → Int32)) (t_cofactor_r : (Nat → Int32)) (t_flagPoint_r : (Nat → Int32)) (t_flagU_r : (Nat → Int32)) (t_flagV_r : (Nat → Int32)) (t_flagW_r : (Nat → Int32)) (t_given_r : (Nat → Int32)) (t_next_r : (Nat → Int32)) (t_pointFlags_r : (Nat → Int32)) (t_pointX_r : (Nat → Int32)) (t_pointY_r : (Nat → Int32)) (t_pointZ_r : (Nat → Int32)) (t_series_r : (Nat → Int32)) (i1 : Int32) (r : Int32) (s_t_flags : Int32) (s_t_formX : Int32) (s_t_formY : Int32) (s_t_formZ : Int32) (s_t_isGood : Int32) (s_t_isLaid : Int32) (s_t_points : Int32) (s_t_c_r : (Nat → Int32)) (s_t_cofactor_r : (Nat → Int32)) (s_t_flagPoint_r : (Nat → Int32)) (s_t_flagU_r : (Nat → Int32)) (s_t_flagV_r : (Nat → Int32)) (s_t_flagW_r : (Nat → Int32)) (s_t_next_r : (Nat → Int32)) (s_t_pointFlags_r : (Nat → Int32)) (s_t_pointX_r : (Nat → Int32)) (s_t_pointY_r : (Nat → Int32)) (s_t_pointZ_r : (Nat → Int32)) (s_t_series_r : (Nat → Int32)) (hf : fX9_ring t_flags t_formX t_formY t_formZ t_isGood t_isLaid t_p t_points t_c_r t_cofactor_r t_flagPoint_r t_flagU_r t_flagV_r t_flagW_r t_given_r t_next_r t_pointFlags_r t_pointX_r t_pointY_r t_pointZ_r t_series_r i1 = some (r, s_t_flags, s_t_formX, s_t_formY, s_t_formZ, s_t_isGood, s_t_isLaid, s_t_points, s_t_c_r, s_t_cofactor_r, s_t_flagPoint_r, s_t_flagU_r, s_t_flagV_r, s_t_flagW_r, s_t_next_r, s_t_pointFlags_r, s_t_pointX_r, s_t_pointY_r, s_t_pointZ_r, s_t_series_r)) : x_CI l D cI yX9_ring wsX9_ring rmX9_ring [.ref a_t, .int i1] [x_o9 a_t t_p a_t_given t_isLaid t_isGood a_t_c t_points a_t_pointX a_t_pointY a_t_pointZ a_t_pointFlags t_flags a_t_flagPoint a_t_flagU a_t_flagV a_t_flagW a_t_next a_t_series a_t_mix a_t_cofactor t_formX t_formY t_formZ a_t_square t_isNought t_sumT t_sumY, x_ar cI a_t_c 4 t_c_r, x_ar cI a_t_cofactor 6 t_cofactor_r, x_ar cI a_t_flagPoint 400 t_flagPoint_r, x_ar cI a_t_flagU 400 t_flagU_r, x_ar cI a_t_flagV 400 t_flagV_r, x_ar cI a_t_flagW 400 t_flagW_r, x_ar cI a_t_given 12 t_given_r, x_ar cI a_t_next 400 t_next_r, x_ar cI a_t_pointFlags 200 t_pointFlags_r, x_ar cI a_t_pointX 200 t_pointX_r, x_ar cI a_t_pointY 200 t_pointY_r, x_ar cI a_t_pointZ 200 t_pointZ_r, x_ar cI a_t_series 32 t_series_r] [x_o9 a_t t_p a_t_given s_t_isLaid s_t_isGood a_t_c s_t_points a_t_pointX a_t_pointY a_t_pointZ a_t_pointFlags s_t_flags a_t_flagPoint a_t_flagU a_t_flagV a_t_flagW a_t_next a_t_series a_t_mix a_t_cofactor s_t_formX s_t_formY s_t_formZ a_t_square t_isNought t_sumT t_sumY, x_ar cI a_t_c 4 s_t_c_r, x_ar cI a_t_cofactor 6 s_t_cofactor_r, x_ar cI a_t_flagPoint 400 s_t_flagPoint_r, x_ar cI a_t_flagU 400 s_t_flagU_r, x_ar cI a_t_flagV 400 s_t_flagV_r, x_ar cI a_t_flagW 400 s_t_flagW_r, x_ar cI a_t_given 12 t_given_r, x_ar cI a_t_next 400 s_t_next_r, x_ar cI a_t_pointFlags 200 s_t_pointFlags_r, x_ar cI a_t_pointX 200 s_t_pointX_r, x_ar cI a_t_pointY 200 s_t_pointY_r, x_ar cI a_t_pointZ 200 s_t_pointZ_r, x_ar cI a_t_series 32 s_t_series_r] r := by
  refine x_CI_of (cc := cX9_ring) (maxL := 2) (ty := .int) (own := RX9) (lv0 := [(0, .ref a_t), (1, .int i1)]) (by decide) rfl rfl (Nat.le_of_ble_eq_true rfl) rfl ?_
  intro p e s m args below meth c A Q ls hx hb hml hown hts hN hK hP hD hS hA hl hret
  unfold fX9_ring at hf
  refine lv_aload_n hx hb dX9_ring_0 rfl (lv_at hl 0 rfl) ?_
  obtain ⟨v1, v2, v3, v4, v5, v6, v7, v8, u9, u10, u11, u12, u13, u14, u15, u16, u17, u18, u19, u20, hv1, hf⟩ := o_b20 hf
  refine x_vi (rest := []) (W1 := [x_o9 a_t t_p a_t_given v7 v6 a_t_c v8 a_t_pointX a_t_pointY a_t_pointZ a_t_pointFlags v2 a_t_flagPoint a_t_flagU a_t_flagV a_t_flagW a_t_next a_t_series a_t_mix a_t_cofactor v3 v4 v5 a_t_square t_isNought t_sumT t_sumY, x_ar cI a_t_c 4 u9, x_ar cI a_t_cofactor 6 u10, x_ar cI a_t_flagPoint 400 u11, x_ar cI a_t_flagU 400 u12, x_ar cI a_t_flagV 400 u13, x_ar cI a_t_flagW 400 u14, x_ar cI a_t_given 12 t_given_r, x_ar cI a_t_next 400 u15, x_ar cI a_t_pointFlags 200 u16, x_ar cI a_t_pointX 200 u17, x_ar cI a_t_pointY 200 u18, x_ar cI a_t_pointZ 200 u19, x_ar cI a_t_series 32 u20]) ⟨hx, hb, hml, hown, hts⟩ (tX9_isGood l D cI a_t a_t_given a_t_c a_t_pointX a_t_pointY a_t_pointZ a_t_pointFlags a_t_flagPoint a_t_flagU a_t_flagV a_t_flagW a_t_next a_t_series a_t_mix a_t_cofactor a_t_square t_p t_isLaid t_isGood t_points t_flags t_formX t_formY t_formZ t_isNought t_sumT t_sumY t_c_r t_cofactor_r t_flagPoint_r t_flagU_r t_flagV_r t_flagW_r t_given_r t_next_r t_pointFlags_r t_pointX_r t_pointY_r t_pointZ_r t_series_r v1 v2 v3 v4 v5 v6 v7 v8 u9 u10 u11 u12 u13 u14 u15 u16 u17 u18 u19 u20 hv1) (cwV 0 hts gX9_ring_X9_isGood rfl rfl rfl (by decide +kernel) ⟨Nat.le_of_ble_eq_true rfl, Nat.le_of_ble_eq_true rfl⟩) hN hK hP hD hS hA [0, 1, 2, 3, 4, 5, 6, 7, 8, 9, 10, 11, 12, 13] [some 0, some 1, some 2, some 3, some 4, some 5, some 6, some 7, some 8, some 9, some 10, some 11, some 12, some 13] rfl rfl rfl rfl rfl rfl 0 rfl rfl rfl hl.1 rfl (Nat.le_of_ble_eq_true rfl) dX9_ring_1 ⟨Nat.zero_le _, Nat.zero_le _⟩ (fun H locs hP hD hS => ?_)
  refine lv_if_ne (tgt := 10) hx hb dX9_ring_4 (by decide) (fun hc => ?_) (fun hc => ?_)
  · have hf := o_f hf hc
    refine lv_aload_n hx hb dX9_ring_10 rfl (lv_at hl 0 rfl) ?_
    refine lv_iload_n hx hb dX9_ring_11 rfl (lv_at hl 1 rfl) ?_
    obtain ⟨v21, hv21, hf⟩ := o_b1 hf
    refine x_vi (rest := []) (W1 := [x_o9 a_t t_p a_t_given v7 v6 a_t_c v8 a_t_pointX a_t_pointY a_t_pointZ a_t_pointFlags v2 a_t_flagPoint a_t_flagU a_t_flagV a_t_flagW a_t_next a_t_series a_t_mix a_t_cofactor v3 v4 v5 a_t_square t_isNought t_sumT t_sumY, x_ar cI a_t_c 4 u9, x_ar cI a_t_cofactor 6 u10, x_ar cI a_t_flagPoint 400 u11, x_ar cI a_t_flagU 400 u12, x_ar cI a_t_flagV 400 u13, x_ar cI a_t_flagW 400 u14, x_ar cI a_t_given 12 t_given_r, x_ar cI a_t_next 400 u15, x_ar cI a_t_pointFlags 200 u16, x_ar cI a_t_pointX 200 u17, x_ar cI a_t_pointY 200 u18, x_ar cI a_t_pointZ 200 u19, x_ar cI a_t_series 32 u20]) ⟨hx, hb, hml, hown, hts⟩ (tX9_isFlag l D cI a_t a_t_given a_t_c a_t_pointX a_t_pointY a_t_pointZ a_t_pointFlags a_t_flagPoint a_t_flagU a_t_flagV a_t_flagW a_t_next a_t_series a_t_mix a_t_cofactor a_t_square t_p v7 v6 v8 v2 v3 v4 v5 t_isNought t_sumT t_sumY i1 v21 hv21) (cwV 1 hts gX9_ring_X9_isFlag rfl rfl rfl (by decide +kernel) ⟨Nat.le_of_ble_eq_true rfl, Nat.le_of_ble_eq_true rfl⟩) hN hK hP hD hS hA [0] [some 0, none, none, none, none, none, none, none, none, none, none, none, none, none] rfl rfl rfl rfl rfl rfl 0 rfl rfl rfl hl.1 rfl (Nat.le_of_ble_eq_true rfl) dX9_ring_12 ⟨Nat.zero_le _, Nat.zero_le _⟩ (fun H locs hP hD hS => ?_)
    refine lv_if_eq (tgt := 26) hx hb dX9_ring_15 (by decide) (fun hc => ?_) (fun hc => ?_)
    · have hf := o_t hf hc
      refine lv_iconst (v := (-1)) hx hb dX9_ring_26 (by decide) ?_
      obtain ⟨rfl, rfl, rfl, rfl, rfl, rfl, rfl, rfl, rfl, rfl, rfl, rfl, rfl, rfl, rfl, rfl, rfl, rfl, rfl, rfl⟩ := o_s20 hf
      exact hret rfl rfl dX9_ring_27 hP hD hS
    · have hf := o_f hf hc
      refine lv_aload_n hx hb dX9_ring_18 rfl (lv_at hl 0 rfl) ?_
      refine lv_iload_n hx hb dX9_ring_19 rfl (lv_at hl 1 rfl) ?_
      obtain ⟨v22, hv22, hf⟩ := o_b1 hf
      refine x_vi (rest := []) (W1 := [x_o9 a_t t_p a_t_given v7 v6 a_t_c v8 a_t_pointX a_t_pointY a_t_pointZ a_t_pointFlags v2 a_t_flagPoint a_t_flagU a_t_flagV a_t_flagW a_t_next a_t_series a_t_mix a_t_cofactor v3 v4 v5 a_t_square t_isNought t_sumT t_sumY, x_ar cI a_t_c 4 u9, x_ar cI a_t_cofactor 6 u10, x_ar cI a_t_flagPoint 400 u11, x_ar cI a_t_flagU 400 u12, x_ar cI a_t_flagV 400 u13, x_ar cI a_t_flagW 400 u14, x_ar cI a_t_given 12 t_given_r, x_ar cI a_t_next 400 u15, x_ar cI a_t_pointFlags 200 u16, x_ar cI a_t_pointX 200 u17, x_ar cI a_t_pointY 200 u18, x_ar cI a_t_pointZ 200 u19, x_ar cI a_t_series 32 u20]) ⟨hx, hb, hml, hown, hts⟩ (tX9_ringOf l D cI a_t a_t_given a_t_c a_t_pointX a_t_pointY a_t_pointZ a_t_pointFlags a_t_flagPoint a_t_flagU a_t_flagV a_t_flagW a_t_next a_t_series a_t_mix a_t_cofactor a_t_square t_p v7 v6 v8 v2 v3 v4 v5 t_isNought t_sumT t_sumY u15 i1 v22 hv22) (cwV 1 hts gX9_ring_X9_ringOf rfl rfl rfl (by decide +kernel) ⟨Nat.le_of_ble_eq_true rfl, Nat.le_of_ble_eq_true rfl⟩) hN hK hP hD hS hA [0, 8] [some 0, none, none, none, none, none, none, none, some 1, none, none, none, none, none] rfl rfl rfl rfl rfl rfl 0 rfl rfl rfl hl.1 rfl (Nat.le_of_ble_eq_true rfl) dX9_ring_20 ⟨Nat.zero_le _, Nat.zero_le _⟩ (fun H locs hP hD hS => ?_)
      refine lv_goto (tgt := 27) hx hb dX9_ring_23 (by decide) ?_
      obtain ⟨rfl, rfl, rfl, rfl, rfl, rfl, rfl, rfl, rfl, rfl, rfl, rfl, rfl, rfl, rfl, rfl, rfl, rfl, rfl, rfl⟩ := o_s20 hf
      exact hret rfl rfl dX9_ring_27 hP hD hS
  · have hf := o_t hf hc
    refine lv_bipush (v := (-5)) hx hb dX9_ring_7 (by decide) ?_
    obtain ⟨rfl, rfl, rfl, rfl, rfl, rfl, rfl, rfl, rfl, rfl, rfl, rfl, rfl, rfl, rfl, rfl, rfl, rfl, rfl, rfl⟩ := o_s20 hf
    exact hret rfl rfl dX9_ring_9 hP hD hS
noncomputable def kX9_rings_98 (v2 : Int32) (v3 : Int32) (v4 : Int32) (v5 : Int32) (v6 : Int32) (v7 : Int32) (v8 : Int32) (u9 : (Nat → Int32)) (u10 : (Nat → Int32)) (u11 : (Nat → Int32)) (u12 : (Nat → Int32)) (u13 : (Nat → Int32)) (u14 : (Nat → Int32)) (u15 : (Nat → Int32)) (u16 : (Nat → Int32)) (u17 : (Nat → Int32)) (u18 : (Nat → Int32)) (u19 : (Nat → Int32)) (u20 : (Nat → Int32)) (y23 : Int32) : Option (Int32 × Int32 × Int32 × Int32 × Int32 × Int32 × Int32 × Int32 × (Nat → Int32) × (Nat → Int32) × (Nat → Int32) × (Nat → Int32) × (Nat → Int32) × (Nat → Int32) × (Nat → Int32) × (Nat → Int32) × (Nat → Int32) × (Nat → Int32) × (Nat → Int32) × (Nat → Int32)) :=
  some (y23, v2, v3, v4, v5, v6, v7, v8, u9, u10, u11, u12, u13, u14, u15, u16, u17, u18, u19, u20)
noncomputable def jX9_rings_90 (x21 : Int32) (x22 : Int32) (rec14 : Int32 → Int32 → Option (Int32 × Int32 × Int32 × Int32 × Int32 × Int32 × Int32 × Int32 × (Nat → Int32) × (Nat → Int32) × (Nat → Int32) × (Nat → Int32) × (Nat → Int32) × (Nat → Int32) × (Nat → Int32) × (Nat → Int32) × (Nat → Int32) × (Nat → Int32) × (Nat → Int32) × (Nat → Int32))) (y29 : Int32) : Option (Int32 × Int32 × Int32 × Int32 × Int32 × Int32 × Int32 × Int32 × (Nat → Int32) × (Nat → Int32) × (Nat → Int32) × (Nat → Int32) × (Nat → Int32) × (Nat → Int32) × (Nat → Int32) × (Nat → Int32) × (Nat → Int32) × (Nat → Int32) × (Nat → Int32) × (Nat → Int32)) :=
  p_nm (x21 + y29) (fun v30 =>
p_nm (x22 + 1) (fun v31 =>
rec14 v30 v31))
noncomputable def kX9_rings_80 (x21 : Int32) (x22 : Int32) (rec14 : Int32 → Int32 → Option (Int32 × Int32 × Int32 × Int32 × Int32 × Int32 × Int32 × Int32 × (Nat → Int32) × (Nat → Int32) × (Nat → Int32) × (Nat → Int32) × (Nat → Int32) × (Nat → Int32) × (Nat → Int32) × (Nat → Int32) × (Nat → Int32) × (Nat → Int32) × (Nat → Int32) × (Nat → Int32))) (y28 : Int32) : Option (Int32 × Int32 × Int32 × Int32 × Int32 × Int32 × Int32 × Int32 × (Nat → Int32) × (Nat → Int32) × (Nat → Int32) × (Nat → Int32) × (Nat → Int32) × (Nat → Int32) × (Nat → Int32) × (Nat → Int32) × (Nat → Int32) × (Nat → Int32) × (Nat → Int32) × (Nat → Int32)) :=
  if y28 = 0 then (jX9_rings_90 x21 x22 rec14 0) else (jX9_rings_90 x21 x22 rec14 1)
noncomputable def jX9_rings_64 (u15 : (Nat → Int32)) (x26 : Int32) (x27 : Int32) (rec35 : Int32 → Int32 → Int32 → Option (Int32 × Int32 × Int32 × Int32 × Int32 × Int32 × Int32 × Int32 × (Nat → Int32) × (Nat → Int32) × (Nat → Int32) × (Nat → Int32) × (Nat → Int32) × (Nat → Int32) × (Nat → Int32) × (Nat → Int32) × (Nat → Int32) × (Nat → Int32) × (Nat → Int32) × (Nat → Int32))) (y32 : Int32) : Option (Int32 × Int32 × Int32 × Int32 × Int32 × Int32 × Int32 × Int32 × (Nat → Int32) × (Nat → Int32) × (Nat → Int32) × (Nat → Int32) × (Nat → Int32) × (Nat → Int32) × (Nat → Int32) × (Nat → Int32) × (Nat → Int32) × (Nat → Int32) × (Nat → Int32) × (Nat → Int32)) :=
  p_b1 (p_ld u15 400 x26) (fun v33 =>
p_nm (x27 + 1) (fun v34 =>
rec35 y32 v33 v34))
noncomputable def jX9_rings_63 (u15 : (Nat → Int32)) (x26 : Int32) (x27 : Int32) (rec35 : Int32 → Int32 → Int32 → Option (Int32 × Int32 × Int32 × Int32 × Int32 × Int32 × Int32 × Int32 × (Nat → Int32) × (Nat → Int32) × (Nat → Int32) × (Nat → Int32) × (Nat → Int32) × (Nat → Int32) × (Nat → Int32) × (Nat → Int32) × (Nat → Int32) × (Nat → Int32) × (Nat → Int32) × (Nat → Int32))) : Option (Int32 × Int32 × Int32 × Int32 × Int32 × Int32 × Int32 × Int32 × (Nat → Int32) × (Nat → Int32) × (Nat → Int32) × (Nat → Int32) × (Nat → Int32) × (Nat → Int32) × (Nat → Int32) × (Nat → Int32) × (Nat → Int32) × (Nat → Int32) × (Nat → Int32) × (Nat → Int32)) :=
  jX9_rings_64 u15 x26 x27 rec35 0
noncomputable def FgX9_rings_35 (u15 : (Nat → Int32)) (x22 : Int32) (rec35 : Int32 → Int32 → Int32 → Option (Int32 × Int32 × Int32 × Int32 × Int32 × Int32 × Int32 × Int32 × (Nat → Int32) × (Nat → Int32) × (Nat → Int32) × (Nat → Int32) × (Nat → Int32) × (Nat → Int32) × (Nat → Int32) × (Nat → Int32) × (Nat → Int32) × (Nat → Int32) × (Nat → Int32) × (Nat → Int32))) (kk35 : Int32 → Option (Int32 × Int32 × Int32 × Int32 × Int32 × Int32 × Int32 × Int32 × (Nat → Int32) × (Nat → Int32) × (Nat → Int32) × (Nat → Int32) × (Nat → Int32) × (Nat → Int32) × (Nat → Int32) × (Nat → Int32) × (Nat → Int32) × (Nat → Int32) × (Nat → Int32) × (Nat → Int32))) (x25 : Int32) (x26 : Int32) (x27 : Int32) : Option (Int32 × Int32 × Int32 × Int32 × Int32 × Int32 × Int32 × Int32 × (Nat → Int32) × (Nat → Int32) × (Nat → Int32) × (Nat → Int32) × (Nat → Int32) × (Nat → Int32) × (Nat → Int32) × (Nat → Int32) × (Nat → Int32) × (Nat → Int32) × (Nat → Int32) × (Nat → Int32)) :=
  if 400 ≤ x27 then (kk35 x25) else (if x26 = x22 then (kk35 x25) else (if x25 = 0 then (jX9_rings_63 u15 x26 x27 rec35) else (if x26 ≤ x22 then (jX9_rings_63 u15 x26 x27 rec35) else (jX9_rings_64 u15 x26 x27 rec35 1))))
noncomputable def gX9_rings_35 (u15 : (Nat → Int32)) (x22 : Int32) (kk35 : Int32 → Option (Int32 × Int32 × Int32 × Int32 × Int32 × Int32 × Int32 × Int32 × (Nat → Int32) × (Nat → Int32) × (Nat → Int32) × (Nat → Int32) × (Nat → Int32) × (Nat → Int32) × (Nat → Int32) × (Nat → Int32) × (Nat → Int32) × (Nat → Int32) × (Nat → Int32) × (Nat → Int32))) (n : Nat) : Int32 → Int32 → Int32 → Option (Int32 × Int32 × Int32 × Int32 × Int32 × Int32 × Int32 × Int32 × (Nat → Int32) × (Nat → Int32) × (Nat → Int32) × (Nat → Int32) × (Nat → Int32) × (Nat → Int32) × (Nat → Int32) × (Nat → Int32) × (Nat → Int32) × (Nat → Int32) × (Nat → Int32) × (Nat → Int32)) := Nat.rec (motive := fun _ => Int32 → Int32 → Int32 → Option (Int32 × Int32 × Int32 × Int32 × Int32 × Int32 × Int32 × Int32 × (Nat → Int32) × (Nat → Int32) × (Nat → Int32) × (Nat → Int32) × (Nat → Int32) × (Nat → Int32) × (Nat → Int32) × (Nat → Int32) × (Nat → Int32) × (Nat → Int32) × (Nat → Int32) × (Nat → Int32))) (fun _ _ _ => none) (fun _ rec35 => FgX9_rings_35 u15 x22 rec35 kk35) n
noncomputable def FgX9_rings_14 (v2 : Int32) (u15 : (Nat → Int32)) (rec14 : Int32 → Int32 → Option (Int32 × Int32 × Int32 × Int32 × Int32 × Int32 × Int32 × Int32 × (Nat → Int32) × (Nat → Int32) × (Nat → Int32) × (Nat → Int32) × (Nat → Int32) × (Nat → Int32) × (Nat → Int32) × (Nat → Int32) × (Nat → Int32) × (Nat → Int32) × (Nat → Int32) × (Nat → Int32))) (kk14 : Int32 → Option (Int32 × Int32 × Int32 × Int32 × Int32 × Int32 × Int32 × Int32 × (Nat → Int32) × (Nat → Int32) × (Nat → Int32) × (Nat → Int32) × (Nat → Int32) × (Nat → Int32) × (Nat → Int32) × (Nat → Int32) × (Nat → Int32) × (Nat → Int32) × (Nat → Int32) × (Nat → Int32))) (x21 : Int32) (x22 : Int32) : Option (Int32 × Int32 × Int32 × Int32 × Int32 × Int32 × Int32 × Int32 × (Nat → Int32) × (Nat → Int32) × (Nat → Int32) × (Nat → Int32) × (Nat → Int32) × (Nat → Int32) × (Nat → Int32) × (Nat → Int32) × (Nat → Int32) × (Nat → Int32) × (Nat → Int32) × (Nat → Int32)) :=
  if v2 ≤ x22 then (kk14 x21) else (p_b1 (p_ld u15 400 x22) (fun v24 =>
gX9_rings_35 u15 x22 (kX9_rings_80 x21 x22 rec14) p_FU 1 v24 0))
noncomputable def gX9_rings_14 (v2 : Int32) (u15 : (Nat → Int32)) (kk14 : Int32 → Option (Int32 × Int32 × Int32 × Int32 × Int32 × Int32 × Int32 × Int32 × (Nat → Int32) × (Nat → Int32) × (Nat → Int32) × (Nat → Int32) × (Nat → Int32) × (Nat → Int32) × (Nat → Int32) × (Nat → Int32) × (Nat → Int32) × (Nat → Int32) × (Nat → Int32) × (Nat → Int32))) (n : Nat) : Int32 → Int32 → Option (Int32 × Int32 × Int32 × Int32 × Int32 × Int32 × Int32 × Int32 × (Nat → Int32) × (Nat → Int32) × (Nat → Int32) × (Nat → Int32) × (Nat → Int32) × (Nat → Int32) × (Nat → Int32) × (Nat → Int32) × (Nat → Int32) × (Nat → Int32) × (Nat → Int32) × (Nat → Int32)) := Nat.rec (motive := fun _ => Int32 → Int32 → Option (Int32 × Int32 × Int32 × Int32 × Int32 × Int32 × Int32 × Int32 × (Nat → Int32) × (Nat → Int32) × (Nat → Int32) × (Nat → Int32) × (Nat → Int32) × (Nat → Int32) × (Nat → Int32) × (Nat → Int32) × (Nat → Int32) × (Nat → Int32) × (Nat → Int32) × (Nat → Int32))) (fun _ _ => none) (fun _ rec14 => FgX9_rings_14 v2 u15 rec14 kk14) n
noncomputable def fX9_rings (t_flags : Int32) (t_formX : Int32) (t_formY : Int32) (t_formZ : Int32) (t_isGood : Int32) (t_isLaid : Int32) (t_p : Int32) (t_points : Int32) (t_c_r : (Nat → Int32)) (t_cofactor_r : (Nat → Int32)) (t_flagPoint_r : (Nat → Int32)) (t_flagU_r : (Nat → Int32)) (t_flagV_r : (Nat → Int32)) (t_flagW_r : (Nat → Int32)) (t_given_r : (Nat → Int32)) (t_next_r : (Nat → Int32)) (t_pointFlags_r : (Nat → Int32)) (t_pointX_r : (Nat → Int32)) (t_pointY_r : (Nat → Int32)) (t_pointZ_r : (Nat → Int32)) (t_series_r : (Nat → Int32)) : Option (Int32 × Int32 × Int32 × Int32 × Int32 × Int32 × Int32 × Int32 × (Nat → Int32) × (Nat → Int32) × (Nat → Int32) × (Nat → Int32) × (Nat → Int32) × (Nat → Int32) × (Nat → Int32) × (Nat → Int32) × (Nat → Int32) × (Nat → Int32) × (Nat → Int32) × (Nat → Int32)) :=
  p_b20 (fX9_isGood t_flags t_formX t_formY t_formZ t_isGood t_isLaid t_p t_points t_c_r t_cofactor_r t_flagPoint_r t_flagU_r t_flagV_r t_flagW_r t_given_r t_next_r t_pointFlags_r t_pointX_r t_pointY_r t_pointZ_r t_series_r) (fun v1 v2 v3 v4 v5 v6 v7 v8 u9 u10 u11 u12 u13 u14 u15 u16 u17 u18 u19 u20 =>
if v1 = 0 then (some ((-5), v2, v3, v4, v5, v6, v7, v8, u9, u10, u11, u12, u13, u14, u15, u16, u17, u18, u19, u20)) else (gX9_rings_14 v2 u15 (kX9_rings_98 v2 v3 v4 v5 v6 v7 v8 u9 u10 u11 u12 u13 u14 u15 u16 u17 u18 u19 u20) p_FU 0 0))
def rmX9_rings : Room := { frames := 6, cells := 0, slots := 0, locals := 146 }
set_option maxHeartbeats 4000000 in
set_option maxRecDepth 100000 in
theorem tX9_rings (l : Launch) (D : va_G) (cI : ClassId) (a_t : Nat) (a_t_given : Nat) (a_t_c : Nat) (a_t_pointX : Nat) (a_t_pointY : Nat) (a_t_pointZ : Nat) (a_t_pointFlags : Nat) (a_t_flagPoint : Nat) (a_t_flagU : Nat) (a_t_flagV : Nat) (a_t_flagW : Nat) (a_t_next : Nat) (a_t_series : Nat) (a_t_mix : Nat) (a_t_cofactor : Nat) (a_t_square : Nat) (t_p : Int32) (t_isLaid : Int32) (t_isGood : Int32) (t_points : Int32) (t_flags : Int32) (t_formX : Int32) (t_formY : Int32) (t_formZ : Int32) (t_isNought : Int32) (t_sumT : Int32) (t_sumY : Int32) (t_c_r : (Nat → Int32)) (t_cofactor_r : (Nat → Int32)) (t_flagPoint_r : (Nat → Int32)) (t_flagU_r : (Nat → Int32)) (t_flagV_r : (Nat → Int32)) (t_flagW_r : (Nat → Int32)) (t_given_r : (Nat → Int32)) (t_next_r : (Nat → Int32)) (t_pointFlags_r : (Nat → Int32)) (t_pointX_r : (Nat → Int32)) (t_pointY_r : (Nat → Int32)) (t_pointZ_r : (Nat → Int32)) (t_series_r : (Nat → Int32)) (r : Int32) (s_t_flags : Int32) (s_t_formX : Int32) (s_t_formY : Int32) (s_t_formZ : Int32) (s_t_isGood : Int32) (s_t_isLaid : Int32) (s_t_points : Int32) (s_t_c_r : (Nat → Int32)) (s_t_cofactor_r : (Nat → Int32)) (s_t_flagPoint_r : (Nat → Int32)) (s_t_flagU_r : (Nat → Int32)) (s_t_flagV_r : (Nat → Int32)) (s_t_flagW_r : (Nat → Int32)) (s_t_next_r : (Nat → Int32)) (s_t_pointFlags_r : (Nat → Int32)) (s_t_pointX_r : (Nat → Int32)) (s_t_pointY_r : (Nat → Int32)) (s_t_pointZ_r : (Nat → Int32)) (s_t_series_r : (Nat → Int32)) (hf : fX9_rings t_flags t_formX t_formY t_formZ t_isGood t_isLaid t_p t_points t_c_r t_cofactor_r t_flagPoint_r t_flagU_r t_flagV_r t_flagW_r t_given_r t_next_r t_pointFlags_r t_pointX_r t_pointY_r t_pointZ_r t_series_r = some (r, s_t_flags, s_t_formX, s_t_formY, s_t_formZ, s_t_isGood, s_t_isLaid, s_t_points, s_t_c_r, s_t_cofactor_r, s_t_flagPoint_r, s_t_flagU_r, s_t_flagV_r, s_t_flagW_r, s_t_next_r, s_t_pointFlags_r, s_t_pointX_r, s_t_pointY_r, s_t_pointZ_r, s_t_series_r)) : x_CI l D cI yX9_rings wsX9_rings rmX9_rings [.ref a_t] [x_o9 a_t t_p a_t_given t_isLaid t_isGood a_t_c t_points a_t_pointX a_t_pointY a_t_pointZ a_t_pointFlags t_flags a_t_flagPoint a_t_flagU a_t_flagV a_t_flagW a_t_next a_t_series a_t_mix a_t_cofactor t_formX t_formY t_formZ a_t_square t_isNought t_sumT t_sumY, x_ar cI a_t_c 4 t_c_r, x_ar cI a_t_cofactor 6 t_cofactor_r, x_ar cI a_t_flagPoint 400 t_flagPoint_r, x_ar cI a_t_flagU 400 t_flagU_r, x_ar cI a_t_flagV 400 t_flagV_r, x_ar cI a_t_flagW 400 t_flagW_r, x_ar cI a_t_given 12 t_given_r, x_ar cI a_t_next 400 t_next_r, x_ar cI a_t_pointFlags 200 t_pointFlags_r, x_ar cI a_t_pointX 200 t_pointX_r, x_ar cI a_t_pointY 200 t_pointY_r, x_ar cI a_t_pointZ 200 t_pointZ_r, x_ar cI a_t_series 32 t_series_r] [x_o9 a_t t_p a_t_given s_t_isLaid s_t_isGood a_t_c s_t_points a_t_pointX a_t_pointY a_t_pointZ a_t_pointFlags s_t_flags a_t_flagPoint a_t_flagU a_t_flagV a_t_flagW a_t_next a_t_series a_t_mix a_t_cofactor s_t_formX s_t_formY s_t_formZ a_t_square t_isNought t_sumT t_sumY, x_ar cI a_t_c 4 s_t_c_r, x_ar cI a_t_cofactor 6 s_t_cofactor_r, x_ar cI a_t_flagPoint 400 s_t_flagPoint_r, x_ar cI a_t_flagU 400 s_t_flagU_r, x_ar cI a_t_flagV 400 s_t_flagV_r, x_ar cI a_t_flagW 400 s_t_flagW_r, x_ar cI a_t_given 12 t_given_r, x_ar cI a_t_next 400 s_t_next_r, x_ar cI a_t_pointFlags 200 s_t_pointFlags_r, x_ar cI a_t_pointX 200 s_t_pointX_r, x_ar cI a_t_pointY 200 s_t_pointY_r, x_ar cI a_t_pointZ 200 s_t_pointZ_r, x_ar cI a_t_series 32 s_t_series_r] r := by
  refine x_CI_of (cc := cX9_rings) (maxL := 6) (ty := .int) (own := RX9) (lv0 := [(0, .ref a_t)]) (by decide) rfl rfl (Nat.le_of_ble_eq_true rfl) rfl ?_
  intro p e s m args below meth c A Q ls hx hb hml hown hts hN hK hP hD hS hA hl hret
  have iX9 : ∀ w ∈ u_ws RX9 TX9 26, w ∈ wsX9_rings := by decide +kernel
  have l140 := hts (.fieldLink RX9 140 "ChordRingsModel" "flags" "I") (by decide +kernel)
  have l44 := hts (.fieldLink RX9 44 "ChordRingsModel" "next" "[I") (by decide +kernel)
  unfold fX9_rings at hf
  refine lv_aload_n hx hb dX9_rings_0 rfl (lv_at hl 0 rfl) ?_
  obtain ⟨v1, v2, v3, v4, v5, v6, v7, v8, u9, u10, u11, u12, u13, u14, u15, u16, u17, u18, u19, u20, hv1, hf⟩ := o_b20 hf
  refine x_vi (rest := []) (W1 := [x_o9 a_t t_p a_t_given v7 v6 a_t_c v8 a_t_pointX a_t_pointY a_t_pointZ a_t_pointFlags v2 a_t_flagPoint a_t_flagU a_t_flagV a_t_flagW a_t_next a_t_series a_t_mix a_t_cofactor v3 v4 v5 a_t_square t_isNought t_sumT t_sumY, x_ar cI a_t_c 4 u9, x_ar cI a_t_cofactor 6 u10, x_ar cI a_t_flagPoint 400 u11, x_ar cI a_t_flagU 400 u12, x_ar cI a_t_flagV 400 u13, x_ar cI a_t_flagW 400 u14, x_ar cI a_t_given 12 t_given_r, x_ar cI a_t_next 400 u15, x_ar cI a_t_pointFlags 200 u16, x_ar cI a_t_pointX 200 u17, x_ar cI a_t_pointY 200 u18, x_ar cI a_t_pointZ 200 u19, x_ar cI a_t_series 32 u20]) ⟨hx, hb, hml, hown, hts⟩ (tX9_isGood l D cI a_t a_t_given a_t_c a_t_pointX a_t_pointY a_t_pointZ a_t_pointFlags a_t_flagPoint a_t_flagU a_t_flagV a_t_flagW a_t_next a_t_series a_t_mix a_t_cofactor a_t_square t_p t_isLaid t_isGood t_points t_flags t_formX t_formY t_formZ t_isNought t_sumT t_sumY t_c_r t_cofactor_r t_flagPoint_r t_flagU_r t_flagV_r t_flagW_r t_given_r t_next_r t_pointFlags_r t_pointX_r t_pointY_r t_pointZ_r t_series_r v1 v2 v3 v4 v5 v6 v7 v8 u9 u10 u11 u12 u13 u14 u15 u16 u17 u18 u19 u20 hv1) (cwV 0 hts gX9_rings_X9_isGood rfl rfl rfl (by decide +kernel) ⟨Nat.le_of_ble_eq_true rfl, Nat.le_of_ble_eq_true rfl⟩) hN hK hP hD hS hA [0, 1, 2, 3, 4, 5, 6, 7, 8, 9, 10, 11, 12, 13] [some 0, some 1, some 2, some 3, some 4, some 5, some 6, some 7, some 8, some 9, some 10, some 11, some 12, some 13] rfl rfl rfl rfl rfl rfl 0 rfl rfl rfl hl.1 rfl (Nat.le_of_ble_eq_true rfl) dX9_rings_1 ⟨Nat.zero_le _, Nat.zero_le _⟩ (fun H locs hP hD hS => ?_)
  refine lv_if_ne (tgt := 10) hx hb dX9_rings_4 (by decide) (fun hc => ?_) (fun hc => ?_)
  · have hf := o_f hf hc
    refine lv_iconst (v := 0) hx hb dX9_rings_10 (by decide) ?_
    refine lv_istore_n (lv' := [(1, .int 0), (0, .ref a_t)]) hx hb dX9_rings_11 rfl hl (by decide) rfl (fun ls hl => ?_)
    refine lv_iconst (v := 0) hx hb dX9_rings_12 (by decide) ?_
    refine lv_istore_n (lv' := [(2, .int 0), (1, .int 0), (0, .ref a_t)]) hx hb dX9_rings_13 rfl hl (by decide) rfl (fun ls hl => ?_)
    have L14 : ∀ (n : Nat) (x21 : Int32) (x22 : Int32) (ls : Array Slot) (H : Heap) (locs : List Loc), gX9_rings_14 v2 u15 (kX9_rings_98 v2 v3 v4 v5 v6 v7 v8 u9 u10 u11 u12 u13 u14 u15 u16 u17 u18 u19 u20) n x21 x22 = some (r, s_t_flags, s_t_formX, s_t_formY, s_t_formZ, s_t_isGood, s_t_isLaid, s_t_points, s_t_c_r, s_t_cofactor_r, s_t_flagPoint_r, s_t_flagU_r, s_t_flagV_r, s_t_flagW_r, s_t_next_r, s_t_pointFlags_r, s_t_pointX_r, s_t_pointY_r, s_t_pointZ_r, s_t_series_r) → lv_has ls 6 [(0, .ref a_t), (1, .int x21), (2, .int x22)] → va_P D vwCl [x_o9 a_t t_p a_t_given v7 v6 a_t_c v8 a_t_pointX a_t_pointY a_t_pointZ a_t_pointFlags v2 a_t_flagPoint a_t_flagU a_t_flagV a_t_flagW a_t_next a_t_series a_t_mix a_t_cofactor v3 v4 v5 a_t_square t_isNought t_sumT t_sumY, x_ar cI a_t_c 4 u9, x_ar cI a_t_cofactor 6 u10, x_ar cI a_t_flagPoint 400 u11, x_ar cI a_t_flagU 400 u12, x_ar cI a_t_flagV 400 u13, x_ar cI a_t_flagW 400 u14, x_ar cI a_t_given 12 t_given_r, x_ar cI a_t_next 400 u15, x_ar cI a_t_pointFlags 200 u16, x_ar cI a_t_pointX 200 u17, x_ar cI a_t_pointY 200 u18, x_ar cI a_t_pointZ 200 u19, x_ar cI a_t_series 32 u20] H → va_D A [x_o9 a_t t_p a_t_given v7 v6 a_t_c v8 a_t_pointX a_t_pointY a_t_pointZ a_t_pointFlags v2 a_t_flagPoint a_t_flagU a_t_flagV a_t_flagW a_t_next a_t_series a_t_mix a_t_cofactor v3 v4 v5 a_t_square t_isNought t_sumT t_sumY, x_ar cI a_t_c 4 u9, x_ar cI a_t_cofactor 6 u10, x_ar cI a_t_flagPoint 400 u11, x_ar cI a_t_flagU 400 u12, x_ar cI a_t_flagV 400 u13, x_ar cI a_t_flagW 400 u14, x_ar cI a_t_given 12 t_given_r, x_ar cI a_t_next 400 u15, x_ar cI a_t_pointFlags 200 u16, x_ar cI a_t_pointX 200 u17, x_ar cI a_t_pointY 200 u18, x_ar cI a_t_pointZ 200 u19, x_ar cI a_t_series 32 u20] → va_S A s.heap H locs → W p l e rmX9_rings s m args below meth c H locs 0 0 Q (F0 m 14 ls []) := by
      intro n14
      induction n14 with
      | zero =>
        intro x21 x22 ls H locs hf
        exact nomatch (show (none : Option (Int32 × Int32 × Int32 × Int32 × Int32 × Int32 × Int32 × Int32 × (Nat → Int32) × (Nat → Int32) × (Nat → Int32) × (Nat → Int32) × (Nat → Int32) × (Nat → Int32) × (Nat → Int32) × (Nat → Int32) × (Nat → Int32) × (Nat → Int32) × (Nat → Int32) × (Nat → Int32))) = some (r, s_t_flags, s_t_formX, s_t_formY, s_t_formZ, s_t_isGood, s_t_isLaid, s_t_points, s_t_c_r, s_t_cofactor_r, s_t_flagPoint_r, s_t_flagU_r, s_t_flagV_r, s_t_flagW_r, s_t_next_r, s_t_pointFlags_r, s_t_pointX_r, s_t_pointY_r, s_t_pointZ_r, s_t_series_r) from hf)
      | succ n14 ih14 =>
        intro x21 x22 ls H locs hf hl hP hD hS
        have hf : FgX9_rings_14 v2 u15 (gX9_rings_14 v2 u15 (kX9_rings_98 v2 v3 v4 v5 v6 v7 v8 u9 u10 u11 u12 u13 u14 u15 u16 u17 u18 u19 u20) n14) (kX9_rings_98 v2 v3 v4 v5 v6 v7 v8 u9 u10 u11 u12 u13 u14 u15 u16 u17 u18 u19 u20) x21 x22 = some (r, s_t_flags, s_t_formX, s_t_formY, s_t_formZ, s_t_isGood, s_t_isLaid, s_t_points, s_t_c_r, s_t_cofactor_r, s_t_flagPoint_r, s_t_flagU_r, s_t_flagV_r, s_t_flagW_r, s_t_next_r, s_t_pointFlags_r, s_t_pointX_r, s_t_pointY_r, s_t_pointZ_r, s_t_series_r) := hf
        unfold FgX9_rings_14 at hf
        refine lv_iload_n hx hb dX9_rings_14 rfl (lv_at hl 2 rfl) ?_
        refine lv_aload_n hx hb dX9_rings_15 rfl (lv_at hl 0 rfl) ?_
        refine va_get (D := D) (ci := 9) (C := RX9) (T := TX9) (N := 26) hx hb hts iX9 hown hK hP 0 rfl rfl 10 (by decide) l140 (fun _ h9 => h9) rfl dX9_rings_16 ?_
        have J98 : ∀ (y23 : Int32) (ls : Array Slot) (H : Heap) (locs : List Loc), kX9_rings_98 v2 v3 v4 v5 v6 v7 v8 u9 u10 u11 u12 u13 u14 u15 u16 u17 u18 u19 u20 y23 = some (r, s_t_flags, s_t_formX, s_t_formY, s_t_formZ, s_t_isGood, s_t_isLaid, s_t_points, s_t_c_r, s_t_cofactor_r, s_t_flagPoint_r, s_t_flagU_r, s_t_flagV_r, s_t_flagW_r, s_t_next_r, s_t_pointFlags_r, s_t_pointX_r, s_t_pointY_r, s_t_pointZ_r, s_t_series_r) → lv_has ls 6 [(1, .int y23)] → va_P D vwCl [x_o9 a_t t_p a_t_given v7 v6 a_t_c v8 a_t_pointX a_t_pointY a_t_pointZ a_t_pointFlags v2 a_t_flagPoint a_t_flagU a_t_flagV a_t_flagW a_t_next a_t_series a_t_mix a_t_cofactor v3 v4 v5 a_t_square t_isNought t_sumT t_sumY, x_ar cI a_t_c 4 u9, x_ar cI a_t_cofactor 6 u10, x_ar cI a_t_flagPoint 400 u11, x_ar cI a_t_flagU 400 u12, x_ar cI a_t_flagV 400 u13, x_ar cI a_t_flagW 400 u14, x_ar cI a_t_given 12 t_given_r, x_ar cI a_t_next 400 u15, x_ar cI a_t_pointFlags 200 u16, x_ar cI a_t_pointX 200 u17, x_ar cI a_t_pointY 200 u18, x_ar cI a_t_pointZ 200 u19, x_ar cI a_t_series 32 u20] H → va_D A [x_o9 a_t t_p a_t_given v7 v6 a_t_c v8 a_t_pointX a_t_pointY a_t_pointZ a_t_pointFlags v2 a_t_flagPoint a_t_flagU a_t_flagV a_t_flagW a_t_next a_t_series a_t_mix a_t_cofactor v3 v4 v5 a_t_square t_isNought t_sumT t_sumY, x_ar cI a_t_c 4 u9, x_ar cI a_t_cofactor 6 u10, x_ar cI a_t_flagPoint 400 u11, x_ar cI a_t_flagU 400 u12, x_ar cI a_t_flagV 400 u13, x_ar cI a_t_flagW 400 u14, x_ar cI a_t_given 12 t_given_r, x_ar cI a_t_next 400 u15, x_ar cI a_t_pointFlags 200 u16, x_ar cI a_t_pointX 200 u17, x_ar cI a_t_pointY 200 u18, x_ar cI a_t_pointZ 200 u19, x_ar cI a_t_series 32 u20] → va_S A s.heap H locs → W p l e rmX9_rings s m args below meth c H locs 0 0 Q (F0 m 98 ls []) := by
          intro y23 ls H locs hf hl hP hD hS
          unfold kX9_rings_98 at hf
          refine lv_iload_n hx hb dX9_rings_98 rfl (lv_at hl 0 rfl) ?_
          obtain ⟨rfl, rfl, rfl, rfl, rfl, rfl, rfl, rfl, rfl, rfl, rfl, rfl, rfl, rfl, rfl, rfl, rfl, rfl, rfl, rfl⟩ := o_s20 hf
          exact hret rfl rfl dX9_rings_99 hP hD hS
        refine lv_icmp_ge (tgt := 98) hx hb dX9_rings_19 (by decide) (fun hc => ?_) (fun hc => ?_)
        · have hf := o_t hf hc
          exact J98 x21 _ _ _ hf (lv_sub hl [1] rfl) hP hD hS
        · have hf := o_f hf hc
          refine lv_iconst (v := 1) hx hb dX9_rings_22 (by decide) ?_
          refine lv_istore_n (lv' := [(3, .int 1), (0, .ref a_t), (1, .int x21), (2, .int x22)]) hx hb dX9_rings_23 rfl hl (by decide) rfl (fun ls hl => ?_)
          refine lv_aload_n hx hb dX9_rings_24 rfl (lv_at hl 1 rfl) ?_
          refine va_get (D := D) (ci := 9) (C := RX9) (T := TX9) (N := 26) hx hb hts iX9 hown hK hP 0 rfl rfl 15 (by decide) l44 (fun _ h9 => h9) rfl dX9_rings_25 ?_
          refine lv_iload_n hx hb dX9_rings_28 rfl (lv_at hl 3 rfl) ?_
          obtain ⟨v24, hv24, hf⟩ := o_b1 hf
          refine x_ald hx hb hK hP 8 rfl hv24 dX9_rings_29 ?_
          refine lv_istore (lv' := [(4, .int v24), (3, .int 1), (0, .ref a_t), (1, .int x21), (2, .int x22)]) hx hb dX9_rings_30 hl (by decide) rfl (fun ls hl => ?_)
          refine lv_iconst (v := 0) hx hb dX9_rings_32 (by decide) ?_
          refine lv_istore (lv' := [(5, .int 0), (4, .int v24), (3, .int 1), (0, .ref a_t), (1, .int x21), (2, .int x22)]) hx hb dX9_rings_33 hl (by decide) rfl (fun ls hl => ?_)
          have L35 : ∀ (n : Nat) (x25 : Int32) (x26 : Int32) (x27 : Int32) (ls : Array Slot) (H : Heap) (locs : List Loc), gX9_rings_35 u15 x22 (kX9_rings_80 x21 x22 (gX9_rings_14 v2 u15 (kX9_rings_98 v2 v3 v4 v5 v6 v7 v8 u9 u10 u11 u12 u13 u14 u15 u16 u17 u18 u19 u20) n14)) n x25 x26 x27 = some (r, s_t_flags, s_t_formX, s_t_formY, s_t_formZ, s_t_isGood, s_t_isLaid, s_t_points, s_t_c_r, s_t_cofactor_r, s_t_flagPoint_r, s_t_flagU_r, s_t_flagV_r, s_t_flagW_r, s_t_next_r, s_t_pointFlags_r, s_t_pointX_r, s_t_pointY_r, s_t_pointZ_r, s_t_series_r) → lv_has ls 6 [(0, .ref a_t), (1, .int x21), (2, .int x22), (3, .int x25), (4, .int x26), (5, .int x27)] → va_P D vwCl [x_o9 a_t t_p a_t_given v7 v6 a_t_c v8 a_t_pointX a_t_pointY a_t_pointZ a_t_pointFlags v2 a_t_flagPoint a_t_flagU a_t_flagV a_t_flagW a_t_next a_t_series a_t_mix a_t_cofactor v3 v4 v5 a_t_square t_isNought t_sumT t_sumY, x_ar cI a_t_c 4 u9, x_ar cI a_t_cofactor 6 u10, x_ar cI a_t_flagPoint 400 u11, x_ar cI a_t_flagU 400 u12, x_ar cI a_t_flagV 400 u13, x_ar cI a_t_flagW 400 u14, x_ar cI a_t_given 12 t_given_r, x_ar cI a_t_next 400 u15, x_ar cI a_t_pointFlags 200 u16, x_ar cI a_t_pointX 200 u17, x_ar cI a_t_pointY 200 u18, x_ar cI a_t_pointZ 200 u19, x_ar cI a_t_series 32 u20] H → va_D A [x_o9 a_t t_p a_t_given v7 v6 a_t_c v8 a_t_pointX a_t_pointY a_t_pointZ a_t_pointFlags v2 a_t_flagPoint a_t_flagU a_t_flagV a_t_flagW a_t_next a_t_series a_t_mix a_t_cofactor v3 v4 v5 a_t_square t_isNought t_sumT t_sumY, x_ar cI a_t_c 4 u9, x_ar cI a_t_cofactor 6 u10, x_ar cI a_t_flagPoint 400 u11, x_ar cI a_t_flagU 400 u12, x_ar cI a_t_flagV 400 u13, x_ar cI a_t_flagW 400 u14, x_ar cI a_t_given 12 t_given_r, x_ar cI a_t_next 400 u15, x_ar cI a_t_pointFlags 200 u16, x_ar cI a_t_pointX 200 u17, x_ar cI a_t_pointY 200 u18, x_ar cI a_t_pointZ 200 u19, x_ar cI a_t_series 32 u20] → va_S A s.heap H locs → W p l e rmX9_rings s m args below meth c H locs 0 0 Q (F0 m 35 ls []) := by
            intro n35
            induction n35 with
            | zero =>
              intro x25 x26 x27 ls H locs hf
              exact nomatch (show (none : Option (Int32 × Int32 × Int32 × Int32 × Int32 × Int32 × Int32 × Int32 × (Nat → Int32) × (Nat → Int32) × (Nat → Int32) × (Nat → Int32) × (Nat → Int32) × (Nat → Int32) × (Nat → Int32) × (Nat → Int32) × (Nat → Int32) × (Nat → Int32) × (Nat → Int32) × (Nat → Int32))) = some (r, s_t_flags, s_t_formX, s_t_formY, s_t_formZ, s_t_isGood, s_t_isLaid, s_t_points, s_t_c_r, s_t_cofactor_r, s_t_flagPoint_r, s_t_flagU_r, s_t_flagV_r, s_t_flagW_r, s_t_next_r, s_t_pointFlags_r, s_t_pointX_r, s_t_pointY_r, s_t_pointZ_r, s_t_series_r) from hf)
            | succ n35 ih35 =>
              intro x25 x26 x27 ls H locs hf hl hP hD hS
              have hf : FgX9_rings_35 u15 x22 (gX9_rings_35 u15 x22 (kX9_rings_80 x21 x22 (gX9_rings_14 v2 u15 (kX9_rings_98 v2 v3 v4 v5 v6 v7 v8 u9 u10 u11 u12 u13 u14 u15 u16 u17 u18 u19 u20) n14)) n35) (kX9_rings_80 x21 x22 (gX9_rings_14 v2 u15 (kX9_rings_98 v2 v3 v4 v5 v6 v7 v8 u9 u10 u11 u12 u13 u14 u15 u16 u17 u18 u19 u20) n14)) x25 x26 x27 = some (r, s_t_flags, s_t_formX, s_t_formY, s_t_formZ, s_t_isGood, s_t_isLaid, s_t_points, s_t_c_r, s_t_cofactor_r, s_t_flagPoint_r, s_t_flagU_r, s_t_flagV_r, s_t_flagW_r, s_t_next_r, s_t_pointFlags_r, s_t_pointX_r, s_t_pointY_r, s_t_pointZ_r, s_t_series_r) := hf
              unfold FgX9_rings_35 at hf
              refine lv_iload hx hb dX9_rings_35 (lv_at hl 5 rfl) ?_
              refine lv_sipush (v := 400) hx hb dX9_rings_37 (by decide) ?_
              have J80 : ∀ (y28 : Int32) (ls : Array Slot) (H : Heap) (locs : List Loc), kX9_rings_80 x21 x22 (gX9_rings_14 v2 u15 (kX9_rings_98 v2 v3 v4 v5 v6 v7 v8 u9 u10 u11 u12 u13 u14 u15 u16 u17 u18 u19 u20) n14) y28 = some (r, s_t_flags, s_t_formX, s_t_formY, s_t_formZ, s_t_isGood, s_t_isLaid, s_t_points, s_t_c_r, s_t_cofactor_r, s_t_flagPoint_r, s_t_flagU_r, s_t_flagV_r, s_t_flagW_r, s_t_next_r, s_t_pointFlags_r, s_t_pointX_r, s_t_pointY_r, s_t_pointZ_r, s_t_series_r) → lv_has ls 6 [(0, .ref a_t), (1, .int x21), (2, .int x22), (3, .int y28)] → va_P D vwCl [x_o9 a_t t_p a_t_given v7 v6 a_t_c v8 a_t_pointX a_t_pointY a_t_pointZ a_t_pointFlags v2 a_t_flagPoint a_t_flagU a_t_flagV a_t_flagW a_t_next a_t_series a_t_mix a_t_cofactor v3 v4 v5 a_t_square t_isNought t_sumT t_sumY, x_ar cI a_t_c 4 u9, x_ar cI a_t_cofactor 6 u10, x_ar cI a_t_flagPoint 400 u11, x_ar cI a_t_flagU 400 u12, x_ar cI a_t_flagV 400 u13, x_ar cI a_t_flagW 400 u14, x_ar cI a_t_given 12 t_given_r, x_ar cI a_t_next 400 u15, x_ar cI a_t_pointFlags 200 u16, x_ar cI a_t_pointX 200 u17, x_ar cI a_t_pointY 200 u18, x_ar cI a_t_pointZ 200 u19, x_ar cI a_t_series 32 u20] H → va_D A [x_o9 a_t t_p a_t_given v7 v6 a_t_c v8 a_t_pointX a_t_pointY a_t_pointZ a_t_pointFlags v2 a_t_flagPoint a_t_flagU a_t_flagV a_t_flagW a_t_next a_t_series a_t_mix a_t_cofactor v3 v4 v5 a_t_square t_isNought t_sumT t_sumY, x_ar cI a_t_c 4 u9, x_ar cI a_t_cofactor 6 u10, x_ar cI a_t_flagPoint 400 u11, x_ar cI a_t_flagU 400 u12, x_ar cI a_t_flagV 400 u13, x_ar cI a_t_flagW 400 u14, x_ar cI a_t_given 12 t_given_r, x_ar cI a_t_next 400 u15, x_ar cI a_t_pointFlags 200 u16, x_ar cI a_t_pointX 200 u17, x_ar cI a_t_pointY 200 u18, x_ar cI a_t_pointZ 200 u19, x_ar cI a_t_series 32 u20] → va_S A s.heap H locs → W p l e rmX9_rings s m args below meth c H locs 0 0 Q (F0 m 80 ls []) := by
                intro y28 ls H locs hf hl hP hD hS
                unfold kX9_rings_80 at hf
                refine lv_iload_n hx hb dX9_rings_80 rfl (lv_at hl 1 rfl) ?_
                refine lv_iload_n hx hb dX9_rings_81 rfl (lv_at hl 3 rfl) ?_
                have J90 : ∀ (y29 : Int32) (ls : Array Slot) (H : Heap) (locs : List Loc), jX9_rings_90 x21 x22 (gX9_rings_14 v2 u15 (kX9_rings_98 v2 v3 v4 v5 v6 v7 v8 u9 u10 u11 u12 u13 u14 u15 u16 u17 u18 u19 u20) n14) y29 = some (r, s_t_flags, s_t_formX, s_t_formY, s_t_formZ, s_t_isGood, s_t_isLaid, s_t_points, s_t_c_r, s_t_cofactor_r, s_t_flagPoint_r, s_t_flagU_r, s_t_flagV_r, s_t_flagW_r, s_t_next_r, s_t_pointFlags_r, s_t_pointX_r, s_t_pointY_r, s_t_pointZ_r, s_t_series_r) → lv_has ls 6 [(0, .ref a_t), (2, .int x22)] → va_P D vwCl [x_o9 a_t t_p a_t_given v7 v6 a_t_c v8 a_t_pointX a_t_pointY a_t_pointZ a_t_pointFlags v2 a_t_flagPoint a_t_flagU a_t_flagV a_t_flagW a_t_next a_t_series a_t_mix a_t_cofactor v3 v4 v5 a_t_square t_isNought t_sumT t_sumY, x_ar cI a_t_c 4 u9, x_ar cI a_t_cofactor 6 u10, x_ar cI a_t_flagPoint 400 u11, x_ar cI a_t_flagU 400 u12, x_ar cI a_t_flagV 400 u13, x_ar cI a_t_flagW 400 u14, x_ar cI a_t_given 12 t_given_r, x_ar cI a_t_next 400 u15, x_ar cI a_t_pointFlags 200 u16, x_ar cI a_t_pointX 200 u17, x_ar cI a_t_pointY 200 u18, x_ar cI a_t_pointZ 200 u19, x_ar cI a_t_series 32 u20] H → va_D A [x_o9 a_t t_p a_t_given v7 v6 a_t_c v8 a_t_pointX a_t_pointY a_t_pointZ a_t_pointFlags v2 a_t_flagPoint a_t_flagU a_t_flagV a_t_flagW a_t_next a_t_series a_t_mix a_t_cofactor v3 v4 v5 a_t_square t_isNought t_sumT t_sumY, x_ar cI a_t_c 4 u9, x_ar cI a_t_cofactor 6 u10, x_ar cI a_t_flagPoint 400 u11, x_ar cI a_t_flagU 400 u12, x_ar cI a_t_flagV 400 u13, x_ar cI a_t_flagW 400 u14, x_ar cI a_t_given 12 t_given_r, x_ar cI a_t_next 400 u15, x_ar cI a_t_pointFlags 200 u16, x_ar cI a_t_pointX 200 u17, x_ar cI a_t_pointY 200 u18, x_ar cI a_t_pointZ 200 u19, x_ar cI a_t_series 32 u20] → va_S A s.heap H locs → W p l e rmX9_rings s m args below meth c H locs 0 0 Q (F0 m 90 ls [.int y29, .int x21]) := by
                  intro y29 ls H locs hf hl hP hD hS
                  unfold jX9_rings_90 at hf
                  refine lv_iadd hx hb dX9_rings_90 ?_
                  obtain ⟨v30, ev30, hf⟩ := o_nm hf
                  refine x_top ev30 ?_
                  refine lv_istore_n (lv' := [(1, .int v30), (0, .ref a_t), (2, .int x22)]) hx hb dX9_rings_91 rfl hl (by decide) rfl (fun ls hl => ?_)
                  obtain ⟨v31, ev31, hf⟩ := o_nm hf
                  refine lv_iinc (v := v31) (lv' := [(2, .int v31), (1, .int v30), (0, .ref a_t)]) hx hb dX9_rings_92 hl (k := 2) rfl (by rw [ev31]; rfl) (by decide) rfl (fun ls hl => ?_)
                  refine lv_goto (tgt := 14) hx hb dX9_rings_95 (by decide) ?_
                  exact ih14 v30 v31 _ _ _ hf (lv_sub hl [2, 1, 0] rfl) hP hD hS
                refine lv_if_eq (tgt := 89) hx hb dX9_rings_82 (by decide) (fun hc => ?_) (fun hc => ?_)
                · have hf := o_t hf hc
                  refine lv_iconst (v := 0) hx hb dX9_rings_89 (by decide) ?_
                  exact J90 0 _ _ _ hf (lv_sub hl [0, 2] rfl) hP hD hS
                · have hf := o_f hf hc
                  refine lv_iconst (v := 1) hx hb dX9_rings_85 (by decide) ?_
                  refine lv_goto (tgt := 90) hx hb dX9_rings_86 (by decide) ?_
                  exact J90 1 _ _ _ hf (lv_sub hl [0, 2] rfl) hP hD hS
              refine lv_icmp_ge (tgt := 80) hx hb dX9_rings_40 (by decide) (fun hc => ?_) (fun hc => ?_)
              · have hf := o_t hf hc
                exact J80 x25 _ _ _ hf (lv_sub hl [0, 1, 2, 3] rfl) hP hD hS
              · have hf := o_f hf hc
                refine lv_iload hx hb dX9_rings_43 (lv_at hl 4 rfl) ?_
                refine lv_iload_n hx hb dX9_rings_45 rfl (lv_at hl 2 rfl) ?_
                refine lv_icmp_eq (tgt := 80) hx hb dX9_rings_46 (by decide) (fun hc => ?_) (fun hc => ?_)
                · have hf := o_t hf hc
                  exact J80 x25 _ _ _ hf (lv_sub hl [0, 1, 2, 3] rfl) hP hD hS
                · have hf := o_f hf hc
                  refine lv_iload_n hx hb dX9_rings_49 rfl (lv_at hl 3 rfl) ?_
                  have J64 : ∀ (y32 : Int32) (ls : Array Slot) (H : Heap) (locs : List Loc), jX9_rings_64 u15 x26 x27 (gX9_rings_35 u15 x22 (kX9_rings_80 x21 x22 (gX9_rings_14 v2 u15 (kX9_rings_98 v2 v3 v4 v5 v6 v7 v8 u9 u10 u11 u12 u13 u14 u15 u16 u17 u18 u19 u20) n14)) n35) y32 = some (r, s_t_flags, s_t_formX, s_t_formY, s_t_formZ, s_t_isGood, s_t_isLaid, s_t_points, s_t_c_r, s_t_cofactor_r, s_t_flagPoint_r, s_t_flagU_r, s_t_flagV_r, s_t_flagW_r, s_t_next_r, s_t_pointFlags_r, s_t_pointX_r, s_t_pointY_r, s_t_pointZ_r, s_t_series_r) → lv_has ls 6 [(0, .ref a_t), (1, .int x21), (2, .int x22), (4, .int x26), (5, .int x27)] → va_P D vwCl [x_o9 a_t t_p a_t_given v7 v6 a_t_c v8 a_t_pointX a_t_pointY a_t_pointZ a_t_pointFlags v2 a_t_flagPoint a_t_flagU a_t_flagV a_t_flagW a_t_next a_t_series a_t_mix a_t_cofactor v3 v4 v5 a_t_square t_isNought t_sumT t_sumY, x_ar cI a_t_c 4 u9, x_ar cI a_t_cofactor 6 u10, x_ar cI a_t_flagPoint 400 u11, x_ar cI a_t_flagU 400 u12, x_ar cI a_t_flagV 400 u13, x_ar cI a_t_flagW 400 u14, x_ar cI a_t_given 12 t_given_r, x_ar cI a_t_next 400 u15, x_ar cI a_t_pointFlags 200 u16, x_ar cI a_t_pointX 200 u17, x_ar cI a_t_pointY 200 u18, x_ar cI a_t_pointZ 200 u19, x_ar cI a_t_series 32 u20] H → va_D A [x_o9 a_t t_p a_t_given v7 v6 a_t_c v8 a_t_pointX a_t_pointY a_t_pointZ a_t_pointFlags v2 a_t_flagPoint a_t_flagU a_t_flagV a_t_flagW a_t_next a_t_series a_t_mix a_t_cofactor v3 v4 v5 a_t_square t_isNought t_sumT t_sumY, x_ar cI a_t_c 4 u9, x_ar cI a_t_cofactor 6 u10, x_ar cI a_t_flagPoint 400 u11, x_ar cI a_t_flagU 400 u12, x_ar cI a_t_flagV 400 u13, x_ar cI a_t_flagW 400 u14, x_ar cI a_t_given 12 t_given_r, x_ar cI a_t_next 400 u15, x_ar cI a_t_pointFlags 200 u16, x_ar cI a_t_pointX 200 u17, x_ar cI a_t_pointY 200 u18, x_ar cI a_t_pointZ 200 u19, x_ar cI a_t_series 32 u20] → va_S A s.heap H locs → W p l e rmX9_rings s m args below meth c H locs 0 0 Q (F0 m 64 ls [.int y32]) := by
                    intro y32 ls H locs hf hl hP hD hS
                    unfold jX9_rings_64 at hf
                    refine lv_istore_n (lv' := [(3, .int y32), (0, .ref a_t), (1, .int x21), (2, .int x22), (4, .int x26), (5, .int x27)]) hx hb dX9_rings_64 rfl hl (by decide) rfl (fun ls hl => ?_)
                    refine lv_aload_n hx hb dX9_rings_65 rfl (lv_at hl 1 rfl) ?_
                    refine va_get (D := D) (ci := 9) (C := RX9) (T := TX9) (N := 26) hx hb hts iX9 hown hK hP 0 rfl rfl 15 (by decide) l44 (fun _ h9 => h9) rfl dX9_rings_66 ?_
                    refine lv_iload hx hb dX9_rings_69 (lv_at hl 4 rfl) ?_
                    obtain ⟨v33, hv33, hf⟩ := o_b1 hf
                    refine x_ald hx hb hK hP 8 rfl hv33 dX9_rings_71 ?_
                    refine lv_istore (lv' := [(4, .int v33), (3, .int y32), (0, .ref a_t), (1, .int x21), (2, .int x22), (5, .int x27)]) hx hb dX9_rings_72 hl (by decide) rfl (fun ls hl => ?_)
                    obtain ⟨v34, ev34, hf⟩ := o_nm hf
                    refine lv_iinc (v := v34) (lv' := [(5, .int v34), (4, .int v33), (3, .int y32), (0, .ref a_t), (1, .int x21), (2, .int x22)]) hx hb dX9_rings_74 hl (k := 5) rfl (by rw [ev34]; rfl) (by decide) rfl (fun ls hl => ?_)
                    refine lv_goto (tgt := 35) hx hb dX9_rings_77 (by decide) ?_
                    exact ih35 y32 v33 v34 _ _ _ hf (lv_sub hl [3, 4, 5, 2, 1, 0] rfl) hP hD hS
                  have J63 : ∀ (ls : Array Slot) (H : Heap) (locs : List Loc), jX9_rings_63 u15 x26 x27 (gX9_rings_35 u15 x22 (kX9_rings_80 x21 x22 (gX9_rings_14 v2 u15 (kX9_rings_98 v2 v3 v4 v5 v6 v7 v8 u9 u10 u11 u12 u13 u14 u15 u16 u17 u18 u19 u20) n14)) n35) = some (r, s_t_flags, s_t_formX, s_t_formY, s_t_formZ, s_t_isGood, s_t_isLaid, s_t_points, s_t_c_r, s_t_cofactor_r, s_t_flagPoint_r, s_t_flagU_r, s_t_flagV_r, s_t_flagW_r, s_t_next_r, s_t_pointFlags_r, s_t_pointX_r, s_t_pointY_r, s_t_pointZ_r, s_t_series_r) → lv_has ls 6 [(0, .ref a_t), (1, .int x21), (2, .int x22), (4, .int x26), (5, .int x27)] → va_P D vwCl [x_o9 a_t t_p a_t_given v7 v6 a_t_c v8 a_t_pointX a_t_pointY a_t_pointZ a_t_pointFlags v2 a_t_flagPoint a_t_flagU a_t_flagV a_t_flagW a_t_next a_t_series a_t_mix a_t_cofactor v3 v4 v5 a_t_square t_isNought t_sumT t_sumY, x_ar cI a_t_c 4 u9, x_ar cI a_t_cofactor 6 u10, x_ar cI a_t_flagPoint 400 u11, x_ar cI a_t_flagU 400 u12, x_ar cI a_t_flagV 400 u13, x_ar cI a_t_flagW 400 u14, x_ar cI a_t_given 12 t_given_r, x_ar cI a_t_next 400 u15, x_ar cI a_t_pointFlags 200 u16, x_ar cI a_t_pointX 200 u17, x_ar cI a_t_pointY 200 u18, x_ar cI a_t_pointZ 200 u19, x_ar cI a_t_series 32 u20] H → va_D A [x_o9 a_t t_p a_t_given v7 v6 a_t_c v8 a_t_pointX a_t_pointY a_t_pointZ a_t_pointFlags v2 a_t_flagPoint a_t_flagU a_t_flagV a_t_flagW a_t_next a_t_series a_t_mix a_t_cofactor v3 v4 v5 a_t_square t_isNought t_sumT t_sumY, x_ar cI a_t_c 4 u9, x_ar cI a_t_cofactor 6 u10, x_ar cI a_t_flagPoint 400 u11, x_ar cI a_t_flagU 400 u12, x_ar cI a_t_flagV 400 u13, x_ar cI a_t_flagW 400 u14, x_ar cI a_t_given 12 t_given_r, x_ar cI a_t_next 400 u15, x_ar cI a_t_pointFlags 200 u16, x_ar cI a_t_pointX 200 u17, x_ar cI a_t_pointY 200 u18, x_ar cI a_t_pointZ 200 u19, x_ar cI a_t_series 32 u20] → va_S A s.heap H locs → W p l e rmX9_rings s m args below meth c H locs 0 0 Q (F0 m 63 ls []) := by
                    intro ls H locs hf hl hP hD hS
                    unfold jX9_rings_63 at hf
                    refine lv_iconst (v := 0) hx hb dX9_rings_63 (by decide) ?_
                    exact J64 0 _ _ _ hf (lv_sub hl [0, 1, 2, 3, 4] rfl) hP hD hS
                  refine lv_if_eq (tgt := 63) hx hb dX9_rings_50 (by decide) (fun hc => ?_) (fun hc => ?_)
                  · have hf := o_t hf hc
                    exact J63 _ _ _ hf (lv_sub hl [0, 1, 2, 4, 5] rfl) hP hD hS
                  · have hf := o_f hf hc
                    refine lv_iload hx hb dX9_rings_53 (lv_at hl 4 rfl) ?_
                    refine lv_iload_n hx hb dX9_rings_55 rfl (lv_at hl 2 rfl) ?_
                    refine lv_icmp_le (tgt := 63) hx hb dX9_rings_56 (by decide) (fun hc => ?_) (fun hc => ?_)
                    · have hf := o_t hf hc
                      exact J63 _ _ _ hf (lv_sub hl [0, 1, 2, 4, 5] rfl) hP hD hS
                    · have hf := o_f hf hc
                      refine lv_iconst (v := 1) hx hb dX9_rings_59 (by decide) ?_
                      refine lv_goto (tgt := 64) hx hb dX9_rings_60 (by decide) ?_
                      exact J64 1 _ _ _ hf (lv_sub hl [0, 1, 2, 4, 5] rfl) hP hD hS
          exact L35 p_FU 1 v24 0 _ _ _ hf (lv_sub hl [3, 4, 5, 2, 1, 0] rfl) hP hD hS
    exact L14 p_FU 0 0 _ _ _ hf (lv_sub hl [2, 1, 0] rfl) hP hD hS
  · have hf := o_t hf hc
    refine lv_bipush (v := (-5)) hx hb dX9_rings_7 (by decide) ?_
    obtain ⟨rfl, rfl, rfl, rfl, rfl, rfl, rfl, rfl, rfl, rfl, rfl, rfl, rfl, rfl, rfl, rfl, rfl, rfl, rfl, rfl⟩ := o_s20 hf
    exact hret rfl rfl dX9_rings_9 hP hD hS
noncomputable def fX9_series (t_flags : Int32) (t_formX : Int32) (t_formY : Int32) (t_formZ : Int32) (t_isGood : Int32) (t_isLaid : Int32) (t_p : Int32) (t_points : Int32) (t_c_r : (Nat → Int32)) (t_cofactor_r : (Nat → Int32)) (t_flagPoint_r : (Nat → Int32)) (t_flagU_r : (Nat → Int32)) (t_flagV_r : (Nat → Int32)) (t_flagW_r : (Nat → Int32)) (t_given_r : (Nat → Int32)) (t_next_r : (Nat → Int32)) (t_pointFlags_r : (Nat → Int32)) (t_pointX_r : (Nat → Int32)) (t_pointY_r : (Nat → Int32)) (t_pointZ_r : (Nat → Int32)) (t_series_r : (Nat → Int32)) (i1 : Int32) : Option (Int32 × Int32 × Int32 × Int32 × Int32 × Int32 × Int32 × Int32 × (Nat → Int32) × (Nat → Int32) × (Nat → Int32) × (Nat → Int32) × (Nat → Int32) × (Nat → Int32) × (Nat → Int32) × (Nat → Int32) × (Nat → Int32) × (Nat → Int32) × (Nat → Int32) × (Nat → Int32)) :=
  p_b20 (fX9_isGood t_flags t_formX t_formY t_formZ t_isGood t_isLaid t_p t_points t_c_r t_cofactor_r t_flagPoint_r t_flagU_r t_flagV_r t_flagW_r t_given_r t_next_r t_pointFlags_r t_pointX_r t_pointY_r t_pointZ_r t_series_r) (fun v1 v2 v3 v4 v5 v6 v7 v8 u9 u10 u11 u12 u13 u14 u15 u16 u17 u18 u19 u20 =>
if v1 = 0 then (some ((-5), v2, v3, v4, v5, v6, v7, v8, u9, u10, u11, u12, u13, u14, u15, u16, u17, u18, u19, u20)) else (p_b1 (fX9_in i1 0 31) (fun v21 =>
if v21 = 0 then (some ((-2), v2, v3, v4, v5, v6, v7, v8, u9, u10, u11, u12, u13, u14, u15, u16, u17, u18, u19, u20)) else (p_b1 (p_ld u20 32 i1) (fun v22 =>
some (v22, v2, v3, v4, v5, v6, v7, v8, u9, u10, u11, u12, u13, u14, u15, u16, u17, u18, u19, u20))))))
def rmX9_series : Room := { frames := 6, cells := 0, slots := 0, locals := 146 }
set_option maxHeartbeats 4000000 in
set_option maxRecDepth 100000 in
theorem tX9_series (l : Launch) (D : va_G) (cI : ClassId) (a_t : Nat) (a_t_given : Nat) (a_t_c : Nat) (a_t_pointX : Nat) (a_t_pointY : Nat) (a_t_pointZ : Nat) (a_t_pointFlags : Nat) (a_t_flagPoint : Nat) (a_t_flagU : Nat) (a_t_flagV : Nat) (a_t_flagW : Nat) (a_t_next : Nat) (a_t_series : Nat) (a_t_mix : Nat) (a_t_cofactor : Nat) (a_t_square : Nat) (t_p : Int32) (t_isLaid : Int32) (t_isGood : Int32) (t_points : Int32) (t_flags : Int32) (t_formX : Int32) (t_formY : Int32) (t_formZ : Int32) (t_isNought : Int32) (t_sumT : Int32) (t_sumY : Int32) (t_c_r : (Nat → Int32)) (t_cofactor_r : (Nat → Int32)) (t_flagPoint_r : (Nat → Int32)) (t_flagU_r : (Nat → Int32)) (t_flagV_r : (Nat → Int32)) (t_flagW_r : (Nat → Int32)) (t_given_r : (Nat → Int32)) (t_next_r : (Nat → Int32)) (t_pointFlags_r : (Nat → Int32)) (t_pointX_r : (Nat → Int32)) (t_pointY_r : (Nat → Int32)) (t_pointZ_r : (Nat → Int32)) (t_series_r : (Nat → Int32)) (i1 : Int32) (r : Int32) (s_t_flags : Int32) (s_t_formX : Int32) (s_t_formY : Int32) (s_t_formZ : Int32) (s_t_isGood : Int32) (s_t_isLaid : Int32) (s_t_points : Int32) (s_t_c_r : (Nat → Int32)) (s_t_cofactor_r : (Nat → Int32)) (s_t_flagPoint_r : (Nat → Int32)) (s_t_flagU_r : (Nat → Int32)) (s_t_flagV_r : (Nat → Int32)) (s_t_flagW_r : (Nat → Int32)) (s_t_next_r : (Nat → Int32)) (s_t_pointFlags_r : (Nat → Int32)) (s_t_pointX_r : (Nat → Int32)) (s_t_pointY_r : (Nat → Int32)) (s_t_pointZ_r : (Nat → Int32)) (s_t_series_r : (Nat → Int32)) (hf : fX9_series t_flags t_formX t_formY t_formZ t_isGood t_isLaid t_p t_points t_c_r t_cofactor_r t_flagPoint_r t_flagU_r t_flagV_r t_flagW_r t_given_r t_next_r t_pointFlags_r t_pointX_r t_pointY_r t_pointZ_r t_series_r i1 = some (r, s_t_flags, s_t_formX, s_t_formY, s_t_formZ, s_t_isGood, s_t_isLaid, s_t_points, s_t_c_r, s_t_cofactor_r, s_t_flagPoint_r, s_t_flagU_r, s_t_flagV_r, s_t_flagW_r, s_t_next_r, s_t_pointFlags_r, s_t_pointX_r, s_t_pointY_r, s_t_pointZ_r, s_t_series_r)) : x_CI l D cI yX9_series wsX9_series rmX9_series [.ref a_t, .int i1] [x_o9 a_t t_p a_t_given t_isLaid t_isGood a_t_c t_points a_t_pointX a_t_pointY a_t_pointZ a_t_pointFlags t_flags a_t_flagPoint a_t_flagU a_t_flagV a_t_flagW a_t_next a_t_series a_t_mix a_t_cofactor t_formX t_formY t_formZ a_t_square t_isNought t_sumT t_sumY, x_ar cI a_t_c 4 t_c_r, x_ar cI a_t_cofactor 6 t_cofactor_r, x_ar cI a_t_flagPoint 400 t_flagPoint_r, x_ar cI a_t_flagU 400 t_flagU_r, x_ar cI a_t_flagV 400 t_flagV_r, x_ar cI a_t_flagW 400 t_flagW_r, x_ar cI a_t_given 12 t_given_r, x_ar cI a_t_next 400 t_next_r, x_ar cI a_t_pointFlags 200 t_pointFlags_r, x_ar cI a_t_pointX 200 t_pointX_r, x_ar cI a_t_pointY 200 t_pointY_r, x_ar cI a_t_pointZ 200 t_pointZ_r, x_ar cI a_t_series 32 t_series_r] [x_o9 a_t t_p a_t_given s_t_isLaid s_t_isGood a_t_c s_t_points a_t_pointX a_t_pointY a_t_pointZ a_t_pointFlags s_t_flags a_t_flagPoint a_t_flagU a_t_flagV a_t_flagW a_t_next a_t_series a_t_mix a_t_cofactor s_t_formX s_t_formY s_t_formZ a_t_square t_isNought t_sumT t_sumY, x_ar cI a_t_c 4 s_t_c_r, x_ar cI a_t_cofactor 6 s_t_cofactor_r, x_ar cI a_t_flagPoint 400 s_t_flagPoint_r, x_ar cI a_t_flagU 400 s_t_flagU_r, x_ar cI a_t_flagV 400 s_t_flagV_r, x_ar cI a_t_flagW 400 s_t_flagW_r, x_ar cI a_t_given 12 t_given_r, x_ar cI a_t_next 400 s_t_next_r, x_ar cI a_t_pointFlags 200 s_t_pointFlags_r, x_ar cI a_t_pointX 200 s_t_pointX_r, x_ar cI a_t_pointY 200 s_t_pointY_r, x_ar cI a_t_pointZ 200 s_t_pointZ_r, x_ar cI a_t_series 32 s_t_series_r] r := by
  refine x_CI_of (cc := cX9_series) (maxL := 2) (ty := .int) (own := RX9) (lv0 := [(0, .ref a_t), (1, .int i1)]) (by decide) rfl rfl (Nat.le_of_ble_eq_true rfl) rfl ?_
  intro p e s m args below meth c A Q ls hx hb hml hown hts hN hK hP hD hS hA hl hret
  have iX9 : ∀ w ∈ u_ws RX9 TX9 26, w ∈ wsX9_series := by decide +kernel
  have l47 := hts (.fieldLink RX9 47 "ChordRingsModel" "series" "[I") (by decide +kernel)
  unfold fX9_series at hf
  refine lv_aload_n hx hb dX9_series_0 rfl (lv_at hl 0 rfl) ?_
  obtain ⟨v1, v2, v3, v4, v5, v6, v7, v8, u9, u10, u11, u12, u13, u14, u15, u16, u17, u18, u19, u20, hv1, hf⟩ := o_b20 hf
  refine x_vi (rest := []) (W1 := [x_o9 a_t t_p a_t_given v7 v6 a_t_c v8 a_t_pointX a_t_pointY a_t_pointZ a_t_pointFlags v2 a_t_flagPoint a_t_flagU a_t_flagV a_t_flagW a_t_next a_t_series a_t_mix a_t_cofactor v3 v4 v5 a_t_square t_isNought t_sumT t_sumY, x_ar cI a_t_c 4 u9, x_ar cI a_t_cofactor 6 u10, x_ar cI a_t_flagPoint 400 u11, x_ar cI a_t_flagU 400 u12, x_ar cI a_t_flagV 400 u13, x_ar cI a_t_flagW 400 u14, x_ar cI a_t_given 12 t_given_r, x_ar cI a_t_next 400 u15, x_ar cI a_t_pointFlags 200 u16, x_ar cI a_t_pointX 200 u17, x_ar cI a_t_pointY 200 u18, x_ar cI a_t_pointZ 200 u19, x_ar cI a_t_series 32 u20]) ⟨hx, hb, hml, hown, hts⟩ (tX9_isGood l D cI a_t a_t_given a_t_c a_t_pointX a_t_pointY a_t_pointZ a_t_pointFlags a_t_flagPoint a_t_flagU a_t_flagV a_t_flagW a_t_next a_t_series a_t_mix a_t_cofactor a_t_square t_p t_isLaid t_isGood t_points t_flags t_formX t_formY t_formZ t_isNought t_sumT t_sumY t_c_r t_cofactor_r t_flagPoint_r t_flagU_r t_flagV_r t_flagW_r t_given_r t_next_r t_pointFlags_r t_pointX_r t_pointY_r t_pointZ_r t_series_r v1 v2 v3 v4 v5 v6 v7 v8 u9 u10 u11 u12 u13 u14 u15 u16 u17 u18 u19 u20 hv1) (cwV 0 hts gX9_series_X9_isGood rfl rfl rfl (by decide +kernel) ⟨Nat.le_of_ble_eq_true rfl, Nat.le_of_ble_eq_true rfl⟩) hN hK hP hD hS hA [0, 1, 2, 3, 4, 5, 6, 7, 8, 9, 10, 11, 12, 13] [some 0, some 1, some 2, some 3, some 4, some 5, some 6, some 7, some 8, some 9, some 10, some 11, some 12, some 13] rfl rfl rfl rfl rfl rfl 0 rfl rfl rfl hl.1 rfl (Nat.le_of_ble_eq_true rfl) dX9_series_1 ⟨Nat.zero_le _, Nat.zero_le _⟩ (fun H locs hP hD hS => ?_)
  refine lv_if_ne (tgt := 10) hx hb dX9_series_4 (by decide) (fun hc => ?_) (fun hc => ?_)
  · have hf := o_f hf hc
    refine lv_iload_n hx hb dX9_series_10 rfl (lv_at hl 1 rfl) ?_
    refine lv_iconst (v := 0) hx hb dX9_series_11 (by decide) ?_
    refine lv_bipush (v := 31) hx hb dX9_series_12 (by decide) ?_
    obtain ⟨v21, hv21, hf⟩ := o_b1 hf
    refine x_si (rest := []) ⟨hx, hb, hml, hown, hts⟩ (tX9_in l D cI i1 0 31 v21 hv21) (va_cwS 3 hts gX9_series_X9_in rfl rfl rfl (by decide +kernel) ⟨Nat.le_of_ble_eq_true rfl, Nat.le_of_ble_eq_true rfl⟩) hN hK hP hD hS hA rfl hl.1 rfl (Nat.le_of_ble_eq_true rfl) dX9_series_14 ⟨Nat.zero_le _, Nat.zero_le _⟩ (fun H locs hP hD hS => ?_)
    refine lv_if_eq (tgt := 29) hx hb dX9_series_17 (by decide) (fun hc => ?_) (fun hc => ?_)
    · have hf := o_t hf hc
      refine lv_bipush (v := (-2)) hx hb dX9_series_29 (by decide) ?_
      obtain ⟨rfl, rfl, rfl, rfl, rfl, rfl, rfl, rfl, rfl, rfl, rfl, rfl, rfl, rfl, rfl, rfl, rfl, rfl, rfl, rfl⟩ := o_s20 hf
      exact hret rfl rfl dX9_series_31 hP hD hS
    · have hf := o_f hf hc
      refine lv_aload_n hx hb dX9_series_20 rfl (lv_at hl 0 rfl) ?_
      refine va_get (D := D) (ci := 9) (C := RX9) (T := TX9) (N := 26) hx hb hts iX9 hown hK hP 0 rfl rfl 16 (by decide) l47 (fun _ h9 => h9) rfl dX9_series_21 ?_
      refine lv_iload_n hx hb dX9_series_24 rfl (lv_at hl 1 rfl) ?_
      obtain ⟨v22, hv22, hf⟩ := o_b1 hf
      refine x_ald hx hb hK hP 13 rfl hv22 dX9_series_25 ?_
      refine lv_goto (tgt := 31) hx hb dX9_series_26 (by decide) ?_
      obtain ⟨rfl, rfl, rfl, rfl, rfl, rfl, rfl, rfl, rfl, rfl, rfl, rfl, rfl, rfl, rfl, rfl, rfl, rfl, rfl, rfl⟩ := o_s20 hf
      exact hret rfl rfl dX9_series_31 hP hD hS
  · have hf := o_t hf hc
    refine lv_bipush (v := (-5)) hx hb dX9_series_7 (by decide) ?_
    obtain ⟨rfl, rfl, rfl, rfl, rfl, rfl, rfl, rfl, rfl, rfl, rfl, rfl, rfl, rfl, rfl, rfl, rfl, rfl, rfl, rfl⟩ := o_s20 hf
    exact hret rfl rfl dX9_series_9 hP hD hS
noncomputable def kX9_determinantOf_368 (y11 : Int32) (w12 : (Nat → Int32)) : Option (Int32 × (Nat → Int32)) :=
  some (y11, w12)
noncomputable def kX9_determinantOf_362 (x9 : Int32) (rec93 : Int32 → Int32 → (Nat → Int32) → Option (Int32 × (Nat → Int32))) (v18 : Int32) (w22 : (Nat → Int32)) : Option (Int32 × (Nat → Int32)) :=
  p_nm (x9 + 1) (fun v23 =>
rec93 v18 v23 w22)
noncomputable def kX9_determinantOf_356 (x20 : Int32) (rec255 : Int32 → (Nat → Int32) → Option (Int32 × (Nat → Int32))) (w29 : (Nat → Int32)) : Option (Int32 × (Nat → Int32)) :=
  p_nm (x20 + 1) (fun v30 =>
rec255 v30 w29)
noncomputable def FgX9_determinantOf_297 (t_p : Int32) (y2 : Int32) (x9 : Int32) (x20 : Int32) (v26 : Int32) (rec297 : Int32 → (Nat → Int32) → Option (Int32 × (Nat → Int32))) (kk297 : (Nat → Int32) → Option (Int32 × (Nat → Int32))) (x27 : Int32) (z28 : (Nat → Int32)) : Option (Int32 × (Nat → Int32)) :=
  if y2 ≤ x27 then (kk297 z28) else (p_b1 (p_ld z28 225 ((15 * x20) + x27)) (fun v31 =>
p_b1 (p_ld z28 225 ((15 * x9) + x27)) (fun v32 =>
p_b1 (fX9_of t_p (v31 - (v26 * v32))) (fun v33 =>
p_b1 (p_st z28 225 ((15 * x20) + x27) v33) (fun u34 =>
p_nm (x27 + 1) (fun v35 =>
rec297 v35 u34))))))
noncomputable def gX9_determinantOf_297 (t_p : Int32) (y2 : Int32) (x9 : Int32) (x20 : Int32) (v26 : Int32) (kk297 : (Nat → Int32) → Option (Int32 × (Nat → Int32))) (n : Nat) : Int32 → (Nat → Int32) → Option (Int32 × (Nat → Int32)) := Nat.rec (motive := fun _ => Int32 → (Nat → Int32) → Option (Int32 × (Nat → Int32))) (fun _ _ => none) (fun _ rec297 => FgX9_determinantOf_297 t_p y2 x9 x20 v26 rec297 kk297) n
noncomputable def FgX9_determinantOf_255 (t_p : Int32) (y2 : Int32) (x9 : Int32) (rec255 : Int32 → (Nat → Int32) → Option (Int32 × (Nat → Int32))) (kk255 : (Nat → Int32) → Option (Int32 × (Nat → Int32))) (x20 : Int32) (z21 : (Nat → Int32)) : Option (Int32 × (Nat → Int32)) :=
  if y2 ≤ x20 then (kk255 z21) else (p_b1 (p_ld z21 225 ((15 * x20) + x9)) (fun v24 =>
p_b1 (p_ld z21 225 ((15 * x9) + x9)) (fun v25 =>
p_b1 (fX9_by t_p v24 v25) (fun v26 =>
gX9_determinantOf_297 t_p y2 x9 x20 v26 (kX9_determinantOf_356 x20 rec255) p_FU x9 z21))))
noncomputable def gX9_determinantOf_255 (t_p : Int32) (y2 : Int32) (x9 : Int32) (kk255 : (Nat → Int32) → Option (Int32 × (Nat → Int32))) (n : Nat) : Int32 → (Nat → Int32) → Option (Int32 × (Nat → Int32)) := Nat.rec (motive := fun _ => Int32 → (Nat → Int32) → Option (Int32 × (Nat → Int32))) (fun _ _ => none) (fun _ rec255 => FgX9_determinantOf_255 t_p y2 x9 rec255 kk255) n
noncomputable def jX9_determinantOf_226 (t_p : Int32) (y2 : Int32) (x9 : Int32) (rec93 : Int32 → Int32 → (Nat → Int32) → Option (Int32 × (Nat → Int32))) (y15 : Int32) (w16 : (Nat → Int32)) : Option (Int32 × (Nat → Int32)) :=
  p_b1 (p_ld w16 225 ((15 * x9) + x9)) (fun v17 =>
p_b1 (p_rm (y15 * v17) t_p) (fun v18 =>
p_nm (x9 + 1) (fun v19 =>
gX9_determinantOf_255 t_p y2 x9 (kX9_determinantOf_362 x9 rec93 v18) p_FU v19 w16)))
noncomputable def FgX9_determinantOf_158 (t_p : Int32) (y2 : Int32) (x9 : Int32) (rec93 : Int32 → Int32 → (Nat → Int32) → Option (Int32 × (Nat → Int32))) (y14 : Int32) (v36 : Int32) (rec158 : Int32 → (Nat → Int32) → Option (Int32 × (Nat → Int32))) (x37 : Int32) (z38 : (Nat → Int32)) : Option (Int32 × (Nat → Int32)) :=
  if y2 ≤ x37 then (jX9_determinantOf_226 t_p y2 x9 rec93 v36 z38) else (p_b1 (p_ld z38 225 ((15 * y14) + x37)) (fun v39 =>
p_b1 (p_ld z38 225 ((15 * x9) + x37)) (fun v40 =>
p_b1 (p_st z38 225 ((15 * y14) + x37) v40) (fun u41 =>
p_b1 (p_st u41 225 ((15 * x9) + x37) v39) (fun u42 =>
p_nm (x37 + 1) (fun v43 =>
rec158 v43 u42))))))
noncomputable def gX9_determinantOf_158 (t_p : Int32) (y2 : Int32) (x9 : Int32) (rec93 : Int32 → Int32 → (Nat → Int32) → Option (Int32 × (Nat → Int32))) (y14 : Int32) (v36 : Int32) (n : Nat) : Int32 → (Nat → Int32) → Option (Int32 × (Nat → Int32)) := Nat.rec (motive := fun _ => Int32 → (Nat → Int32) → Option (Int32 × (Nat → Int32))) (fun _ _ => none) (fun _ rec158 => FgX9_determinantOf_158 t_p y2 x9 rec93 y14 v36 rec158) n
noncomputable def kX9_determinantOf_131 (t_p : Int32) (y2 : Int32) (x8 : Int32) (x9 : Int32) (z10 : (Nat → Int32)) (rec93 : Int32 → Int32 → (Nat → Int32) → Option (Int32 × (Nat → Int32))) (y14 : Int32) : Option (Int32 × (Nat → Int32)) :=
  if y14 = y2 then (some (0, z10)) else (if y14 = x9 then (jX9_determinantOf_226 t_p y2 x9 rec93 x8 z10) else (p_b1 (fX9_of t_p (-x8)) (fun v36 =>
gX9_determinantOf_158 t_p y2 x9 rec93 y14 v36 p_FU 0 z10)))
noncomputable def FgX9_determinantOf_103 (y2 : Int32) (x9 : Int32) (z10 : (Nat → Int32)) (rec103 : Int32 → Option (Int32 × (Nat → Int32))) (kk103 : Int32 → Option (Int32 × (Nat → Int32))) (x13 : Int32) : Option (Int32 × (Nat → Int32)) :=
  if y2 ≤ x13 then (kk103 x13) else (p_b1 (p_ld z10 225 ((15 * x13) + x9)) (fun v44 =>
if v44 = 0 then (p_nm (x13 + 1) (fun v45 =>
rec103 v45)) else (kk103 x13)))
noncomputable def gX9_determinantOf_103 (y2 : Int32) (x9 : Int32) (z10 : (Nat → Int32)) (kk103 : Int32 → Option (Int32 × (Nat → Int32))) (n : Nat) : Int32 → Option (Int32 × (Nat → Int32)) := Nat.rec (motive := fun _ => Int32 → Option (Int32 × (Nat → Int32))) (fun _ => none) (fun _ rec103 => FgX9_determinantOf_103 y2 x9 z10 rec103 kk103) n
noncomputable def FgX9_determinantOf_93 (t_p : Int32) (y2 : Int32) (rec93 : Int32 → Int32 → (Nat → Int32) → Option (Int32 × (Nat → Int32))) (kk93 : Int32 → (Nat → Int32) → Option (Int32 × (Nat → Int32))) (x8 : Int32) (x9 : Int32) (z10 : (Nat → Int32)) : Option (Int32 × (Nat → Int32)) :=
  if y2 ≤ x9 then (kk93 x8 z10) else (gX9_determinantOf_103 y2 x9 z10 (kX9_determinantOf_131 t_p y2 x8 x9 z10 rec93) p_FU x9)
noncomputable def gX9_determinantOf_93 (t_p : Int32) (y2 : Int32) (kk93 : Int32 → (Nat → Int32) → Option (Int32 × (Nat → Int32))) (n : Nat) : Int32 → Int32 → (Nat → Int32) → Option (Int32 × (Nat → Int32)) := Nat.rec (motive := fun _ => Int32 → Int32 → (Nat → Int32) → Option (Int32 × (Nat → Int32))) (fun _ _ _ => none) (fun _ rec93 => FgX9_determinantOf_93 t_p y2 rec93 kk93) n
noncomputable def kX9_determinantOf_87 (t_p : Int32) (y2 : Int32) (w7 : (Nat → Int32)) : Option (Int32 × (Nat → Int32)) :=
  gX9_determinantOf_93 t_p y2 (kX9_determinantOf_368) p_FU 1 0 w7
noncomputable def kX9_determinantOf_81 (x5 : Int32) (rec35 : Int32 → (Nat → Int32) → Option (Int32 × (Nat → Int32))) (w48 : (Nat → Int32)) : Option (Int32 × (Nat → Int32)) :=
  p_nm (x5 + 1) (fun v49 =>
rec35 v49 w48)
noncomputable def FgX9_determinantOf_44 (t_series_r : (Nat → Int32)) (y2 : Int32) (y4 : Int32) (x5 : Int32) (rec44 : Int32 → (Nat → Int32) → Option (Int32 × (Nat → Int32))) (kk44 : (Nat → Int32) → Option (Int32 × (Nat → Int32))) (x46 : Int32) (z47 : (Nat → Int32)) : Option (Int32 × (Nat → Int32)) :=
  if y2 ≤ x46 then (kk44 z47) else (p_b1 (p_ld t_series_r 32 ((y4 + x5) + x46)) (fun v50 =>
p_b1 (p_st z47 225 ((15 * x5) + x46) v50) (fun u51 =>
p_nm (x46 + 1) (fun v52 =>
rec44 v52 u51))))
noncomputable def gX9_determinantOf_44 (t_series_r : (Nat → Int32)) (y2 : Int32) (y4 : Int32) (x5 : Int32) (kk44 : (Nat → Int32) → Option (Int32 × (Nat → Int32))) (n : Nat) : Int32 → (Nat → Int32) → Option (Int32 × (Nat → Int32)) := Nat.rec (motive := fun _ => Int32 → (Nat → Int32) → Option (Int32 × (Nat → Int32))) (fun _ _ => none) (fun _ rec44 => FgX9_determinantOf_44 t_series_r y2 y4 x5 rec44 kk44) n
noncomputable def FgX9_determinantOf_35 (t_series_r : (Nat → Int32)) (y2 : Int32) (y4 : Int32) (rec35 : Int32 → (Nat → Int32) → Option (Int32 × (Nat → Int32))) (kk35 : (Nat → Int32) → Option (Int32 × (Nat → Int32))) (x5 : Int32) (z6 : (Nat → Int32)) : Option (Int32 × (Nat → Int32)) :=
  if y2 ≤ x5 then (kk35 z6) else (gX9_determinantOf_44 t_series_r y2 y4 x5 (kX9_determinantOf_81 x5 rec35) p_FU 0 z6)
noncomputable def gX9_determinantOf_35 (t_series_r : (Nat → Int32)) (y2 : Int32) (y4 : Int32) (kk35 : (Nat → Int32) → Option (Int32 × (Nat → Int32))) (n : Nat) : Int32 → (Nat → Int32) → Option (Int32 × (Nat → Int32)) := Nat.rec (motive := fun _ => Int32 → (Nat → Int32) → Option (Int32 × (Nat → Int32))) (fun _ _ => none) (fun _ rec35 => FgX9_determinantOf_35 t_series_r y2 y4 rec35 kk35) n
noncomputable def jX9_determinantOf_31 (t_p : Int32) (t_series_r : (Nat → Int32)) (t_square_r : (Nat → Int32)) (y2 : Int32) (y4 : Int32) : Option (Int32 × (Nat → Int32)) :=
  gX9_determinantOf_35 t_series_r y2 y4 (kX9_determinantOf_87 t_p y2) p_FU 0 t_square_r
noncomputable def jX9_determinantOf_18 (t_p : Int32) (t_series_r : (Nat → Int32)) (t_square_r : (Nat → Int32)) (i1 : Int32) (y2 : Int32) : Option (Int32 × (Nat → Int32)) :=
  p_b1 (p_rm i1 2) (fun v3 =>
if v3 = 1 then (jX9_determinantOf_31 t_p t_series_r t_square_r y2 2) else (jX9_determinantOf_31 t_p t_series_r t_square_r y2 3))
noncomputable def fX9_determinantOf (t_p : Int32) (t_series_r : (Nat → Int32)) (t_square_r : (Nat → Int32)) (i1 : Int32) : Option (Int32 × (Nat → Int32)) :=
  p_b1 (p_rm i1 2) (fun v1 =>
if v1 = 1 then (p_b1 (p_dv i1 2) (fun v54 =>
jX9_determinantOf_18 t_p t_series_r t_square_r i1 v54)) else (p_b1 (p_dv i1 2) (fun v53 =>
jX9_determinantOf_18 t_p t_series_r t_square_r i1 (v53 - 1))))
def rmX9_determinantOf : Room := { frames := 2, cells := 0, slots := 0, locals := 47 }
set_option maxHeartbeats 4000000 in
set_option maxRecDepth 100000 in
theorem tX9_determinantOf (l : Launch) (D : va_G) (cI : ClassId) (a_t : Nat) (a_t_given : Nat) (a_t_c : Nat) (a_t_pointX : Nat) (a_t_pointY : Nat) (a_t_pointZ : Nat) (a_t_pointFlags : Nat) (a_t_flagPoint : Nat) (a_t_flagU : Nat) (a_t_flagV : Nat) (a_t_flagW : Nat) (a_t_next : Nat) (a_t_series : Nat) (a_t_mix : Nat) (a_t_cofactor : Nat) (a_t_square : Nat) (t_p : Int32) (t_isLaid : Int32) (t_isGood : Int32) (t_points : Int32) (t_flags : Int32) (t_formX : Int32) (t_formY : Int32) (t_formZ : Int32) (t_isNought : Int32) (t_sumT : Int32) (t_sumY : Int32) (t_series_r : (Nat → Int32)) (t_square_r : (Nat → Int32)) (i1 : Int32) (r : Int32) (s_t_square_r : (Nat → Int32)) (hf : fX9_determinantOf t_p t_series_r t_square_r i1 = some (r, s_t_square_r)) : x_CI l D cI yX9_determinantOf wsX9_determinantOf rmX9_determinantOf [.ref a_t, .int i1] [x_o9 a_t t_p a_t_given t_isLaid t_isGood a_t_c t_points a_t_pointX a_t_pointY a_t_pointZ a_t_pointFlags t_flags a_t_flagPoint a_t_flagU a_t_flagV a_t_flagW a_t_next a_t_series a_t_mix a_t_cofactor t_formX t_formY t_formZ a_t_square t_isNought t_sumT t_sumY, x_ar cI a_t_series 32 t_series_r, x_ar cI a_t_square 225 t_square_r] [x_o9 a_t t_p a_t_given t_isLaid t_isGood a_t_c t_points a_t_pointX a_t_pointY a_t_pointZ a_t_pointFlags t_flags a_t_flagPoint a_t_flagU a_t_flagV a_t_flagW a_t_next a_t_series a_t_mix a_t_cofactor t_formX t_formY t_formZ a_t_square t_isNought t_sumT t_sumY, x_ar cI a_t_series 32 t_series_r, x_ar cI a_t_square 225 s_t_square_r] r := by
  refine x_CI_of (cc := cX9_determinantOf) (maxL := 10) (ty := .int) (own := RX9) (lv0 := [(0, .ref a_t), (1, .int i1)]) (by decide) rfl rfl (Nat.le_of_ble_eq_true rfl) rfl ?_
  intro p e s m args below meth c A Q ls hx hb hml hown hts hN hK hP hD hS hA hl hret
  have iX9 : ∀ w ∈ u_ws RX9 TX9 26, w ∈ wsX9_determinantOf := by decide +kernel
  have l56 := hts (.fieldLink RX9 56 "ChordRingsModel" "square" "[I") (by decide +kernel)
  have l7 := hts (.fieldLink RX9 7 "ChordRingsModel" "p" "I") (by decide +kernel)
  have l47 := hts (.fieldLink RX9 47 "ChordRingsModel" "series" "[I") (by decide +kernel)
  unfold fX9_determinantOf at hf
  refine lv_iload_n hx hb dX9_determinantOf_0 rfl (lv_at hl 1 rfl) ?_
  refine lv_iconst (v := 2) hx hb dX9_determinantOf_1 (by decide) ?_
  obtain ⟨v1, hv1, hf⟩ := o_b1 hf
  refine x_rm hx hb hv1 dX9_determinantOf_2 ?_
  refine lv_iconst (v := 1) hx hb dX9_determinantOf_3 (by decide) ?_
  have J18 : ∀ (y2 : Int32) (ls : Array Slot) (H : Heap) (locs : List Loc), jX9_determinantOf_18 t_p t_series_r t_square_r i1 y2 = some (r, s_t_square_r) → lv_has ls 10 [(0, .ref a_t), (1, .int i1)] → va_P D vwCl [x_o9 a_t t_p a_t_given t_isLaid t_isGood a_t_c t_points a_t_pointX a_t_pointY a_t_pointZ a_t_pointFlags t_flags a_t_flagPoint a_t_flagU a_t_flagV a_t_flagW a_t_next a_t_series a_t_mix a_t_cofactor t_formX t_formY t_formZ a_t_square t_isNought t_sumT t_sumY, x_ar cI a_t_series 32 t_series_r, x_ar cI a_t_square 225 t_square_r] H → va_D A [x_o9 a_t t_p a_t_given t_isLaid t_isGood a_t_c t_points a_t_pointX a_t_pointY a_t_pointZ a_t_pointFlags t_flags a_t_flagPoint a_t_flagU a_t_flagV a_t_flagW a_t_next a_t_series a_t_mix a_t_cofactor t_formX t_formY t_formZ a_t_square t_isNought t_sumT t_sumY, x_ar cI a_t_series 32 t_series_r, x_ar cI a_t_square 225 t_square_r] → va_S A s.heap H locs → W p l e rmX9_determinantOf s m args below meth c H locs 0 0 Q (F0 m 18 ls [.int y2]) := by
    intro y2 ls H locs hf hl hP hD hS
    unfold jX9_determinantOf_18 at hf
    refine lv_istore_n (lv' := [(2, .int y2), (0, .ref a_t), (1, .int i1)]) hx hb dX9_determinantOf_18 rfl hl (by decide) rfl (fun ls hl => ?_)
    refine lv_iload_n hx hb dX9_determinantOf_19 rfl (lv_at hl 2 rfl) ?_
    refine lv_iconst (v := 2) hx hb dX9_determinantOf_20 (by decide) ?_
    obtain ⟨v3, hv3, hf⟩ := o_b1 hf
    refine x_rm hx hb hv3 dX9_determinantOf_21 ?_
    refine lv_iconst (v := 1) hx hb dX9_determinantOf_22 (by decide) ?_
    have J31 : ∀ (y4 : Int32) (ls : Array Slot) (H : Heap) (locs : List Loc), jX9_determinantOf_31 t_p t_series_r t_square_r y2 y4 = some (r, s_t_square_r) → lv_has ls 10 [(0, .ref a_t), (2, .int y2)] → va_P D vwCl [x_o9 a_t t_p a_t_given t_isLaid t_isGood a_t_c t_points a_t_pointX a_t_pointY a_t_pointZ a_t_pointFlags t_flags a_t_flagPoint a_t_flagU a_t_flagV a_t_flagW a_t_next a_t_series a_t_mix a_t_cofactor t_formX t_formY t_formZ a_t_square t_isNought t_sumT t_sumY, x_ar cI a_t_series 32 t_series_r, x_ar cI a_t_square 225 t_square_r] H → va_D A [x_o9 a_t t_p a_t_given t_isLaid t_isGood a_t_c t_points a_t_pointX a_t_pointY a_t_pointZ a_t_pointFlags t_flags a_t_flagPoint a_t_flagU a_t_flagV a_t_flagW a_t_next a_t_series a_t_mix a_t_cofactor t_formX t_formY t_formZ a_t_square t_isNought t_sumT t_sumY, x_ar cI a_t_series 32 t_series_r, x_ar cI a_t_square 225 t_square_r] → va_S A s.heap H locs → W p l e rmX9_determinantOf s m args below meth c H locs 0 0 Q (F0 m 31 ls [.int y4]) := by
      intro y4 ls H locs hf hl hP hD hS
      unfold jX9_determinantOf_31 at hf
      refine lv_istore_n (lv' := [(3, .int y4), (0, .ref a_t), (2, .int y2)]) hx hb dX9_determinantOf_31 rfl hl (by decide) rfl (fun ls hl => ?_)
      refine lv_iconst (v := 0) hx hb dX9_determinantOf_32 (by decide) ?_
      refine lv_istore (lv' := [(4, .int 0), (3, .int y4), (0, .ref a_t), (2, .int y2)]) hx hb dX9_determinantOf_33 hl (by decide) rfl (fun ls hl => ?_)
      have L35 : ∀ (n : Nat) (x5 : Int32) (z6 : (Nat → Int32)) (ls : Array Slot) (H : Heap) (locs : List Loc), gX9_determinantOf_35 t_series_r y2 y4 (kX9_determinantOf_87 t_p y2) n x5 z6 = some (r, s_t_square_r) → lv_has ls 10 [(0, .ref a_t), (2, .int y2), (3, .int y4), (4, .int x5)] → va_P D vwCl [x_o9 a_t t_p a_t_given t_isLaid t_isGood a_t_c t_points a_t_pointX a_t_pointY a_t_pointZ a_t_pointFlags t_flags a_t_flagPoint a_t_flagU a_t_flagV a_t_flagW a_t_next a_t_series a_t_mix a_t_cofactor t_formX t_formY t_formZ a_t_square t_isNought t_sumT t_sumY, x_ar cI a_t_series 32 t_series_r, x_ar cI a_t_square 225 z6] H → va_D A [x_o9 a_t t_p a_t_given t_isLaid t_isGood a_t_c t_points a_t_pointX a_t_pointY a_t_pointZ a_t_pointFlags t_flags a_t_flagPoint a_t_flagU a_t_flagV a_t_flagW a_t_next a_t_series a_t_mix a_t_cofactor t_formX t_formY t_formZ a_t_square t_isNought t_sumT t_sumY, x_ar cI a_t_series 32 t_series_r, x_ar cI a_t_square 225 z6] → va_S A s.heap H locs → W p l e rmX9_determinantOf s m args below meth c H locs 0 0 Q (F0 m 35 ls []) := by
        intro n35
        induction n35 with
        | zero =>
          intro x5 z6 ls H locs hf
          exact nomatch (show (none : Option (Int32 × (Nat → Int32))) = some (r, s_t_square_r) from hf)
        | succ n35 ih35 =>
          intro x5 z6 ls H locs hf hl hP hD hS
          have hf : FgX9_determinantOf_35 t_series_r y2 y4 (gX9_determinantOf_35 t_series_r y2 y4 (kX9_determinantOf_87 t_p y2) n35) (kX9_determinantOf_87 t_p y2) x5 z6 = some (r, s_t_square_r) := hf
          unfold FgX9_determinantOf_35 at hf
          refine lv_iload hx hb dX9_determinantOf_35 (lv_at hl 3 rfl) ?_
          refine lv_iload_n hx hb dX9_determinantOf_37 rfl (lv_at hl 1 rfl) ?_
          have J87 : ∀ (w7 : (Nat → Int32)) (ls : Array Slot) (H : Heap) (locs : List Loc), kX9_determinantOf_87 t_p y2 w7 = some (r, s_t_square_r) → lv_has ls 10 [(0, .ref a_t), (2, .int y2)] → va_P D vwCl [x_o9 a_t t_p a_t_given t_isLaid t_isGood a_t_c t_points a_t_pointX a_t_pointY a_t_pointZ a_t_pointFlags t_flags a_t_flagPoint a_t_flagU a_t_flagV a_t_flagW a_t_next a_t_series a_t_mix a_t_cofactor t_formX t_formY t_formZ a_t_square t_isNought t_sumT t_sumY, x_ar cI a_t_series 32 t_series_r, x_ar cI a_t_square 225 w7] H → va_D A [x_o9 a_t t_p a_t_given t_isLaid t_isGood a_t_c t_points a_t_pointX a_t_pointY a_t_pointZ a_t_pointFlags t_flags a_t_flagPoint a_t_flagU a_t_flagV a_t_flagW a_t_next a_t_series a_t_mix a_t_cofactor t_formX t_formY t_formZ a_t_square t_isNought t_sumT t_sumY, x_ar cI a_t_series 32 t_series_r, x_ar cI a_t_square 225 w7] → va_S A s.heap H locs → W p l e rmX9_determinantOf s m args below meth c H locs 0 0 Q (F0 m 87 ls []) := by
            intro w7 ls H locs hf hl hP hD hS
            unfold kX9_determinantOf_87 at hf
            refine lv_iconst (v := 1) hx hb dX9_determinantOf_87 (by decide) ?_
            refine lv_istore (lv' := [(4, .int 1), (0, .ref a_t), (2, .int y2)]) hx hb dX9_determinantOf_88 hl (by decide) rfl (fun ls hl => ?_)
            refine lv_iconst (v := 0) hx hb dX9_determinantOf_90 (by decide) ?_
            refine lv_istore (lv' := [(5, .int 0), (4, .int 1), (0, .ref a_t), (2, .int y2)]) hx hb dX9_determinantOf_91 hl (by decide) rfl (fun ls hl => ?_)
            have L93 : ∀ (n : Nat) (x8 : Int32) (x9 : Int32) (z10 : (Nat → Int32)) (ls : Array Slot) (H : Heap) (locs : List Loc), gX9_determinantOf_93 t_p y2 (kX9_determinantOf_368) n x8 x9 z10 = some (r, s_t_square_r) → lv_has ls 10 [(0, .ref a_t), (2, .int y2), (4, .int x8), (5, .int x9)] → va_P D vwCl [x_o9 a_t t_p a_t_given t_isLaid t_isGood a_t_c t_points a_t_pointX a_t_pointY a_t_pointZ a_t_pointFlags t_flags a_t_flagPoint a_t_flagU a_t_flagV a_t_flagW a_t_next a_t_series a_t_mix a_t_cofactor t_formX t_formY t_formZ a_t_square t_isNought t_sumT t_sumY, x_ar cI a_t_series 32 t_series_r, x_ar cI a_t_square 225 z10] H → va_D A [x_o9 a_t t_p a_t_given t_isLaid t_isGood a_t_c t_points a_t_pointX a_t_pointY a_t_pointZ a_t_pointFlags t_flags a_t_flagPoint a_t_flagU a_t_flagV a_t_flagW a_t_next a_t_series a_t_mix a_t_cofactor t_formX t_formY t_formZ a_t_square t_isNought t_sumT t_sumY, x_ar cI a_t_series 32 t_series_r, x_ar cI a_t_square 225 z10] → va_S A s.heap H locs → W p l e rmX9_determinantOf s m args below meth c H locs 0 0 Q (F0 m 93 ls []) := by
              intro n93
              induction n93 with
              | zero =>
                intro x8 x9 z10 ls H locs hf
                exact nomatch (show (none : Option (Int32 × (Nat → Int32))) = some (r, s_t_square_r) from hf)
              | succ n93 ih93 =>
                intro x8 x9 z10 ls H locs hf hl hP hD hS
                have hf : FgX9_determinantOf_93 t_p y2 (gX9_determinantOf_93 t_p y2 (kX9_determinantOf_368) n93) (kX9_determinantOf_368) x8 x9 z10 = some (r, s_t_square_r) := hf
                unfold FgX9_determinantOf_93 at hf
                refine lv_iload hx hb dX9_determinantOf_93 (lv_at hl 3 rfl) ?_
                refine lv_iload_n hx hb dX9_determinantOf_95 rfl (lv_at hl 1 rfl) ?_
                have J368 : ∀ (y11 : Int32) (w12 : (Nat → Int32)) (ls : Array Slot) (H : Heap) (locs : List Loc), kX9_determinantOf_368 y11 w12 = some (r, s_t_square_r) → lv_has ls 10 [(4, .int y11)] → va_P D vwCl [x_o9 a_t t_p a_t_given t_isLaid t_isGood a_t_c t_points a_t_pointX a_t_pointY a_t_pointZ a_t_pointFlags t_flags a_t_flagPoint a_t_flagU a_t_flagV a_t_flagW a_t_next a_t_series a_t_mix a_t_cofactor t_formX t_formY t_formZ a_t_square t_isNought t_sumT t_sumY, x_ar cI a_t_series 32 t_series_r, x_ar cI a_t_square 225 w12] H → va_D A [x_o9 a_t t_p a_t_given t_isLaid t_isGood a_t_c t_points a_t_pointX a_t_pointY a_t_pointZ a_t_pointFlags t_flags a_t_flagPoint a_t_flagU a_t_flagV a_t_flagW a_t_next a_t_series a_t_mix a_t_cofactor t_formX t_formY t_formZ a_t_square t_isNought t_sumT t_sumY, x_ar cI a_t_series 32 t_series_r, x_ar cI a_t_square 225 w12] → va_S A s.heap H locs → W p l e rmX9_determinantOf s m args below meth c H locs 0 0 Q (F0 m 368 ls []) := by
                  intro y11 w12 ls H locs hf hl hP hD hS
                  unfold kX9_determinantOf_368 at hf
                  refine lv_iload hx hb dX9_determinantOf_368 (lv_at hl 0 rfl) ?_
                  obtain ⟨rfl, rfl⟩ := o_s2 hf
                  exact hret rfl rfl dX9_determinantOf_370 hP hD hS
                refine lv_icmp_ge (tgt := 368) hx hb dX9_determinantOf_96 (by decide) (fun hc => ?_) (fun hc => ?_)
                · have hf := o_t hf hc
                  exact J368 x8 z10 _ _ _ hf (lv_sub hl [2] rfl) hP hD hS
                · have hf := o_f hf hc
                  refine lv_iload hx hb dX9_determinantOf_99 (lv_at hl 3 rfl) ?_
                  refine lv_istore (lv' := [(6, .int x9), (0, .ref a_t), (2, .int y2), (4, .int x8), (5, .int x9)]) hx hb dX9_determinantOf_101 hl (by decide) rfl (fun ls hl => ?_)
                  have L103 : ∀ (n : Nat) (x13 : Int32) (ls : Array Slot) (H : Heap) (locs : List Loc), gX9_determinantOf_103 y2 x9 z10 (kX9_determinantOf_131 t_p y2 x8 x9 z10 (gX9_determinantOf_93 t_p y2 (kX9_determinantOf_368) n93)) n x13 = some (r, s_t_square_r) → lv_has ls 10 [(0, .ref a_t), (2, .int y2), (4, .int x8), (5, .int x9), (6, .int x13)] → va_P D vwCl [x_o9 a_t t_p a_t_given t_isLaid t_isGood a_t_c t_points a_t_pointX a_t_pointY a_t_pointZ a_t_pointFlags t_flags a_t_flagPoint a_t_flagU a_t_flagV a_t_flagW a_t_next a_t_series a_t_mix a_t_cofactor t_formX t_formY t_formZ a_t_square t_isNought t_sumT t_sumY, x_ar cI a_t_series 32 t_series_r, x_ar cI a_t_square 225 z10] H → va_D A [x_o9 a_t t_p a_t_given t_isLaid t_isGood a_t_c t_points a_t_pointX a_t_pointY a_t_pointZ a_t_pointFlags t_flags a_t_flagPoint a_t_flagU a_t_flagV a_t_flagW a_t_next a_t_series a_t_mix a_t_cofactor t_formX t_formY t_formZ a_t_square t_isNought t_sumT t_sumY, x_ar cI a_t_series 32 t_series_r, x_ar cI a_t_square 225 z10] → va_S A s.heap H locs → W p l e rmX9_determinantOf s m args below meth c H locs 0 0 Q (F0 m 103 ls []) := by
                    intro n103
                    induction n103 with
                    | zero =>
                      intro x13 ls H locs hf
                      exact nomatch (show (none : Option (Int32 × (Nat → Int32))) = some (r, s_t_square_r) from hf)
                    | succ n103 ih103 =>
                      intro x13 ls H locs hf hl hP hD hS
                      have hf : FgX9_determinantOf_103 y2 x9 z10 (gX9_determinantOf_103 y2 x9 z10 (kX9_determinantOf_131 t_p y2 x8 x9 z10 (gX9_determinantOf_93 t_p y2 (kX9_determinantOf_368) n93)) n103) (kX9_determinantOf_131 t_p y2 x8 x9 z10 (gX9_determinantOf_93 t_p y2 (kX9_determinantOf_368) n93)) x13 = some (r, s_t_square_r) := hf
                      unfold FgX9_determinantOf_103 at hf
                      refine lv_iload hx hb dX9_determinantOf_103 (lv_at hl 4 rfl) ?_
                      refine lv_iload_n hx hb dX9_determinantOf_105 rfl (lv_at hl 1 rfl) ?_
                      have J131 : ∀ (y14 : Int32) (ls : Array Slot) (H : Heap) (locs : List Loc), kX9_determinantOf_131 t_p y2 x8 x9 z10 (gX9_determinantOf_93 t_p y2 (kX9_determinantOf_368) n93) y14 = some (r, s_t_square_r) → lv_has ls 10 [(0, .ref a_t), (2, .int y2), (4, .int x8), (5, .int x9), (6, .int y14)] → va_P D vwCl [x_o9 a_t t_p a_t_given t_isLaid t_isGood a_t_c t_points a_t_pointX a_t_pointY a_t_pointZ a_t_pointFlags t_flags a_t_flagPoint a_t_flagU a_t_flagV a_t_flagW a_t_next a_t_series a_t_mix a_t_cofactor t_formX t_formY t_formZ a_t_square t_isNought t_sumT t_sumY, x_ar cI a_t_series 32 t_series_r, x_ar cI a_t_square 225 z10] H → va_D A [x_o9 a_t t_p a_t_given t_isLaid t_isGood a_t_c t_points a_t_pointX a_t_pointY a_t_pointZ a_t_pointFlags t_flags a_t_flagPoint a_t_flagU a_t_flagV a_t_flagW a_t_next a_t_series a_t_mix a_t_cofactor t_formX t_formY t_formZ a_t_square t_isNought t_sumT t_sumY, x_ar cI a_t_series 32 t_series_r, x_ar cI a_t_square 225 z10] → va_S A s.heap H locs → W p l e rmX9_determinantOf s m args below meth c H locs 0 0 Q (F0 m 131 ls []) := by
                        intro y14 ls H locs hf hl hP hD hS
                        unfold kX9_determinantOf_131 at hf
                        refine lv_iload hx hb dX9_determinantOf_131 (lv_at hl 4 rfl) ?_
                        refine lv_iload_n hx hb dX9_determinantOf_133 rfl (lv_at hl 1 rfl) ?_
                        refine lv_icmp_ne (tgt := 139) hx hb dX9_determinantOf_134 (by decide) (fun hc => ?_) (fun hc => ?_)
                        · have hf := o_f hf hc
                          refine lv_iload hx hb dX9_determinantOf_139 (lv_at hl 4 rfl) ?_
                          refine lv_iload hx hb dX9_determinantOf_141 (lv_at hl 3 rfl) ?_
                          have J226 : ∀ (y15 : Int32) (w16 : (Nat → Int32)) (ls : Array Slot) (H : Heap) (locs : List Loc), jX9_determinantOf_226 t_p y2 x9 (gX9_determinantOf_93 t_p y2 (kX9_determinantOf_368) n93) y15 w16 = some (r, s_t_square_r) → lv_has ls 10 [(0, .ref a_t), (2, .int y2), (4, .int y15), (5, .int x9)] → va_P D vwCl [x_o9 a_t t_p a_t_given t_isLaid t_isGood a_t_c t_points a_t_pointX a_t_pointY a_t_pointZ a_t_pointFlags t_flags a_t_flagPoint a_t_flagU a_t_flagV a_t_flagW a_t_next a_t_series a_t_mix a_t_cofactor t_formX t_formY t_formZ a_t_square t_isNought t_sumT t_sumY, x_ar cI a_t_series 32 t_series_r, x_ar cI a_t_square 225 w16] H → va_D A [x_o9 a_t t_p a_t_given t_isLaid t_isGood a_t_c t_points a_t_pointX a_t_pointY a_t_pointZ a_t_pointFlags t_flags a_t_flagPoint a_t_flagU a_t_flagV a_t_flagW a_t_next a_t_series a_t_mix a_t_cofactor t_formX t_formY t_formZ a_t_square t_isNought t_sumT t_sumY, x_ar cI a_t_series 32 t_series_r, x_ar cI a_t_square 225 w16] → va_S A s.heap H locs → W p l e rmX9_determinantOf s m args below meth c H locs 0 0 Q (F0 m 226 ls []) := by
                            intro y15 w16 ls H locs hf hl hP hD hS
                            unfold jX9_determinantOf_226 at hf
                            refine lv_iload hx hb dX9_determinantOf_226 (lv_at hl 2 rfl) ?_
                            refine lv_aload_n hx hb dX9_determinantOf_228 rfl (lv_at hl 0 rfl) ?_
                            refine va_get (D := D) (ci := 9) (C := RX9) (T := TX9) (N := 26) hx hb hts iX9 hown hK hP 0 rfl rfl 22 (by decide) l56 (fun _ h9 => h9) rfl dX9_determinantOf_229 ?_
                            refine lv_bipush (v := 15) hx hb dX9_determinantOf_232 (by decide) ?_
                            refine lv_iload hx hb dX9_determinantOf_234 (lv_at hl 3 rfl) ?_
                            refine lv_imul hx hb dX9_determinantOf_236 ?_
                            refine lv_iload hx hb dX9_determinantOf_237 (lv_at hl 3 rfl) ?_
                            refine lv_iadd hx hb dX9_determinantOf_239 ?_
                            obtain ⟨v17, hv17, hf⟩ := o_b1 hf
                            refine x_ald hx hb hK hP 2 rfl hv17 dX9_determinantOf_240 ?_
                            refine lv_imul hx hb dX9_determinantOf_241 ?_
                            refine lv_aload_n hx hb dX9_determinantOf_242 rfl (lv_at hl 0 rfl) ?_
                            refine va_get (D := D) (ci := 9) (C := RX9) (T := TX9) (N := 26) hx hb hts iX9 hown hK hP 0 rfl rfl 0 (by decide) l7 (fun _ h9 => h9) rfl dX9_determinantOf_243 ?_
                            obtain ⟨v18, hv18, hf⟩ := o_b1 hf
                            refine x_rm hx hb hv18 dX9_determinantOf_246 ?_
                            refine lv_istore (lv' := [(4, .int v18), (0, .ref a_t), (2, .int y2), (5, .int x9)]) hx hb dX9_determinantOf_247 hl (by decide) rfl (fun ls hl => ?_)
                            refine lv_iload hx hb dX9_determinantOf_249 (lv_at hl 3 rfl) ?_
                            refine lv_iconst (v := 1) hx hb dX9_determinantOf_251 (by decide) ?_
                            refine lv_iadd hx hb dX9_determinantOf_252 ?_
                            obtain ⟨v19, ev19, hf⟩ := o_nm hf
                            refine x_top ev19 ?_
                            refine lv_istore (lv' := [(7, .int v19), (4, .int v18), (0, .ref a_t), (2, .int y2), (5, .int x9)]) hx hb dX9_determinantOf_253 hl (by decide) rfl (fun ls hl => ?_)
                            have L255 : ∀ (n : Nat) (x20 : Int32) (z21 : (Nat → Int32)) (ls : Array Slot) (H : Heap) (locs : List Loc), gX9_determinantOf_255 t_p y2 x9 (kX9_determinantOf_362 x9 (gX9_determinantOf_93 t_p y2 (kX9_determinantOf_368) n93) v18) n x20 z21 = some (r, s_t_square_r) → lv_has ls 10 [(0, .ref a_t), (2, .int y2), (4, .int v18), (5, .int x9), (7, .int x20)] → va_P D vwCl [x_o9 a_t t_p a_t_given t_isLaid t_isGood a_t_c t_points a_t_pointX a_t_pointY a_t_pointZ a_t_pointFlags t_flags a_t_flagPoint a_t_flagU a_t_flagV a_t_flagW a_t_next a_t_series a_t_mix a_t_cofactor t_formX t_formY t_formZ a_t_square t_isNought t_sumT t_sumY, x_ar cI a_t_series 32 t_series_r, x_ar cI a_t_square 225 z21] H → va_D A [x_o9 a_t t_p a_t_given t_isLaid t_isGood a_t_c t_points a_t_pointX a_t_pointY a_t_pointZ a_t_pointFlags t_flags a_t_flagPoint a_t_flagU a_t_flagV a_t_flagW a_t_next a_t_series a_t_mix a_t_cofactor t_formX t_formY t_formZ a_t_square t_isNought t_sumT t_sumY, x_ar cI a_t_series 32 t_series_r, x_ar cI a_t_square 225 z21] → va_S A s.heap H locs → W p l e rmX9_determinantOf s m args below meth c H locs 0 0 Q (F0 m 255 ls []) := by
                              intro n255
                              induction n255 with
                              | zero =>
                                intro x20 z21 ls H locs hf
                                exact nomatch (show (none : Option (Int32 × (Nat → Int32))) = some (r, s_t_square_r) from hf)
                              | succ n255 ih255 =>
                                intro x20 z21 ls H locs hf hl hP hD hS
                                have hf : FgX9_determinantOf_255 t_p y2 x9 (gX9_determinantOf_255 t_p y2 x9 (kX9_determinantOf_362 x9 (gX9_determinantOf_93 t_p y2 (kX9_determinantOf_368) n93) v18) n255) (kX9_determinantOf_362 x9 (gX9_determinantOf_93 t_p y2 (kX9_determinantOf_368) n93) v18) x20 z21 = some (r, s_t_square_r) := hf
                                unfold FgX9_determinantOf_255 at hf
                                refine lv_iload hx hb dX9_determinantOf_255 (lv_at hl 4 rfl) ?_
                                refine lv_iload_n hx hb dX9_determinantOf_257 rfl (lv_at hl 1 rfl) ?_
                                have J362 : ∀ (w22 : (Nat → Int32)) (ls : Array Slot) (H : Heap) (locs : List Loc), kX9_determinantOf_362 x9 (gX9_determinantOf_93 t_p y2 (kX9_determinantOf_368) n93) v18 w22 = some (r, s_t_square_r) → lv_has ls 10 [(0, .ref a_t), (2, .int y2), (4, .int v18), (5, .int x9)] → va_P D vwCl [x_o9 a_t t_p a_t_given t_isLaid t_isGood a_t_c t_points a_t_pointX a_t_pointY a_t_pointZ a_t_pointFlags t_flags a_t_flagPoint a_t_flagU a_t_flagV a_t_flagW a_t_next a_t_series a_t_mix a_t_cofactor t_formX t_formY t_formZ a_t_square t_isNought t_sumT t_sumY, x_ar cI a_t_series 32 t_series_r, x_ar cI a_t_square 225 w22] H → va_D A [x_o9 a_t t_p a_t_given t_isLaid t_isGood a_t_c t_points a_t_pointX a_t_pointY a_t_pointZ a_t_pointFlags t_flags a_t_flagPoint a_t_flagU a_t_flagV a_t_flagW a_t_next a_t_series a_t_mix a_t_cofactor t_formX t_formY t_formZ a_t_square t_isNought t_sumT t_sumY, x_ar cI a_t_series 32 t_series_r, x_ar cI a_t_square 225 w22] → va_S A s.heap H locs → W p l e rmX9_determinantOf s m args below meth c H locs 0 0 Q (F0 m 362 ls []) := by
                                  intro w22 ls H locs hf hl hP hD hS
                                  unfold kX9_determinantOf_362 at hf
                                  obtain ⟨v23, ev23, hf⟩ := o_nm hf
                                  refine lv_iinc (v := v23) (lv' := [(5, .int v23), (0, .ref a_t), (2, .int y2), (4, .int v18)]) hx hb dX9_determinantOf_362 hl (k := 3) rfl (by rw [ev23]; rfl) (by decide) rfl (fun ls hl => ?_)
                                  refine lv_goto (tgt := 93) hx hb dX9_determinantOf_365 (by decide) ?_
                                  exact ih93 v18 v23 w22 _ _ _ hf (lv_sub hl [1, 2, 3, 0] rfl) hP hD hS
                                refine lv_icmp_ge (tgt := 362) hx hb dX9_determinantOf_258 (by decide) (fun hc => ?_) (fun hc => ?_)
                                · have hf := o_t hf hc
                                  exact J362 z21 _ _ _ hf (lv_sub hl [0, 1, 2, 3] rfl) hP hD hS
                                · have hf := o_f hf hc
                                  refine lv_aload_n hx hb dX9_determinantOf_261 rfl (lv_at hl 0 rfl) ?_
                                  refine lv_aload_n hx hb dX9_determinantOf_262 rfl (lv_at hl 0 rfl) ?_
                                  refine va_get (D := D) (ci := 9) (C := RX9) (T := TX9) (N := 26) hx hb hts iX9 hown hK hP 0 rfl rfl 22 (by decide) l56 (fun _ h9 => h9) rfl dX9_determinantOf_263 ?_
                                  refine lv_bipush (v := 15) hx hb dX9_determinantOf_266 (by decide) ?_
                                  refine lv_iload hx hb dX9_determinantOf_268 (lv_at hl 4 rfl) ?_
                                  refine lv_imul hx hb dX9_determinantOf_270 ?_
                                  refine lv_iload hx hb dX9_determinantOf_271 (lv_at hl 3 rfl) ?_
                                  refine lv_iadd hx hb dX9_determinantOf_273 ?_
                                  obtain ⟨v24, hv24, hf⟩ := o_b1 hf
                                  refine x_ald hx hb hK hP 2 rfl hv24 dX9_determinantOf_274 ?_
                                  refine lv_aload_n hx hb dX9_determinantOf_275 rfl (lv_at hl 0 rfl) ?_
                                  refine va_get (D := D) (ci := 9) (C := RX9) (T := TX9) (N := 26) hx hb hts iX9 hown hK hP 0 rfl rfl 22 (by decide) l56 (fun _ h9 => h9) rfl dX9_determinantOf_276 ?_
                                  refine lv_bipush (v := 15) hx hb dX9_determinantOf_279 (by decide) ?_
                                  refine lv_iload hx hb dX9_determinantOf_281 (lv_at hl 3 rfl) ?_
                                  refine lv_imul hx hb dX9_determinantOf_283 ?_
                                  refine lv_iload hx hb dX9_determinantOf_284 (lv_at hl 3 rfl) ?_
                                  refine lv_iadd hx hb dX9_determinantOf_286 ?_
                                  obtain ⟨v25, hv25, hf⟩ := o_b1 hf
                                  refine x_ald hx hb hK hP 2 rfl hv25 dX9_determinantOf_287 ?_
                                  obtain ⟨v26, hv26, hf⟩ := o_b1 hf
                                  refine x_vi (rest := []) (W1 := [x_o9 a_t t_p a_t_given t_isLaid t_isGood a_t_c t_points a_t_pointX a_t_pointY a_t_pointZ a_t_pointFlags t_flags a_t_flagPoint a_t_flagU a_t_flagV a_t_flagW a_t_next a_t_series a_t_mix a_t_cofactor t_formX t_formY t_formZ a_t_square t_isNought t_sumT t_sumY, x_ar cI a_t_series 32 t_series_r, x_ar cI a_t_square 225 z21]) ⟨hx, hb, hml, hown, hts⟩ (tX9_by l D cI a_t a_t_given a_t_c a_t_pointX a_t_pointY a_t_pointZ a_t_pointFlags a_t_flagPoint a_t_flagU a_t_flagV a_t_flagW a_t_next a_t_series a_t_mix a_t_cofactor a_t_square t_p t_isLaid t_isGood t_points t_flags t_formX t_formY t_formZ t_isNought t_sumT t_sumY v24 v25 v26 hv26) (cwV 2 hts gX9_determinantOf_X9_by rfl rfl rfl (by decide +kernel) ⟨Nat.le_of_ble_eq_true rfl, Nat.le_of_ble_eq_true rfl⟩) hN hK hP hD hS hA [0] [some 0, none, none] rfl rfl rfl rfl rfl rfl 0 rfl rfl rfl hl.1 rfl (Nat.le_of_ble_eq_true rfl) dX9_determinantOf_288 ⟨Nat.zero_le _, Nat.zero_le _⟩ (fun H locs hP hD hS => ?_)
                                  refine lv_istore (lv' := [(8, .int v26), (0, .ref a_t), (2, .int y2), (4, .int v18), (5, .int x9), (7, .int x20)]) hx hb dX9_determinantOf_291 hl (by decide) rfl (fun ls hl => ?_)
                                  refine lv_iload hx hb dX9_determinantOf_293 (lv_at hl 4 rfl) ?_
                                  refine lv_istore (lv' := [(9, .int x9), (8, .int v26), (0, .ref a_t), (2, .int y2), (4, .int v18), (5, .int x9), (7, .int x20)]) hx hb dX9_determinantOf_295 hl (by decide) rfl (fun ls hl => ?_)
                                  have L297 : ∀ (n : Nat) (x27 : Int32) (z28 : (Nat → Int32)) (ls : Array Slot) (H : Heap) (locs : List Loc), gX9_determinantOf_297 t_p y2 x9 x20 v26 (kX9_determinantOf_356 x20 (gX9_determinantOf_255 t_p y2 x9 (kX9_determinantOf_362 x9 (gX9_determinantOf_93 t_p y2 (kX9_determinantOf_368) n93) v18) n255)) n x27 z28 = some (r, s_t_square_r) → lv_has ls 10 [(0, .ref a_t), (2, .int y2), (4, .int v18), (5, .int x9), (7, .int x20), (8, .int v26), (9, .int x27)] → va_P D vwCl [x_o9 a_t t_p a_t_given t_isLaid t_isGood a_t_c t_points a_t_pointX a_t_pointY a_t_pointZ a_t_pointFlags t_flags a_t_flagPoint a_t_flagU a_t_flagV a_t_flagW a_t_next a_t_series a_t_mix a_t_cofactor t_formX t_formY t_formZ a_t_square t_isNought t_sumT t_sumY, x_ar cI a_t_series 32 t_series_r, x_ar cI a_t_square 225 z28] H → va_D A [x_o9 a_t t_p a_t_given t_isLaid t_isGood a_t_c t_points a_t_pointX a_t_pointY a_t_pointZ a_t_pointFlags t_flags a_t_flagPoint a_t_flagU a_t_flagV a_t_flagW a_t_next a_t_series a_t_mix a_t_cofactor t_formX t_formY t_formZ a_t_square t_isNought t_sumT t_sumY, x_ar cI a_t_series 32 t_series_r, x_ar cI a_t_square 225 z28] → va_S A s.heap H locs → W p l e rmX9_determinantOf s m args below meth c H locs 0 0 Q (F0 m 297 ls []) := by
                                    intro n297
                                    induction n297 with
                                    | zero =>
                                      intro x27 z28 ls H locs hf
                                      exact nomatch (show (none : Option (Int32 × (Nat → Int32))) = some (r, s_t_square_r) from hf)
                                    | succ n297 ih297 =>
                                      intro x27 z28 ls H locs hf hl hP hD hS
                                      have hf : FgX9_determinantOf_297 t_p y2 x9 x20 v26 (gX9_determinantOf_297 t_p y2 x9 x20 v26 (kX9_determinantOf_356 x20 (gX9_determinantOf_255 t_p y2 x9 (kX9_determinantOf_362 x9 (gX9_determinantOf_93 t_p y2 (kX9_determinantOf_368) n93) v18) n255)) n297) (kX9_determinantOf_356 x20 (gX9_determinantOf_255 t_p y2 x9 (kX9_determinantOf_362 x9 (gX9_determinantOf_93 t_p y2 (kX9_determinantOf_368) n93) v18) n255)) x27 z28 = some (r, s_t_square_r) := hf
                                      unfold FgX9_determinantOf_297 at hf
                                      refine lv_iload hx hb dX9_determinantOf_297 (lv_at hl 6 rfl) ?_
                                      refine lv_iload_n hx hb dX9_determinantOf_299 rfl (lv_at hl 1 rfl) ?_
                                      have J356 : ∀ (w29 : (Nat → Int32)) (ls : Array Slot) (H : Heap) (locs : List Loc), kX9_determinantOf_356 x20 (gX9_determinantOf_255 t_p y2 x9 (kX9_determinantOf_362 x9 (gX9_determinantOf_93 t_p y2 (kX9_determinantOf_368) n93) v18) n255) w29 = some (r, s_t_square_r) → lv_has ls 10 [(0, .ref a_t), (2, .int y2), (4, .int v18), (5, .int x9), (7, .int x20)] → va_P D vwCl [x_o9 a_t t_p a_t_given t_isLaid t_isGood a_t_c t_points a_t_pointX a_t_pointY a_t_pointZ a_t_pointFlags t_flags a_t_flagPoint a_t_flagU a_t_flagV a_t_flagW a_t_next a_t_series a_t_mix a_t_cofactor t_formX t_formY t_formZ a_t_square t_isNought t_sumT t_sumY, x_ar cI a_t_series 32 t_series_r, x_ar cI a_t_square 225 w29] H → va_D A [x_o9 a_t t_p a_t_given t_isLaid t_isGood a_t_c t_points a_t_pointX a_t_pointY a_t_pointZ a_t_pointFlags t_flags a_t_flagPoint a_t_flagU a_t_flagV a_t_flagW a_t_next a_t_series a_t_mix a_t_cofactor t_formX t_formY t_formZ a_t_square t_isNought t_sumT t_sumY, x_ar cI a_t_series 32 t_series_r, x_ar cI a_t_square 225 w29] → va_S A s.heap H locs → W p l e rmX9_determinantOf s m args below meth c H locs 0 0 Q (F0 m 356 ls []) := by
                                        intro w29 ls H locs hf hl hP hD hS
                                        unfold kX9_determinantOf_356 at hf
                                        obtain ⟨v30, ev30, hf⟩ := o_nm hf
                                        refine lv_iinc (v := v30) (lv' := [(7, .int v30), (0, .ref a_t), (2, .int y2), (4, .int v18), (5, .int x9)]) hx hb dX9_determinantOf_356 hl (k := 4) rfl (by rw [ev30]; rfl) (by decide) rfl (fun ls hl => ?_)
                                        refine lv_goto (tgt := 255) hx hb dX9_determinantOf_359 (by decide) ?_
                                        exact ih255 v30 w29 _ _ _ hf (lv_sub hl [1, 2, 3, 4, 0] rfl) hP hD hS
                                      refine lv_icmp_ge (tgt := 356) hx hb dX9_determinantOf_300 (by decide) (fun hc => ?_) (fun hc => ?_)
                                      · have hf := o_t hf hc
                                        exact J356 z28 _ _ _ hf (lv_sub hl [0, 1, 2, 3, 4] rfl) hP hD hS
                                      · have hf := o_f hf hc
                                        refine lv_aload_n hx hb dX9_determinantOf_303 rfl (lv_at hl 0 rfl) ?_
                                        refine va_get (D := D) (ci := 9) (C := RX9) (T := TX9) (N := 26) hx hb hts iX9 hown hK hP 0 rfl rfl 22 (by decide) l56 (fun _ h9 => h9) rfl dX9_determinantOf_304 ?_
                                        refine lv_bipush (v := 15) hx hb dX9_determinantOf_307 (by decide) ?_
                                        refine lv_iload hx hb dX9_determinantOf_309 (lv_at hl 4 rfl) ?_
                                        refine lv_imul hx hb dX9_determinantOf_311 ?_
                                        refine lv_iload hx hb dX9_determinantOf_312 (lv_at hl 6 rfl) ?_
                                        refine lv_iadd hx hb dX9_determinantOf_314 ?_
                                        refine lv_aload_n hx hb dX9_determinantOf_315 rfl (lv_at hl 0 rfl) ?_
                                        refine lv_aload_n hx hb dX9_determinantOf_316 rfl (lv_at hl 0 rfl) ?_
                                        refine va_get (D := D) (ci := 9) (C := RX9) (T := TX9) (N := 26) hx hb hts iX9 hown hK hP 0 rfl rfl 22 (by decide) l56 (fun _ h9 => h9) rfl dX9_determinantOf_317 ?_
                                        refine lv_bipush (v := 15) hx hb dX9_determinantOf_320 (by decide) ?_
                                        refine lv_iload hx hb dX9_determinantOf_322 (lv_at hl 4 rfl) ?_
                                        refine lv_imul hx hb dX9_determinantOf_324 ?_
                                        refine lv_iload hx hb dX9_determinantOf_325 (lv_at hl 6 rfl) ?_
                                        refine lv_iadd hx hb dX9_determinantOf_327 ?_
                                        obtain ⟨v31, hv31, hf⟩ := o_b1 hf
                                        refine x_ald hx hb hK hP 2 rfl hv31 dX9_determinantOf_328 ?_
                                        refine lv_iload hx hb dX9_determinantOf_329 (lv_at hl 5 rfl) ?_
                                        refine lv_aload_n hx hb dX9_determinantOf_331 rfl (lv_at hl 0 rfl) ?_
                                        refine va_get (D := D) (ci := 9) (C := RX9) (T := TX9) (N := 26) hx hb hts iX9 hown hK hP 0 rfl rfl 22 (by decide) l56 (fun _ h9 => h9) rfl dX9_determinantOf_332 ?_
                                        refine lv_bipush (v := 15) hx hb dX9_determinantOf_335 (by decide) ?_
                                        refine lv_iload hx hb dX9_determinantOf_337 (lv_at hl 3 rfl) ?_
                                        refine lv_imul hx hb dX9_determinantOf_339 ?_
                                        refine lv_iload hx hb dX9_determinantOf_340 (lv_at hl 6 rfl) ?_
                                        refine lv_iadd hx hb dX9_determinantOf_342 ?_
                                        obtain ⟨v32, hv32, hf⟩ := o_b1 hf
                                        refine x_ald hx hb hK hP 2 rfl hv32 dX9_determinantOf_343 ?_
                                        refine lv_imul hx hb dX9_determinantOf_344 ?_
                                        refine lv_isub hx hb dX9_determinantOf_345 ?_
                                        obtain ⟨v33, hv33, hf⟩ := o_b1 hf
                                        refine x_vi (rest := [.int ((15 * x20) + x27), .ref a_t_square]) (W1 := [x_o9 a_t t_p a_t_given t_isLaid t_isGood a_t_c t_points a_t_pointX a_t_pointY a_t_pointZ a_t_pointFlags t_flags a_t_flagPoint a_t_flagU a_t_flagV a_t_flagW a_t_next a_t_series a_t_mix a_t_cofactor t_formX t_formY t_formZ a_t_square t_isNought t_sumT t_sumY, x_ar cI a_t_series 32 t_series_r, x_ar cI a_t_square 225 z28]) ⟨hx, hb, hml, hown, hts⟩ (tX9_of l D cI a_t a_t_given a_t_c a_t_pointX a_t_pointY a_t_pointZ a_t_pointFlags a_t_flagPoint a_t_flagU a_t_flagV a_t_flagW a_t_next a_t_series a_t_mix a_t_cofactor a_t_square t_p t_isLaid t_isGood t_points t_flags t_formX t_formY t_formZ t_isNought t_sumT t_sumY (v31 - (v26 * v32)) v33 hv33) (cwV 1 hts gX9_determinantOf_X9_of rfl rfl rfl (by decide +kernel) ⟨Nat.le_of_ble_eq_true rfl, Nat.le_of_ble_eq_true rfl⟩) hN hK hP hD hS hA [0] [some 0, none, none] rfl rfl rfl rfl rfl rfl 0 rfl rfl rfl hl.1 rfl (Nat.le_of_ble_eq_true rfl) dX9_determinantOf_346 ⟨Nat.zero_le _, Nat.zero_le _⟩ (fun H locs hP hD hS => ?_)
                                        obtain ⟨u34, hu34, hf⟩ := o_b1 hf
                                        refine x_ast (W1 := [x_o9 a_t t_p a_t_given t_isLaid t_isGood a_t_c t_points a_t_pointX a_t_pointY a_t_pointZ a_t_pointFlags t_flags a_t_flagPoint a_t_flagU a_t_flagV a_t_flagW a_t_next a_t_series a_t_mix a_t_cofactor t_formX t_formY t_formZ a_t_square t_isNought t_sumT t_sumY, x_ar cI a_t_series 32 t_series_r, x_ar cI a_t_square 225 u34]) hx hb hK hP hD hS 2 rfl hu34 rfl dX9_determinantOf_349 (fun H locs hP hD hS => ?_)
                                        obtain ⟨v35, ev35, hf⟩ := o_nm hf
                                        refine lv_iinc (v := v35) (lv' := [(9, .int v35), (0, .ref a_t), (2, .int y2), (4, .int v18), (5, .int x9), (7, .int x20), (8, .int v26)]) hx hb dX9_determinantOf_350 hl (k := 6) rfl (by rw [ev35]; rfl) (by decide) rfl (fun ls hl => ?_)
                                        refine lv_goto (tgt := 297) hx hb dX9_determinantOf_353 (by decide) ?_
                                        exact ih297 v35 u34 _ _ _ hf (lv_sub hl [1, 2, 3, 4, 5, 6, 0] rfl) hP hD hS
                                  exact L297 p_FU x9 z21 _ _ _ hf (lv_sub hl [2, 3, 4, 5, 6, 1, 0] rfl) hP hD hS
                            exact L255 p_FU v19 w16 _ _ _ hf (lv_sub hl [2, 3, 1, 4, 0] rfl) hP hD hS
                          refine lv_icmp_eq (tgt := 226) hx hb dX9_determinantOf_143 (by decide) (fun hc => ?_) (fun hc => ?_)
                          · have hf := o_t hf hc
                            exact J226 x8 z10 _ _ _ hf (lv_sub hl [0, 1, 2, 3] rfl) hP hD hS
                          · have hf := o_f hf hc
                            refine lv_aload_n hx hb dX9_determinantOf_146 rfl (lv_at hl 0 rfl) ?_
                            refine lv_iload hx hb dX9_determinantOf_147 (lv_at hl 2 rfl) ?_
                            refine lv_ineg hx hb dX9_determinantOf_149 ?_
                            obtain ⟨v36, hv36, hf⟩ := o_b1 hf
                            refine x_vi (rest := []) (W1 := [x_o9 a_t t_p a_t_given t_isLaid t_isGood a_t_c t_points a_t_pointX a_t_pointY a_t_pointZ a_t_pointFlags t_flags a_t_flagPoint a_t_flagU a_t_flagV a_t_flagW a_t_next a_t_series a_t_mix a_t_cofactor t_formX t_formY t_formZ a_t_square t_isNought t_sumT t_sumY, x_ar cI a_t_series 32 t_series_r, x_ar cI a_t_square 225 z10]) ⟨hx, hb, hml, hown, hts⟩ (tX9_of l D cI a_t a_t_given a_t_c a_t_pointX a_t_pointY a_t_pointZ a_t_pointFlags a_t_flagPoint a_t_flagU a_t_flagV a_t_flagW a_t_next a_t_series a_t_mix a_t_cofactor a_t_square t_p t_isLaid t_isGood t_points t_flags t_formX t_formY t_formZ t_isNought t_sumT t_sumY (-x8) v36 hv36) (cwV 1 hts gX9_determinantOf_X9_of rfl rfl rfl (by decide +kernel) ⟨Nat.le_of_ble_eq_true rfl, Nat.le_of_ble_eq_true rfl⟩) hN hK hP hD hS hA [0] [some 0, none, none] rfl rfl rfl rfl rfl rfl 0 rfl rfl rfl hl.1 rfl (Nat.le_of_ble_eq_true rfl) dX9_determinantOf_150 ⟨Nat.zero_le _, Nat.zero_le _⟩ (fun H locs hP hD hS => ?_)
                            refine lv_istore (lv' := [(4, .int v36), (0, .ref a_t), (2, .int y2), (5, .int x9), (6, .int y14)]) hx hb dX9_determinantOf_153 hl (by decide) rfl (fun ls hl => ?_)
                            refine lv_iconst (v := 0) hx hb dX9_determinantOf_155 (by decide) ?_
                            refine lv_istore (lv' := [(7, .int 0), (4, .int v36), (0, .ref a_t), (2, .int y2), (5, .int x9), (6, .int y14)]) hx hb dX9_determinantOf_156 hl (by decide) rfl (fun ls hl => ?_)
                            have L158 : ∀ (n : Nat) (x37 : Int32) (z38 : (Nat → Int32)) (ls : Array Slot) (H : Heap) (locs : List Loc), gX9_determinantOf_158 t_p y2 x9 (gX9_determinantOf_93 t_p y2 (kX9_determinantOf_368) n93) y14 v36 n x37 z38 = some (r, s_t_square_r) → lv_has ls 10 [(0, .ref a_t), (2, .int y2), (4, .int v36), (5, .int x9), (6, .int y14), (7, .int x37)] → va_P D vwCl [x_o9 a_t t_p a_t_given t_isLaid t_isGood a_t_c t_points a_t_pointX a_t_pointY a_t_pointZ a_t_pointFlags t_flags a_t_flagPoint a_t_flagU a_t_flagV a_t_flagW a_t_next a_t_series a_t_mix a_t_cofactor t_formX t_formY t_formZ a_t_square t_isNought t_sumT t_sumY, x_ar cI a_t_series 32 t_series_r, x_ar cI a_t_square 225 z38] H → va_D A [x_o9 a_t t_p a_t_given t_isLaid t_isGood a_t_c t_points a_t_pointX a_t_pointY a_t_pointZ a_t_pointFlags t_flags a_t_flagPoint a_t_flagU a_t_flagV a_t_flagW a_t_next a_t_series a_t_mix a_t_cofactor t_formX t_formY t_formZ a_t_square t_isNought t_sumT t_sumY, x_ar cI a_t_series 32 t_series_r, x_ar cI a_t_square 225 z38] → va_S A s.heap H locs → W p l e rmX9_determinantOf s m args below meth c H locs 0 0 Q (F0 m 158 ls []) := by
                              intro n158
                              induction n158 with
                              | zero =>
                                intro x37 z38 ls H locs hf
                                exact nomatch (show (none : Option (Int32 × (Nat → Int32))) = some (r, s_t_square_r) from hf)
                              | succ n158 ih158 =>
                                intro x37 z38 ls H locs hf hl hP hD hS
                                have hf : FgX9_determinantOf_158 t_p y2 x9 (gX9_determinantOf_93 t_p y2 (kX9_determinantOf_368) n93) y14 v36 (gX9_determinantOf_158 t_p y2 x9 (gX9_determinantOf_93 t_p y2 (kX9_determinantOf_368) n93) y14 v36 n158) x37 z38 = some (r, s_t_square_r) := hf
                                unfold FgX9_determinantOf_158 at hf
                                refine lv_iload hx hb dX9_determinantOf_158 (lv_at hl 5 rfl) ?_
                                refine lv_iload_n hx hb dX9_determinantOf_160 rfl (lv_at hl 1 rfl) ?_
                                refine lv_icmp_ge (tgt := 226) hx hb dX9_determinantOf_161 (by decide) (fun hc => ?_) (fun hc => ?_)
                                · have hf := o_t hf hc
                                  exact J226 v36 z38 _ _ _ hf (lv_sub hl [0, 1, 2, 3] rfl) hP hD hS
                                · have hf := o_f hf hc
                                  refine lv_aload_n hx hb dX9_determinantOf_164 rfl (lv_at hl 0 rfl) ?_
                                  refine va_get (D := D) (ci := 9) (C := RX9) (T := TX9) (N := 26) hx hb hts iX9 hown hK hP 0 rfl rfl 22 (by decide) l56 (fun _ h9 => h9) rfl dX9_determinantOf_165 ?_
                                  refine lv_bipush (v := 15) hx hb dX9_determinantOf_168 (by decide) ?_
                                  refine lv_iload hx hb dX9_determinantOf_170 (lv_at hl 4 rfl) ?_
                                  refine lv_imul hx hb dX9_determinantOf_172 ?_
                                  refine lv_iload hx hb dX9_determinantOf_173 (lv_at hl 5 rfl) ?_
                                  refine lv_iadd hx hb dX9_determinantOf_175 ?_
                                  obtain ⟨v39, hv39, hf⟩ := o_b1 hf
                                  refine x_ald hx hb hK hP 2 rfl hv39 dX9_determinantOf_176 ?_
                                  refine lv_istore (lv' := [(8, .int v39), (0, .ref a_t), (2, .int y2), (4, .int v36), (5, .int x9), (6, .int y14), (7, .int x37)]) hx hb dX9_determinantOf_177 hl (by decide) rfl (fun ls hl => ?_)
                                  refine lv_aload_n hx hb dX9_determinantOf_179 rfl (lv_at hl 1 rfl) ?_
                                  refine va_get (D := D) (ci := 9) (C := RX9) (T := TX9) (N := 26) hx hb hts iX9 hown hK hP 0 rfl rfl 22 (by decide) l56 (fun _ h9 => h9) rfl dX9_determinantOf_180 ?_
                                  refine lv_bipush (v := 15) hx hb dX9_determinantOf_183 (by decide) ?_
                                  refine lv_iload hx hb dX9_determinantOf_185 (lv_at hl 5 rfl) ?_
                                  refine lv_imul hx hb dX9_determinantOf_187 ?_
                                  refine lv_iload hx hb dX9_determinantOf_188 (lv_at hl 6 rfl) ?_
                                  refine lv_iadd hx hb dX9_determinantOf_190 ?_
                                  refine lv_aload_n hx hb dX9_determinantOf_191 rfl (lv_at hl 1 rfl) ?_
                                  refine va_get (D := D) (ci := 9) (C := RX9) (T := TX9) (N := 26) hx hb hts iX9 hown hK hP 0 rfl rfl 22 (by decide) l56 (fun _ h9 => h9) rfl dX9_determinantOf_192 ?_
                                  refine lv_bipush (v := 15) hx hb dX9_determinantOf_195 (by decide) ?_
                                  refine lv_iload hx hb dX9_determinantOf_197 (lv_at hl 4 rfl) ?_
                                  refine lv_imul hx hb dX9_determinantOf_199 ?_
                                  refine lv_iload hx hb dX9_determinantOf_200 (lv_at hl 6 rfl) ?_
                                  refine lv_iadd hx hb dX9_determinantOf_202 ?_
                                  obtain ⟨v40, hv40, hf⟩ := o_b1 hf
                                  refine x_ald hx hb hK hP 2 rfl hv40 dX9_determinantOf_203 ?_
                                  obtain ⟨u41, hu41, hf⟩ := o_b1 hf
                                  refine x_ast (W1 := [x_o9 a_t t_p a_t_given t_isLaid t_isGood a_t_c t_points a_t_pointX a_t_pointY a_t_pointZ a_t_pointFlags t_flags a_t_flagPoint a_t_flagU a_t_flagV a_t_flagW a_t_next a_t_series a_t_mix a_t_cofactor t_formX t_formY t_formZ a_t_square t_isNought t_sumT t_sumY, x_ar cI a_t_series 32 t_series_r, x_ar cI a_t_square 225 u41]) hx hb hK hP hD hS 2 rfl hu41 rfl dX9_determinantOf_204 (fun H locs hP hD hS => ?_)
                                  refine lv_aload_n hx hb dX9_determinantOf_205 rfl (lv_at hl 1 rfl) ?_
                                  refine va_get (D := D) (ci := 9) (C := RX9) (T := TX9) (N := 26) hx hb hts iX9 hown hK hP 0 rfl rfl 22 (by decide) l56 (fun _ h9 => h9) rfl dX9_determinantOf_206 ?_
                                  refine lv_bipush (v := 15) hx hb dX9_determinantOf_209 (by decide) ?_
                                  refine lv_iload hx hb dX9_determinantOf_211 (lv_at hl 4 rfl) ?_
                                  refine lv_imul hx hb dX9_determinantOf_213 ?_
                                  refine lv_iload hx hb dX9_determinantOf_214 (lv_at hl 6 rfl) ?_
                                  refine lv_iadd hx hb dX9_determinantOf_216 ?_
                                  refine lv_iload hx hb dX9_determinantOf_217 (lv_at hl 0 rfl) ?_
                                  obtain ⟨u42, hu42, hf⟩ := o_b1 hf
                                  refine x_ast (W1 := [x_o9 a_t t_p a_t_given t_isLaid t_isGood a_t_c t_points a_t_pointX a_t_pointY a_t_pointZ a_t_pointFlags t_flags a_t_flagPoint a_t_flagU a_t_flagV a_t_flagW a_t_next a_t_series a_t_mix a_t_cofactor t_formX t_formY t_formZ a_t_square t_isNought t_sumT t_sumY, x_ar cI a_t_series 32 t_series_r, x_ar cI a_t_square 225 u42]) hx hb hK hP hD hS 2 rfl hu42 rfl dX9_determinantOf_219 (fun H locs hP hD hS => ?_)
                                  obtain ⟨v43, ev43, hf⟩ := o_nm hf
                                  refine lv_iinc (v := v43) (lv' := [(7, .int v43), (8, .int v39), (0, .ref a_t), (2, .int y2), (4, .int v36), (5, .int x9), (6, .int y14)]) hx hb dX9_determinantOf_220 hl (k := 6) rfl (by rw [ev43]; rfl) (by decide) rfl (fun ls hl => ?_)
                                  refine lv_goto (tgt := 158) hx hb dX9_determinantOf_223 (by decide) ?_
                                  exact ih158 v43 u42 _ _ _ hf (lv_sub hl [2, 3, 4, 5, 6, 0] rfl) hP hD hS
                            exact L158 p_FU 0 z10 _ _ _ hf (lv_sub hl [2, 3, 1, 4, 5, 0] rfl) hP hD hS
                        · have hf := o_t hf hc
                          refine lv_iconst (v := 0) hx hb dX9_determinantOf_137 (by decide) ?_
                          obtain ⟨rfl, rfl⟩ := o_s2 hf
                          exact hret rfl rfl dX9_determinantOf_138 hP hD hS
                      refine lv_icmp_ge (tgt := 131) hx hb dX9_determinantOf_106 (by decide) (fun hc => ?_) (fun hc => ?_)
                      · have hf := o_t hf hc
                        exact J131 x13 _ _ _ hf (lv_sub hl [0, 1, 2, 3, 4] rfl) hP hD hS
                      · have hf := o_f hf hc
                        refine lv_aload_n hx hb dX9_determinantOf_109 rfl (lv_at hl 0 rfl) ?_
                        refine va_get (D := D) (ci := 9) (C := RX9) (T := TX9) (N := 26) hx hb hts iX9 hown hK hP 0 rfl rfl 22 (by decide) l56 (fun _ h9 => h9) rfl dX9_determinantOf_110 ?_
                        refine lv_bipush (v := 15) hx hb dX9_determinantOf_113 (by decide) ?_
                        refine lv_iload hx hb dX9_determinantOf_115 (lv_at hl 4 rfl) ?_
                        refine lv_imul hx hb dX9_determinantOf_117 ?_
                        refine lv_iload hx hb dX9_determinantOf_118 (lv_at hl 3 rfl) ?_
                        refine lv_iadd hx hb dX9_determinantOf_120 ?_
                        obtain ⟨v44, hv44, hf⟩ := o_b1 hf
                        refine x_ald hx hb hK hP 2 rfl hv44 dX9_determinantOf_121 ?_
                        refine lv_if_ne (tgt := 131) hx hb dX9_determinantOf_122 (by decide) (fun hc => ?_) (fun hc => ?_)
                        · have hf := o_f hf hc
                          exact J131 x13 _ _ _ hf (lv_sub hl [0, 1, 2, 3, 4] rfl) hP hD hS
                        · have hf := o_t hf hc
                          obtain ⟨v45, ev45, hf⟩ := o_nm hf
                          refine lv_iinc (v := v45) (lv' := [(6, .int v45), (0, .ref a_t), (2, .int y2), (4, .int x8), (5, .int x9)]) hx hb dX9_determinantOf_125 hl (k := 4) rfl (by rw [ev45]; rfl) (by decide) rfl (fun ls hl => ?_)
                          refine lv_goto (tgt := 103) hx hb dX9_determinantOf_128 (by decide) ?_
                          exact ih103 v45 _ _ _ hf (lv_sub hl [1, 2, 3, 4, 0] rfl) hP hD hS
                  exact L103 p_FU x9 _ _ _ hf (lv_sub hl [1, 2, 3, 4, 0] rfl) hP hD hS
            exact L93 p_FU 1 0 w7 _ _ _ hf (lv_sub hl [2, 3, 1, 0] rfl) hP hD hS
          refine lv_icmp_ge (tgt := 87) hx hb dX9_determinantOf_38 (by decide) (fun hc => ?_) (fun hc => ?_)
          · have hf := o_t hf hc
            exact J87 z6 _ _ _ hf (lv_sub hl [0, 1] rfl) hP hD hS
          · have hf := o_f hf hc
            refine lv_iconst (v := 0) hx hb dX9_determinantOf_41 (by decide) ?_
            refine lv_istore (lv' := [(5, .int 0), (0, .ref a_t), (2, .int y2), (3, .int y4), (4, .int x5)]) hx hb dX9_determinantOf_42 hl (by decide) rfl (fun ls hl => ?_)
            have L44 : ∀ (n : Nat) (x46 : Int32) (z47 : (Nat → Int32)) (ls : Array Slot) (H : Heap) (locs : List Loc), gX9_determinantOf_44 t_series_r y2 y4 x5 (kX9_determinantOf_81 x5 (gX9_determinantOf_35 t_series_r y2 y4 (kX9_determinantOf_87 t_p y2) n35)) n x46 z47 = some (r, s_t_square_r) → lv_has ls 10 [(0, .ref a_t), (2, .int y2), (3, .int y4), (4, .int x5), (5, .int x46)] → va_P D vwCl [x_o9 a_t t_p a_t_given t_isLaid t_isGood a_t_c t_points a_t_pointX a_t_pointY a_t_pointZ a_t_pointFlags t_flags a_t_flagPoint a_t_flagU a_t_flagV a_t_flagW a_t_next a_t_series a_t_mix a_t_cofactor t_formX t_formY t_formZ a_t_square t_isNought t_sumT t_sumY, x_ar cI a_t_series 32 t_series_r, x_ar cI a_t_square 225 z47] H → va_D A [x_o9 a_t t_p a_t_given t_isLaid t_isGood a_t_c t_points a_t_pointX a_t_pointY a_t_pointZ a_t_pointFlags t_flags a_t_flagPoint a_t_flagU a_t_flagV a_t_flagW a_t_next a_t_series a_t_mix a_t_cofactor t_formX t_formY t_formZ a_t_square t_isNought t_sumT t_sumY, x_ar cI a_t_series 32 t_series_r, x_ar cI a_t_square 225 z47] → va_S A s.heap H locs → W p l e rmX9_determinantOf s m args below meth c H locs 0 0 Q (F0 m 44 ls []) := by
              intro n44
              induction n44 with
              | zero =>
                intro x46 z47 ls H locs hf
                exact nomatch (show (none : Option (Int32 × (Nat → Int32))) = some (r, s_t_square_r) from hf)
              | succ n44 ih44 =>
                intro x46 z47 ls H locs hf hl hP hD hS
                have hf : FgX9_determinantOf_44 t_series_r y2 y4 x5 (gX9_determinantOf_44 t_series_r y2 y4 x5 (kX9_determinantOf_81 x5 (gX9_determinantOf_35 t_series_r y2 y4 (kX9_determinantOf_87 t_p y2) n35)) n44) (kX9_determinantOf_81 x5 (gX9_determinantOf_35 t_series_r y2 y4 (kX9_determinantOf_87 t_p y2) n35)) x46 z47 = some (r, s_t_square_r) := hf
                unfold FgX9_determinantOf_44 at hf
                refine lv_iload hx hb dX9_determinantOf_44 (lv_at hl 4 rfl) ?_
                refine lv_iload_n hx hb dX9_determinantOf_46 rfl (lv_at hl 1 rfl) ?_
                have J81 : ∀ (w48 : (Nat → Int32)) (ls : Array Slot) (H : Heap) (locs : List Loc), kX9_determinantOf_81 x5 (gX9_determinantOf_35 t_series_r y2 y4 (kX9_determinantOf_87 t_p y2) n35) w48 = some (r, s_t_square_r) → lv_has ls 10 [(0, .ref a_t), (2, .int y2), (3, .int y4), (4, .int x5)] → va_P D vwCl [x_o9 a_t t_p a_t_given t_isLaid t_isGood a_t_c t_points a_t_pointX a_t_pointY a_t_pointZ a_t_pointFlags t_flags a_t_flagPoint a_t_flagU a_t_flagV a_t_flagW a_t_next a_t_series a_t_mix a_t_cofactor t_formX t_formY t_formZ a_t_square t_isNought t_sumT t_sumY, x_ar cI a_t_series 32 t_series_r, x_ar cI a_t_square 225 w48] H → va_D A [x_o9 a_t t_p a_t_given t_isLaid t_isGood a_t_c t_points a_t_pointX a_t_pointY a_t_pointZ a_t_pointFlags t_flags a_t_flagPoint a_t_flagU a_t_flagV a_t_flagW a_t_next a_t_series a_t_mix a_t_cofactor t_formX t_formY t_formZ a_t_square t_isNought t_sumT t_sumY, x_ar cI a_t_series 32 t_series_r, x_ar cI a_t_square 225 w48] → va_S A s.heap H locs → W p l e rmX9_determinantOf s m args below meth c H locs 0 0 Q (F0 m 81 ls []) := by
                  intro w48 ls H locs hf hl hP hD hS
                  unfold kX9_determinantOf_81 at hf
                  obtain ⟨v49, ev49, hf⟩ := o_nm hf
                  refine lv_iinc (v := v49) (lv' := [(4, .int v49), (0, .ref a_t), (2, .int y2), (3, .int y4)]) hx hb dX9_determinantOf_81 hl (k := 3) rfl (by rw [ev49]; rfl) (by decide) rfl (fun ls hl => ?_)
                  refine lv_goto (tgt := 35) hx hb dX9_determinantOf_84 (by decide) ?_
                  exact ih35 v49 w48 _ _ _ hf (lv_sub hl [1, 2, 3, 0] rfl) hP hD hS
                refine lv_icmp_ge (tgt := 81) hx hb dX9_determinantOf_47 (by decide) (fun hc => ?_) (fun hc => ?_)
                · have hf := o_t hf hc
                  exact J81 z47 _ _ _ hf (lv_sub hl [0, 1, 2, 3] rfl) hP hD hS
                · have hf := o_f hf hc
                  refine lv_aload_n hx hb dX9_determinantOf_50 rfl (lv_at hl 0 rfl) ?_
                  refine va_get (D := D) (ci := 9) (C := RX9) (T := TX9) (N := 26) hx hb hts iX9 hown hK hP 0 rfl rfl 22 (by decide) l56 (fun _ h9 => h9) rfl dX9_determinantOf_51 ?_
                  refine lv_bipush (v := 15) hx hb dX9_determinantOf_54 (by decide) ?_
                  refine lv_iload hx hb dX9_determinantOf_56 (lv_at hl 3 rfl) ?_
                  refine lv_imul hx hb dX9_determinantOf_58 ?_
                  refine lv_iload hx hb dX9_determinantOf_59 (lv_at hl 4 rfl) ?_
                  refine lv_iadd hx hb dX9_determinantOf_61 ?_
                  refine lv_aload_n hx hb dX9_determinantOf_62 rfl (lv_at hl 0 rfl) ?_
                  refine va_get (D := D) (ci := 9) (C := RX9) (T := TX9) (N := 26) hx hb hts iX9 hown hK hP 0 rfl rfl 16 (by decide) l47 (fun _ h9 => h9) rfl dX9_determinantOf_63 ?_
                  refine lv_iload_n hx hb dX9_determinantOf_66 rfl (lv_at hl 2 rfl) ?_
                  refine lv_iload hx hb dX9_determinantOf_67 (lv_at hl 3 rfl) ?_
                  refine lv_iadd hx hb dX9_determinantOf_69 ?_
                  refine lv_iload hx hb dX9_determinantOf_70 (lv_at hl 4 rfl) ?_
                  refine lv_iadd hx hb dX9_determinantOf_72 ?_
                  obtain ⟨v50, hv50, hf⟩ := o_b1 hf
                  refine x_ald hx hb hK hP 1 rfl hv50 dX9_determinantOf_73 ?_
                  obtain ⟨u51, hu51, hf⟩ := o_b1 hf
                  refine x_ast (W1 := [x_o9 a_t t_p a_t_given t_isLaid t_isGood a_t_c t_points a_t_pointX a_t_pointY a_t_pointZ a_t_pointFlags t_flags a_t_flagPoint a_t_flagU a_t_flagV a_t_flagW a_t_next a_t_series a_t_mix a_t_cofactor t_formX t_formY t_formZ a_t_square t_isNought t_sumT t_sumY, x_ar cI a_t_series 32 t_series_r, x_ar cI a_t_square 225 u51]) hx hb hK hP hD hS 2 rfl hu51 rfl dX9_determinantOf_74 (fun H locs hP hD hS => ?_)
                  obtain ⟨v52, ev52, hf⟩ := o_nm hf
                  refine lv_iinc (v := v52) (lv' := [(5, .int v52), (0, .ref a_t), (2, .int y2), (3, .int y4), (4, .int x5)]) hx hb dX9_determinantOf_75 hl (k := 4) rfl (by rw [ev52]; rfl) (by decide) rfl (fun ls hl => ?_)
                  refine lv_goto (tgt := 44) hx hb dX9_determinantOf_78 (by decide) ?_
                  exact ih44 v52 u51 _ _ _ hf (lv_sub hl [1, 2, 3, 4, 0] rfl) hP hD hS
            exact L44 p_FU 0 z6 _ _ _ hf (lv_sub hl [1, 2, 3, 4, 0] rfl) hP hD hS
      exact L35 p_FU 0 t_square_r _ _ _ hf (lv_sub hl [2, 3, 1, 0] rfl) hP hD hS
    refine lv_icmp_ne (tgt := 30) hx hb dX9_determinantOf_23 (by decide) (fun hc => ?_) (fun hc => ?_)
    · have hf := o_f hf hc
      refine lv_iconst (v := 3) hx hb dX9_determinantOf_30 (by decide) ?_
      exact J31 3 _ _ _ hf (lv_sub hl [1, 0] rfl) hP hD hS
    · have hf := o_t hf hc
      refine lv_iconst (v := 2) hx hb dX9_determinantOf_26 (by decide) ?_
      refine lv_goto (tgt := 31) hx hb dX9_determinantOf_27 (by decide) ?_
      exact J31 2 _ _ _ hf (lv_sub hl [1, 0] rfl) hP hD hS
  refine lv_icmp_ne (tgt := 13) hx hb dX9_determinantOf_4 (by decide) (fun hc => ?_) (fun hc => ?_)
  · have hf := o_f hf hc
    refine lv_iload_n hx hb dX9_determinantOf_13 rfl (lv_at hl 1 rfl) ?_
    refine lv_iconst (v := 2) hx hb dX9_determinantOf_14 (by decide) ?_
    obtain ⟨v53, hv53, hf⟩ := o_b1 hf
    refine x_dv hx hb hv53 dX9_determinantOf_15 ?_
    refine lv_iconst (v := 1) hx hb dX9_determinantOf_16 (by decide) ?_
    refine lv_isub hx hb dX9_determinantOf_17 ?_
    exact J18 (v53 - 1) _ _ _ hf (lv_sub hl [0, 1] rfl) hP hD hS
  · have hf := o_t hf hc
    refine lv_iload_n hx hb dX9_determinantOf_7 rfl (lv_at hl 1 rfl) ?_
    refine lv_iconst (v := 2) hx hb dX9_determinantOf_8 (by decide) ?_
    obtain ⟨v54, hv54, hf⟩ := o_b1 hf
    refine x_dv hx hb hv54 dX9_determinantOf_9 ?_
    refine lv_goto (tgt := 18) hx hb dX9_determinantOf_10 (by decide) ?_
    exact J18 v54 _ _ _ hf (lv_sub hl [0, 1] rfl) hP hD hS
noncomputable def fX9_determinant (t_flags : Int32) (t_formX : Int32) (t_formY : Int32) (t_formZ : Int32) (t_isGood : Int32) (t_isLaid : Int32) (t_p : Int32) (t_points : Int32) (t_c_r : (Nat → Int32)) (t_cofactor_r : (Nat → Int32)) (t_flagPoint_r : (Nat → Int32)) (t_flagU_r : (Nat → Int32)) (t_flagV_r : (Nat → Int32)) (t_flagW_r : (Nat → Int32)) (t_given_r : (Nat → Int32)) (t_next_r : (Nat → Int32)) (t_pointFlags_r : (Nat → Int32)) (t_pointX_r : (Nat → Int32)) (t_pointY_r : (Nat → Int32)) (t_pointZ_r : (Nat → Int32)) (t_series_r : (Nat → Int32)) (t_square_r : (Nat → Int32)) (i1 : Int32) : Option (Int32 × Int32 × Int32 × Int32 × Int32 × Int32 × Int32 × Int32 × (Nat → Int32) × (Nat → Int32) × (Nat → Int32) × (Nat → Int32) × (Nat → Int32) × (Nat → Int32) × (Nat → Int32) × (Nat → Int32) × (Nat → Int32) × (Nat → Int32) × (Nat → Int32) × (Nat → Int32) × (Nat → Int32)) :=
  p_b20 (fX9_isGood t_flags t_formX t_formY t_formZ t_isGood t_isLaid t_p t_points t_c_r t_cofactor_r t_flagPoint_r t_flagU_r t_flagV_r t_flagW_r t_given_r t_next_r t_pointFlags_r t_pointX_r t_pointY_r t_pointZ_r t_series_r) (fun v1 v2 v3 v4 v5 v6 v7 v8 u9 u10 u11 u12 u13 u14 u15 u16 u17 u18 u19 u20 =>
if v1 = 0 then (some ((-5), v2, v3, v4, v5, v6, v7, v8, u9, u10, u11, u12, u13, u14, u15, u16, u17, u18, u19, u20, t_square_r)) else (p_b1 (fX9_in i1 3 31) (fun v21 =>
if v21 = 0 then (some ((-2), v2, v3, v4, v5, v6, v7, v8, u9, u10, u11, u12, u13, u14, u15, u16, u17, u18, u19, u20, t_square_r)) else (p_b2 (fX9_determinantOf t_p u20 t_square_r i1) (fun v22 u23 =>
some (v22, v2, v3, v4, v5, v6, v7, v8, u9, u10, u11, u12, u13, u14, u15, u16, u17, u18, u19, u20, u23))))))
def rmX9_determinant : Room := { frames := 6, cells := 0, slots := 0, locals := 146 }
set_option maxHeartbeats 4000000 in
set_option maxRecDepth 100000 in
theorem tX9_determinant (l : Launch) (D : va_G) (cI : ClassId) (a_t : Nat) (a_t_given : Nat) (a_t_c : Nat) (a_t_pointX : Nat) (a_t_pointY : Nat) (a_t_pointZ : Nat) (a_t_pointFlags : Nat) (a_t_flagPoint : Nat) (a_t_flagU : Nat) (a_t_flagV : Nat) (a_t_flagW : Nat) (a_t_next : Nat) (a_t_series : Nat) (a_t_mix : Nat) (a_t_cofactor : Nat) (a_t_square : Nat) (t_p : Int32) (t_isLaid : Int32) (t_isGood : Int32) (t_points : Int32) (t_flags : Int32) (t_formX : Int32) (t_formY : Int32) (t_formZ : Int32) (t_isNought : Int32) (t_sumT : Int32) (t_sumY : Int32) (t_c_r : (Nat → Int32)) (t_cofactor_r : (Nat → Int32)) (t_flagPoint_r : (Nat → Int32)) (t_flagU_r : (Nat → Int32)) (t_flagV_r : (Nat → Int32)) (t_flagW_r : (Nat → Int32)) (t_given_r : (Nat → Int32)) (t_next_r : (Nat → Int32)) (t_pointFlags_r : (Nat → Int32)) (t_pointX_r : (Nat → Int32)) (t_pointY_r : (Nat → Int32)) (t_pointZ_r : (Nat → Int32)) (t_series_r : (Nat → Int32)) (t_square_r : (Nat → Int32)) (i1 : Int32) (r : Int32) (s_t_flags : Int32) (s_t_formX : Int32) (s_t_formY : Int32) (s_t_formZ : Int32) (s_t_isGood : Int32) (s_t_isLaid : Int32) (s_t_points : Int32) (s_t_c_r : (Nat → Int32)) (s_t_cofactor_r : (Nat → Int32)) (s_t_flagPoint_r : (Nat → Int32)) (s_t_flagU_r : (Nat → Int32)) (s_t_flagV_r : (Nat → Int32)) (s_t_flagW_r : (Nat → Int32)) (s_t_next_r : (Nat → Int32)) (s_t_pointFlags_r : (Nat → Int32)) (s_t_pointX_r : (Nat → Int32)) (s_t_pointY_r : (Nat → Int32)) (s_t_pointZ_r : (Nat → Int32)) (s_t_series_r : (Nat → Int32)) (s_t_square_r : (Nat → Int32)) (hf : fX9_determinant t_flags t_formX t_formY t_formZ t_isGood t_isLaid t_p t_points t_c_r t_cofactor_r t_flagPoint_r t_flagU_r t_flagV_r t_flagW_r t_given_r t_next_r t_pointFlags_r t_pointX_r t_pointY_r t_pointZ_r t_series_r t_square_r i1 = some (r, s_t_flags, s_t_formX, s_t_formY, s_t_formZ, s_t_isGood, s_t_isLaid, s_t_points, s_t_c_r, s_t_cofactor_r, s_t_flagPoint_r, s_t_flagU_r, s_t_flagV_r, s_t_flagW_r, s_t_next_r, s_t_pointFlags_r, s_t_pointX_r, s_t_pointY_r, s_t_pointZ_r, s_t_series_r, s_t_square_r)) : x_CI l D cI yX9_determinant wsX9_determinant rmX9_determinant [.ref a_t, .int i1] [x_o9 a_t t_p a_t_given t_isLaid t_isGood a_t_c t_points a_t_pointX a_t_pointY a_t_pointZ a_t_pointFlags t_flags a_t_flagPoint a_t_flagU a_t_flagV a_t_flagW a_t_next a_t_series a_t_mix a_t_cofactor t_formX t_formY t_formZ a_t_square t_isNought t_sumT t_sumY, x_ar cI a_t_c 4 t_c_r, x_ar cI a_t_cofactor 6 t_cofactor_r, x_ar cI a_t_flagPoint 400 t_flagPoint_r, x_ar cI a_t_flagU 400 t_flagU_r, x_ar cI a_t_flagV 400 t_flagV_r, x_ar cI a_t_flagW 400 t_flagW_r, x_ar cI a_t_given 12 t_given_r, x_ar cI a_t_next 400 t_next_r, x_ar cI a_t_pointFlags 200 t_pointFlags_r, x_ar cI a_t_pointX 200 t_pointX_r, x_ar cI a_t_pointY 200 t_pointY_r, x_ar cI a_t_pointZ 200 t_pointZ_r, x_ar cI a_t_series 32 t_series_r, x_ar cI a_t_square 225 t_square_r] [x_o9 a_t t_p a_t_given s_t_isLaid s_t_isGood a_t_c s_t_points a_t_pointX a_t_pointY a_t_pointZ a_t_pointFlags s_t_flags a_t_flagPoint a_t_flagU a_t_flagV a_t_flagW a_t_next a_t_series a_t_mix a_t_cofactor s_t_formX s_t_formY s_t_formZ a_t_square t_isNought t_sumT t_sumY, x_ar cI a_t_c 4 s_t_c_r, x_ar cI a_t_cofactor 6 s_t_cofactor_r, x_ar cI a_t_flagPoint 400 s_t_flagPoint_r, x_ar cI a_t_flagU 400 s_t_flagU_r, x_ar cI a_t_flagV 400 s_t_flagV_r, x_ar cI a_t_flagW 400 s_t_flagW_r, x_ar cI a_t_given 12 t_given_r, x_ar cI a_t_next 400 s_t_next_r, x_ar cI a_t_pointFlags 200 s_t_pointFlags_r, x_ar cI a_t_pointX 200 s_t_pointX_r, x_ar cI a_t_pointY 200 s_t_pointY_r, x_ar cI a_t_pointZ 200 s_t_pointZ_r, x_ar cI a_t_series 32 s_t_series_r, x_ar cI a_t_square 225 s_t_square_r] r := by
  refine x_CI_of (cc := cX9_determinant) (maxL := 2) (ty := .int) (own := RX9) (lv0 := [(0, .ref a_t), (1, .int i1)]) (by decide) rfl rfl (Nat.le_of_ble_eq_true rfl) rfl ?_
  intro p e s m args below meth c A Q ls hx hb hml hown hts hN hK hP hD hS hA hl hret
  unfold fX9_determinant at hf
  refine lv_aload_n hx hb dX9_determinant_0 rfl (lv_at hl 0 rfl) ?_
  obtain ⟨v1, v2, v3, v4, v5, v6, v7, v8, u9, u10, u11, u12, u13, u14, u15, u16, u17, u18, u19, u20, hv1, hf⟩ := o_b20 hf
  refine x_vi (rest := []) (W1 := [x_o9 a_t t_p a_t_given v7 v6 a_t_c v8 a_t_pointX a_t_pointY a_t_pointZ a_t_pointFlags v2 a_t_flagPoint a_t_flagU a_t_flagV a_t_flagW a_t_next a_t_series a_t_mix a_t_cofactor v3 v4 v5 a_t_square t_isNought t_sumT t_sumY, x_ar cI a_t_c 4 u9, x_ar cI a_t_cofactor 6 u10, x_ar cI a_t_flagPoint 400 u11, x_ar cI a_t_flagU 400 u12, x_ar cI a_t_flagV 400 u13, x_ar cI a_t_flagW 400 u14, x_ar cI a_t_given 12 t_given_r, x_ar cI a_t_next 400 u15, x_ar cI a_t_pointFlags 200 u16, x_ar cI a_t_pointX 200 u17, x_ar cI a_t_pointY 200 u18, x_ar cI a_t_pointZ 200 u19, x_ar cI a_t_series 32 u20, x_ar cI a_t_square 225 t_square_r]) ⟨hx, hb, hml, hown, hts⟩ (tX9_isGood l D cI a_t a_t_given a_t_c a_t_pointX a_t_pointY a_t_pointZ a_t_pointFlags a_t_flagPoint a_t_flagU a_t_flagV a_t_flagW a_t_next a_t_series a_t_mix a_t_cofactor a_t_square t_p t_isLaid t_isGood t_points t_flags t_formX t_formY t_formZ t_isNought t_sumT t_sumY t_c_r t_cofactor_r t_flagPoint_r t_flagU_r t_flagV_r t_flagW_r t_given_r t_next_r t_pointFlags_r t_pointX_r t_pointY_r t_pointZ_r t_series_r v1 v2 v3 v4 v5 v6 v7 v8 u9 u10 u11 u12 u13 u14 u15 u16 u17 u18 u19 u20 hv1) (cwV 0 hts gX9_determinant_X9_isGood rfl rfl rfl (by decide +kernel) ⟨Nat.le_of_ble_eq_true rfl, Nat.le_of_ble_eq_true rfl⟩) hN hK hP hD hS hA [0, 1, 2, 3, 4, 5, 6, 7, 8, 9, 10, 11, 12, 13] [some 0, some 1, some 2, some 3, some 4, some 5, some 6, some 7, some 8, some 9, some 10, some 11, some 12, some 13, none] rfl rfl rfl rfl rfl rfl 0 rfl rfl rfl hl.1 rfl (Nat.le_of_ble_eq_true rfl) dX9_determinant_1 ⟨Nat.zero_le _, Nat.zero_le _⟩ (fun H locs hP hD hS => ?_)
  refine lv_if_ne (tgt := 10) hx hb dX9_determinant_4 (by decide) (fun hc => ?_) (fun hc => ?_)
  · have hf := o_f hf hc
    refine lv_iload_n hx hb dX9_determinant_10 rfl (lv_at hl 1 rfl) ?_
    refine lv_iconst (v := 3) hx hb dX9_determinant_11 (by decide) ?_
    refine lv_bipush (v := 31) hx hb dX9_determinant_12 (by decide) ?_
    obtain ⟨v21, hv21, hf⟩ := o_b1 hf
    refine x_si (rest := []) ⟨hx, hb, hml, hown, hts⟩ (tX9_in l D cI i1 3 31 v21 hv21) (va_cwS 3 hts gX9_determinant_X9_in rfl rfl rfl (by decide +kernel) ⟨Nat.le_of_ble_eq_true rfl, Nat.le_of_ble_eq_true rfl⟩) hN hK hP hD hS hA rfl hl.1 rfl (Nat.le_of_ble_eq_true rfl) dX9_determinant_14 ⟨Nat.zero_le _, Nat.zero_le _⟩ (fun H locs hP hD hS => ?_)
    refine lv_if_eq (tgt := 28) hx hb dX9_determinant_17 (by decide) (fun hc => ?_) (fun hc => ?_)
    · have hf := o_t hf hc
      refine lv_bipush (v := (-2)) hx hb dX9_determinant_28 (by decide) ?_
      obtain ⟨rfl, rfl, rfl, rfl, rfl, rfl, rfl, rfl, rfl, rfl, rfl, rfl, rfl, rfl, rfl, rfl, rfl, rfl, rfl, rfl, rfl⟩ := o_s21 hf
      exact hret rfl rfl dX9_determinant_30 hP hD hS
    · have hf := o_f hf hc
      refine lv_aload_n hx hb dX9_determinant_20 rfl (lv_at hl 0 rfl) ?_
      refine lv_iload_n hx hb dX9_determinant_21 rfl (lv_at hl 1 rfl) ?_
      obtain ⟨v22, u23, hv22, hf⟩ := o_b2 hf
      refine x_vi (rest := []) (W1 := [x_o9 a_t t_p a_t_given v7 v6 a_t_c v8 a_t_pointX a_t_pointY a_t_pointZ a_t_pointFlags v2 a_t_flagPoint a_t_flagU a_t_flagV a_t_flagW a_t_next a_t_series a_t_mix a_t_cofactor v3 v4 v5 a_t_square t_isNought t_sumT t_sumY, x_ar cI a_t_c 4 u9, x_ar cI a_t_cofactor 6 u10, x_ar cI a_t_flagPoint 400 u11, x_ar cI a_t_flagU 400 u12, x_ar cI a_t_flagV 400 u13, x_ar cI a_t_flagW 400 u14, x_ar cI a_t_given 12 t_given_r, x_ar cI a_t_next 400 u15, x_ar cI a_t_pointFlags 200 u16, x_ar cI a_t_pointX 200 u17, x_ar cI a_t_pointY 200 u18, x_ar cI a_t_pointZ 200 u19, x_ar cI a_t_series 32 u20, x_ar cI a_t_square 225 u23]) ⟨hx, hb, hml, hown, hts⟩ (tX9_determinantOf l D cI a_t a_t_given a_t_c a_t_pointX a_t_pointY a_t_pointZ a_t_pointFlags a_t_flagPoint a_t_flagU a_t_flagV a_t_flagW a_t_next a_t_series a_t_mix a_t_cofactor a_t_square t_p v7 v6 v8 v2 v3 v4 v5 t_isNought t_sumT t_sumY u20 t_square_r i1 v22 u23 hv22) (cwV 1 hts gX9_determinant_X9_determinantOf rfl rfl rfl (by decide +kernel) ⟨Nat.le_of_ble_eq_true rfl, Nat.le_of_ble_eq_true rfl⟩) hN hK hP hD hS hA [0, 13, 14] [some 0, none, none, none, none, none, none, none, none, none, none, none, none, some 1, some 2] rfl rfl rfl rfl rfl rfl 0 rfl rfl rfl hl.1 rfl (Nat.le_of_ble_eq_true rfl) dX9_determinant_22 ⟨Nat.zero_le _, Nat.zero_le _⟩ (fun H locs hP hD hS => ?_)
      refine lv_goto (tgt := 30) hx hb dX9_determinant_25 (by decide) ?_
      obtain ⟨rfl, rfl, rfl, rfl, rfl, rfl, rfl, rfl, rfl, rfl, rfl, rfl, rfl, rfl, rfl, rfl, rfl, rfl, rfl, rfl, rfl⟩ := o_s21 hf
      exact hret rfl rfl dX9_determinant_30 hP hD hS
  · have hf := o_t hf hc
    refine lv_bipush (v := (-5)) hx hb dX9_determinant_7 (by decide) ?_
    obtain ⟨rfl, rfl, rfl, rfl, rfl, rfl, rfl, rfl, rfl, rfl, rfl, rfl, rfl, rfl, rfl, rfl, rfl, rfl, rfl, rfl, rfl⟩ := o_s21 hf
    exact hret rfl rfl dX9_determinant_9 hP hD hS
noncomputable def fX9_closes (t_flags : Int32) (t_formX : Int32) (t_formY : Int32) (t_formZ : Int32) (t_isGood : Int32) (t_isLaid : Int32) (t_p : Int32) (t_points : Int32) (t_c_r : (Nat → Int32)) (t_cofactor_r : (Nat → Int32)) (t_flagPoint_r : (Nat → Int32)) (t_flagU_r : (Nat → Int32)) (t_flagV_r : (Nat → Int32)) (t_flagW_r : (Nat → Int32)) (t_given_r : (Nat → Int32)) (t_next_r : (Nat → Int32)) (t_pointFlags_r : (Nat → Int32)) (t_pointX_r : (Nat → Int32)) (t_pointY_r : (Nat → Int32)) (t_pointZ_r : (Nat → Int32)) (t_series_r : (Nat → Int32)) (t_square_r : (Nat → Int32)) (i1 : Int32) : Option (Int32 × Int32 × Int32 × Int32 × Int32 × Int32 × Int32 × Int32 × (Nat → Int32) × (Nat → Int32) × (Nat → Int32) × (Nat → Int32) × (Nat → Int32) × (Nat → Int32) × (Nat → Int32) × (Nat → Int32) × (Nat → Int32) × (Nat → Int32) × (Nat → Int32) × (Nat → Int32) × (Nat → Int32)) :=
  p_b20 (fX9_isGood t_flags t_formX t_formY t_formZ t_isGood t_isLaid t_p t_points t_c_r t_cofactor_r t_flagPoint_r t_flagU_r t_flagV_r t_flagW_r t_given_r t_next_r t_pointFlags_r t_pointX_r t_pointY_r t_pointZ_r t_series_r) (fun v1 v2 v3 v4 v5 v6 v7 v8 u9 u10 u11 u12 u13 u14 u15 u16 u17 u18 u19 u20 =>
if v1 = 0 then (some ((-5), v2, v3, v4, v5, v6, v7, v8, u9, u10, u11, u12, u13, u14, u15, u16, u17, u18, u19, u20, t_square_r)) else (p_b1 (fX9_in i1 1 31) (fun v21 =>
if v21 = 0 then (some ((-2), v2, v3, v4, v5, v6, v7, v8, u9, u10, u11, u12, u13, u14, u15, u16, u17, u18, u19, u20, t_square_r)) else (if i1 ≤ 2 then (some (0, v2, v3, v4, v5, v6, v7, v8, u9, u10, u11, u12, u13, u14, u15, u16, u17, u18, u19, u20, t_square_r)) else (p_b2 (fX9_determinantOf t_p u20 t_square_r i1) (fun v22 u23 =>
if v22 = 0 then (some (1, v2, v3, v4, v5, v6, v7, v8, u9, u10, u11, u12, u13, u14, u15, u16, u17, u18, u19, u20, u23)) else (some (0, v2, v3, v4, v5, v6, v7, v8, u9, u10, u11, u12, u13, u14, u15, u16, u17, u18, u19, u20, u23))))))))
def rmX9_closes : Room := { frames := 6, cells := 0, slots := 0, locals := 146 }
set_option maxHeartbeats 4000000 in
set_option maxRecDepth 100000 in
theorem tX9_closes (l : Launch) (D : va_G) (cI : ClassId) (a_t : Nat) (a_t_given : Nat) (a_t_c : Nat) (a_t_pointX : Nat) (a_t_pointY : Nat) (a_t_pointZ : Nat) (a_t_pointFlags : Nat) (a_t_flagPoint : Nat) (a_t_flagU : Nat) (a_t_flagV : Nat) (a_t_flagW : Nat) (a_t_next : Nat) (a_t_series : Nat) (a_t_mix : Nat) (a_t_cofactor : Nat) (a_t_square : Nat) (t_p : Int32) (t_isLaid : Int32) (t_isGood : Int32) (t_points : Int32) (t_flags : Int32) (t_formX : Int32) (t_formY : Int32) (t_formZ : Int32) (t_isNought : Int32) (t_sumT : Int32) (t_sumY : Int32) (t_c_r : (Nat → Int32)) (t_cofactor_r : (Nat → Int32)) (t_flagPoint_r : (Nat → Int32)) (t_flagU_r : (Nat → Int32)) (t_flagV_r : (Nat → Int32)) (t_flagW_r : (Nat → Int32)) (t_given_r : (Nat → Int32)) (t_next_r : (Nat → Int32)) (t_pointFlags_r : (Nat → Int32)) (t_pointX_r : (Nat → Int32)) (t_pointY_r : (Nat → Int32)) (t_pointZ_r : (Nat → Int32)) (t_series_r : (Nat → Int32)) (t_square_r : (Nat → Int32)) (i1 : Int32) (r : Int32) (s_t_flags : Int32) (s_t_formX : Int32) (s_t_formY : Int32) (s_t_formZ : Int32) (s_t_isGood : Int32) (s_t_isLaid : Int32) (s_t_points : Int32) (s_t_c_r : (Nat → Int32)) (s_t_cofactor_r : (Nat → Int32)) (s_t_flagPoint_r : (Nat → Int32)) (s_t_flagU_r : (Nat → Int32)) (s_t_flagV_r : (Nat → Int32)) (s_t_flagW_r : (Nat → Int32)) (s_t_next_r : (Nat → Int32)) (s_t_pointFlags_r : (Nat → Int32)) (s_t_pointX_r : (Nat → Int32)) (s_t_pointY_r : (Nat → Int32)) (s_t_pointZ_r : (Nat → Int32)) (s_t_series_r : (Nat → Int32)) (s_t_square_r : (Nat → Int32)) (hf : fX9_closes t_flags t_formX t_formY t_formZ t_isGood t_isLaid t_p t_points t_c_r t_cofactor_r t_flagPoint_r t_flagU_r t_flagV_r t_flagW_r t_given_r t_next_r t_pointFlags_r t_pointX_r t_pointY_r t_pointZ_r t_series_r t_square_r i1 = some (r, s_t_flags, s_t_formX, s_t_formY, s_t_formZ, s_t_isGood, s_t_isLaid, s_t_points, s_t_c_r, s_t_cofactor_r, s_t_flagPoint_r, s_t_flagU_r, s_t_flagV_r, s_t_flagW_r, s_t_next_r, s_t_pointFlags_r, s_t_pointX_r, s_t_pointY_r, s_t_pointZ_r, s_t_series_r, s_t_square_r)) : x_CI l D cI yX9_closes wsX9_closes rmX9_closes [.ref a_t, .int i1] [x_o9 a_t t_p a_t_given t_isLaid t_isGood a_t_c t_points a_t_pointX a_t_pointY a_t_pointZ a_t_pointFlags t_flags a_t_flagPoint a_t_flagU a_t_flagV a_t_flagW a_t_next a_t_series a_t_mix a_t_cofactor t_formX t_formY t_formZ a_t_square t_isNought t_sumT t_sumY, x_ar cI a_t_c 4 t_c_r, x_ar cI a_t_cofactor 6 t_cofactor_r, x_ar cI a_t_flagPoint 400 t_flagPoint_r, x_ar cI a_t_flagU 400 t_flagU_r, x_ar cI a_t_flagV 400 t_flagV_r, x_ar cI a_t_flagW 400 t_flagW_r, x_ar cI a_t_given 12 t_given_r, x_ar cI a_t_next 400 t_next_r, x_ar cI a_t_pointFlags 200 t_pointFlags_r, x_ar cI a_t_pointX 200 t_pointX_r, x_ar cI a_t_pointY 200 t_pointY_r, x_ar cI a_t_pointZ 200 t_pointZ_r, x_ar cI a_t_series 32 t_series_r, x_ar cI a_t_square 225 t_square_r] [x_o9 a_t t_p a_t_given s_t_isLaid s_t_isGood a_t_c s_t_points a_t_pointX a_t_pointY a_t_pointZ a_t_pointFlags s_t_flags a_t_flagPoint a_t_flagU a_t_flagV a_t_flagW a_t_next a_t_series a_t_mix a_t_cofactor s_t_formX s_t_formY s_t_formZ a_t_square t_isNought t_sumT t_sumY, x_ar cI a_t_c 4 s_t_c_r, x_ar cI a_t_cofactor 6 s_t_cofactor_r, x_ar cI a_t_flagPoint 400 s_t_flagPoint_r, x_ar cI a_t_flagU 400 s_t_flagU_r, x_ar cI a_t_flagV 400 s_t_flagV_r, x_ar cI a_t_flagW 400 s_t_flagW_r, x_ar cI a_t_given 12 t_given_r, x_ar cI a_t_next 400 s_t_next_r, x_ar cI a_t_pointFlags 200 s_t_pointFlags_r, x_ar cI a_t_pointX 200 s_t_pointX_r, x_ar cI a_t_pointY 200 s_t_pointY_r, x_ar cI a_t_pointZ 200 s_t_pointZ_r, x_ar cI a_t_series 32 s_t_series_r, x_ar cI a_t_square 225 s_t_square_r] r := by
  refine x_CI_of (cc := cX9_closes) (maxL := 2) (ty := .int) (own := RX9) (lv0 := [(0, .ref a_t), (1, .int i1)]) (by decide) rfl rfl (Nat.le_of_ble_eq_true rfl) rfl ?_
  intro p e s m args below meth c A Q ls hx hb hml hown hts hN hK hP hD hS hA hl hret
  unfold fX9_closes at hf
  refine lv_aload_n hx hb dX9_closes_0 rfl (lv_at hl 0 rfl) ?_
  obtain ⟨v1, v2, v3, v4, v5, v6, v7, v8, u9, u10, u11, u12, u13, u14, u15, u16, u17, u18, u19, u20, hv1, hf⟩ := o_b20 hf
  refine x_vi (rest := []) (W1 := [x_o9 a_t t_p a_t_given v7 v6 a_t_c v8 a_t_pointX a_t_pointY a_t_pointZ a_t_pointFlags v2 a_t_flagPoint a_t_flagU a_t_flagV a_t_flagW a_t_next a_t_series a_t_mix a_t_cofactor v3 v4 v5 a_t_square t_isNought t_sumT t_sumY, x_ar cI a_t_c 4 u9, x_ar cI a_t_cofactor 6 u10, x_ar cI a_t_flagPoint 400 u11, x_ar cI a_t_flagU 400 u12, x_ar cI a_t_flagV 400 u13, x_ar cI a_t_flagW 400 u14, x_ar cI a_t_given 12 t_given_r, x_ar cI a_t_next 400 u15, x_ar cI a_t_pointFlags 200 u16, x_ar cI a_t_pointX 200 u17, x_ar cI a_t_pointY 200 u18, x_ar cI a_t_pointZ 200 u19, x_ar cI a_t_series 32 u20, x_ar cI a_t_square 225 t_square_r]) ⟨hx, hb, hml, hown, hts⟩ (tX9_isGood l D cI a_t a_t_given a_t_c a_t_pointX a_t_pointY a_t_pointZ a_t_pointFlags a_t_flagPoint a_t_flagU a_t_flagV a_t_flagW a_t_next a_t_series a_t_mix a_t_cofactor a_t_square t_p t_isLaid t_isGood t_points t_flags t_formX t_formY t_formZ t_isNought t_sumT t_sumY t_c_r t_cofactor_r t_flagPoint_r t_flagU_r t_flagV_r t_flagW_r t_given_r t_next_r t_pointFlags_r t_pointX_r t_pointY_r t_pointZ_r t_series_r v1 v2 v3 v4 v5 v6 v7 v8 u9 u10 u11 u12 u13 u14 u15 u16 u17 u18 u19 u20 hv1) (cwV 0 hts gX9_closes_X9_isGood rfl rfl rfl (by decide +kernel) ⟨Nat.le_of_ble_eq_true rfl, Nat.le_of_ble_eq_true rfl⟩) hN hK hP hD hS hA [0, 1, 2, 3, 4, 5, 6, 7, 8, 9, 10, 11, 12, 13] [some 0, some 1, some 2, some 3, some 4, some 5, some 6, some 7, some 8, some 9, some 10, some 11, some 12, some 13, none] rfl rfl rfl rfl rfl rfl 0 rfl rfl rfl hl.1 rfl (Nat.le_of_ble_eq_true rfl) dX9_closes_1 ⟨Nat.zero_le _, Nat.zero_le _⟩ (fun H locs hP hD hS => ?_)
  refine lv_if_ne (tgt := 10) hx hb dX9_closes_4 (by decide) (fun hc => ?_) (fun hc => ?_)
  · have hf := o_f hf hc
    refine lv_iload_n hx hb dX9_closes_10 rfl (lv_at hl 1 rfl) ?_
    refine lv_iconst (v := 1) hx hb dX9_closes_11 (by decide) ?_
    refine lv_bipush (v := 31) hx hb dX9_closes_12 (by decide) ?_
    obtain ⟨v21, hv21, hf⟩ := o_b1 hf
    refine x_si (rest := []) ⟨hx, hb, hml, hown, hts⟩ (tX9_in l D cI i1 1 31 v21 hv21) (va_cwS 3 hts gX9_closes_X9_in rfl rfl rfl (by decide +kernel) ⟨Nat.le_of_ble_eq_true rfl, Nat.le_of_ble_eq_true rfl⟩) hN hK hP hD hS hA rfl hl.1 rfl (Nat.le_of_ble_eq_true rfl) dX9_closes_14 ⟨Nat.zero_le _, Nat.zero_le _⟩ (fun H locs hP hD hS => ?_)
    refine lv_if_ne (tgt := 25) hx hb dX9_closes_17 (by decide) (fun hc => ?_) (fun hc => ?_)
    · have hf := o_f hf hc
      refine lv_iload_n hx hb dX9_closes_25 rfl (lv_at hl 1 rfl) ?_
      refine lv_iconst (v := 2) hx hb dX9_closes_26 (by decide) ?_
      refine lv_icmp_le (tgt := 42) hx hb dX9_closes_27 (by decide) (fun hc => ?_) (fun hc => ?_)
      · have hf := o_t hf hc
        refine lv_iconst (v := 0) hx hb dX9_closes_42 (by decide) ?_
        obtain ⟨rfl, rfl, rfl, rfl, rfl, rfl, rfl, rfl, rfl, rfl, rfl, rfl, rfl, rfl, rfl, rfl, rfl, rfl, rfl, rfl, rfl⟩ := o_s21 hf
        exact hret rfl rfl dX9_closes_43 hP hD hS
      · have hf := o_f hf hc
        refine lv_aload_n hx hb dX9_closes_30 rfl (lv_at hl 0 rfl) ?_
        refine lv_iload_n hx hb dX9_closes_31 rfl (lv_at hl 1 rfl) ?_
        obtain ⟨v22, u23, hv22, hf⟩ := o_b2 hf
        refine x_vi (rest := []) (W1 := [x_o9 a_t t_p a_t_given v7 v6 a_t_c v8 a_t_pointX a_t_pointY a_t_pointZ a_t_pointFlags v2 a_t_flagPoint a_t_flagU a_t_flagV a_t_flagW a_t_next a_t_series a_t_mix a_t_cofactor v3 v4 v5 a_t_square t_isNought t_sumT t_sumY, x_ar cI a_t_c 4 u9, x_ar cI a_t_cofactor 6 u10, x_ar cI a_t_flagPoint 400 u11, x_ar cI a_t_flagU 400 u12, x_ar cI a_t_flagV 400 u13, x_ar cI a_t_flagW 400 u14, x_ar cI a_t_given 12 t_given_r, x_ar cI a_t_next 400 u15, x_ar cI a_t_pointFlags 200 u16, x_ar cI a_t_pointX 200 u17, x_ar cI a_t_pointY 200 u18, x_ar cI a_t_pointZ 200 u19, x_ar cI a_t_series 32 u20, x_ar cI a_t_square 225 u23]) ⟨hx, hb, hml, hown, hts⟩ (tX9_determinantOf l D cI a_t a_t_given a_t_c a_t_pointX a_t_pointY a_t_pointZ a_t_pointFlags a_t_flagPoint a_t_flagU a_t_flagV a_t_flagW a_t_next a_t_series a_t_mix a_t_cofactor a_t_square t_p v7 v6 v8 v2 v3 v4 v5 t_isNought t_sumT t_sumY u20 t_square_r i1 v22 u23 hv22) (cwV 1 hts gX9_closes_X9_determinantOf rfl rfl rfl (by decide +kernel) ⟨Nat.le_of_ble_eq_true rfl, Nat.le_of_ble_eq_true rfl⟩) hN hK hP hD hS hA [0, 13, 14] [some 0, none, none, none, none, none, none, none, none, none, none, none, none, some 1, some 2] rfl rfl rfl rfl rfl rfl 0 rfl rfl rfl hl.1 rfl (Nat.le_of_ble_eq_true rfl) dX9_closes_32 ⟨Nat.zero_le _, Nat.zero_le _⟩ (fun H locs hP hD hS => ?_)
        refine lv_if_ne (tgt := 42) hx hb dX9_closes_35 (by decide) (fun hc => ?_) (fun hc => ?_)
        · have hf := o_f hf hc
          refine lv_iconst (v := 0) hx hb dX9_closes_42 (by decide) ?_
          obtain ⟨rfl, rfl, rfl, rfl, rfl, rfl, rfl, rfl, rfl, rfl, rfl, rfl, rfl, rfl, rfl, rfl, rfl, rfl, rfl, rfl, rfl⟩ := o_s21 hf
          exact hret rfl rfl dX9_closes_43 hP hD hS
        · have hf := o_t hf hc
          refine lv_iconst (v := 1) hx hb dX9_closes_38 (by decide) ?_
          refine lv_goto (tgt := 43) hx hb dX9_closes_39 (by decide) ?_
          obtain ⟨rfl, rfl, rfl, rfl, rfl, rfl, rfl, rfl, rfl, rfl, rfl, rfl, rfl, rfl, rfl, rfl, rfl, rfl, rfl, rfl, rfl⟩ := o_s21 hf
          exact hret rfl rfl dX9_closes_43 hP hD hS
    · have hf := o_t hf hc
      refine lv_bipush (v := (-2)) hx hb dX9_closes_20 (by decide) ?_
      refine lv_goto (tgt := 43) hx hb dX9_closes_22 (by decide) ?_
      obtain ⟨rfl, rfl, rfl, rfl, rfl, rfl, rfl, rfl, rfl, rfl, rfl, rfl, rfl, rfl, rfl, rfl, rfl, rfl, rfl, rfl, rfl⟩ := o_s21 hf
      exact hret rfl rfl dX9_closes_43 hP hD hS
  · have hf := o_t hf hc
    refine lv_bipush (v := (-5)) hx hb dX9_closes_7 (by decide) ?_
    obtain ⟨rfl, rfl, rfl, rfl, rfl, rfl, rfl, rfl, rfl, rfl, rfl, rfl, rfl, rfl, rfl, rfl, rfl, rfl, rfl, rfl, rfl⟩ := o_s21 hf
    exact hret rfl rfl dX9_closes_9 hP hD hS
noncomputable def kX9_least_34 (v2 : Int32) (v3 : Int32) (v4 : Int32) (v5 : Int32) (v6 : Int32) (v7 : Int32) (v8 : Int32) (u9 : (Nat → Int32)) (u10 : (Nat → Int32)) (u11 : (Nat → Int32)) (u12 : (Nat → Int32)) (u13 : (Nat → Int32)) (u14 : (Nat → Int32)) (u15 : (Nat → Int32)) (u16 : (Nat → Int32)) (u17 : (Nat → Int32)) (u18 : (Nat → Int32)) (u19 : (Nat → Int32)) (u20 : (Nat → Int32)) (w23 : (Nat → Int32)) : Option (Int32 × Int32 × Int32 × Int32 × Int32 × Int32 × Int32 × Int32 × (Nat → Int32) × (Nat → Int32) × (Nat → Int32) × (Nat → Int32) × (Nat → Int32) × (Nat → Int32) × (Nat → Int32) × (Nat → Int32) × (Nat → Int32) × (Nat → Int32) × (Nat → Int32) × (Nat → Int32) × (Nat → Int32)) :=
  some ((-6), v2, v3, v4, v5, v6, v7, v8, u9, u10, u11, u12, u13, u14, u15, u16, u17, u18, u19, u20, w23)
noncomputable def FgX9_least_12 (t_p : Int32) (v2 : Int32) (v3 : Int32) (v4 : Int32) (v5 : Int32) (v6 : Int32) (v7 : Int32) (v8 : Int32) (u9 : (Nat → Int32)) (u10 : (Nat → Int32)) (u11 : (Nat → Int32)) (u12 : (Nat → Int32)) (u13 : (Nat → Int32)) (u14 : (Nat → Int32)) (u15 : (Nat → Int32)) (u16 : (Nat → Int32)) (u17 : (Nat → Int32)) (u18 : (Nat → Int32)) (u19 : (Nat → Int32)) (u20 : (Nat → Int32)) (rec12 : Int32 → (Nat → Int32) → Option (Int32 × Int32 × Int32 × Int32 × Int32 × Int32 × Int32 × Int32 × (Nat → Int32) × (Nat → Int32) × (Nat → Int32) × (Nat → Int32) × (Nat → Int32) × (Nat → Int32) × (Nat → Int32) × (Nat → Int32) × (Nat → Int32) × (Nat → Int32) × (Nat → Int32) × (Nat → Int32) × (Nat → Int32))) (kk12 : (Nat → Int32) → Option (Int32 × Int32 × Int32 × Int32 × Int32 × Int32 × Int32 × Int32 × (Nat → Int32) × (Nat → Int32) × (Nat → Int32) × (Nat → Int32) × (Nat → Int32) × (Nat → Int32) × (Nat → Int32) × (Nat → Int32) × (Nat → Int32) × (Nat → Int32) × (Nat → Int32) × (Nat → Int32) × (Nat → Int32))) (x21 : Int32) (z22 : (Nat → Int32)) : Option (Int32 × Int32 × Int32 × Int32 × Int32 × Int32 × Int32 × Int32 × (Nat → Int32) × (Nat → Int32) × (Nat → Int32) × (Nat → Int32) × (Nat → Int32) × (Nat → Int32) × (Nat → Int32) × (Nat → Int32) × (Nat → Int32) × (Nat → Int32) × (Nat → Int32) × (Nat → Int32) × (Nat → Int32)) :=
  if 31 < x21 then (kk12 z22) else (p_b2 (fX9_determinantOf t_p u20 z22 x21) (fun v24 u25 =>
if v24 = 0 then (some (x21, v2, v3, v4, v5, v6, v7, v8, u9, u10, u11, u12, u13, u14, u15, u16, u17, u18, u19, u20, u25)) else (p_nm (x21 + 1) (fun v26 =>
rec12 v26 u25))))
noncomputable def gX9_least_12 (t_p : Int32) (v2 : Int32) (v3 : Int32) (v4 : Int32) (v5 : Int32) (v6 : Int32) (v7 : Int32) (v8 : Int32) (u9 : (Nat → Int32)) (u10 : (Nat → Int32)) (u11 : (Nat → Int32)) (u12 : (Nat → Int32)) (u13 : (Nat → Int32)) (u14 : (Nat → Int32)) (u15 : (Nat → Int32)) (u16 : (Nat → Int32)) (u17 : (Nat → Int32)) (u18 : (Nat → Int32)) (u19 : (Nat → Int32)) (u20 : (Nat → Int32)) (kk12 : (Nat → Int32) → Option (Int32 × Int32 × Int32 × Int32 × Int32 × Int32 × Int32 × Int32 × (Nat → Int32) × (Nat → Int32) × (Nat → Int32) × (Nat → Int32) × (Nat → Int32) × (Nat → Int32) × (Nat → Int32) × (Nat → Int32) × (Nat → Int32) × (Nat → Int32) × (Nat → Int32) × (Nat → Int32) × (Nat → Int32))) (n : Nat) : Int32 → (Nat → Int32) → Option (Int32 × Int32 × Int32 × Int32 × Int32 × Int32 × Int32 × Int32 × (Nat → Int32) × (Nat → Int32) × (Nat → Int32) × (Nat → Int32) × (Nat → Int32) × (Nat → Int32) × (Nat → Int32) × (Nat → Int32) × (Nat → Int32) × (Nat → Int32) × (Nat → Int32) × (Nat → Int32) × (Nat → Int32)) := Nat.rec (motive := fun _ => Int32 → (Nat → Int32) → Option (Int32 × Int32 × Int32 × Int32 × Int32 × Int32 × Int32 × Int32 × (Nat → Int32) × (Nat → Int32) × (Nat → Int32) × (Nat → Int32) × (Nat → Int32) × (Nat → Int32) × (Nat → Int32) × (Nat → Int32) × (Nat → Int32) × (Nat → Int32) × (Nat → Int32) × (Nat → Int32) × (Nat → Int32))) (fun _ _ => none) (fun _ rec12 => FgX9_least_12 t_p v2 v3 v4 v5 v6 v7 v8 u9 u10 u11 u12 u13 u14 u15 u16 u17 u18 u19 u20 rec12 kk12) n
noncomputable def fX9_least (t_flags : Int32) (t_formX : Int32) (t_formY : Int32) (t_formZ : Int32) (t_isGood : Int32) (t_isLaid : Int32) (t_p : Int32) (t_points : Int32) (t_c_r : (Nat → Int32)) (t_cofactor_r : (Nat → Int32)) (t_flagPoint_r : (Nat → Int32)) (t_flagU_r : (Nat → Int32)) (t_flagV_r : (Nat → Int32)) (t_flagW_r : (Nat → Int32)) (t_given_r : (Nat → Int32)) (t_next_r : (Nat → Int32)) (t_pointFlags_r : (Nat → Int32)) (t_pointX_r : (Nat → Int32)) (t_pointY_r : (Nat → Int32)) (t_pointZ_r : (Nat → Int32)) (t_series_r : (Nat → Int32)) (t_square_r : (Nat → Int32)) : Option (Int32 × Int32 × Int32 × Int32 × Int32 × Int32 × Int32 × Int32 × (Nat → Int32) × (Nat → Int32) × (Nat → Int32) × (Nat → Int32) × (Nat → Int32) × (Nat → Int32) × (Nat → Int32) × (Nat → Int32) × (Nat → Int32) × (Nat → Int32) × (Nat → Int32) × (Nat → Int32) × (Nat → Int32)) :=
  p_b20 (fX9_isGood t_flags t_formX t_formY t_formZ t_isGood t_isLaid t_p t_points t_c_r t_cofactor_r t_flagPoint_r t_flagU_r t_flagV_r t_flagW_r t_given_r t_next_r t_pointFlags_r t_pointX_r t_pointY_r t_pointZ_r t_series_r) (fun v1 v2 v3 v4 v5 v6 v7 v8 u9 u10 u11 u12 u13 u14 u15 u16 u17 u18 u19 u20 =>
if v1 = 0 then (some ((-5), v2, v3, v4, v5, v6, v7, v8, u9, u10, u11, u12, u13, u14, u15, u16, u17, u18, u19, u20, t_square_r)) else (gX9_least_12 t_p v2 v3 v4 v5 v6 v7 v8 u9 u10 u11 u12 u13 u14 u15 u16 u17 u18 u19 u20 (kX9_least_34 v2 v3 v4 v5 v6 v7 v8 u9 u10 u11 u12 u13 u14 u15 u16 u17 u18 u19 u20) p_FU 3 t_square_r))
def rmX9_least : Room := { frames := 6, cells := 0, slots := 0, locals := 146 }
set_option maxHeartbeats 4000000 in
set_option maxRecDepth 100000 in
theorem tX9_least (l : Launch) (D : va_G) (cI : ClassId) (a_t : Nat) (a_t_given : Nat) (a_t_c : Nat) (a_t_pointX : Nat) (a_t_pointY : Nat) (a_t_pointZ : Nat) (a_t_pointFlags : Nat) (a_t_flagPoint : Nat) (a_t_flagU : Nat) (a_t_flagV : Nat) (a_t_flagW : Nat) (a_t_next : Nat) (a_t_series : Nat) (a_t_mix : Nat) (a_t_cofactor : Nat) (a_t_square : Nat) (t_p : Int32) (t_isLaid : Int32) (t_isGood : Int32) (t_points : Int32) (t_flags : Int32) (t_formX : Int32) (t_formY : Int32) (t_formZ : Int32) (t_isNought : Int32) (t_sumT : Int32) (t_sumY : Int32) (t_c_r : (Nat → Int32)) (t_cofactor_r : (Nat → Int32)) (t_flagPoint_r : (Nat → Int32)) (t_flagU_r : (Nat → Int32)) (t_flagV_r : (Nat → Int32)) (t_flagW_r : (Nat → Int32)) (t_given_r : (Nat → Int32)) (t_next_r : (Nat → Int32)) (t_pointFlags_r : (Nat → Int32)) (t_pointX_r : (Nat → Int32)) (t_pointY_r : (Nat → Int32)) (t_pointZ_r : (Nat → Int32)) (t_series_r : (Nat → Int32)) (t_square_r : (Nat → Int32)) (r : Int32) (s_t_flags : Int32) (s_t_formX : Int32) (s_t_formY : Int32) (s_t_formZ : Int32) (s_t_isGood : Int32) (s_t_isLaid : Int32) (s_t_points : Int32) (s_t_c_r : (Nat → Int32)) (s_t_cofactor_r : (Nat → Int32)) (s_t_flagPoint_r : (Nat → Int32)) (s_t_flagU_r : (Nat → Int32)) (s_t_flagV_r : (Nat → Int32)) (s_t_flagW_r : (Nat → Int32)) (s_t_next_r : (Nat → Int32)) (s_t_pointFlags_r : (Nat → Int32)) (s_t_pointX_r : (Nat → Int32)) (s_t_pointY_r : (Nat → Int32)) (s_t_pointZ_r : (Nat → Int32)) (s_t_series_r : (Nat → Int32)) (s_t_square_r : (Nat → Int32)) (hf : fX9_least t_flags t_formX t_formY t_formZ t_isGood t_isLaid t_p t_points t_c_r t_cofactor_r t_flagPoint_r t_flagU_r t_flagV_r t_flagW_r t_given_r t_next_r t_pointFlags_r t_pointX_r t_pointY_r t_pointZ_r t_series_r t_square_r = some (r, s_t_flags, s_t_formX, s_t_formY, s_t_formZ, s_t_isGood, s_t_isLaid, s_t_points, s_t_c_r, s_t_cofactor_r, s_t_flagPoint_r, s_t_flagU_r, s_t_flagV_r, s_t_flagW_r, s_t_next_r, s_t_pointFlags_r, s_t_pointX_r, s_t_pointY_r, s_t_pointZ_r, s_t_series_r, s_t_square_r)) : x_CI l D cI yX9_least wsX9_least rmX9_least [.ref a_t] [x_o9 a_t t_p a_t_given t_isLaid t_isGood a_t_c t_points a_t_pointX a_t_pointY a_t_pointZ a_t_pointFlags t_flags a_t_flagPoint a_t_flagU a_t_flagV a_t_flagW a_t_next a_t_series a_t_mix a_t_cofactor t_formX t_formY t_formZ a_t_square t_isNought t_sumT t_sumY, x_ar cI a_t_c 4 t_c_r, x_ar cI a_t_cofactor 6 t_cofactor_r, x_ar cI a_t_flagPoint 400 t_flagPoint_r, x_ar cI a_t_flagU 400 t_flagU_r, x_ar cI a_t_flagV 400 t_flagV_r, x_ar cI a_t_flagW 400 t_flagW_r, x_ar cI a_t_given 12 t_given_r, x_ar cI a_t_next 400 t_next_r, x_ar cI a_t_pointFlags 200 t_pointFlags_r, x_ar cI a_t_pointX 200 t_pointX_r, x_ar cI a_t_pointY 200 t_pointY_r, x_ar cI a_t_pointZ 200 t_pointZ_r, x_ar cI a_t_series 32 t_series_r, x_ar cI a_t_square 225 t_square_r] [x_o9 a_t t_p a_t_given s_t_isLaid s_t_isGood a_t_c s_t_points a_t_pointX a_t_pointY a_t_pointZ a_t_pointFlags s_t_flags a_t_flagPoint a_t_flagU a_t_flagV a_t_flagW a_t_next a_t_series a_t_mix a_t_cofactor s_t_formX s_t_formY s_t_formZ a_t_square t_isNought t_sumT t_sumY, x_ar cI a_t_c 4 s_t_c_r, x_ar cI a_t_cofactor 6 s_t_cofactor_r, x_ar cI a_t_flagPoint 400 s_t_flagPoint_r, x_ar cI a_t_flagU 400 s_t_flagU_r, x_ar cI a_t_flagV 400 s_t_flagV_r, x_ar cI a_t_flagW 400 s_t_flagW_r, x_ar cI a_t_given 12 t_given_r, x_ar cI a_t_next 400 s_t_next_r, x_ar cI a_t_pointFlags 200 s_t_pointFlags_r, x_ar cI a_t_pointX 200 s_t_pointX_r, x_ar cI a_t_pointY 200 s_t_pointY_r, x_ar cI a_t_pointZ 200 s_t_pointZ_r, x_ar cI a_t_series 32 s_t_series_r, x_ar cI a_t_square 225 s_t_square_r] r := by
  refine x_CI_of (cc := cX9_least) (maxL := 2) (ty := .int) (own := RX9) (lv0 := [(0, .ref a_t)]) (by decide) rfl rfl (Nat.le_of_ble_eq_true rfl) rfl ?_
  intro p e s m args below meth c A Q ls hx hb hml hown hts hN hK hP hD hS hA hl hret
  unfold fX9_least at hf
  refine lv_aload_n hx hb dX9_least_0 rfl (lv_at hl 0 rfl) ?_
  obtain ⟨v1, v2, v3, v4, v5, v6, v7, v8, u9, u10, u11, u12, u13, u14, u15, u16, u17, u18, u19, u20, hv1, hf⟩ := o_b20 hf
  refine x_vi (rest := []) (W1 := [x_o9 a_t t_p a_t_given v7 v6 a_t_c v8 a_t_pointX a_t_pointY a_t_pointZ a_t_pointFlags v2 a_t_flagPoint a_t_flagU a_t_flagV a_t_flagW a_t_next a_t_series a_t_mix a_t_cofactor v3 v4 v5 a_t_square t_isNought t_sumT t_sumY, x_ar cI a_t_c 4 u9, x_ar cI a_t_cofactor 6 u10, x_ar cI a_t_flagPoint 400 u11, x_ar cI a_t_flagU 400 u12, x_ar cI a_t_flagV 400 u13, x_ar cI a_t_flagW 400 u14, x_ar cI a_t_given 12 t_given_r, x_ar cI a_t_next 400 u15, x_ar cI a_t_pointFlags 200 u16, x_ar cI a_t_pointX 200 u17, x_ar cI a_t_pointY 200 u18, x_ar cI a_t_pointZ 200 u19, x_ar cI a_t_series 32 u20, x_ar cI a_t_square 225 t_square_r]) ⟨hx, hb, hml, hown, hts⟩ (tX9_isGood l D cI a_t a_t_given a_t_c a_t_pointX a_t_pointY a_t_pointZ a_t_pointFlags a_t_flagPoint a_t_flagU a_t_flagV a_t_flagW a_t_next a_t_series a_t_mix a_t_cofactor a_t_square t_p t_isLaid t_isGood t_points t_flags t_formX t_formY t_formZ t_isNought t_sumT t_sumY t_c_r t_cofactor_r t_flagPoint_r t_flagU_r t_flagV_r t_flagW_r t_given_r t_next_r t_pointFlags_r t_pointX_r t_pointY_r t_pointZ_r t_series_r v1 v2 v3 v4 v5 v6 v7 v8 u9 u10 u11 u12 u13 u14 u15 u16 u17 u18 u19 u20 hv1) (cwV 0 hts gX9_least_X9_isGood rfl rfl rfl (by decide +kernel) ⟨Nat.le_of_ble_eq_true rfl, Nat.le_of_ble_eq_true rfl⟩) hN hK hP hD hS hA [0, 1, 2, 3, 4, 5, 6, 7, 8, 9, 10, 11, 12, 13] [some 0, some 1, some 2, some 3, some 4, some 5, some 6, some 7, some 8, some 9, some 10, some 11, some 12, some 13, none] rfl rfl rfl rfl rfl rfl 0 rfl rfl rfl hl.1 rfl (Nat.le_of_ble_eq_true rfl) dX9_least_1 ⟨Nat.zero_le _, Nat.zero_le _⟩ (fun H locs hP hD hS => ?_)
  refine lv_if_ne (tgt := 10) hx hb dX9_least_4 (by decide) (fun hc => ?_) (fun hc => ?_)
  · have hf := o_f hf hc
    refine lv_iconst (v := 3) hx hb dX9_least_10 (by decide) ?_
    refine lv_istore_n (lv' := [(1, .int 3), (0, .ref a_t)]) hx hb dX9_least_11 rfl hl (by decide) rfl (fun ls hl => ?_)
    have L12 : ∀ (n : Nat) (x21 : Int32) (z22 : (Nat → Int32)) (ls : Array Slot) (H : Heap) (locs : List Loc), gX9_least_12 t_p v2 v3 v4 v5 v6 v7 v8 u9 u10 u11 u12 u13 u14 u15 u16 u17 u18 u19 u20 (kX9_least_34 v2 v3 v4 v5 v6 v7 v8 u9 u10 u11 u12 u13 u14 u15 u16 u17 u18 u19 u20) n x21 z22 = some (r, s_t_flags, s_t_formX, s_t_formY, s_t_formZ, s_t_isGood, s_t_isLaid, s_t_points, s_t_c_r, s_t_cofactor_r, s_t_flagPoint_r, s_t_flagU_r, s_t_flagV_r, s_t_flagW_r, s_t_next_r, s_t_pointFlags_r, s_t_pointX_r, s_t_pointY_r, s_t_pointZ_r, s_t_series_r, s_t_square_r) → lv_has ls 2 [(0, .ref a_t), (1, .int x21)] → va_P D vwCl [x_o9 a_t t_p a_t_given v7 v6 a_t_c v8 a_t_pointX a_t_pointY a_t_pointZ a_t_pointFlags v2 a_t_flagPoint a_t_flagU a_t_flagV a_t_flagW a_t_next a_t_series a_t_mix a_t_cofactor v3 v4 v5 a_t_square t_isNought t_sumT t_sumY, x_ar cI a_t_c 4 u9, x_ar cI a_t_cofactor 6 u10, x_ar cI a_t_flagPoint 400 u11, x_ar cI a_t_flagU 400 u12, x_ar cI a_t_flagV 400 u13, x_ar cI a_t_flagW 400 u14, x_ar cI a_t_given 12 t_given_r, x_ar cI a_t_next 400 u15, x_ar cI a_t_pointFlags 200 u16, x_ar cI a_t_pointX 200 u17, x_ar cI a_t_pointY 200 u18, x_ar cI a_t_pointZ 200 u19, x_ar cI a_t_series 32 u20, x_ar cI a_t_square 225 z22] H → va_D A [x_o9 a_t t_p a_t_given v7 v6 a_t_c v8 a_t_pointX a_t_pointY a_t_pointZ a_t_pointFlags v2 a_t_flagPoint a_t_flagU a_t_flagV a_t_flagW a_t_next a_t_series a_t_mix a_t_cofactor v3 v4 v5 a_t_square t_isNought t_sumT t_sumY, x_ar cI a_t_c 4 u9, x_ar cI a_t_cofactor 6 u10, x_ar cI a_t_flagPoint 400 u11, x_ar cI a_t_flagU 400 u12, x_ar cI a_t_flagV 400 u13, x_ar cI a_t_flagW 400 u14, x_ar cI a_t_given 12 t_given_r, x_ar cI a_t_next 400 u15, x_ar cI a_t_pointFlags 200 u16, x_ar cI a_t_pointX 200 u17, x_ar cI a_t_pointY 200 u18, x_ar cI a_t_pointZ 200 u19, x_ar cI a_t_series 32 u20, x_ar cI a_t_square 225 z22] → va_S A s.heap H locs → W p l e rmX9_least s m args below meth c H locs 0 0 Q (F0 m 12 ls []) := by
      intro n12
      induction n12 with
      | zero =>
        intro x21 z22 ls H locs hf
        exact nomatch (show (none : Option (Int32 × Int32 × Int32 × Int32 × Int32 × Int32 × Int32 × Int32 × (Nat → Int32) × (Nat → Int32) × (Nat → Int32) × (Nat → Int32) × (Nat → Int32) × (Nat → Int32) × (Nat → Int32) × (Nat → Int32) × (Nat → Int32) × (Nat → Int32) × (Nat → Int32) × (Nat → Int32) × (Nat → Int32))) = some (r, s_t_flags, s_t_formX, s_t_formY, s_t_formZ, s_t_isGood, s_t_isLaid, s_t_points, s_t_c_r, s_t_cofactor_r, s_t_flagPoint_r, s_t_flagU_r, s_t_flagV_r, s_t_flagW_r, s_t_next_r, s_t_pointFlags_r, s_t_pointX_r, s_t_pointY_r, s_t_pointZ_r, s_t_series_r, s_t_square_r) from hf)
      | succ n12 ih12 =>
        intro x21 z22 ls H locs hf hl hP hD hS
        have hf : FgX9_least_12 t_p v2 v3 v4 v5 v6 v7 v8 u9 u10 u11 u12 u13 u14 u15 u16 u17 u18 u19 u20 (gX9_least_12 t_p v2 v3 v4 v5 v6 v7 v8 u9 u10 u11 u12 u13 u14 u15 u16 u17 u18 u19 u20 (kX9_least_34 v2 v3 v4 v5 v6 v7 v8 u9 u10 u11 u12 u13 u14 u15 u16 u17 u18 u19 u20) n12) (kX9_least_34 v2 v3 v4 v5 v6 v7 v8 u9 u10 u11 u12 u13 u14 u15 u16 u17 u18 u19 u20) x21 z22 = some (r, s_t_flags, s_t_formX, s_t_formY, s_t_formZ, s_t_isGood, s_t_isLaid, s_t_points, s_t_c_r, s_t_cofactor_r, s_t_flagPoint_r, s_t_flagU_r, s_t_flagV_r, s_t_flagW_r, s_t_next_r, s_t_pointFlags_r, s_t_pointX_r, s_t_pointY_r, s_t_pointZ_r, s_t_series_r, s_t_square_r) := hf
        unfold FgX9_least_12 at hf
        refine lv_iload_n hx hb dX9_least_12 rfl (lv_at hl 1 rfl) ?_
        refine lv_bipush (v := 31) hx hb dX9_least_13 (by decide) ?_
        have J34 : ∀ (w23 : (Nat → Int32)) (ls : Array Slot) (H : Heap) (locs : List Loc), kX9_least_34 v2 v3 v4 v5 v6 v7 v8 u9 u10 u11 u12 u13 u14 u15 u16 u17 u18 u19 u20 w23 = some (r, s_t_flags, s_t_formX, s_t_formY, s_t_formZ, s_t_isGood, s_t_isLaid, s_t_points, s_t_c_r, s_t_cofactor_r, s_t_flagPoint_r, s_t_flagU_r, s_t_flagV_r, s_t_flagW_r, s_t_next_r, s_t_pointFlags_r, s_t_pointX_r, s_t_pointY_r, s_t_pointZ_r, s_t_series_r, s_t_square_r) → lv_has ls 2 [] → va_P D vwCl [x_o9 a_t t_p a_t_given v7 v6 a_t_c v8 a_t_pointX a_t_pointY a_t_pointZ a_t_pointFlags v2 a_t_flagPoint a_t_flagU a_t_flagV a_t_flagW a_t_next a_t_series a_t_mix a_t_cofactor v3 v4 v5 a_t_square t_isNought t_sumT t_sumY, x_ar cI a_t_c 4 u9, x_ar cI a_t_cofactor 6 u10, x_ar cI a_t_flagPoint 400 u11, x_ar cI a_t_flagU 400 u12, x_ar cI a_t_flagV 400 u13, x_ar cI a_t_flagW 400 u14, x_ar cI a_t_given 12 t_given_r, x_ar cI a_t_next 400 u15, x_ar cI a_t_pointFlags 200 u16, x_ar cI a_t_pointX 200 u17, x_ar cI a_t_pointY 200 u18, x_ar cI a_t_pointZ 200 u19, x_ar cI a_t_series 32 u20, x_ar cI a_t_square 225 w23] H → va_D A [x_o9 a_t t_p a_t_given v7 v6 a_t_c v8 a_t_pointX a_t_pointY a_t_pointZ a_t_pointFlags v2 a_t_flagPoint a_t_flagU a_t_flagV a_t_flagW a_t_next a_t_series a_t_mix a_t_cofactor v3 v4 v5 a_t_square t_isNought t_sumT t_sumY, x_ar cI a_t_c 4 u9, x_ar cI a_t_cofactor 6 u10, x_ar cI a_t_flagPoint 400 u11, x_ar cI a_t_flagU 400 u12, x_ar cI a_t_flagV 400 u13, x_ar cI a_t_flagW 400 u14, x_ar cI a_t_given 12 t_given_r, x_ar cI a_t_next 400 u15, x_ar cI a_t_pointFlags 200 u16, x_ar cI a_t_pointX 200 u17, x_ar cI a_t_pointY 200 u18, x_ar cI a_t_pointZ 200 u19, x_ar cI a_t_series 32 u20, x_ar cI a_t_square 225 w23] → va_S A s.heap H locs → W p l e rmX9_least s m args below meth c H locs 0 0 Q (F0 m 34 ls []) := by
          intro w23 ls H locs hf hl hP hD hS
          unfold kX9_least_34 at hf
          refine lv_bipush (v := (-6)) hx hb dX9_least_34 (by decide) ?_
          obtain ⟨rfl, rfl, rfl, rfl, rfl, rfl, rfl, rfl, rfl, rfl, rfl, rfl, rfl, rfl, rfl, rfl, rfl, rfl, rfl, rfl, rfl⟩ := o_s21 hf
          exact hret rfl rfl dX9_least_36 hP hD hS
        refine lv_icmp_gt (tgt := 34) hx hb dX9_least_15 (by decide) (fun hc => ?_) (fun hc => ?_)
        · have hf := o_t hf hc
          exact J34 z22 _ _ _ hf (lv_sub hl [] rfl) hP hD hS
        · have hf := o_f hf hc
          refine lv_aload_n hx hb dX9_least_18 rfl (lv_at hl 0 rfl) ?_
          refine lv_iload_n hx hb dX9_least_19 rfl (lv_at hl 1 rfl) ?_
          obtain ⟨v24, u25, hv24, hf⟩ := o_b2 hf
          refine x_vi (rest := []) (W1 := [x_o9 a_t t_p a_t_given v7 v6 a_t_c v8 a_t_pointX a_t_pointY a_t_pointZ a_t_pointFlags v2 a_t_flagPoint a_t_flagU a_t_flagV a_t_flagW a_t_next a_t_series a_t_mix a_t_cofactor v3 v4 v5 a_t_square t_isNought t_sumT t_sumY, x_ar cI a_t_c 4 u9, x_ar cI a_t_cofactor 6 u10, x_ar cI a_t_flagPoint 400 u11, x_ar cI a_t_flagU 400 u12, x_ar cI a_t_flagV 400 u13, x_ar cI a_t_flagW 400 u14, x_ar cI a_t_given 12 t_given_r, x_ar cI a_t_next 400 u15, x_ar cI a_t_pointFlags 200 u16, x_ar cI a_t_pointX 200 u17, x_ar cI a_t_pointY 200 u18, x_ar cI a_t_pointZ 200 u19, x_ar cI a_t_series 32 u20, x_ar cI a_t_square 225 u25]) ⟨hx, hb, hml, hown, hts⟩ (tX9_determinantOf l D cI a_t a_t_given a_t_c a_t_pointX a_t_pointY a_t_pointZ a_t_pointFlags a_t_flagPoint a_t_flagU a_t_flagV a_t_flagW a_t_next a_t_series a_t_mix a_t_cofactor a_t_square t_p v7 v6 v8 v2 v3 v4 v5 t_isNought t_sumT t_sumY u20 z22 x21 v24 u25 hv24) (cwV 1 hts gX9_least_X9_determinantOf rfl rfl rfl (by decide +kernel) ⟨Nat.le_of_ble_eq_true rfl, Nat.le_of_ble_eq_true rfl⟩) hN hK hP hD hS hA [0, 13, 14] [some 0, none, none, none, none, none, none, none, none, none, none, none, none, some 1, some 2] rfl rfl rfl rfl rfl rfl 0 rfl rfl rfl hl.1 rfl (Nat.le_of_ble_eq_true rfl) dX9_least_20 ⟨Nat.zero_le _, Nat.zero_le _⟩ (fun H locs hP hD hS => ?_)
          refine lv_if_ne (tgt := 28) hx hb dX9_least_23 (by decide) (fun hc => ?_) (fun hc => ?_)
          · have hf := o_f hf hc
            obtain ⟨v26, ev26, hf⟩ := o_nm hf
            refine lv_iinc (v := v26) (lv' := [(1, .int v26), (0, .ref a_t)]) hx hb dX9_least_28 hl (k := 1) rfl (by rw [ev26]; rfl) (by decide) rfl (fun ls hl => ?_)
            refine lv_goto (tgt := 12) hx hb dX9_least_31 (by decide) ?_
            exact ih12 v26 u25 _ _ _ hf (lv_sub hl [1, 0] rfl) hP hD hS
          · have hf := o_t hf hc
            refine lv_iload_n hx hb dX9_least_26 rfl (lv_at hl 1 rfl) ?_
            obtain ⟨rfl, rfl, rfl, rfl, rfl, rfl, rfl, rfl, rfl, rfl, rfl, rfl, rfl, rfl, rfl, rfl, rfl, rfl, rfl, rfl, rfl⟩ := o_s21 hf
            exact hret rfl rfl dX9_least_27 hP hD hS
    exact L12 p_FU 3 t_square_r _ _ _ hf (lv_sub hl [1, 0] rfl) hP hD hS
  · have hf := o_t hf hc
    refine lv_bipush (v := (-5)) hx hb dX9_least_7 (by decide) ?_
    obtain ⟨rfl, rfl, rfl, rfl, rfl, rfl, rfl, rfl, rfl, rfl, rfl, rfl, rfl, rfl, rfl, rfl, rfl, rfl, rfl, rfl, rfl⟩ := o_s21 hf
    exact hret rfl rfl dX9_least_9 hP hD hS
noncomputable def fX9_cubeAt (t_p : Int32) (t_c_r : (Nat → Int32)) (i1 : Int32) : Option (Int32) :=
  p_b1 (p_ld t_c_r 4 3) (fun v1 =>
p_b1 (p_ld t_c_r 4 2) (fun v2 =>
p_b1 (fX9_of t_p ((v1 * i1) + v2)) (fun v3 =>
p_b1 (p_ld t_c_r 4 1) (fun v4 =>
p_b1 (fX9_of t_p ((v3 * i1) + v4)) (fun v5 =>
p_b1 (p_ld t_c_r 4 0) (fun v6 =>
p_b1 (fX9_of t_p ((v5 * i1) + v6)) (fun v7 =>
p_b1 (p_ld t_c_r 4 0) (fun v8 =>
p_b1 (fX9_by t_p v7 v8) (fun v9 =>
some v9)))))))))
def rmX9_cubeAt : Room := { frames := 2, cells := 0, slots := 0, locals := 47 }
set_option maxHeartbeats 4000000 in
set_option maxRecDepth 100000 in
theorem tX9_cubeAt (l : Launch) (D : va_G) (cI : ClassId) (a_t : Nat) (a_t_given : Nat) (a_t_c : Nat) (a_t_pointX : Nat) (a_t_pointY : Nat) (a_t_pointZ : Nat) (a_t_pointFlags : Nat) (a_t_flagPoint : Nat) (a_t_flagU : Nat) (a_t_flagV : Nat) (a_t_flagW : Nat) (a_t_next : Nat) (a_t_series : Nat) (a_t_mix : Nat) (a_t_cofactor : Nat) (a_t_square : Nat) (t_p : Int32) (t_isLaid : Int32) (t_isGood : Int32) (t_points : Int32) (t_flags : Int32) (t_formX : Int32) (t_formY : Int32) (t_formZ : Int32) (t_isNought : Int32) (t_sumT : Int32) (t_sumY : Int32) (t_c_r : (Nat → Int32)) (i1 : Int32) (r : Int32) (hf : fX9_cubeAt t_p t_c_r i1 = some r) : x_CI l D cI yX9_cubeAt wsX9_cubeAt rmX9_cubeAt [.ref a_t, .int i1] [x_o9 a_t t_p a_t_given t_isLaid t_isGood a_t_c t_points a_t_pointX a_t_pointY a_t_pointZ a_t_pointFlags t_flags a_t_flagPoint a_t_flagU a_t_flagV a_t_flagW a_t_next a_t_series a_t_mix a_t_cofactor t_formX t_formY t_formZ a_t_square t_isNought t_sumT t_sumY, x_ar cI a_t_c 4 t_c_r] [x_o9 a_t t_p a_t_given t_isLaid t_isGood a_t_c t_points a_t_pointX a_t_pointY a_t_pointZ a_t_pointFlags t_flags a_t_flagPoint a_t_flagU a_t_flagV a_t_flagW a_t_next a_t_series a_t_mix a_t_cofactor t_formX t_formY t_formZ a_t_square t_isNought t_sumT t_sumY, x_ar cI a_t_c 4 t_c_r] r := by
  refine x_CI_of (cc := cX9_cubeAt) (maxL := 3) (ty := .int) (own := RX9) (lv0 := [(0, .ref a_t), (1, .int i1)]) (by decide) rfl rfl (Nat.le_of_ble_eq_true rfl) rfl ?_
  intro p e s m args below meth c A Q ls hx hb hml hown hts hN hK hP hD hS hA hl hret
  have iX9 : ∀ w ∈ u_ws RX9 TX9 26, w ∈ wsX9_cubeAt := by decide +kernel
  have l17 := hts (.fieldLink RX9 17 "ChordRingsModel" "c" "[I") (by decide +kernel)
  unfold fX9_cubeAt at hf
  refine lv_aload_n hx hb dX9_cubeAt_0 rfl (lv_at hl 0 rfl) ?_
  refine va_get (D := D) (ci := 9) (C := RX9) (T := TX9) (N := 26) hx hb hts iX9 hown hK hP 0 rfl rfl 4 (by decide) l17 (fun _ h9 => h9) rfl dX9_cubeAt_1 ?_
  refine lv_iconst (v := 3) hx hb dX9_cubeAt_4 (by decide) ?_
  obtain ⟨v1, hv1, hf⟩ := o_b1 hf
  refine x_ald hx hb hK hP 1 rfl hv1 dX9_cubeAt_5 ?_
  refine lv_istore_n (lv' := [(2, .int v1), (0, .ref a_t), (1, .int i1)]) hx hb dX9_cubeAt_6 rfl hl (by decide) rfl (fun ls hl => ?_)
  refine lv_aload_n hx hb dX9_cubeAt_7 rfl (lv_at hl 1 rfl) ?_
  refine lv_iload_n hx hb dX9_cubeAt_8 rfl (lv_at hl 0 rfl) ?_
  refine lv_iload_n hx hb dX9_cubeAt_9 rfl (lv_at hl 2 rfl) ?_
  refine lv_imul hx hb dX9_cubeAt_10 ?_
  refine lv_aload_n hx hb dX9_cubeAt_11 rfl (lv_at hl 1 rfl) ?_
  refine va_get (D := D) (ci := 9) (C := RX9) (T := TX9) (N := 26) hx hb hts iX9 hown hK hP 0 rfl rfl 4 (by decide) l17 (fun _ h9 => h9) rfl dX9_cubeAt_12 ?_
  refine lv_iconst (v := 2) hx hb dX9_cubeAt_15 (by decide) ?_
  obtain ⟨v2, hv2, hf⟩ := o_b1 hf
  refine x_ald hx hb hK hP 1 rfl hv2 dX9_cubeAt_16 ?_
  refine lv_iadd hx hb dX9_cubeAt_17 ?_
  obtain ⟨v3, hv3, hf⟩ := o_b1 hf
  refine x_vi (rest := []) (W1 := [x_o9 a_t t_p a_t_given t_isLaid t_isGood a_t_c t_points a_t_pointX a_t_pointY a_t_pointZ a_t_pointFlags t_flags a_t_flagPoint a_t_flagU a_t_flagV a_t_flagW a_t_next a_t_series a_t_mix a_t_cofactor t_formX t_formY t_formZ a_t_square t_isNought t_sumT t_sumY, x_ar cI a_t_c 4 t_c_r]) ⟨hx, hb, hml, hown, hts⟩ (tX9_of l D cI a_t a_t_given a_t_c a_t_pointX a_t_pointY a_t_pointZ a_t_pointFlags a_t_flagPoint a_t_flagU a_t_flagV a_t_flagW a_t_next a_t_series a_t_mix a_t_cofactor a_t_square t_p t_isLaid t_isGood t_points t_flags t_formX t_formY t_formZ t_isNought t_sumT t_sumY ((v1 * i1) + v2) v3 hv3) (cwV 1 hts gX9_cubeAt_X9_of rfl rfl rfl (by decide +kernel) ⟨Nat.le_of_ble_eq_true rfl, Nat.le_of_ble_eq_true rfl⟩) hN hK hP hD hS hA [0] [some 0, none] rfl rfl rfl rfl rfl rfl 0 rfl rfl rfl hl.1 rfl (Nat.le_of_ble_eq_true rfl) dX9_cubeAt_18 ⟨Nat.zero_le _, Nat.zero_le _⟩ (fun H locs hP hD hS => ?_)
  refine lv_istore_n (lv' := [(2, .int v3), (0, .ref a_t), (1, .int i1)]) hx hb dX9_cubeAt_21 rfl hl (by decide) rfl (fun ls hl => ?_)
  refine lv_aload_n hx hb dX9_cubeAt_22 rfl (lv_at hl 1 rfl) ?_
  refine lv_iload_n hx hb dX9_cubeAt_23 rfl (lv_at hl 0 rfl) ?_
  refine lv_iload_n hx hb dX9_cubeAt_24 rfl (lv_at hl 2 rfl) ?_
  refine lv_imul hx hb dX9_cubeAt_25 ?_
  refine lv_aload_n hx hb dX9_cubeAt_26 rfl (lv_at hl 1 rfl) ?_
  refine va_get (D := D) (ci := 9) (C := RX9) (T := TX9) (N := 26) hx hb hts iX9 hown hK hP 0 rfl rfl 4 (by decide) l17 (fun _ h9 => h9) rfl dX9_cubeAt_27 ?_
  refine lv_iconst (v := 1) hx hb dX9_cubeAt_30 (by decide) ?_
  obtain ⟨v4, hv4, hf⟩ := o_b1 hf
  refine x_ald hx hb hK hP 1 rfl hv4 dX9_cubeAt_31 ?_
  refine lv_iadd hx hb dX9_cubeAt_32 ?_
  obtain ⟨v5, hv5, hf⟩ := o_b1 hf
  refine x_vi (rest := []) (W1 := [x_o9 a_t t_p a_t_given t_isLaid t_isGood a_t_c t_points a_t_pointX a_t_pointY a_t_pointZ a_t_pointFlags t_flags a_t_flagPoint a_t_flagU a_t_flagV a_t_flagW a_t_next a_t_series a_t_mix a_t_cofactor t_formX t_formY t_formZ a_t_square t_isNought t_sumT t_sumY, x_ar cI a_t_c 4 t_c_r]) ⟨hx, hb, hml, hown, hts⟩ (tX9_of l D cI a_t a_t_given a_t_c a_t_pointX a_t_pointY a_t_pointZ a_t_pointFlags a_t_flagPoint a_t_flagU a_t_flagV a_t_flagW a_t_next a_t_series a_t_mix a_t_cofactor a_t_square t_p t_isLaid t_isGood t_points t_flags t_formX t_formY t_formZ t_isNought t_sumT t_sumY ((v3 * i1) + v4) v5 hv5) (cwV 1 hts gX9_cubeAt_X9_of rfl rfl rfl (by decide +kernel) ⟨Nat.le_of_ble_eq_true rfl, Nat.le_of_ble_eq_true rfl⟩) hN hK hP hD hS hA [0] [some 0, none] rfl rfl rfl rfl rfl rfl 0 rfl rfl rfl hl.1 rfl (Nat.le_of_ble_eq_true rfl) dX9_cubeAt_33 ⟨Nat.zero_le _, Nat.zero_le _⟩ (fun H locs hP hD hS => ?_)
  refine lv_istore_n (lv' := [(2, .int v5), (0, .ref a_t), (1, .int i1)]) hx hb dX9_cubeAt_36 rfl hl (by decide) rfl (fun ls hl => ?_)
  refine lv_aload_n hx hb dX9_cubeAt_37 rfl (lv_at hl 1 rfl) ?_
  refine lv_iload_n hx hb dX9_cubeAt_38 rfl (lv_at hl 0 rfl) ?_
  refine lv_iload_n hx hb dX9_cubeAt_39 rfl (lv_at hl 2 rfl) ?_
  refine lv_imul hx hb dX9_cubeAt_40 ?_
  refine lv_aload_n hx hb dX9_cubeAt_41 rfl (lv_at hl 1 rfl) ?_
  refine va_get (D := D) (ci := 9) (C := RX9) (T := TX9) (N := 26) hx hb hts iX9 hown hK hP 0 rfl rfl 4 (by decide) l17 (fun _ h9 => h9) rfl dX9_cubeAt_42 ?_
  refine lv_iconst (v := 0) hx hb dX9_cubeAt_45 (by decide) ?_
  obtain ⟨v6, hv6, hf⟩ := o_b1 hf
  refine x_ald hx hb hK hP 1 rfl hv6 dX9_cubeAt_46 ?_
  refine lv_iadd hx hb dX9_cubeAt_47 ?_
  obtain ⟨v7, hv7, hf⟩ := o_b1 hf
  refine x_vi (rest := []) (W1 := [x_o9 a_t t_p a_t_given t_isLaid t_isGood a_t_c t_points a_t_pointX a_t_pointY a_t_pointZ a_t_pointFlags t_flags a_t_flagPoint a_t_flagU a_t_flagV a_t_flagW a_t_next a_t_series a_t_mix a_t_cofactor t_formX t_formY t_formZ a_t_square t_isNought t_sumT t_sumY, x_ar cI a_t_c 4 t_c_r]) ⟨hx, hb, hml, hown, hts⟩ (tX9_of l D cI a_t a_t_given a_t_c a_t_pointX a_t_pointY a_t_pointZ a_t_pointFlags a_t_flagPoint a_t_flagU a_t_flagV a_t_flagW a_t_next a_t_series a_t_mix a_t_cofactor a_t_square t_p t_isLaid t_isGood t_points t_flags t_formX t_formY t_formZ t_isNought t_sumT t_sumY ((v5 * i1) + v6) v7 hv7) (cwV 1 hts gX9_cubeAt_X9_of rfl rfl rfl (by decide +kernel) ⟨Nat.le_of_ble_eq_true rfl, Nat.le_of_ble_eq_true rfl⟩) hN hK hP hD hS hA [0] [some 0, none] rfl rfl rfl rfl rfl rfl 0 rfl rfl rfl hl.1 rfl (Nat.le_of_ble_eq_true rfl) dX9_cubeAt_48 ⟨Nat.zero_le _, Nat.zero_le _⟩ (fun H locs hP hD hS => ?_)
  refine lv_istore_n (lv' := [(2, .int v7), (0, .ref a_t), (1, .int i1)]) hx hb dX9_cubeAt_51 rfl hl (by decide) rfl (fun ls hl => ?_)
  refine lv_aload_n hx hb dX9_cubeAt_52 rfl (lv_at hl 1 rfl) ?_
  refine lv_iload_n hx hb dX9_cubeAt_53 rfl (lv_at hl 0 rfl) ?_
  refine lv_aload_n hx hb dX9_cubeAt_54 rfl (lv_at hl 1 rfl) ?_
  refine va_get (D := D) (ci := 9) (C := RX9) (T := TX9) (N := 26) hx hb hts iX9 hown hK hP 0 rfl rfl 4 (by decide) l17 (fun _ h9 => h9) rfl dX9_cubeAt_55 ?_
  refine lv_iconst (v := 0) hx hb dX9_cubeAt_58 (by decide) ?_
  obtain ⟨v8, hv8, hf⟩ := o_b1 hf
  refine x_ald hx hb hK hP 1 rfl hv8 dX9_cubeAt_59 ?_
  obtain ⟨v9, hv9, hf⟩ := o_b1 hf
  refine x_vi (rest := []) (W1 := [x_o9 a_t t_p a_t_given t_isLaid t_isGood a_t_c t_points a_t_pointX a_t_pointY a_t_pointZ a_t_pointFlags t_flags a_t_flagPoint a_t_flagU a_t_flagV a_t_flagW a_t_next a_t_series a_t_mix a_t_cofactor t_formX t_formY t_formZ a_t_square t_isNought t_sumT t_sumY, x_ar cI a_t_c 4 t_c_r]) ⟨hx, hb, hml, hown, hts⟩ (tX9_by l D cI a_t a_t_given a_t_c a_t_pointX a_t_pointY a_t_pointZ a_t_pointFlags a_t_flagPoint a_t_flagU a_t_flagV a_t_flagW a_t_next a_t_series a_t_mix a_t_cofactor a_t_square t_p t_isLaid t_isGood t_points t_flags t_formX t_formY t_formZ t_isNought t_sumT t_sumY v7 v8 v9 hv9) (cwV 2 hts gX9_cubeAt_X9_by rfl rfl rfl (by decide +kernel) ⟨Nat.le_of_ble_eq_true rfl, Nat.le_of_ble_eq_true rfl⟩) hN hK hP hD hS hA [0] [some 0, none] rfl rfl rfl rfl rfl rfl 0 rfl rfl rfl hl.1 rfl (Nat.le_of_ble_eq_true rfl) dX9_cubeAt_60 ⟨Nat.zero_le _, Nat.zero_le _⟩ (fun H locs hP hD hS => ?_)
  obtain rfl := Option.some.inj hf
  exact hret rfl rfl dX9_cubeAt_63 hP hD hS
noncomputable def jX9_addOne_126 (t_p : Int32) (t_isNought : Int32) (t_sumT : Int32) (v3 : Int32) (v6 : Int32) (y10 : Int32) : Option (Int32 × Int32 × Int32) :=
  p_b1 (fX9_of t_p ((y10 * y10) - v6)) (fun v11 =>
p_b1 (fX9_by t_p v11 v3) (fun v12 =>
p_b1 (fX9_of t_p (v12 - t_sumT)) (fun v13 =>
p_b1 (fX9_of t_p (-(1 + (y10 * v13)))) (fun v14 =>
some (t_isNought, v13, v14)))))
noncomputable def fX9_addOne (t_isNought : Int32) (t_p : Int32) (t_sumT : Int32) (t_sumY : Int32) (t_c_r : (Nat → Int32)) : Option (Int32 × Int32 × Int32) :=
  if t_isNought = 0 then (p_b1 (p_ld t_c_r 4 3) (fun v1 =>
p_b1 (p_ld t_c_r 4 0) (fun v2 =>
p_b1 (fX9_by t_p v1 v2) (fun v3 =>
p_b1 (p_ld t_c_r 4 2) (fun v4 =>
p_b1 (p_ld t_c_r 4 0) (fun v5 =>
p_b1 (fX9_by t_p v4 v5) (fun v6 =>
p_b1 (p_ld t_c_r 4 1) (fun v7 =>
p_b1 (p_ld t_c_r 4 0) (fun v8 =>
p_b1 (fX9_by t_p v7 v8) (fun v9 =>
if t_sumT = 0 then (if t_sumY = 1 then (p_b1 (fX9_by t_p v9 2) (fun v17 =>
jX9_addOne_126 t_p t_isNought t_sumT v3 v6 v17)) else (some (1, t_sumT, t_sumY))) else (p_b1 (fX9_of t_p (t_sumY - 1)) (fun v15 =>
p_b1 (fX9_by t_p v15 t_sumT) (fun v16 =>
jX9_addOne_126 t_p t_isNought t_sumT v3 v6 v16))))))))))))) else (some (0, 0, 1))
def rmX9_addOne : Room := { frames := 2, cells := 0, slots := 0, locals := 47 }
set_option maxHeartbeats 4000000 in
set_option maxRecDepth 100000 in
theorem tX9_addOne (l : Launch) (D : va_G) (cI : ClassId) (a_t : Nat) (a_t_given : Nat) (a_t_c : Nat) (a_t_pointX : Nat) (a_t_pointY : Nat) (a_t_pointZ : Nat) (a_t_pointFlags : Nat) (a_t_flagPoint : Nat) (a_t_flagU : Nat) (a_t_flagV : Nat) (a_t_flagW : Nat) (a_t_next : Nat) (a_t_series : Nat) (a_t_mix : Nat) (a_t_cofactor : Nat) (a_t_square : Nat) (t_p : Int32) (t_isLaid : Int32) (t_isGood : Int32) (t_points : Int32) (t_flags : Int32) (t_formX : Int32) (t_formY : Int32) (t_formZ : Int32) (t_isNought : Int32) (t_sumT : Int32) (t_sumY : Int32) (t_c_r : (Nat → Int32)) (s_t_isNought : Int32) (s_t_sumT : Int32) (s_t_sumY : Int32) (hf : fX9_addOne t_isNought t_p t_sumT t_sumY t_c_r = some (s_t_isNought, s_t_sumT, s_t_sumY)) : x_CV l D cI yX9_addOne wsX9_addOne rmX9_addOne [.ref a_t] [x_o9 a_t t_p a_t_given t_isLaid t_isGood a_t_c t_points a_t_pointX a_t_pointY a_t_pointZ a_t_pointFlags t_flags a_t_flagPoint a_t_flagU a_t_flagV a_t_flagW a_t_next a_t_series a_t_mix a_t_cofactor t_formX t_formY t_formZ a_t_square t_isNought t_sumT t_sumY, x_ar cI a_t_c 4 t_c_r] [x_o9 a_t t_p a_t_given t_isLaid t_isGood a_t_c t_points a_t_pointX a_t_pointY a_t_pointZ a_t_pointFlags t_flags a_t_flagPoint a_t_flagU a_t_flagV a_t_flagW a_t_next a_t_series a_t_mix a_t_cofactor t_formX t_formY t_formZ a_t_square s_t_isNought s_t_sumT s_t_sumY, x_ar cI a_t_c 4 t_c_r] := by
  refine x_CV_of (cc := cX9_addOne) (maxL := 7) (own := RX9) (lv0 := [(0, .ref a_t)]) (by decide) rfl rfl (Nat.le_of_ble_eq_true rfl) rfl ?_
  intro p e s m args below meth c A Q ls hx hb hml hown hts hN hK hP hD hS hA hl hret
  have iX9 : ∀ w ∈ u_ws RX9 TX9 26, w ∈ wsX9_addOne := by decide +kernel
  have l182 := hts (.fieldLink RX9 182 "ChordRingsModel" "isNought" "Z") (by decide +kernel)
  have l17 := hts (.fieldLink RX9 17 "ChordRingsModel" "c" "[I") (by decide +kernel)
  have l185 := hts (.fieldLink RX9 185 "ChordRingsModel" "sumT" "I") (by decide +kernel)
  have l188 := hts (.fieldLink RX9 188 "ChordRingsModel" "sumY" "I") (by decide +kernel)
  unfold fX9_addOne at hf
  refine lv_aload_n hx hb dX9_addOne_0 rfl (lv_at hl 0 rfl) ?_
  refine va_get (D := D) (ci := 9) (C := RX9) (T := TX9) (N := 26) hx hb hts iX9 hown hK hP 0 rfl rfl 23 (by decide) l182 (fun _ h9 => h9) rfl dX9_addOne_1 ?_
  refine lv_if_eq (tgt := 23) hx hb dX9_addOne_4 (by decide) (fun hc => ?_) (fun hc => ?_)
  · have hf := o_t hf hc
    refine lv_aload_n hx hb dX9_addOne_23 rfl (lv_at hl 0 rfl) ?_
    refine lv_aload_n hx hb dX9_addOne_24 rfl (lv_at hl 0 rfl) ?_
    refine va_get (D := D) (ci := 9) (C := RX9) (T := TX9) (N := 26) hx hb hts iX9 hown hK hP 0 rfl rfl 4 (by decide) l17 (fun _ h9 => h9) rfl dX9_addOne_25 ?_
    refine lv_iconst (v := 3) hx hb dX9_addOne_28 (by decide) ?_
    obtain ⟨v1, hv1, hf⟩ := o_b1 hf
    refine x_ald hx hb hK hP 1 rfl hv1 dX9_addOne_29 ?_
    refine lv_aload_n hx hb dX9_addOne_30 rfl (lv_at hl 0 rfl) ?_
    refine va_get (D := D) (ci := 9) (C := RX9) (T := TX9) (N := 26) hx hb hts iX9 hown hK hP 0 rfl rfl 4 (by decide) l17 (fun _ h9 => h9) rfl dX9_addOne_31 ?_
    refine lv_iconst (v := 0) hx hb dX9_addOne_34 (by decide) ?_
    obtain ⟨v2, hv2, hf⟩ := o_b1 hf
    refine x_ald hx hb hK hP 1 rfl hv2 dX9_addOne_35 ?_
    obtain ⟨v3, hv3, hf⟩ := o_b1 hf
    refine x_vi (rest := []) (W1 := [x_o9 a_t t_p a_t_given t_isLaid t_isGood a_t_c t_points a_t_pointX a_t_pointY a_t_pointZ a_t_pointFlags t_flags a_t_flagPoint a_t_flagU a_t_flagV a_t_flagW a_t_next a_t_series a_t_mix a_t_cofactor t_formX t_formY t_formZ a_t_square t_isNought t_sumT t_sumY, x_ar cI a_t_c 4 t_c_r]) ⟨hx, hb, hml, hown, hts⟩ (tX9_by l D cI a_t a_t_given a_t_c a_t_pointX a_t_pointY a_t_pointZ a_t_pointFlags a_t_flagPoint a_t_flagU a_t_flagV a_t_flagW a_t_next a_t_series a_t_mix a_t_cofactor a_t_square t_p t_isLaid t_isGood t_points t_flags t_formX t_formY t_formZ t_isNought t_sumT t_sumY v1 v2 v3 hv3) (cwV 2 hts gX9_addOne_X9_by rfl rfl rfl (by decide +kernel) ⟨Nat.le_of_ble_eq_true rfl, Nat.le_of_ble_eq_true rfl⟩) hN hK hP hD hS hA [0] [some 0, none] rfl rfl rfl rfl rfl rfl 0 rfl rfl rfl hl.1 rfl (Nat.le_of_ble_eq_true rfl) dX9_addOne_36 ⟨Nat.zero_le _, Nat.zero_le _⟩ (fun H locs hP hD hS => ?_)
    refine lv_istore_n (lv' := [(1, .int v3), (0, .ref a_t)]) hx hb dX9_addOne_39 rfl hl (by decide) rfl (fun ls hl => ?_)
    refine lv_aload_n hx hb dX9_addOne_40 rfl (lv_at hl 1 rfl) ?_
    refine lv_aload_n hx hb dX9_addOne_41 rfl (lv_at hl 1 rfl) ?_
    refine va_get (D := D) (ci := 9) (C := RX9) (T := TX9) (N := 26) hx hb hts iX9 hown hK hP 0 rfl rfl 4 (by decide) l17 (fun _ h9 => h9) rfl dX9_addOne_42 ?_
    refine lv_iconst (v := 2) hx hb dX9_addOne_45 (by decide) ?_
    obtain ⟨v4, hv4, hf⟩ := o_b1 hf
    refine x_ald hx hb hK hP 1 rfl hv4 dX9_addOne_46 ?_
    refine lv_aload_n hx hb dX9_addOne_47 rfl (lv_at hl 1 rfl) ?_
    refine va_get (D := D) (ci := 9) (C := RX9) (T := TX9) (N := 26) hx hb hts iX9 hown hK hP 0 rfl rfl 4 (by decide) l17 (fun _ h9 => h9) rfl dX9_addOne_48 ?_
    refine lv_iconst (v := 0) hx hb dX9_addOne_51 (by decide) ?_
    obtain ⟨v5, hv5, hf⟩ := o_b1 hf
    refine x_ald hx hb hK hP 1 rfl hv5 dX9_addOne_52 ?_
    obtain ⟨v6, hv6, hf⟩ := o_b1 hf
    refine x_vi (rest := []) (W1 := [x_o9 a_t t_p a_t_given t_isLaid t_isGood a_t_c t_points a_t_pointX a_t_pointY a_t_pointZ a_t_pointFlags t_flags a_t_flagPoint a_t_flagU a_t_flagV a_t_flagW a_t_next a_t_series a_t_mix a_t_cofactor t_formX t_formY t_formZ a_t_square t_isNought t_sumT t_sumY, x_ar cI a_t_c 4 t_c_r]) ⟨hx, hb, hml, hown, hts⟩ (tX9_by l D cI a_t a_t_given a_t_c a_t_pointX a_t_pointY a_t_pointZ a_t_pointFlags a_t_flagPoint a_t_flagU a_t_flagV a_t_flagW a_t_next a_t_series a_t_mix a_t_cofactor a_t_square t_p t_isLaid t_isGood t_points t_flags t_formX t_formY t_formZ t_isNought t_sumT t_sumY v4 v5 v6 hv6) (cwV 2 hts gX9_addOne_X9_by rfl rfl rfl (by decide +kernel) ⟨Nat.le_of_ble_eq_true rfl, Nat.le_of_ble_eq_true rfl⟩) hN hK hP hD hS hA [0] [some 0, none] rfl rfl rfl rfl rfl rfl 0 rfl rfl rfl hl.1 rfl (Nat.le_of_ble_eq_true rfl) dX9_addOne_53 ⟨Nat.zero_le _, Nat.zero_le _⟩ (fun H locs hP hD hS => ?_)
    refine lv_istore_n (lv' := [(2, .int v6), (1, .int v3), (0, .ref a_t)]) hx hb dX9_addOne_56 rfl hl (by decide) rfl (fun ls hl => ?_)
    refine lv_aload_n hx hb dX9_addOne_57 rfl (lv_at hl 2 rfl) ?_
    refine lv_aload_n hx hb dX9_addOne_58 rfl (lv_at hl 2 rfl) ?_
    refine va_get (D := D) (ci := 9) (C := RX9) (T := TX9) (N := 26) hx hb hts iX9 hown hK hP 0 rfl rfl 4 (by decide) l17 (fun _ h9 => h9) rfl dX9_addOne_59 ?_
    refine lv_iconst (v := 1) hx hb dX9_addOne_62 (by decide) ?_
    obtain ⟨v7, hv7, hf⟩ := o_b1 hf
    refine x_ald hx hb hK hP 1 rfl hv7 dX9_addOne_63 ?_
    refine lv_aload_n hx hb dX9_addOne_64 rfl (lv_at hl 2 rfl) ?_
    refine va_get (D := D) (ci := 9) (C := RX9) (T := TX9) (N := 26) hx hb hts iX9 hown hK hP 0 rfl rfl 4 (by decide) l17 (fun _ h9 => h9) rfl dX9_addOne_65 ?_
    refine lv_iconst (v := 0) hx hb dX9_addOne_68 (by decide) ?_
    obtain ⟨v8, hv8, hf⟩ := o_b1 hf
    refine x_ald hx hb hK hP 1 rfl hv8 dX9_addOne_69 ?_
    obtain ⟨v9, hv9, hf⟩ := o_b1 hf
    refine x_vi (rest := []) (W1 := [x_o9 a_t t_p a_t_given t_isLaid t_isGood a_t_c t_points a_t_pointX a_t_pointY a_t_pointZ a_t_pointFlags t_flags a_t_flagPoint a_t_flagU a_t_flagV a_t_flagW a_t_next a_t_series a_t_mix a_t_cofactor t_formX t_formY t_formZ a_t_square t_isNought t_sumT t_sumY, x_ar cI a_t_c 4 t_c_r]) ⟨hx, hb, hml, hown, hts⟩ (tX9_by l D cI a_t a_t_given a_t_c a_t_pointX a_t_pointY a_t_pointZ a_t_pointFlags a_t_flagPoint a_t_flagU a_t_flagV a_t_flagW a_t_next a_t_series a_t_mix a_t_cofactor a_t_square t_p t_isLaid t_isGood t_points t_flags t_formX t_formY t_formZ t_isNought t_sumT t_sumY v7 v8 v9 hv9) (cwV 2 hts gX9_addOne_X9_by rfl rfl rfl (by decide +kernel) ⟨Nat.le_of_ble_eq_true rfl, Nat.le_of_ble_eq_true rfl⟩) hN hK hP hD hS hA [0] [some 0, none] rfl rfl rfl rfl rfl rfl 0 rfl rfl rfl hl.1 rfl (Nat.le_of_ble_eq_true rfl) dX9_addOne_70 ⟨Nat.zero_le _, Nat.zero_le _⟩ (fun H locs hP hD hS => ?_)
    refine lv_istore_n (lv' := [(3, .int v9), (2, .int v6), (1, .int v3), (0, .ref a_t)]) hx hb dX9_addOne_73 rfl hl (by decide) rfl (fun ls hl => ?_)
    refine lv_aload_n hx hb dX9_addOne_74 rfl (lv_at hl 3 rfl) ?_
    refine va_get (D := D) (ci := 9) (C := RX9) (T := TX9) (N := 26) hx hb hts iX9 hown hK hP 0 rfl rfl 24 (by decide) l185 (fun _ h9 => h9) rfl dX9_addOne_75 ?_
    have J126 : ∀ (y10 : Int32) (ls : Array Slot) (H : Heap) (locs : List Loc), jX9_addOne_126 t_p t_isNought t_sumT v3 v6 y10 = some (s_t_isNought, s_t_sumT, s_t_sumY) → lv_has ls 7 [(0, .ref a_t), (1, .int v3), (2, .int v6), (4, .int y10)] → va_P D vwCl [x_o9 a_t t_p a_t_given t_isLaid t_isGood a_t_c t_points a_t_pointX a_t_pointY a_t_pointZ a_t_pointFlags t_flags a_t_flagPoint a_t_flagU a_t_flagV a_t_flagW a_t_next a_t_series a_t_mix a_t_cofactor t_formX t_formY t_formZ a_t_square t_isNought t_sumT t_sumY, x_ar cI a_t_c 4 t_c_r] H → va_D A [x_o9 a_t t_p a_t_given t_isLaid t_isGood a_t_c t_points a_t_pointX a_t_pointY a_t_pointZ a_t_pointFlags t_flags a_t_flagPoint a_t_flagU a_t_flagV a_t_flagW a_t_next a_t_series a_t_mix a_t_cofactor t_formX t_formY t_formZ a_t_square t_isNought t_sumT t_sumY, x_ar cI a_t_c 4 t_c_r] → va_S A s.heap H locs → W p l e rmX9_addOne s m args below meth c H locs 0 0 Q (F0 m 126 ls []) := by
      intro y10 ls H locs hf hl hP hD hS
      unfold jX9_addOne_126 at hf
      refine lv_aload_n hx hb dX9_addOne_126 rfl (lv_at hl 0 rfl) ?_
      refine lv_aload_n hx hb dX9_addOne_127 rfl (lv_at hl 0 rfl) ?_
      refine lv_aload_n hx hb dX9_addOne_128 rfl (lv_at hl 0 rfl) ?_
      refine lv_iload hx hb dX9_addOne_129 (lv_at hl 3 rfl) ?_
      refine lv_iload hx hb dX9_addOne_131 (lv_at hl 3 rfl) ?_
      refine lv_imul hx hb dX9_addOne_133 ?_
      refine lv_iload_n hx hb dX9_addOne_134 rfl (lv_at hl 2 rfl) ?_
      refine lv_isub hx hb dX9_addOne_135 ?_
      obtain ⟨v11, hv11, hf⟩ := o_b1 hf
      refine x_vi (rest := [.ref a_t, .ref a_t]) (W1 := [x_o9 a_t t_p a_t_given t_isLaid t_isGood a_t_c t_points a_t_pointX a_t_pointY a_t_pointZ a_t_pointFlags t_flags a_t_flagPoint a_t_flagU a_t_flagV a_t_flagW a_t_next a_t_series a_t_mix a_t_cofactor t_formX t_formY t_formZ a_t_square t_isNought t_sumT t_sumY, x_ar cI a_t_c 4 t_c_r]) ⟨hx, hb, hml, hown, hts⟩ (tX9_of l D cI a_t a_t_given a_t_c a_t_pointX a_t_pointY a_t_pointZ a_t_pointFlags a_t_flagPoint a_t_flagU a_t_flagV a_t_flagW a_t_next a_t_series a_t_mix a_t_cofactor a_t_square t_p t_isLaid t_isGood t_points t_flags t_formX t_formY t_formZ t_isNought t_sumT t_sumY ((y10 * y10) - v6) v11 hv11) (cwV 1 hts gX9_addOne_X9_of rfl rfl rfl (by decide +kernel) ⟨Nat.le_of_ble_eq_true rfl, Nat.le_of_ble_eq_true rfl⟩) hN hK hP hD hS hA [0] [some 0, none] rfl rfl rfl rfl rfl rfl 0 rfl rfl rfl hl.1 rfl (Nat.le_of_ble_eq_true rfl) dX9_addOne_136 ⟨Nat.zero_le _, Nat.zero_le _⟩ (fun H locs hP hD hS => ?_)
      refine lv_iload_n hx hb dX9_addOne_139 rfl (lv_at hl 1 rfl) ?_
      obtain ⟨v12, hv12, hf⟩ := o_b1 hf
      refine x_vi (rest := [.ref a_t]) (W1 := [x_o9 a_t t_p a_t_given t_isLaid t_isGood a_t_c t_points a_t_pointX a_t_pointY a_t_pointZ a_t_pointFlags t_flags a_t_flagPoint a_t_flagU a_t_flagV a_t_flagW a_t_next a_t_series a_t_mix a_t_cofactor t_formX t_formY t_formZ a_t_square t_isNought t_sumT t_sumY, x_ar cI a_t_c 4 t_c_r]) ⟨hx, hb, hml, hown, hts⟩ (tX9_by l D cI a_t a_t_given a_t_c a_t_pointX a_t_pointY a_t_pointZ a_t_pointFlags a_t_flagPoint a_t_flagU a_t_flagV a_t_flagW a_t_next a_t_series a_t_mix a_t_cofactor a_t_square t_p t_isLaid t_isGood t_points t_flags t_formX t_formY t_formZ t_isNought t_sumT t_sumY v11 v3 v12 hv12) (cwV 2 hts gX9_addOne_X9_by rfl rfl rfl (by decide +kernel) ⟨Nat.le_of_ble_eq_true rfl, Nat.le_of_ble_eq_true rfl⟩) hN hK hP hD hS hA [0] [some 0, none] rfl rfl rfl rfl rfl rfl 0 rfl rfl rfl hl.1 rfl (Nat.le_of_ble_eq_true rfl) dX9_addOne_140 ⟨Nat.zero_le _, Nat.zero_le _⟩ (fun H locs hP hD hS => ?_)
      refine lv_aload_n hx hb dX9_addOne_143 rfl (lv_at hl 0 rfl) ?_
      refine va_get (D := D) (ci := 9) (C := RX9) (T := TX9) (N := 26) hx hb hts iX9 hown hK hP 0 rfl rfl 24 (by decide) l185 (fun _ h9 => h9) rfl dX9_addOne_144 ?_
      refine lv_isub hx hb dX9_addOne_147 ?_
      obtain ⟨v13, hv13, hf⟩ := o_b1 hf
      refine x_vi (rest := []) (W1 := [x_o9 a_t t_p a_t_given t_isLaid t_isGood a_t_c t_points a_t_pointX a_t_pointY a_t_pointZ a_t_pointFlags t_flags a_t_flagPoint a_t_flagU a_t_flagV a_t_flagW a_t_next a_t_series a_t_mix a_t_cofactor t_formX t_formY t_formZ a_t_square t_isNought t_sumT t_sumY, x_ar cI a_t_c 4 t_c_r]) ⟨hx, hb, hml, hown, hts⟩ (tX9_of l D cI a_t a_t_given a_t_c a_t_pointX a_t_pointY a_t_pointZ a_t_pointFlags a_t_flagPoint a_t_flagU a_t_flagV a_t_flagW a_t_next a_t_series a_t_mix a_t_cofactor a_t_square t_p t_isLaid t_isGood t_points t_flags t_formX t_formY t_formZ t_isNought t_sumT t_sumY (v12 - t_sumT) v13 hv13) (cwV 1 hts gX9_addOne_X9_of rfl rfl rfl (by decide +kernel) ⟨Nat.le_of_ble_eq_true rfl, Nat.le_of_ble_eq_true rfl⟩) hN hK hP hD hS hA [0] [some 0, none] rfl rfl rfl rfl rfl rfl 0 rfl rfl rfl hl.1 rfl (Nat.le_of_ble_eq_true rfl) dX9_addOne_148 ⟨Nat.zero_le _, Nat.zero_le _⟩ (fun H locs hP hD hS => ?_)
      refine lv_istore (lv' := [(5, .int v13), (0, .ref a_t), (1, .int v3), (2, .int v6), (4, .int y10)]) hx hb dX9_addOne_151 hl (by decide) rfl (fun ls hl => ?_)
      refine lv_aload_n hx hb dX9_addOne_153 rfl (lv_at hl 1 rfl) ?_
      refine lv_iconst (v := 1) hx hb dX9_addOne_154 (by decide) ?_
      refine lv_iload hx hb dX9_addOne_155 (lv_at hl 4 rfl) ?_
      refine lv_iload hx hb dX9_addOne_157 (lv_at hl 0 rfl) ?_
      refine lv_imul hx hb dX9_addOne_159 ?_
      refine lv_iadd hx hb dX9_addOne_160 ?_
      refine lv_ineg hx hb dX9_addOne_161 ?_
      obtain ⟨v14, hv14, hf⟩ := o_b1 hf
      refine x_vi (rest := []) (W1 := [x_o9 a_t t_p a_t_given t_isLaid t_isGood a_t_c t_points a_t_pointX a_t_pointY a_t_pointZ a_t_pointFlags t_flags a_t_flagPoint a_t_flagU a_t_flagV a_t_flagW a_t_next a_t_series a_t_mix a_t_cofactor t_formX t_formY t_formZ a_t_square t_isNought t_sumT t_sumY, x_ar cI a_t_c 4 t_c_r]) ⟨hx, hb, hml, hown, hts⟩ (tX9_of l D cI a_t a_t_given a_t_c a_t_pointX a_t_pointY a_t_pointZ a_t_pointFlags a_t_flagPoint a_t_flagU a_t_flagV a_t_flagW a_t_next a_t_series a_t_mix a_t_cofactor a_t_square t_p t_isLaid t_isGood t_points t_flags t_formX t_formY t_formZ t_isNought t_sumT t_sumY (-(1 + (y10 * v13))) v14 hv14) (cwV 1 hts gX9_addOne_X9_of rfl rfl rfl (by decide +kernel) ⟨Nat.le_of_ble_eq_true rfl, Nat.le_of_ble_eq_true rfl⟩) hN hK hP hD hS hA [0] [some 0, none] rfl rfl rfl rfl rfl rfl 0 rfl rfl rfl hl.1 rfl (Nat.le_of_ble_eq_true rfl) dX9_addOne_162 ⟨Nat.zero_le _, Nat.zero_le _⟩ (fun H locs hP hD hS => ?_)
      refine lv_istore (lv' := [(6, .int v14), (5, .int v13), (0, .ref a_t), (1, .int v3), (2, .int v6), (4, .int y10)]) hx hb dX9_addOne_165 hl (by decide) rfl (fun ls hl => ?_)
      refine lv_aload_n hx hb dX9_addOne_167 rfl (lv_at hl 2 rfl) ?_
      refine lv_iload hx hb dX9_addOne_168 (lv_at hl 1 rfl) ?_
      refine x_put (W1 := [x_o9 a_t t_p a_t_given t_isLaid t_isGood a_t_c t_points a_t_pointX a_t_pointY a_t_pointZ a_t_pointFlags t_flags a_t_flagPoint a_t_flagU a_t_flagV a_t_flagW a_t_next a_t_series a_t_mix a_t_cofactor t_formX t_formY t_formZ a_t_square t_isNought v13 t_sumY, x_ar cI a_t_c 4 t_c_r]) (ty := .int) (C := RX9) (T := TX9) (N := 26) hx hb hts iX9 tyX9 tyX9_ok nmX9 hown hK hP hD hS 0 rfl rfl 24 (by decide) l185 rfl rfl (by decide +kernel) rfl rfl (Nat.le_of_ble_eq_true rfl) rfl dX9_addOne_170 (fun H locs hP hD hS => ?_)
      refine lv_aload_n hx hb dX9_addOne_173 rfl (lv_at hl 2 rfl) ?_
      refine lv_iload hx hb dX9_addOne_174 (lv_at hl 0 rfl) ?_
      refine x_put (W1 := [x_o9 a_t t_p a_t_given t_isLaid t_isGood a_t_c t_points a_t_pointX a_t_pointY a_t_pointZ a_t_pointFlags t_flags a_t_flagPoint a_t_flagU a_t_flagV a_t_flagW a_t_next a_t_series a_t_mix a_t_cofactor t_formX t_formY t_formZ a_t_square t_isNought v13 v14, x_ar cI a_t_c 4 t_c_r]) (ty := .int) (C := RX9) (T := TX9) (N := 26) hx hb hts iX9 tyX9 tyX9_ok nmX9 hown hK hP hD hS 0 rfl rfl 25 (by decide) l188 rfl rfl (by decide +kernel) rfl rfl (Nat.le_of_ble_eq_true rfl) rfl dX9_addOne_176 (fun H locs hP hD hS => ?_)
      obtain ⟨rfl, rfl, rfl⟩ := o_s3 hf
      exact hret dX9_addOne_179 hP hD hS
    refine lv_if_ne (tgt := 106) hx hb dX9_addOne_78 (by decide) (fun hc => ?_) (fun hc => ?_)
    · have hf := o_f hf hc
      refine lv_aload_n hx hb dX9_addOne_106 rfl (lv_at hl 3 rfl) ?_
      refine lv_aload_n hx hb dX9_addOne_107 rfl (lv_at hl 3 rfl) ?_
      refine lv_aload_n hx hb dX9_addOne_108 rfl (lv_at hl 3 rfl) ?_
      refine va_get (D := D) (ci := 9) (C := RX9) (T := TX9) (N := 26) hx hb hts iX9 hown hK hP 0 rfl rfl 25 (by decide) l188 (fun _ h9 => h9) rfl dX9_addOne_109 ?_
      refine lv_iconst (v := 1) hx hb dX9_addOne_112 (by decide) ?_
      refine lv_isub hx hb dX9_addOne_113 ?_
      obtain ⟨v15, hv15, hf⟩ := o_b1 hf
      refine x_vi (rest := [.ref a_t]) (W1 := [x_o9 a_t t_p a_t_given t_isLaid t_isGood a_t_c t_points a_t_pointX a_t_pointY a_t_pointZ a_t_pointFlags t_flags a_t_flagPoint a_t_flagU a_t_flagV a_t_flagW a_t_next a_t_series a_t_mix a_t_cofactor t_formX t_formY t_formZ a_t_square t_isNought t_sumT t_sumY, x_ar cI a_t_c 4 t_c_r]) ⟨hx, hb, hml, hown, hts⟩ (tX9_of l D cI a_t a_t_given a_t_c a_t_pointX a_t_pointY a_t_pointZ a_t_pointFlags a_t_flagPoint a_t_flagU a_t_flagV a_t_flagW a_t_next a_t_series a_t_mix a_t_cofactor a_t_square t_p t_isLaid t_isGood t_points t_flags t_formX t_formY t_formZ t_isNought t_sumT t_sumY (t_sumY - 1) v15 hv15) (cwV 1 hts gX9_addOne_X9_of rfl rfl rfl (by decide +kernel) ⟨Nat.le_of_ble_eq_true rfl, Nat.le_of_ble_eq_true rfl⟩) hN hK hP hD hS hA [0] [some 0, none] rfl rfl rfl rfl rfl rfl 0 rfl rfl rfl hl.1 rfl (Nat.le_of_ble_eq_true rfl) dX9_addOne_114 ⟨Nat.zero_le _, Nat.zero_le _⟩ (fun H locs hP hD hS => ?_)
      refine lv_aload_n hx hb dX9_addOne_117 rfl (lv_at hl 3 rfl) ?_
      refine va_get (D := D) (ci := 9) (C := RX9) (T := TX9) (N := 26) hx hb hts iX9 hown hK hP 0 rfl rfl 24 (by decide) l185 (fun _ h9 => h9) rfl dX9_addOne_118 ?_
      obtain ⟨v16, hv16, hf⟩ := o_b1 hf
      refine x_vi (rest := []) (W1 := [x_o9 a_t t_p a_t_given t_isLaid t_isGood a_t_c t_points a_t_pointX a_t_pointY a_t_pointZ a_t_pointFlags t_flags a_t_flagPoint a_t_flagU a_t_flagV a_t_flagW a_t_next a_t_series a_t_mix a_t_cofactor t_formX t_formY t_formZ a_t_square t_isNought t_sumT t_sumY, x_ar cI a_t_c 4 t_c_r]) ⟨hx, hb, hml, hown, hts⟩ (tX9_by l D cI a_t a_t_given a_t_c a_t_pointX a_t_pointY a_t_pointZ a_t_pointFlags a_t_flagPoint a_t_flagU a_t_flagV a_t_flagW a_t_next a_t_series a_t_mix a_t_cofactor a_t_square t_p t_isLaid t_isGood t_points t_flags t_formX t_formY t_formZ t_isNought t_sumT t_sumY v15 t_sumT v16 hv16) (cwV 2 hts gX9_addOne_X9_by rfl rfl rfl (by decide +kernel) ⟨Nat.le_of_ble_eq_true rfl, Nat.le_of_ble_eq_true rfl⟩) hN hK hP hD hS hA [0] [some 0, none] rfl rfl rfl rfl rfl rfl 0 rfl rfl rfl hl.1 rfl (Nat.le_of_ble_eq_true rfl) dX9_addOne_121 ⟨Nat.zero_le _, Nat.zero_le _⟩ (fun H locs hP hD hS => ?_)
      refine lv_istore (lv' := [(4, .int v16), (3, .int v9), (2, .int v6), (1, .int v3), (0, .ref a_t)]) hx hb dX9_addOne_124 hl (by decide) rfl (fun ls hl => ?_)
      exact J126 v16 _ _ _ hf (lv_sub hl [4, 3, 2, 0] rfl) hP hD hS
    · have hf := o_t hf hc
      refine lv_aload_n hx hb dX9_addOne_81 rfl (lv_at hl 3 rfl) ?_
      refine va_get (D := D) (ci := 9) (C := RX9) (T := TX9) (N := 26) hx hb hts iX9 hown hK hP 0 rfl rfl 25 (by decide) l188 (fun _ h9 => h9) rfl dX9_addOne_82 ?_
      refine lv_iconst (v := 1) hx hb dX9_addOne_85 (by decide) ?_
      refine lv_icmp_eq (tgt := 95) hx hb dX9_addOne_86 (by decide) (fun hc => ?_) (fun hc => ?_)
      · have hf := o_t hf hc
        refine lv_aload_n hx hb dX9_addOne_95 rfl (lv_at hl 3 rfl) ?_
        refine lv_iload_n hx hb dX9_addOne_96 rfl (lv_at hl 0 rfl) ?_
        refine lv_iconst (v := 2) hx hb dX9_addOne_97 (by decide) ?_
        obtain ⟨v17, hv17, hf⟩ := o_b1 hf
        refine x_vi (rest := []) (W1 := [x_o9 a_t t_p a_t_given t_isLaid t_isGood a_t_c t_points a_t_pointX a_t_pointY a_t_pointZ a_t_pointFlags t_flags a_t_flagPoint a_t_flagU a_t_flagV a_t_flagW a_t_next a_t_series a_t_mix a_t_cofactor t_formX t_formY t_formZ a_t_square t_isNought t_sumT t_sumY, x_ar cI a_t_c 4 t_c_r]) ⟨hx, hb, hml, hown, hts⟩ (tX9_by l D cI a_t a_t_given a_t_c a_t_pointX a_t_pointY a_t_pointZ a_t_pointFlags a_t_flagPoint a_t_flagU a_t_flagV a_t_flagW a_t_next a_t_series a_t_mix a_t_cofactor a_t_square t_p t_isLaid t_isGood t_points t_flags t_formX t_formY t_formZ t_isNought t_sumT t_sumY v9 2 v17 hv17) (cwV 2 hts gX9_addOne_X9_by rfl rfl rfl (by decide +kernel) ⟨Nat.le_of_ble_eq_true rfl, Nat.le_of_ble_eq_true rfl⟩) hN hK hP hD hS hA [0] [some 0, none] rfl rfl rfl rfl rfl rfl 0 rfl rfl rfl hl.1 rfl (Nat.le_of_ble_eq_true rfl) dX9_addOne_98 ⟨Nat.zero_le _, Nat.zero_le _⟩ (fun H locs hP hD hS => ?_)
        refine lv_istore (lv' := [(4, .int v17), (3, .int v9), (2, .int v6), (1, .int v3), (0, .ref a_t)]) hx hb dX9_addOne_101 hl (by decide) rfl (fun ls hl => ?_)
        refine lv_goto (tgt := 126) hx hb dX9_addOne_103 (by decide) ?_
        exact J126 v17 _ _ _ hf (lv_sub hl [4, 3, 2, 0] rfl) hP hD hS
      · have hf := o_f hf hc
        refine lv_aload_n hx hb dX9_addOne_89 rfl (lv_at hl 3 rfl) ?_
        refine lv_iconst (v := 1) hx hb dX9_addOne_90 (by decide) ?_
        refine x_put (W1 := [x_o9 a_t t_p a_t_given t_isLaid t_isGood a_t_c t_points a_t_pointX a_t_pointY a_t_pointZ a_t_pointFlags t_flags a_t_flagPoint a_t_flagU a_t_flagV a_t_flagW a_t_next a_t_series a_t_mix a_t_cofactor t_formX t_formY t_formZ a_t_square 1 t_sumT t_sumY, x_ar cI a_t_c 4 t_c_r]) (ty := .boolean) (C := RX9) (T := TX9) (N := 26) hx hb hts iX9 tyX9 tyX9_ok nmX9 hown hK hP hD hS 0 rfl rfl 23 (by decide) l182 rfl rfl (by decide +kernel) (by decide) (by decide) (Nat.le_of_ble_eq_true rfl) rfl dX9_addOne_91 (fun H locs hP hD hS => ?_)
        obtain ⟨rfl, rfl, rfl⟩ := o_s3 hf
        exact hret dX9_addOne_94 hP hD hS
  · have hf := o_f hf hc
    refine lv_aload_n hx hb dX9_addOne_7 rfl (lv_at hl 0 rfl) ?_
    refine lv_iconst (v := 0) hx hb dX9_addOne_8 (by decide) ?_
    refine x_put (W1 := [x_o9 a_t t_p a_t_given t_isLaid t_isGood a_t_c t_points a_t_pointX a_t_pointY a_t_pointZ a_t_pointFlags t_flags a_t_flagPoint a_t_flagU a_t_flagV a_t_flagW a_t_next a_t_series a_t_mix a_t_cofactor t_formX t_formY t_formZ a_t_square 0 t_sumT t_sumY, x_ar cI a_t_c 4 t_c_r]) (ty := .boolean) (C := RX9) (T := TX9) (N := 26) hx hb hts iX9 tyX9 tyX9_ok nmX9 hown hK hP hD hS 0 rfl rfl 23 (by decide) l182 rfl rfl (by decide +kernel) (by decide) (by decide) (Nat.le_of_ble_eq_true rfl) rfl dX9_addOne_9 (fun H locs hP hD hS => ?_)
    refine lv_aload_n hx hb dX9_addOne_12 rfl (lv_at hl 0 rfl) ?_
    refine lv_iconst (v := 0) hx hb dX9_addOne_13 (by decide) ?_
    refine x_put (W1 := [x_o9 a_t t_p a_t_given t_isLaid t_isGood a_t_c t_points a_t_pointX a_t_pointY a_t_pointZ a_t_pointFlags t_flags a_t_flagPoint a_t_flagU a_t_flagV a_t_flagW a_t_next a_t_series a_t_mix a_t_cofactor t_formX t_formY t_formZ a_t_square 0 0 t_sumY, x_ar cI a_t_c 4 t_c_r]) (ty := .int) (C := RX9) (T := TX9) (N := 26) hx hb hts iX9 tyX9 tyX9_ok nmX9 hown hK hP hD hS 0 rfl rfl 24 (by decide) l185 rfl rfl (by decide +kernel) rfl rfl (Nat.le_of_ble_eq_true rfl) rfl dX9_addOne_14 (fun H locs hP hD hS => ?_)
    refine lv_aload_n hx hb dX9_addOne_17 rfl (lv_at hl 0 rfl) ?_
    refine lv_iconst (v := 1) hx hb dX9_addOne_18 (by decide) ?_
    refine x_put (W1 := [x_o9 a_t t_p a_t_given t_isLaid t_isGood a_t_c t_points a_t_pointX a_t_pointY a_t_pointZ a_t_pointFlags t_flags a_t_flagPoint a_t_flagU a_t_flagV a_t_flagW a_t_next a_t_series a_t_mix a_t_cofactor t_formX t_formY t_formZ a_t_square 0 0 1, x_ar cI a_t_c 4 t_c_r]) (ty := .int) (C := RX9) (T := TX9) (N := 26) hx hb hts iX9 tyX9 tyX9_ok nmX9 hown hK hP hD hS 0 rfl rfl 25 (by decide) l188 rfl rfl (by decide +kernel) rfl rfl (Nat.le_of_ble_eq_true rfl) rfl dX9_addOne_19 (fun H locs hP hD hS => ?_)
    obtain ⟨rfl, rfl, rfl⟩ := o_s3 hf
    exact hret dX9_addOne_22 hP hD hS
noncomputable def kX9_multipleOf_32 (y5 : Int32) (y6 : Int32) (y7 : Int32) : Option (Int32 × Int32 × Int32) :=
  some (y5, y6, y7)
noncomputable def FgX9_multipleOf_17 (t_p : Int32) (t_c_r : (Nat → Int32)) (i1 : Int32) (rec17 : Int32 → Int32 → Int32 → Int32 → Option (Int32 × Int32 × Int32)) (kk17 : Int32 → Int32 → Int32 → Option (Int32 × Int32 × Int32)) (x1 : Int32) (x2 : Int32) (x3 : Int32) (x4 : Int32) : Option (Int32 × Int32 × Int32) :=
  if i1 ≤ x1 then (kk17 x2 x3 x4) else (p_b3 (fX9_addOne x2 t_p x3 x4 t_c_r) (fun v8 v9 v10 =>
p_nm (x1 + 1) (fun v11 =>
rec17 v11 v8 v9 v10)))
noncomputable def gX9_multipleOf_17 (t_p : Int32) (t_c_r : (Nat → Int32)) (i1 : Int32) (kk17 : Int32 → Int32 → Int32 → Option (Int32 × Int32 × Int32)) (n : Nat) : Int32 → Int32 → Int32 → Int32 → Option (Int32 × Int32 × Int32) := Nat.rec (motive := fun _ => Int32 → Int32 → Int32 → Int32 → Option (Int32 × Int32 × Int32)) (fun _ _ _ _ => none) (fun _ rec17 => FgX9_multipleOf_17 t_p t_c_r i1 rec17 kk17) n
noncomputable def fX9_multipleOf (t_isNought : Int32) (t_p : Int32) (t_sumT : Int32) (t_sumY : Int32) (t_c_r : (Nat → Int32)) (i1 : Int32) : Option (Int32 × Int32 × Int32) :=
  gX9_multipleOf_17 t_p t_c_r i1 (kX9_multipleOf_32) p_FU 0 1 0 0
def rmX9_multipleOf : Room := { frames := 3, cells := 0, slots := 0, locals := 73 }
set_option maxHeartbeats 4000000 in
set_option maxRecDepth 100000 in
theorem tX9_multipleOf (l : Launch) (D : va_G) (cI : ClassId) (a_t : Nat) (a_t_given : Nat) (a_t_c : Nat) (a_t_pointX : Nat) (a_t_pointY : Nat) (a_t_pointZ : Nat) (a_t_pointFlags : Nat) (a_t_flagPoint : Nat) (a_t_flagU : Nat) (a_t_flagV : Nat) (a_t_flagW : Nat) (a_t_next : Nat) (a_t_series : Nat) (a_t_mix : Nat) (a_t_cofactor : Nat) (a_t_square : Nat) (t_p : Int32) (t_isLaid : Int32) (t_isGood : Int32) (t_points : Int32) (t_flags : Int32) (t_formX : Int32) (t_formY : Int32) (t_formZ : Int32) (t_isNought : Int32) (t_sumT : Int32) (t_sumY : Int32) (t_c_r : (Nat → Int32)) (i1 : Int32) (s_t_isNought : Int32) (s_t_sumT : Int32) (s_t_sumY : Int32) (hf : fX9_multipleOf t_isNought t_p t_sumT t_sumY t_c_r i1 = some (s_t_isNought, s_t_sumT, s_t_sumY)) : x_CV l D cI yX9_multipleOf wsX9_multipleOf rmX9_multipleOf [.ref a_t, .int i1] [x_o9 a_t t_p a_t_given t_isLaid t_isGood a_t_c t_points a_t_pointX a_t_pointY a_t_pointZ a_t_pointFlags t_flags a_t_flagPoint a_t_flagU a_t_flagV a_t_flagW a_t_next a_t_series a_t_mix a_t_cofactor t_formX t_formY t_formZ a_t_square t_isNought t_sumT t_sumY, x_ar cI a_t_c 4 t_c_r] [x_o9 a_t t_p a_t_given t_isLaid t_isGood a_t_c t_points a_t_pointX a_t_pointY a_t_pointZ a_t_pointFlags t_flags a_t_flagPoint a_t_flagU a_t_flagV a_t_flagW a_t_next a_t_series a_t_mix a_t_cofactor t_formX t_formY t_formZ a_t_square s_t_isNought s_t_sumT s_t_sumY, x_ar cI a_t_c 4 t_c_r] := by
  refine x_CV_of (cc := cX9_multipleOf) (maxL := 3) (own := RX9) (lv0 := [(0, .ref a_t), (1, .int i1)]) (by decide) rfl rfl (Nat.le_of_ble_eq_true rfl) rfl ?_
  intro p e s m args below meth c A Q ls hx hb hml hown hts hN hK hP hD hS hA hl hret
  have iX9 : ∀ w ∈ u_ws RX9 TX9 26, w ∈ wsX9_multipleOf := by decide +kernel
  have l182 := hts (.fieldLink RX9 182 "ChordRingsModel" "isNought" "Z") (by decide +kernel)
  have l185 := hts (.fieldLink RX9 185 "ChordRingsModel" "sumT" "I") (by decide +kernel)
  have l188 := hts (.fieldLink RX9 188 "ChordRingsModel" "sumY" "I") (by decide +kernel)
  unfold fX9_multipleOf at hf
  refine lv_aload_n hx hb dX9_multipleOf_0 rfl (lv_at hl 0 rfl) ?_
  refine lv_iconst (v := 1) hx hb dX9_multipleOf_1 (by decide) ?_
  refine x_put (W1 := [x_o9 a_t t_p a_t_given t_isLaid t_isGood a_t_c t_points a_t_pointX a_t_pointY a_t_pointZ a_t_pointFlags t_flags a_t_flagPoint a_t_flagU a_t_flagV a_t_flagW a_t_next a_t_series a_t_mix a_t_cofactor t_formX t_formY t_formZ a_t_square 1 t_sumT t_sumY, x_ar cI a_t_c 4 t_c_r]) (ty := .boolean) (C := RX9) (T := TX9) (N := 26) hx hb hts iX9 tyX9 tyX9_ok nmX9 hown hK hP hD hS 0 rfl rfl 23 (by decide) l182 rfl rfl (by decide +kernel) (by decide) (by decide) (Nat.le_of_ble_eq_true rfl) rfl dX9_multipleOf_2 (fun H locs hP hD hS => ?_)
  refine lv_aload_n hx hb dX9_multipleOf_5 rfl (lv_at hl 0 rfl) ?_
  refine lv_iconst (v := 0) hx hb dX9_multipleOf_6 (by decide) ?_
  refine x_put (W1 := [x_o9 a_t t_p a_t_given t_isLaid t_isGood a_t_c t_points a_t_pointX a_t_pointY a_t_pointZ a_t_pointFlags t_flags a_t_flagPoint a_t_flagU a_t_flagV a_t_flagW a_t_next a_t_series a_t_mix a_t_cofactor t_formX t_formY t_formZ a_t_square 1 0 t_sumY, x_ar cI a_t_c 4 t_c_r]) (ty := .int) (C := RX9) (T := TX9) (N := 26) hx hb hts iX9 tyX9 tyX9_ok nmX9 hown hK hP hD hS 0 rfl rfl 24 (by decide) l185 rfl rfl (by decide +kernel) rfl rfl (Nat.le_of_ble_eq_true rfl) rfl dX9_multipleOf_7 (fun H locs hP hD hS => ?_)
  refine lv_aload_n hx hb dX9_multipleOf_10 rfl (lv_at hl 0 rfl) ?_
  refine lv_iconst (v := 0) hx hb dX9_multipleOf_11 (by decide) ?_
  refine x_put (W1 := [x_o9 a_t t_p a_t_given t_isLaid t_isGood a_t_c t_points a_t_pointX a_t_pointY a_t_pointZ a_t_pointFlags t_flags a_t_flagPoint a_t_flagU a_t_flagV a_t_flagW a_t_next a_t_series a_t_mix a_t_cofactor t_formX t_formY t_formZ a_t_square 1 0 0, x_ar cI a_t_c 4 t_c_r]) (ty := .int) (C := RX9) (T := TX9) (N := 26) hx hb hts iX9 tyX9 tyX9_ok nmX9 hown hK hP hD hS 0 rfl rfl 25 (by decide) l188 rfl rfl (by decide +kernel) rfl rfl (Nat.le_of_ble_eq_true rfl) rfl dX9_multipleOf_12 (fun H locs hP hD hS => ?_)
  refine lv_iconst (v := 0) hx hb dX9_multipleOf_15 (by decide) ?_
  refine lv_istore_n (lv' := [(2, .int 0), (0, .ref a_t), (1, .int i1)]) hx hb dX9_multipleOf_16 rfl hl (by decide) rfl (fun ls hl => ?_)
  have L17 : ∀ (n : Nat) (x1 : Int32) (x2 : Int32) (x3 : Int32) (x4 : Int32) (ls : Array Slot) (H : Heap) (locs : List Loc), gX9_multipleOf_17 t_p t_c_r i1 (kX9_multipleOf_32) n x1 x2 x3 x4 = some (s_t_isNought, s_t_sumT, s_t_sumY) → lv_has ls 3 [(0, .ref a_t), (1, .int i1), (2, .int x1)] → va_P D vwCl [x_o9 a_t t_p a_t_given t_isLaid t_isGood a_t_c t_points a_t_pointX a_t_pointY a_t_pointZ a_t_pointFlags t_flags a_t_flagPoint a_t_flagU a_t_flagV a_t_flagW a_t_next a_t_series a_t_mix a_t_cofactor t_formX t_formY t_formZ a_t_square x2 x3 x4, x_ar cI a_t_c 4 t_c_r] H → va_D A [x_o9 a_t t_p a_t_given t_isLaid t_isGood a_t_c t_points a_t_pointX a_t_pointY a_t_pointZ a_t_pointFlags t_flags a_t_flagPoint a_t_flagU a_t_flagV a_t_flagW a_t_next a_t_series a_t_mix a_t_cofactor t_formX t_formY t_formZ a_t_square x2 x3 x4, x_ar cI a_t_c 4 t_c_r] → va_S A s.heap H locs → W p l e rmX9_multipleOf s m args below meth c H locs 0 0 Q (F0 m 17 ls []) := by
    intro n17
    induction n17 with
    | zero =>
      intro x1 x2 x3 x4 ls H locs hf
      exact nomatch (show (none : Option (Int32 × Int32 × Int32)) = some (s_t_isNought, s_t_sumT, s_t_sumY) from hf)
    | succ n17 ih17 =>
      intro x1 x2 x3 x4 ls H locs hf hl hP hD hS
      have hf : FgX9_multipleOf_17 t_p t_c_r i1 (gX9_multipleOf_17 t_p t_c_r i1 (kX9_multipleOf_32) n17) (kX9_multipleOf_32) x1 x2 x3 x4 = some (s_t_isNought, s_t_sumT, s_t_sumY) := hf
      unfold FgX9_multipleOf_17 at hf
      refine lv_iload_n hx hb dX9_multipleOf_17 rfl (lv_at hl 2 rfl) ?_
      refine lv_iload_n hx hb dX9_multipleOf_18 rfl (lv_at hl 1 rfl) ?_
      have J32 : ∀ (y5 : Int32) (y6 : Int32) (y7 : Int32) (ls : Array Slot) (H : Heap) (locs : List Loc), kX9_multipleOf_32 y5 y6 y7 = some (s_t_isNought, s_t_sumT, s_t_sumY) → lv_has ls 3 [] → va_P D vwCl [x_o9 a_t t_p a_t_given t_isLaid t_isGood a_t_c t_points a_t_pointX a_t_pointY a_t_pointZ a_t_pointFlags t_flags a_t_flagPoint a_t_flagU a_t_flagV a_t_flagW a_t_next a_t_series a_t_mix a_t_cofactor t_formX t_formY t_formZ a_t_square y5 y6 y7, x_ar cI a_t_c 4 t_c_r] H → va_D A [x_o9 a_t t_p a_t_given t_isLaid t_isGood a_t_c t_points a_t_pointX a_t_pointY a_t_pointZ a_t_pointFlags t_flags a_t_flagPoint a_t_flagU a_t_flagV a_t_flagW a_t_next a_t_series a_t_mix a_t_cofactor t_formX t_formY t_formZ a_t_square y5 y6 y7, x_ar cI a_t_c 4 t_c_r] → va_S A s.heap H locs → W p l e rmX9_multipleOf s m args below meth c H locs 0 0 Q (F0 m 32 ls []) := by
        intro y5 y6 y7 ls H locs hf hl hP hD hS
        unfold kX9_multipleOf_32 at hf
        obtain ⟨rfl, rfl, rfl⟩ := o_s3 hf
        exact hret dX9_multipleOf_32 hP hD hS
      refine lv_icmp_ge (tgt := 32) hx hb dX9_multipleOf_19 (by decide) (fun hc => ?_) (fun hc => ?_)
      · have hf := o_t hf hc
        exact J32 x2 x3 x4 _ _ _ hf (lv_sub hl [] rfl) hP hD hS
      · have hf := o_f hf hc
        refine lv_aload_n hx hb dX9_multipleOf_22 rfl (lv_at hl 0 rfl) ?_
        obtain ⟨v8, v9, v10, hv8, hf⟩ := o_b3 hf
        refine x_vv (rest := []) (W1 := [x_o9 a_t t_p a_t_given t_isLaid t_isGood a_t_c t_points a_t_pointX a_t_pointY a_t_pointZ a_t_pointFlags t_flags a_t_flagPoint a_t_flagU a_t_flagV a_t_flagW a_t_next a_t_series a_t_mix a_t_cofactor t_formX t_formY t_formZ a_t_square v8 v9 v10, x_ar cI a_t_c 4 t_c_r]) ⟨hx, hb, hml, hown, hts⟩ (tX9_addOne l D cI a_t a_t_given a_t_c a_t_pointX a_t_pointY a_t_pointZ a_t_pointFlags a_t_flagPoint a_t_flagU a_t_flagV a_t_flagW a_t_next a_t_series a_t_mix a_t_cofactor a_t_square t_p t_isLaid t_isGood t_points t_flags t_formX t_formY t_formZ x2 x3 x4 t_c_r v8 v9 v10 hv8) (cwV 0 hts gX9_multipleOf_X9_addOne rfl rfl rfl (by decide +kernel) ⟨Nat.le_of_ble_eq_true rfl, Nat.le_of_ble_eq_true rfl⟩) hN hK hP hD hS hA [0, 1] [some 0, some 1] rfl rfl rfl rfl rfl rfl 0 rfl rfl rfl hl.1 rfl (Nat.le_of_ble_eq_true rfl) dX9_multipleOf_23 ⟨Nat.zero_le _, Nat.zero_le _⟩ (fun H locs hP hD hS => ?_)
        obtain ⟨v11, ev11, hf⟩ := o_nm hf
        refine lv_iinc (v := v11) (lv' := [(2, .int v11), (0, .ref a_t), (1, .int i1)]) hx hb dX9_multipleOf_26 hl (k := 2) rfl (by rw [ev11]; rfl) (by decide) rfl (fun ls hl => ?_)
        refine lv_goto (tgt := 17) hx hb dX9_multipleOf_29 (by decide) ?_
        exact ih17 v11 v8 v9 v10 _ _ _ hf (lv_sub hl [1, 2, 0] rfl) hP hD hS
  exact L17 p_FU 0 1 0 0 _ _ _ hf (lv_sub hl [1, 2, 0] rfl) hP hD hS
noncomputable def fX9_multiple (t_flags : Int32) (t_formX : Int32) (t_formY : Int32) (t_formZ : Int32) (t_isGood : Int32) (t_isLaid : Int32) (t_isNought : Int32) (t_p : Int32) (t_points : Int32) (t_sumT : Int32) (t_sumY : Int32) (t_c_r : (Nat → Int32)) (t_cofactor_r : (Nat → Int32)) (t_flagPoint_r : (Nat → Int32)) (t_flagU_r : (Nat → Int32)) (t_flagV_r : (Nat → Int32)) (t_flagW_r : (Nat → Int32)) (t_given_r : (Nat → Int32)) (t_next_r : (Nat → Int32)) (t_pointFlags_r : (Nat → Int32)) (t_pointX_r : (Nat → Int32)) (t_pointY_r : (Nat → Int32)) (t_pointZ_r : (Nat → Int32)) (t_series_r : (Nat → Int32)) (i1 : Int32) (i2 : Int32) : Option (Int32 × Int32 × Int32 × Int32 × Int32 × Int32 × Int32 × Int32 × Int32 × Int32 × Int32 × (Nat → Int32) × (Nat → Int32) × (Nat → Int32) × (Nat → Int32) × (Nat → Int32) × (Nat → Int32) × (Nat → Int32) × (Nat → Int32) × (Nat → Int32) × (Nat → Int32) × (Nat → Int32) × (Nat → Int32)) :=
  p_b20 (fX9_isGood t_flags t_formX t_formY t_formZ t_isGood t_isLaid t_p t_points t_c_r t_cofactor_r t_flagPoint_r t_flagU_r t_flagV_r t_flagW_r t_given_r t_next_r t_pointFlags_r t_pointX_r t_pointY_r t_pointZ_r t_series_r) (fun v1 v2 v3 v4 v5 v6 v7 v8 u9 u10 u11 u12 u13 u14 u15 u16 u17 u18 u19 u20 =>
if v1 = 0 then (some ((-5), v2, v3, v4, v5, v6, v7, t_isNought, v8, t_sumT, t_sumY, u9, u10, u11, u12, u13, u14, u15, u16, u17, u18, u19, u20)) else (p_b1 (fX9_in i1 0 1000) (fun v21 =>
if v21 = 0 then (some ((-2), v2, v3, v4, v5, v6, v7, t_isNought, v8, t_sumT, t_sumY, u9, u10, u11, u12, u13, u14, u15, u16, u17, u18, u19, u20)) else (p_b1 (fX9_in i2 0 1) (fun v22 =>
if v22 = 0 then (some ((-2), v2, v3, v4, v5, v6, v7, t_isNought, v8, t_sumT, t_sumY, u9, u10, u11, u12, u13, u14, u15, u16, u17, u18, u19, u20)) else (p_b3 (fX9_multipleOf t_isNought t_p t_sumT t_sumY u9 i1) (fun v23 v24 v25 =>
if v23 = 0 then (if i2 = 0 then (some (v24, v2, v3, v4, v5, v6, v7, v23, v8, v24, v25, u9, u10, u11, u12, u13, u14, u15, u16, u17, u18, u19, u20)) else (some (v25, v2, v3, v4, v5, v6, v7, v23, v8, v24, v25, u9, u10, u11, u12, u13, u14, u15, u16, u17, u18, u19, u20))) else (some ((-6), v2, v3, v4, v5, v6, v7, v23, v8, v24, v25, u9, u10, u11, u12, u13, u14, u15, u16, u17, u18, u19, u20)))))))))
def rmX9_multiple : Room := { frames := 6, cells := 0, slots := 0, locals := 146 }
set_option maxHeartbeats 4000000 in
set_option maxRecDepth 100000 in
theorem tX9_multiple (l : Launch) (D : va_G) (cI : ClassId) (a_t : Nat) (a_t_given : Nat) (a_t_c : Nat) (a_t_pointX : Nat) (a_t_pointY : Nat) (a_t_pointZ : Nat) (a_t_pointFlags : Nat) (a_t_flagPoint : Nat) (a_t_flagU : Nat) (a_t_flagV : Nat) (a_t_flagW : Nat) (a_t_next : Nat) (a_t_series : Nat) (a_t_mix : Nat) (a_t_cofactor : Nat) (a_t_square : Nat) (t_p : Int32) (t_isLaid : Int32) (t_isGood : Int32) (t_points : Int32) (t_flags : Int32) (t_formX : Int32) (t_formY : Int32) (t_formZ : Int32) (t_isNought : Int32) (t_sumT : Int32) (t_sumY : Int32) (t_c_r : (Nat → Int32)) (t_cofactor_r : (Nat → Int32)) (t_flagPoint_r : (Nat → Int32)) (t_flagU_r : (Nat → Int32)) (t_flagV_r : (Nat → Int32)) (t_flagW_r : (Nat → Int32)) (t_given_r : (Nat → Int32)) (t_next_r : (Nat → Int32)) (t_pointFlags_r : (Nat → Int32)) (t_pointX_r : (Nat → Int32)) (t_pointY_r : (Nat → Int32)) (t_pointZ_r : (Nat → Int32)) (t_series_r : (Nat → Int32)) (i1 : Int32) (i2 : Int32) (r : Int32) (s_t_flags : Int32) (s_t_formX : Int32) (s_t_formY : Int32) (s_t_formZ : Int32) (s_t_isGood : Int32) (s_t_isLaid : Int32) (s_t_isNought : Int32) (s_t_points : Int32) (s_t_sumT : Int32) (s_t_sumY : Int32) (s_t_c_r : (Nat → Int32)) (s_t_cofactor_r : (Nat → Int32)) (s_t_flagPoint_r : (Nat → Int32)) (s_t_flagU_r : (Nat → Int32)) (s_t_flagV_r : (Nat → Int32)) (s_t_flagW_r : (Nat → Int32)) (s_t_next_r : (Nat → Int32)) (s_t_pointFlags_r : (Nat → Int32)) (s_t_pointX_r : (Nat → Int32)) (s_t_pointY_r : (Nat → Int32)) (s_t_pointZ_r : (Nat → Int32)) (s_t_series_r : (Nat → Int32)) (hf : fX9_multiple t_flags t_formX t_formY t_formZ t_isGood t_isLaid t_isNought t_p t_points t_sumT t_sumY t_c_r t_cofactor_r t_flagPoint_r t_flagU_r t_flagV_r t_flagW_r t_given_r t_next_r t_pointFlags_r t_pointX_r t_pointY_r t_pointZ_r t_series_r i1 i2 = some (r, s_t_flags, s_t_formX, s_t_formY, s_t_formZ, s_t_isGood, s_t_isLaid, s_t_isNought, s_t_points, s_t_sumT, s_t_sumY, s_t_c_r, s_t_cofactor_r, s_t_flagPoint_r, s_t_flagU_r, s_t_flagV_r, s_t_flagW_r, s_t_next_r, s_t_pointFlags_r, s_t_pointX_r, s_t_pointY_r, s_t_pointZ_r, s_t_series_r)) : x_CI l D cI yX9_multiple wsX9_multiple rmX9_multiple [.ref a_t, .int i1, .int i2] [x_o9 a_t t_p a_t_given t_isLaid t_isGood a_t_c t_points a_t_pointX a_t_pointY a_t_pointZ a_t_pointFlags t_flags a_t_flagPoint a_t_flagU a_t_flagV a_t_flagW a_t_next a_t_series a_t_mix a_t_cofactor t_formX t_formY t_formZ a_t_square t_isNought t_sumT t_sumY, x_ar cI a_t_c 4 t_c_r, x_ar cI a_t_cofactor 6 t_cofactor_r, x_ar cI a_t_flagPoint 400 t_flagPoint_r, x_ar cI a_t_flagU 400 t_flagU_r, x_ar cI a_t_flagV 400 t_flagV_r, x_ar cI a_t_flagW 400 t_flagW_r, x_ar cI a_t_given 12 t_given_r, x_ar cI a_t_next 400 t_next_r, x_ar cI a_t_pointFlags 200 t_pointFlags_r, x_ar cI a_t_pointX 200 t_pointX_r, x_ar cI a_t_pointY 200 t_pointY_r, x_ar cI a_t_pointZ 200 t_pointZ_r, x_ar cI a_t_series 32 t_series_r] [x_o9 a_t t_p a_t_given s_t_isLaid s_t_isGood a_t_c s_t_points a_t_pointX a_t_pointY a_t_pointZ a_t_pointFlags s_t_flags a_t_flagPoint a_t_flagU a_t_flagV a_t_flagW a_t_next a_t_series a_t_mix a_t_cofactor s_t_formX s_t_formY s_t_formZ a_t_square s_t_isNought s_t_sumT s_t_sumY, x_ar cI a_t_c 4 s_t_c_r, x_ar cI a_t_cofactor 6 s_t_cofactor_r, x_ar cI a_t_flagPoint 400 s_t_flagPoint_r, x_ar cI a_t_flagU 400 s_t_flagU_r, x_ar cI a_t_flagV 400 s_t_flagV_r, x_ar cI a_t_flagW 400 s_t_flagW_r, x_ar cI a_t_given 12 t_given_r, x_ar cI a_t_next 400 s_t_next_r, x_ar cI a_t_pointFlags 200 s_t_pointFlags_r, x_ar cI a_t_pointX 200 s_t_pointX_r, x_ar cI a_t_pointY 200 s_t_pointY_r, x_ar cI a_t_pointZ 200 s_t_pointZ_r, x_ar cI a_t_series 32 s_t_series_r] r := by
  refine x_CI_of (cc := cX9_multiple) (maxL := 3) (ty := .int) (own := RX9) (lv0 := [(0, .ref a_t), (1, .int i1), (2, .int i2)]) (by decide) rfl rfl (Nat.le_of_ble_eq_true rfl) rfl ?_
  intro p e s m args below meth c A Q ls hx hb hml hown hts hN hK hP hD hS hA hl hret
  have iX9 : ∀ w ∈ u_ws RX9 TX9 26, w ∈ wsX9_multiple := by decide +kernel
  have l182 := hts (.fieldLink RX9 182 "ChordRingsModel" "isNought" "Z") (by decide +kernel)
  have l188 := hts (.fieldLink RX9 188 "ChordRingsModel" "sumY" "I") (by decide +kernel)
  have l185 := hts (.fieldLink RX9 185 "ChordRingsModel" "sumT" "I") (by decide +kernel)
  unfold fX9_multiple at hf
  refine lv_aload_n hx hb dX9_multiple_0 rfl (lv_at hl 0 rfl) ?_
  obtain ⟨v1, v2, v3, v4, v5, v6, v7, v8, u9, u10, u11, u12, u13, u14, u15, u16, u17, u18, u19, u20, hv1, hf⟩ := o_b20 hf
  refine x_vi (rest := []) (W1 := [x_o9 a_t t_p a_t_given v7 v6 a_t_c v8 a_t_pointX a_t_pointY a_t_pointZ a_t_pointFlags v2 a_t_flagPoint a_t_flagU a_t_flagV a_t_flagW a_t_next a_t_series a_t_mix a_t_cofactor v3 v4 v5 a_t_square t_isNought t_sumT t_sumY, x_ar cI a_t_c 4 u9, x_ar cI a_t_cofactor 6 u10, x_ar cI a_t_flagPoint 400 u11, x_ar cI a_t_flagU 400 u12, x_ar cI a_t_flagV 400 u13, x_ar cI a_t_flagW 400 u14, x_ar cI a_t_given 12 t_given_r, x_ar cI a_t_next 400 u15, x_ar cI a_t_pointFlags 200 u16, x_ar cI a_t_pointX 200 u17, x_ar cI a_t_pointY 200 u18, x_ar cI a_t_pointZ 200 u19, x_ar cI a_t_series 32 u20]) ⟨hx, hb, hml, hown, hts⟩ (tX9_isGood l D cI a_t a_t_given a_t_c a_t_pointX a_t_pointY a_t_pointZ a_t_pointFlags a_t_flagPoint a_t_flagU a_t_flagV a_t_flagW a_t_next a_t_series a_t_mix a_t_cofactor a_t_square t_p t_isLaid t_isGood t_points t_flags t_formX t_formY t_formZ t_isNought t_sumT t_sumY t_c_r t_cofactor_r t_flagPoint_r t_flagU_r t_flagV_r t_flagW_r t_given_r t_next_r t_pointFlags_r t_pointX_r t_pointY_r t_pointZ_r t_series_r v1 v2 v3 v4 v5 v6 v7 v8 u9 u10 u11 u12 u13 u14 u15 u16 u17 u18 u19 u20 hv1) (cwV 0 hts gX9_multiple_X9_isGood rfl rfl rfl (by decide +kernel) ⟨Nat.le_of_ble_eq_true rfl, Nat.le_of_ble_eq_true rfl⟩) hN hK hP hD hS hA [0, 1, 2, 3, 4, 5, 6, 7, 8, 9, 10, 11, 12, 13] [some 0, some 1, some 2, some 3, some 4, some 5, some 6, some 7, some 8, some 9, some 10, some 11, some 12, some 13] rfl rfl rfl rfl rfl rfl 0 rfl rfl rfl hl.1 rfl (Nat.le_of_ble_eq_true rfl) dX9_multiple_1 ⟨Nat.zero_le _, Nat.zero_le _⟩ (fun H locs hP hD hS => ?_)
  refine lv_if_ne (tgt := 10) hx hb dX9_multiple_4 (by decide) (fun hc => ?_) (fun hc => ?_)
  · have hf := o_f hf hc
    refine lv_iload_n hx hb dX9_multiple_10 rfl (lv_at hl 1 rfl) ?_
    refine lv_iconst (v := 0) hx hb dX9_multiple_11 (by decide) ?_
    refine lv_sipush (v := 1000) hx hb dX9_multiple_12 (by decide) ?_
    obtain ⟨v21, hv21, hf⟩ := o_b1 hf
    refine x_si (rest := []) ⟨hx, hb, hml, hown, hts⟩ (tX9_in l D cI i1 0 1000 v21 hv21) (va_cwS 3 hts gX9_multiple_X9_in rfl rfl rfl (by decide +kernel) ⟨Nat.le_of_ble_eq_true rfl, Nat.le_of_ble_eq_true rfl⟩) hN hK hP hD hS hA rfl hl.1 rfl (Nat.le_of_ble_eq_true rfl) dX9_multiple_15 ⟨Nat.zero_le _, Nat.zero_le _⟩ (fun H locs hP hD hS => ?_)
    refine lv_if_eq (tgt := 30) hx hb dX9_multiple_18 (by decide) (fun hc => ?_) (fun hc => ?_)
    · have hf := o_t hf hc
      refine lv_bipush (v := (-2)) hx hb dX9_multiple_30 (by decide) ?_
      obtain ⟨rfl, rfl, rfl, rfl, rfl, rfl, rfl, rfl, rfl, rfl, rfl, rfl, rfl, rfl, rfl, rfl, rfl, rfl, rfl, rfl, rfl, rfl, rfl⟩ := o_s23 hf
      exact hret rfl rfl dX9_multiple_32 hP hD hS
    · have hf := o_f hf hc
      refine lv_iload_n hx hb dX9_multiple_21 rfl (lv_at hl 2 rfl) ?_
      refine lv_iconst (v := 0) hx hb dX9_multiple_22 (by decide) ?_
      refine lv_iconst (v := 1) hx hb dX9_multiple_23 (by decide) ?_
      obtain ⟨v22, hv22, hf⟩ := o_b1 hf
      refine x_si (rest := []) ⟨hx, hb, hml, hown, hts⟩ (tX9_in l D cI i2 0 1 v22 hv22) (va_cwS 3 hts gX9_multiple_X9_in rfl rfl rfl (by decide +kernel) ⟨Nat.le_of_ble_eq_true rfl, Nat.le_of_ble_eq_true rfl⟩) hN hK hP hD hS hA rfl hl.1 rfl (Nat.le_of_ble_eq_true rfl) dX9_multiple_24 ⟨Nat.zero_le _, Nat.zero_le _⟩ (fun H locs hP hD hS => ?_)
      refine lv_if_ne (tgt := 33) hx hb dX9_multiple_27 (by decide) (fun hc => ?_) (fun hc => ?_)
      · have hf := o_f hf hc
        refine lv_aload_n hx hb dX9_multiple_33 rfl (lv_at hl 0 rfl) ?_
        refine lv_iload_n hx hb dX9_multiple_34 rfl (lv_at hl 1 rfl) ?_
        obtain ⟨v23, v24, v25, hv23, hf⟩ := o_b3 hf
        refine x_vv (rest := []) (W1 := [x_o9 a_t t_p a_t_given v7 v6 a_t_c v8 a_t_pointX a_t_pointY a_t_pointZ a_t_pointFlags v2 a_t_flagPoint a_t_flagU a_t_flagV a_t_flagW a_t_next a_t_series a_t_mix a_t_cofactor v3 v4 v5 a_t_square v23 v24 v25, x_ar cI a_t_c 4 u9, x_ar cI a_t_cofactor 6 u10, x_ar cI a_t_flagPoint 400 u11, x_ar cI a_t_flagU 400 u12, x_ar cI a_t_flagV 400 u13, x_ar cI a_t_flagW 400 u14, x_ar cI a_t_given 12 t_given_r, x_ar cI a_t_next 400 u15, x_ar cI a_t_pointFlags 200 u16, x_ar cI a_t_pointX 200 u17, x_ar cI a_t_pointY 200 u18, x_ar cI a_t_pointZ 200 u19, x_ar cI a_t_series 32 u20]) ⟨hx, hb, hml, hown, hts⟩ (tX9_multipleOf l D cI a_t a_t_given a_t_c a_t_pointX a_t_pointY a_t_pointZ a_t_pointFlags a_t_flagPoint a_t_flagU a_t_flagV a_t_flagW a_t_next a_t_series a_t_mix a_t_cofactor a_t_square t_p v7 v6 v8 v2 v3 v4 v5 t_isNought t_sumT t_sumY u9 i1 v23 v24 v25 hv23) (cwV 1 hts gX9_multiple_X9_multipleOf rfl rfl rfl (by decide +kernel) ⟨Nat.le_of_ble_eq_true rfl, Nat.le_of_ble_eq_true rfl⟩) hN hK hP hD hS hA [0, 1] [some 0, some 1, none, none, none, none, none, none, none, none, none, none, none, none] rfl rfl rfl rfl rfl rfl 0 rfl rfl rfl hl.1 rfl (Nat.le_of_ble_eq_true rfl) dX9_multiple_35 ⟨Nat.zero_le _, Nat.zero_le _⟩ (fun H locs hP hD hS => ?_)
        refine lv_aload_n hx hb dX9_multiple_38 rfl (lv_at hl 0 rfl) ?_
        refine va_get (D := D) (ci := 9) (C := RX9) (T := TX9) (N := 26) hx hb hts iX9 hown hK hP 0 rfl rfl 23 (by decide) l182 (fun _ h9 => h9) rfl dX9_multiple_39 ?_
        refine lv_if_eq (tgt := 50) hx hb dX9_multiple_42 (by decide) (fun hc => ?_) (fun hc => ?_)
        · have hf := o_t hf hc
          refine lv_iload_n hx hb dX9_multiple_50 rfl (lv_at hl 2 rfl) ?_
          refine lv_if_ne (tgt := 61) hx hb dX9_multiple_51 (by decide) (fun hc => ?_) (fun hc => ?_)
          · have hf := o_f hf hc
            refine lv_aload_n hx hb dX9_multiple_61 rfl (lv_at hl 0 rfl) ?_
            refine va_get (D := D) (ci := 9) (C := RX9) (T := TX9) (N := 26) hx hb hts iX9 hown hK hP 0 rfl rfl 25 (by decide) l188 (fun _ h9 => h9) rfl dX9_multiple_62 ?_
            obtain ⟨rfl, rfl, rfl, rfl, rfl, rfl, rfl, rfl, rfl, rfl, rfl, rfl, rfl, rfl, rfl, rfl, rfl, rfl, rfl, rfl, rfl, rfl, rfl⟩ := o_s23 hf
            exact hret rfl rfl dX9_multiple_65 hP hD hS
          · have hf := o_t hf hc
            refine lv_aload_n hx hb dX9_multiple_54 rfl (lv_at hl 0 rfl) ?_
            refine va_get (D := D) (ci := 9) (C := RX9) (T := TX9) (N := 26) hx hb hts iX9 hown hK hP 0 rfl rfl 24 (by decide) l185 (fun _ h9 => h9) rfl dX9_multiple_55 ?_
            refine lv_goto (tgt := 65) hx hb dX9_multiple_58 (by decide) ?_
            obtain ⟨rfl, rfl, rfl, rfl, rfl, rfl, rfl, rfl, rfl, rfl, rfl, rfl, rfl, rfl, rfl, rfl, rfl, rfl, rfl, rfl, rfl, rfl, rfl⟩ := o_s23 hf
            exact hret rfl rfl dX9_multiple_65 hP hD hS
        · have hf := o_f hf hc
          refine lv_bipush (v := (-6)) hx hb dX9_multiple_45 (by decide) ?_
          refine lv_goto (tgt := 65) hx hb dX9_multiple_47 (by decide) ?_
          obtain ⟨rfl, rfl, rfl, rfl, rfl, rfl, rfl, rfl, rfl, rfl, rfl, rfl, rfl, rfl, rfl, rfl, rfl, rfl, rfl, rfl, rfl, rfl, rfl⟩ := o_s23 hf
          exact hret rfl rfl dX9_multiple_65 hP hD hS
      · have hf := o_t hf hc
        refine lv_bipush (v := (-2)) hx hb dX9_multiple_30 (by decide) ?_
        obtain ⟨rfl, rfl, rfl, rfl, rfl, rfl, rfl, rfl, rfl, rfl, rfl, rfl, rfl, rfl, rfl, rfl, rfl, rfl, rfl, rfl, rfl, rfl, rfl⟩ := o_s23 hf
        exact hret rfl rfl dX9_multiple_32 hP hD hS
  · have hf := o_t hf hc
    refine lv_bipush (v := (-5)) hx hb dX9_multiple_7 (by decide) ?_
    obtain ⟨rfl, rfl, rfl, rfl, rfl, rfl, rfl, rfl, rfl, rfl, rfl, rfl, rfl, rfl, rfl, rfl, rfl, rfl, rfl, rfl, rfl, rfl, rfl⟩ := o_s23 hf
    exact hret rfl rfl dX9_multiple_9 hP hD hS
noncomputable def kX9_orderOf_24 (y8 : Int32) (y9 : Int32) (y10 : Int32) (y11 : Int32) : Option (Int32 × Int32 × Int32 × Int32) :=
  some (y8, y9, y10, y11)
noncomputable def FgX9_orderOf_7 (t_p : Int32) (t_c_r : (Nat → Int32)) (rec7 : Int32 → Int32 → Int32 → Int32 → Option (Int32 × Int32 × Int32 × Int32)) (kk7 : Int32 → Int32 → Int32 → Int32 → Option (Int32 × Int32 × Int32 × Int32)) (x4 : Int32) (x5 : Int32) (x6 : Int32) (x7 : Int32) : Option (Int32 × Int32 × Int32 × Int32) :=
  if x5 = 0 then (p_b3 (fX9_addOne x5 t_p x6 x7 t_c_r) (fun v12 v13 v14 =>
p_nm (x4 + 1) (fun v15 =>
rec7 v15 v12 v13 v14))) else (kk7 x4 x5 x6 x7)
noncomputable def gX9_orderOf_7 (t_p : Int32) (t_c_r : (Nat → Int32)) (kk7 : Int32 → Int32 → Int32 → Int32 → Option (Int32 × Int32 × Int32 × Int32)) (n : Nat) : Int32 → Int32 → Int32 → Int32 → Option (Int32 × Int32 × Int32 × Int32) := Nat.rec (motive := fun _ => Int32 → Int32 → Int32 → Int32 → Option (Int32 × Int32 × Int32 × Int32)) (fun _ _ _ _ => none) (fun _ rec7 => FgX9_orderOf_7 t_p t_c_r rec7 kk7) n
noncomputable def fX9_orderOf (t_isNought : Int32) (t_p : Int32) (t_sumT : Int32) (t_sumY : Int32) (t_c_r : (Nat → Int32)) : Option (Int32 × Int32 × Int32 × Int32) :=
  p_b3 (fX9_multipleOf t_isNought t_p t_sumT t_sumY t_c_r 1) (fun v1 v2 v3 =>
gX9_orderOf_7 t_p t_c_r (kX9_orderOf_24) p_FU 1 v1 v2 v3)
def rmX9_orderOf : Room := { frames := 4, cells := 0, slots := 0, locals := 95 }
set_option maxHeartbeats 4000000 in
set_option maxRecDepth 100000 in
theorem tX9_orderOf (l : Launch) (D : va_G) (cI : ClassId) (a_t : Nat) (a_t_given : Nat) (a_t_c : Nat) (a_t_pointX : Nat) (a_t_pointY : Nat) (a_t_pointZ : Nat) (a_t_pointFlags : Nat) (a_t_flagPoint : Nat) (a_t_flagU : Nat) (a_t_flagV : Nat) (a_t_flagW : Nat) (a_t_next : Nat) (a_t_series : Nat) (a_t_mix : Nat) (a_t_cofactor : Nat) (a_t_square : Nat) (t_p : Int32) (t_isLaid : Int32) (t_isGood : Int32) (t_points : Int32) (t_flags : Int32) (t_formX : Int32) (t_formY : Int32) (t_formZ : Int32) (t_isNought : Int32) (t_sumT : Int32) (t_sumY : Int32) (t_c_r : (Nat → Int32)) (r : Int32) (s_t_isNought : Int32) (s_t_sumT : Int32) (s_t_sumY : Int32) (hf : fX9_orderOf t_isNought t_p t_sumT t_sumY t_c_r = some (r, s_t_isNought, s_t_sumT, s_t_sumY)) : x_CI l D cI yX9_orderOf wsX9_orderOf rmX9_orderOf [.ref a_t] [x_o9 a_t t_p a_t_given t_isLaid t_isGood a_t_c t_points a_t_pointX a_t_pointY a_t_pointZ a_t_pointFlags t_flags a_t_flagPoint a_t_flagU a_t_flagV a_t_flagW a_t_next a_t_series a_t_mix a_t_cofactor t_formX t_formY t_formZ a_t_square t_isNought t_sumT t_sumY, x_ar cI a_t_c 4 t_c_r] [x_o9 a_t t_p a_t_given t_isLaid t_isGood a_t_c t_points a_t_pointX a_t_pointY a_t_pointZ a_t_pointFlags t_flags a_t_flagPoint a_t_flagU a_t_flagV a_t_flagW a_t_next a_t_series a_t_mix a_t_cofactor t_formX t_formY t_formZ a_t_square s_t_isNought s_t_sumT s_t_sumY, x_ar cI a_t_c 4 t_c_r] r := by
  refine x_CI_of (cc := cX9_orderOf) (maxL := 2) (ty := .int) (own := RX9) (lv0 := [(0, .ref a_t)]) (by decide) rfl rfl (Nat.le_of_ble_eq_true rfl) rfl ?_
  intro p e s m args below meth c A Q ls hx hb hml hown hts hN hK hP hD hS hA hl hret
  have iX9 : ∀ w ∈ u_ws RX9 TX9 26, w ∈ wsX9_orderOf := by decide +kernel
  have l182 := hts (.fieldLink RX9 182 "ChordRingsModel" "isNought" "Z") (by decide +kernel)
  unfold fX9_orderOf at hf
  refine lv_aload_n hx hb dX9_orderOf_0 rfl (lv_at hl 0 rfl) ?_
  refine lv_iconst (v := 1) hx hb dX9_orderOf_1 (by decide) ?_
  obtain ⟨v1, v2, v3, hv1, hf⟩ := o_b3 hf
  refine x_vv (rest := []) (W1 := [x_o9 a_t t_p a_t_given t_isLaid t_isGood a_t_c t_points a_t_pointX a_t_pointY a_t_pointZ a_t_pointFlags t_flags a_t_flagPoint a_t_flagU a_t_flagV a_t_flagW a_t_next a_t_series a_t_mix a_t_cofactor t_formX t_formY t_formZ a_t_square v1 v2 v3, x_ar cI a_t_c 4 t_c_r]) ⟨hx, hb, hml, hown, hts⟩ (tX9_multipleOf l D cI a_t a_t_given a_t_c a_t_pointX a_t_pointY a_t_pointZ a_t_pointFlags a_t_flagPoint a_t_flagU a_t_flagV a_t_flagW a_t_next a_t_series a_t_mix a_t_cofactor a_t_square t_p t_isLaid t_isGood t_points t_flags t_formX t_formY t_formZ t_isNought t_sumT t_sumY t_c_r 1 v1 v2 v3 hv1) (cwV 1 hts gX9_orderOf_X9_multipleOf rfl rfl rfl (by decide +kernel) ⟨Nat.le_of_ble_eq_true rfl, Nat.le_of_ble_eq_true rfl⟩) hN hK hP hD hS hA [0, 1] [some 0, some 1] rfl rfl rfl rfl rfl rfl 0 rfl rfl rfl hl.1 rfl (Nat.le_of_ble_eq_true rfl) dX9_orderOf_2 ⟨Nat.zero_le _, Nat.zero_le _⟩ (fun H locs hP hD hS => ?_)
  refine lv_iconst (v := 1) hx hb dX9_orderOf_5 (by decide) ?_
  refine lv_istore_n (lv' := [(1, .int 1), (0, .ref a_t)]) hx hb dX9_orderOf_6 rfl hl (by decide) rfl (fun ls hl => ?_)
  have L7 : ∀ (n : Nat) (x4 : Int32) (x5 : Int32) (x6 : Int32) (x7 : Int32) (ls : Array Slot) (H : Heap) (locs : List Loc), gX9_orderOf_7 t_p t_c_r (kX9_orderOf_24) n x4 x5 x6 x7 = some (r, s_t_isNought, s_t_sumT, s_t_sumY) → lv_has ls 2 [(0, .ref a_t), (1, .int x4)] → va_P D vwCl [x_o9 a_t t_p a_t_given t_isLaid t_isGood a_t_c t_points a_t_pointX a_t_pointY a_t_pointZ a_t_pointFlags t_flags a_t_flagPoint a_t_flagU a_t_flagV a_t_flagW a_t_next a_t_series a_t_mix a_t_cofactor t_formX t_formY t_formZ a_t_square x5 x6 x7, x_ar cI a_t_c 4 t_c_r] H → va_D A [x_o9 a_t t_p a_t_given t_isLaid t_isGood a_t_c t_points a_t_pointX a_t_pointY a_t_pointZ a_t_pointFlags t_flags a_t_flagPoint a_t_flagU a_t_flagV a_t_flagW a_t_next a_t_series a_t_mix a_t_cofactor t_formX t_formY t_formZ a_t_square x5 x6 x7, x_ar cI a_t_c 4 t_c_r] → va_S A s.heap H locs → W p l e rmX9_orderOf s m args below meth c H locs 0 0 Q (F0 m 7 ls []) := by
    intro n7
    induction n7 with
    | zero =>
      intro x4 x5 x6 x7 ls H locs hf
      exact nomatch (show (none : Option (Int32 × Int32 × Int32 × Int32)) = some (r, s_t_isNought, s_t_sumT, s_t_sumY) from hf)
    | succ n7 ih7 =>
      intro x4 x5 x6 x7 ls H locs hf hl hP hD hS
      have hf : FgX9_orderOf_7 t_p t_c_r (gX9_orderOf_7 t_p t_c_r (kX9_orderOf_24) n7) (kX9_orderOf_24) x4 x5 x6 x7 = some (r, s_t_isNought, s_t_sumT, s_t_sumY) := hf
      unfold FgX9_orderOf_7 at hf
      refine lv_aload_n hx hb dX9_orderOf_7 rfl (lv_at hl 0 rfl) ?_
      refine va_get (D := D) (ci := 9) (C := RX9) (T := TX9) (N := 26) hx hb hts iX9 hown hK hP 0 rfl rfl 23 (by decide) l182 (fun _ h9 => h9) rfl dX9_orderOf_8 ?_
      have J24 : ∀ (y8 : Int32) (y9 : Int32) (y10 : Int32) (y11 : Int32) (ls : Array Slot) (H : Heap) (locs : List Loc), kX9_orderOf_24 y8 y9 y10 y11 = some (r, s_t_isNought, s_t_sumT, s_t_sumY) → lv_has ls 2 [(1, .int y8)] → va_P D vwCl [x_o9 a_t t_p a_t_given t_isLaid t_isGood a_t_c t_points a_t_pointX a_t_pointY a_t_pointZ a_t_pointFlags t_flags a_t_flagPoint a_t_flagU a_t_flagV a_t_flagW a_t_next a_t_series a_t_mix a_t_cofactor t_formX t_formY t_formZ a_t_square y9 y10 y11, x_ar cI a_t_c 4 t_c_r] H → va_D A [x_o9 a_t t_p a_t_given t_isLaid t_isGood a_t_c t_points a_t_pointX a_t_pointY a_t_pointZ a_t_pointFlags t_flags a_t_flagPoint a_t_flagU a_t_flagV a_t_flagW a_t_next a_t_series a_t_mix a_t_cofactor t_formX t_formY t_formZ a_t_square y9 y10 y11, x_ar cI a_t_c 4 t_c_r] → va_S A s.heap H locs → W p l e rmX9_orderOf s m args below meth c H locs 0 0 Q (F0 m 24 ls []) := by
        intro y8 y9 y10 y11 ls H locs hf hl hP hD hS
        unfold kX9_orderOf_24 at hf
        refine lv_iload_n hx hb dX9_orderOf_24 rfl (lv_at hl 0 rfl) ?_
        obtain ⟨rfl, rfl, rfl, rfl⟩ := o_s4 hf
        exact hret rfl rfl dX9_orderOf_25 hP hD hS
      refine lv_if_ne (tgt := 24) hx hb dX9_orderOf_11 (by decide) (fun hc => ?_) (fun hc => ?_)
      · have hf := o_f hf hc
        exact J24 x4 x5 x6 x7 _ _ _ hf (lv_sub hl [1] rfl) hP hD hS
      · have hf := o_t hf hc
        refine lv_aload_n hx hb dX9_orderOf_14 rfl (lv_at hl 0 rfl) ?_
        obtain ⟨v12, v13, v14, hv12, hf⟩ := o_b3 hf
        refine x_vv (rest := []) (W1 := [x_o9 a_t t_p a_t_given t_isLaid t_isGood a_t_c t_points a_t_pointX a_t_pointY a_t_pointZ a_t_pointFlags t_flags a_t_flagPoint a_t_flagU a_t_flagV a_t_flagW a_t_next a_t_series a_t_mix a_t_cofactor t_formX t_formY t_formZ a_t_square v12 v13 v14, x_ar cI a_t_c 4 t_c_r]) ⟨hx, hb, hml, hown, hts⟩ (tX9_addOne l D cI a_t a_t_given a_t_c a_t_pointX a_t_pointY a_t_pointZ a_t_pointFlags a_t_flagPoint a_t_flagU a_t_flagV a_t_flagW a_t_next a_t_series a_t_mix a_t_cofactor a_t_square t_p t_isLaid t_isGood t_points t_flags t_formX t_formY t_formZ x5 x6 x7 t_c_r v12 v13 v14 hv12) (cwV 0 hts gX9_orderOf_X9_addOne rfl rfl rfl (by decide +kernel) ⟨Nat.le_of_ble_eq_true rfl, Nat.le_of_ble_eq_true rfl⟩) hN hK hP hD hS hA [0, 1] [some 0, some 1] rfl rfl rfl rfl rfl rfl 0 rfl rfl rfl hl.1 rfl (Nat.le_of_ble_eq_true rfl) dX9_orderOf_15 ⟨Nat.zero_le _, Nat.zero_le _⟩ (fun H locs hP hD hS => ?_)
        obtain ⟨v15, ev15, hf⟩ := o_nm hf
        refine lv_iinc (v := v15) (lv' := [(1, .int v15), (0, .ref a_t)]) hx hb dX9_orderOf_18 hl (k := 1) rfl (by rw [ev15]; rfl) (by decide) rfl (fun ls hl => ?_)
        refine lv_goto (tgt := 7) hx hb dX9_orderOf_21 (by decide) ?_
        exact ih7 v15 v12 v13 v14 _ _ _ hf (lv_sub hl [1, 0] rfl) hP hD hS
  exact L7 p_FU 1 v1 v2 v3 _ _ _ hf (lv_sub hl [1, 0] rfl) hP hD hS
noncomputable def fX9_order (t_flags : Int32) (t_formX : Int32) (t_formY : Int32) (t_formZ : Int32) (t_isGood : Int32) (t_isLaid : Int32) (t_isNought : Int32) (t_p : Int32) (t_points : Int32) (t_sumT : Int32) (t_sumY : Int32) (t_c_r : (Nat → Int32)) (t_cofactor_r : (Nat → Int32)) (t_flagPoint_r : (Nat → Int32)) (t_flagU_r : (Nat → Int32)) (t_flagV_r : (Nat → Int32)) (t_flagW_r : (Nat → Int32)) (t_given_r : (Nat → Int32)) (t_next_r : (Nat → Int32)) (t_pointFlags_r : (Nat → Int32)) (t_pointX_r : (Nat → Int32)) (t_pointY_r : (Nat → Int32)) (t_pointZ_r : (Nat → Int32)) (t_series_r : (Nat → Int32)) : Option (Int32 × Int32 × Int32 × Int32 × Int32 × Int32 × Int32 × Int32 × Int32 × Int32 × Int32 × (Nat → Int32) × (Nat → Int32) × (Nat → Int32) × (Nat → Int32) × (Nat → Int32) × (Nat → Int32) × (Nat → Int32) × (Nat → Int32) × (Nat → Int32) × (Nat → Int32) × (Nat → Int32) × (Nat → Int32)) :=
  p_b20 (fX9_isGood t_flags t_formX t_formY t_formZ t_isGood t_isLaid t_p t_points t_c_r t_cofactor_r t_flagPoint_r t_flagU_r t_flagV_r t_flagW_r t_given_r t_next_r t_pointFlags_r t_pointX_r t_pointY_r t_pointZ_r t_series_r) (fun v1 v2 v3 v4 v5 v6 v7 v8 u9 u10 u11 u12 u13 u14 u15 u16 u17 u18 u19 u20 =>
if v1 = 0 then (some ((-5), v2, v3, v4, v5, v6, v7, t_isNought, v8, t_sumT, t_sumY, u9, u10, u11, u12, u13, u14, u15, u16, u17, u18, u19, u20)) else (p_b4 (fX9_orderOf t_isNought t_p t_sumT t_sumY u9) (fun v21 v22 v23 v24 =>
some (v21, v2, v3, v4, v5, v6, v7, v22, v8, v23, v24, u9, u10, u11, u12, u13, u14, u15, u16, u17, u18, u19, u20))))
def rmX9_order : Room := { frames := 6, cells := 0, slots := 0, locals := 146 }
set_option maxHeartbeats 4000000 in
set_option maxRecDepth 100000 in
theorem tX9_order (l : Launch) (D : va_G) (cI : ClassId) (a_t : Nat) (a_t_given : Nat) (a_t_c : Nat) (a_t_pointX : Nat) (a_t_pointY : Nat) (a_t_pointZ : Nat) (a_t_pointFlags : Nat) (a_t_flagPoint : Nat) (a_t_flagU : Nat) (a_t_flagV : Nat) (a_t_flagW : Nat) (a_t_next : Nat) (a_t_series : Nat) (a_t_mix : Nat) (a_t_cofactor : Nat) (a_t_square : Nat) (t_p : Int32) (t_isLaid : Int32) (t_isGood : Int32) (t_points : Int32) (t_flags : Int32) (t_formX : Int32) (t_formY : Int32) (t_formZ : Int32) (t_isNought : Int32) (t_sumT : Int32) (t_sumY : Int32) (t_c_r : (Nat → Int32)) (t_cofactor_r : (Nat → Int32)) (t_flagPoint_r : (Nat → Int32)) (t_flagU_r : (Nat → Int32)) (t_flagV_r : (Nat → Int32)) (t_flagW_r : (Nat → Int32)) (t_given_r : (Nat → Int32)) (t_next_r : (Nat → Int32)) (t_pointFlags_r : (Nat → Int32)) (t_pointX_r : (Nat → Int32)) (t_pointY_r : (Nat → Int32)) (t_pointZ_r : (Nat → Int32)) (t_series_r : (Nat → Int32)) (r : Int32) (s_t_flags : Int32) (s_t_formX : Int32) (s_t_formY : Int32) (s_t_formZ : Int32) (s_t_isGood : Int32) (s_t_isLaid : Int32) (s_t_isNought : Int32) (s_t_points : Int32) (s_t_sumT : Int32) (s_t_sumY : Int32) (s_t_c_r : (Nat → Int32)) (s_t_cofactor_r : (Nat → Int32)) (s_t_flagPoint_r : (Nat → Int32)) (s_t_flagU_r : (Nat → Int32)) (s_t_flagV_r : (Nat → Int32)) (s_t_flagW_r : (Nat → Int32)) (s_t_next_r : (Nat → Int32)) (s_t_pointFlags_r : (Nat → Int32)) (s_t_pointX_r : (Nat → Int32)) (s_t_pointY_r : (Nat → Int32)) (s_t_pointZ_r : (Nat → Int32)) (s_t_series_r : (Nat → Int32)) (hf : fX9_order t_flags t_formX t_formY t_formZ t_isGood t_isLaid t_isNought t_p t_points t_sumT t_sumY t_c_r t_cofactor_r t_flagPoint_r t_flagU_r t_flagV_r t_flagW_r t_given_r t_next_r t_pointFlags_r t_pointX_r t_pointY_r t_pointZ_r t_series_r = some (r, s_t_flags, s_t_formX, s_t_formY, s_t_formZ, s_t_isGood, s_t_isLaid, s_t_isNought, s_t_points, s_t_sumT, s_t_sumY, s_t_c_r, s_t_cofactor_r, s_t_flagPoint_r, s_t_flagU_r, s_t_flagV_r, s_t_flagW_r, s_t_next_r, s_t_pointFlags_r, s_t_pointX_r, s_t_pointY_r, s_t_pointZ_r, s_t_series_r)) : x_CI l D cI yX9_order wsX9_order rmX9_order [.ref a_t] [x_o9 a_t t_p a_t_given t_isLaid t_isGood a_t_c t_points a_t_pointX a_t_pointY a_t_pointZ a_t_pointFlags t_flags a_t_flagPoint a_t_flagU a_t_flagV a_t_flagW a_t_next a_t_series a_t_mix a_t_cofactor t_formX t_formY t_formZ a_t_square t_isNought t_sumT t_sumY, x_ar cI a_t_c 4 t_c_r, x_ar cI a_t_cofactor 6 t_cofactor_r, x_ar cI a_t_flagPoint 400 t_flagPoint_r, x_ar cI a_t_flagU 400 t_flagU_r, x_ar cI a_t_flagV 400 t_flagV_r, x_ar cI a_t_flagW 400 t_flagW_r, x_ar cI a_t_given 12 t_given_r, x_ar cI a_t_next 400 t_next_r, x_ar cI a_t_pointFlags 200 t_pointFlags_r, x_ar cI a_t_pointX 200 t_pointX_r, x_ar cI a_t_pointY 200 t_pointY_r, x_ar cI a_t_pointZ 200 t_pointZ_r, x_ar cI a_t_series 32 t_series_r] [x_o9 a_t t_p a_t_given s_t_isLaid s_t_isGood a_t_c s_t_points a_t_pointX a_t_pointY a_t_pointZ a_t_pointFlags s_t_flags a_t_flagPoint a_t_flagU a_t_flagV a_t_flagW a_t_next a_t_series a_t_mix a_t_cofactor s_t_formX s_t_formY s_t_formZ a_t_square s_t_isNought s_t_sumT s_t_sumY, x_ar cI a_t_c 4 s_t_c_r, x_ar cI a_t_cofactor 6 s_t_cofactor_r, x_ar cI a_t_flagPoint 400 s_t_flagPoint_r, x_ar cI a_t_flagU 400 s_t_flagU_r, x_ar cI a_t_flagV 400 s_t_flagV_r, x_ar cI a_t_flagW 400 s_t_flagW_r, x_ar cI a_t_given 12 t_given_r, x_ar cI a_t_next 400 s_t_next_r, x_ar cI a_t_pointFlags 200 s_t_pointFlags_r, x_ar cI a_t_pointX 200 s_t_pointX_r, x_ar cI a_t_pointY 200 s_t_pointY_r, x_ar cI a_t_pointZ 200 s_t_pointZ_r, x_ar cI a_t_series 32 s_t_series_r] r := by
  refine x_CI_of (cc := cX9_order) (maxL := 1) (ty := .int) (own := RX9) (lv0 := [(0, .ref a_t)]) (by decide) rfl rfl (Nat.le_of_ble_eq_true rfl) rfl ?_
  intro p e s m args below meth c A Q ls hx hb hml hown hts hN hK hP hD hS hA hl hret
  unfold fX9_order at hf
  refine lv_aload_n hx hb dX9_order_0 rfl (lv_at hl 0 rfl) ?_
  obtain ⟨v1, v2, v3, v4, v5, v6, v7, v8, u9, u10, u11, u12, u13, u14, u15, u16, u17, u18, u19, u20, hv1, hf⟩ := o_b20 hf
  refine x_vi (rest := []) (W1 := [x_o9 a_t t_p a_t_given v7 v6 a_t_c v8 a_t_pointX a_t_pointY a_t_pointZ a_t_pointFlags v2 a_t_flagPoint a_t_flagU a_t_flagV a_t_flagW a_t_next a_t_series a_t_mix a_t_cofactor v3 v4 v5 a_t_square t_isNought t_sumT t_sumY, x_ar cI a_t_c 4 u9, x_ar cI a_t_cofactor 6 u10, x_ar cI a_t_flagPoint 400 u11, x_ar cI a_t_flagU 400 u12, x_ar cI a_t_flagV 400 u13, x_ar cI a_t_flagW 400 u14, x_ar cI a_t_given 12 t_given_r, x_ar cI a_t_next 400 u15, x_ar cI a_t_pointFlags 200 u16, x_ar cI a_t_pointX 200 u17, x_ar cI a_t_pointY 200 u18, x_ar cI a_t_pointZ 200 u19, x_ar cI a_t_series 32 u20]) ⟨hx, hb, hml, hown, hts⟩ (tX9_isGood l D cI a_t a_t_given a_t_c a_t_pointX a_t_pointY a_t_pointZ a_t_pointFlags a_t_flagPoint a_t_flagU a_t_flagV a_t_flagW a_t_next a_t_series a_t_mix a_t_cofactor a_t_square t_p t_isLaid t_isGood t_points t_flags t_formX t_formY t_formZ t_isNought t_sumT t_sumY t_c_r t_cofactor_r t_flagPoint_r t_flagU_r t_flagV_r t_flagW_r t_given_r t_next_r t_pointFlags_r t_pointX_r t_pointY_r t_pointZ_r t_series_r v1 v2 v3 v4 v5 v6 v7 v8 u9 u10 u11 u12 u13 u14 u15 u16 u17 u18 u19 u20 hv1) (cwV 0 hts gX9_order_X9_isGood rfl rfl rfl (by decide +kernel) ⟨Nat.le_of_ble_eq_true rfl, Nat.le_of_ble_eq_true rfl⟩) hN hK hP hD hS hA [0, 1, 2, 3, 4, 5, 6, 7, 8, 9, 10, 11, 12, 13] [some 0, some 1, some 2, some 3, some 4, some 5, some 6, some 7, some 8, some 9, some 10, some 11, some 12, some 13] rfl rfl rfl rfl rfl rfl 0 rfl rfl rfl hl.1 rfl (Nat.le_of_ble_eq_true rfl) dX9_order_1 ⟨Nat.zero_le _, Nat.zero_le _⟩ (fun H locs hP hD hS => ?_)
  refine lv_if_eq (tgt := 14) hx hb dX9_order_4 (by decide) (fun hc => ?_) (fun hc => ?_)
  · have hf := o_t hf hc
    refine lv_bipush (v := (-5)) hx hb dX9_order_14 (by decide) ?_
    obtain ⟨rfl, rfl, rfl, rfl, rfl, rfl, rfl, rfl, rfl, rfl, rfl, rfl, rfl, rfl, rfl, rfl, rfl, rfl, rfl, rfl, rfl, rfl, rfl⟩ := o_s23 hf
    exact hret rfl rfl dX9_order_16 hP hD hS
  · have hf := o_f hf hc
    refine lv_aload_n hx hb dX9_order_7 rfl (lv_at hl 0 rfl) ?_
    obtain ⟨v21, v22, v23, v24, hv21, hf⟩ := o_b4 hf
    refine x_vi (rest := []) (W1 := [x_o9 a_t t_p a_t_given v7 v6 a_t_c v8 a_t_pointX a_t_pointY a_t_pointZ a_t_pointFlags v2 a_t_flagPoint a_t_flagU a_t_flagV a_t_flagW a_t_next a_t_series a_t_mix a_t_cofactor v3 v4 v5 a_t_square v22 v23 v24, x_ar cI a_t_c 4 u9, x_ar cI a_t_cofactor 6 u10, x_ar cI a_t_flagPoint 400 u11, x_ar cI a_t_flagU 400 u12, x_ar cI a_t_flagV 400 u13, x_ar cI a_t_flagW 400 u14, x_ar cI a_t_given 12 t_given_r, x_ar cI a_t_next 400 u15, x_ar cI a_t_pointFlags 200 u16, x_ar cI a_t_pointX 200 u17, x_ar cI a_t_pointY 200 u18, x_ar cI a_t_pointZ 200 u19, x_ar cI a_t_series 32 u20]) ⟨hx, hb, hml, hown, hts⟩ (tX9_orderOf l D cI a_t a_t_given a_t_c a_t_pointX a_t_pointY a_t_pointZ a_t_pointFlags a_t_flagPoint a_t_flagU a_t_flagV a_t_flagW a_t_next a_t_series a_t_mix a_t_cofactor a_t_square t_p v7 v6 v8 v2 v3 v4 v5 t_isNought t_sumT t_sumY u9 v21 v22 v23 v24 hv21) (cwV 0 hts gX9_order_X9_orderOf rfl rfl rfl (by decide +kernel) ⟨Nat.le_of_ble_eq_true rfl, Nat.le_of_ble_eq_true rfl⟩) hN hK hP hD hS hA [0, 1] [some 0, some 1, none, none, none, none, none, none, none, none, none, none, none, none] rfl rfl rfl rfl rfl rfl 0 rfl rfl rfl hl.1 rfl (Nat.le_of_ble_eq_true rfl) dX9_order_8 ⟨Nat.zero_le _, Nat.zero_le _⟩ (fun H locs hP hD hS => ?_)
    refine lv_goto (tgt := 16) hx hb dX9_order_11 (by decide) ?_
    obtain ⟨rfl, rfl, rfl, rfl, rfl, rfl, rfl, rfl, rfl, rfl, rfl, rfl, rfl, rfl, rfl, rfl, rfl, rfl, rfl, rfl, rfl, rfl, rfl⟩ := o_s23 hf
    exact hret rfl rfl dX9_order_16 hP hD hS
noncomputable def kX9_curve_58 (v2 : Int32) (v3 : Int32) (v4 : Int32) (v5 : Int32) (v6 : Int32) (v7 : Int32) (v8 : Int32) (u9 : (Nat → Int32)) (u10 : (Nat → Int32)) (u11 : (Nat → Int32)) (u12 : (Nat → Int32)) (u13 : (Nat → Int32)) (u14 : (Nat → Int32)) (u15 : (Nat → Int32)) (u16 : (Nat → Int32)) (u17 : (Nat → Int32)) (u18 : (Nat → Int32)) (u19 : (Nat → Int32)) (u20 : (Nat → Int32)) (y23 : Int32) : Option (Int32 × Int32 × Int32 × Int32 × Int32 × Int32 × Int32 × Int32 × (Nat → Int32) × (Nat → Int32) × (Nat → Int32) × (Nat → Int32) × (Nat → Int32) × (Nat → Int32) × (Nat → Int32) × (Nat → Int32) × (Nat → Int32) × (Nat → Int32) × (Nat → Int32) × (Nat → Int32)) :=
  some (y23, v2, v3, v4, v5, v6, v7, v8, u9, u10, u11, u12, u13, u14, u15, u16, u17, u18, u19, u20)
noncomputable def jX9_curve_50 (x21 : Int32) (x22 : Int32) (rec14 : Int32 → Int32 → Option (Int32 × Int32 × Int32 × Int32 × Int32 × Int32 × Int32 × Int32 × (Nat → Int32) × (Nat → Int32) × (Nat → Int32) × (Nat → Int32) × (Nat → Int32) × (Nat → Int32) × (Nat → Int32) × (Nat → Int32) × (Nat → Int32) × (Nat → Int32) × (Nat → Int32) × (Nat → Int32))) (y25 : Int32) : Option (Int32 × Int32 × Int32 × Int32 × Int32 × Int32 × Int32 × Int32 × (Nat → Int32) × (Nat → Int32) × (Nat → Int32) × (Nat → Int32) × (Nat → Int32) × (Nat → Int32) × (Nat → Int32) × (Nat → Int32) × (Nat → Int32) × (Nat → Int32) × (Nat → Int32) × (Nat → Int32)) :=
  p_nm (x21 + y25) (fun v26 =>
p_nm (x22 + 1) (fun v27 =>
rec14 v26 v27))
noncomputable def FgX9_curve_14 (t_p : Int32) (u9 : (Nat → Int32)) (rec14 : Int32 → Int32 → Option (Int32 × Int32 × Int32 × Int32 × Int32 × Int32 × Int32 × Int32 × (Nat → Int32) × (Nat → Int32) × (Nat → Int32) × (Nat → Int32) × (Nat → Int32) × (Nat → Int32) × (Nat → Int32) × (Nat → Int32) × (Nat → Int32) × (Nat → Int32) × (Nat → Int32) × (Nat → Int32))) (kk14 : Int32 → Option (Int32 × Int32 × Int32 × Int32 × Int32 × Int32 × Int32 × Int32 × (Nat → Int32) × (Nat → Int32) × (Nat → Int32) × (Nat → Int32) × (Nat → Int32) × (Nat → Int32) × (Nat → Int32) × (Nat → Int32) × (Nat → Int32) × (Nat → Int32) × (Nat → Int32) × (Nat → Int32))) (x21 : Int32) (x22 : Int32) : Option (Int32 × Int32 × Int32 × Int32 × Int32 × Int32 × Int32 × Int32 × (Nat → Int32) × (Nat → Int32) × (Nat → Int32) × (Nat → Int32) × (Nat → Int32) × (Nat → Int32) × (Nat → Int32) × (Nat → Int32) × (Nat → Int32) × (Nat → Int32) × (Nat → Int32) × (Nat → Int32)) :=
  if t_p ≤ x22 then (kk14 x21) else (p_b1 (fX9_cubeAt t_p u9 x22) (fun v24 =>
if v24 = 0 then (jX9_curve_50 x21 x22 rec14 1) else (p_b1 (fX9_rootOf t_p v24) (fun v28 =>
if v28 < 0 then (jX9_curve_50 x21 x22 rec14 0) else (jX9_curve_50 x21 x22 rec14 2)))))
noncomputable def gX9_curve_14 (t_p : Int32) (u9 : (Nat → Int32)) (kk14 : Int32 → Option (Int32 × Int32 × Int32 × Int32 × Int32 × Int32 × Int32 × Int32 × (Nat → Int32) × (Nat → Int32) × (Nat → Int32) × (Nat → Int32) × (Nat → Int32) × (Nat → Int32) × (Nat → Int32) × (Nat → Int32) × (Nat → Int32) × (Nat → Int32) × (Nat → Int32) × (Nat → Int32))) (n : Nat) : Int32 → Int32 → Option (Int32 × Int32 × Int32 × Int32 × Int32 × Int32 × Int32 × Int32 × (Nat → Int32) × (Nat → Int32) × (Nat → Int32) × (Nat → Int32) × (Nat → Int32) × (Nat → Int32) × (Nat → Int32) × (Nat → Int32) × (Nat → Int32) × (Nat → Int32) × (Nat → Int32) × (Nat → Int32)) := Nat.rec (motive := fun _ => Int32 → Int32 → Option (Int32 × Int32 × Int32 × Int32 × Int32 × Int32 × Int32 × Int32 × (Nat → Int32) × (Nat → Int32) × (Nat → Int32) × (Nat → Int32) × (Nat → Int32) × (Nat → Int32) × (Nat → Int32) × (Nat → Int32) × (Nat → Int32) × (Nat → Int32) × (Nat → Int32) × (Nat → Int32))) (fun _ _ => none) (fun _ rec14 => FgX9_curve_14 t_p u9 rec14 kk14) n
noncomputable def fX9_curve (t_flags : Int32) (t_formX : Int32) (t_formY : Int32) (t_formZ : Int32) (t_isGood : Int32) (t_isLaid : Int32) (t_p : Int32) (t_points : Int32) (t_c_r : (Nat → Int32)) (t_cofactor_r : (Nat → Int32)) (t_flagPoint_r : (Nat → Int32)) (t_flagU_r : (Nat → Int32)) (t_flagV_r : (Nat → Int32)) (t_flagW_r : (Nat → Int32)) (t_given_r : (Nat → Int32)) (t_next_r : (Nat → Int32)) (t_pointFlags_r : (Nat → Int32)) (t_pointX_r : (Nat → Int32)) (t_pointY_r : (Nat → Int32)) (t_pointZ_r : (Nat → Int32)) (t_series_r : (Nat → Int32)) : Option (Int32 × Int32 × Int32 × Int32 × Int32 × Int32 × Int32 × Int32 × (Nat → Int32) × (Nat → Int32) × (Nat → Int32) × (Nat → Int32) × (Nat → Int32) × (Nat → Int32) × (Nat → Int32) × (Nat → Int32) × (Nat → Int32) × (Nat → Int32) × (Nat → Int32) × (Nat → Int32)) :=
  p_b20 (fX9_isGood t_flags t_formX t_formY t_formZ t_isGood t_isLaid t_p t_points t_c_r t_cofactor_r t_flagPoint_r t_flagU_r t_flagV_r t_flagW_r t_given_r t_next_r t_pointFlags_r t_pointX_r t_pointY_r t_pointZ_r t_series_r) (fun v1 v2 v3 v4 v5 v6 v7 v8 u9 u10 u11 u12 u13 u14 u15 u16 u17 u18 u19 u20 =>
if v1 = 0 then (some ((-5), v2, v3, v4, v5, v6, v7, v8, u9, u10, u11, u12, u13, u14, u15, u16, u17, u18, u19, u20)) else (gX9_curve_14 t_p u9 (kX9_curve_58 v2 v3 v4 v5 v6 v7 v8 u9 u10 u11 u12 u13 u14 u15 u16 u17 u18 u19 u20) p_FU 1 0))
def rmX9_curve : Room := { frames := 6, cells := 0, slots := 0, locals := 146 }
set_option maxHeartbeats 4000000 in
set_option maxRecDepth 100000 in
theorem tX9_curve (l : Launch) (D : va_G) (cI : ClassId) (a_t : Nat) (a_t_given : Nat) (a_t_c : Nat) (a_t_pointX : Nat) (a_t_pointY : Nat) (a_t_pointZ : Nat) (a_t_pointFlags : Nat) (a_t_flagPoint : Nat) (a_t_flagU : Nat) (a_t_flagV : Nat) (a_t_flagW : Nat) (a_t_next : Nat) (a_t_series : Nat) (a_t_mix : Nat) (a_t_cofactor : Nat) (a_t_square : Nat) (t_p : Int32) (t_isLaid : Int32) (t_isGood : Int32) (t_points : Int32) (t_flags : Int32) (t_formX : Int32) (t_formY : Int32) (t_formZ : Int32) (t_isNought : Int32) (t_sumT : Int32) (t_sumY : Int32) (t_c_r : (Nat → Int32)) (t_cofactor_r : (Nat → Int32)) (t_flagPoint_r : (Nat → Int32)) (t_flagU_r : (Nat → Int32)) (t_flagV_r : (Nat → Int32)) (t_flagW_r : (Nat → Int32)) (t_given_r : (Nat → Int32)) (t_next_r : (Nat → Int32)) (t_pointFlags_r : (Nat → Int32)) (t_pointX_r : (Nat → Int32)) (t_pointY_r : (Nat → Int32)) (t_pointZ_r : (Nat → Int32)) (t_series_r : (Nat → Int32)) (r : Int32) (s_t_flags : Int32) (s_t_formX : Int32) (s_t_formY : Int32) (s_t_formZ : Int32) (s_t_isGood : Int32) (s_t_isLaid : Int32) (s_t_points : Int32) (s_t_c_r : (Nat → Int32)) (s_t_cofactor_r : (Nat → Int32)) (s_t_flagPoint_r : (Nat → Int32)) (s_t_flagU_r : (Nat → Int32)) (s_t_flagV_r : (Nat → Int32)) (s_t_flagW_r : (Nat → Int32)) (s_t_next_r : (Nat → Int32)) (s_t_pointFlags_r : (Nat → Int32)) (s_t_pointX_r : (Nat → Int32)) (s_t_pointY_r : (Nat → Int32)) (s_t_pointZ_r : (Nat → Int32)) (s_t_series_r : (Nat → Int32)) (hf : fX9_curve t_flags t_formX t_formY t_formZ t_isGood t_isLaid t_p t_points t_c_r t_cofactor_r t_flagPoint_r t_flagU_r t_flagV_r t_flagW_r t_given_r t_next_r t_pointFlags_r t_pointX_r t_pointY_r t_pointZ_r t_series_r = some (r, s_t_flags, s_t_formX, s_t_formY, s_t_formZ, s_t_isGood, s_t_isLaid, s_t_points, s_t_c_r, s_t_cofactor_r, s_t_flagPoint_r, s_t_flagU_r, s_t_flagV_r, s_t_flagW_r, s_t_next_r, s_t_pointFlags_r, s_t_pointX_r, s_t_pointY_r, s_t_pointZ_r, s_t_series_r)) : x_CI l D cI yX9_curve wsX9_curve rmX9_curve [.ref a_t] [x_o9 a_t t_p a_t_given t_isLaid t_isGood a_t_c t_points a_t_pointX a_t_pointY a_t_pointZ a_t_pointFlags t_flags a_t_flagPoint a_t_flagU a_t_flagV a_t_flagW a_t_next a_t_series a_t_mix a_t_cofactor t_formX t_formY t_formZ a_t_square t_isNought t_sumT t_sumY, x_ar cI a_t_c 4 t_c_r, x_ar cI a_t_cofactor 6 t_cofactor_r, x_ar cI a_t_flagPoint 400 t_flagPoint_r, x_ar cI a_t_flagU 400 t_flagU_r, x_ar cI a_t_flagV 400 t_flagV_r, x_ar cI a_t_flagW 400 t_flagW_r, x_ar cI a_t_given 12 t_given_r, x_ar cI a_t_next 400 t_next_r, x_ar cI a_t_pointFlags 200 t_pointFlags_r, x_ar cI a_t_pointX 200 t_pointX_r, x_ar cI a_t_pointY 200 t_pointY_r, x_ar cI a_t_pointZ 200 t_pointZ_r, x_ar cI a_t_series 32 t_series_r] [x_o9 a_t t_p a_t_given s_t_isLaid s_t_isGood a_t_c s_t_points a_t_pointX a_t_pointY a_t_pointZ a_t_pointFlags s_t_flags a_t_flagPoint a_t_flagU a_t_flagV a_t_flagW a_t_next a_t_series a_t_mix a_t_cofactor s_t_formX s_t_formY s_t_formZ a_t_square t_isNought t_sumT t_sumY, x_ar cI a_t_c 4 s_t_c_r, x_ar cI a_t_cofactor 6 s_t_cofactor_r, x_ar cI a_t_flagPoint 400 s_t_flagPoint_r, x_ar cI a_t_flagU 400 s_t_flagU_r, x_ar cI a_t_flagV 400 s_t_flagV_r, x_ar cI a_t_flagW 400 s_t_flagW_r, x_ar cI a_t_given 12 t_given_r, x_ar cI a_t_next 400 s_t_next_r, x_ar cI a_t_pointFlags 200 s_t_pointFlags_r, x_ar cI a_t_pointX 200 s_t_pointX_r, x_ar cI a_t_pointY 200 s_t_pointY_r, x_ar cI a_t_pointZ 200 s_t_pointZ_r, x_ar cI a_t_series 32 s_t_series_r] r := by
  refine x_CI_of (cc := cX9_curve) (maxL := 4) (ty := .int) (own := RX9) (lv0 := [(0, .ref a_t)]) (by decide) rfl rfl (Nat.le_of_ble_eq_true rfl) rfl ?_
  intro p e s m args below meth c A Q ls hx hb hml hown hts hN hK hP hD hS hA hl hret
  have iX9 : ∀ w ∈ u_ws RX9 TX9 26, w ∈ wsX9_curve := by decide +kernel
  have l7 := hts (.fieldLink RX9 7 "ChordRingsModel" "p" "I") (by decide +kernel)
  unfold fX9_curve at hf
  refine lv_aload_n hx hb dX9_curve_0 rfl (lv_at hl 0 rfl) ?_
  obtain ⟨v1, v2, v3, v4, v5, v6, v7, v8, u9, u10, u11, u12, u13, u14, u15, u16, u17, u18, u19, u20, hv1, hf⟩ := o_b20 hf
  refine x_vi (rest := []) (W1 := [x_o9 a_t t_p a_t_given v7 v6 a_t_c v8 a_t_pointX a_t_pointY a_t_pointZ a_t_pointFlags v2 a_t_flagPoint a_t_flagU a_t_flagV a_t_flagW a_t_next a_t_series a_t_mix a_t_cofactor v3 v4 v5 a_t_square t_isNought t_sumT t_sumY, x_ar cI a_t_c 4 u9, x_ar cI a_t_cofactor 6 u10, x_ar cI a_t_flagPoint 400 u11, x_ar cI a_t_flagU 400 u12, x_ar cI a_t_flagV 400 u13, x_ar cI a_t_flagW 400 u14, x_ar cI a_t_given 12 t_given_r, x_ar cI a_t_next 400 u15, x_ar cI a_t_pointFlags 200 u16, x_ar cI a_t_pointX 200 u17, x_ar cI a_t_pointY 200 u18, x_ar cI a_t_pointZ 200 u19, x_ar cI a_t_series 32 u20]) ⟨hx, hb, hml, hown, hts⟩ (tX9_isGood l D cI a_t a_t_given a_t_c a_t_pointX a_t_pointY a_t_pointZ a_t_pointFlags a_t_flagPoint a_t_flagU a_t_flagV a_t_flagW a_t_next a_t_series a_t_mix a_t_cofactor a_t_square t_p t_isLaid t_isGood t_points t_flags t_formX t_formY t_formZ t_isNought t_sumT t_sumY t_c_r t_cofactor_r t_flagPoint_r t_flagU_r t_flagV_r t_flagW_r t_given_r t_next_r t_pointFlags_r t_pointX_r t_pointY_r t_pointZ_r t_series_r v1 v2 v3 v4 v5 v6 v7 v8 u9 u10 u11 u12 u13 u14 u15 u16 u17 u18 u19 u20 hv1) (cwV 0 hts gX9_curve_X9_isGood rfl rfl rfl (by decide +kernel) ⟨Nat.le_of_ble_eq_true rfl, Nat.le_of_ble_eq_true rfl⟩) hN hK hP hD hS hA [0, 1, 2, 3, 4, 5, 6, 7, 8, 9, 10, 11, 12, 13] [some 0, some 1, some 2, some 3, some 4, some 5, some 6, some 7, some 8, some 9, some 10, some 11, some 12, some 13] rfl rfl rfl rfl rfl rfl 0 rfl rfl rfl hl.1 rfl (Nat.le_of_ble_eq_true rfl) dX9_curve_1 ⟨Nat.zero_le _, Nat.zero_le _⟩ (fun H locs hP hD hS => ?_)
  refine lv_if_ne (tgt := 10) hx hb dX9_curve_4 (by decide) (fun hc => ?_) (fun hc => ?_)
  · have hf := o_f hf hc
    refine lv_iconst (v := 1) hx hb dX9_curve_10 (by decide) ?_
    refine lv_istore_n (lv' := [(1, .int 1), (0, .ref a_t)]) hx hb dX9_curve_11 rfl hl (by decide) rfl (fun ls hl => ?_)
    refine lv_iconst (v := 0) hx hb dX9_curve_12 (by decide) ?_
    refine lv_istore_n (lv' := [(2, .int 0), (1, .int 1), (0, .ref a_t)]) hx hb dX9_curve_13 rfl hl (by decide) rfl (fun ls hl => ?_)
    have L14 : ∀ (n : Nat) (x21 : Int32) (x22 : Int32) (ls : Array Slot) (H : Heap) (locs : List Loc), gX9_curve_14 t_p u9 (kX9_curve_58 v2 v3 v4 v5 v6 v7 v8 u9 u10 u11 u12 u13 u14 u15 u16 u17 u18 u19 u20) n x21 x22 = some (r, s_t_flags, s_t_formX, s_t_formY, s_t_formZ, s_t_isGood, s_t_isLaid, s_t_points, s_t_c_r, s_t_cofactor_r, s_t_flagPoint_r, s_t_flagU_r, s_t_flagV_r, s_t_flagW_r, s_t_next_r, s_t_pointFlags_r, s_t_pointX_r, s_t_pointY_r, s_t_pointZ_r, s_t_series_r) → lv_has ls 4 [(0, .ref a_t), (1, .int x21), (2, .int x22)] → va_P D vwCl [x_o9 a_t t_p a_t_given v7 v6 a_t_c v8 a_t_pointX a_t_pointY a_t_pointZ a_t_pointFlags v2 a_t_flagPoint a_t_flagU a_t_flagV a_t_flagW a_t_next a_t_series a_t_mix a_t_cofactor v3 v4 v5 a_t_square t_isNought t_sumT t_sumY, x_ar cI a_t_c 4 u9, x_ar cI a_t_cofactor 6 u10, x_ar cI a_t_flagPoint 400 u11, x_ar cI a_t_flagU 400 u12, x_ar cI a_t_flagV 400 u13, x_ar cI a_t_flagW 400 u14, x_ar cI a_t_given 12 t_given_r, x_ar cI a_t_next 400 u15, x_ar cI a_t_pointFlags 200 u16, x_ar cI a_t_pointX 200 u17, x_ar cI a_t_pointY 200 u18, x_ar cI a_t_pointZ 200 u19, x_ar cI a_t_series 32 u20] H → va_D A [x_o9 a_t t_p a_t_given v7 v6 a_t_c v8 a_t_pointX a_t_pointY a_t_pointZ a_t_pointFlags v2 a_t_flagPoint a_t_flagU a_t_flagV a_t_flagW a_t_next a_t_series a_t_mix a_t_cofactor v3 v4 v5 a_t_square t_isNought t_sumT t_sumY, x_ar cI a_t_c 4 u9, x_ar cI a_t_cofactor 6 u10, x_ar cI a_t_flagPoint 400 u11, x_ar cI a_t_flagU 400 u12, x_ar cI a_t_flagV 400 u13, x_ar cI a_t_flagW 400 u14, x_ar cI a_t_given 12 t_given_r, x_ar cI a_t_next 400 u15, x_ar cI a_t_pointFlags 200 u16, x_ar cI a_t_pointX 200 u17, x_ar cI a_t_pointY 200 u18, x_ar cI a_t_pointZ 200 u19, x_ar cI a_t_series 32 u20] → va_S A s.heap H locs → W p l e rmX9_curve s m args below meth c H locs 0 0 Q (F0 m 14 ls []) := by
      intro n14
      induction n14 with
      | zero =>
        intro x21 x22 ls H locs hf
        exact nomatch (show (none : Option (Int32 × Int32 × Int32 × Int32 × Int32 × Int32 × Int32 × Int32 × (Nat → Int32) × (Nat → Int32) × (Nat → Int32) × (Nat → Int32) × (Nat → Int32) × (Nat → Int32) × (Nat → Int32) × (Nat → Int32) × (Nat → Int32) × (Nat → Int32) × (Nat → Int32) × (Nat → Int32))) = some (r, s_t_flags, s_t_formX, s_t_formY, s_t_formZ, s_t_isGood, s_t_isLaid, s_t_points, s_t_c_r, s_t_cofactor_r, s_t_flagPoint_r, s_t_flagU_r, s_t_flagV_r, s_t_flagW_r, s_t_next_r, s_t_pointFlags_r, s_t_pointX_r, s_t_pointY_r, s_t_pointZ_r, s_t_series_r) from hf)
      | succ n14 ih14 =>
        intro x21 x22 ls H locs hf hl hP hD hS
        have hf : FgX9_curve_14 t_p u9 (gX9_curve_14 t_p u9 (kX9_curve_58 v2 v3 v4 v5 v6 v7 v8 u9 u10 u11 u12 u13 u14 u15 u16 u17 u18 u19 u20) n14) (kX9_curve_58 v2 v3 v4 v5 v6 v7 v8 u9 u10 u11 u12 u13 u14 u15 u16 u17 u18 u19 u20) x21 x22 = some (r, s_t_flags, s_t_formX, s_t_formY, s_t_formZ, s_t_isGood, s_t_isLaid, s_t_points, s_t_c_r, s_t_cofactor_r, s_t_flagPoint_r, s_t_flagU_r, s_t_flagV_r, s_t_flagW_r, s_t_next_r, s_t_pointFlags_r, s_t_pointX_r, s_t_pointY_r, s_t_pointZ_r, s_t_series_r) := hf
        unfold FgX9_curve_14 at hf
        refine lv_iload_n hx hb dX9_curve_14 rfl (lv_at hl 2 rfl) ?_
        refine lv_aload_n hx hb dX9_curve_15 rfl (lv_at hl 0 rfl) ?_
        refine va_get (D := D) (ci := 9) (C := RX9) (T := TX9) (N := 26) hx hb hts iX9 hown hK hP 0 rfl rfl 0 (by decide) l7 (fun _ h9 => h9) rfl dX9_curve_16 ?_
        have J58 : ∀ (y23 : Int32) (ls : Array Slot) (H : Heap) (locs : List Loc), kX9_curve_58 v2 v3 v4 v5 v6 v7 v8 u9 u10 u11 u12 u13 u14 u15 u16 u17 u18 u19 u20 y23 = some (r, s_t_flags, s_t_formX, s_t_formY, s_t_formZ, s_t_isGood, s_t_isLaid, s_t_points, s_t_c_r, s_t_cofactor_r, s_t_flagPoint_r, s_t_flagU_r, s_t_flagV_r, s_t_flagW_r, s_t_next_r, s_t_pointFlags_r, s_t_pointX_r, s_t_pointY_r, s_t_pointZ_r, s_t_series_r) → lv_has ls 4 [(1, .int y23)] → va_P D vwCl [x_o9 a_t t_p a_t_given v7 v6 a_t_c v8 a_t_pointX a_t_pointY a_t_pointZ a_t_pointFlags v2 a_t_flagPoint a_t_flagU a_t_flagV a_t_flagW a_t_next a_t_series a_t_mix a_t_cofactor v3 v4 v5 a_t_square t_isNought t_sumT t_sumY, x_ar cI a_t_c 4 u9, x_ar cI a_t_cofactor 6 u10, x_ar cI a_t_flagPoint 400 u11, x_ar cI a_t_flagU 400 u12, x_ar cI a_t_flagV 400 u13, x_ar cI a_t_flagW 400 u14, x_ar cI a_t_given 12 t_given_r, x_ar cI a_t_next 400 u15, x_ar cI a_t_pointFlags 200 u16, x_ar cI a_t_pointX 200 u17, x_ar cI a_t_pointY 200 u18, x_ar cI a_t_pointZ 200 u19, x_ar cI a_t_series 32 u20] H → va_D A [x_o9 a_t t_p a_t_given v7 v6 a_t_c v8 a_t_pointX a_t_pointY a_t_pointZ a_t_pointFlags v2 a_t_flagPoint a_t_flagU a_t_flagV a_t_flagW a_t_next a_t_series a_t_mix a_t_cofactor v3 v4 v5 a_t_square t_isNought t_sumT t_sumY, x_ar cI a_t_c 4 u9, x_ar cI a_t_cofactor 6 u10, x_ar cI a_t_flagPoint 400 u11, x_ar cI a_t_flagU 400 u12, x_ar cI a_t_flagV 400 u13, x_ar cI a_t_flagW 400 u14, x_ar cI a_t_given 12 t_given_r, x_ar cI a_t_next 400 u15, x_ar cI a_t_pointFlags 200 u16, x_ar cI a_t_pointX 200 u17, x_ar cI a_t_pointY 200 u18, x_ar cI a_t_pointZ 200 u19, x_ar cI a_t_series 32 u20] → va_S A s.heap H locs → W p l e rmX9_curve s m args below meth c H locs 0 0 Q (F0 m 58 ls []) := by
          intro y23 ls H locs hf hl hP hD hS
          unfold kX9_curve_58 at hf
          refine lv_iload_n hx hb dX9_curve_58 rfl (lv_at hl 0 rfl) ?_
          obtain ⟨rfl, rfl, rfl, rfl, rfl, rfl, rfl, rfl, rfl, rfl, rfl, rfl, rfl, rfl, rfl, rfl, rfl, rfl, rfl, rfl⟩ := o_s20 hf
          exact hret rfl rfl dX9_curve_59 hP hD hS
        refine lv_icmp_ge (tgt := 58) hx hb dX9_curve_19 (by decide) (fun hc => ?_) (fun hc => ?_)
        · have hf := o_t hf hc
          exact J58 x21 _ _ _ hf (lv_sub hl [1] rfl) hP hD hS
        · have hf := o_f hf hc
          refine lv_aload_n hx hb dX9_curve_22 rfl (lv_at hl 0 rfl) ?_
          refine lv_iload_n hx hb dX9_curve_23 rfl (lv_at hl 2 rfl) ?_
          obtain ⟨v24, hv24, hf⟩ := o_b1 hf
          refine x_vi (rest := []) (W1 := [x_o9 a_t t_p a_t_given v7 v6 a_t_c v8 a_t_pointX a_t_pointY a_t_pointZ a_t_pointFlags v2 a_t_flagPoint a_t_flagU a_t_flagV a_t_flagW a_t_next a_t_series a_t_mix a_t_cofactor v3 v4 v5 a_t_square t_isNought t_sumT t_sumY, x_ar cI a_t_c 4 u9, x_ar cI a_t_cofactor 6 u10, x_ar cI a_t_flagPoint 400 u11, x_ar cI a_t_flagU 400 u12, x_ar cI a_t_flagV 400 u13, x_ar cI a_t_flagW 400 u14, x_ar cI a_t_given 12 t_given_r, x_ar cI a_t_next 400 u15, x_ar cI a_t_pointFlags 200 u16, x_ar cI a_t_pointX 200 u17, x_ar cI a_t_pointY 200 u18, x_ar cI a_t_pointZ 200 u19, x_ar cI a_t_series 32 u20]) ⟨hx, hb, hml, hown, hts⟩ (tX9_cubeAt l D cI a_t a_t_given a_t_c a_t_pointX a_t_pointY a_t_pointZ a_t_pointFlags a_t_flagPoint a_t_flagU a_t_flagV a_t_flagW a_t_next a_t_series a_t_mix a_t_cofactor a_t_square t_p v7 v6 v8 v2 v3 v4 v5 t_isNought t_sumT t_sumY u9 x22 v24 hv24) (cwV 1 hts gX9_curve_X9_cubeAt rfl rfl rfl (by decide +kernel) ⟨Nat.le_of_ble_eq_true rfl, Nat.le_of_ble_eq_true rfl⟩) hN hK hP hD hS hA [0, 1] [some 0, some 1, none, none, none, none, none, none, none, none, none, none, none, none] rfl rfl rfl rfl rfl rfl 0 rfl rfl rfl hl.1 rfl (Nat.le_of_ble_eq_true rfl) dX9_curve_24 ⟨Nat.zero_le _, Nat.zero_le _⟩ (fun H locs hP hD hS => ?_)
          refine lv_istore_n (lv' := [(3, .int v24), (0, .ref a_t), (1, .int x21), (2, .int x22)]) hx hb dX9_curve_27 rfl hl (by decide) rfl (fun ls hl => ?_)
          refine lv_iload_n hx hb dX9_curve_28 rfl (lv_at hl 2 rfl) ?_
          refine lv_iload_n hx hb dX9_curve_29 rfl (lv_at hl 0 rfl) ?_
          have J50 : ∀ (y25 : Int32) (ls : Array Slot) (H : Heap) (locs : List Loc), jX9_curve_50 x21 x22 (gX9_curve_14 t_p u9 (kX9_curve_58 v2 v3 v4 v5 v6 v7 v8 u9 u10 u11 u12 u13 u14 u15 u16 u17 u18 u19 u20) n14) y25 = some (r, s_t_flags, s_t_formX, s_t_formY, s_t_formZ, s_t_isGood, s_t_isLaid, s_t_points, s_t_c_r, s_t_cofactor_r, s_t_flagPoint_r, s_t_flagU_r, s_t_flagV_r, s_t_flagW_r, s_t_next_r, s_t_pointFlags_r, s_t_pointX_r, s_t_pointY_r, s_t_pointZ_r, s_t_series_r) → lv_has ls 4 [(0, .ref a_t), (2, .int x22)] → va_P D vwCl [x_o9 a_t t_p a_t_given v7 v6 a_t_c v8 a_t_pointX a_t_pointY a_t_pointZ a_t_pointFlags v2 a_t_flagPoint a_t_flagU a_t_flagV a_t_flagW a_t_next a_t_series a_t_mix a_t_cofactor v3 v4 v5 a_t_square t_isNought t_sumT t_sumY, x_ar cI a_t_c 4 u9, x_ar cI a_t_cofactor 6 u10, x_ar cI a_t_flagPoint 400 u11, x_ar cI a_t_flagU 400 u12, x_ar cI a_t_flagV 400 u13, x_ar cI a_t_flagW 400 u14, x_ar cI a_t_given 12 t_given_r, x_ar cI a_t_next 400 u15, x_ar cI a_t_pointFlags 200 u16, x_ar cI a_t_pointX 200 u17, x_ar cI a_t_pointY 200 u18, x_ar cI a_t_pointZ 200 u19, x_ar cI a_t_series 32 u20] H → va_D A [x_o9 a_t t_p a_t_given v7 v6 a_t_c v8 a_t_pointX a_t_pointY a_t_pointZ a_t_pointFlags v2 a_t_flagPoint a_t_flagU a_t_flagV a_t_flagW a_t_next a_t_series a_t_mix a_t_cofactor v3 v4 v5 a_t_square t_isNought t_sumT t_sumY, x_ar cI a_t_c 4 u9, x_ar cI a_t_cofactor 6 u10, x_ar cI a_t_flagPoint 400 u11, x_ar cI a_t_flagU 400 u12, x_ar cI a_t_flagV 400 u13, x_ar cI a_t_flagW 400 u14, x_ar cI a_t_given 12 t_given_r, x_ar cI a_t_next 400 u15, x_ar cI a_t_pointFlags 200 u16, x_ar cI a_t_pointX 200 u17, x_ar cI a_t_pointY 200 u18, x_ar cI a_t_pointZ 200 u19, x_ar cI a_t_series 32 u20] → va_S A s.heap H locs → W p l e rmX9_curve s m args below meth c H locs 0 0 Q (F0 m 50 ls [.int y25, .int x21]) := by
            intro y25 ls H locs hf hl hP hD hS
            unfold jX9_curve_50 at hf
            refine lv_iadd hx hb dX9_curve_50 ?_
            obtain ⟨v26, ev26, hf⟩ := o_nm hf
            refine x_top ev26 ?_
            refine lv_istore_n (lv' := [(1, .int v26), (0, .ref a_t), (2, .int x22)]) hx hb dX9_curve_51 rfl hl (by decide) rfl (fun ls hl => ?_)
            obtain ⟨v27, ev27, hf⟩ := o_nm hf
            refine lv_iinc (v := v27) (lv' := [(2, .int v27), (1, .int v26), (0, .ref a_t)]) hx hb dX9_curve_52 hl (k := 2) rfl (by rw [ev27]; rfl) (by decide) rfl (fun ls hl => ?_)
            refine lv_goto (tgt := 14) hx hb dX9_curve_55 (by decide) ?_
            exact ih14 v26 v27 _ _ _ hf (lv_sub hl [2, 1, 0] rfl) hP hD hS
          refine lv_if_ne (tgt := 37) hx hb dX9_curve_30 (by decide) (fun hc => ?_) (fun hc => ?_)
          · have hf := o_f hf hc
            refine lv_aload_n hx hb dX9_curve_37 rfl (lv_at hl 1 rfl) ?_
            refine lv_iload_n hx hb dX9_curve_38 rfl (lv_at hl 0 rfl) ?_
            obtain ⟨v28, hv28, hf⟩ := o_b1 hf
            refine x_vi (rest := [.int x21]) (W1 := [x_o9 a_t t_p a_t_given v7 v6 a_t_c v8 a_t_pointX a_t_pointY a_t_pointZ a_t_pointFlags v2 a_t_flagPoint a_t_flagU a_t_flagV a_t_flagW a_t_next a_t_series a_t_mix a_t_cofactor v3 v4 v5 a_t_square t_isNought t_sumT t_sumY, x_ar cI a_t_c 4 u9, x_ar cI a_t_cofactor 6 u10, x_ar cI a_t_flagPoint 400 u11, x_ar cI a_t_flagU 400 u12, x_ar cI a_t_flagV 400 u13, x_ar cI a_t_flagW 400 u14, x_ar cI a_t_given 12 t_given_r, x_ar cI a_t_next 400 u15, x_ar cI a_t_pointFlags 200 u16, x_ar cI a_t_pointX 200 u17, x_ar cI a_t_pointY 200 u18, x_ar cI a_t_pointZ 200 u19, x_ar cI a_t_series 32 u20]) ⟨hx, hb, hml, hown, hts⟩ (tX9_rootOf l D cI a_t a_t_given a_t_c a_t_pointX a_t_pointY a_t_pointZ a_t_pointFlags a_t_flagPoint a_t_flagU a_t_flagV a_t_flagW a_t_next a_t_series a_t_mix a_t_cofactor a_t_square t_p v7 v6 v8 v2 v3 v4 v5 t_isNought t_sumT t_sumY v24 v28 hv28) (cwV 1 hts gX9_curve_X9_rootOf rfl rfl rfl (by decide +kernel) ⟨Nat.le_of_ble_eq_true rfl, Nat.le_of_ble_eq_true rfl⟩) hN hK hP hD hS hA [0] [some 0, none, none, none, none, none, none, none, none, none, none, none, none, none] rfl rfl rfl rfl rfl rfl 0 rfl rfl rfl hl.1 rfl (Nat.le_of_ble_eq_true rfl) dX9_curve_39 ⟨Nat.zero_le _, Nat.zero_le _⟩ (fun H locs hP hD hS => ?_)
            refine lv_if_lt (tgt := 49) hx hb dX9_curve_42 (by decide) (fun hc => ?_) (fun hc => ?_)
            · have hf := o_t hf hc
              refine lv_iconst (v := 0) hx hb dX9_curve_49 (by decide) ?_
              exact J50 0 _ _ _ hf (lv_sub hl [1, 3] rfl) hP hD hS
            · have hf := o_f hf hc
              refine lv_iconst (v := 2) hx hb dX9_curve_45 (by decide) ?_
              refine lv_goto (tgt := 50) hx hb dX9_curve_46 (by decide) ?_
              exact J50 2 _ _ _ hf (lv_sub hl [1, 3] rfl) hP hD hS
          · have hf := o_t hf hc
            refine lv_iconst (v := 1) hx hb dX9_curve_33 (by decide) ?_
            refine lv_goto (tgt := 50) hx hb dX9_curve_34 (by decide) ?_
            exact J50 1 _ _ _ hf (lv_sub hl [1, 3] rfl) hP hD hS
    exact L14 p_FU 1 0 _ _ _ hf (lv_sub hl [2, 1, 0] rfl) hP hD hS
  · have hf := o_t hf hc
    refine lv_bipush (v := (-5)) hx hb dX9_curve_7 (by decide) ?_
    obtain ⟨rfl, rfl, rfl, rfl, rfl, rfl, rfl, rfl, rfl, rfl, rfl, rfl, rfl, rfl, rfl, rfl, rfl, rfl, rfl, rfl⟩ := o_s20 hf
    exact hret rfl rfl dX9_curve_9 hP hD hS
noncomputable def fX9_chordOf (t_formX : Int32) (t_formY : Int32) (t_formZ : Int32) (t_p : Int32) (t_flagPoint_r : (Nat → Int32)) (t_given_r : (Nat → Int32)) (t_pointX_r : (Nat → Int32)) (t_pointY_r : (Nat → Int32)) (t_pointZ_r : (Nat → Int32)) (i1 : Int32) (i2 : Int32) : Option (Int32 × Int32 × Int32) :=
  p_b1 (p_ld t_flagPoint_r 400 i1) (fun v1 =>
p_b1 (p_ld t_flagPoint_r 400 i2) (fun v2 =>
if v1 = v2 then (p_b1 (p_ld t_pointX_r 200 v1) (fun v3 =>
p_b1 (p_ld t_pointY_r 200 v1) (fun v4 =>
p_b1 (p_ld t_pointZ_r 200 v1) (fun v5 =>
p_b1 (p_ld t_given_r 12 0) (fun v6 =>
p_b1 (p_ld t_given_r 12 5) (fun v7 =>
p_b1 (p_ld t_given_r 12 4) (fun v8 =>
p_b1 (fX9_of t_p (((v6 * v3) + (v7 * v4)) + (v8 * v5))) (fun v9 =>
p_b1 (p_ld t_given_r 12 5) (fun v10 =>
p_b1 (p_ld t_given_r 12 1) (fun v11 =>
p_b1 (p_ld t_given_r 12 3) (fun v12 =>
p_b1 (fX9_of t_p (((v10 * v3) + (v11 * v4)) + (v12 * v5))) (fun v13 =>
p_b1 (p_ld t_given_r 12 4) (fun v14 =>
p_b1 (p_ld t_given_r 12 3) (fun v15 =>
p_b1 (p_ld t_given_r 12 2) (fun v16 =>
p_b1 (fX9_of t_p (((v14 * v3) + (v15 * v4)) + (v16 * v5))) (fun v17 =>
p_b3 (fX9_form t_formX t_formY t_formZ t_p v9 v13 v17) (fun v18 v19 v20 =>
some (v18, v19, v20)))))))))))))))))) else (p_b1 (p_ld t_pointX_r 200 v1) (fun v21 =>
p_b1 (p_ld t_pointY_r 200 v1) (fun v22 =>
p_b1 (p_ld t_pointZ_r 200 v1) (fun v23 =>
p_b1 (p_ld t_pointX_r 200 v2) (fun v24 =>
p_b1 (p_ld t_pointY_r 200 v2) (fun v25 =>
p_b1 (p_ld t_pointZ_r 200 v2) (fun v26 =>
p_b3 (fX9_cross t_formX t_formY t_formZ t_p v21 v22 v23 v24 v25 v26) (fun v27 v28 v29 =>
some (v27, v28, v29)))))))))))
def rmX9_chordOf : Room := { frames := 4, cells := 0, slots := 0, locals := 97 }
set_option maxHeartbeats 4000000 in
set_option maxRecDepth 100000 in
theorem tX9_chordOf (l : Launch) (D : va_G) (cI : ClassId) (a_t : Nat) (a_t_given : Nat) (a_t_c : Nat) (a_t_pointX : Nat) (a_t_pointY : Nat) (a_t_pointZ : Nat) (a_t_pointFlags : Nat) (a_t_flagPoint : Nat) (a_t_flagU : Nat) (a_t_flagV : Nat) (a_t_flagW : Nat) (a_t_next : Nat) (a_t_series : Nat) (a_t_mix : Nat) (a_t_cofactor : Nat) (a_t_square : Nat) (t_p : Int32) (t_isLaid : Int32) (t_isGood : Int32) (t_points : Int32) (t_flags : Int32) (t_formX : Int32) (t_formY : Int32) (t_formZ : Int32) (t_isNought : Int32) (t_sumT : Int32) (t_sumY : Int32) (t_flagPoint_r : (Nat → Int32)) (t_given_r : (Nat → Int32)) (t_pointX_r : (Nat → Int32)) (t_pointY_r : (Nat → Int32)) (t_pointZ_r : (Nat → Int32)) (i1 : Int32) (i2 : Int32) (s_t_formX : Int32) (s_t_formY : Int32) (s_t_formZ : Int32) (hf : fX9_chordOf t_formX t_formY t_formZ t_p t_flagPoint_r t_given_r t_pointX_r t_pointY_r t_pointZ_r i1 i2 = some (s_t_formX, s_t_formY, s_t_formZ)) : x_CV l D cI yX9_chordOf wsX9_chordOf rmX9_chordOf [.ref a_t, .int i1, .int i2] [x_o9 a_t t_p a_t_given t_isLaid t_isGood a_t_c t_points a_t_pointX a_t_pointY a_t_pointZ a_t_pointFlags t_flags a_t_flagPoint a_t_flagU a_t_flagV a_t_flagW a_t_next a_t_series a_t_mix a_t_cofactor t_formX t_formY t_formZ a_t_square t_isNought t_sumT t_sumY, x_ar cI a_t_flagPoint 400 t_flagPoint_r, x_ar cI a_t_given 12 t_given_r, x_ar cI a_t_pointX 200 t_pointX_r, x_ar cI a_t_pointY 200 t_pointY_r, x_ar cI a_t_pointZ 200 t_pointZ_r] [x_o9 a_t t_p a_t_given t_isLaid t_isGood a_t_c t_points a_t_pointX a_t_pointY a_t_pointZ a_t_pointFlags t_flags a_t_flagPoint a_t_flagU a_t_flagV a_t_flagW a_t_next a_t_series a_t_mix a_t_cofactor s_t_formX s_t_formY s_t_formZ a_t_square t_isNought t_sumT t_sumY, x_ar cI a_t_flagPoint 400 t_flagPoint_r, x_ar cI a_t_given 12 t_given_r, x_ar cI a_t_pointX 200 t_pointX_r, x_ar cI a_t_pointY 200 t_pointY_r, x_ar cI a_t_pointZ 200 t_pointZ_r] := by
  refine x_CV_of (cc := cX9_chordOf) (maxL := 8) (own := RX9) (lv0 := [(0, .ref a_t), (1, .int i1), (2, .int i2)]) (by decide) rfl rfl (Nat.le_of_ble_eq_true rfl) rfl ?_
  intro p e s m args below meth c A Q ls hx hb hml hown hts hN hK hP hD hS hA hl hret
  have iX9 : ∀ w ∈ u_ws RX9 TX9 26, w ∈ wsX9_chordOf := by decide +kernel
  have l32 := hts (.fieldLink RX9 32 "ChordRingsModel" "flagPoint" "[I") (by decide +kernel)
  have l20 := hts (.fieldLink RX9 20 "ChordRingsModel" "pointX" "[I") (by decide +kernel)
  have l23 := hts (.fieldLink RX9 23 "ChordRingsModel" "pointY" "[I") (by decide +kernel)
  have l26 := hts (.fieldLink RX9 26 "ChordRingsModel" "pointZ" "[I") (by decide +kernel)
  have l13 := hts (.fieldLink RX9 13 "ChordRingsModel" "given" "[I") (by decide +kernel)
  unfold fX9_chordOf at hf
  refine lv_aload_n hx hb dX9_chordOf_0 rfl (lv_at hl 0 rfl) ?_
  refine va_get (D := D) (ci := 9) (C := RX9) (T := TX9) (N := 26) hx hb hts iX9 hown hK hP 0 rfl rfl 11 (by decide) l32 (fun _ h9 => h9) rfl dX9_chordOf_1 ?_
  refine lv_iload_n hx hb dX9_chordOf_4 rfl (lv_at hl 1 rfl) ?_
  obtain ⟨v1, hv1, hf⟩ := o_b1 hf
  refine x_ald hx hb hK hP 1 rfl hv1 dX9_chordOf_5 ?_
  refine lv_istore_n (lv' := [(3, .int v1), (0, .ref a_t), (1, .int i1), (2, .int i2)]) hx hb dX9_chordOf_6 rfl hl (by decide) rfl (fun ls hl => ?_)
  refine lv_aload_n hx hb dX9_chordOf_7 rfl (lv_at hl 1 rfl) ?_
  refine va_get (D := D) (ci := 9) (C := RX9) (T := TX9) (N := 26) hx hb hts iX9 hown hK hP 0 rfl rfl 11 (by decide) l32 (fun _ h9 => h9) rfl dX9_chordOf_8 ?_
  refine lv_iload_n hx hb dX9_chordOf_11 rfl (lv_at hl 3 rfl) ?_
  obtain ⟨v2, hv2, hf⟩ := o_b1 hf
  refine x_ald hx hb hK hP 1 rfl hv2 dX9_chordOf_12 ?_
  refine lv_istore (lv' := [(4, .int v2), (3, .int v1), (0, .ref a_t), (1, .int i1), (2, .int i2)]) hx hb dX9_chordOf_13 hl (by decide) rfl (fun ls hl => ?_)
  refine lv_iload_n hx hb dX9_chordOf_15 rfl (lv_at hl 1 rfl) ?_
  refine lv_iload hx hb dX9_chordOf_16 (lv_at hl 0 rfl) ?_
  refine lv_icmp_eq (tgt := 65) hx hb dX9_chordOf_18 (by decide) (fun hc => ?_) (fun hc => ?_)
  · have hf := o_t hf hc
    refine lv_aload_n hx hb dX9_chordOf_65 rfl (lv_at hl 2 rfl) ?_
    refine va_get (D := D) (ci := 9) (C := RX9) (T := TX9) (N := 26) hx hb hts iX9 hown hK hP 0 rfl rfl 6 (by decide) l20 (fun _ h9 => h9) rfl dX9_chordOf_66 ?_
    refine lv_iload_n hx hb dX9_chordOf_69 rfl (lv_at hl 1 rfl) ?_
    obtain ⟨v3, hv3, hf⟩ := o_b1 hf
    refine x_ald hx hb hK hP 3 rfl hv3 dX9_chordOf_70 ?_
    refine lv_istore (lv' := [(5, .int v3), (4, .int v2), (3, .int v1), (0, .ref a_t), (1, .int i1), (2, .int i2)]) hx hb dX9_chordOf_71 hl (by decide) rfl (fun ls hl => ?_)
    refine lv_aload_n hx hb dX9_chordOf_73 rfl (lv_at hl 3 rfl) ?_
    refine va_get (D := D) (ci := 9) (C := RX9) (T := TX9) (N := 26) hx hb hts iX9 hown hK hP 0 rfl rfl 7 (by decide) l23 (fun _ h9 => h9) rfl dX9_chordOf_74 ?_
    refine lv_iload_n hx hb dX9_chordOf_77 rfl (lv_at hl 2 rfl) ?_
    obtain ⟨v4, hv4, hf⟩ := o_b1 hf
    refine x_ald hx hb hK hP 4 rfl hv4 dX9_chordOf_78 ?_
    refine lv_istore (lv' := [(6, .int v4), (5, .int v3), (4, .int v2), (3, .int v1), (0, .ref a_t), (1, .int i1), (2, .int i2)]) hx hb dX9_chordOf_79 hl (by decide) rfl (fun ls hl => ?_)
    refine lv_aload_n hx hb dX9_chordOf_81 rfl (lv_at hl 4 rfl) ?_
    refine va_get (D := D) (ci := 9) (C := RX9) (T := TX9) (N := 26) hx hb hts iX9 hown hK hP 0 rfl rfl 8 (by decide) l26 (fun _ h9 => h9) rfl dX9_chordOf_82 ?_
    refine lv_iload_n hx hb dX9_chordOf_85 rfl (lv_at hl 3 rfl) ?_
    obtain ⟨v5, hv5, hf⟩ := o_b1 hf
    refine x_ald hx hb hK hP 5 rfl hv5 dX9_chordOf_86 ?_
    refine lv_istore (lv' := [(7, .int v5), (6, .int v4), (5, .int v3), (4, .int v2), (3, .int v1), (0, .ref a_t), (1, .int i1), (2, .int i2)]) hx hb dX9_chordOf_87 hl (by decide) rfl (fun ls hl => ?_)
    refine lv_aload_n hx hb dX9_chordOf_89 rfl (lv_at hl 5 rfl) ?_
    refine lv_aload_n hx hb dX9_chordOf_90 rfl (lv_at hl 5 rfl) ?_
    refine lv_aload_n hx hb dX9_chordOf_91 rfl (lv_at hl 5 rfl) ?_
    refine va_get (D := D) (ci := 9) (C := RX9) (T := TX9) (N := 26) hx hb hts iX9 hown hK hP 0 rfl rfl 1 (by decide) l13 (fun _ h9 => h9) rfl dX9_chordOf_92 ?_
    refine lv_iconst (v := 0) hx hb dX9_chordOf_95 (by decide) ?_
    obtain ⟨v6, hv6, hf⟩ := o_b1 hf
    refine x_ald hx hb hK hP 2 rfl hv6 dX9_chordOf_96 ?_
    refine lv_iload hx hb dX9_chordOf_97 (lv_at hl 2 rfl) ?_
    refine lv_imul hx hb dX9_chordOf_99 ?_
    refine lv_aload_n hx hb dX9_chordOf_100 rfl (lv_at hl 5 rfl) ?_
    refine va_get (D := D) (ci := 9) (C := RX9) (T := TX9) (N := 26) hx hb hts iX9 hown hK hP 0 rfl rfl 1 (by decide) l13 (fun _ h9 => h9) rfl dX9_chordOf_101 ?_
    refine lv_iconst (v := 5) hx hb dX9_chordOf_104 (by decide) ?_
    obtain ⟨v7, hv7, hf⟩ := o_b1 hf
    refine x_ald hx hb hK hP 2 rfl hv7 dX9_chordOf_105 ?_
    refine lv_iload hx hb dX9_chordOf_106 (lv_at hl 1 rfl) ?_
    refine lv_imul hx hb dX9_chordOf_108 ?_
    refine lv_iadd hx hb dX9_chordOf_109 ?_
    refine lv_aload_n hx hb dX9_chordOf_110 rfl (lv_at hl 5 rfl) ?_
    refine va_get (D := D) (ci := 9) (C := RX9) (T := TX9) (N := 26) hx hb hts iX9 hown hK hP 0 rfl rfl 1 (by decide) l13 (fun _ h9 => h9) rfl dX9_chordOf_111 ?_
    refine lv_iconst (v := 4) hx hb dX9_chordOf_114 (by decide) ?_
    obtain ⟨v8, hv8, hf⟩ := o_b1 hf
    refine x_ald hx hb hK hP 2 rfl hv8 dX9_chordOf_115 ?_
    refine lv_iload hx hb dX9_chordOf_116 (lv_at hl 0 rfl) ?_
    refine lv_imul hx hb dX9_chordOf_118 ?_
    refine lv_iadd hx hb dX9_chordOf_119 ?_
    obtain ⟨v9, hv9, hf⟩ := o_b1 hf
    refine x_vi (rest := [.ref a_t]) (W1 := [x_o9 a_t t_p a_t_given t_isLaid t_isGood a_t_c t_points a_t_pointX a_t_pointY a_t_pointZ a_t_pointFlags t_flags a_t_flagPoint a_t_flagU a_t_flagV a_t_flagW a_t_next a_t_series a_t_mix a_t_cofactor t_formX t_formY t_formZ a_t_square t_isNought t_sumT t_sumY, x_ar cI a_t_flagPoint 400 t_flagPoint_r, x_ar cI a_t_given 12 t_given_r, x_ar cI a_t_pointX 200 t_pointX_r, x_ar cI a_t_pointY 200 t_pointY_r, x_ar cI a_t_pointZ 200 t_pointZ_r]) ⟨hx, hb, hml, hown, hts⟩ (tX9_of l D cI a_t a_t_given a_t_c a_t_pointX a_t_pointY a_t_pointZ a_t_pointFlags a_t_flagPoint a_t_flagU a_t_flagV a_t_flagW a_t_next a_t_series a_t_mix a_t_cofactor a_t_square t_p t_isLaid t_isGood t_points t_flags t_formX t_formY t_formZ t_isNought t_sumT t_sumY (((v6 * v3) + (v7 * v4)) + (v8 * v5)) v9 hv9) (cwV 1 hts gX9_chordOf_X9_of rfl rfl rfl (by decide +kernel) ⟨Nat.le_of_ble_eq_true rfl, Nat.le_of_ble_eq_true rfl⟩) hN hK hP hD hS hA [0] [some 0, none, none, none, none, none] rfl rfl rfl rfl rfl rfl 0 rfl rfl rfl hl.1 rfl (Nat.le_of_ble_eq_true rfl) dX9_chordOf_120 ⟨Nat.zero_le _, Nat.zero_le _⟩ (fun H locs hP hD hS => ?_)
    refine lv_aload_n hx hb dX9_chordOf_123 rfl (lv_at hl 5 rfl) ?_
    refine lv_aload_n hx hb dX9_chordOf_124 rfl (lv_at hl 5 rfl) ?_
    refine va_get (D := D) (ci := 9) (C := RX9) (T := TX9) (N := 26) hx hb hts iX9 hown hK hP 0 rfl rfl 1 (by decide) l13 (fun _ h9 => h9) rfl dX9_chordOf_125 ?_
    refine lv_iconst (v := 5) hx hb dX9_chordOf_128 (by decide) ?_
    obtain ⟨v10, hv10, hf⟩ := o_b1 hf
    refine x_ald hx hb hK hP 2 rfl hv10 dX9_chordOf_129 ?_
    refine lv_iload hx hb dX9_chordOf_130 (lv_at hl 2 rfl) ?_
    refine lv_imul hx hb dX9_chordOf_132 ?_
    refine lv_aload_n hx hb dX9_chordOf_133 rfl (lv_at hl 5 rfl) ?_
    refine va_get (D := D) (ci := 9) (C := RX9) (T := TX9) (N := 26) hx hb hts iX9 hown hK hP 0 rfl rfl 1 (by decide) l13 (fun _ h9 => h9) rfl dX9_chordOf_134 ?_
    refine lv_iconst (v := 1) hx hb dX9_chordOf_137 (by decide) ?_
    obtain ⟨v11, hv11, hf⟩ := o_b1 hf
    refine x_ald hx hb hK hP 2 rfl hv11 dX9_chordOf_138 ?_
    refine lv_iload hx hb dX9_chordOf_139 (lv_at hl 1 rfl) ?_
    refine lv_imul hx hb dX9_chordOf_141 ?_
    refine lv_iadd hx hb dX9_chordOf_142 ?_
    refine lv_aload_n hx hb dX9_chordOf_143 rfl (lv_at hl 5 rfl) ?_
    refine va_get (D := D) (ci := 9) (C := RX9) (T := TX9) (N := 26) hx hb hts iX9 hown hK hP 0 rfl rfl 1 (by decide) l13 (fun _ h9 => h9) rfl dX9_chordOf_144 ?_
    refine lv_iconst (v := 3) hx hb dX9_chordOf_147 (by decide) ?_
    obtain ⟨v12, hv12, hf⟩ := o_b1 hf
    refine x_ald hx hb hK hP 2 rfl hv12 dX9_chordOf_148 ?_
    refine lv_iload hx hb dX9_chordOf_149 (lv_at hl 0 rfl) ?_
    refine lv_imul hx hb dX9_chordOf_151 ?_
    refine lv_iadd hx hb dX9_chordOf_152 ?_
    obtain ⟨v13, hv13, hf⟩ := o_b1 hf
    refine x_vi (rest := [.int v9, .ref a_t]) (W1 := [x_o9 a_t t_p a_t_given t_isLaid t_isGood a_t_c t_points a_t_pointX a_t_pointY a_t_pointZ a_t_pointFlags t_flags a_t_flagPoint a_t_flagU a_t_flagV a_t_flagW a_t_next a_t_series a_t_mix a_t_cofactor t_formX t_formY t_formZ a_t_square t_isNought t_sumT t_sumY, x_ar cI a_t_flagPoint 400 t_flagPoint_r, x_ar cI a_t_given 12 t_given_r, x_ar cI a_t_pointX 200 t_pointX_r, x_ar cI a_t_pointY 200 t_pointY_r, x_ar cI a_t_pointZ 200 t_pointZ_r]) ⟨hx, hb, hml, hown, hts⟩ (tX9_of l D cI a_t a_t_given a_t_c a_t_pointX a_t_pointY a_t_pointZ a_t_pointFlags a_t_flagPoint a_t_flagU a_t_flagV a_t_flagW a_t_next a_t_series a_t_mix a_t_cofactor a_t_square t_p t_isLaid t_isGood t_points t_flags t_formX t_formY t_formZ t_isNought t_sumT t_sumY (((v10 * v3) + (v11 * v4)) + (v12 * v5)) v13 hv13) (cwV 1 hts gX9_chordOf_X9_of rfl rfl rfl (by decide +kernel) ⟨Nat.le_of_ble_eq_true rfl, Nat.le_of_ble_eq_true rfl⟩) hN hK hP hD hS hA [0] [some 0, none, none, none, none, none] rfl rfl rfl rfl rfl rfl 0 rfl rfl rfl hl.1 rfl (Nat.le_of_ble_eq_true rfl) dX9_chordOf_153 ⟨Nat.zero_le _, Nat.zero_le _⟩ (fun H locs hP hD hS => ?_)
    refine lv_aload_n hx hb dX9_chordOf_156 rfl (lv_at hl 5 rfl) ?_
    refine lv_aload_n hx hb dX9_chordOf_157 rfl (lv_at hl 5 rfl) ?_
    refine va_get (D := D) (ci := 9) (C := RX9) (T := TX9) (N := 26) hx hb hts iX9 hown hK hP 0 rfl rfl 1 (by decide) l13 (fun _ h9 => h9) rfl dX9_chordOf_158 ?_
    refine lv_iconst (v := 4) hx hb dX9_chordOf_161 (by decide) ?_
    obtain ⟨v14, hv14, hf⟩ := o_b1 hf
    refine x_ald hx hb hK hP 2 rfl hv14 dX9_chordOf_162 ?_
    refine lv_iload hx hb dX9_chordOf_163 (lv_at hl 2 rfl) ?_
    refine lv_imul hx hb dX9_chordOf_165 ?_
    refine lv_aload_n hx hb dX9_chordOf_166 rfl (lv_at hl 5 rfl) ?_
    refine va_get (D := D) (ci := 9) (C := RX9) (T := TX9) (N := 26) hx hb hts iX9 hown hK hP 0 rfl rfl 1 (by decide) l13 (fun _ h9 => h9) rfl dX9_chordOf_167 ?_
    refine lv_iconst (v := 3) hx hb dX9_chordOf_170 (by decide) ?_
    obtain ⟨v15, hv15, hf⟩ := o_b1 hf
    refine x_ald hx hb hK hP 2 rfl hv15 dX9_chordOf_171 ?_
    refine lv_iload hx hb dX9_chordOf_172 (lv_at hl 1 rfl) ?_
    refine lv_imul hx hb dX9_chordOf_174 ?_
    refine lv_iadd hx hb dX9_chordOf_175 ?_
    refine lv_aload_n hx hb dX9_chordOf_176 rfl (lv_at hl 5 rfl) ?_
    refine va_get (D := D) (ci := 9) (C := RX9) (T := TX9) (N := 26) hx hb hts iX9 hown hK hP 0 rfl rfl 1 (by decide) l13 (fun _ h9 => h9) rfl dX9_chordOf_177 ?_
    refine lv_iconst (v := 2) hx hb dX9_chordOf_180 (by decide) ?_
    obtain ⟨v16, hv16, hf⟩ := o_b1 hf
    refine x_ald hx hb hK hP 2 rfl hv16 dX9_chordOf_181 ?_
    refine lv_iload hx hb dX9_chordOf_182 (lv_at hl 0 rfl) ?_
    refine lv_imul hx hb dX9_chordOf_184 ?_
    refine lv_iadd hx hb dX9_chordOf_185 ?_
    obtain ⟨v17, hv17, hf⟩ := o_b1 hf
    refine x_vi (rest := [.int v13, .int v9, .ref a_t]) (W1 := [x_o9 a_t t_p a_t_given t_isLaid t_isGood a_t_c t_points a_t_pointX a_t_pointY a_t_pointZ a_t_pointFlags t_flags a_t_flagPoint a_t_flagU a_t_flagV a_t_flagW a_t_next a_t_series a_t_mix a_t_cofactor t_formX t_formY t_formZ a_t_square t_isNought t_sumT t_sumY, x_ar cI a_t_flagPoint 400 t_flagPoint_r, x_ar cI a_t_given 12 t_given_r, x_ar cI a_t_pointX 200 t_pointX_r, x_ar cI a_t_pointY 200 t_pointY_r, x_ar cI a_t_pointZ 200 t_pointZ_r]) ⟨hx, hb, hml, hown, hts⟩ (tX9_of l D cI a_t a_t_given a_t_c a_t_pointX a_t_pointY a_t_pointZ a_t_pointFlags a_t_flagPoint a_t_flagU a_t_flagV a_t_flagW a_t_next a_t_series a_t_mix a_t_cofactor a_t_square t_p t_isLaid t_isGood t_points t_flags t_formX t_formY t_formZ t_isNought t_sumT t_sumY (((v14 * v3) + (v15 * v4)) + (v16 * v5)) v17 hv17) (cwV 1 hts gX9_chordOf_X9_of rfl rfl rfl (by decide +kernel) ⟨Nat.le_of_ble_eq_true rfl, Nat.le_of_ble_eq_true rfl⟩) hN hK hP hD hS hA [0] [some 0, none, none, none, none, none] rfl rfl rfl rfl rfl rfl 0 rfl rfl rfl hl.1 rfl (Nat.le_of_ble_eq_true rfl) dX9_chordOf_186 ⟨Nat.zero_le _, Nat.zero_le _⟩ (fun H locs hP hD hS => ?_)
    obtain ⟨v18, v19, v20, hv18, hf⟩ := o_b3 hf
    refine x_vv (rest := []) (W1 := [x_o9 a_t t_p a_t_given t_isLaid t_isGood a_t_c t_points a_t_pointX a_t_pointY a_t_pointZ a_t_pointFlags t_flags a_t_flagPoint a_t_flagU a_t_flagV a_t_flagW a_t_next a_t_series a_t_mix a_t_cofactor v18 v19 v20 a_t_square t_isNought t_sumT t_sumY, x_ar cI a_t_flagPoint 400 t_flagPoint_r, x_ar cI a_t_given 12 t_given_r, x_ar cI a_t_pointX 200 t_pointX_r, x_ar cI a_t_pointY 200 t_pointY_r, x_ar cI a_t_pointZ 200 t_pointZ_r]) ⟨hx, hb, hml, hown, hts⟩ (tX9_form l D cI a_t a_t_given a_t_c a_t_pointX a_t_pointY a_t_pointZ a_t_pointFlags a_t_flagPoint a_t_flagU a_t_flagV a_t_flagW a_t_next a_t_series a_t_mix a_t_cofactor a_t_square t_p t_isLaid t_isGood t_points t_flags t_formX t_formY t_formZ t_isNought t_sumT t_sumY v9 v13 v17 v18 v19 v20 hv18) (cwV 3 hts gX9_chordOf_X9_form rfl rfl rfl (by decide +kernel) ⟨Nat.le_of_ble_eq_true rfl, Nat.le_of_ble_eq_true rfl⟩) hN hK hP hD hS hA [0] [some 0, none, none, none, none, none] rfl rfl rfl rfl rfl rfl 0 rfl rfl rfl hl.1 rfl (Nat.le_of_ble_eq_true rfl) dX9_chordOf_189 ⟨Nat.zero_le _, Nat.zero_le _⟩ (fun H locs hP hD hS => ?_)
    obtain ⟨rfl, rfl, rfl⟩ := o_s3 hf
    exact hret dX9_chordOf_192 hP hD hS
  · have hf := o_f hf hc
    refine lv_aload_n hx hb dX9_chordOf_21 rfl (lv_at hl 2 rfl) ?_
    refine lv_aload_n hx hb dX9_chordOf_22 rfl (lv_at hl 2 rfl) ?_
    refine va_get (D := D) (ci := 9) (C := RX9) (T := TX9) (N := 26) hx hb hts iX9 hown hK hP 0 rfl rfl 6 (by decide) l20 (fun _ h9 => h9) rfl dX9_chordOf_23 ?_
    refine lv_iload_n hx hb dX9_chordOf_26 rfl (lv_at hl 1 rfl) ?_
    obtain ⟨v21, hv21, hf⟩ := o_b1 hf
    refine x_ald hx hb hK hP 3 rfl hv21 dX9_chordOf_27 ?_
    refine lv_aload_n hx hb dX9_chordOf_28 rfl (lv_at hl 2 rfl) ?_
    refine va_get (D := D) (ci := 9) (C := RX9) (T := TX9) (N := 26) hx hb hts iX9 hown hK hP 0 rfl rfl 7 (by decide) l23 (fun _ h9 => h9) rfl dX9_chordOf_29 ?_
    refine lv_iload_n hx hb dX9_chordOf_32 rfl (lv_at hl 1 rfl) ?_
    obtain ⟨v22, hv22, hf⟩ := o_b1 hf
    refine x_ald hx hb hK hP 4 rfl hv22 dX9_chordOf_33 ?_
    refine lv_aload_n hx hb dX9_chordOf_34 rfl (lv_at hl 2 rfl) ?_
    refine va_get (D := D) (ci := 9) (C := RX9) (T := TX9) (N := 26) hx hb hts iX9 hown hK hP 0 rfl rfl 8 (by decide) l26 (fun _ h9 => h9) rfl dX9_chordOf_35 ?_
    refine lv_iload_n hx hb dX9_chordOf_38 rfl (lv_at hl 1 rfl) ?_
    obtain ⟨v23, hv23, hf⟩ := o_b1 hf
    refine x_ald hx hb hK hP 5 rfl hv23 dX9_chordOf_39 ?_
    refine lv_aload_n hx hb dX9_chordOf_40 rfl (lv_at hl 2 rfl) ?_
    refine va_get (D := D) (ci := 9) (C := RX9) (T := TX9) (N := 26) hx hb hts iX9 hown hK hP 0 rfl rfl 6 (by decide) l20 (fun _ h9 => h9) rfl dX9_chordOf_41 ?_
    refine lv_iload hx hb dX9_chordOf_44 (lv_at hl 0 rfl) ?_
    obtain ⟨v24, hv24, hf⟩ := o_b1 hf
    refine x_ald hx hb hK hP 3 rfl hv24 dX9_chordOf_46 ?_
    refine lv_aload_n hx hb dX9_chordOf_47 rfl (lv_at hl 2 rfl) ?_
    refine va_get (D := D) (ci := 9) (C := RX9) (T := TX9) (N := 26) hx hb hts iX9 hown hK hP 0 rfl rfl 7 (by decide) l23 (fun _ h9 => h9) rfl dX9_chordOf_48 ?_
    refine lv_iload hx hb dX9_chordOf_51 (lv_at hl 0 rfl) ?_
    obtain ⟨v25, hv25, hf⟩ := o_b1 hf
    refine x_ald hx hb hK hP 4 rfl hv25 dX9_chordOf_53 ?_
    refine lv_aload_n hx hb dX9_chordOf_54 rfl (lv_at hl 2 rfl) ?_
    refine va_get (D := D) (ci := 9) (C := RX9) (T := TX9) (N := 26) hx hb hts iX9 hown hK hP 0 rfl rfl 8 (by decide) l26 (fun _ h9 => h9) rfl dX9_chordOf_55 ?_
    refine lv_iload hx hb dX9_chordOf_58 (lv_at hl 0 rfl) ?_
    obtain ⟨v26, hv26, hf⟩ := o_b1 hf
    refine x_ald hx hb hK hP 5 rfl hv26 dX9_chordOf_60 ?_
    obtain ⟨v27, v28, v29, hv27, hf⟩ := o_b3 hf
    refine x_vv (rest := []) (W1 := [x_o9 a_t t_p a_t_given t_isLaid t_isGood a_t_c t_points a_t_pointX a_t_pointY a_t_pointZ a_t_pointFlags t_flags a_t_flagPoint a_t_flagU a_t_flagV a_t_flagW a_t_next a_t_series a_t_mix a_t_cofactor v27 v28 v29 a_t_square t_isNought t_sumT t_sumY, x_ar cI a_t_flagPoint 400 t_flagPoint_r, x_ar cI a_t_given 12 t_given_r, x_ar cI a_t_pointX 200 t_pointX_r, x_ar cI a_t_pointY 200 t_pointY_r, x_ar cI a_t_pointZ 200 t_pointZ_r]) ⟨hx, hb, hml, hown, hts⟩ (tX9_cross l D cI a_t a_t_given a_t_c a_t_pointX a_t_pointY a_t_pointZ a_t_pointFlags a_t_flagPoint a_t_flagU a_t_flagV a_t_flagW a_t_next a_t_series a_t_mix a_t_cofactor a_t_square t_p t_isLaid t_isGood t_points t_flags t_formX t_formY t_formZ t_isNought t_sumT t_sumY v21 v22 v23 v24 v25 v26 v27 v28 v29 hv27) (cwV 6 hts gX9_chordOf_X9_cross rfl rfl rfl (by decide +kernel) ⟨Nat.le_of_ble_eq_true rfl, Nat.le_of_ble_eq_true rfl⟩) hN hK hP hD hS hA [0] [some 0, none, none, none, none, none] rfl rfl rfl rfl rfl rfl 0 rfl rfl rfl hl.1 rfl (Nat.le_of_ble_eq_true rfl) dX9_chordOf_61 ⟨Nat.zero_le _, Nat.zero_le _⟩ (fun H locs hP hD hS => ?_)
    obtain ⟨rfl, rfl, rfl⟩ := o_s3 hf
    exact hret dX9_chordOf_64 hP hD hS
noncomputable def jX9_chord_141 (v2 : Int32) (v6 : Int32) (v7 : Int32) (v8 : Int32) (u9 : (Nat → Int32)) (u11 : (Nat → Int32)) (u12 : (Nat → Int32)) (u13 : (Nat → Int32)) (u14 : (Nat → Int32)) (u15 : (Nat → Int32)) (u16 : (Nat → Int32)) (u17 : (Nat → Int32)) (u18 : (Nat → Int32)) (u19 : (Nat → Int32)) (u20 : (Nat → Int32)) (v25 : Int32) (v26 : Int32) (v27 : Int32) (v28 : Int32) (v29 : Int32) (v30 : Int32) (w31 : (Nat → Int32)) (w32 : (Nat → Int32)) (y33 : Int32) : Option (Int32 × Int32 × Int32 × Int32 × Int32 × Int32 × Int32 × Int32 × Int32 × Int32 × Int32 × (Nat → Int32) × (Nat → Int32) × (Nat → Int32) × (Nat → Int32) × (Nat → Int32) × (Nat → Int32) × (Nat → Int32) × (Nat → Int32) × (Nat → Int32) × (Nat → Int32) × (Nat → Int32) × (Nat → Int32) × (Nat → Int32)) :=
  if y33 = 0 then (some (1, v2, v25, v26, v27, v6, v7, v28, v8, v29, v30, u9, w31, u11, u12, u13, u14, w32, u15, u16, u17, u18, u19, u20)) else (some (0, v2, v25, v26, v27, v6, v7, v28, v8, v29, v30, u9, w31, u11, u12, u13, u14, w32, u15, u16, u17, u18, u19, u20))
noncomputable def fX9_chord (t_flags : Int32) (t_formX : Int32) (t_formY : Int32) (t_formZ : Int32) (t_isGood : Int32) (t_isLaid : Int32) (t_isNought : Int32) (t_p : Int32) (t_points : Int32) (t_sumT : Int32) (t_sumY : Int32) (t_c_r : (Nat → Int32)) (t_cofactor_r : (Nat → Int32)) (t_flagPoint_r : (Nat → Int32)) (t_flagU_r : (Nat → Int32)) (t_flagV_r : (Nat → Int32)) (t_flagW_r : (Nat → Int32)) (t_given_r : (Nat → Int32)) (t_mix_r : (Nat → Int32)) (t_next_r : (Nat → Int32)) (t_pointFlags_r : (Nat → Int32)) (t_pointX_r : (Nat → Int32)) (t_pointY_r : (Nat → Int32)) (t_pointZ_r : (Nat → Int32)) (t_series_r : (Nat → Int32)) (i1 : Int32) (i2 : Int32) (i3 : Int32) : Option (Int32 × Int32 × Int32 × Int32 × Int32 × Int32 × Int32 × Int32 × Int32 × Int32 × Int32 × (Nat → Int32) × (Nat → Int32) × (Nat → Int32) × (Nat → Int32) × (Nat → Int32) × (Nat → Int32) × (Nat → Int32) × (Nat → Int32) × (Nat → Int32) × (Nat → Int32) × (Nat → Int32) × (Nat → Int32) × (Nat → Int32)) :=
  p_b20 (fX9_isGood t_flags t_formX t_formY t_formZ t_isGood t_isLaid t_p t_points t_c_r t_cofactor_r t_flagPoint_r t_flagU_r t_flagV_r t_flagW_r t_given_r t_next_r t_pointFlags_r t_pointX_r t_pointY_r t_pointZ_r t_series_r) (fun v1 v2 v3 v4 v5 v6 v7 v8 u9 u10 u11 u12 u13 u14 u15 u16 u17 u18 u19 u20 =>
if v1 = 0 then (some ((-5), v2, v3, v4, v5, v6, v7, t_isNought, v8, t_sumT, t_sumY, u9, u10, u11, u12, u13, u14, t_mix_r, u15, u16, u17, u18, u19, u20)) else (p_b1 (fX9_isFlag v2 i1) (fun v21 =>
if v21 = 0 then (some ((-1), v2, v3, v4, v5, v6, v7, t_isNought, v8, t_sumT, t_sumY, u9, u10, u11, u12, u13, u14, t_mix_r, u15, u16, u17, u18, u19, u20)) else (p_b1 (fX9_in i2 0 1000) (fun v22 =>
if v22 = 0 then (some ((-2), v2, v3, v4, v5, v6, v7, t_isNought, v8, t_sumT, t_sumY, u9, u10, u11, u12, u13, u14, t_mix_r, u15, u16, u17, u18, u19, u20)) else (p_b1 (fX9_in i3 0 3) (fun v23 =>
if v23 = 0 then (some ((-2), v2, v3, v4, v5, v6, v7, t_isNought, v8, t_sumT, t_sumY, u9, u10, u11, u12, u13, u14, t_mix_r, u15, u16, u17, u18, u19, u20)) else (p_b1 (fX9_onFrom u15 i1 i2) (fun v24 =>
p_b3 (fX9_chordOf v3 v4 v5 t_p u11 t_given_r u17 u18 u19 i1 v24) (fun v25 v26 v27 =>
if 3 ≤ i3 then (p_b3 (fX9_multipleOf t_isNought t_p t_sumT t_sumY u9 i2) (fun v28 v29 v30 =>
if v28 = 0 then (p_b3 (fX9_touching t_p u10 t_given_r t_mix_r v29 1 v25 v26 v27) (fun v34 u35 u36 =>
jX9_chord_141 v2 v6 v7 v8 u9 u11 u12 u13 u14 u15 u16 u17 u18 u19 u20 v25 v26 v27 v28 v29 v30 u35 u36 v34)) else (p_b3 (fX9_touching t_p u10 t_given_r t_mix_r 1 0 v25 v26 v27) (fun v37 u38 u39 =>
jX9_chord_141 v2 v6 v7 v8 u9 u11 u12 u13 u14 u15 u16 u17 u18 u19 u20 v25 v26 v27 v28 v29 v30 u38 u39 v37)))) else (if i3 = 0 then (some (v25, v2, v25, v26, v27, v6, v7, t_isNought, v8, t_sumT, t_sumY, u9, u10, u11, u12, u13, u14, t_mix_r, u15, u16, u17, u18, u19, u20)) else (if i3 = 1 then (some (v26, v2, v25, v26, v27, v6, v7, t_isNought, v8, t_sumT, t_sumY, u9, u10, u11, u12, u13, u14, t_mix_r, u15, u16, u17, u18, u19, u20)) else (some (v27, v2, v25, v26, v27, v6, v7, t_isNought, v8, t_sumT, t_sumY, u9, u10, u11, u12, u13, u14, t_mix_r, u15, u16, u17, u18, u19, u20))))))))))))))
def rmX9_chord : Room := { frames := 6, cells := 0, slots := 0, locals := 146 }
set_option maxHeartbeats 4000000 in
set_option maxRecDepth 100000 in
theorem tX9_chord (l : Launch) (D : va_G) (cI : ClassId) (a_t : Nat) (a_t_given : Nat) (a_t_c : Nat) (a_t_pointX : Nat) (a_t_pointY : Nat) (a_t_pointZ : Nat) (a_t_pointFlags : Nat) (a_t_flagPoint : Nat) (a_t_flagU : Nat) (a_t_flagV : Nat) (a_t_flagW : Nat) (a_t_next : Nat) (a_t_series : Nat) (a_t_mix : Nat) (a_t_cofactor : Nat) (a_t_square : Nat) (t_p : Int32) (t_isLaid : Int32) (t_isGood : Int32) (t_points : Int32) (t_flags : Int32) (t_formX : Int32) (t_formY : Int32) (t_formZ : Int32) (t_isNought : Int32) (t_sumT : Int32) (t_sumY : Int32) (t_c_r : (Nat → Int32)) (t_cofactor_r : (Nat → Int32)) (t_flagPoint_r : (Nat → Int32)) (t_flagU_r : (Nat → Int32)) (t_flagV_r : (Nat → Int32)) (t_flagW_r : (Nat → Int32)) (t_given_r : (Nat → Int32)) (t_mix_r : (Nat → Int32)) (t_next_r : (Nat → Int32)) (t_pointFlags_r : (Nat → Int32)) (t_pointX_r : (Nat → Int32)) (t_pointY_r : (Nat → Int32)) (t_pointZ_r : (Nat → Int32)) (t_series_r : (Nat → Int32)) (i1 : Int32) (i2 : Int32) (i3 : Int32) (r : Int32) (s_t_flags : Int32) (s_t_formX : Int32) (s_t_formY : Int32) (s_t_formZ : Int32) (s_t_isGood : Int32) (s_t_isLaid : Int32) (s_t_isNought : Int32) (s_t_points : Int32) (s_t_sumT : Int32) (s_t_sumY : Int32) (s_t_c_r : (Nat → Int32)) (s_t_cofactor_r : (Nat → Int32)) (s_t_flagPoint_r : (Nat → Int32)) (s_t_flagU_r : (Nat → Int32)) (s_t_flagV_r : (Nat → Int32)) (s_t_flagW_r : (Nat → Int32)) (s_t_mix_r : (Nat → Int32)) (s_t_next_r : (Nat → Int32)) (s_t_pointFlags_r : (Nat → Int32)) (s_t_pointX_r : (Nat → Int32)) (s_t_pointY_r : (Nat → Int32)) (s_t_pointZ_r : (Nat → Int32)) (s_t_series_r : (Nat → Int32)) (hf : fX9_chord t_flags t_formX t_formY t_formZ t_isGood t_isLaid t_isNought t_p t_points t_sumT t_sumY t_c_r t_cofactor_r t_flagPoint_r t_flagU_r t_flagV_r t_flagW_r t_given_r t_mix_r t_next_r t_pointFlags_r t_pointX_r t_pointY_r t_pointZ_r t_series_r i1 i2 i3 = some (r, s_t_flags, s_t_formX, s_t_formY, s_t_formZ, s_t_isGood, s_t_isLaid, s_t_isNought, s_t_points, s_t_sumT, s_t_sumY, s_t_c_r, s_t_cofactor_r, s_t_flagPoint_r, s_t_flagU_r, s_t_flagV_r, s_t_flagW_r, s_t_mix_r, s_t_next_r, s_t_pointFlags_r, s_t_pointX_r, s_t_pointY_r, s_t_pointZ_r, s_t_series_r)) : x_CI l D cI yX9_chord wsX9_chord rmX9_chord [.ref a_t, .int i1, .int i2, .int i3] [x_o9 a_t t_p a_t_given t_isLaid t_isGood a_t_c t_points a_t_pointX a_t_pointY a_t_pointZ a_t_pointFlags t_flags a_t_flagPoint a_t_flagU a_t_flagV a_t_flagW a_t_next a_t_series a_t_mix a_t_cofactor t_formX t_formY t_formZ a_t_square t_isNought t_sumT t_sumY, x_ar cI a_t_c 4 t_c_r, x_ar cI a_t_cofactor 6 t_cofactor_r, x_ar cI a_t_flagPoint 400 t_flagPoint_r, x_ar cI a_t_flagU 400 t_flagU_r, x_ar cI a_t_flagV 400 t_flagV_r, x_ar cI a_t_flagW 400 t_flagW_r, x_ar cI a_t_given 12 t_given_r, x_ar cI a_t_mix 6 t_mix_r, x_ar cI a_t_next 400 t_next_r, x_ar cI a_t_pointFlags 200 t_pointFlags_r, x_ar cI a_t_pointX 200 t_pointX_r, x_ar cI a_t_pointY 200 t_pointY_r, x_ar cI a_t_pointZ 200 t_pointZ_r, x_ar cI a_t_series 32 t_series_r] [x_o9 a_t t_p a_t_given s_t_isLaid s_t_isGood a_t_c s_t_points a_t_pointX a_t_pointY a_t_pointZ a_t_pointFlags s_t_flags a_t_flagPoint a_t_flagU a_t_flagV a_t_flagW a_t_next a_t_series a_t_mix a_t_cofactor s_t_formX s_t_formY s_t_formZ a_t_square s_t_isNought s_t_sumT s_t_sumY, x_ar cI a_t_c 4 s_t_c_r, x_ar cI a_t_cofactor 6 s_t_cofactor_r, x_ar cI a_t_flagPoint 400 s_t_flagPoint_r, x_ar cI a_t_flagU 400 s_t_flagU_r, x_ar cI a_t_flagV 400 s_t_flagV_r, x_ar cI a_t_flagW 400 s_t_flagW_r, x_ar cI a_t_given 12 t_given_r, x_ar cI a_t_mix 6 s_t_mix_r, x_ar cI a_t_next 400 s_t_next_r, x_ar cI a_t_pointFlags 200 s_t_pointFlags_r, x_ar cI a_t_pointX 200 s_t_pointX_r, x_ar cI a_t_pointY 200 s_t_pointY_r, x_ar cI a_t_pointZ 200 s_t_pointZ_r, x_ar cI a_t_series 32 s_t_series_r] r := by
  refine x_CI_of (cc := cX9_chord) (maxL := 5) (ty := .int) (own := RX9) (lv0 := [(0, .ref a_t), (1, .int i1), (2, .int i2), (3, .int i3)]) (by decide) rfl rfl (Nat.le_of_ble_eq_true rfl) rfl ?_
  intro p e s m args below meth c A Q ls hx hb hml hown hts hN hK hP hD hS hA hl hret
  have iX9 : ∀ w ∈ u_ws RX9 TX9 26, w ∈ wsX9_chord := by decide +kernel
  have l182 := hts (.fieldLink RX9 182 "ChordRingsModel" "isNought" "Z") (by decide +kernel)
  have l185 := hts (.fieldLink RX9 185 "ChordRingsModel" "sumT" "I") (by decide +kernel)
  have l124 := hts (.fieldLink RX9 124 "ChordRingsModel" "formX" "I") (by decide +kernel)
  have l127 := hts (.fieldLink RX9 127 "ChordRingsModel" "formY" "I") (by decide +kernel)
  have l130 := hts (.fieldLink RX9 130 "ChordRingsModel" "formZ" "I") (by decide +kernel)
  unfold fX9_chord at hf
  refine lv_aload_n hx hb dX9_chord_0 rfl (lv_at hl 0 rfl) ?_
  obtain ⟨v1, v2, v3, v4, v5, v6, v7, v8, u9, u10, u11, u12, u13, u14, u15, u16, u17, u18, u19, u20, hv1, hf⟩ := o_b20 hf
  refine x_vi (rest := []) (W1 := [x_o9 a_t t_p a_t_given v7 v6 a_t_c v8 a_t_pointX a_t_pointY a_t_pointZ a_t_pointFlags v2 a_t_flagPoint a_t_flagU a_t_flagV a_t_flagW a_t_next a_t_series a_t_mix a_t_cofactor v3 v4 v5 a_t_square t_isNought t_sumT t_sumY, x_ar cI a_t_c 4 u9, x_ar cI a_t_cofactor 6 u10, x_ar cI a_t_flagPoint 400 u11, x_ar cI a_t_flagU 400 u12, x_ar cI a_t_flagV 400 u13, x_ar cI a_t_flagW 400 u14, x_ar cI a_t_given 12 t_given_r, x_ar cI a_t_mix 6 t_mix_r, x_ar cI a_t_next 400 u15, x_ar cI a_t_pointFlags 200 u16, x_ar cI a_t_pointX 200 u17, x_ar cI a_t_pointY 200 u18, x_ar cI a_t_pointZ 200 u19, x_ar cI a_t_series 32 u20]) ⟨hx, hb, hml, hown, hts⟩ (tX9_isGood l D cI a_t a_t_given a_t_c a_t_pointX a_t_pointY a_t_pointZ a_t_pointFlags a_t_flagPoint a_t_flagU a_t_flagV a_t_flagW a_t_next a_t_series a_t_mix a_t_cofactor a_t_square t_p t_isLaid t_isGood t_points t_flags t_formX t_formY t_formZ t_isNought t_sumT t_sumY t_c_r t_cofactor_r t_flagPoint_r t_flagU_r t_flagV_r t_flagW_r t_given_r t_next_r t_pointFlags_r t_pointX_r t_pointY_r t_pointZ_r t_series_r v1 v2 v3 v4 v5 v6 v7 v8 u9 u10 u11 u12 u13 u14 u15 u16 u17 u18 u19 u20 hv1) (cwV 0 hts gX9_chord_X9_isGood rfl rfl rfl (by decide +kernel) ⟨Nat.le_of_ble_eq_true rfl, Nat.le_of_ble_eq_true rfl⟩) hN hK hP hD hS hA [0, 1, 2, 3, 4, 5, 6, 7, 9, 10, 11, 12, 13, 14] [some 0, some 1, some 2, some 3, some 4, some 5, some 6, some 7, none, some 8, some 9, some 10, some 11, some 12, some 13] rfl rfl rfl rfl rfl rfl 0 rfl rfl rfl hl.1 rfl (Nat.le_of_ble_eq_true rfl) dX9_chord_1 ⟨Nat.zero_le _, Nat.zero_le _⟩ (fun H locs hP hD hS => ?_)
  refine lv_if_ne (tgt := 10) hx hb dX9_chord_4 (by decide) (fun hc => ?_) (fun hc => ?_)
  · have hf := o_f hf hc
    refine lv_aload_n hx hb dX9_chord_10 rfl (lv_at hl 0 rfl) ?_
    refine lv_iload_n hx hb dX9_chord_11 rfl (lv_at hl 1 rfl) ?_
    obtain ⟨v21, hv21, hf⟩ := o_b1 hf
    refine x_vi (rest := []) (W1 := [x_o9 a_t t_p a_t_given v7 v6 a_t_c v8 a_t_pointX a_t_pointY a_t_pointZ a_t_pointFlags v2 a_t_flagPoint a_t_flagU a_t_flagV a_t_flagW a_t_next a_t_series a_t_mix a_t_cofactor v3 v4 v5 a_t_square t_isNought t_sumT t_sumY, x_ar cI a_t_c 4 u9, x_ar cI a_t_cofactor 6 u10, x_ar cI a_t_flagPoint 400 u11, x_ar cI a_t_flagU 400 u12, x_ar cI a_t_flagV 400 u13, x_ar cI a_t_flagW 400 u14, x_ar cI a_t_given 12 t_given_r, x_ar cI a_t_mix 6 t_mix_r, x_ar cI a_t_next 400 u15, x_ar cI a_t_pointFlags 200 u16, x_ar cI a_t_pointX 200 u17, x_ar cI a_t_pointY 200 u18, x_ar cI a_t_pointZ 200 u19, x_ar cI a_t_series 32 u20]) ⟨hx, hb, hml, hown, hts⟩ (tX9_isFlag l D cI a_t a_t_given a_t_c a_t_pointX a_t_pointY a_t_pointZ a_t_pointFlags a_t_flagPoint a_t_flagU a_t_flagV a_t_flagW a_t_next a_t_series a_t_mix a_t_cofactor a_t_square t_p v7 v6 v8 v2 v3 v4 v5 t_isNought t_sumT t_sumY i1 v21 hv21) (cwV 1 hts gX9_chord_X9_isFlag rfl rfl rfl (by decide +kernel) ⟨Nat.le_of_ble_eq_true rfl, Nat.le_of_ble_eq_true rfl⟩) hN hK hP hD hS hA [0] [some 0, none, none, none, none, none, none, none, none, none, none, none, none, none, none] rfl rfl rfl rfl rfl rfl 0 rfl rfl rfl hl.1 rfl (Nat.le_of_ble_eq_true rfl) dX9_chord_12 ⟨Nat.zero_le _, Nat.zero_le _⟩ (fun H locs hP hD hS => ?_)
    refine lv_if_ne (tgt := 20) hx hb dX9_chord_15 (by decide) (fun hc => ?_) (fun hc => ?_)
    · have hf := o_f hf hc
      refine lv_iload_n hx hb dX9_chord_20 rfl (lv_at hl 2 rfl) ?_
      refine lv_iconst (v := 0) hx hb dX9_chord_21 (by decide) ?_
      refine lv_sipush (v := 1000) hx hb dX9_chord_22 (by decide) ?_
      obtain ⟨v22, hv22, hf⟩ := o_b1 hf
      refine x_si (rest := []) ⟨hx, hb, hml, hown, hts⟩ (tX9_in l D cI i2 0 1000 v22 hv22) (va_cwS 3 hts gX9_chord_X9_in rfl rfl rfl (by decide +kernel) ⟨Nat.le_of_ble_eq_true rfl, Nat.le_of_ble_eq_true rfl⟩) hN hK hP hD hS hA rfl hl.1 rfl (Nat.le_of_ble_eq_true rfl) dX9_chord_25 ⟨Nat.zero_le _, Nat.zero_le _⟩ (fun H locs hP hD hS => ?_)
      refine lv_if_eq (tgt := 40) hx hb dX9_chord_28 (by decide) (fun hc => ?_) (fun hc => ?_)
      · have hf := o_t hf hc
        refine lv_bipush (v := (-2)) hx hb dX9_chord_40 (by decide) ?_
        obtain ⟨rfl, rfl, rfl, rfl, rfl, rfl, rfl, rfl, rfl, rfl, rfl, rfl, rfl, rfl, rfl, rfl, rfl, rfl, rfl, rfl, rfl, rfl, rfl, rfl⟩ := o_s24 hf
        exact hret rfl rfl dX9_chord_42 hP hD hS
      · have hf := o_f hf hc
        refine lv_iload_n hx hb dX9_chord_31 rfl (lv_at hl 3 rfl) ?_
        refine lv_iconst (v := 0) hx hb dX9_chord_32 (by decide) ?_
        refine lv_iconst (v := 3) hx hb dX9_chord_33 (by decide) ?_
        obtain ⟨v23, hv23, hf⟩ := o_b1 hf
        refine x_si (rest := []) ⟨hx, hb, hml, hown, hts⟩ (tX9_in l D cI i3 0 3 v23 hv23) (va_cwS 3 hts gX9_chord_X9_in rfl rfl rfl (by decide +kernel) ⟨Nat.le_of_ble_eq_true rfl, Nat.le_of_ble_eq_true rfl⟩) hN hK hP hD hS hA rfl hl.1 rfl (Nat.le_of_ble_eq_true rfl) dX9_chord_34 ⟨Nat.zero_le _, Nat.zero_le _⟩ (fun H locs hP hD hS => ?_)
        refine lv_if_ne (tgt := 43) hx hb dX9_chord_37 (by decide) (fun hc => ?_) (fun hc => ?_)
        · have hf := o_f hf hc
          refine lv_aload_n hx hb dX9_chord_43 rfl (lv_at hl 0 rfl) ?_
          refine lv_iload_n hx hb dX9_chord_44 rfl (lv_at hl 1 rfl) ?_
          refine lv_aload_n hx hb dX9_chord_45 rfl (lv_at hl 0 rfl) ?_
          refine lv_iload_n hx hb dX9_chord_46 rfl (lv_at hl 1 rfl) ?_
          refine lv_iload_n hx hb dX9_chord_47 rfl (lv_at hl 2 rfl) ?_
          obtain ⟨v24, hv24, hf⟩ := o_b1 hf
          refine x_vi (rest := [.int i1, .ref a_t]) (W1 := [x_o9 a_t t_p a_t_given v7 v6 a_t_c v8 a_t_pointX a_t_pointY a_t_pointZ a_t_pointFlags v2 a_t_flagPoint a_t_flagU a_t_flagV a_t_flagW a_t_next a_t_series a_t_mix a_t_cofactor v3 v4 v5 a_t_square t_isNought t_sumT t_sumY, x_ar cI a_t_c 4 u9, x_ar cI a_t_cofactor 6 u10, x_ar cI a_t_flagPoint 400 u11, x_ar cI a_t_flagU 400 u12, x_ar cI a_t_flagV 400 u13, x_ar cI a_t_flagW 400 u14, x_ar cI a_t_given 12 t_given_r, x_ar cI a_t_mix 6 t_mix_r, x_ar cI a_t_next 400 u15, x_ar cI a_t_pointFlags 200 u16, x_ar cI a_t_pointX 200 u17, x_ar cI a_t_pointY 200 u18, x_ar cI a_t_pointZ 200 u19, x_ar cI a_t_series 32 u20]) ⟨hx, hb, hml, hown, hts⟩ (tX9_onFrom l D cI a_t a_t_given a_t_c a_t_pointX a_t_pointY a_t_pointZ a_t_pointFlags a_t_flagPoint a_t_flagU a_t_flagV a_t_flagW a_t_next a_t_series a_t_mix a_t_cofactor a_t_square t_p v7 v6 v8 v2 v3 v4 v5 t_isNought t_sumT t_sumY u15 i1 i2 v24 hv24) (cwV 2 hts gX9_chord_X9_onFrom rfl rfl rfl (by decide +kernel) ⟨Nat.le_of_ble_eq_true rfl, Nat.le_of_ble_eq_true rfl⟩) hN hK hP hD hS hA [0, 9] [some 0, none, none, none, none, none, none, none, none, some 1, none, none, none, none, none] rfl rfl rfl rfl rfl rfl 0 rfl rfl rfl hl.1 rfl (Nat.le_of_ble_eq_true rfl) dX9_chord_48 ⟨Nat.zero_le _, Nat.zero_le _⟩ (fun H locs hP hD hS => ?_)
          obtain ⟨v25, v26, v27, hv25, hf⟩ := o_b3 hf
          refine x_vv (rest := []) (W1 := [x_o9 a_t t_p a_t_given v7 v6 a_t_c v8 a_t_pointX a_t_pointY a_t_pointZ a_t_pointFlags v2 a_t_flagPoint a_t_flagU a_t_flagV a_t_flagW a_t_next a_t_series a_t_mix a_t_cofactor v25 v26 v27 a_t_square t_isNought t_sumT t_sumY, x_ar cI a_t_c 4 u9, x_ar cI a_t_cofactor 6 u10, x_ar cI a_t_flagPoint 400 u11, x_ar cI a_t_flagU 400 u12, x_ar cI a_t_flagV 400 u13, x_ar cI a_t_flagW 400 u14, x_ar cI a_t_given 12 t_given_r, x_ar cI a_t_mix 6 t_mix_r, x_ar cI a_t_next 400 u15, x_ar cI a_t_pointFlags 200 u16, x_ar cI a_t_pointX 200 u17, x_ar cI a_t_pointY 200 u18, x_ar cI a_t_pointZ 200 u19, x_ar cI a_t_series 32 u20]) ⟨hx, hb, hml, hown, hts⟩ (tX9_chordOf l D cI a_t a_t_given a_t_c a_t_pointX a_t_pointY a_t_pointZ a_t_pointFlags a_t_flagPoint a_t_flagU a_t_flagV a_t_flagW a_t_next a_t_series a_t_mix a_t_cofactor a_t_square t_p v7 v6 v8 v2 v3 v4 v5 t_isNought t_sumT t_sumY u11 t_given_r u17 u18 u19 i1 v24 v25 v26 v27 hv25) (cwV 2 hts gX9_chord_X9_chordOf rfl rfl rfl (by decide +kernel) ⟨Nat.le_of_ble_eq_true rfl, Nat.le_of_ble_eq_true rfl⟩) hN hK hP hD hS hA [0, 3, 7, 11, 12, 13] [some 0, none, none, some 1, none, none, none, some 2, none, none, none, some 3, some 4, some 5, none] rfl rfl rfl rfl rfl rfl 0 rfl rfl rfl hl.1 rfl (Nat.le_of_ble_eq_true rfl) dX9_chord_51 ⟨Nat.zero_le _, Nat.zero_le _⟩ (fun H locs hP hD hS => ?_)
          refine lv_iload_n hx hb dX9_chord_54 rfl (lv_at hl 3 rfl) ?_
          refine lv_iconst (v := 3) hx hb dX9_chord_55 (by decide) ?_
          refine lv_icmp_ge (tgt := 87) hx hb dX9_chord_56 (by decide) (fun hc => ?_) (fun hc => ?_)
          · have hf := o_t hf hc
            refine lv_aload_n hx hb dX9_chord_87 rfl (lv_at hl 0 rfl) ?_
            refine lv_iload_n hx hb dX9_chord_88 rfl (lv_at hl 2 rfl) ?_
            obtain ⟨v28, v29, v30, hv28, hf⟩ := o_b3 hf
            refine x_vv (rest := []) (W1 := [x_o9 a_t t_p a_t_given v7 v6 a_t_c v8 a_t_pointX a_t_pointY a_t_pointZ a_t_pointFlags v2 a_t_flagPoint a_t_flagU a_t_flagV a_t_flagW a_t_next a_t_series a_t_mix a_t_cofactor v25 v26 v27 a_t_square v28 v29 v30, x_ar cI a_t_c 4 u9, x_ar cI a_t_cofactor 6 u10, x_ar cI a_t_flagPoint 400 u11, x_ar cI a_t_flagU 400 u12, x_ar cI a_t_flagV 400 u13, x_ar cI a_t_flagW 400 u14, x_ar cI a_t_given 12 t_given_r, x_ar cI a_t_mix 6 t_mix_r, x_ar cI a_t_next 400 u15, x_ar cI a_t_pointFlags 200 u16, x_ar cI a_t_pointX 200 u17, x_ar cI a_t_pointY 200 u18, x_ar cI a_t_pointZ 200 u19, x_ar cI a_t_series 32 u20]) ⟨hx, hb, hml, hown, hts⟩ (tX9_multipleOf l D cI a_t a_t_given a_t_c a_t_pointX a_t_pointY a_t_pointZ a_t_pointFlags a_t_flagPoint a_t_flagU a_t_flagV a_t_flagW a_t_next a_t_series a_t_mix a_t_cofactor a_t_square t_p v7 v6 v8 v2 v25 v26 v27 t_isNought t_sumT t_sumY u9 i2 v28 v29 v30 hv28) (cwV 1 hts gX9_chord_X9_multipleOf rfl rfl rfl (by decide +kernel) ⟨Nat.le_of_ble_eq_true rfl, Nat.le_of_ble_eq_true rfl⟩) hN hK hP hD hS hA [0, 1] [some 0, some 1, none, none, none, none, none, none, none, none, none, none, none, none, none] rfl rfl rfl rfl rfl rfl 0 rfl rfl rfl hl.1 rfl (Nat.le_of_ble_eq_true rfl) dX9_chord_89 ⟨Nat.zero_le _, Nat.zero_le _⟩ (fun H locs hP hD hS => ?_)
            refine lv_aload_n hx hb dX9_chord_92 rfl (lv_at hl 0 rfl) ?_
            refine va_get (D := D) (ci := 9) (C := RX9) (T := TX9) (N := 26) hx hb hts iX9 hown hK hP 0 rfl rfl 23 (by decide) l182 (fun _ h9 => h9) rfl dX9_chord_93 ?_
            have J141 : ∀ (w31 : (Nat → Int32)) (w32 : (Nat → Int32)) (y33 : Int32) (ls : Array Slot) (H : Heap) (locs : List Loc), jX9_chord_141 v2 v6 v7 v8 u9 u11 u12 u13 u14 u15 u16 u17 u18 u19 u20 v25 v26 v27 v28 v29 v30 w31 w32 y33 = some (r, s_t_flags, s_t_formX, s_t_formY, s_t_formZ, s_t_isGood, s_t_isLaid, s_t_isNought, s_t_points, s_t_sumT, s_t_sumY, s_t_c_r, s_t_cofactor_r, s_t_flagPoint_r, s_t_flagU_r, s_t_flagV_r, s_t_flagW_r, s_t_mix_r, s_t_next_r, s_t_pointFlags_r, s_t_pointX_r, s_t_pointY_r, s_t_pointZ_r, s_t_series_r) → lv_has ls 5 [] → va_P D vwCl [x_o9 a_t t_p a_t_given v7 v6 a_t_c v8 a_t_pointX a_t_pointY a_t_pointZ a_t_pointFlags v2 a_t_flagPoint a_t_flagU a_t_flagV a_t_flagW a_t_next a_t_series a_t_mix a_t_cofactor v25 v26 v27 a_t_square v28 v29 v30, x_ar cI a_t_c 4 u9, x_ar cI a_t_cofactor 6 w31, x_ar cI a_t_flagPoint 400 u11, x_ar cI a_t_flagU 400 u12, x_ar cI a_t_flagV 400 u13, x_ar cI a_t_flagW 400 u14, x_ar cI a_t_given 12 t_given_r, x_ar cI a_t_mix 6 w32, x_ar cI a_t_next 400 u15, x_ar cI a_t_pointFlags 200 u16, x_ar cI a_t_pointX 200 u17, x_ar cI a_t_pointY 200 u18, x_ar cI a_t_pointZ 200 u19, x_ar cI a_t_series 32 u20] H → va_D A [x_o9 a_t t_p a_t_given v7 v6 a_t_c v8 a_t_pointX a_t_pointY a_t_pointZ a_t_pointFlags v2 a_t_flagPoint a_t_flagU a_t_flagV a_t_flagW a_t_next a_t_series a_t_mix a_t_cofactor v25 v26 v27 a_t_square v28 v29 v30, x_ar cI a_t_c 4 u9, x_ar cI a_t_cofactor 6 w31, x_ar cI a_t_flagPoint 400 u11, x_ar cI a_t_flagU 400 u12, x_ar cI a_t_flagV 400 u13, x_ar cI a_t_flagW 400 u14, x_ar cI a_t_given 12 t_given_r, x_ar cI a_t_mix 6 w32, x_ar cI a_t_next 400 u15, x_ar cI a_t_pointFlags 200 u16, x_ar cI a_t_pointX 200 u17, x_ar cI a_t_pointY 200 u18, x_ar cI a_t_pointZ 200 u19, x_ar cI a_t_series 32 u20] → va_S A s.heap H locs → W p l e rmX9_chord s m args below meth c H locs 0 0 Q (F0 m 141 ls [.int y33]) := by
              intro w31 w32 y33 ls H locs hf hl hP hD hS
              unfold jX9_chord_141 at hf
              refine lv_istore (lv' := [(4, .int y33)]) hx hb dX9_chord_141 hl (by decide) rfl (fun ls hl => ?_)
              refine lv_iload hx hb dX9_chord_143 (lv_at hl 0 rfl) ?_
              refine lv_if_ne (tgt := 152) hx hb dX9_chord_145 (by decide) (fun hc => ?_) (fun hc => ?_)
              · have hf := o_f hf hc
                refine lv_iconst (v := 0) hx hb dX9_chord_152 (by decide) ?_
                obtain ⟨rfl, rfl, rfl, rfl, rfl, rfl, rfl, rfl, rfl, rfl, rfl, rfl, rfl, rfl, rfl, rfl, rfl, rfl, rfl, rfl, rfl, rfl, rfl, rfl⟩ := o_s24 hf
                exact hret rfl rfl dX9_chord_153 hP hD hS
              · have hf := o_t hf hc
                refine lv_iconst (v := 1) hx hb dX9_chord_148 (by decide) ?_
                refine lv_goto (tgt := 153) hx hb dX9_chord_149 (by decide) ?_
                obtain ⟨rfl, rfl, rfl, rfl, rfl, rfl, rfl, rfl, rfl, rfl, rfl, rfl, rfl, rfl, rfl, rfl, rfl, rfl, rfl, rfl, rfl, rfl, rfl, rfl⟩ := o_s24 hf
                exact hret rfl rfl dX9_chord_153 hP hD hS
            refine lv_if_eq (tgt := 120) hx hb dX9_chord_96 (by decide) (fun hc => ?_) (fun hc => ?_)
            · have hf := o_t hf hc
              refine lv_aload_n hx hb dX9_chord_120 rfl (lv_at hl 0 rfl) ?_
              refine lv_aload_n hx hb dX9_chord_121 rfl (lv_at hl 0 rfl) ?_
              refine va_get (D := D) (ci := 9) (C := RX9) (T := TX9) (N := 26) hx hb hts iX9 hown hK hP 0 rfl rfl 24 (by decide) l185 (fun _ h9 => h9) rfl dX9_chord_122 ?_
              refine lv_iconst (v := 1) hx hb dX9_chord_125 (by decide) ?_
              refine lv_aload_n hx hb dX9_chord_126 rfl (lv_at hl 0 rfl) ?_
              refine va_get (D := D) (ci := 9) (C := RX9) (T := TX9) (N := 26) hx hb hts iX9 hown hK hP 0 rfl rfl 19 (by decide) l124 (fun _ h9 => h9) rfl dX9_chord_127 ?_
              refine lv_aload_n hx hb dX9_chord_130 rfl (lv_at hl 0 rfl) ?_
              refine va_get (D := D) (ci := 9) (C := RX9) (T := TX9) (N := 26) hx hb hts iX9 hown hK hP 0 rfl rfl 20 (by decide) l127 (fun _ h9 => h9) rfl dX9_chord_131 ?_
              refine lv_aload_n hx hb dX9_chord_134 rfl (lv_at hl 0 rfl) ?_
              refine va_get (D := D) (ci := 9) (C := RX9) (T := TX9) (N := 26) hx hb hts iX9 hown hK hP 0 rfl rfl 21 (by decide) l130 (fun _ h9 => h9) rfl dX9_chord_135 ?_
              obtain ⟨v34, u35, u36, hv34, hf⟩ := o_b3 hf
              refine x_vi (rest := []) (W1 := [x_o9 a_t t_p a_t_given v7 v6 a_t_c v8 a_t_pointX a_t_pointY a_t_pointZ a_t_pointFlags v2 a_t_flagPoint a_t_flagU a_t_flagV a_t_flagW a_t_next a_t_series a_t_mix a_t_cofactor v25 v26 v27 a_t_square v28 v29 v30, x_ar cI a_t_c 4 u9, x_ar cI a_t_cofactor 6 u35, x_ar cI a_t_flagPoint 400 u11, x_ar cI a_t_flagU 400 u12, x_ar cI a_t_flagV 400 u13, x_ar cI a_t_flagW 400 u14, x_ar cI a_t_given 12 t_given_r, x_ar cI a_t_mix 6 u36, x_ar cI a_t_next 400 u15, x_ar cI a_t_pointFlags 200 u16, x_ar cI a_t_pointX 200 u17, x_ar cI a_t_pointY 200 u18, x_ar cI a_t_pointZ 200 u19, x_ar cI a_t_series 32 u20]) ⟨hx, hb, hml, hown, hts⟩ (tX9_touching l D cI a_t a_t_given a_t_c a_t_pointX a_t_pointY a_t_pointZ a_t_pointFlags a_t_flagPoint a_t_flagU a_t_flagV a_t_flagW a_t_next a_t_series a_t_mix a_t_cofactor a_t_square t_p v7 v6 v8 v2 v25 v26 v27 v28 v29 v30 u10 t_given_r t_mix_r v29 1 v25 v26 v27 v34 u35 u36 hv34) (cwV 5 hts gX9_chord_X9_touching rfl rfl rfl (by decide +kernel) ⟨Nat.le_of_ble_eq_true rfl, Nat.le_of_ble_eq_true rfl⟩) hN hK hP hD hS hA [0, 2, 7, 8] [some 0, none, some 1, none, none, none, none, some 2, some 3, none, none, none, none, none, none] rfl rfl rfl rfl rfl rfl 0 rfl rfl rfl hl.1 rfl (Nat.le_of_ble_eq_true rfl) dX9_chord_138 ⟨Nat.zero_le _, Nat.zero_le _⟩ (fun H locs hP hD hS => ?_)
              exact J141 u35 u36 v34 _ _ _ hf (lv_sub hl [] rfl) hP hD hS
            · have hf := o_f hf hc
              refine lv_aload_n hx hb dX9_chord_99 rfl (lv_at hl 0 rfl) ?_
              refine lv_iconst (v := 1) hx hb dX9_chord_100 (by decide) ?_
              refine lv_iconst (v := 0) hx hb dX9_chord_101 (by decide) ?_
              refine lv_aload_n hx hb dX9_chord_102 rfl (lv_at hl 0 rfl) ?_
              refine va_get (D := D) (ci := 9) (C := RX9) (T := TX9) (N := 26) hx hb hts iX9 hown hK hP 0 rfl rfl 19 (by decide) l124 (fun _ h9 => h9) rfl dX9_chord_103 ?_
              refine lv_aload_n hx hb dX9_chord_106 rfl (lv_at hl 0 rfl) ?_
              refine va_get (D := D) (ci := 9) (C := RX9) (T := TX9) (N := 26) hx hb hts iX9 hown hK hP 0 rfl rfl 20 (by decide) l127 (fun _ h9 => h9) rfl dX9_chord_107 ?_
              refine lv_aload_n hx hb dX9_chord_110 rfl (lv_at hl 0 rfl) ?_
              refine va_get (D := D) (ci := 9) (C := RX9) (T := TX9) (N := 26) hx hb hts iX9 hown hK hP 0 rfl rfl 21 (by decide) l130 (fun _ h9 => h9) rfl dX9_chord_111 ?_
              obtain ⟨v37, u38, u39, hv37, hf⟩ := o_b3 hf
              refine x_vi (rest := []) (W1 := [x_o9 a_t t_p a_t_given v7 v6 a_t_c v8 a_t_pointX a_t_pointY a_t_pointZ a_t_pointFlags v2 a_t_flagPoint a_t_flagU a_t_flagV a_t_flagW a_t_next a_t_series a_t_mix a_t_cofactor v25 v26 v27 a_t_square v28 v29 v30, x_ar cI a_t_c 4 u9, x_ar cI a_t_cofactor 6 u38, x_ar cI a_t_flagPoint 400 u11, x_ar cI a_t_flagU 400 u12, x_ar cI a_t_flagV 400 u13, x_ar cI a_t_flagW 400 u14, x_ar cI a_t_given 12 t_given_r, x_ar cI a_t_mix 6 u39, x_ar cI a_t_next 400 u15, x_ar cI a_t_pointFlags 200 u16, x_ar cI a_t_pointX 200 u17, x_ar cI a_t_pointY 200 u18, x_ar cI a_t_pointZ 200 u19, x_ar cI a_t_series 32 u20]) ⟨hx, hb, hml, hown, hts⟩ (tX9_touching l D cI a_t a_t_given a_t_c a_t_pointX a_t_pointY a_t_pointZ a_t_pointFlags a_t_flagPoint a_t_flagU a_t_flagV a_t_flagW a_t_next a_t_series a_t_mix a_t_cofactor a_t_square t_p v7 v6 v8 v2 v25 v26 v27 v28 v29 v30 u10 t_given_r t_mix_r 1 0 v25 v26 v27 v37 u38 u39 hv37) (cwV 5 hts gX9_chord_X9_touching rfl rfl rfl (by decide +kernel) ⟨Nat.le_of_ble_eq_true rfl, Nat.le_of_ble_eq_true rfl⟩) hN hK hP hD hS hA [0, 2, 7, 8] [some 0, none, some 1, none, none, none, none, some 2, some 3, none, none, none, none, none, none] rfl rfl rfl rfl rfl rfl 0 rfl rfl rfl hl.1 rfl (Nat.le_of_ble_eq_true rfl) dX9_chord_114 ⟨Nat.zero_le _, Nat.zero_le _⟩ (fun H locs hP hD hS => ?_)
              refine lv_goto (tgt := 141) hx hb dX9_chord_117 (by decide) ?_
              exact J141 u38 u39 v37 _ _ _ hf (lv_sub hl [] rfl) hP hD hS
          · have hf := o_f hf hc
            refine lv_iload_n hx hb dX9_chord_59 rfl (lv_at hl 3 rfl) ?_
            refine lv_if_ne (tgt := 70) hx hb dX9_chord_60 (by decide) (fun hc => ?_) (fun hc => ?_)
            · have hf := o_f hf hc
              refine lv_iload_n hx hb dX9_chord_70 rfl (lv_at hl 3 rfl) ?_
              refine lv_iconst (v := 1) hx hb dX9_chord_71 (by decide) ?_
              refine lv_icmp_ne (tgt := 82) hx hb dX9_chord_72 (by decide) (fun hc => ?_) (fun hc => ?_)
              · have hf := o_f hf hc
                refine lv_aload_n hx hb dX9_chord_82 rfl (lv_at hl 0 rfl) ?_
                refine va_get (D := D) (ci := 9) (C := RX9) (T := TX9) (N := 26) hx hb hts iX9 hown hK hP 0 rfl rfl 21 (by decide) l130 (fun _ h9 => h9) rfl dX9_chord_83 ?_
                obtain ⟨rfl, rfl, rfl, rfl, rfl, rfl, rfl, rfl, rfl, rfl, rfl, rfl, rfl, rfl, rfl, rfl, rfl, rfl, rfl, rfl, rfl, rfl, rfl, rfl⟩ := o_s24 hf
                exact hret rfl rfl dX9_chord_86 hP hD hS
              · have hf := o_t hf hc
                refine lv_aload_n hx hb dX9_chord_75 rfl (lv_at hl 0 rfl) ?_
                refine va_get (D := D) (ci := 9) (C := RX9) (T := TX9) (N := 26) hx hb hts iX9 hown hK hP 0 rfl rfl 20 (by decide) l127 (fun _ h9 => h9) rfl dX9_chord_76 ?_
                refine lv_goto (tgt := 86) hx hb dX9_chord_79 (by decide) ?_
                obtain ⟨rfl, rfl, rfl, rfl, rfl, rfl, rfl, rfl, rfl, rfl, rfl, rfl, rfl, rfl, rfl, rfl, rfl, rfl, rfl, rfl, rfl, rfl, rfl, rfl⟩ := o_s24 hf
                exact hret rfl rfl dX9_chord_86 hP hD hS
            · have hf := o_t hf hc
              refine lv_aload_n hx hb dX9_chord_63 rfl (lv_at hl 0 rfl) ?_
              refine va_get (D := D) (ci := 9) (C := RX9) (T := TX9) (N := 26) hx hb hts iX9 hown hK hP 0 rfl rfl 19 (by decide) l124 (fun _ h9 => h9) rfl dX9_chord_64 ?_
              refine lv_goto (tgt := 86) hx hb dX9_chord_67 (by decide) ?_
              obtain ⟨rfl, rfl, rfl, rfl, rfl, rfl, rfl, rfl, rfl, rfl, rfl, rfl, rfl, rfl, rfl, rfl, rfl, rfl, rfl, rfl, rfl, rfl, rfl, rfl⟩ := o_s24 hf
              exact hret rfl rfl dX9_chord_86 hP hD hS
        · have hf := o_t hf hc
          refine lv_bipush (v := (-2)) hx hb dX9_chord_40 (by decide) ?_
          obtain ⟨rfl, rfl, rfl, rfl, rfl, rfl, rfl, rfl, rfl, rfl, rfl, rfl, rfl, rfl, rfl, rfl, rfl, rfl, rfl, rfl, rfl, rfl, rfl, rfl⟩ := o_s24 hf
          exact hret rfl rfl dX9_chord_42 hP hD hS
    · have hf := o_t hf hc
      refine lv_iconst (v := (-1)) hx hb dX9_chord_18 (by decide) ?_
      obtain ⟨rfl, rfl, rfl, rfl, rfl, rfl, rfl, rfl, rfl, rfl, rfl, rfl, rfl, rfl, rfl, rfl, rfl, rfl, rfl, rfl, rfl, rfl, rfl, rfl⟩ := o_s24 hf
      exact hret rfl rfl dX9_chord_19 hP hD hS
  · have hf := o_t hf hc
    refine lv_bipush (v := (-5)) hx hb dX9_chord_7 (by decide) ?_
    obtain ⟨rfl, rfl, rfl, rfl, rfl, rfl, rfl, rfl, rfl, rfl, rfl, rfl, rfl, rfl, rfl, rfl, rfl, rfl, rfl, rfl, rfl, rfl, rfl, rfl⟩ := o_s24 hf
    exact hret rfl rfl dX9_chord_9 hP hD hS
noncomputable def kX9_all_113 (v2 : Int32) (v6 : Int32) (v7 : Int32) (v8 : Int32) (u9 : (Nat → Int32)) (u11 : (Nat → Int32)) (u12 : (Nat → Int32)) (u13 : (Nat → Int32)) (u14 : (Nat → Int32)) (u15 : (Nat → Int32)) (u16 : (Nat → Int32)) (u17 : (Nat → Int32)) (u18 : (Nat → Int32)) (u19 : (Nat → Int32)) (u20 : (Nat → Int32)) (y31 : Int32) (y32 : Int32) (y33 : Int32) (y34 : Int32) (w35 : (Nat → Int32)) (w36 : (Nat → Int32)) : Option (Int32 × Int32 × Int32 × Int32 × Int32 × Int32 × Int32 × Int32 × (Nat → Int32) × (Nat → Int32) × (Nat → Int32) × (Nat → Int32) × (Nat → Int32) × (Nat → Int32) × (Nat → Int32) × (Nat → Int32) × (Nat → Int32) × (Nat → Int32) × (Nat → Int32) × (Nat → Int32) × (Nat → Int32)) :=
  some (y31, v2, y32, y33, y34, v6, v7, v8, u9, w35, u11, u12, u13, u14, w36, u15, u16, u17, u18, u19, u20)
noncomputable def jX9_all_104 (x24 : Int32) (x25 : Int32) (rec54 : Int32 → Int32 → Int32 → Int32 → Int32 → (Nat → Int32) → (Nat → Int32) → Option (Int32 × Int32 × Int32 × Int32 × Int32 × Int32 × Int32 × Int32 × (Nat → Int32) × (Nat → Int32) × (Nat → Int32) × (Nat → Int32) × (Nat → Int32) × (Nat → Int32) × (Nat → Int32) × (Nat → Int32) × (Nat → Int32) × (Nat → Int32) × (Nat → Int32) × (Nat → Int32) × (Nat → Int32))) (v38 : Int32) (v39 : Int32) (v40 : Int32) (u42 : (Nat → Int32)) (u43 : (Nat → Int32)) (y44 : Int32) : Option (Int32 × Int32 × Int32 × Int32 × Int32 × Int32 × Int32 × Int32 × (Nat → Int32) × (Nat → Int32) × (Nat → Int32) × (Nat → Int32) × (Nat → Int32) × (Nat → Int32) × (Nat → Int32) × (Nat → Int32) × (Nat → Int32) × (Nat → Int32) × (Nat → Int32) × (Nat → Int32) × (Nat → Int32)) :=
  p_nm (x24 + y44) (fun v45 =>
p_nm (x25 + 1) (fun v46 =>
rec54 v45 v46 v38 v39 v40 u42 u43))
noncomputable def FgX9_all_54 (t_p : Int32) (t_given_r : (Nat → Int32)) (i1 : Int32) (i2 : Int32) (i3 : Int32) (v2 : Int32) (u11 : (Nat → Int32)) (u15 : (Nat → Int32)) (u17 : (Nat → Int32)) (u18 : (Nat → Int32)) (u19 : (Nat → Int32)) (rec54 : Int32 → Int32 → Int32 → Int32 → Int32 → (Nat → Int32) → (Nat → Int32) → Option (Int32 × Int32 × Int32 × Int32 × Int32 × Int32 × Int32 × Int32 × (Nat → Int32) × (Nat → Int32) × (Nat → Int32) × (Nat → Int32) × (Nat → Int32) × (Nat → Int32) × (Nat → Int32) × (Nat → Int32) × (Nat → Int32) × (Nat → Int32) × (Nat → Int32) × (Nat → Int32) × (Nat → Int32))) (kk54 : Int32 → Int32 → Int32 → Int32 → (Nat → Int32) → (Nat → Int32) → Option (Int32 × Int32 × Int32 × Int32 × Int32 × Int32 × Int32 × Int32 × (Nat → Int32) × (Nat → Int32) × (Nat → Int32) × (Nat → Int32) × (Nat → Int32) × (Nat → Int32) × (Nat → Int32) × (Nat → Int32) × (Nat → Int32) × (Nat → Int32) × (Nat → Int32) × (Nat → Int32) × (Nat → Int32))) (x24 : Int32) (x25 : Int32) (x26 : Int32) (x27 : Int32) (x28 : Int32) (z29 : (Nat → Int32)) (z30 : (Nat → Int32)) : Option (Int32 × Int32 × Int32 × Int32 × Int32 × Int32 × Int32 × Int32 × (Nat → Int32) × (Nat → Int32) × (Nat → Int32) × (Nat → Int32) × (Nat → Int32) × (Nat → Int32) × (Nat → Int32) × (Nat → Int32) × (Nat → Int32) × (Nat → Int32) × (Nat → Int32) × (Nat → Int32) × (Nat → Int32)) :=
  if v2 ≤ x25 then (kk54 x24 x26 x27 x28 z29 z30) else (p_b1 (fX9_onFrom u15 x25 i1) (fun v37 =>
p_b3 (fX9_chordOf x26 x27 x28 t_p u11 t_given_r u17 u18 u19 x25 v37) (fun v38 v39 v40 =>
p_b3 (fX9_touching t_p z29 t_given_r z30 i2 i3 v38 v39 v40) (fun v41 u42 u43 =>
if v41 = 0 then (jX9_all_104 x24 x25 rec54 v38 v39 v40 u42 u43 1) else (jX9_all_104 x24 x25 rec54 v38 v39 v40 u42 u43 0)))))
noncomputable def gX9_all_54 (t_p : Int32) (t_given_r : (Nat → Int32)) (i1 : Int32) (i2 : Int32) (i3 : Int32) (v2 : Int32) (u11 : (Nat → Int32)) (u15 : (Nat → Int32)) (u17 : (Nat → Int32)) (u18 : (Nat → Int32)) (u19 : (Nat → Int32)) (kk54 : Int32 → Int32 → Int32 → Int32 → (Nat → Int32) → (Nat → Int32) → Option (Int32 × Int32 × Int32 × Int32 × Int32 × Int32 × Int32 × Int32 × (Nat → Int32) × (Nat → Int32) × (Nat → Int32) × (Nat → Int32) × (Nat → Int32) × (Nat → Int32) × (Nat → Int32) × (Nat → Int32) × (Nat → Int32) × (Nat → Int32) × (Nat → Int32) × (Nat → Int32) × (Nat → Int32))) (n : Nat) : Int32 → Int32 → Int32 → Int32 → Int32 → (Nat → Int32) → (Nat → Int32) → Option (Int32 × Int32 × Int32 × Int32 × Int32 × Int32 × Int32 × Int32 × (Nat → Int32) × (Nat → Int32) × (Nat → Int32) × (Nat → Int32) × (Nat → Int32) × (Nat → Int32) × (Nat → Int32) × (Nat → Int32) × (Nat → Int32) × (Nat → Int32) × (Nat → Int32) × (Nat → Int32) × (Nat → Int32)) := Nat.rec (motive := fun _ => Int32 → Int32 → Int32 → Int32 → Int32 → (Nat → Int32) → (Nat → Int32) → Option (Int32 × Int32 × Int32 × Int32 × Int32 × Int32 × Int32 × Int32 × (Nat → Int32) × (Nat → Int32) × (Nat → Int32) × (Nat → Int32) × (Nat → Int32) × (Nat → Int32) × (Nat → Int32) × (Nat → Int32) × (Nat → Int32) × (Nat → Int32) × (Nat → Int32) × (Nat → Int32) × (Nat → Int32))) (fun _ _ _ _ _ _ _ => none) (fun _ rec54 => FgX9_all_54 t_p t_given_r i1 i2 i3 v2 u11 u15 u17 u18 u19 rec54 kk54) n
noncomputable def jX9_all_48 (t_p : Int32) (t_given_r : (Nat → Int32)) (t_mix_r : (Nat → Int32)) (i1 : Int32) (i2 : Int32) (i3 : Int32) (v2 : Int32) (v3 : Int32) (v4 : Int32) (v5 : Int32) (v6 : Int32) (v7 : Int32) (v8 : Int32) (u9 : (Nat → Int32)) (u10 : (Nat → Int32)) (u11 : (Nat → Int32)) (u12 : (Nat → Int32)) (u13 : (Nat → Int32)) (u14 : (Nat → Int32)) (u15 : (Nat → Int32)) (u16 : (Nat → Int32)) (u17 : (Nat → Int32)) (u18 : (Nat → Int32)) (u19 : (Nat → Int32)) (u20 : (Nat → Int32)) : Option (Int32 × Int32 × Int32 × Int32 × Int32 × Int32 × Int32 × Int32 × (Nat → Int32) × (Nat → Int32) × (Nat → Int32) × (Nat → Int32) × (Nat → Int32) × (Nat → Int32) × (Nat → Int32) × (Nat → Int32) × (Nat → Int32) × (Nat → Int32) × (Nat → Int32) × (Nat → Int32) × (Nat → Int32)) :=
  gX9_all_54 t_p t_given_r i1 i2 i3 v2 u11 u15 u17 u18 u19 (kX9_all_113 v2 v6 v7 v8 u9 u11 u12 u13 u14 u15 u16 u17 u18 u19 u20) p_FU 0 0 v3 v4 v5 u10 t_mix_r
noncomputable def fX9_all (t_flags : Int32) (t_formX : Int32) (t_formY : Int32) (t_formZ : Int32) (t_isGood : Int32) (t_isLaid : Int32) (t_p : Int32) (t_points : Int32) (t_c_r : (Nat → Int32)) (t_cofactor_r : (Nat → Int32)) (t_flagPoint_r : (Nat → Int32)) (t_flagU_r : (Nat → Int32)) (t_flagV_r : (Nat → Int32)) (t_flagW_r : (Nat → Int32)) (t_given_r : (Nat → Int32)) (t_mix_r : (Nat → Int32)) (t_next_r : (Nat → Int32)) (t_pointFlags_r : (Nat → Int32)) (t_pointX_r : (Nat → Int32)) (t_pointY_r : (Nat → Int32)) (t_pointZ_r : (Nat → Int32)) (t_series_r : (Nat → Int32)) (i1 : Int32) (i2 : Int32) (i3 : Int32) : Option (Int32 × Int32 × Int32 × Int32 × Int32 × Int32 × Int32 × Int32 × (Nat → Int32) × (Nat → Int32) × (Nat → Int32) × (Nat → Int32) × (Nat → Int32) × (Nat → Int32) × (Nat → Int32) × (Nat → Int32) × (Nat → Int32) × (Nat → Int32) × (Nat → Int32) × (Nat → Int32) × (Nat → Int32)) :=
  p_b20 (fX9_isGood t_flags t_formX t_formY t_formZ t_isGood t_isLaid t_p t_points t_c_r t_cofactor_r t_flagPoint_r t_flagU_r t_flagV_r t_flagW_r t_given_r t_next_r t_pointFlags_r t_pointX_r t_pointY_r t_pointZ_r t_series_r) (fun v1 v2 v3 v4 v5 v6 v7 v8 u9 u10 u11 u12 u13 u14 u15 u16 u17 u18 u19 u20 =>
if v1 = 0 then (some ((-5), v2, v3, v4, v5, v6, v7, v8, u9, u10, u11, u12, u13, u14, t_mix_r, u15, u16, u17, u18, u19, u20)) else (p_b1 (fX9_in i1 0 1000) (fun v21 =>
if v21 = 0 then (some ((-2), v2, v3, v4, v5, v6, v7, v8, u9, u10, u11, u12, u13, u14, t_mix_r, u15, u16, u17, u18, u19, u20)) else (p_b1 (fX9_isNumber t_p i2) (fun v22 =>
if v22 = 0 then (some ((-2), v2, v3, v4, v5, v6, v7, v8, u9, u10, u11, u12, u13, u14, t_mix_r, u15, u16, u17, u18, u19, u20)) else (p_b1 (fX9_isNumber t_p i3) (fun v23 =>
if v23 = 0 then (some ((-2), v2, v3, v4, v5, v6, v7, v8, u9, u10, u11, u12, u13, u14, t_mix_r, u15, u16, u17, u18, u19, u20)) else (if i2 = 0 then (if i3 = 0 then (some ((-2), v2, v3, v4, v5, v6, v7, v8, u9, u10, u11, u12, u13, u14, t_mix_r, u15, u16, u17, u18, u19, u20)) else (jX9_all_48 t_p t_given_r t_mix_r i1 i2 i3 v2 v3 v4 v5 v6 v7 v8 u9 u10 u11 u12 u13 u14 u15 u16 u17 u18 u19 u20)) else (jX9_all_48 t_p t_given_r t_mix_r i1 i2 i3 v2 v3 v4 v5 v6 v7 v8 u9 u10 u11 u12 u13 u14 u15 u16 u17 u18 u19 u20)))))))))
def rmX9_all : Room := { frames := 6, cells := 0, slots := 0, locals := 146 }
set_option maxHeartbeats 4000000 in
set_option maxRecDepth 100000 in
theorem tX9_all (l : Launch) (D : va_G) (cI : ClassId) (a_t : Nat) (a_t_given : Nat) (a_t_c : Nat) (a_t_pointX : Nat) (a_t_pointY : Nat) (a_t_pointZ : Nat) (a_t_pointFlags : Nat) (a_t_flagPoint : Nat) (a_t_flagU : Nat) (a_t_flagV : Nat) (a_t_flagW : Nat) (a_t_next : Nat) (a_t_series : Nat) (a_t_mix : Nat) (a_t_cofactor : Nat) (a_t_square : Nat) (t_p : Int32) (t_isLaid : Int32) (t_isGood : Int32) (t_points : Int32) (t_flags : Int32) (t_formX : Int32) (t_formY : Int32) (t_formZ : Int32) (t_isNought : Int32) (t_sumT : Int32) (t_sumY : Int32) (t_c_r : (Nat → Int32)) (t_cofactor_r : (Nat → Int32)) (t_flagPoint_r : (Nat → Int32)) (t_flagU_r : (Nat → Int32)) (t_flagV_r : (Nat → Int32)) (t_flagW_r : (Nat → Int32)) (t_given_r : (Nat → Int32)) (t_mix_r : (Nat → Int32)) (t_next_r : (Nat → Int32)) (t_pointFlags_r : (Nat → Int32)) (t_pointX_r : (Nat → Int32)) (t_pointY_r : (Nat → Int32)) (t_pointZ_r : (Nat → Int32)) (t_series_r : (Nat → Int32)) (i1 : Int32) (i2 : Int32) (i3 : Int32) (r : Int32) (s_t_flags : Int32) (s_t_formX : Int32) (s_t_formY : Int32) (s_t_formZ : Int32) (s_t_isGood : Int32) (s_t_isLaid : Int32) (s_t_points : Int32) (s_t_c_r : (Nat → Int32)) (s_t_cofactor_r : (Nat → Int32)) (s_t_flagPoint_r : (Nat → Int32)) (s_t_flagU_r : (Nat → Int32)) (s_t_flagV_r : (Nat → Int32)) (s_t_flagW_r : (Nat → Int32)) (s_t_mix_r : (Nat → Int32)) (s_t_next_r : (Nat → Int32)) (s_t_pointFlags_r : (Nat → Int32)) (s_t_pointX_r : (Nat → Int32)) (s_t_pointY_r : (Nat → Int32)) (s_t_pointZ_r : (Nat → Int32)) (s_t_series_r : (Nat → Int32)) (hf : fX9_all t_flags t_formX t_formY t_formZ t_isGood t_isLaid t_p t_points t_c_r t_cofactor_r t_flagPoint_r t_flagU_r t_flagV_r t_flagW_r t_given_r t_mix_r t_next_r t_pointFlags_r t_pointX_r t_pointY_r t_pointZ_r t_series_r i1 i2 i3 = some (r, s_t_flags, s_t_formX, s_t_formY, s_t_formZ, s_t_isGood, s_t_isLaid, s_t_points, s_t_c_r, s_t_cofactor_r, s_t_flagPoint_r, s_t_flagU_r, s_t_flagV_r, s_t_flagW_r, s_t_mix_r, s_t_next_r, s_t_pointFlags_r, s_t_pointX_r, s_t_pointY_r, s_t_pointZ_r, s_t_series_r)) : x_CI l D cI yX9_all wsX9_all rmX9_all [.ref a_t, .int i1, .int i2, .int i3] [x_o9 a_t t_p a_t_given t_isLaid t_isGood a_t_c t_points a_t_pointX a_t_pointY a_t_pointZ a_t_pointFlags t_flags a_t_flagPoint a_t_flagU a_t_flagV a_t_flagW a_t_next a_t_series a_t_mix a_t_cofactor t_formX t_formY t_formZ a_t_square t_isNought t_sumT t_sumY, x_ar cI a_t_c 4 t_c_r, x_ar cI a_t_cofactor 6 t_cofactor_r, x_ar cI a_t_flagPoint 400 t_flagPoint_r, x_ar cI a_t_flagU 400 t_flagU_r, x_ar cI a_t_flagV 400 t_flagV_r, x_ar cI a_t_flagW 400 t_flagW_r, x_ar cI a_t_given 12 t_given_r, x_ar cI a_t_mix 6 t_mix_r, x_ar cI a_t_next 400 t_next_r, x_ar cI a_t_pointFlags 200 t_pointFlags_r, x_ar cI a_t_pointX 200 t_pointX_r, x_ar cI a_t_pointY 200 t_pointY_r, x_ar cI a_t_pointZ 200 t_pointZ_r, x_ar cI a_t_series 32 t_series_r] [x_o9 a_t t_p a_t_given s_t_isLaid s_t_isGood a_t_c s_t_points a_t_pointX a_t_pointY a_t_pointZ a_t_pointFlags s_t_flags a_t_flagPoint a_t_flagU a_t_flagV a_t_flagW a_t_next a_t_series a_t_mix a_t_cofactor s_t_formX s_t_formY s_t_formZ a_t_square t_isNought t_sumT t_sumY, x_ar cI a_t_c 4 s_t_c_r, x_ar cI a_t_cofactor 6 s_t_cofactor_r, x_ar cI a_t_flagPoint 400 s_t_flagPoint_r, x_ar cI a_t_flagU 400 s_t_flagU_r, x_ar cI a_t_flagV 400 s_t_flagV_r, x_ar cI a_t_flagW 400 s_t_flagW_r, x_ar cI a_t_given 12 t_given_r, x_ar cI a_t_mix 6 s_t_mix_r, x_ar cI a_t_next 400 s_t_next_r, x_ar cI a_t_pointFlags 200 s_t_pointFlags_r, x_ar cI a_t_pointX 200 s_t_pointX_r, x_ar cI a_t_pointY 200 s_t_pointY_r, x_ar cI a_t_pointZ 200 s_t_pointZ_r, x_ar cI a_t_series 32 s_t_series_r] r := by
  refine x_CI_of (cc := cX9_all) (maxL := 6) (ty := .int) (own := RX9) (lv0 := [(0, .ref a_t), (1, .int i1), (2, .int i2), (3, .int i3)]) (by decide) rfl rfl (Nat.le_of_ble_eq_true rfl) rfl ?_
  intro p e s m args below meth c A Q ls hx hb hml hown hts hN hK hP hD hS hA hl hret
  have iX9 : ∀ w ∈ u_ws RX9 TX9 26, w ∈ wsX9_all := by decide +kernel
  have l140 := hts (.fieldLink RX9 140 "ChordRingsModel" "flags" "I") (by decide +kernel)
  have l124 := hts (.fieldLink RX9 124 "ChordRingsModel" "formX" "I") (by decide +kernel)
  have l127 := hts (.fieldLink RX9 127 "ChordRingsModel" "formY" "I") (by decide +kernel)
  have l130 := hts (.fieldLink RX9 130 "ChordRingsModel" "formZ" "I") (by decide +kernel)
  unfold fX9_all at hf
  refine lv_aload_n hx hb dX9_all_0 rfl (lv_at hl 0 rfl) ?_
  obtain ⟨v1, v2, v3, v4, v5, v6, v7, v8, u9, u10, u11, u12, u13, u14, u15, u16, u17, u18, u19, u20, hv1, hf⟩ := o_b20 hf
  refine x_vi (rest := []) (W1 := [x_o9 a_t t_p a_t_given v7 v6 a_t_c v8 a_t_pointX a_t_pointY a_t_pointZ a_t_pointFlags v2 a_t_flagPoint a_t_flagU a_t_flagV a_t_flagW a_t_next a_t_series a_t_mix a_t_cofactor v3 v4 v5 a_t_square t_isNought t_sumT t_sumY, x_ar cI a_t_c 4 u9, x_ar cI a_t_cofactor 6 u10, x_ar cI a_t_flagPoint 400 u11, x_ar cI a_t_flagU 400 u12, x_ar cI a_t_flagV 400 u13, x_ar cI a_t_flagW 400 u14, x_ar cI a_t_given 12 t_given_r, x_ar cI a_t_mix 6 t_mix_r, x_ar cI a_t_next 400 u15, x_ar cI a_t_pointFlags 200 u16, x_ar cI a_t_pointX 200 u17, x_ar cI a_t_pointY 200 u18, x_ar cI a_t_pointZ 200 u19, x_ar cI a_t_series 32 u20]) ⟨hx, hb, hml, hown, hts⟩ (tX9_isGood l D cI a_t a_t_given a_t_c a_t_pointX a_t_pointY a_t_pointZ a_t_pointFlags a_t_flagPoint a_t_flagU a_t_flagV a_t_flagW a_t_next a_t_series a_t_mix a_t_cofactor a_t_square t_p t_isLaid t_isGood t_points t_flags t_formX t_formY t_formZ t_isNought t_sumT t_sumY t_c_r t_cofactor_r t_flagPoint_r t_flagU_r t_flagV_r t_flagW_r t_given_r t_next_r t_pointFlags_r t_pointX_r t_pointY_r t_pointZ_r t_series_r v1 v2 v3 v4 v5 v6 v7 v8 u9 u10 u11 u12 u13 u14 u15 u16 u17 u18 u19 u20 hv1) (cwV 0 hts gX9_all_X9_isGood rfl rfl rfl (by decide +kernel) ⟨Nat.le_of_ble_eq_true rfl, Nat.le_of_ble_eq_true rfl⟩) hN hK hP hD hS hA [0, 1, 2, 3, 4, 5, 6, 7, 9, 10, 11, 12, 13, 14] [some 0, some 1, some 2, some 3, some 4, some 5, some 6, some 7, none, some 8, some 9, some 10, some 11, some 12, some 13] rfl rfl rfl rfl rfl rfl 0 rfl rfl rfl hl.1 rfl (Nat.le_of_ble_eq_true rfl) dX9_all_1 ⟨Nat.zero_le _, Nat.zero_le _⟩ (fun H locs hP hD hS => ?_)
  refine lv_if_ne (tgt := 10) hx hb dX9_all_4 (by decide) (fun hc => ?_) (fun hc => ?_)
  · have hf := o_f hf hc
    refine lv_iload_n hx hb dX9_all_10 rfl (lv_at hl 1 rfl) ?_
    refine lv_iconst (v := 0) hx hb dX9_all_11 (by decide) ?_
    refine lv_sipush (v := 1000) hx hb dX9_all_12 (by decide) ?_
    obtain ⟨v21, hv21, hf⟩ := o_b1 hf
    refine x_si (rest := []) ⟨hx, hb, hml, hown, hts⟩ (tX9_in l D cI i1 0 1000 v21 hv21) (va_cwS 3 hts gX9_all_X9_in rfl rfl rfl (by decide +kernel) ⟨Nat.le_of_ble_eq_true rfl, Nat.le_of_ble_eq_true rfl⟩) hN hK hP hD hS hA rfl hl.1 rfl (Nat.le_of_ble_eq_true rfl) dX9_all_15 ⟨Nat.zero_le _, Nat.zero_le _⟩ (fun H locs hP hD hS => ?_)
    refine lv_if_eq (tgt := 45) hx hb dX9_all_18 (by decide) (fun hc => ?_) (fun hc => ?_)
    · have hf := o_t hf hc
      refine lv_bipush (v := (-2)) hx hb dX9_all_45 (by decide) ?_
      obtain ⟨rfl, rfl, rfl, rfl, rfl, rfl, rfl, rfl, rfl, rfl, rfl, rfl, rfl, rfl, rfl, rfl, rfl, rfl, rfl, rfl, rfl⟩ := o_s21 hf
      exact hret rfl rfl dX9_all_47 hP hD hS
    · have hf := o_f hf hc
      refine lv_aload_n hx hb dX9_all_21 rfl (lv_at hl 0 rfl) ?_
      refine lv_iload_n hx hb dX9_all_22 rfl (lv_at hl 2 rfl) ?_
      obtain ⟨v22, hv22, hf⟩ := o_b1 hf
      refine x_vi (rest := []) (W1 := [x_o9 a_t t_p a_t_given v7 v6 a_t_c v8 a_t_pointX a_t_pointY a_t_pointZ a_t_pointFlags v2 a_t_flagPoint a_t_flagU a_t_flagV a_t_flagW a_t_next a_t_series a_t_mix a_t_cofactor v3 v4 v5 a_t_square t_isNought t_sumT t_sumY, x_ar cI a_t_c 4 u9, x_ar cI a_t_cofactor 6 u10, x_ar cI a_t_flagPoint 400 u11, x_ar cI a_t_flagU 400 u12, x_ar cI a_t_flagV 400 u13, x_ar cI a_t_flagW 400 u14, x_ar cI a_t_given 12 t_given_r, x_ar cI a_t_mix 6 t_mix_r, x_ar cI a_t_next 400 u15, x_ar cI a_t_pointFlags 200 u16, x_ar cI a_t_pointX 200 u17, x_ar cI a_t_pointY 200 u18, x_ar cI a_t_pointZ 200 u19, x_ar cI a_t_series 32 u20]) ⟨hx, hb, hml, hown, hts⟩ (tX9_isNumber l D cI a_t a_t_given a_t_c a_t_pointX a_t_pointY a_t_pointZ a_t_pointFlags a_t_flagPoint a_t_flagU a_t_flagV a_t_flagW a_t_next a_t_series a_t_mix a_t_cofactor a_t_square t_p v7 v6 v8 v2 v3 v4 v5 t_isNought t_sumT t_sumY i2 v22 hv22) (cwV 1 hts gX9_all_X9_isNumber rfl rfl rfl (by decide +kernel) ⟨Nat.le_of_ble_eq_true rfl, Nat.le_of_ble_eq_true rfl⟩) hN hK hP hD hS hA [0] [some 0, none, none, none, none, none, none, none, none, none, none, none, none, none, none] rfl rfl rfl rfl rfl rfl 0 rfl rfl rfl hl.1 rfl (Nat.le_of_ble_eq_true rfl) dX9_all_23 ⟨Nat.zero_le _, Nat.zero_le _⟩ (fun H locs hP hD hS => ?_)
      refine lv_if_eq (tgt := 45) hx hb dX9_all_26 (by decide) (fun hc => ?_) (fun hc => ?_)
      · have hf := o_t hf hc
        refine lv_bipush (v := (-2)) hx hb dX9_all_45 (by decide) ?_
        obtain ⟨rfl, rfl, rfl, rfl, rfl, rfl, rfl, rfl, rfl, rfl, rfl, rfl, rfl, rfl, rfl, rfl, rfl, rfl, rfl, rfl, rfl⟩ := o_s21 hf
        exact hret rfl rfl dX9_all_47 hP hD hS
      · have hf := o_f hf hc
        refine lv_aload_n hx hb dX9_all_29 rfl (lv_at hl 0 rfl) ?_
        refine lv_iload_n hx hb dX9_all_30 rfl (lv_at hl 3 rfl) ?_
        obtain ⟨v23, hv23, hf⟩ := o_b1 hf
        refine x_vi (rest := []) (W1 := [x_o9 a_t t_p a_t_given v7 v6 a_t_c v8 a_t_pointX a_t_pointY a_t_pointZ a_t_pointFlags v2 a_t_flagPoint a_t_flagU a_t_flagV a_t_flagW a_t_next a_t_series a_t_mix a_t_cofactor v3 v4 v5 a_t_square t_isNought t_sumT t_sumY, x_ar cI a_t_c 4 u9, x_ar cI a_t_cofactor 6 u10, x_ar cI a_t_flagPoint 400 u11, x_ar cI a_t_flagU 400 u12, x_ar cI a_t_flagV 400 u13, x_ar cI a_t_flagW 400 u14, x_ar cI a_t_given 12 t_given_r, x_ar cI a_t_mix 6 t_mix_r, x_ar cI a_t_next 400 u15, x_ar cI a_t_pointFlags 200 u16, x_ar cI a_t_pointX 200 u17, x_ar cI a_t_pointY 200 u18, x_ar cI a_t_pointZ 200 u19, x_ar cI a_t_series 32 u20]) ⟨hx, hb, hml, hown, hts⟩ (tX9_isNumber l D cI a_t a_t_given a_t_c a_t_pointX a_t_pointY a_t_pointZ a_t_pointFlags a_t_flagPoint a_t_flagU a_t_flagV a_t_flagW a_t_next a_t_series a_t_mix a_t_cofactor a_t_square t_p v7 v6 v8 v2 v3 v4 v5 t_isNought t_sumT t_sumY i3 v23 hv23) (cwV 1 hts gX9_all_X9_isNumber rfl rfl rfl (by decide +kernel) ⟨Nat.le_of_ble_eq_true rfl, Nat.le_of_ble_eq_true rfl⟩) hN hK hP hD hS hA [0] [some 0, none, none, none, none, none, none, none, none, none, none, none, none, none, none] rfl rfl rfl rfl rfl rfl 0 rfl rfl rfl hl.1 rfl (Nat.le_of_ble_eq_true rfl) dX9_all_31 ⟨Nat.zero_le _, Nat.zero_le _⟩ (fun H locs hP hD hS => ?_)
        refine lv_if_eq (tgt := 45) hx hb dX9_all_34 (by decide) (fun hc => ?_) (fun hc => ?_)
        · have hf := o_t hf hc
          refine lv_bipush (v := (-2)) hx hb dX9_all_45 (by decide) ?_
          obtain ⟨rfl, rfl, rfl, rfl, rfl, rfl, rfl, rfl, rfl, rfl, rfl, rfl, rfl, rfl, rfl, rfl, rfl, rfl, rfl, rfl, rfl⟩ := o_s21 hf
          exact hret rfl rfl dX9_all_47 hP hD hS
        · have hf := o_f hf hc
          refine lv_iload_n hx hb dX9_all_37 rfl (lv_at hl 2 rfl) ?_
          have J48 : ∀ (ls : Array Slot) (H : Heap) (locs : List Loc), jX9_all_48 t_p t_given_r t_mix_r i1 i2 i3 v2 v3 v4 v5 v6 v7 v8 u9 u10 u11 u12 u13 u14 u15 u16 u17 u18 u19 u20 = some (r, s_t_flags, s_t_formX, s_t_formY, s_t_formZ, s_t_isGood, s_t_isLaid, s_t_points, s_t_c_r, s_t_cofactor_r, s_t_flagPoint_r, s_t_flagU_r, s_t_flagV_r, s_t_flagW_r, s_t_mix_r, s_t_next_r, s_t_pointFlags_r, s_t_pointX_r, s_t_pointY_r, s_t_pointZ_r, s_t_series_r) → lv_has ls 6 [(0, .ref a_t), (1, .int i1), (2, .int i2), (3, .int i3)] → va_P D vwCl [x_o9 a_t t_p a_t_given v7 v6 a_t_c v8 a_t_pointX a_t_pointY a_t_pointZ a_t_pointFlags v2 a_t_flagPoint a_t_flagU a_t_flagV a_t_flagW a_t_next a_t_series a_t_mix a_t_cofactor v3 v4 v5 a_t_square t_isNought t_sumT t_sumY, x_ar cI a_t_c 4 u9, x_ar cI a_t_cofactor 6 u10, x_ar cI a_t_flagPoint 400 u11, x_ar cI a_t_flagU 400 u12, x_ar cI a_t_flagV 400 u13, x_ar cI a_t_flagW 400 u14, x_ar cI a_t_given 12 t_given_r, x_ar cI a_t_mix 6 t_mix_r, x_ar cI a_t_next 400 u15, x_ar cI a_t_pointFlags 200 u16, x_ar cI a_t_pointX 200 u17, x_ar cI a_t_pointY 200 u18, x_ar cI a_t_pointZ 200 u19, x_ar cI a_t_series 32 u20] H → va_D A [x_o9 a_t t_p a_t_given v7 v6 a_t_c v8 a_t_pointX a_t_pointY a_t_pointZ a_t_pointFlags v2 a_t_flagPoint a_t_flagU a_t_flagV a_t_flagW a_t_next a_t_series a_t_mix a_t_cofactor v3 v4 v5 a_t_square t_isNought t_sumT t_sumY, x_ar cI a_t_c 4 u9, x_ar cI a_t_cofactor 6 u10, x_ar cI a_t_flagPoint 400 u11, x_ar cI a_t_flagU 400 u12, x_ar cI a_t_flagV 400 u13, x_ar cI a_t_flagW 400 u14, x_ar cI a_t_given 12 t_given_r, x_ar cI a_t_mix 6 t_mix_r, x_ar cI a_t_next 400 u15, x_ar cI a_t_pointFlags 200 u16, x_ar cI a_t_pointX 200 u17, x_ar cI a_t_pointY 200 u18, x_ar cI a_t_pointZ 200 u19, x_ar cI a_t_series 32 u20] → va_S A s.heap H locs → W p l e rmX9_all s m args below meth c H locs 0 0 Q (F0 m 48 ls []) := by
            intro ls H locs hf hl hP hD hS
            unfold jX9_all_48 at hf
            refine lv_iconst (v := 0) hx hb dX9_all_48 (by decide) ?_
            refine lv_istore (lv' := [(4, .int 0), (0, .ref a_t), (1, .int i1), (2, .int i2), (3, .int i3)]) hx hb dX9_all_49 hl (by decide) rfl (fun ls hl => ?_)
            refine lv_iconst (v := 0) hx hb dX9_all_51 (by decide) ?_
            refine lv_istore (lv' := [(5, .int 0), (4, .int 0), (0, .ref a_t), (1, .int i1), (2, .int i2), (3, .int i3)]) hx hb dX9_all_52 hl (by decide) rfl (fun ls hl => ?_)
            have L54 : ∀ (n : Nat) (x24 : Int32) (x25 : Int32) (x26 : Int32) (x27 : Int32) (x28 : Int32) (z29 : (Nat → Int32)) (z30 : (Nat → Int32)) (ls : Array Slot) (H : Heap) (locs : List Loc), gX9_all_54 t_p t_given_r i1 i2 i3 v2 u11 u15 u17 u18 u19 (kX9_all_113 v2 v6 v7 v8 u9 u11 u12 u13 u14 u15 u16 u17 u18 u19 u20) n x24 x25 x26 x27 x28 z29 z30 = some (r, s_t_flags, s_t_formX, s_t_formY, s_t_formZ, s_t_isGood, s_t_isLaid, s_t_points, s_t_c_r, s_t_cofactor_r, s_t_flagPoint_r, s_t_flagU_r, s_t_flagV_r, s_t_flagW_r, s_t_mix_r, s_t_next_r, s_t_pointFlags_r, s_t_pointX_r, s_t_pointY_r, s_t_pointZ_r, s_t_series_r) → lv_has ls 6 [(0, .ref a_t), (1, .int i1), (2, .int i2), (3, .int i3), (4, .int x24), (5, .int x25)] → va_P D vwCl [x_o9 a_t t_p a_t_given v7 v6 a_t_c v8 a_t_pointX a_t_pointY a_t_pointZ a_t_pointFlags v2 a_t_flagPoint a_t_flagU a_t_flagV a_t_flagW a_t_next a_t_series a_t_mix a_t_cofactor x26 x27 x28 a_t_square t_isNought t_sumT t_sumY, x_ar cI a_t_c 4 u9, x_ar cI a_t_cofactor 6 z29, x_ar cI a_t_flagPoint 400 u11, x_ar cI a_t_flagU 400 u12, x_ar cI a_t_flagV 400 u13, x_ar cI a_t_flagW 400 u14, x_ar cI a_t_given 12 t_given_r, x_ar cI a_t_mix 6 z30, x_ar cI a_t_next 400 u15, x_ar cI a_t_pointFlags 200 u16, x_ar cI a_t_pointX 200 u17, x_ar cI a_t_pointY 200 u18, x_ar cI a_t_pointZ 200 u19, x_ar cI a_t_series 32 u20] H → va_D A [x_o9 a_t t_p a_t_given v7 v6 a_t_c v8 a_t_pointX a_t_pointY a_t_pointZ a_t_pointFlags v2 a_t_flagPoint a_t_flagU a_t_flagV a_t_flagW a_t_next a_t_series a_t_mix a_t_cofactor x26 x27 x28 a_t_square t_isNought t_sumT t_sumY, x_ar cI a_t_c 4 u9, x_ar cI a_t_cofactor 6 z29, x_ar cI a_t_flagPoint 400 u11, x_ar cI a_t_flagU 400 u12, x_ar cI a_t_flagV 400 u13, x_ar cI a_t_flagW 400 u14, x_ar cI a_t_given 12 t_given_r, x_ar cI a_t_mix 6 z30, x_ar cI a_t_next 400 u15, x_ar cI a_t_pointFlags 200 u16, x_ar cI a_t_pointX 200 u17, x_ar cI a_t_pointY 200 u18, x_ar cI a_t_pointZ 200 u19, x_ar cI a_t_series 32 u20] → va_S A s.heap H locs → W p l e rmX9_all s m args below meth c H locs 0 0 Q (F0 m 54 ls []) := by
              intro n54
              induction n54 with
              | zero =>
                intro x24 x25 x26 x27 x28 z29 z30 ls H locs hf
                exact nomatch (show (none : Option (Int32 × Int32 × Int32 × Int32 × Int32 × Int32 × Int32 × Int32 × (Nat → Int32) × (Nat → Int32) × (Nat → Int32) × (Nat → Int32) × (Nat → Int32) × (Nat → Int32) × (Nat → Int32) × (Nat → Int32) × (Nat → Int32) × (Nat → Int32) × (Nat → Int32) × (Nat → Int32) × (Nat → Int32))) = some (r, s_t_flags, s_t_formX, s_t_formY, s_t_formZ, s_t_isGood, s_t_isLaid, s_t_points, s_t_c_r, s_t_cofactor_r, s_t_flagPoint_r, s_t_flagU_r, s_t_flagV_r, s_t_flagW_r, s_t_mix_r, s_t_next_r, s_t_pointFlags_r, s_t_pointX_r, s_t_pointY_r, s_t_pointZ_r, s_t_series_r) from hf)
              | succ n54 ih54 =>
                intro x24 x25 x26 x27 x28 z29 z30 ls H locs hf hl hP hD hS
                have hf : FgX9_all_54 t_p t_given_r i1 i2 i3 v2 u11 u15 u17 u18 u19 (gX9_all_54 t_p t_given_r i1 i2 i3 v2 u11 u15 u17 u18 u19 (kX9_all_113 v2 v6 v7 v8 u9 u11 u12 u13 u14 u15 u16 u17 u18 u19 u20) n54) (kX9_all_113 v2 v6 v7 v8 u9 u11 u12 u13 u14 u15 u16 u17 u18 u19 u20) x24 x25 x26 x27 x28 z29 z30 = some (r, s_t_flags, s_t_formX, s_t_formY, s_t_formZ, s_t_isGood, s_t_isLaid, s_t_points, s_t_c_r, s_t_cofactor_r, s_t_flagPoint_r, s_t_flagU_r, s_t_flagV_r, s_t_flagW_r, s_t_mix_r, s_t_next_r, s_t_pointFlags_r, s_t_pointX_r, s_t_pointY_r, s_t_pointZ_r, s_t_series_r) := hf
                unfold FgX9_all_54 at hf
                refine lv_iload hx hb dX9_all_54 (lv_at hl 5 rfl) ?_
                refine lv_aload_n hx hb dX9_all_56 rfl (lv_at hl 0 rfl) ?_
                refine va_get (D := D) (ci := 9) (C := RX9) (T := TX9) (N := 26) hx hb hts iX9 hown hK hP 0 rfl rfl 10 (by decide) l140 (fun _ h9 => h9) rfl dX9_all_57 ?_
                have J113 : ∀ (y31 : Int32) (y32 : Int32) (y33 : Int32) (y34 : Int32) (w35 : (Nat → Int32)) (w36 : (Nat → Int32)) (ls : Array Slot) (H : Heap) (locs : List Loc), kX9_all_113 v2 v6 v7 v8 u9 u11 u12 u13 u14 u15 u16 u17 u18 u19 u20 y31 y32 y33 y34 w35 w36 = some (r, s_t_flags, s_t_formX, s_t_formY, s_t_formZ, s_t_isGood, s_t_isLaid, s_t_points, s_t_c_r, s_t_cofactor_r, s_t_flagPoint_r, s_t_flagU_r, s_t_flagV_r, s_t_flagW_r, s_t_mix_r, s_t_next_r, s_t_pointFlags_r, s_t_pointX_r, s_t_pointY_r, s_t_pointZ_r, s_t_series_r) → lv_has ls 6 [(4, .int y31)] → va_P D vwCl [x_o9 a_t t_p a_t_given v7 v6 a_t_c v8 a_t_pointX a_t_pointY a_t_pointZ a_t_pointFlags v2 a_t_flagPoint a_t_flagU a_t_flagV a_t_flagW a_t_next a_t_series a_t_mix a_t_cofactor y32 y33 y34 a_t_square t_isNought t_sumT t_sumY, x_ar cI a_t_c 4 u9, x_ar cI a_t_cofactor 6 w35, x_ar cI a_t_flagPoint 400 u11, x_ar cI a_t_flagU 400 u12, x_ar cI a_t_flagV 400 u13, x_ar cI a_t_flagW 400 u14, x_ar cI a_t_given 12 t_given_r, x_ar cI a_t_mix 6 w36, x_ar cI a_t_next 400 u15, x_ar cI a_t_pointFlags 200 u16, x_ar cI a_t_pointX 200 u17, x_ar cI a_t_pointY 200 u18, x_ar cI a_t_pointZ 200 u19, x_ar cI a_t_series 32 u20] H → va_D A [x_o9 a_t t_p a_t_given v7 v6 a_t_c v8 a_t_pointX a_t_pointY a_t_pointZ a_t_pointFlags v2 a_t_flagPoint a_t_flagU a_t_flagV a_t_flagW a_t_next a_t_series a_t_mix a_t_cofactor y32 y33 y34 a_t_square t_isNought t_sumT t_sumY, x_ar cI a_t_c 4 u9, x_ar cI a_t_cofactor 6 w35, x_ar cI a_t_flagPoint 400 u11, x_ar cI a_t_flagU 400 u12, x_ar cI a_t_flagV 400 u13, x_ar cI a_t_flagW 400 u14, x_ar cI a_t_given 12 t_given_r, x_ar cI a_t_mix 6 w36, x_ar cI a_t_next 400 u15, x_ar cI a_t_pointFlags 200 u16, x_ar cI a_t_pointX 200 u17, x_ar cI a_t_pointY 200 u18, x_ar cI a_t_pointZ 200 u19, x_ar cI a_t_series 32 u20] → va_S A s.heap H locs → W p l e rmX9_all s m args below meth c H locs 0 0 Q (F0 m 113 ls []) := by
                  intro y31 y32 y33 y34 w35 w36 ls H locs hf hl hP hD hS
                  unfold kX9_all_113 at hf
                  refine lv_iload hx hb dX9_all_113 (lv_at hl 0 rfl) ?_
                  obtain ⟨rfl, rfl, rfl, rfl, rfl, rfl, rfl, rfl, rfl, rfl, rfl, rfl, rfl, rfl, rfl, rfl, rfl, rfl, rfl, rfl, rfl⟩ := o_s21 hf
                  exact hret rfl rfl dX9_all_115 hP hD hS
                refine lv_icmp_ge (tgt := 113) hx hb dX9_all_60 (by decide) (fun hc => ?_) (fun hc => ?_)
                · have hf := o_t hf hc
                  exact J113 x24 x26 x27 x28 z29 z30 _ _ _ hf (lv_sub hl [4] rfl) hP hD hS
                · have hf := o_f hf hc
                  refine lv_aload_n hx hb dX9_all_63 rfl (lv_at hl 0 rfl) ?_
                  refine lv_iload hx hb dX9_all_64 (lv_at hl 5 rfl) ?_
                  refine lv_aload_n hx hb dX9_all_66 rfl (lv_at hl 0 rfl) ?_
                  refine lv_iload hx hb dX9_all_67 (lv_at hl 5 rfl) ?_
                  refine lv_iload_n hx hb dX9_all_69 rfl (lv_at hl 1 rfl) ?_
                  obtain ⟨v37, hv37, hf⟩ := o_b1 hf
                  refine x_vi (rest := [.int x25, .ref a_t]) (W1 := [x_o9 a_t t_p a_t_given v7 v6 a_t_c v8 a_t_pointX a_t_pointY a_t_pointZ a_t_pointFlags v2 a_t_flagPoint a_t_flagU a_t_flagV a_t_flagW a_t_next a_t_series a_t_mix a_t_cofactor x26 x27 x28 a_t_square t_isNought t_sumT t_sumY, x_ar cI a_t_c 4 u9, x_ar cI a_t_cofactor 6 z29, x_ar cI a_t_flagPoint 400 u11, x_ar cI a_t_flagU 400 u12, x_ar cI a_t_flagV 400 u13, x_ar cI a_t_flagW 400 u14, x_ar cI a_t_given 12 t_given_r, x_ar cI a_t_mix 6 z30, x_ar cI a_t_next 400 u15, x_ar cI a_t_pointFlags 200 u16, x_ar cI a_t_pointX 200 u17, x_ar cI a_t_pointY 200 u18, x_ar cI a_t_pointZ 200 u19, x_ar cI a_t_series 32 u20]) ⟨hx, hb, hml, hown, hts⟩ (tX9_onFrom l D cI a_t a_t_given a_t_c a_t_pointX a_t_pointY a_t_pointZ a_t_pointFlags a_t_flagPoint a_t_flagU a_t_flagV a_t_flagW a_t_next a_t_series a_t_mix a_t_cofactor a_t_square t_p v7 v6 v8 v2 x26 x27 x28 t_isNought t_sumT t_sumY u15 x25 i1 v37 hv37) (cwV 2 hts gX9_all_X9_onFrom rfl rfl rfl (by decide +kernel) ⟨Nat.le_of_ble_eq_true rfl, Nat.le_of_ble_eq_true rfl⟩) hN hK hP hD hS hA [0, 9] [some 0, none, none, none, none, none, none, none, none, some 1, none, none, none, none, none] rfl rfl rfl rfl rfl rfl 0 rfl rfl rfl hl.1 rfl (Nat.le_of_ble_eq_true rfl) dX9_all_70 ⟨Nat.zero_le _, Nat.zero_le _⟩ (fun H locs hP hD hS => ?_)
                  obtain ⟨v38, v39, v40, hv38, hf⟩ := o_b3 hf
                  refine x_vv (rest := []) (W1 := [x_o9 a_t t_p a_t_given v7 v6 a_t_c v8 a_t_pointX a_t_pointY a_t_pointZ a_t_pointFlags v2 a_t_flagPoint a_t_flagU a_t_flagV a_t_flagW a_t_next a_t_series a_t_mix a_t_cofactor v38 v39 v40 a_t_square t_isNought t_sumT t_sumY, x_ar cI a_t_c 4 u9, x_ar cI a_t_cofactor 6 z29, x_ar cI a_t_flagPoint 400 u11, x_ar cI a_t_flagU 400 u12, x_ar cI a_t_flagV 400 u13, x_ar cI a_t_flagW 400 u14, x_ar cI a_t_given 12 t_given_r, x_ar cI a_t_mix 6 z30, x_ar cI a_t_next 400 u15, x_ar cI a_t_pointFlags 200 u16, x_ar cI a_t_pointX 200 u17, x_ar cI a_t_pointY 200 u18, x_ar cI a_t_pointZ 200 u19, x_ar cI a_t_series 32 u20]) ⟨hx, hb, hml, hown, hts⟩ (tX9_chordOf l D cI a_t a_t_given a_t_c a_t_pointX a_t_pointY a_t_pointZ a_t_pointFlags a_t_flagPoint a_t_flagU a_t_flagV a_t_flagW a_t_next a_t_series a_t_mix a_t_cofactor a_t_square t_p v7 v6 v8 v2 x26 x27 x28 t_isNought t_sumT t_sumY u11 t_given_r u17 u18 u19 x25 v37 v38 v39 v40 hv38) (cwV 2 hts gX9_all_X9_chordOf rfl rfl rfl (by decide +kernel) ⟨Nat.le_of_ble_eq_true rfl, Nat.le_of_ble_eq_true rfl⟩) hN hK hP hD hS hA [0, 3, 7, 11, 12, 13] [some 0, none, none, some 1, none, none, none, some 2, none, none, none, some 3, some 4, some 5, none] rfl rfl rfl rfl rfl rfl 0 rfl rfl rfl hl.1 rfl (Nat.le_of_ble_eq_true rfl) dX9_all_73 ⟨Nat.zero_le _, Nat.zero_le _⟩ (fun H locs hP hD hS => ?_)
                  refine lv_iload hx hb dX9_all_76 (lv_at hl 4 rfl) ?_
                  refine lv_aload_n hx hb dX9_all_78 rfl (lv_at hl 0 rfl) ?_
                  refine lv_iload_n hx hb dX9_all_79 rfl (lv_at hl 2 rfl) ?_
                  refine lv_iload_n hx hb dX9_all_80 rfl (lv_at hl 3 rfl) ?_
                  refine lv_aload_n hx hb dX9_all_81 rfl (lv_at hl 0 rfl) ?_
                  refine va_get (D := D) (ci := 9) (C := RX9) (T := TX9) (N := 26) hx hb hts iX9 hown hK hP 0 rfl rfl 19 (by decide) l124 (fun _ h9 => h9) rfl dX9_all_82 ?_
                  refine lv_aload_n hx hb dX9_all_85 rfl (lv_at hl 0 rfl) ?_
                  refine va_get (D := D) (ci := 9) (C := RX9) (T := TX9) (N := 26) hx hb hts iX9 hown hK hP 0 rfl rfl 20 (by decide) l127 (fun _ h9 => h9) rfl dX9_all_86 ?_
                  refine lv_aload_n hx hb dX9_all_89 rfl (lv_at hl 0 rfl) ?_
                  refine va_get (D := D) (ci := 9) (C := RX9) (T := TX9) (N := 26) hx hb hts iX9 hown hK hP 0 rfl rfl 21 (by decide) l130 (fun _ h9 => h9) rfl dX9_all_90 ?_
                  obtain ⟨v41, u42, u43, hv41, hf⟩ := o_b3 hf
                  refine x_vi (rest := [.int x24]) (W1 := [x_o9 a_t t_p a_t_given v7 v6 a_t_c v8 a_t_pointX a_t_pointY a_t_pointZ a_t_pointFlags v2 a_t_flagPoint a_t_flagU a_t_flagV a_t_flagW a_t_next a_t_series a_t_mix a_t_cofactor v38 v39 v40 a_t_square t_isNought t_sumT t_sumY, x_ar cI a_t_c 4 u9, x_ar cI a_t_cofactor 6 u42, x_ar cI a_t_flagPoint 400 u11, x_ar cI a_t_flagU 400 u12, x_ar cI a_t_flagV 400 u13, x_ar cI a_t_flagW 400 u14, x_ar cI a_t_given 12 t_given_r, x_ar cI a_t_mix 6 u43, x_ar cI a_t_next 400 u15, x_ar cI a_t_pointFlags 200 u16, x_ar cI a_t_pointX 200 u17, x_ar cI a_t_pointY 200 u18, x_ar cI a_t_pointZ 200 u19, x_ar cI a_t_series 32 u20]) ⟨hx, hb, hml, hown, hts⟩ (tX9_touching l D cI a_t a_t_given a_t_c a_t_pointX a_t_pointY a_t_pointZ a_t_pointFlags a_t_flagPoint a_t_flagU a_t_flagV a_t_flagW a_t_next a_t_series a_t_mix a_t_cofactor a_t_square t_p v7 v6 v8 v2 v38 v39 v40 t_isNought t_sumT t_sumY z29 t_given_r z30 i2 i3 v38 v39 v40 v41 u42 u43 hv41) (cwV 5 hts gX9_all_X9_touching rfl rfl rfl (by decide +kernel) ⟨Nat.le_of_ble_eq_true rfl, Nat.le_of_ble_eq_true rfl⟩) hN hK hP hD hS hA [0, 2, 7, 8] [some 0, none, some 1, none, none, none, none, some 2, some 3, none, none, none, none, none, none] rfl rfl rfl rfl rfl rfl 0 rfl rfl rfl hl.1 rfl (Nat.le_of_ble_eq_true rfl) dX9_all_93 ⟨Nat.zero_le _, Nat.zero_le _⟩ (fun H locs hP hD hS => ?_)
                  have J104 : ∀ (y44 : Int32) (ls : Array Slot) (H : Heap) (locs : List Loc), jX9_all_104 x24 x25 (gX9_all_54 t_p t_given_r i1 i2 i3 v2 u11 u15 u17 u18 u19 (kX9_all_113 v2 v6 v7 v8 u9 u11 u12 u13 u14 u15 u16 u17 u18 u19 u20) n54) v38 v39 v40 u42 u43 y44 = some (r, s_t_flags, s_t_formX, s_t_formY, s_t_formZ, s_t_isGood, s_t_isLaid, s_t_points, s_t_c_r, s_t_cofactor_r, s_t_flagPoint_r, s_t_flagU_r, s_t_flagV_r, s_t_flagW_r, s_t_mix_r, s_t_next_r, s_t_pointFlags_r, s_t_pointX_r, s_t_pointY_r, s_t_pointZ_r, s_t_series_r) → lv_has ls 6 [(0, .ref a_t), (1, .int i1), (2, .int i2), (3, .int i3), (5, .int x25)] → va_P D vwCl [x_o9 a_t t_p a_t_given v7 v6 a_t_c v8 a_t_pointX a_t_pointY a_t_pointZ a_t_pointFlags v2 a_t_flagPoint a_t_flagU a_t_flagV a_t_flagW a_t_next a_t_series a_t_mix a_t_cofactor v38 v39 v40 a_t_square t_isNought t_sumT t_sumY, x_ar cI a_t_c 4 u9, x_ar cI a_t_cofactor 6 u42, x_ar cI a_t_flagPoint 400 u11, x_ar cI a_t_flagU 400 u12, x_ar cI a_t_flagV 400 u13, x_ar cI a_t_flagW 400 u14, x_ar cI a_t_given 12 t_given_r, x_ar cI a_t_mix 6 u43, x_ar cI a_t_next 400 u15, x_ar cI a_t_pointFlags 200 u16, x_ar cI a_t_pointX 200 u17, x_ar cI a_t_pointY 200 u18, x_ar cI a_t_pointZ 200 u19, x_ar cI a_t_series 32 u20] H → va_D A [x_o9 a_t t_p a_t_given v7 v6 a_t_c v8 a_t_pointX a_t_pointY a_t_pointZ a_t_pointFlags v2 a_t_flagPoint a_t_flagU a_t_flagV a_t_flagW a_t_next a_t_series a_t_mix a_t_cofactor v38 v39 v40 a_t_square t_isNought t_sumT t_sumY, x_ar cI a_t_c 4 u9, x_ar cI a_t_cofactor 6 u42, x_ar cI a_t_flagPoint 400 u11, x_ar cI a_t_flagU 400 u12, x_ar cI a_t_flagV 400 u13, x_ar cI a_t_flagW 400 u14, x_ar cI a_t_given 12 t_given_r, x_ar cI a_t_mix 6 u43, x_ar cI a_t_next 400 u15, x_ar cI a_t_pointFlags 200 u16, x_ar cI a_t_pointX 200 u17, x_ar cI a_t_pointY 200 u18, x_ar cI a_t_pointZ 200 u19, x_ar cI a_t_series 32 u20] → va_S A s.heap H locs → W p l e rmX9_all s m args below meth c H locs 0 0 Q (F0 m 104 ls [.int y44, .int x24]) := by
                    intro y44 ls H locs hf hl hP hD hS
                    unfold jX9_all_104 at hf
                    refine lv_iadd hx hb dX9_all_104 ?_
                    obtain ⟨v45, ev45, hf⟩ := o_nm hf
                    refine x_top ev45 ?_
                    refine lv_istore (lv' := [(4, .int v45), (0, .ref a_t), (1, .int i1), (2, .int i2), (3, .int i3), (5, .int x25)]) hx hb dX9_all_105 hl (by decide) rfl (fun ls hl => ?_)
                    obtain ⟨v46, ev46, hf⟩ := o_nm hf
                    refine lv_iinc (v := v46) (lv' := [(5, .int v46), (4, .int v45), (0, .ref a_t), (1, .int i1), (2, .int i2), (3, .int i3)]) hx hb dX9_all_107 hl (k := 5) rfl (by rw [ev46]; rfl) (by decide) rfl (fun ls hl => ?_)
                    refine lv_goto (tgt := 54) hx hb dX9_all_110 (by decide) ?_
                    exact ih54 v45 v46 v38 v39 v40 u42 u43 _ _ _ hf (lv_sub hl [2, 3, 4, 5, 1, 0] rfl) hP hD hS
                  refine lv_if_ne (tgt := 103) hx hb dX9_all_96 (by decide) (fun hc => ?_) (fun hc => ?_)
                  · have hf := o_f hf hc
                    refine lv_iconst (v := 0) hx hb dX9_all_103 (by decide) ?_
                    exact J104 0 _ _ _ hf (lv_sub hl [0, 1, 2, 3, 5] rfl) hP hD hS
                  · have hf := o_t hf hc
                    refine lv_iconst (v := 1) hx hb dX9_all_99 (by decide) ?_
                    refine lv_goto (tgt := 104) hx hb dX9_all_100 (by decide) ?_
                    exact J104 1 _ _ _ hf (lv_sub hl [0, 1, 2, 3, 5] rfl) hP hD hS
            exact L54 p_FU 0 0 v3 v4 v5 u10 t_mix_r _ _ _ hf (lv_sub hl [2, 3, 4, 5, 1, 0] rfl) hP hD hS
          refine lv_if_ne (tgt := 48) hx hb dX9_all_38 (by decide) (fun hc => ?_) (fun hc => ?_)
          · have hf := o_f hf hc
            exact J48 _ _ _ hf (lv_sub hl [0, 1, 2, 3] rfl) hP hD hS
          · have hf := o_t hf hc
            refine lv_iload_n hx hb dX9_all_41 rfl (lv_at hl 3 rfl) ?_
            refine lv_if_ne (tgt := 48) hx hb dX9_all_42 (by decide) (fun hc => ?_) (fun hc => ?_)
            · have hf := o_f hf hc
              exact J48 _ _ _ hf (lv_sub hl [0, 1, 2, 3] rfl) hP hD hS
            · have hf := o_t hf hc
              refine lv_bipush (v := (-2)) hx hb dX9_all_45 (by decide) ?_
              obtain ⟨rfl, rfl, rfl, rfl, rfl, rfl, rfl, rfl, rfl, rfl, rfl, rfl, rfl, rfl, rfl, rfl, rfl, rfl, rfl, rfl, rfl⟩ := o_s21 hf
              exact hret rfl rfl dX9_all_47 hP hD hS
  · have hf := o_t hf hc
    refine lv_bipush (v := (-5)) hx hb dX9_all_7 (by decide) ?_
    obtain ⟨rfl, rfl, rfl, rfl, rfl, rfl, rfl, rfl, rfl, rfl, rfl, rfl, rfl, rfl, rfl, rfl, rfl, rfl, rfl, rfl, rfl⟩ := o_s21 hf
    exact hret rfl rfl dX9_all_9 hP hD hS
