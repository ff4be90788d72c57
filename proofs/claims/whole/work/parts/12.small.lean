noncomputable def fX2_take (t_a : Int32) (t_b : Int32) (t_c : Int32) (t_d : Int32) (t_e : Int32) (t_f : Int32) (N_p : Int32) (i1 : Int32) (i2 : Int32) (i3 : Int32) (i4 : Int32) (i5 : Int32) (i6 : Int32) : Option (Int32 × Int32 × Int32 × Int32 × Int32 × Int32) :=
  p_b1 (fX4_rest N_p i1) (fun v1 =>
p_b1 (fX4_rest N_p i2) (fun v2 =>
p_b1 (fX4_rest N_p i3) (fun v3 =>
p_b1 (fX4_rest N_p i4) (fun v4 =>
p_b1 (fX4_rest N_p i5) (fun v5 =>
p_b1 (fX4_rest N_p i6) (fun v6 =>
some (v1, v2, v3, v4, v5, v6)))))))
def rmX2_take : Room := { frames := 1, cells := 0, slots := 0, locals := 22 }
set_option maxHeartbeats 4000000 in
set_option maxRecDepth 100000 in
theorem tX2_take (l : Launch) (D : va_G) (cI : ClassId) (a_t : Nat) (a_N : Nat) (a_N_inverses : Nat) (a_N_roots : Nat) (t_a : Int32) (t_b : Int32) (t_c : Int32) (t_d : Int32) (t_e : Int32) (t_f : Int32) (N_p : Int32) (i1 : Int32) (i2 : Int32) (i3 : Int32) (i4 : Int32) (i5 : Int32) (i6 : Int32) (s_t_a : Int32) (s_t_b : Int32) (s_t_c : Int32) (s_t_d : Int32) (s_t_e : Int32) (s_t_f : Int32) (hf : fX2_take t_a t_b t_c t_d t_e t_f N_p i1 i2 i3 i4 i5 i6 = some (s_t_a, s_t_b, s_t_c, s_t_d, s_t_e, s_t_f)) : x_CV l D cI yX2_take wsX2_take rmX2_take [.ref a_t, .int i1, .int i2, .int i3, .int i4, .int i5, .int i6] [x_o2 a_t a_N t_a t_b t_c t_d t_e t_f, x_o4 a_N a_N_inverses a_N_roots N_p] [x_o2 a_t a_N s_t_a s_t_b s_t_c s_t_d s_t_e s_t_f, x_o4 a_N a_N_inverses a_N_roots N_p] := by
  refine x_CV_of (cc := cX2_take) (maxL := 7) (own := RX2) (lv0 := [(0, .ref a_t), (1, .int i1), (2, .int i2), (3, .int i3), (4, .int i4), (5, .int i5), (6, .int i6)]) (by decide) rfl rfl (Nat.le_of_ble_eq_true rfl) rfl ?_
  intro p e s m args below meth c A Q ls hx hb hml hown hts hN hK hP hD hS hA hl hret
  have iX2 : ∀ w ∈ u_ws RX2 TX2 7, w ∈ wsX2_take := by decide +kernel
  have l7 := hts (.fieldLink RX2 7 "ChordRings$Form" "numbers" "LChordRings$Numbers;") (by decide +kernel)
  have l19 := hts (.fieldLink RX2 19 "ChordRings$Form" "a" "I") (by decide +kernel)
  have l23 := hts (.fieldLink RX2 23 "ChordRings$Form" "b" "I") (by decide +kernel)
  have l26 := hts (.fieldLink RX2 26 "ChordRings$Form" "c" "I") (by decide +kernel)
  have l29 := hts (.fieldLink RX2 29 "ChordRings$Form" "d" "I") (by decide +kernel)
  have l32 := hts (.fieldLink RX2 32 "ChordRings$Form" "e" "I") (by decide +kernel)
  have l35 := hts (.fieldLink RX2 35 "ChordRings$Form" "f" "I") (by decide +kernel)
  unfold fX2_take at hf
  refine lv_aload_n hx hb dX2_take_0 rfl (lv_at hl 0 rfl) ?_
  refine lv_aload_n hx hb dX2_take_1 rfl (lv_at hl 0 rfl) ?_
  refine va_get (D := D) (ci := 2) (C := RX2) (T := TX2) (N := 7) hx hb hts iX2 hown hK hP 0 rfl rfl 0 (by decide) l7 (fun _ h9 => h9) rfl dX2_take_2 ?_
  refine lv_iload_n hx hb dX2_take_5 rfl (lv_at hl 1 rfl) ?_
  obtain ⟨v1, hv1, hf⟩ := o_b1 hf
  refine x_vi (rest := [.ref a_t]) (W1 := [x_o2 a_t a_N t_a t_b t_c t_d t_e t_f, x_o4 a_N a_N_inverses a_N_roots N_p]) ⟨hx, hb, hml, hown, hts⟩ (tX4_rest l D cI a_N a_N_inverses a_N_roots N_p i1 v1 hv1) (cwV 1 hts gX2_take_X4_rest rfl rfl rfl (by decide +kernel) ⟨Nat.le_of_ble_eq_true rfl, Nat.le_of_ble_eq_true rfl⟩) hN hK hP hD hS hA [1] [none, some 0] rfl rfl rfl rfl rfl rfl 0 rfl rfl rfl hl.1 rfl (Nat.le_of_ble_eq_true rfl) dX2_take_6 ⟨Nat.zero_le _, Nat.zero_le _⟩ (fun H locs hP hD hS => ?_)
  refine x_put (W1 := [x_o2 a_t a_N v1 t_b t_c t_d t_e t_f, x_o4 a_N a_N_inverses a_N_roots N_p]) (ty := .int) (C := RX2) (T := TX2) (N := 7) hx hb hts iX2 tyX2 tyX2_ok nmX2 hown hK hP hD hS 0 rfl rfl 1 (by decide) l19 rfl rfl (by decide +kernel) rfl rfl (Nat.le_of_ble_eq_true rfl) rfl dX2_take_9 (fun H locs hP hD hS => ?_)
  refine lv_aload_n hx hb dX2_take_12 rfl (lv_at hl 0 rfl) ?_
  refine lv_aload_n hx hb dX2_take_13 rfl (lv_at hl 0 rfl) ?_
  refine va_get (D := D) (ci := 2) (C := RX2) (T := TX2) (N := 7) hx hb hts iX2 hown hK hP 0 rfl rfl 0 (by decide) l7 (fun _ h9 => h9) rfl dX2_take_14 ?_
  refine lv_iload_n hx hb dX2_take_17 rfl (lv_at hl 2 rfl) ?_
  obtain ⟨v2, hv2, hf⟩ := o_b1 hf
  refine x_vi (rest := [.ref a_t]) (W1 := [x_o2 a_t a_N v1 t_b t_c t_d t_e t_f, x_o4 a_N a_N_inverses a_N_roots N_p]) ⟨hx, hb, hml, hown, hts⟩ (tX4_rest l D cI a_N a_N_inverses a_N_roots N_p i2 v2 hv2) (cwV 1 hts gX2_take_X4_rest rfl rfl rfl (by decide +kernel) ⟨Nat.le_of_ble_eq_true rfl, Nat.le_of_ble_eq_true rfl⟩) hN hK hP hD hS hA [1] [none, some 0] rfl rfl rfl rfl rfl rfl 0 rfl rfl rfl hl.1 rfl (Nat.le_of_ble_eq_true rfl) dX2_take_18 ⟨Nat.zero_le _, Nat.zero_le _⟩ (fun H locs hP hD hS => ?_)
  refine x_put (W1 := [x_o2 a_t a_N v1 v2 t_c t_d t_e t_f, x_o4 a_N a_N_inverses a_N_roots N_p]) (ty := .int) (C := RX2) (T := TX2) (N := 7) hx hb hts iX2 tyX2 tyX2_ok nmX2 hown hK hP hD hS 0 rfl rfl 2 (by decide) l23 rfl rfl (by decide +kernel) rfl rfl (Nat.le_of_ble_eq_true rfl) rfl dX2_take_21 (fun H locs hP hD hS => ?_)
  refine lv_aload_n hx hb dX2_take_24 rfl (lv_at hl 0 rfl) ?_
  refine lv_aload_n hx hb dX2_take_25 rfl (lv_at hl 0 rfl) ?_
  refine va_get (D := D) (ci := 2) (C := RX2) (T := TX2) (N := 7) hx hb hts iX2 hown hK hP 0 rfl rfl 0 (by decide) l7 (fun _ h9 => h9) rfl dX2_take_26 ?_
  refine lv_iload_n hx hb dX2_take_29 rfl (lv_at hl 3 rfl) ?_
  obtain ⟨v3, hv3, hf⟩ := o_b1 hf
  refine x_vi (rest := [.ref a_t]) (W1 := [x_o2 a_t a_N v1 v2 t_c t_d t_e t_f, x_o4 a_N a_N_inverses a_N_roots N_p]) ⟨hx, hb, hml, hown, hts⟩ (tX4_rest l D cI a_N a_N_inverses a_N_roots N_p i3 v3 hv3) (cwV 1 hts gX2_take_X4_rest rfl rfl rfl (by decide +kernel) ⟨Nat.le_of_ble_eq_true rfl, Nat.le_of_ble_eq_true rfl⟩) hN hK hP hD hS hA [1] [none, some 0] rfl rfl rfl rfl rfl rfl 0 rfl rfl rfl hl.1 rfl (Nat.le_of_ble_eq_true rfl) dX2_take_30 ⟨Nat.zero_le _, Nat.zero_le _⟩ (fun H locs hP hD hS => ?_)
  refine x_put (W1 := [x_o2 a_t a_N v1 v2 v3 t_d t_e t_f, x_o4 a_N a_N_inverses a_N_roots N_p]) (ty := .int) (C := RX2) (T := TX2) (N := 7) hx hb hts iX2 tyX2 tyX2_ok nmX2 hown hK hP hD hS 0 rfl rfl 3 (by decide) l26 rfl rfl (by decide +kernel) rfl rfl (Nat.le_of_ble_eq_true rfl) rfl dX2_take_33 (fun H locs hP hD hS => ?_)
  refine lv_aload_n hx hb dX2_take_36 rfl (lv_at hl 0 rfl) ?_
  refine lv_aload_n hx hb dX2_take_37 rfl (lv_at hl 0 rfl) ?_
  refine va_get (D := D) (ci := 2) (C := RX2) (T := TX2) (N := 7) hx hb hts iX2 hown hK hP 0 rfl rfl 0 (by decide) l7 (fun _ h9 => h9) rfl dX2_take_38 ?_
  refine lv_iload hx hb dX2_take_41 (lv_at hl 4 rfl) ?_
  obtain ⟨v4, hv4, hf⟩ := o_b1 hf
  refine x_vi (rest := [.ref a_t]) (W1 := [x_o2 a_t a_N v1 v2 v3 t_d t_e t_f, x_o4 a_N a_N_inverses a_N_roots N_p]) ⟨hx, hb, hml, hown, hts⟩ (tX4_rest l D cI a_N a_N_inverses a_N_roots N_p i4 v4 hv4) (cwV 1 hts gX2_take_X4_rest rfl rfl rfl (by decide +kernel) ⟨Nat.le_of_ble_eq_true rfl, Nat.le_of_ble_eq_true rfl⟩) hN hK hP hD hS hA [1] [none, some 0] rfl rfl rfl rfl rfl rfl 0 rfl rfl rfl hl.1 rfl (Nat.le_of_ble_eq_true rfl) dX2_take_43 ⟨Nat.zero_le _, Nat.zero_le _⟩ (fun H locs hP hD hS => ?_)
  refine x_put (W1 := [x_o2 a_t a_N v1 v2 v3 v4 t_e t_f, x_o4 a_N a_N_inverses a_N_roots N_p]) (ty := .int) (C := RX2) (T := TX2) (N := 7) hx hb hts iX2 tyX2 tyX2_ok nmX2 hown hK hP hD hS 0 rfl rfl 4 (by decide) l29 rfl rfl (by decide +kernel) rfl rfl (Nat.le_of_ble_eq_true rfl) rfl dX2_take_46 (fun H locs hP hD hS => ?_)
  refine lv_aload_n hx hb dX2_take_49 rfl (lv_at hl 0 rfl) ?_
  refine lv_aload_n hx hb dX2_take_50 rfl (lv_at hl 0 rfl) ?_
  refine va_get (D := D) (ci := 2) (C := RX2) (T := TX2) (N := 7) hx hb hts iX2 hown hK hP 0 rfl rfl 0 (by decide) l7 (fun _ h9 => h9) rfl dX2_take_51 ?_
  refine lv_iload hx hb dX2_take_54 (lv_at hl 5 rfl) ?_
  obtain ⟨v5, hv5, hf⟩ := o_b1 hf
  refine x_vi (rest := [.ref a_t]) (W1 := [x_o2 a_t a_N v1 v2 v3 v4 t_e t_f, x_o4 a_N a_N_inverses a_N_roots N_p]) ⟨hx, hb, hml, hown, hts⟩ (tX4_rest l D cI a_N a_N_inverses a_N_roots N_p i5 v5 hv5) (cwV 1 hts gX2_take_X4_rest rfl rfl rfl (by decide +kernel) ⟨Nat.le_of_ble_eq_true rfl, Nat.le_of_ble_eq_true rfl⟩) hN hK hP hD hS hA [1] [none, some 0] rfl rfl rfl rfl rfl rfl 0 rfl rfl rfl hl.1 rfl (Nat.le_of_ble_eq_true rfl) dX2_take_56 ⟨Nat.zero_le _, Nat.zero_le _⟩ (fun H locs hP hD hS => ?_)
  refine x_put (W1 := [x_o2 a_t a_N v1 v2 v3 v4 v5 t_f, x_o4 a_N a_N_inverses a_N_roots N_p]) (ty := .int) (C := RX2) (T := TX2) (N := 7) hx hb hts iX2 tyX2 tyX2_ok nmX2 hown hK hP hD hS 0 rfl rfl 5 (by decide) l32 rfl rfl (by decide +kernel) rfl rfl (Nat.le_of_ble_eq_true rfl) rfl dX2_take_59 (fun H locs hP hD hS => ?_)
  refine lv_aload_n hx hb dX2_take_62 rfl (lv_at hl 0 rfl) ?_
  refine lv_aload_n hx hb dX2_take_63 rfl (lv_at hl 0 rfl) ?_
  refine va_get (D := D) (ci := 2) (C := RX2) (T := TX2) (N := 7) hx hb hts iX2 hown hK hP 0 rfl rfl 0 (by decide) l7 (fun _ h9 => h9) rfl dX2_take_64 ?_
  refine lv_iload hx hb dX2_take_67 (lv_at hl 6 rfl) ?_
  obtain ⟨v6, hv6, hf⟩ := o_b1 hf
  refine x_vi (rest := [.ref a_t]) (W1 := [x_o2 a_t a_N v1 v2 v3 v4 v5 t_f, x_o4 a_N a_N_inverses a_N_roots N_p]) ⟨hx, hb, hml, hown, hts⟩ (tX4_rest l D cI a_N a_N_inverses a_N_roots N_p i6 v6 hv6) (cwV 1 hts gX2_take_X4_rest rfl rfl rfl (by decide +kernel) ⟨Nat.le_of_ble_eq_true rfl, Nat.le_of_ble_eq_true rfl⟩) hN hK hP hD hS hA [1] [none, some 0] rfl rfl rfl rfl rfl rfl 0 rfl rfl rfl hl.1 rfl (Nat.le_of_ble_eq_true rfl) dX2_take_69 ⟨Nat.zero_le _, Nat.zero_le _⟩ (fun H locs hP hD hS => ?_)
  refine x_put (W1 := [x_o2 a_t a_N v1 v2 v3 v4 v5 v6, x_o4 a_N a_N_inverses a_N_roots N_p]) (ty := .int) (C := RX2) (T := TX2) (N := 7) hx hb hts iX2 tyX2 tyX2_ok nmX2 hown hK hP hD hS 0 rfl rfl 6 (by decide) l35 rfl rfl (by decide +kernel) rfl rfl (Nat.le_of_ble_eq_true rfl) rfl dX2_take_72 (fun H locs hP hD hS => ?_)
  obtain ⟨rfl, rfl, rfl, rfl, rfl, rfl⟩ := o_s6 hf
  exact hret dX2_take_75 hP hD hS
noncomputable def fX2_against (t_a : Int32) (t_b : Int32) (t_c : Int32) (t_d : Int32) (t_e : Int32) (t_f : Int32) (b1_a : Int32) (b1_b : Int32) (b1_c : Int32) (b1_d : Int32) (b1_e : Int32) (b1_f : Int32) (N_p : Int32) : Option (Int32) :=
  p_b1 (fX4_rest N_p ((((t_a * b1_a) + (t_b * b1_b)) + (t_c * b1_c)) + (2 * (((t_d * b1_d) + (t_e * b1_e)) + (t_f * b1_f))))) (fun v1 =>
some v1)
def rmX2_against : Room := { frames := 1, cells := 0, slots := 0, locals := 22 }
set_option maxHeartbeats 4000000 in
set_option maxRecDepth 100000 in
theorem tX2_against (l : Launch) (D : va_G) (cI : ClassId) (a_t : Nat) (a_b1 : Nat) (a_N : Nat) (a_N_inverses : Nat) (a_N_roots : Nat) (t_a : Int32) (t_b : Int32) (t_c : Int32) (t_d : Int32) (t_e : Int32) (t_f : Int32) (b1_a : Int32) (b1_b : Int32) (b1_c : Int32) (b1_d : Int32) (b1_e : Int32) (b1_f : Int32) (N_p : Int32) (r : Int32) (hf : fX2_against t_a t_b t_c t_d t_e t_f b1_a b1_b b1_c b1_d b1_e b1_f N_p = some r) : x_CI l D cI yX2_against wsX2_against rmX2_against [.ref a_t, .ref a_b1] [x_o2 a_t a_N t_a t_b t_c t_d t_e t_f, x_o2 a_b1 a_N b1_a b1_b b1_c b1_d b1_e b1_f, x_o4 a_N a_N_inverses a_N_roots N_p] [x_o2 a_t a_N t_a t_b t_c t_d t_e t_f, x_o2 a_b1 a_N b1_a b1_b b1_c b1_d b1_e b1_f, x_o4 a_N a_N_inverses a_N_roots N_p] r := by
  refine x_CI_of (cc := cX2_against) (maxL := 2) (ty := .int) (own := RX2) (lv0 := [(0, .ref a_t), (1, .ref a_b1)]) (by decide) rfl rfl (Nat.le_of_ble_eq_true rfl) rfl ?_
  intro p e s m args below meth c A Q ls hx hb hml hown hts hN hK hP hD hS hA hl hret
  have iX2 : ∀ w ∈ u_ws RX2 TX2 7, w ∈ wsX2_against := by decide +kernel
  have l7 := hts (.fieldLink RX2 7 "ChordRings$Form" "numbers" "LChordRings$Numbers;") (by decide +kernel)
  have l19 := hts (.fieldLink RX2 19 "ChordRings$Form" "a" "I") (by decide +kernel)
  have l23 := hts (.fieldLink RX2 23 "ChordRings$Form" "b" "I") (by decide +kernel)
  have l26 := hts (.fieldLink RX2 26 "ChordRings$Form" "c" "I") (by decide +kernel)
  have l29 := hts (.fieldLink RX2 29 "ChordRings$Form" "d" "I") (by decide +kernel)
  have l32 := hts (.fieldLink RX2 32 "ChordRings$Form" "e" "I") (by decide +kernel)
  have l35 := hts (.fieldLink RX2 35 "ChordRings$Form" "f" "I") (by decide +kernel)
  unfold fX2_against at hf
  refine lv_aload_n hx hb dX2_against_0 rfl (lv_at hl 0 rfl) ?_
  refine va_get (D := D) (ci := 2) (C := RX2) (T := TX2) (N := 7) hx hb hts iX2 hown hK hP 0 rfl rfl 0 (by decide) l7 (fun _ h9 => h9) rfl dX2_against_1 ?_
  refine lv_aload_n hx hb dX2_against_4 rfl (lv_at hl 0 rfl) ?_
  refine va_get (D := D) (ci := 2) (C := RX2) (T := TX2) (N := 7) hx hb hts iX2 hown hK hP 0 rfl rfl 1 (by decide) l19 (fun _ h9 => h9) rfl dX2_against_5 ?_
  refine lv_aload_n hx hb dX2_against_8 rfl (lv_at hl 1 rfl) ?_
  refine va_get (D := D) (ci := 2) (C := RX2) (T := TX2) (N := 7) hx hb hts iX2 hown hK hP 1 rfl rfl 1 (by decide) l19 (fun _ h9 => h9) rfl dX2_against_9 ?_
  refine lv_imul hx hb dX2_against_12 ?_
  refine lv_aload_n hx hb dX2_against_13 rfl (lv_at hl 0 rfl) ?_
  refine va_get (D := D) (ci := 2) (C := RX2) (T := TX2) (N := 7) hx hb hts iX2 hown hK hP 0 rfl rfl 2 (by decide) l23 (fun _ h9 => h9) rfl dX2_against_14 ?_
  refine lv_aload_n hx hb dX2_against_17 rfl (lv_at hl 1 rfl) ?_
  refine va_get (D := D) (ci := 2) (C := RX2) (T := TX2) (N := 7) hx hb hts iX2 hown hK hP 1 rfl rfl 2 (by decide) l23 (fun _ h9 => h9) rfl dX2_against_18 ?_
  refine lv_imul hx hb dX2_against_21 ?_
  refine lv_iadd hx hb dX2_against_22 ?_
  refine lv_aload_n hx hb dX2_against_23 rfl (lv_at hl 0 rfl) ?_
  refine va_get (D := D) (ci := 2) (C := RX2) (T := TX2) (N := 7) hx hb hts iX2 hown hK hP 0 rfl rfl 3 (by decide) l26 (fun _ h9 => h9) rfl dX2_against_24 ?_
  refine lv_aload_n hx hb dX2_against_27 rfl (lv_at hl 1 rfl) ?_
  refine va_get (D := D) (ci := 2) (C := RX2) (T := TX2) (N := 7) hx hb hts iX2 hown hK hP 1 rfl rfl 3 (by decide) l26 (fun _ h9 => h9) rfl dX2_against_28 ?_
  refine lv_imul hx hb dX2_against_31 ?_
  refine lv_iadd hx hb dX2_against_32 ?_
  refine lv_iconst (v := 2) hx hb dX2_against_33 (by decide) ?_
  refine lv_aload_n hx hb dX2_against_34 rfl (lv_at hl 0 rfl) ?_
  refine va_get (D := D) (ci := 2) (C := RX2) (T := TX2) (N := 7) hx hb hts iX2 hown hK hP 0 rfl rfl 4 (by decide) l29 (fun _ h9 => h9) rfl dX2_against_35 ?_
  refine lv_aload_n hx hb dX2_against_38 rfl (lv_at hl 1 rfl) ?_
  refine va_get (D := D) (ci := 2) (C := RX2) (T := TX2) (N := 7) hx hb hts iX2 hown hK hP 1 rfl rfl 4 (by decide) l29 (fun _ h9 => h9) rfl dX2_against_39 ?_
  refine lv_imul hx hb dX2_against_42 ?_
  refine lv_aload_n hx hb dX2_against_43 rfl (lv_at hl 0 rfl) ?_
  refine va_get (D := D) (ci := 2) (C := RX2) (T := TX2) (N := 7) hx hb hts iX2 hown hK hP 0 rfl rfl 5 (by decide) l32 (fun _ h9 => h9) rfl dX2_against_44 ?_
  refine lv_aload_n hx hb dX2_against_47 rfl (lv_at hl 1 rfl) ?_
  refine va_get (D := D) (ci := 2) (C := RX2) (T := TX2) (N := 7) hx hb hts iX2 hown hK hP 1 rfl rfl 5 (by decide) l32 (fun _ h9 => h9) rfl dX2_against_48 ?_
  refine lv_imul hx hb dX2_against_51 ?_
  refine lv_iadd hx hb dX2_against_52 ?_
  refine lv_aload_n hx hb dX2_against_53 rfl (lv_at hl 0 rfl) ?_
  refine va_get (D := D) (ci := 2) (C := RX2) (T := TX2) (N := 7) hx hb hts iX2 hown hK hP 0 rfl rfl 6 (by decide) l35 (fun _ h9 => h9) rfl dX2_against_54 ?_
  refine lv_aload_n hx hb dX2_against_57 rfl (lv_at hl 1 rfl) ?_
  refine va_get (D := D) (ci := 2) (C := RX2) (T := TX2) (N := 7) hx hb hts iX2 hown hK hP 1 rfl rfl 6 (by decide) l35 (fun _ h9 => h9) rfl dX2_against_58 ?_
  refine lv_imul hx hb dX2_against_61 ?_
  refine lv_iadd hx hb dX2_against_62 ?_
  refine lv_imul hx hb dX2_against_63 ?_
  refine lv_iadd hx hb dX2_against_64 ?_
  obtain ⟨v1, hv1, hf⟩ := o_b1 hf
  refine x_vi (rest := []) (W1 := [x_o2 a_t a_N t_a t_b t_c t_d t_e t_f, x_o2 a_b1 a_N b1_a b1_b b1_c b1_d b1_e b1_f, x_o4 a_N a_N_inverses a_N_roots N_p]) ⟨hx, hb, hml, hown, hts⟩ (tX4_rest l D cI a_N a_N_inverses a_N_roots N_p ((((t_a * b1_a) + (t_b * b1_b)) + (t_c * b1_c)) + (2 * (((t_d * b1_d) + (t_e * b1_e)) + (t_f * b1_f)))) v1 hv1) (cwV 1 hts gX2_against_X4_rest rfl rfl rfl (by decide +kernel) ⟨Nat.le_of_ble_eq_true rfl, Nat.le_of_ble_eq_true rfl⟩) hN hK hP hD hS hA [2] [none, none, some 0] rfl rfl rfl rfl rfl rfl 0 rfl rfl rfl hl.1 rfl (Nat.le_of_ble_eq_true rfl) dX2_against_65 ⟨Nat.zero_le _, Nat.zero_le _⟩ (fun H locs hP hD hS => ?_)
  obtain rfl := Option.some.inj hf
  exact hret rfl rfl dX2_against_68 hP hD hS
noncomputable def fX2_wholeDeterminant (t_a : Int32) (t_b : Int32) (t_c : Int32) (t_d : Int32) (t_e : Int32) (t_f : Int32) (N_p : Int32) : Option (Int32) :=
  p_b1 (fX4_rest N_p (((t_a * ((t_b * t_c) - (t_d * t_d))) + (t_f * ((t_d * t_e) - (t_c * t_f)))) + (t_e * ((t_d * t_f) - (t_b * t_e))))) (fun v1 =>
some v1)
def rmX2_wholeDeterminant : Room := { frames := 1, cells := 0, slots := 0, locals := 22 }
set_option maxHeartbeats 4000000 in
set_option maxRecDepth 100000 in
theorem tX2_wholeDeterminant (l : Launch) (D : va_G) (cI : ClassId) (a_t : Nat) (a_N : Nat) (a_N_inverses : Nat) (a_N_roots : Nat) (t_a : Int32) (t_b : Int32) (t_c : Int32) (t_d : Int32) (t_e : Int32) (t_f : Int32) (N_p : Int32) (r : Int32) (hf : fX2_wholeDeterminant t_a t_b t_c t_d t_e t_f N_p = some r) : x_CI l D cI yX2_wholeDeterminant wsX2_wholeDeterminant rmX2_wholeDeterminant [.ref a_t] [x_o2 a_t a_N t_a t_b t_c t_d t_e t_f, x_o4 a_N a_N_inverses a_N_roots N_p] [x_o2 a_t a_N t_a t_b t_c t_d t_e t_f, x_o4 a_N a_N_inverses a_N_roots N_p] r := by
  refine x_CI_of (cc := cX2_wholeDeterminant) (maxL := 1) (ty := .int) (own := RX2) (lv0 := [(0, .ref a_t)]) (by decide) rfl rfl (Nat.le_of_ble_eq_true rfl) rfl ?_
  intro p e s m args below meth c A Q ls hx hb hml hown hts hN hK hP hD hS hA hl hret
  have iX2 : ∀ w ∈ u_ws RX2 TX2 7, w ∈ wsX2_wholeDeterminant := by decide +kernel
  have l7 := hts (.fieldLink RX2 7 "ChordRings$Form" "numbers" "LChordRings$Numbers;") (by decide +kernel)
  have l19 := hts (.fieldLink RX2 19 "ChordRings$Form" "a" "I") (by decide +kernel)
  have l23 := hts (.fieldLink RX2 23 "ChordRings$Form" "b" "I") (by decide +kernel)
  have l26 := hts (.fieldLink RX2 26 "ChordRings$Form" "c" "I") (by decide +kernel)
  have l29 := hts (.fieldLink RX2 29 "ChordRings$Form" "d" "I") (by decide +kernel)
  have l35 := hts (.fieldLink RX2 35 "ChordRings$Form" "f" "I") (by decide +kernel)
  have l32 := hts (.fieldLink RX2 32 "ChordRings$Form" "e" "I") (by decide +kernel)
  unfold fX2_wholeDeterminant at hf
  refine lv_aload_n hx hb dX2_wholeDeterminant_0 rfl (lv_at hl 0 rfl) ?_
  refine va_get (D := D) (ci := 2) (C := RX2) (T := TX2) (N := 7) hx hb hts iX2 hown hK hP 0 rfl rfl 0 (by decide) l7 (fun _ h9 => h9) rfl dX2_wholeDeterminant_1 ?_
  refine lv_aload_n hx hb dX2_wholeDeterminant_4 rfl (lv_at hl 0 rfl) ?_
  refine va_get (D := D) (ci := 2) (C := RX2) (T := TX2) (N := 7) hx hb hts iX2 hown hK hP 0 rfl rfl 1 (by decide) l19 (fun _ h9 => h9) rfl dX2_wholeDeterminant_5 ?_
  refine lv_aload_n hx hb dX2_wholeDeterminant_8 rfl (lv_at hl 0 rfl) ?_
  refine va_get (D := D) (ci := 2) (C := RX2) (T := TX2) (N := 7) hx hb hts iX2 hown hK hP 0 rfl rfl 2 (by decide) l23 (fun _ h9 => h9) rfl dX2_wholeDeterminant_9 ?_
  refine lv_aload_n hx hb dX2_wholeDeterminant_12 rfl (lv_at hl 0 rfl) ?_
  refine va_get (D := D) (ci := 2) (C := RX2) (T := TX2) (N := 7) hx hb hts iX2 hown hK hP 0 rfl rfl 3 (by decide) l26 (fun _ h9 => h9) rfl dX2_wholeDeterminant_13 ?_
  refine lv_imul hx hb dX2_wholeDeterminant_16 ?_
  refine lv_aload_n hx hb dX2_wholeDeterminant_17 rfl (lv_at hl 0 rfl) ?_
  refine va_get (D := D) (ci := 2) (C := RX2) (T := TX2) (N := 7) hx hb hts iX2 hown hK hP 0 rfl rfl 4 (by decide) l29 (fun _ h9 => h9) rfl dX2_wholeDeterminant_18 ?_
  refine lv_aload_n hx hb dX2_wholeDeterminant_21 rfl (lv_at hl 0 rfl) ?_
  refine va_get (D := D) (ci := 2) (C := RX2) (T := TX2) (N := 7) hx hb hts iX2 hown hK hP 0 rfl rfl 4 (by decide) l29 (fun _ h9 => h9) rfl dX2_wholeDeterminant_22 ?_
  refine lv_imul hx hb dX2_wholeDeterminant_25 ?_
  refine lv_isub hx hb dX2_wholeDeterminant_26 ?_
  refine lv_imul hx hb dX2_wholeDeterminant_27 ?_
  refine lv_aload_n hx hb dX2_wholeDeterminant_28 rfl (lv_at hl 0 rfl) ?_
  refine va_get (D := D) (ci := 2) (C := RX2) (T := TX2) (N := 7) hx hb hts iX2 hown hK hP 0 rfl rfl 6 (by decide) l35 (fun _ h9 => h9) rfl dX2_wholeDeterminant_29 ?_
  refine lv_aload_n hx hb dX2_wholeDeterminant_32 rfl (lv_at hl 0 rfl) ?_
  refine va_get (D := D) (ci := 2) (C := RX2) (T := TX2) (N := 7) hx hb hts iX2 hown hK hP 0 rfl rfl 4 (by decide) l29 (fun _ h9 => h9) rfl dX2_wholeDeterminant_33 ?_
  refine lv_aload_n hx hb dX2_wholeDeterminant_36 rfl (lv_at hl 0 rfl) ?_
  refine va_get (D := D) (ci := 2) (C := RX2) (T := TX2) (N := 7) hx hb hts iX2 hown hK hP 0 rfl rfl 5 (by decide) l32 (fun _ h9 => h9) rfl dX2_wholeDeterminant_37 ?_
  refine lv_imul hx hb dX2_wholeDeterminant_40 ?_
  refine lv_aload_n hx hb dX2_wholeDeterminant_41 rfl (lv_at hl 0 rfl) ?_
  refine va_get (D := D) (ci := 2) (C := RX2) (T := TX2) (N := 7) hx hb hts iX2 hown hK hP 0 rfl rfl 3 (by decide) l26 (fun _ h9 => h9) rfl dX2_wholeDeterminant_42 ?_
  refine lv_aload_n hx hb dX2_wholeDeterminant_45 rfl (lv_at hl 0 rfl) ?_
  refine va_get (D := D) (ci := 2) (C := RX2) (T := TX2) (N := 7) hx hb hts iX2 hown hK hP 0 rfl rfl 6 (by decide) l35 (fun _ h9 => h9) rfl dX2_wholeDeterminant_46 ?_
  refine lv_imul hx hb dX2_wholeDeterminant_49 ?_
  refine lv_isub hx hb dX2_wholeDeterminant_50 ?_
  refine lv_imul hx hb dX2_wholeDeterminant_51 ?_
  refine lv_iadd hx hb dX2_wholeDeterminant_52 ?_
  refine lv_aload_n hx hb dX2_wholeDeterminant_53 rfl (lv_at hl 0 rfl) ?_
  refine va_get (D := D) (ci := 2) (C := RX2) (T := TX2) (N := 7) hx hb hts iX2 hown hK hP 0 rfl rfl 5 (by decide) l32 (fun _ h9 => h9) rfl dX2_wholeDeterminant_54 ?_
  refine lv_aload_n hx hb dX2_wholeDeterminant_57 rfl (lv_at hl 0 rfl) ?_
  refine va_get (D := D) (ci := 2) (C := RX2) (T := TX2) (N := 7) hx hb hts iX2 hown hK hP 0 rfl rfl 4 (by decide) l29 (fun _ h9 => h9) rfl dX2_wholeDeterminant_58 ?_
  refine lv_aload_n hx hb dX2_wholeDeterminant_61 rfl (lv_at hl 0 rfl) ?_
  refine va_get (D := D) (ci := 2) (C := RX2) (T := TX2) (N := 7) hx hb hts iX2 hown hK hP 0 rfl rfl 6 (by decide) l35 (fun _ h9 => h9) rfl dX2_wholeDeterminant_62 ?_
  refine lv_imul hx hb dX2_wholeDeterminant_65 ?_
  refine lv_aload_n hx hb dX2_wholeDeterminant_66 rfl (lv_at hl 0 rfl) ?_
  refine va_get (D := D) (ci := 2) (C := RX2) (T := TX2) (N := 7) hx hb hts iX2 hown hK hP 0 rfl rfl 2 (by decide) l23 (fun _ h9 => h9) rfl dX2_wholeDeterminant_67 ?_
  refine lv_aload_n hx hb dX2_wholeDeterminant_70 rfl (lv_at hl 0 rfl) ?_
  refine va_get (D := D) (ci := 2) (C := RX2) (T := TX2) (N := 7) hx hb hts iX2 hown hK hP 0 rfl rfl 5 (by decide) l32 (fun _ h9 => h9) rfl dX2_wholeDeterminant_71 ?_
  refine lv_imul hx hb dX2_wholeDeterminant_74 ?_
  refine lv_isub hx hb dX2_wholeDeterminant_75 ?_
  refine lv_imul hx hb dX2_wholeDeterminant_76 ?_
  refine lv_iadd hx hb dX2_wholeDeterminant_77 ?_
  obtain ⟨v1, hv1, hf⟩ := o_b1 hf
  refine x_vi (rest := []) (W1 := [x_o2 a_t a_N t_a t_b t_c t_d t_e t_f, x_o4 a_N a_N_inverses a_N_roots N_p]) ⟨hx, hb, hml, hown, hts⟩ (tX4_rest l D cI a_N a_N_inverses a_N_roots N_p (((t_a * ((t_b * t_c) - (t_d * t_d))) + (t_f * ((t_d * t_e) - (t_c * t_f)))) + (t_e * ((t_d * t_f) - (t_b * t_e)))) v1 hv1) (cwV 1 hts gX2_wholeDeterminant_X4_rest rfl rfl rfl (by decide +kernel) ⟨Nat.le_of_ble_eq_true rfl, Nat.le_of_ble_eq_true rfl⟩) hN hK hP hD hS hA [1] [none, some 0] rfl rfl rfl rfl rfl rfl 0 rfl rfl rfl hl.1 rfl (Nat.le_of_ble_eq_true rfl) dX2_wholeDeterminant_78 ⟨Nat.zero_le _, Nat.zero_le _⟩ (fun H locs hP hD hS => ?_)
  obtain rfl := Option.some.inj hf
  exact hret rfl rfl dX2_wholeDeterminant_81 hP hD hS
noncomputable def fX0_take (t_c0 : Int32) (t_c1 : Int32) (t_c2 : Int32) (t_c3 : Int32) (b1_a : Int32) (b1_b : Int32) (b1_c : Int32) (b1_d : Int32) (b1_e : Int32) (b1_f : Int32) (b2_a : Int32) (b2_b : Int32) (b2_c : Int32) (b2_d : Int32) (b2_e : Int32) (b2_f : Int32) (b3_a : Int32) (b3_b : Int32) (b3_c : Int32) (b3_d : Int32) (b3_e : Int32) (b3_f : Int32) (b4_a : Int32) (b4_b : Int32) (b4_c : Int32) (b4_d : Int32) (b4_e : Int32) (b4_f : Int32) (N_p : Int32) : Option (Int32 × Int32 × Int32 × Int32) :=
  p_b1 (fX2_wholeDeterminant b3_a b3_b b3_c b3_d b3_e b3_f N_p) (fun v1 =>
p_b1 (fX2_against b4_a b4_b b4_c b4_d b4_e b4_f b1_a b1_b b1_c b1_d b1_e b1_f N_p) (fun v2 =>
p_b1 (fX2_against b2_a b2_b b2_c b2_d b2_e b2_f b3_a b3_b b3_c b3_d b3_e b3_f N_p) (fun v3 =>
p_b1 (fX2_wholeDeterminant b1_a b1_b b1_c b1_d b1_e b1_f N_p) (fun v4 =>
some (v1, v2, v3, v4)))))
def rmX0_take : Room := { frames := 2, cells := 0, slots := 0, locals := 43 }
set_option maxHeartbeats 4000000 in
set_option maxRecDepth 100000 in
theorem tX0_take (l : Launch) (D : va_G) (cI : ClassId) (a_t : Nat) (a_b1 : Nat) (a_b2 : Nat) (a_b3 : Nat) (a_b4 : Nat) (a_N : Nat) (a_N_inverses : Nat) (a_N_roots : Nat) (t_c0 : Int32) (t_c1 : Int32) (t_c2 : Int32) (t_c3 : Int32) (b1_a : Int32) (b1_b : Int32) (b1_c : Int32) (b1_d : Int32) (b1_e : Int32) (b1_f : Int32) (b2_a : Int32) (b2_b : Int32) (b2_c : Int32) (b2_d : Int32) (b2_e : Int32) (b2_f : Int32) (b3_a : Int32) (b3_b : Int32) (b3_c : Int32) (b3_d : Int32) (b3_e : Int32) (b3_f : Int32) (b4_a : Int32) (b4_b : Int32) (b4_c : Int32) (b4_d : Int32) (b4_e : Int32) (b4_f : Int32) (N_p : Int32) (s_t_c0 : Int32) (s_t_c1 : Int32) (s_t_c2 : Int32) (s_t_c3 : Int32) (hf : fX0_take t_c0 t_c1 t_c2 t_c3 b1_a b1_b b1_c b1_d b1_e b1_f b2_a b2_b b2_c b2_d b2_e b2_f b3_a b3_b b3_c b3_d b3_e b3_f b4_a b4_b b4_c b4_d b4_e b4_f N_p = some (s_t_c0, s_t_c1, s_t_c2, s_t_c3)) : x_CV l D cI yX0_take wsX0_take rmX0_take [.ref a_t, .ref a_b1, .ref a_b2, .ref a_b3, .ref a_b4] [x_o0 a_t a_N t_c0 t_c1 t_c2 t_c3, x_o2 a_b1 a_N b1_a b1_b b1_c b1_d b1_e b1_f, x_o2 a_b2 a_N b2_a b2_b b2_c b2_d b2_e b2_f, x_o2 a_b3 a_N b3_a b3_b b3_c b3_d b3_e b3_f, x_o2 a_b4 a_N b4_a b4_b b4_c b4_d b4_e b4_f, x_o4 a_N a_N_inverses a_N_roots N_p] [x_o0 a_t a_N s_t_c0 s_t_c1 s_t_c2 s_t_c3, x_o2 a_b1 a_N b1_a b1_b b1_c b1_d b1_e b1_f, x_o2 a_b2 a_N b2_a b2_b b2_c b2_d b2_e b2_f, x_o2 a_b3 a_N b3_a b3_b b3_c b3_d b3_e b3_f, x_o2 a_b4 a_N b4_a b4_b b4_c b4_d b4_e b4_f, x_o4 a_N a_N_inverses a_N_roots N_p] := by
  refine x_CV_of (cc := cX0_take) (maxL := 5) (own := RX0) (lv0 := [(0, .ref a_t), (1, .ref a_b1), (2, .ref a_b2), (3, .ref a_b3), (4, .ref a_b4)]) (by decide) rfl rfl (Nat.le_of_ble_eq_true rfl) rfl ?_
  intro p e s m args below meth c A Q ls hx hb hml hown hts hN hK hP hD hS hA hl hret
  have iX0 : ∀ w ∈ u_ws RX0 TX0 5, w ∈ wsX0_take := by decide +kernel
  have l19 := hts (.fieldLink RX0 19 "ChordRings$Cubic" "c0" "I") (by decide +kernel)
  have l27 := hts (.fieldLink RX0 27 "ChordRings$Cubic" "c1" "I") (by decide +kernel)
  have l30 := hts (.fieldLink RX0 30 "ChordRings$Cubic" "c2" "I") (by decide +kernel)
  have l33 := hts (.fieldLink RX0 33 "ChordRings$Cubic" "c3" "I") (by decide +kernel)
  unfold fX0_take at hf
  refine lv_aload_n hx hb dX0_take_0 rfl (lv_at hl 0 rfl) ?_
  refine lv_aload_n hx hb dX0_take_1 rfl (lv_at hl 3 rfl) ?_
  obtain ⟨v1, hv1, hf⟩ := o_b1 hf
  refine x_vi (rest := [.ref a_t]) (W1 := [x_o0 a_t a_N t_c0 t_c1 t_c2 t_c3, x_o2 a_b1 a_N b1_a b1_b b1_c b1_d b1_e b1_f, x_o2 a_b2 a_N b2_a b2_b b2_c b2_d b2_e b2_f, x_o2 a_b3 a_N b3_a b3_b b3_c b3_d b3_e b3_f, x_o2 a_b4 a_N b4_a b4_b b4_c b4_d b4_e b4_f, x_o4 a_N a_N_inverses a_N_roots N_p]) ⟨hx, hb, hml, hown, hts⟩ (tX2_wholeDeterminant l D cI a_b3 a_N a_N_inverses a_N_roots b3_a b3_b b3_c b3_d b3_e b3_f N_p v1 hv1) (cwV 0 hts gX0_take_X2_wholeDeterminant rfl rfl rfl (by decide +kernel) ⟨Nat.le_of_ble_eq_true rfl, Nat.le_of_ble_eq_true rfl⟩) hN hK hP hD hS hA [3, 5] [none, none, none, some 0, none, some 1] rfl rfl rfl rfl rfl rfl 0 rfl rfl rfl hl.1 rfl (Nat.le_of_ble_eq_true rfl) dX0_take_2 ⟨Nat.zero_le _, Nat.zero_le _⟩ (fun H locs hP hD hS => ?_)
  refine x_put (W1 := [x_o0 a_t a_N v1 t_c1 t_c2 t_c3, x_o2 a_b1 a_N b1_a b1_b b1_c b1_d b1_e b1_f, x_o2 a_b2 a_N b2_a b2_b b2_c b2_d b2_e b2_f, x_o2 a_b3 a_N b3_a b3_b b3_c b3_d b3_e b3_f, x_o2 a_b4 a_N b4_a b4_b b4_c b4_d b4_e b4_f, x_o4 a_N a_N_inverses a_N_roots N_p]) (ty := .int) (C := RX0) (T := TX0) (N := 5) hx hb hts iX0 tyX0 tyX0_ok nmX0 hown hK hP hD hS 0 rfl rfl 1 (by decide) l19 rfl rfl (by decide +kernel) rfl rfl (Nat.le_of_ble_eq_true rfl) rfl dX0_take_5 (fun H locs hP hD hS => ?_)
  refine lv_aload_n hx hb dX0_take_8 rfl (lv_at hl 0 rfl) ?_
  refine lv_aload hx hb dX0_take_9 (lv_at hl 4 rfl) ?_
  refine lv_aload_n hx hb dX0_take_11 rfl (lv_at hl 1 rfl) ?_
  obtain ⟨v2, hv2, hf⟩ := o_b1 hf
  refine x_vi (rest := [.ref a_t]) (W1 := [x_o0 a_t a_N v1 t_c1 t_c2 t_c3, x_o2 a_b1 a_N b1_a b1_b b1_c b1_d b1_e b1_f, x_o2 a_b2 a_N b2_a b2_b b2_c b2_d b2_e b2_f, x_o2 a_b3 a_N b3_a b3_b b3_c b3_d b3_e b3_f, x_o2 a_b4 a_N b4_a b4_b b4_c b4_d b4_e b4_f, x_o4 a_N a_N_inverses a_N_roots N_p]) ⟨hx, hb, hml, hown, hts⟩ (tX2_against l D cI a_b4 a_b1 a_N a_N_inverses a_N_roots b4_a b4_b b4_c b4_d b4_e b4_f b1_a b1_b b1_c b1_d b1_e b1_f N_p v2 hv2) (cwV 1 hts gX0_take_X2_against rfl rfl rfl (by decide +kernel) ⟨Nat.le_of_ble_eq_true rfl, Nat.le_of_ble_eq_true rfl⟩) hN hK hP hD hS hA [4, 1, 5] [none, some 1, none, none, some 0, some 2] rfl rfl rfl rfl rfl rfl 0 rfl rfl rfl hl.1 rfl (Nat.le_of_ble_eq_true rfl) dX0_take_12 ⟨Nat.zero_le _, Nat.zero_le _⟩ (fun H locs hP hD hS => ?_)
  refine x_put (W1 := [x_o0 a_t a_N v1 v2 t_c2 t_c3, x_o2 a_b1 a_N b1_a b1_b b1_c b1_d b1_e b1_f, x_o2 a_b2 a_N b2_a b2_b b2_c b2_d b2_e b2_f, x_o2 a_b3 a_N b3_a b3_b b3_c b3_d b3_e b3_f, x_o2 a_b4 a_N b4_a b4_b b4_c b4_d b4_e b4_f, x_o4 a_N a_N_inverses a_N_roots N_p]) (ty := .int) (C := RX0) (T := TX0) (N := 5) hx hb hts iX0 tyX0 tyX0_ok nmX0 hown hK hP hD hS 0 rfl rfl 2 (by decide) l27 rfl rfl (by decide +kernel) rfl rfl (Nat.le_of_ble_eq_true rfl) rfl dX0_take_15 (fun H locs hP hD hS => ?_)
  refine lv_aload_n hx hb dX0_take_18 rfl (lv_at hl 0 rfl) ?_
  refine lv_aload_n hx hb dX0_take_19 rfl (lv_at hl 2 rfl) ?_
  refine lv_aload_n hx hb dX0_take_20 rfl (lv_at hl 3 rfl) ?_
  obtain ⟨v3, hv3, hf⟩ := o_b1 hf
  refine x_vi (rest := [.ref a_t]) (W1 := [x_o0 a_t a_N v1 v2 t_c2 t_c3, x_o2 a_b1 a_N b1_a b1_b b1_c b1_d b1_e b1_f, x_o2 a_b2 a_N b2_a b2_b b2_c b2_d b2_e b2_f, x_o2 a_b3 a_N b3_a b3_b b3_c b3_d b3_e b3_f, x_o2 a_b4 a_N b4_a b4_b b4_c b4_d b4_e b4_f, x_o4 a_N a_N_inverses a_N_roots N_p]) ⟨hx, hb, hml, hown, hts⟩ (tX2_against l D cI a_b2 a_b3 a_N a_N_inverses a_N_roots b2_a b2_b b2_c b2_d b2_e b2_f b3_a b3_b b3_c b3_d b3_e b3_f N_p v3 hv3) (cwV 1 hts gX0_take_X2_against rfl rfl rfl (by decide +kernel) ⟨Nat.le_of_ble_eq_true rfl, Nat.le_of_ble_eq_true rfl⟩) hN hK hP hD hS hA [2, 3, 5] [none, none, some 0, some 1, none, some 2] rfl rfl rfl rfl rfl rfl 0 rfl rfl rfl hl.1 rfl (Nat.le_of_ble_eq_true rfl) dX0_take_21 ⟨Nat.zero_le _, Nat.zero_le _⟩ (fun H locs hP hD hS => ?_)
  refine x_put (W1 := [x_o0 a_t a_N v1 v2 v3 t_c3, x_o2 a_b1 a_N b1_a b1_b b1_c b1_d b1_e b1_f, x_o2 a_b2 a_N b2_a b2_b b2_c b2_d b2_e b2_f, x_o2 a_b3 a_N b3_a b3_b b3_c b3_d b3_e b3_f, x_o2 a_b4 a_N b4_a b4_b b4_c b4_d b4_e b4_f, x_o4 a_N a_N_inverses a_N_roots N_p]) (ty := .int) (C := RX0) (T := TX0) (N := 5) hx hb hts iX0 tyX0 tyX0_ok nmX0 hown hK hP hD hS 0 rfl rfl 3 (by decide) l30 rfl rfl (by decide +kernel) rfl rfl (Nat.le_of_ble_eq_true rfl) rfl dX0_take_24 (fun H locs hP hD hS => ?_)
  refine lv_aload_n hx hb dX0_take_27 rfl (lv_at hl 0 rfl) ?_
  refine lv_aload_n hx hb dX0_take_28 rfl (lv_at hl 1 rfl) ?_
  obtain ⟨v4, hv4, hf⟩ := o_b1 hf
  refine x_vi (rest := [.ref a_t]) (W1 := [x_o0 a_t a_N v1 v2 v3 t_c3, x_o2 a_b1 a_N b1_a b1_b b1_c b1_d b1_e b1_f, x_o2 a_b2 a_N b2_a b2_b b2_c b2_d b2_e b2_f, x_o2 a_b3 a_N b3_a b3_b b3_c b3_d b3_e b3_f, x_o2 a_b4 a_N b4_a b4_b b4_c b4_d b4_e b4_f, x_o4 a_N a_N_inverses a_N_roots N_p]) ⟨hx, hb, hml, hown, hts⟩ (tX2_wholeDeterminant l D cI a_b1 a_N a_N_inverses a_N_roots b1_a b1_b b1_c b1_d b1_e b1_f N_p v4 hv4) (cwV 0 hts gX0_take_X2_wholeDeterminant rfl rfl rfl (by decide +kernel) ⟨Nat.le_of_ble_eq_true rfl, Nat.le_of_ble_eq_true rfl⟩) hN hK hP hD hS hA [1, 5] [none, some 0, none, none, none, some 1] rfl rfl rfl rfl rfl rfl 0 rfl rfl rfl hl.1 rfl (Nat.le_of_ble_eq_true rfl) dX0_take_29 ⟨Nat.zero_le _, Nat.zero_le _⟩ (fun H locs hP hD hS => ?_)
  refine x_put (W1 := [x_o0 a_t a_N v1 v2 v3 v4, x_o2 a_b1 a_N b1_a b1_b b1_c b1_d b1_e b1_f, x_o2 a_b2 a_N b2_a b2_b b2_c b2_d b2_e b2_f, x_o2 a_b3 a_N b3_a b3_b b3_c b3_d b3_e b3_f, x_o2 a_b4 a_N b4_a b4_b b4_c b4_d b4_e b4_f, x_o4 a_N a_N_inverses a_N_roots N_p]) (ty := .int) (C := RX0) (T := TX0) (N := 5) hx hb hts iX0 tyX0 tyX0_ok nmX0 hown hK hP hD hS 0 rfl rfl 4 (by decide) l33 rfl rfl (by decide +kernel) rfl rfl (Nat.le_of_ble_eq_true rfl) rfl dX0_take_32 (fun H locs hP hD hS => ?_)
  obtain ⟨rfl, rfl, rfl, rfl⟩ := o_s4 hf
  exact hret dX0_take_35 hP hD hS
noncomputable def fX2_takeCofactors (t_a : Int32) (t_b : Int32) (t_c : Int32) (t_d : Int32) (t_e : Int32) (t_f : Int32) (b1_a : Int32) (b1_b : Int32) (b1_c : Int32) (b1_d : Int32) (b1_e : Int32) (b1_f : Int32) (N_p : Int32) : Option (Int32 × Int32 × Int32 × Int32 × Int32 × Int32) :=
  p_b6 (fX2_take t_a t_b t_c t_d t_e t_f N_p ((b1_b * b1_c) - (b1_d * b1_d)) ((b1_a * b1_c) - (b1_e * b1_e)) ((b1_a * b1_b) - (b1_f * b1_f)) ((b1_e * b1_f) - (b1_a * b1_d)) ((b1_d * b1_f) - (b1_b * b1_e)) ((b1_d * b1_e) - (b1_c * b1_f))) (fun v1 v2 v3 v4 v5 v6 =>
some (v1, v2, v3, v4, v5, v6))
def rmX2_takeCofactors : Room := { frames := 2, cells := 0, slots := 0, locals := 48 }
set_option maxHeartbeats 4000000 in
set_option maxRecDepth 100000 in
theorem tX2_takeCofactors (l : Launch) (D : va_G) (cI : ClassId) (a_t : Nat) (a_b1 : Nat) (a_N : Nat) (a_N_inverses : Nat) (a_N_roots : Nat) (t_a : Int32) (t_b : Int32) (t_c : Int32) (t_d : Int32) (t_e : Int32) (t_f : Int32) (b1_a : Int32) (b1_b : Int32) (b1_c : Int32) (b1_d : Int32) (b1_e : Int32) (b1_f : Int32) (N_p : Int32) (s_t_a : Int32) (s_t_b : Int32) (s_t_c : Int32) (s_t_d : Int32) (s_t_e : Int32) (s_t_f : Int32) (hf : fX2_takeCofactors t_a t_b t_c t_d t_e t_f b1_a b1_b b1_c b1_d b1_e b1_f N_p = some (s_t_a, s_t_b, s_t_c, s_t_d, s_t_e, s_t_f)) : x_CV l D cI yX2_takeCofactors wsX2_takeCofactors rmX2_takeCofactors [.ref a_t, .ref a_b1] [x_o2 a_t a_N t_a t_b t_c t_d t_e t_f, x_o2 a_b1 a_N b1_a b1_b b1_c b1_d b1_e b1_f, x_o4 a_N a_N_inverses a_N_roots N_p] [x_o2 a_t a_N s_t_a s_t_b s_t_c s_t_d s_t_e s_t_f, x_o2 a_b1 a_N b1_a b1_b b1_c b1_d b1_e b1_f, x_o4 a_N a_N_inverses a_N_roots N_p] := by
  refine x_CV_of (cc := cX2_takeCofactors) (maxL := 2) (own := RX2) (lv0 := [(0, .ref a_t), (1, .ref a_b1)]) (by decide) rfl rfl (Nat.le_of_ble_eq_true rfl) rfl ?_
  intro p e s m args below meth c A Q ls hx hb hml hown hts hN hK hP hD hS hA hl hret
  have iX2 : ∀ w ∈ u_ws RX2 TX2 7, w ∈ wsX2_takeCofactors := by decide +kernel
  have l23 := hts (.fieldLink RX2 23 "ChordRings$Form" "b" "I") (by decide +kernel)
  have l26 := hts (.fieldLink RX2 26 "ChordRings$Form" "c" "I") (by decide +kernel)
  have l29 := hts (.fieldLink RX2 29 "ChordRings$Form" "d" "I") (by decide +kernel)
  have l19 := hts (.fieldLink RX2 19 "ChordRings$Form" "a" "I") (by decide +kernel)
  have l32 := hts (.fieldLink RX2 32 "ChordRings$Form" "e" "I") (by decide +kernel)
  have l35 := hts (.fieldLink RX2 35 "ChordRings$Form" "f" "I") (by decide +kernel)
  unfold fX2_takeCofactors at hf
  refine lv_aload_n hx hb dX2_takeCofactors_0 rfl (lv_at hl 0 rfl) ?_
  refine lv_aload_n hx hb dX2_takeCofactors_1 rfl (lv_at hl 1 rfl) ?_
  refine va_get (D := D) (ci := 2) (C := RX2) (T := TX2) (N := 7) hx hb hts iX2 hown hK hP 1 rfl rfl 2 (by decide) l23 (fun _ h9 => h9) rfl dX2_takeCofactors_2 ?_
  refine lv_aload_n hx hb dX2_takeCofactors_5 rfl (lv_at hl 1 rfl) ?_
  refine va_get (D := D) (ci := 2) (C := RX2) (T := TX2) (N := 7) hx hb hts iX2 hown hK hP 1 rfl rfl 3 (by decide) l26 (fun _ h9 => h9) rfl dX2_takeCofactors_6 ?_
  refine lv_imul hx hb dX2_takeCofactors_9 ?_
  refine lv_aload_n hx hb dX2_takeCofactors_10 rfl (lv_at hl 1 rfl) ?_
  refine va_get (D := D) (ci := 2) (C := RX2) (T := TX2) (N := 7) hx hb hts iX2 hown hK hP 1 rfl rfl 4 (by decide) l29 (fun _ h9 => h9) rfl dX2_takeCofactors_11 ?_
  refine lv_aload_n hx hb dX2_takeCofactors_14 rfl (lv_at hl 1 rfl) ?_
  refine va_get (D := D) (ci := 2) (C := RX2) (T := TX2) (N := 7) hx hb hts iX2 hown hK hP 1 rfl rfl 4 (by decide) l29 (fun _ h9 => h9) rfl dX2_takeCofactors_15 ?_
  refine lv_imul hx hb dX2_takeCofactors_18 ?_
  refine lv_isub hx hb dX2_takeCofactors_19 ?_
  refine lv_aload_n hx hb dX2_takeCofactors_20 rfl (lv_at hl 1 rfl) ?_
  refine va_get (D := D) (ci := 2) (C := RX2) (T := TX2) (N := 7) hx hb hts iX2 hown hK hP 1 rfl rfl 1 (by decide) l19 (fun _ h9 => h9) rfl dX2_takeCofactors_21 ?_
  refine lv_aload_n hx hb dX2_takeCofactors_24 rfl (lv_at hl 1 rfl) ?_
  refine va_get (D := D) (ci := 2) (C := RX2) (T := TX2) (N := 7) hx hb hts iX2 hown hK hP 1 rfl rfl 3 (by decide) l26 (fun _ h9 => h9) rfl dX2_takeCofactors_25 ?_
  refine lv_imul hx hb dX2_takeCofactors_28 ?_
  refine lv_aload_n hx hb dX2_takeCofactors_29 rfl (lv_at hl 1 rfl) ?_
  refine va_get (D := D) (ci := 2) (C := RX2) (T := TX2) (N := 7) hx hb hts iX2 hown hK hP 1 rfl rfl 5 (by decide) l32 (fun _ h9 => h9) rfl dX2_takeCofactors_30 ?_
  refine lv_aload_n hx hb dX2_takeCofactors_33 rfl (lv_at hl 1 rfl) ?_
  refine va_get (D := D) (ci := 2) (C := RX2) (T := TX2) (N := 7) hx hb hts iX2 hown hK hP 1 rfl rfl 5 (by decide) l32 (fun _ h9 => h9) rfl dX2_takeCofactors_34 ?_
  refine lv_imul hx hb dX2_takeCofactors_37 ?_
  refine lv_isub hx hb dX2_takeCofactors_38 ?_
  refine lv_aload_n hx hb dX2_takeCofactors_39 rfl (lv_at hl 1 rfl) ?_
  refine va_get (D := D) (ci := 2) (C := RX2) (T := TX2) (N := 7) hx hb hts iX2 hown hK hP 1 rfl rfl 1 (by decide) l19 (fun _ h9 => h9) rfl dX2_takeCofactors_40 ?_
  refine lv_aload_n hx hb dX2_takeCofactors_43 rfl (lv_at hl 1 rfl) ?_
  refine va_get (D := D) (ci := 2) (C := RX2) (T := TX2) (N := 7) hx hb hts iX2 hown hK hP 1 rfl rfl 2 (by decide) l23 (fun _ h9 => h9) rfl dX2_takeCofactors_44 ?_
  refine lv_imul hx hb dX2_takeCofactors_47 ?_
  refine lv_aload_n hx hb dX2_takeCofactors_48 rfl (lv_at hl 1 rfl) ?_
  refine va_get (D := D) (ci := 2) (C := RX2) (T := TX2) (N := 7) hx hb hts iX2 hown hK hP 1 rfl rfl 6 (by decide) l35 (fun _ h9 => h9) rfl dX2_takeCofactors_49 ?_
  refine lv_aload_n hx hb dX2_takeCofactors_52 rfl (lv_at hl 1 rfl) ?_
  refine va_get (D := D) (ci := 2) (C := RX2) (T := TX2) (N := 7) hx hb hts iX2 hown hK hP 1 rfl rfl 6 (by decide) l35 (fun _ h9 => h9) rfl dX2_takeCofactors_53 ?_
  refine lv_imul hx hb dX2_takeCofactors_56 ?_
  refine lv_isub hx hb dX2_takeCofactors_57 ?_
  refine lv_aload_n hx hb dX2_takeCofactors_58 rfl (lv_at hl 1 rfl) ?_
  refine va_get (D := D) (ci := 2) (C := RX2) (T := TX2) (N := 7) hx hb hts iX2 hown hK hP 1 rfl rfl 5 (by decide) l32 (fun _ h9 => h9) rfl dX2_takeCofactors_59 ?_
  refine lv_aload_n hx hb dX2_takeCofactors_62 rfl (lv_at hl 1 rfl) ?_
  refine va_get (D := D) (ci := 2) (C := RX2) (T := TX2) (N := 7) hx hb hts iX2 hown hK hP 1 rfl rfl 6 (by decide) l35 (fun _ h9 => h9) rfl dX2_takeCofactors_63 ?_
  refine lv_imul hx hb dX2_takeCofactors_66 ?_
  refine lv_aload_n hx hb dX2_takeCofactors_67 rfl (lv_at hl 1 rfl) ?_
  refine va_get (D := D) (ci := 2) (C := RX2) (T := TX2) (N := 7) hx hb hts iX2 hown hK hP 1 rfl rfl 1 (by decide) l19 (fun _ h9 => h9) rfl dX2_takeCofactors_68 ?_
  refine lv_aload_n hx hb dX2_takeCofactors_71 rfl (lv_at hl 1 rfl) ?_
  refine va_get (D := D) (ci := 2) (C := RX2) (T := TX2) (N := 7) hx hb hts iX2 hown hK hP 1 rfl rfl 4 (by decide) l29 (fun _ h9 => h9) rfl dX2_takeCofactors_72 ?_
  refine lv_imul hx hb dX2_takeCofactors_75 ?_
  refine lv_isub hx hb dX2_takeCofactors_76 ?_
  refine lv_aload_n hx hb dX2_takeCofactors_77 rfl (lv_at hl 1 rfl) ?_
  refine va_get (D := D) (ci := 2) (C := RX2) (T := TX2) (N := 7) hx hb hts iX2 hown hK hP 1 rfl rfl 4 (by decide) l29 (fun _ h9 => h9) rfl dX2_takeCofactors_78 ?_
  refine lv_aload_n hx hb dX2_takeCofactors_81 rfl (lv_at hl 1 rfl) ?_
  refine va_get (D := D) (ci := 2) (C := RX2) (T := TX2) (N := 7) hx hb hts iX2 hown hK hP 1 rfl rfl 6 (by decide) l35 (fun _ h9 => h9) rfl dX2_takeCofactors_82 ?_
  refine lv_imul hx hb dX2_takeCofactors_85 ?_
  refine lv_aload_n hx hb dX2_takeCofactors_86 rfl (lv_at hl 1 rfl) ?_
  refine va_get (D := D) (ci := 2) (C := RX2) (T := TX2) (N := 7) hx hb hts iX2 hown hK hP 1 rfl rfl 2 (by decide) l23 (fun _ h9 => h9) rfl dX2_takeCofactors_87 ?_
  refine lv_aload_n hx hb dX2_takeCofactors_90 rfl (lv_at hl 1 rfl) ?_
  refine va_get (D := D) (ci := 2) (C := RX2) (T := TX2) (N := 7) hx hb hts iX2 hown hK hP 1 rfl rfl 5 (by decide) l32 (fun _ h9 => h9) rfl dX2_takeCofactors_91 ?_
  refine lv_imul hx hb dX2_takeCofactors_94 ?_
  refine lv_isub hx hb dX2_takeCofactors_95 ?_
  refine lv_aload_n hx hb dX2_takeCofactors_96 rfl (lv_at hl 1 rfl) ?_
  refine va_get (D := D) (ci := 2) (C := RX2) (T := TX2) (N := 7) hx hb hts iX2 hown hK hP 1 rfl rfl 4 (by decide) l29 (fun _ h9 => h9) rfl dX2_takeCofactors_97 ?_
  refine lv_aload_n hx hb dX2_takeCofactors_100 rfl (lv_at hl 1 rfl) ?_
  refine va_get (D := D) (ci := 2) (C := RX2) (T := TX2) (N := 7) hx hb hts iX2 hown hK hP 1 rfl rfl 5 (by decide) l32 (fun _ h9 => h9) rfl dX2_takeCofactors_101 ?_
  refine lv_imul hx hb dX2_takeCofactors_104 ?_
  refine lv_aload_n hx hb dX2_takeCofactors_105 rfl (lv_at hl 1 rfl) ?_
  refine va_get (D := D) (ci := 2) (C := RX2) (T := TX2) (N := 7) hx hb hts iX2 hown hK hP 1 rfl rfl 3 (by decide) l26 (fun _ h9 => h9) rfl dX2_takeCofactors_106 ?_
  refine lv_aload_n hx hb dX2_takeCofactors_109 rfl (lv_at hl 1 rfl) ?_
  refine va_get (D := D) (ci := 2) (C := RX2) (T := TX2) (N := 7) hx hb hts iX2 hown hK hP 1 rfl rfl 6 (by decide) l35 (fun _ h9 => h9) rfl dX2_takeCofactors_110 ?_
  refine lv_imul hx hb dX2_takeCofactors_113 ?_
  refine lv_isub hx hb dX2_takeCofactors_114 ?_
  obtain ⟨v1, v2, v3, v4, v5, v6, hv1, hf⟩ := o_b6 hf
  refine x_vv (rest := []) (W1 := [x_o2 a_t a_N v1 v2 v3 v4 v5 v6, x_o2 a_b1 a_N b1_a b1_b b1_c b1_d b1_e b1_f, x_o4 a_N a_N_inverses a_N_roots N_p]) ⟨hx, hb, hml, hown, hts⟩ (tX2_take l D cI a_t a_N a_N_inverses a_N_roots t_a t_b t_c t_d t_e t_f N_p ((b1_b * b1_c) - (b1_d * b1_d)) ((b1_a * b1_c) - (b1_e * b1_e)) ((b1_a * b1_b) - (b1_f * b1_f)) ((b1_e * b1_f) - (b1_a * b1_d)) ((b1_d * b1_f) - (b1_b * b1_e)) ((b1_d * b1_e) - (b1_c * b1_f)) v1 v2 v3 v4 v5 v6 hv1) (cwV 6 hts gX2_takeCofactors_X2_take rfl rfl rfl (by decide +kernel) ⟨Nat.le_of_ble_eq_true rfl, Nat.le_of_ble_eq_true rfl⟩) hN hK hP hD hS hA [0, 2] [some 0, none, some 1] rfl rfl rfl rfl rfl rfl 0 rfl rfl rfl hl.1 rfl (Nat.le_of_ble_eq_true rfl) dX2_takeCofactors_115 ⟨Nat.zero_le _, Nat.zero_le _⟩ (fun H locs hP hD hS => ?_)
  obtain ⟨rfl, rfl, rfl, rfl, rfl, rfl⟩ := o_s6 hf
  exact hret dX2_takeCofactors_118 hP hD hS
def fX2_part (t_a : Int32) (t_b : Int32) (t_c : Int32) (t_d : Int32) (t_e : Int32) (t_f : Int32) (i1 : Int32) : Option (Int32) :=
  if i1 = 0 then (some t_a) else if i1 = 1 then (some t_b) else if i1 = 2 then (some t_c) else if i1 = 3 then (some t_d) else if i1 = 4 then (some t_e) else (some t_f)
def rmX2_part : Room := { frames := 0, cells := 0, slots := 0, locals := 0 }
set_option maxHeartbeats 4000000 in
set_option maxRecDepth 100000 in
theorem tX2_part (l : Launch) (D : va_G) (cI : ClassId) (a_t : Nat) (a_N : Nat) (t_a : Int32) (t_b : Int32) (t_c : Int32) (t_d : Int32) (t_e : Int32) (t_f : Int32) (i1 : Int32) (r : Int32) (hf : fX2_part t_a t_b t_c t_d t_e t_f i1 = some r) : x_CI l D cI yX2_part wsX2_part rmX2_part [.ref a_t, .int i1] [x_o2 a_t a_N t_a t_b t_c t_d t_e t_f] [x_o2 a_t a_N t_a t_b t_c t_d t_e t_f] r := by
  refine x_CI_of (cc := cX2_part) (maxL := 2) (ty := .int) (own := RX2) (lv0 := [(0, .ref a_t), (1, .int i1)]) (by decide) rfl rfl (Nat.le_of_ble_eq_true rfl) rfl ?_
  intro p e s m args below meth c A Q ls hx hb hml hown hts hN hK hP hD hS hA hl hret
  have iX2 : ∀ w ∈ u_ws RX2 TX2 7, w ∈ wsX2_part := by decide +kernel
  have l19 := hts (.fieldLink RX2 19 "ChordRings$Form" "a" "I") (by decide +kernel)
  have l23 := hts (.fieldLink RX2 23 "ChordRings$Form" "b" "I") (by decide +kernel)
  have l26 := hts (.fieldLink RX2 26 "ChordRings$Form" "c" "I") (by decide +kernel)
  have l29 := hts (.fieldLink RX2 29 "ChordRings$Form" "d" "I") (by decide +kernel)
  have l32 := hts (.fieldLink RX2 32 "ChordRings$Form" "e" "I") (by decide +kernel)
  have l35 := hts (.fieldLink RX2 35 "ChordRings$Form" "f" "I") (by decide +kernel)
  unfold fX2_part at hf
  refine lv_iload_n hx hb dX2_part_0 rfl (lv_at hl 1 rfl) ?_
  by_cases hc0 : i1 = 0
  · have hf := o_t hf hc0
    refine lv_tableIn (tgt := 36) hx hb dX2_part_1 (by rw [hc0]; decide) (by rw [hc0]; decide) (by rw [hc0]; rfl) (by decide) ?_
    refine lv_aload_n hx hb dX2_part_36 rfl (lv_at hl 0 rfl) ?_
    refine va_get (D := D) (ci := 2) (C := RX2) (T := TX2) (N := 7) hx hb hts iX2 hown hK hP 0 rfl rfl 1 (by decide) l19 (fun _ h9 => h9) rfl dX2_part_37 ?_
    obtain rfl := Option.some.inj hf
    exact hret rfl rfl dX2_part_40 hP hD hS
  have hf := o_f hf hc0
  by_cases hc1 : i1 = 1
  · have hf := o_t hf hc1
    refine lv_tableIn (tgt := 41) hx hb dX2_part_1 (by rw [hc1]; decide) (by rw [hc1]; decide) (by rw [hc1]; rfl) (by decide) ?_
    refine lv_aload_n hx hb dX2_part_41 rfl (lv_at hl 0 rfl) ?_
    refine va_get (D := D) (ci := 2) (C := RX2) (T := TX2) (N := 7) hx hb hts iX2 hown hK hP 0 rfl rfl 2 (by decide) l23 (fun _ h9 => h9) rfl dX2_part_42 ?_
    obtain rfl := Option.some.inj hf
    exact hret rfl rfl dX2_part_45 hP hD hS
  have hf := o_f hf hc1
  by_cases hc2 : i1 = 2
  · have hf := o_t hf hc2
    refine lv_tableIn (tgt := 46) hx hb dX2_part_1 (by rw [hc2]; decide) (by rw [hc2]; decide) (by rw [hc2]; rfl) (by decide) ?_
    refine lv_aload_n hx hb dX2_part_46 rfl (lv_at hl 0 rfl) ?_
    refine va_get (D := D) (ci := 2) (C := RX2) (T := TX2) (N := 7) hx hb hts iX2 hown hK hP 0 rfl rfl 3 (by decide) l26 (fun _ h9 => h9) rfl dX2_part_47 ?_
    obtain rfl := Option.some.inj hf
    exact hret rfl rfl dX2_part_50 hP hD hS
  have hf := o_f hf hc2
  by_cases hc3 : i1 = 3
  · have hf := o_t hf hc3
    refine lv_tableIn (tgt := 51) hx hb dX2_part_1 (by rw [hc3]; decide) (by rw [hc3]; decide) (by rw [hc3]; rfl) (by decide) ?_
    refine lv_aload_n hx hb dX2_part_51 rfl (lv_at hl 0 rfl) ?_
    refine va_get (D := D) (ci := 2) (C := RX2) (T := TX2) (N := 7) hx hb hts iX2 hown hK hP 0 rfl rfl 4 (by decide) l29 (fun _ h9 => h9) rfl dX2_part_52 ?_
    obtain rfl := Option.some.inj hf
    exact hret rfl rfl dX2_part_55 hP hD hS
  have hf := o_f hf hc3
  by_cases hc4 : i1 = 4
  · have hf := o_t hf hc4
    refine lv_tableIn (tgt := 56) hx hb dX2_part_1 (by rw [hc4]; decide) (by rw [hc4]; decide) (by rw [hc4]; rfl) (by decide) ?_
    refine lv_aload_n hx hb dX2_part_56 rfl (lv_at hl 0 rfl) ?_
    refine va_get (D := D) (ci := 2) (C := RX2) (T := TX2) (N := 7) hx hb hts iX2 hown hK hP 0 rfl rfl 5 (by decide) l32 (fun _ h9 => h9) rfl dX2_part_57 ?_
    obtain rfl := Option.some.inj hf
    exact hret rfl rfl dX2_part_60 hP hD hS
  have hf := o_f hf hc4
  refine lv_tableOut (tgt := 61) hx hb dX2_part_1 (x_out4 hc0 hc1 hc2 hc3 hc4) (by decide) ?_
  refine lv_aload_n hx hb dX2_part_61 rfl (lv_at hl 0 rfl) ?_
  refine va_get (D := D) (ci := 2) (C := RX2) (T := TX2) (N := 7) hx hb hts iX2 hown hK hP 0 rfl rfl 6 (by decide) l35 (fun _ h9 => h9) rfl dX2_part_62 ?_
  obtain rfl := Option.some.inj hf
  exact hret rfl rfl dX2_part_65 hP hD hS
noncomputable def fX0_discriminant (t_c0 : Int32) (t_c1 : Int32) (t_c2 : Int32) (t_c3 : Int32) (N_p : Int32) : Option (Int32) :=
  p_b1 (fX4_rest N_p (t_c1 * t_c2)) (fun v1 =>
p_b1 (fX4_rest N_p (t_c0 * t_c3)) (fun v2 =>
p_b1 (fX4_rest N_p ((t_c1 * t_c1) * t_c1)) (fun v3 =>
p_b1 (fX4_rest N_p ((t_c2 * t_c2) * t_c2)) (fun v4 =>
p_b1 (fX4_rest N_p (((((v1 * v1) - ((4 * t_c0) * v4)) - ((4 * t_c3) * v3)) - ((27 * v2) * v2)) + ((18 * v2) * v1))) (fun v5 =>
some v5)))))
def rmX0_discriminant : Room := { frames := 1, cells := 0, slots := 0, locals := 22 }
set_option maxHeartbeats 4000000 in
set_option maxRecDepth 100000 in
theorem tX0_discriminant (l : Launch) (D : va_G) (cI : ClassId) (a_t : Nat) (a_N : Nat) (a_N_inverses : Nat) (a_N_roots : Nat) (t_c0 : Int32) (t_c1 : Int32) (t_c2 : Int32) (t_c3 : Int32) (N_p : Int32) (r : Int32) (hf : fX0_discriminant t_c0 t_c1 t_c2 t_c3 N_p = some r) : x_CI l D cI yX0_discriminant wsX0_discriminant rmX0_discriminant [.ref a_t] [x_o0 a_t a_N t_c0 t_c1 t_c2 t_c3, x_o4 a_N a_N_inverses a_N_roots N_p] [x_o0 a_t a_N t_c0 t_c1 t_c2 t_c3, x_o4 a_N a_N_inverses a_N_roots N_p] r := by
  refine x_CI_of (cc := cX0_discriminant) (maxL := 5) (ty := .int) (own := RX0) (lv0 := [(0, .ref a_t)]) (by decide) rfl rfl (Nat.le_of_ble_eq_true rfl) rfl ?_
  intro p e s m args below meth c A Q ls hx hb hml hown hts hN hK hP hD hS hA hl hret
  have iX0 : ∀ w ∈ u_ws RX0 TX0 5, w ∈ wsX0_discriminant := by decide +kernel
  have l7 := hts (.fieldLink RX0 7 "ChordRings$Cubic" "numbers" "LChordRings$Numbers;") (by decide +kernel)
  have l27 := hts (.fieldLink RX0 27 "ChordRings$Cubic" "c1" "I") (by decide +kernel)
  have l30 := hts (.fieldLink RX0 30 "ChordRings$Cubic" "c2" "I") (by decide +kernel)
  have l19 := hts (.fieldLink RX0 19 "ChordRings$Cubic" "c0" "I") (by decide +kernel)
  have l33 := hts (.fieldLink RX0 33 "ChordRings$Cubic" "c3" "I") (by decide +kernel)
  unfold fX0_discriminant at hf
  refine lv_aload_n hx hb dX0_discriminant_0 rfl (lv_at hl 0 rfl) ?_
  refine va_get (D := D) (ci := 0) (C := RX0) (T := TX0) (N := 5) hx hb hts iX0 hown hK hP 0 rfl rfl 0 (by decide) l7 (fun _ h9 => h9) rfl dX0_discriminant_1 ?_
  refine lv_aload_n hx hb dX0_discriminant_4 rfl (lv_at hl 0 rfl) ?_
  refine va_get (D := D) (ci := 0) (C := RX0) (T := TX0) (N := 5) hx hb hts iX0 hown hK hP 0 rfl rfl 2 (by decide) l27 (fun _ h9 => h9) rfl dX0_discriminant_5 ?_
  refine lv_aload_n hx hb dX0_discriminant_8 rfl (lv_at hl 0 rfl) ?_
  refine va_get (D := D) (ci := 0) (C := RX0) (T := TX0) (N := 5) hx hb hts iX0 hown hK hP 0 rfl rfl 3 (by decide) l30 (fun _ h9 => h9) rfl dX0_discriminant_9 ?_
  refine lv_imul hx hb dX0_discriminant_12 ?_
  obtain ⟨v1, hv1, hf⟩ := o_b1 hf
  refine x_vi (rest := []) (W1 := [x_o0 a_t a_N t_c0 t_c1 t_c2 t_c3, x_o4 a_N a_N_inverses a_N_roots N_p]) ⟨hx, hb, hml, hown, hts⟩ (tX4_rest l D cI a_N a_N_inverses a_N_roots N_p (t_c1 * t_c2) v1 hv1) (cwV 1 hts gX0_discriminant_X4_rest rfl rfl rfl (by decide +kernel) ⟨Nat.le_of_ble_eq_true rfl, Nat.le_of_ble_eq_true rfl⟩) hN hK hP hD hS hA [1] [none, some 0] rfl rfl rfl rfl rfl rfl 0 rfl rfl rfl hl.1 rfl (Nat.le_of_ble_eq_true rfl) dX0_discriminant_13 ⟨Nat.zero_le _, Nat.zero_le _⟩ (fun H locs hP hD hS => ?_)
  refine lv_istore_n (lv' := [(1, .int v1), (0, .ref a_t)]) hx hb dX0_discriminant_16 rfl hl (by decide) rfl (fun ls hl => ?_)
  refine lv_aload_n hx hb dX0_discriminant_17 rfl (lv_at hl 1 rfl) ?_
  refine va_get (D := D) (ci := 0) (C := RX0) (T := TX0) (N := 5) hx hb hts iX0 hown hK hP 0 rfl rfl 0 (by decide) l7 (fun _ h9 => h9) rfl dX0_discriminant_18 ?_
  refine lv_aload_n hx hb dX0_discriminant_21 rfl (lv_at hl 1 rfl) ?_
  refine va_get (D := D) (ci := 0) (C := RX0) (T := TX0) (N := 5) hx hb hts iX0 hown hK hP 0 rfl rfl 1 (by decide) l19 (fun _ h9 => h9) rfl dX0_discriminant_22 ?_
  refine lv_aload_n hx hb dX0_discriminant_25 rfl (lv_at hl 1 rfl) ?_
  refine va_get (D := D) (ci := 0) (C := RX0) (T := TX0) (N := 5) hx hb hts iX0 hown hK hP 0 rfl rfl 4 (by decide) l33 (fun _ h9 => h9) rfl dX0_discriminant_26 ?_
  refine lv_imul hx hb dX0_discriminant_29 ?_
  obtain ⟨v2, hv2, hf⟩ := o_b1 hf
  refine x_vi (rest := []) (W1 := [x_o0 a_t a_N t_c0 t_c1 t_c2 t_c3, x_o4 a_N a_N_inverses a_N_roots N_p]) ⟨hx, hb, hml, hown, hts⟩ (tX4_rest l D cI a_N a_N_inverses a_N_roots N_p (t_c0 * t_c3) v2 hv2) (cwV 1 hts gX0_discriminant_X4_rest rfl rfl rfl (by decide +kernel) ⟨Nat.le_of_ble_eq_true rfl, Nat.le_of_ble_eq_true rfl⟩) hN hK hP hD hS hA [1] [none, some 0] rfl rfl rfl rfl rfl rfl 0 rfl rfl rfl hl.1 rfl (Nat.le_of_ble_eq_true rfl) dX0_discriminant_30 ⟨Nat.zero_le _, Nat.zero_le _⟩ (fun H locs hP hD hS => ?_)
  refine lv_istore_n (lv' := [(2, .int v2), (1, .int v1), (0, .ref a_t)]) hx hb dX0_discriminant_33 rfl hl (by decide) rfl (fun ls hl => ?_)
  refine lv_aload_n hx hb dX0_discriminant_34 rfl (lv_at hl 2 rfl) ?_
  refine va_get (D := D) (ci := 0) (C := RX0) (T := TX0) (N := 5) hx hb hts iX0 hown hK hP 0 rfl rfl 0 (by decide) l7 (fun _ h9 => h9) rfl dX0_discriminant_35 ?_
  refine lv_aload_n hx hb dX0_discriminant_38 rfl (lv_at hl 2 rfl) ?_
  refine va_get (D := D) (ci := 0) (C := RX0) (T := TX0) (N := 5) hx hb hts iX0 hown hK hP 0 rfl rfl 2 (by decide) l27 (fun _ h9 => h9) rfl dX0_discriminant_39 ?_
  refine lv_aload_n hx hb dX0_discriminant_42 rfl (lv_at hl 2 rfl) ?_
  refine va_get (D := D) (ci := 0) (C := RX0) (T := TX0) (N := 5) hx hb hts iX0 hown hK hP 0 rfl rfl 2 (by decide) l27 (fun _ h9 => h9) rfl dX0_discriminant_43 ?_
  refine lv_imul hx hb dX0_discriminant_46 ?_
  refine lv_aload_n hx hb dX0_discriminant_47 rfl (lv_at hl 2 rfl) ?_
  refine va_get (D := D) (ci := 0) (C := RX0) (T := TX0) (N := 5) hx hb hts iX0 hown hK hP 0 rfl rfl 2 (by decide) l27 (fun _ h9 => h9) rfl dX0_discriminant_48 ?_
  refine lv_imul hx hb dX0_discriminant_51 ?_
  obtain ⟨v3, hv3, hf⟩ := o_b1 hf
  refine x_vi (rest := []) (W1 := [x_o0 a_t a_N t_c0 t_c1 t_c2 t_c3, x_o4 a_N a_N_inverses a_N_roots N_p]) ⟨hx, hb, hml, hown, hts⟩ (tX4_rest l D cI a_N a_N_inverses a_N_roots N_p ((t_c1 * t_c1) * t_c1) v3 hv3) (cwV 1 hts gX0_discriminant_X4_rest rfl rfl rfl (by decide +kernel) ⟨Nat.le_of_ble_eq_true rfl, Nat.le_of_ble_eq_true rfl⟩) hN hK hP hD hS hA [1] [none, some 0] rfl rfl rfl rfl rfl rfl 0 rfl rfl rfl hl.1 rfl (Nat.le_of_ble_eq_true rfl) dX0_discriminant_52 ⟨Nat.zero_le _, Nat.zero_le _⟩ (fun H locs hP hD hS => ?_)
  refine lv_istore_n (lv' := [(3, .int v3), (2, .int v2), (1, .int v1), (0, .ref a_t)]) hx hb dX0_discriminant_55 rfl hl (by decide) rfl (fun ls hl => ?_)
  refine lv_aload_n hx hb dX0_discriminant_56 rfl (lv_at hl 3 rfl) ?_
  refine va_get (D := D) (ci := 0) (C := RX0) (T := TX0) (N := 5) hx hb hts iX0 hown hK hP 0 rfl rfl 0 (by decide) l7 (fun _ h9 => h9) rfl dX0_discriminant_57 ?_
  refine lv_aload_n hx hb dX0_discriminant_60 rfl (lv_at hl 3 rfl) ?_
  refine va_get (D := D) (ci := 0) (C := RX0) (T := TX0) (N := 5) hx hb hts iX0 hown hK hP 0 rfl rfl 3 (by decide) l30 (fun _ h9 => h9) rfl dX0_discriminant_61 ?_
  refine lv_aload_n hx hb dX0_discriminant_64 rfl (lv_at hl 3 rfl) ?_
  refine va_get (D := D) (ci := 0) (C := RX0) (T := TX0) (N := 5) hx hb hts iX0 hown hK hP 0 rfl rfl 3 (by decide) l30 (fun _ h9 => h9) rfl dX0_discriminant_65 ?_
  refine lv_imul hx hb dX0_discriminant_68 ?_
  refine lv_aload_n hx hb dX0_discriminant_69 rfl (lv_at hl 3 rfl) ?_
  refine va_get (D := D) (ci := 0) (C := RX0) (T := TX0) (N := 5) hx hb hts iX0 hown hK hP 0 rfl rfl 3 (by decide) l30 (fun _ h9 => h9) rfl dX0_discriminant_70 ?_
  refine lv_imul hx hb dX0_discriminant_73 ?_
  obtain ⟨v4, hv4, hf⟩ := o_b1 hf
  refine x_vi (rest := []) (W1 := [x_o0 a_t a_N t_c0 t_c1 t_c2 t_c3, x_o4 a_N a_N_inverses a_N_roots N_p]) ⟨hx, hb, hml, hown, hts⟩ (tX4_rest l D cI a_N a_N_inverses a_N_roots N_p ((t_c2 * t_c2) * t_c2) v4 hv4) (cwV 1 hts gX0_discriminant_X4_rest rfl rfl rfl (by decide +kernel) ⟨Nat.le_of_ble_eq_true rfl, Nat.le_of_ble_eq_true rfl⟩) hN hK hP hD hS hA [1] [none, some 0] rfl rfl rfl rfl rfl rfl 0 rfl rfl rfl hl.1 rfl (Nat.le_of_ble_eq_true rfl) dX0_discriminant_74 ⟨Nat.zero_le _, Nat.zero_le _⟩ (fun H locs hP hD hS => ?_)
  refine lv_istore (lv' := [(4, .int v4), (3, .int v3), (2, .int v2), (1, .int v1), (0, .ref a_t)]) hx hb dX0_discriminant_77 hl (by decide) rfl (fun ls hl => ?_)
  refine lv_aload_n hx hb dX0_discriminant_79 rfl (lv_at hl 4 rfl) ?_
  refine va_get (D := D) (ci := 0) (C := RX0) (T := TX0) (N := 5) hx hb hts iX0 hown hK hP 0 rfl rfl 0 (by decide) l7 (fun _ h9 => h9) rfl dX0_discriminant_80 ?_
  refine lv_iload_n hx hb dX0_discriminant_83 rfl (lv_at hl 3 rfl) ?_
  refine lv_iload_n hx hb dX0_discriminant_84 rfl (lv_at hl 3 rfl) ?_
  refine lv_imul hx hb dX0_discriminant_85 ?_
  refine lv_iconst (v := 4) hx hb dX0_discriminant_86 (by decide) ?_
  refine lv_aload_n hx hb dX0_discriminant_87 rfl (lv_at hl 4 rfl) ?_
  refine va_get (D := D) (ci := 0) (C := RX0) (T := TX0) (N := 5) hx hb hts iX0 hown hK hP 0 rfl rfl 1 (by decide) l19 (fun _ h9 => h9) rfl dX0_discriminant_88 ?_
  refine lv_imul hx hb dX0_discriminant_91 ?_
  refine lv_iload hx hb dX0_discriminant_92 (lv_at hl 0 rfl) ?_
  refine lv_imul hx hb dX0_discriminant_94 ?_
  refine lv_isub hx hb dX0_discriminant_95 ?_
  refine lv_iconst (v := 4) hx hb dX0_discriminant_96 (by decide) ?_
  refine lv_aload_n hx hb dX0_discriminant_97 rfl (lv_at hl 4 rfl) ?_
  refine va_get (D := D) (ci := 0) (C := RX0) (T := TX0) (N := 5) hx hb hts iX0 hown hK hP 0 rfl rfl 4 (by decide) l33 (fun _ h9 => h9) rfl dX0_discriminant_98 ?_
  refine lv_imul hx hb dX0_discriminant_101 ?_
  refine lv_iload_n hx hb dX0_discriminant_102 rfl (lv_at hl 1 rfl) ?_
  refine lv_imul hx hb dX0_discriminant_103 ?_
  refine lv_isub hx hb dX0_discriminant_104 ?_
  refine lv_bipush (v := 27) hx hb dX0_discriminant_105 (by decide) ?_
  refine lv_iload_n hx hb dX0_discriminant_107 rfl (lv_at hl 2 rfl) ?_
  refine lv_imul hx hb dX0_discriminant_108 ?_
  refine lv_iload_n hx hb dX0_discriminant_109 rfl (lv_at hl 2 rfl) ?_
  refine lv_imul hx hb dX0_discriminant_110 ?_
  refine lv_isub hx hb dX0_discriminant_111 ?_
  refine lv_bipush (v := 18) hx hb dX0_discriminant_112 (by decide) ?_
  refine lv_iload_n hx hb dX0_discriminant_114 rfl (lv_at hl 2 rfl) ?_
  refine lv_imul hx hb dX0_discriminant_115 ?_
  refine lv_iload_n hx hb dX0_discriminant_116 rfl (lv_at hl 3 rfl) ?_
  refine lv_imul hx hb dX0_discriminant_117 ?_
  refine lv_iadd hx hb dX0_discriminant_118 ?_
  obtain ⟨v5, hv5, hf⟩ := o_b1 hf
  refine x_vi (rest := []) (W1 := [x_o0 a_t a_N t_c0 t_c1 t_c2 t_c3, x_o4 a_N a_N_inverses a_N_roots N_p]) ⟨hx, hb, hml, hown, hts⟩ (tX4_rest l D cI a_N a_N_inverses a_N_roots N_p (((((v1 * v1) - ((4 * t_c0) * v4)) - ((4 * t_c3) * v3)) - ((27 * v2) * v2)) + ((18 * v2) * v1)) v5 hv5) (cwV 1 hts gX0_discriminant_X4_rest rfl rfl rfl (by decide +kernel) ⟨Nat.le_of_ble_eq_true rfl, Nat.le_of_ble_eq_true rfl⟩) hN hK hP hD hS hA [1] [none, some 0] rfl rfl rfl rfl rfl rfl 0 rfl rfl rfl hl.1 rfl (Nat.le_of_ble_eq_true rfl) dX0_discriminant_119 ⟨Nat.zero_le _, Nat.zero_le _⟩ (fun H locs hP hD hS => ?_)
  obtain rfl := Option.some.inj hf
  exact hret rfl rfl dX0_discriminant_122 hP hD hS
def fX0_part (t_c0 : Int32) (t_c1 : Int32) (t_c2 : Int32) (t_c3 : Int32) (i1 : Int32) : Option (Int32) :=
  if i1 = 0 then (some t_c0) else if i1 = 1 then (some t_c1) else if i1 = 2 then (some t_c2) else if i1 = 3 then (some t_c3) else (some 0)
def rmX0_part : Room := { frames := 0, cells := 0, slots := 0, locals := 0 }
set_option maxHeartbeats 4000000 in
set_option maxRecDepth 100000 in
theorem tX0_part (l : Launch) (D : va_G) (cI : ClassId) (a_t : Nat) (a_N : Nat) (t_c0 : Int32) (t_c1 : Int32) (t_c2 : Int32) (t_c3 : Int32) (i1 : Int32) (r : Int32) (hf : fX0_part t_c0 t_c1 t_c2 t_c3 i1 = some r) : x_CI l D cI yX0_part wsX0_part rmX0_part [.ref a_t, .int i1] [x_o0 a_t a_N t_c0 t_c1 t_c2 t_c3] [x_o0 a_t a_N t_c0 t_c1 t_c2 t_c3] r := by
  refine x_CI_of (cc := cX0_part) (maxL := 2) (ty := .int) (own := RX0) (lv0 := [(0, .ref a_t), (1, .int i1)]) (by decide) rfl rfl (Nat.le_of_ble_eq_true rfl) rfl ?_
  intro p e s m args below meth c A Q ls hx hb hml hown hts hN hK hP hD hS hA hl hret
  have iX0 : ∀ w ∈ u_ws RX0 TX0 5, w ∈ wsX0_part := by decide +kernel
  have l19 := hts (.fieldLink RX0 19 "ChordRings$Cubic" "c0" "I") (by decide +kernel)
  have l27 := hts (.fieldLink RX0 27 "ChordRings$Cubic" "c1" "I") (by decide +kernel)
  have l30 := hts (.fieldLink RX0 30 "ChordRings$Cubic" "c2" "I") (by decide +kernel)
  have l33 := hts (.fieldLink RX0 33 "ChordRings$Cubic" "c3" "I") (by decide +kernel)
  unfold fX0_part at hf
  refine lv_iload_n hx hb dX0_part_0 rfl (lv_at hl 1 rfl) ?_
  by_cases hc0 : i1 = 0
  · have hf := o_t hf hc0
    refine lv_tableIn (tgt := 32) hx hb dX0_part_1 (by rw [hc0]; decide) (by rw [hc0]; decide) (by rw [hc0]; rfl) (by decide) ?_
    refine lv_aload_n hx hb dX0_part_32 rfl (lv_at hl 0 rfl) ?_
    refine va_get (D := D) (ci := 0) (C := RX0) (T := TX0) (N := 5) hx hb hts iX0 hown hK hP 0 rfl rfl 1 (by decide) l19 (fun _ h9 => h9) rfl dX0_part_33 ?_
    obtain rfl := Option.some.inj hf
    exact hret rfl rfl dX0_part_36 hP hD hS
  have hf := o_f hf hc0
  by_cases hc1 : i1 = 1
  · have hf := o_t hf hc1
    refine lv_tableIn (tgt := 37) hx hb dX0_part_1 (by rw [hc1]; decide) (by rw [hc1]; decide) (by rw [hc1]; rfl) (by decide) ?_
    refine lv_aload_n hx hb dX0_part_37 rfl (lv_at hl 0 rfl) ?_
    refine va_get (D := D) (ci := 0) (C := RX0) (T := TX0) (N := 5) hx hb hts iX0 hown hK hP 0 rfl rfl 2 (by decide) l27 (fun _ h9 => h9) rfl dX0_part_38 ?_
    obtain rfl := Option.some.inj hf
    exact hret rfl rfl dX0_part_41 hP hD hS
  have hf := o_f hf hc1
  by_cases hc2 : i1 = 2
  · have hf := o_t hf hc2
    refine lv_tableIn (tgt := 42) hx hb dX0_part_1 (by rw [hc2]; decide) (by rw [hc2]; decide) (by rw [hc2]; rfl) (by decide) ?_
    refine lv_aload_n hx hb dX0_part_42 rfl (lv_at hl 0 rfl) ?_
    refine va_get (D := D) (ci := 0) (C := RX0) (T := TX0) (N := 5) hx hb hts iX0 hown hK hP 0 rfl rfl 3 (by decide) l30 (fun _ h9 => h9) rfl dX0_part_43 ?_
    obtain rfl := Option.some.inj hf
    exact hret rfl rfl dX0_part_46 hP hD hS
  have hf := o_f hf hc2
  by_cases hc3 : i1 = 3
  · have hf := o_t hf hc3
    refine lv_tableIn (tgt := 47) hx hb dX0_part_1 (by rw [hc3]; decide) (by rw [hc3]; decide) (by rw [hc3]; rfl) (by decide) ?_
    refine lv_aload_n hx hb dX0_part_47 rfl (lv_at hl 0 rfl) ?_
    refine va_get (D := D) (ci := 0) (C := RX0) (T := TX0) (N := 5) hx hb hts iX0 hown hK hP 0 rfl rfl 4 (by decide) l33 (fun _ h9 => h9) rfl dX0_part_48 ?_
    obtain rfl := Option.some.inj hf
    exact hret rfl rfl dX0_part_51 hP hD hS
  have hf := o_f hf hc3
  refine lv_tableOut (tgt := 52) hx hb dX0_part_1 (x_out3 hc0 hc1 hc2 hc3) (by decide) ?_
  refine lv_iconst (v := 0) hx hb dX0_part_52 (by decide) ?_
  obtain rfl := Option.some.inj hf
  exact hret rfl rfl dX0_part_53 hP hD hS
noncomputable def fX0_isGood (t_c0 : Int32) (t_c1 : Int32) (t_c2 : Int32) (t_c3 : Int32) (N_p : Int32) : Option (Int32) :=
  if t_c0 = 0 then (some 0) else (if t_c3 = 0 then (some 0) else (p_b1 (fX0_discriminant t_c0 t_c1 t_c2 t_c3 N_p) (fun v1 =>
if v1 = 0 then (some 0) else (some 1))))
def rmX0_isGood : Room := { frames := 2, cells := 0, slots := 0, locals := 46 }
set_option maxHeartbeats 4000000 in
set_option maxRecDepth 100000 in
theorem tX0_isGood (l : Launch) (D : va_G) (cI : ClassId) (a_t : Nat) (a_N : Nat) (a_N_inverses : Nat) (a_N_roots : Nat) (t_c0 : Int32) (t_c1 : Int32) (t_c2 : Int32) (t_c3 : Int32) (N_p : Int32) (r : Int32) (hf : fX0_isGood t_c0 t_c1 t_c2 t_c3 N_p = some r) : x_CI l D cI yX0_isGood wsX0_isGood rmX0_isGood [.ref a_t] [x_o0 a_t a_N t_c0 t_c1 t_c2 t_c3, x_o4 a_N a_N_inverses a_N_roots N_p] [x_o0 a_t a_N t_c0 t_c1 t_c2 t_c3, x_o4 a_N a_N_inverses a_N_roots N_p] r := by
  refine x_CI_of (cc := cX0_isGood) (maxL := 1) (ty := .boolean) (own := RX0) (lv0 := [(0, .ref a_t)]) (by decide) rfl rfl (Nat.le_of_ble_eq_true rfl) rfl ?_
  intro p e s m args below meth c A Q ls hx hb hml hown hts hN hK hP hD hS hA hl hret
  have iX0 : ∀ w ∈ u_ws RX0 TX0 5, w ∈ wsX0_isGood := by decide +kernel
  have l19 := hts (.fieldLink RX0 19 "ChordRings$Cubic" "c0" "I") (by decide +kernel)
  have l33 := hts (.fieldLink RX0 33 "ChordRings$Cubic" "c3" "I") (by decide +kernel)
  unfold fX0_isGood at hf
  refine lv_aload_n hx hb dX0_isGood_0 rfl (lv_at hl 0 rfl) ?_
  refine va_get (D := D) (ci := 0) (C := RX0) (T := TX0) (N := 5) hx hb hts iX0 hown hK hP 0 rfl rfl 1 (by decide) l19 (fun _ h9 => h9) rfl dX0_isGood_1 ?_
  refine lv_if_eq (tgt := 25) hx hb dX0_isGood_4 (by decide) (fun hc => ?_) (fun hc => ?_)
  · have hf := o_t hf hc
    refine lv_iconst (v := 0) hx hb dX0_isGood_25 (by decide) ?_
    obtain rfl := Option.some.inj hf
    exact hret rfl (by decide) dX0_isGood_26 hP hD hS
  · have hf := o_f hf hc
    refine lv_aload_n hx hb dX0_isGood_7 rfl (lv_at hl 0 rfl) ?_
    refine va_get (D := D) (ci := 0) (C := RX0) (T := TX0) (N := 5) hx hb hts iX0 hown hK hP 0 rfl rfl 4 (by decide) l33 (fun _ h9 => h9) rfl dX0_isGood_8 ?_
    refine lv_if_eq (tgt := 25) hx hb dX0_isGood_11 (by decide) (fun hc => ?_) (fun hc => ?_)
    · have hf := o_t hf hc
      refine lv_iconst (v := 0) hx hb dX0_isGood_25 (by decide) ?_
      obtain rfl := Option.some.inj hf
      exact hret rfl (by decide) dX0_isGood_26 hP hD hS
    · have hf := o_f hf hc
      refine lv_aload_n hx hb dX0_isGood_14 rfl (lv_at hl 0 rfl) ?_
      obtain ⟨v1, hv1, hf⟩ := o_b1 hf
      refine x_vi (rest := []) (W1 := [x_o0 a_t a_N t_c0 t_c1 t_c2 t_c3, x_o4 a_N a_N_inverses a_N_roots N_p]) ⟨hx, hb, hml, hown, hts⟩ (tX0_discriminant l D cI a_t a_N a_N_inverses a_N_roots t_c0 t_c1 t_c2 t_c3 N_p v1 hv1) (cwV 0 hts gX0_isGood_X0_discriminant rfl rfl rfl (by decide +kernel) ⟨Nat.le_of_ble_eq_true rfl, Nat.le_of_ble_eq_true rfl⟩) hN hK hP hD hS hA [0, 1] [some 0, some 1] rfl rfl rfl rfl rfl rfl 0 rfl rfl rfl hl.1 rfl (Nat.le_of_ble_eq_true rfl) dX0_isGood_15 ⟨Nat.zero_le _, Nat.zero_le _⟩ (fun H locs hP hD hS => ?_)
      refine lv_if_eq (tgt := 25) hx hb dX0_isGood_18 (by decide) (fun hc => ?_) (fun hc => ?_)
      · have hf := o_t hf hc
        refine lv_iconst (v := 0) hx hb dX0_isGood_25 (by decide) ?_
        obtain rfl := Option.some.inj hf
        exact hret rfl (by decide) dX0_isGood_26 hP hD hS
      · have hf := o_f hf hc
        refine lv_iconst (v := 1) hx hb dX0_isGood_21 (by decide) ?_
        refine lv_goto (tgt := 26) hx hb dX0_isGood_22 (by decide) ?_
        obtain rfl := Option.some.inj hf
        exact hret rfl (by decide) dX0_isGood_26 hP hD hS
def fX2_side (t_a : Int32) (t_b : Int32) (t_c : Int32) (t_d : Int32) (t_e : Int32) (t_f : Int32) (b2_x : Int32) (b2_y : Int32) (b2_z : Int32) (i1 : Int32) : Option (Int32) :=
  if i1 = 0 then (some (((t_a * b2_x) + (t_f * b2_y)) + (t_e * b2_z))) else (if i1 = 1 then (some (((t_f * b2_x) + (t_b * b2_y)) + (t_d * b2_z))) else (some (((t_e * b2_x) + (t_d * b2_y)) + (t_c * b2_z))))
def rmX2_side : Room := { frames := 0, cells := 0, slots := 0, locals := 0 }
set_option maxHeartbeats 4000000 in
set_option maxRecDepth 100000 in
theorem tX2_side (l : Launch) (D : va_G) (cI : ClassId) (a_t : Nat) (a_b2 : Nat) (a_N : Nat) (t_a : Int32) (t_b : Int32) (t_c : Int32) (t_d : Int32) (t_e : Int32) (t_f : Int32) (b2_x : Int32) (b2_y : Int32) (b2_z : Int32) (i1 : Int32) (r : Int32) (hf : fX2_side t_a t_b t_c t_d t_e t_f b2_x b2_y b2_z i1 = some r) : x_CI l D cI yX2_side wsX2_side rmX2_side [.ref a_t, .int i1, .ref a_b2] [x_o2 a_t a_N t_a t_b t_c t_d t_e t_f, x_o7 a_b2 a_N b2_x b2_y b2_z] [x_o2 a_t a_N t_a t_b t_c t_d t_e t_f, x_o7 a_b2 a_N b2_x b2_y b2_z] r := by
  refine x_CI_of (cc := cX2_side) (maxL := 3) (ty := .int) (own := RX2) (lv0 := [(0, .ref a_t), (1, .int i1), (2, .ref a_b2)]) (by decide) rfl rfl (Nat.le_of_ble_eq_true rfl) rfl ?_
  intro p e s m args below meth c A Q ls hx hb hml hown hts hN hK hP hD hS hA hl hret
  have iX2 : ∀ w ∈ u_ws RX2 TX2 7, w ∈ wsX2_side := by decide +kernel
  have iX7 : ∀ w ∈ u_ws RX7 TX7 4, w ∈ wsX2_side := by decide +kernel
  have l32 := hts (.fieldLink RX2 32 "ChordRings$Form" "e" "I") (by decide +kernel)
  have l29 := hts (.fieldLink RX2 29 "ChordRings$Form" "d" "I") (by decide +kernel)
  have l26 := hts (.fieldLink RX2 26 "ChordRings$Form" "c" "I") (by decide +kernel)
  have l35 := hts (.fieldLink RX2 35 "ChordRings$Form" "f" "I") (by decide +kernel)
  have l23 := hts (.fieldLink RX2 23 "ChordRings$Form" "b" "I") (by decide +kernel)
  have l19 := hts (.fieldLink RX2 19 "ChordRings$Form" "a" "I") (by decide +kernel)
  unfold fX2_side at hf
  refine lv_iload_n hx hb dX2_side_0 rfl (lv_at hl 1 rfl) ?_
  refine lv_if_ne (tgt := 34) hx hb dX2_side_1 (by decide) (fun hc => ?_) (fun hc => ?_)
  · have hf := o_f hf hc
    refine lv_iload_n hx hb dX2_side_34 rfl (lv_at hl 1 rfl) ?_
    refine lv_iconst (v := 1) hx hb dX2_side_35 (by decide) ?_
    refine lv_icmp_ne (tgt := 71) hx hb dX2_side_36 (by decide) (fun hc => ?_) (fun hc => ?_)
    · have hf := o_f hf hc
      refine lv_aload_n hx hb dX2_side_71 rfl (lv_at hl 0 rfl) ?_
      refine va_get (D := D) (ci := 2) (C := RX2) (T := TX2) (N := 7) hx hb hts iX2 hown hK hP 0 rfl rfl 5 (by decide) l32 (fun _ h9 => h9) rfl dX2_side_72 ?_
      refine lv_aload_n hx hb dX2_side_75 rfl (lv_at hl 2 rfl) ?_
      refine va_getN (D := D) (ci := 7) (C := RX7) (T := TX7) (N := 4) hx hb hts iX7 hown hK hP 1 rfl rfl 1 (by decide) (va_Nw.use rfl hN.1) (fun _ h9 => h9) rfl dX2_side_76 ?_
      refine lv_imul hx hb dX2_side_79 ?_
      refine lv_aload_n hx hb dX2_side_80 rfl (lv_at hl 0 rfl) ?_
      refine va_get (D := D) (ci := 2) (C := RX2) (T := TX2) (N := 7) hx hb hts iX2 hown hK hP 0 rfl rfl 4 (by decide) l29 (fun _ h9 => h9) rfl dX2_side_81 ?_
      refine lv_aload_n hx hb dX2_side_84 rfl (lv_at hl 2 rfl) ?_
      refine va_getN (D := D) (ci := 7) (C := RX7) (T := TX7) (N := 4) hx hb hts iX7 hown hK hP 1 rfl rfl 2 (by decide) (va_Nw.use rfl hN.2.1) (fun _ h9 => h9) rfl dX2_side_85 ?_
      refine lv_imul hx hb dX2_side_88 ?_
      refine lv_iadd hx hb dX2_side_89 ?_
      refine lv_aload_n hx hb dX2_side_90 rfl (lv_at hl 0 rfl) ?_
      refine va_get (D := D) (ci := 2) (C := RX2) (T := TX2) (N := 7) hx hb hts iX2 hown hK hP 0 rfl rfl 3 (by decide) l26 (fun _ h9 => h9) rfl dX2_side_91 ?_
      refine lv_aload_n hx hb dX2_side_94 rfl (lv_at hl 2 rfl) ?_
      refine va_getN (D := D) (ci := 7) (C := RX7) (T := TX7) (N := 4) hx hb hts iX7 hown hK hP 1 rfl rfl 3 (by decide) (va_Nw.use rfl hN.2.2.1) (fun _ h9 => h9) rfl dX2_side_95 ?_
      refine lv_imul hx hb dX2_side_98 ?_
      refine lv_iadd hx hb dX2_side_99 ?_
      obtain rfl := Option.some.inj hf
      exact hret rfl rfl dX2_side_100 hP hD hS
    · have hf := o_t hf hc
      refine lv_aload_n hx hb dX2_side_39 rfl (lv_at hl 0 rfl) ?_
      refine va_get (D := D) (ci := 2) (C := RX2) (T := TX2) (N := 7) hx hb hts iX2 hown hK hP 0 rfl rfl 6 (by decide) l35 (fun _ h9 => h9) rfl dX2_side_40 ?_
      refine lv_aload_n hx hb dX2_side_43 rfl (lv_at hl 2 rfl) ?_
      refine va_getN (D := D) (ci := 7) (C := RX7) (T := TX7) (N := 4) hx hb hts iX7 hown hK hP 1 rfl rfl 1 (by decide) (va_Nw.use rfl hN.1) (fun _ h9 => h9) rfl dX2_side_44 ?_
      refine lv_imul hx hb dX2_side_47 ?_
      refine lv_aload_n hx hb dX2_side_48 rfl (lv_at hl 0 rfl) ?_
      refine va_get (D := D) (ci := 2) (C := RX2) (T := TX2) (N := 7) hx hb hts iX2 hown hK hP 0 rfl rfl 2 (by decide) l23 (fun _ h9 => h9) rfl dX2_side_49 ?_
      refine lv_aload_n hx hb dX2_side_52 rfl (lv_at hl 2 rfl) ?_
      refine va_getN (D := D) (ci := 7) (C := RX7) (T := TX7) (N := 4) hx hb hts iX7 hown hK hP 1 rfl rfl 2 (by decide) (va_Nw.use rfl hN.2.1) (fun _ h9 => h9) rfl dX2_side_53 ?_
      refine lv_imul hx hb dX2_side_56 ?_
      refine lv_iadd hx hb dX2_side_57 ?_
      refine lv_aload_n hx hb dX2_side_58 rfl (lv_at hl 0 rfl) ?_
      refine va_get (D := D) (ci := 2) (C := RX2) (T := TX2) (N := 7) hx hb hts iX2 hown hK hP 0 rfl rfl 4 (by decide) l29 (fun _ h9 => h9) rfl dX2_side_59 ?_
      refine lv_aload_n hx hb dX2_side_62 rfl (lv_at hl 2 rfl) ?_
      refine va_getN (D := D) (ci := 7) (C := RX7) (T := TX7) (N := 4) hx hb hts iX7 hown hK hP 1 rfl rfl 3 (by decide) (va_Nw.use rfl hN.2.2.1) (fun _ h9 => h9) rfl dX2_side_63 ?_
      refine lv_imul hx hb dX2_side_66 ?_
      refine lv_iadd hx hb dX2_side_67 ?_
      refine lv_goto (tgt := 100) hx hb dX2_side_68 (by decide) ?_
      obtain rfl := Option.some.inj hf
      exact hret rfl rfl dX2_side_100 hP hD hS
  · have hf := o_t hf hc
    refine lv_aload_n hx hb dX2_side_4 rfl (lv_at hl 0 rfl) ?_
    refine va_get (D := D) (ci := 2) (C := RX2) (T := TX2) (N := 7) hx hb hts iX2 hown hK hP 0 rfl rfl 1 (by decide) l19 (fun _ h9 => h9) rfl dX2_side_5 ?_
    refine lv_aload_n hx hb dX2_side_8 rfl (lv_at hl 2 rfl) ?_
    refine va_getN (D := D) (ci := 7) (C := RX7) (T := TX7) (N := 4) hx hb hts iX7 hown hK hP 1 rfl rfl 1 (by decide) (va_Nw.use rfl hN.1) (fun _ h9 => h9) rfl dX2_side_9 ?_
    refine lv_imul hx hb dX2_side_12 ?_
    refine lv_aload_n hx hb dX2_side_13 rfl (lv_at hl 0 rfl) ?_
    refine va_get (D := D) (ci := 2) (C := RX2) (T := TX2) (N := 7) hx hb hts iX2 hown hK hP 0 rfl rfl 6 (by decide) l35 (fun _ h9 => h9) rfl dX2_side_14 ?_
    refine lv_aload_n hx hb dX2_side_17 rfl (lv_at hl 2 rfl) ?_
    refine va_getN (D := D) (ci := 7) (C := RX7) (T := TX7) (N := 4) hx hb hts iX7 hown hK hP 1 rfl rfl 2 (by decide) (va_Nw.use rfl hN.2.1) (fun _ h9 => h9) rfl dX2_side_18 ?_
    refine lv_imul hx hb dX2_side_21 ?_
    refine lv_iadd hx hb dX2_side_22 ?_
    refine lv_aload_n hx hb dX2_side_23 rfl (lv_at hl 0 rfl) ?_
    refine va_get (D := D) (ci := 2) (C := RX2) (T := TX2) (N := 7) hx hb hts iX2 hown hK hP 0 rfl rfl 5 (by decide) l32 (fun _ h9 => h9) rfl dX2_side_24 ?_
    refine lv_aload_n hx hb dX2_side_27 rfl (lv_at hl 2 rfl) ?_
    refine va_getN (D := D) (ci := 7) (C := RX7) (T := TX7) (N := 4) hx hb hts iX7 hown hK hP 1 rfl rfl 3 (by decide) (va_Nw.use rfl hN.2.2.1) (fun _ h9 => h9) rfl dX2_side_28 ?_
    refine lv_imul hx hb dX2_side_31 ?_
    refine lv_iadd hx hb dX2_side_32 ?_
    obtain rfl := Option.some.inj hf
    exact hret rfl rfl dX2_side_33 hP hD hS
noncomputable def fX2_between_s12 (t_a : Int32) (t_b : Int32) (t_c : Int32) (t_d : Int32) (t_e : Int32) (t_f : Int32) (b1_x : Int32) (b1_y : Int32) (b1_z : Int32) (N_p : Int32) : Option (Int32) :=
  p_b1 (fX2_side t_a t_b t_c t_d t_e t_f b1_x b1_y b1_z 0) (fun v1 =>
p_b1 (fX2_side t_a t_b t_c t_d t_e t_f b1_x b1_y b1_z 1) (fun v2 =>
p_b1 (fX2_side t_a t_b t_c t_d t_e t_f b1_x b1_y b1_z 2) (fun v3 =>
p_b1 (fX4_rest N_p (((b1_x * v1) + (b1_y * v2)) + (b1_z * v3))) (fun v4 =>
some v4))))
def rmX2_between_s12 : Room := { frames := 1, cells := 0, slots := 0, locals := 22 }
set_option maxHeartbeats 4000000 in
set_option maxRecDepth 100000 in
theorem tX2_between_s12 (l : Launch) (D : va_G) (cI : ClassId) (a_t : Nat) (a_b1 : Nat) (a_N : Nat) (a_N_inverses : Nat) (a_N_roots : Nat) (t_a : Int32) (t_b : Int32) (t_c : Int32) (t_d : Int32) (t_e : Int32) (t_f : Int32) (b1_x : Int32) (b1_y : Int32) (b1_z : Int32) (N_p : Int32) (r : Int32) (hf : fX2_between_s12 t_a t_b t_c t_d t_e t_f b1_x b1_y b1_z N_p = some r) : x_CI l D cI yX2_between wsX2_between rmX2_between_s12 [.ref a_t, .ref a_b1, .ref a_b1] [x_o2 a_t a_N t_a t_b t_c t_d t_e t_f, x_o7 a_b1 a_N b1_x b1_y b1_z, x_o4 a_N a_N_inverses a_N_roots N_p] [x_o2 a_t a_N t_a t_b t_c t_d t_e t_f, x_o7 a_b1 a_N b1_x b1_y b1_z, x_o4 a_N a_N_inverses a_N_roots N_p] r := by
  refine x_CI_of (cc := cX2_between) (maxL := 3) (ty := .int) (own := RX2) (lv0 := [(0, .ref a_t), (1, .ref a_b1), (2, .ref a_b1)]) (by decide) rfl rfl (Nat.le_of_ble_eq_true rfl) rfl ?_
  intro p e s m args below meth c A Q ls hx hb hml hown hts hN hK hP hD hS hA hl hret
  have iX2 : ∀ w ∈ u_ws RX2 TX2 7, w ∈ wsX2_between := by decide +kernel
  have iX7 : ∀ w ∈ u_ws RX7 TX7 4, w ∈ wsX2_between := by decide +kernel
  have l7 := hts (.fieldLink RX2 7 "ChordRings$Form" "numbers" "LChordRings$Numbers;") (by decide +kernel)
  unfold fX2_between_s12 at hf
  refine lv_aload_n hx hb dX2_between_0 rfl (lv_at hl 0 rfl) ?_
  refine va_get (D := D) (ci := 2) (C := RX2) (T := TX2) (N := 7) hx hb hts iX2 hown hK hP 0 rfl rfl 0 (by decide) l7 (fun _ h9 => h9) rfl dX2_between_1 ?_
  refine lv_aload_n hx hb dX2_between_4 rfl (lv_at hl 1 rfl) ?_
  refine va_getN (D := D) (ci := 7) (C := RX7) (T := TX7) (N := 4) hx hb hts iX7 hown hK hP 1 rfl rfl 1 (by decide) (va_Nw.use rfl hN.1) (fun _ h9 => h9) rfl dX2_between_5 ?_
  refine lv_aload_n hx hb dX2_between_8 rfl (lv_at hl 0 rfl) ?_
  refine lv_iconst (v := 0) hx hb dX2_between_9 (by decide) ?_
  refine lv_aload_n hx hb dX2_between_10 rfl (lv_at hl 2 rfl) ?_
  obtain ⟨v1, hv1, hf⟩ := o_b1 hf
  refine x_vi (rest := [.int b1_x, .ref a_N]) (W1 := [x_o2 a_t a_N t_a t_b t_c t_d t_e t_f, x_o7 a_b1 a_N b1_x b1_y b1_z, x_o4 a_N a_N_inverses a_N_roots N_p]) ⟨hx, hb, hml, hown, hts⟩ (tX2_side l D cI a_t a_b1 a_N t_a t_b t_c t_d t_e t_f b1_x b1_y b1_z 0 v1 hv1) (cwV 2 hts gX2_between_X2_side rfl rfl rfl (by decide +kernel) ⟨Nat.le_of_ble_eq_true rfl, Nat.le_of_ble_eq_true rfl⟩) hN hK hP hD hS hA [0, 1] [some 0, some 1, none] rfl rfl rfl rfl rfl rfl 0 rfl rfl rfl hl.1 rfl (Nat.le_of_ble_eq_true rfl) dX2_between_11 ⟨Nat.zero_le _, Nat.zero_le _⟩ (fun H locs hP hD hS => ?_)
  refine lv_imul hx hb dX2_between_14 ?_
  refine lv_aload_n hx hb dX2_between_15 rfl (lv_at hl 1 rfl) ?_
  refine va_getN (D := D) (ci := 7) (C := RX7) (T := TX7) (N := 4) hx hb hts iX7 hown hK hP 1 rfl rfl 2 (by decide) (va_Nw.use rfl hN.2.1) (fun _ h9 => h9) rfl dX2_between_16 ?_
  refine lv_aload_n hx hb dX2_between_19 rfl (lv_at hl 0 rfl) ?_
  refine lv_iconst (v := 1) hx hb dX2_between_20 (by decide) ?_
  refine lv_aload_n hx hb dX2_between_21 rfl (lv_at hl 2 rfl) ?_
  obtain ⟨v2, hv2, hf⟩ := o_b1 hf
  refine x_vi (rest := [.int b1_y, .int (b1_x * v1), .ref a_N]) (W1 := [x_o2 a_t a_N t_a t_b t_c t_d t_e t_f, x_o7 a_b1 a_N b1_x b1_y b1_z, x_o4 a_N a_N_inverses a_N_roots N_p]) ⟨hx, hb, hml, hown, hts⟩ (tX2_side l D cI a_t a_b1 a_N t_a t_b t_c t_d t_e t_f b1_x b1_y b1_z 1 v2 hv2) (cwV 2 hts gX2_between_X2_side rfl rfl rfl (by decide +kernel) ⟨Nat.le_of_ble_eq_true rfl, Nat.le_of_ble_eq_true rfl⟩) hN hK hP hD hS hA [0, 1] [some 0, some 1, none] rfl rfl rfl rfl rfl rfl 0 rfl rfl rfl hl.1 rfl (Nat.le_of_ble_eq_true rfl) dX2_between_22 ⟨Nat.zero_le _, Nat.zero_le _⟩ (fun H locs hP hD hS => ?_)
  refine lv_imul hx hb dX2_between_25 ?_
  refine lv_iadd hx hb dX2_between_26 ?_
  refine lv_aload_n hx hb dX2_between_27 rfl (lv_at hl 1 rfl) ?_
  refine va_getN (D := D) (ci := 7) (C := RX7) (T := TX7) (N := 4) hx hb hts iX7 hown hK hP 1 rfl rfl 3 (by decide) (va_Nw.use rfl hN.2.2.1) (fun _ h9 => h9) rfl dX2_between_28 ?_
  refine lv_aload_n hx hb dX2_between_31 rfl (lv_at hl 0 rfl) ?_
  refine lv_iconst (v := 2) hx hb dX2_between_32 (by decide) ?_
  refine lv_aload_n hx hb dX2_between_33 rfl (lv_at hl 2 rfl) ?_
  obtain ⟨v3, hv3, hf⟩ := o_b1 hf
  refine x_vi (rest := [.int b1_z, .int ((b1_x * v1) + (b1_y * v2)), .ref a_N]) (W1 := [x_o2 a_t a_N t_a t_b t_c t_d t_e t_f, x_o7 a_b1 a_N b1_x b1_y b1_z, x_o4 a_N a_N_inverses a_N_roots N_p]) ⟨hx, hb, hml, hown, hts⟩ (tX2_side l D cI a_t a_b1 a_N t_a t_b t_c t_d t_e t_f b1_x b1_y b1_z 2 v3 hv3) (cwV 2 hts gX2_between_X2_side rfl rfl rfl (by decide +kernel) ⟨Nat.le_of_ble_eq_true rfl, Nat.le_of_ble_eq_true rfl⟩) hN hK hP hD hS hA [0, 1] [some 0, some 1, none] rfl rfl rfl rfl rfl rfl 0 rfl rfl rfl hl.1 rfl (Nat.le_of_ble_eq_true rfl) dX2_between_34 ⟨Nat.zero_le _, Nat.zero_le _⟩ (fun H locs hP hD hS => ?_)
  refine lv_imul hx hb dX2_between_37 ?_
  refine lv_iadd hx hb dX2_between_38 ?_
  obtain ⟨v4, hv4, hf⟩ := o_b1 hf
  refine x_vi (rest := []) (W1 := [x_o2 a_t a_N t_a t_b t_c t_d t_e t_f, x_o7 a_b1 a_N b1_x b1_y b1_z, x_o4 a_N a_N_inverses a_N_roots N_p]) ⟨hx, hb, hml, hown, hts⟩ (tX4_rest l D cI a_N a_N_inverses a_N_roots N_p (((b1_x * v1) + (b1_y * v2)) + (b1_z * v3)) v4 hv4) (cwV 1 hts gX2_between_X4_rest rfl rfl rfl (by decide +kernel) ⟨Nat.le_of_ble_eq_true rfl, Nat.le_of_ble_eq_true rfl⟩) hN hK hP hD hS hA [2] [none, none, some 0] rfl rfl rfl rfl rfl rfl 0 rfl rfl rfl hl.1 rfl (Nat.le_of_ble_eq_true rfl) dX2_between_39 ⟨Nat.zero_le _, Nat.zero_le _⟩ (fun H locs hP hD hS => ?_)
  obtain rfl := Option.some.inj hf
  exact hret rfl rfl dX2_between_42 hP hD hS
noncomputable def fX2_at (t_a : Int32) (t_b : Int32) (t_c : Int32) (t_d : Int32) (t_e : Int32) (t_f : Int32) (b1_x : Int32) (b1_y : Int32) (b1_z : Int32) (N_p : Int32) : Option (Int32) :=
  p_b1 (fX2_between_s12 t_a t_b t_c t_d t_e t_f b1_x b1_y b1_z N_p) (fun v1 =>
some v1)
def rmX2_at : Room := { frames := 2, cells := 0, slots := 0, locals := 44 }
set_option maxHeartbeats 4000000 in
set_option maxRecDepth 100000 in
theorem tX2_at (l : Launch) (D : va_G) (cI : ClassId) (a_t : Nat) (a_b1 : Nat) (a_N : Nat) (a_N_inverses : Nat) (a_N_roots : Nat) (t_a : Int32) (t_b : Int32) (t_c : Int32) (t_d : Int32) (t_e : Int32) (t_f : Int32) (b1_x : Int32) (b1_y : Int32) (b1_z : Int32) (N_p : Int32) (r : Int32) (hf : fX2_at t_a t_b t_c t_d t_e t_f b1_x b1_y b1_z N_p = some r) : x_CI l D cI yX2_at wsX2_at rmX2_at [.ref a_t, .ref a_b1] [x_o2 a_t a_N t_a t_b t_c t_d t_e t_f, x_o7 a_b1 a_N b1_x b1_y b1_z, x_o4 a_N a_N_inverses a_N_roots N_p] [x_o2 a_t a_N t_a t_b t_c t_d t_e t_f, x_o7 a_b1 a_N b1_x b1_y b1_z, x_o4 a_N a_N_inverses a_N_roots N_p] r := by
  refine x_CI_of (cc := cX2_at) (maxL := 2) (ty := .int) (own := RX2) (lv0 := [(0, .ref a_t), (1, .ref a_b1)]) (by decide) rfl rfl (Nat.le_of_ble_eq_true rfl) rfl ?_
  intro p e s m args below meth c A Q ls hx hb hml hown hts hN hK hP hD hS hA hl hret
  unfold fX2_at at hf
  refine lv_aload_n hx hb dX2_at_0 rfl (lv_at hl 0 rfl) ?_
  refine lv_aload_n hx hb dX2_at_1 rfl (lv_at hl 1 rfl) ?_
  refine lv_aload_n hx hb dX2_at_2 rfl (lv_at hl 1 rfl) ?_
  obtain ⟨v1, hv1, hf⟩ := o_b1 hf
  refine x_vi (rest := []) (W1 := [x_o2 a_t a_N t_a t_b t_c t_d t_e t_f, x_o7 a_b1 a_N b1_x b1_y b1_z, x_o4 a_N a_N_inverses a_N_roots N_p]) ⟨hx, hb, hml, hown, hts⟩ (tX2_between_s12 l D cI a_t a_b1 a_N a_N_inverses a_N_roots t_a t_b t_c t_d t_e t_f b1_x b1_y b1_z N_p v1 hv1) (cwV 2 hts gX2_at_X2_between rfl rfl rfl (by decide +kernel) ⟨Nat.le_of_ble_eq_true rfl, Nat.le_of_ble_eq_true rfl⟩) hN hK hP hD hS hA [0, 1, 2] [some 0, some 1, some 2] rfl rfl rfl rfl rfl rfl 0 rfl rfl rfl hl.1 rfl (Nat.le_of_ble_eq_true rfl) dX2_at_3 ⟨Nat.zero_le _, Nat.zero_le _⟩ (fun H locs hP hD hS => ?_)
  obtain rfl := Option.some.inj hf
  exact hret rfl rfl dX2_at_6 hP hD hS
noncomputable def fX2_takeMix (t_a : Int32) (t_b : Int32) (t_c : Int32) (t_d : Int32) (t_e : Int32) (t_f : Int32) (b2_a : Int32) (b2_b : Int32) (b2_c : Int32) (b2_d : Int32) (b2_e : Int32) (b2_f : Int32) (b4_a : Int32) (b4_b : Int32) (b4_c : Int32) (b4_d : Int32) (b4_e : Int32) (b4_f : Int32) (N_p : Int32) (i1 : Int32) (i3 : Int32) : Option (Int32 × Int32 × Int32 × Int32 × Int32 × Int32) :=
  p_b6 (fX2_take t_a t_b t_c t_d t_e t_f N_p ((i1 * b2_a) + (i3 * b4_a)) ((i1 * b2_b) + (i3 * b4_b)) ((i1 * b2_c) + (i3 * b4_c)) ((i1 * b2_d) + (i3 * b4_d)) ((i1 * b2_e) + (i3 * b4_e)) ((i1 * b2_f) + (i3 * b4_f))) (fun v1 v2 v3 v4 v5 v6 =>
some (v1, v2, v3, v4, v5, v6))
def rmX2_takeMix : Room := { frames := 2, cells := 0, slots := 0, locals := 48 }
set_option maxHeartbeats 4000000 in
set_option maxRecDepth 100000 in
theorem tX2_takeMix (l : Launch) (D : va_G) (cI : ClassId) (a_t : Nat) (a_b2 : Nat) (a_b4 : Nat) (a_N : Nat) (a_N_inverses : Nat) (a_N_roots : Nat) (t_a : Int32) (t_b : Int32) (t_c : Int32) (t_d : Int32) (t_e : Int32) (t_f : Int32) (b2_a : Int32) (b2_b : Int32) (b2_c : Int32) (b2_d : Int32) (b2_e : Int32) (b2_f : Int32) (b4_a : Int32) (b4_b : Int32) (b4_c : Int32) (b4_d : Int32) (b4_e : Int32) (b4_f : Int32) (N_p : Int32) (i1 : Int32) (i3 : Int32) (s_t_a : Int32) (s_t_b : Int32) (s_t_c : Int32) (s_t_d : Int32) (s_t_e : Int32) (s_t_f : Int32) (hf : fX2_takeMix t_a t_b t_c t_d t_e t_f b2_a b2_b b2_c b2_d b2_e b2_f b4_a b4_b b4_c b4_d b4_e b4_f N_p i1 i3 = some (s_t_a, s_t_b, s_t_c, s_t_d, s_t_e, s_t_f)) : x_CV l D cI yX2_takeMix wsX2_takeMix rmX2_takeMix [.ref a_t, .int i1, .ref a_b2, .int i3, .ref a_b4] [x_o2 a_t a_N t_a t_b t_c t_d t_e t_f, x_o2 a_b2 a_N b2_a b2_b b2_c b2_d b2_e b2_f, x_o2 a_b4 a_N b4_a b4_b b4_c b4_d b4_e b4_f, x_o4 a_N a_N_inverses a_N_roots N_p] [x_o2 a_t a_N s_t_a s_t_b s_t_c s_t_d s_t_e s_t_f, x_o2 a_b2 a_N b2_a b2_b b2_c b2_d b2_e b2_f, x_o2 a_b4 a_N b4_a b4_b b4_c b4_d b4_e b4_f, x_o4 a_N a_N_inverses a_N_roots N_p] := by
  refine x_CV_of (cc := cX2_takeMix) (maxL := 5) (own := RX2) (lv0 := [(0, .ref a_t), (1, .int i1), (2, .ref a_b2), (3, .int i3), (4, .ref a_b4)]) (by decide) rfl rfl (Nat.le_of_ble_eq_true rfl) rfl ?_
  intro p e s m args below meth c A Q ls hx hb hml hown hts hN hK hP hD hS hA hl hret
  have iX2 : ∀ w ∈ u_ws RX2 TX2 7, w ∈ wsX2_takeMix := by decide +kernel
  have l19 := hts (.fieldLink RX2 19 "ChordRings$Form" "a" "I") (by decide +kernel)
  have l23 := hts (.fieldLink RX2 23 "ChordRings$Form" "b" "I") (by decide +kernel)
  have l26 := hts (.fieldLink RX2 26 "ChordRings$Form" "c" "I") (by decide +kernel)
  have l29 := hts (.fieldLink RX2 29 "ChordRings$Form" "d" "I") (by decide +kernel)
  have l32 := hts (.fieldLink RX2 32 "ChordRings$Form" "e" "I") (by decide +kernel)
  have l35 := hts (.fieldLink RX2 35 "ChordRings$Form" "f" "I") (by decide +kernel)
  unfold fX2_takeMix at hf
  refine lv_aload_n hx hb dX2_takeMix_0 rfl (lv_at hl 0 rfl) ?_
  refine lv_iload_n hx hb dX2_takeMix_1 rfl (lv_at hl 1 rfl) ?_
  refine lv_aload_n hx hb dX2_takeMix_2 rfl (lv_at hl 2 rfl) ?_
  refine va_get (D := D) (ci := 2) (C := RX2) (T := TX2) (N := 7) hx hb hts iX2 hown hK hP 1 rfl rfl 1 (by decide) l19 (fun _ h9 => h9) rfl dX2_takeMix_3 ?_
  refine lv_imul hx hb dX2_takeMix_6 ?_
  refine lv_iload_n hx hb dX2_takeMix_7 rfl (lv_at hl 3 rfl) ?_
  refine lv_aload hx hb dX2_takeMix_8 (lv_at hl 4 rfl) ?_
  refine va_get (D := D) (ci := 2) (C := RX2) (T := TX2) (N := 7) hx hb hts iX2 hown hK hP 2 rfl rfl 1 (by decide) l19 (fun _ h9 => h9) rfl dX2_takeMix_10 ?_
  refine lv_imul hx hb dX2_takeMix_13 ?_
  refine lv_iadd hx hb dX2_takeMix_14 ?_
  refine lv_iload_n hx hb dX2_takeMix_15 rfl (lv_at hl 1 rfl) ?_
  refine lv_aload_n hx hb dX2_takeMix_16 rfl (lv_at hl 2 rfl) ?_
  refine va_get (D := D) (ci := 2) (C := RX2) (T := TX2) (N := 7) hx hb hts iX2 hown hK hP 1 rfl rfl 2 (by decide) l23 (fun _ h9 => h9) rfl dX2_takeMix_17 ?_
  refine lv_imul hx hb dX2_takeMix_20 ?_
  refine lv_iload_n hx hb dX2_takeMix_21 rfl (lv_at hl 3 rfl) ?_
  refine lv_aload hx hb dX2_takeMix_22 (lv_at hl 4 rfl) ?_
  refine va_get (D := D) (ci := 2) (C := RX2) (T := TX2) (N := 7) hx hb hts iX2 hown hK hP 2 rfl rfl 2 (by decide) l23 (fun _ h9 => h9) rfl dX2_takeMix_24 ?_
  refine lv_imul hx hb dX2_takeMix_27 ?_
  refine lv_iadd hx hb dX2_takeMix_28 ?_
  refine lv_iload_n hx hb dX2_takeMix_29 rfl (lv_at hl 1 rfl) ?_
  refine lv_aload_n hx hb dX2_takeMix_30 rfl (lv_at hl 2 rfl) ?_
  refine va_get (D := D) (ci := 2) (C := RX2) (T := TX2) (N := 7) hx hb hts iX2 hown hK hP 1 rfl rfl 3 (by decide) l26 (fun _ h9 => h9) rfl dX2_takeMix_31 ?_
  refine lv_imul hx hb dX2_takeMix_34 ?_
  refine lv_iload_n hx hb dX2_takeMix_35 rfl (lv_at hl 3 rfl) ?_
  refine lv_aload hx hb dX2_takeMix_36 (lv_at hl 4 rfl) ?_
  refine va_get (D := D) (ci := 2) (C := RX2) (T := TX2) (N := 7) hx hb hts iX2 hown hK hP 2 rfl rfl 3 (by decide) l26 (fun _ h9 => h9) rfl dX2_takeMix_38 ?_
  refine lv_imul hx hb dX2_takeMix_41 ?_
  refine lv_iadd hx hb dX2_takeMix_42 ?_
  refine lv_iload_n hx hb dX2_takeMix_43 rfl (lv_at hl 1 rfl) ?_
  refine lv_aload_n hx hb dX2_takeMix_44 rfl (lv_at hl 2 rfl) ?_
  refine va_get (D := D) (ci := 2) (C := RX2) (T := TX2) (N := 7) hx hb hts iX2 hown hK hP 1 rfl rfl 4 (by decide) l29 (fun _ h9 => h9) rfl dX2_takeMix_45 ?_
  refine lv_imul hx hb dX2_takeMix_48 ?_
  refine lv_iload_n hx hb dX2_takeMix_49 rfl (lv_at hl 3 rfl) ?_
  refine lv_aload hx hb dX2_takeMix_50 (lv_at hl 4 rfl) ?_
  refine va_get (D := D) (ci := 2) (C := RX2) (T := TX2) (N := 7) hx hb hts iX2 hown hK hP 2 rfl rfl 4 (by decide) l29 (fun _ h9 => h9) rfl dX2_takeMix_52 ?_
  refine lv_imul hx hb dX2_takeMix_55 ?_
  refine lv_iadd hx hb dX2_takeMix_56 ?_
  refine lv_iload_n hx hb dX2_takeMix_57 rfl (lv_at hl 1 rfl) ?_
  refine lv_aload_n hx hb dX2_takeMix_58 rfl (lv_at hl 2 rfl) ?_
  refine va_get (D := D) (ci := 2) (C := RX2) (T := TX2) (N := 7) hx hb hts iX2 hown hK hP 1 rfl rfl 5 (by decide) l32 (fun _ h9 => h9) rfl dX2_takeMix_59 ?_
  refine lv_imul hx hb dX2_takeMix_62 ?_
  refine lv_iload_n hx hb dX2_takeMix_63 rfl (lv_at hl 3 rfl) ?_
  refine lv_aload hx hb dX2_takeMix_64 (lv_at hl 4 rfl) ?_
  refine va_get (D := D) (ci := 2) (C := RX2) (T := TX2) (N := 7) hx hb hts iX2 hown hK hP 2 rfl rfl 5 (by decide) l32 (fun _ h9 => h9) rfl dX2_takeMix_66 ?_
  refine lv_imul hx hb dX2_takeMix_69 ?_
  refine lv_iadd hx hb dX2_takeMix_70 ?_
  refine lv_iload_n hx hb dX2_takeMix_71 rfl (lv_at hl 1 rfl) ?_
  refine lv_aload_n hx hb dX2_takeMix_72 rfl (lv_at hl 2 rfl) ?_
  refine va_get (D := D) (ci := 2) (C := RX2) (T := TX2) (N := 7) hx hb hts iX2 hown hK hP 1 rfl rfl 6 (by decide) l35 (fun _ h9 => h9) rfl dX2_takeMix_73 ?_
  refine lv_imul hx hb dX2_takeMix_76 ?_
  refine lv_iload_n hx hb dX2_takeMix_77 rfl (lv_at hl 3 rfl) ?_
  refine lv_aload hx hb dX2_takeMix_78 (lv_at hl 4 rfl) ?_
  refine va_get (D := D) (ci := 2) (C := RX2) (T := TX2) (N := 7) hx hb hts iX2 hown hK hP 2 rfl rfl 6 (by decide) l35 (fun _ h9 => h9) rfl dX2_takeMix_80 ?_
  refine lv_imul hx hb dX2_takeMix_83 ?_
  refine lv_iadd hx hb dX2_takeMix_84 ?_
  obtain ⟨v1, v2, v3, v4, v5, v6, hv1, hf⟩ := o_b6 hf
  refine x_vv (rest := []) (W1 := [x_o2 a_t a_N v1 v2 v3 v4 v5 v6, x_o2 a_b2 a_N b2_a b2_b b2_c b2_d b2_e b2_f, x_o2 a_b4 a_N b4_a b4_b b4_c b4_d b4_e b4_f, x_o4 a_N a_N_inverses a_N_roots N_p]) ⟨hx, hb, hml, hown, hts⟩ (tX2_take l D cI a_t a_N a_N_inverses a_N_roots t_a t_b t_c t_d t_e t_f N_p ((i1 * b2_a) + (i3 * b4_a)) ((i1 * b2_b) + (i3 * b4_b)) ((i1 * b2_c) + (i3 * b4_c)) ((i1 * b2_d) + (i3 * b4_d)) ((i1 * b2_e) + (i3 * b4_e)) ((i1 * b2_f) + (i3 * b4_f)) v1 v2 v3 v4 v5 v6 hv1) (cwV 6 hts gX2_takeMix_X2_take rfl rfl rfl (by decide +kernel) ⟨Nat.le_of_ble_eq_true rfl, Nat.le_of_ble_eq_true rfl⟩) hN hK hP hD hS hA [0, 3] [some 0, none, none, some 1] rfl rfl rfl rfl rfl rfl 0 rfl rfl rfl hl.1 rfl (Nat.le_of_ble_eq_true rfl) dX2_takeMix_85 ⟨Nat.zero_le _, Nat.zero_le _⟩ (fun H locs hP hD hS => ?_)
  obtain ⟨rfl, rfl, rfl, rfl, rfl, rfl⟩ := o_s6 hf
  exact hret dX2_takeMix_88 hP hD hS
noncomputable def fX7_take (t_x : Int32) (t_y : Int32) (t_z : Int32) (N_p : Int32) (i1 : Int32) (i2 : Int32) (i3 : Int32) : Option (Int32 × Int32 × Int32) :=
  p_b1 (fX4_rest N_p i1) (fun v1 =>
p_b1 (fX4_rest N_p i2) (fun v2 =>
p_b1 (fX4_rest N_p i3) (fun v3 =>
some (v1, v2, v3))))
def rmX7_take : Room := { frames := 1, cells := 0, slots := 0, locals := 22 }
set_option maxHeartbeats 4000000 in
set_option maxRecDepth 100000 in
theorem tX7_take (l : Launch) (D : va_G) (cI : ClassId) (a_t : Nat) (a_N : Nat) (a_N_inverses : Nat) (a_N_roots : Nat) (t_x : Int32) (t_y : Int32) (t_z : Int32) (N_p : Int32) (i1 : Int32) (i2 : Int32) (i3 : Int32) (s_t_x : Int32) (s_t_y : Int32) (s_t_z : Int32) (hf : fX7_take t_x t_y t_z N_p i1 i2 i3 = some (s_t_x, s_t_y, s_t_z)) : x_CV l D cI yX7_take wsX7_take rmX7_take [.ref a_t, .int i1, .int i2, .int i3] [x_o7 a_t a_N t_x t_y t_z, x_o4 a_N a_N_inverses a_N_roots N_p] [x_o7 a_t a_N s_t_x s_t_y s_t_z, x_o4 a_N a_N_inverses a_N_roots N_p] := by
  refine x_CV_of (cc := cX7_take) (maxL := 4) (own := RX7) (lv0 := [(0, .ref a_t), (1, .int i1), (2, .int i2), (3, .int i3)]) (by decide) rfl rfl (Nat.le_of_ble_eq_true rfl) rfl ?_
  intro p e s m args below meth c A Q ls hx hb hml hown hts hN hK hP hD hS hA hl hret
  have iX7 : ∀ w ∈ u_ws RX7 TX7 4, w ∈ wsX7_take := by decide +kernel
  have l7 := hts (.fieldLink RX7 7 "ChordRings$Triple" "numbers" "LChordRings$Numbers;") (by decide +kernel)
  have l19 := hts (.fieldLink RX7 19 "ChordRings$Triple" "x" "I") (by decide +kernel)
  have l23 := hts (.fieldLink RX7 23 "ChordRings$Triple" "y" "I") (by decide +kernel)
  have l26 := hts (.fieldLink RX7 26 "ChordRings$Triple" "z" "I") (by decide +kernel)
  unfold fX7_take at hf
  refine lv_aload_n hx hb dX7_take_0 rfl (lv_at hl 0 rfl) ?_
  refine lv_aload_n hx hb dX7_take_1 rfl (lv_at hl 0 rfl) ?_
  refine va_get (D := D) (ci := 7) (C := RX7) (T := TX7) (N := 4) hx hb hts iX7 hown hK hP 0 rfl rfl 0 (by decide) l7 (fun _ h9 => h9) rfl dX7_take_2 ?_
  refine lv_iload_n hx hb dX7_take_5 rfl (lv_at hl 1 rfl) ?_
  obtain ⟨v1, hv1, hf⟩ := o_b1 hf
  refine x_vi (rest := [.ref a_t]) (W1 := [x_o7 a_t a_N t_x t_y t_z, x_o4 a_N a_N_inverses a_N_roots N_p]) ⟨hx, hb, hml, hown, hts⟩ (tX4_rest l D cI a_N a_N_inverses a_N_roots N_p i1 v1 hv1) (cwV 1 hts gX7_take_X4_rest rfl rfl rfl (by decide +kernel) ⟨Nat.le_of_ble_eq_true rfl, Nat.le_of_ble_eq_true rfl⟩) hN hK hP hD hS hA [1] [none, some 0] rfl rfl rfl rfl rfl rfl 0 rfl rfl rfl hl.1 rfl (Nat.le_of_ble_eq_true rfl) dX7_take_6 ⟨Nat.zero_le _, Nat.zero_le _⟩ (fun H locs hP hD hS => ?_)
  refine x_put (W1 := [x_o7 a_t a_N v1 t_y t_z, x_o4 a_N a_N_inverses a_N_roots N_p]) (ty := .int) (C := RX7) (T := TX7) (N := 4) hx hb hts iX7 tyX7 tyX7_ok nmX7 hown hK hP hD hS 0 rfl rfl 1 (by decide) l19 rfl rfl (by decide +kernel) rfl rfl (Nat.le_of_ble_eq_true rfl) rfl dX7_take_9 (fun H locs hP hD hS => ?_)
  refine lv_aload_n hx hb dX7_take_12 rfl (lv_at hl 0 rfl) ?_
  refine lv_aload_n hx hb dX7_take_13 rfl (lv_at hl 0 rfl) ?_
  refine va_get (D := D) (ci := 7) (C := RX7) (T := TX7) (N := 4) hx hb hts iX7 hown hK hP 0 rfl rfl 0 (by decide) l7 (fun _ h9 => h9) rfl dX7_take_14 ?_
  refine lv_iload_n hx hb dX7_take_17 rfl (lv_at hl 2 rfl) ?_
  obtain ⟨v2, hv2, hf⟩ := o_b1 hf
  refine x_vi (rest := [.ref a_t]) (W1 := [x_o7 a_t a_N v1 t_y t_z, x_o4 a_N a_N_inverses a_N_roots N_p]) ⟨hx, hb, hml, hown, hts⟩ (tX4_rest l D cI a_N a_N_inverses a_N_roots N_p i2 v2 hv2) (cwV 1 hts gX7_take_X4_rest rfl rfl rfl (by decide +kernel) ⟨Nat.le_of_ble_eq_true rfl, Nat.le_of_ble_eq_true rfl⟩) hN hK hP hD hS hA [1] [none, some 0] rfl rfl rfl rfl rfl rfl 0 rfl rfl rfl hl.1 rfl (Nat.le_of_ble_eq_true rfl) dX7_take_18 ⟨Nat.zero_le _, Nat.zero_le _⟩ (fun H locs hP hD hS => ?_)
  refine x_put (W1 := [x_o7 a_t a_N v1 v2 t_z, x_o4 a_N a_N_inverses a_N_roots N_p]) (ty := .int) (C := RX7) (T := TX7) (N := 4) hx hb hts iX7 tyX7 tyX7_ok nmX7 hown hK hP hD hS 0 rfl rfl 2 (by decide) l23 rfl rfl (by decide +kernel) rfl rfl (Nat.le_of_ble_eq_true rfl) rfl dX7_take_21 (fun H locs hP hD hS => ?_)
  refine lv_aload_n hx hb dX7_take_24 rfl (lv_at hl 0 rfl) ?_
  refine lv_aload_n hx hb dX7_take_25 rfl (lv_at hl 0 rfl) ?_
  refine va_get (D := D) (ci := 7) (C := RX7) (T := TX7) (N := 4) hx hb hts iX7 hown hK hP 0 rfl rfl 0 (by decide) l7 (fun _ h9 => h9) rfl dX7_take_26 ?_
  refine lv_iload_n hx hb dX7_take_29 rfl (lv_at hl 3 rfl) ?_
  obtain ⟨v3, hv3, hf⟩ := o_b1 hf
  refine x_vi (rest := [.ref a_t]) (W1 := [x_o7 a_t a_N v1 v2 t_z, x_o4 a_N a_N_inverses a_N_roots N_p]) ⟨hx, hb, hml, hown, hts⟩ (tX4_rest l D cI a_N a_N_inverses a_N_roots N_p i3 v3 hv3) (cwV 1 hts gX7_take_X4_rest rfl rfl rfl (by decide +kernel) ⟨Nat.le_of_ble_eq_true rfl, Nat.le_of_ble_eq_true rfl⟩) hN hK hP hD hS hA [1] [none, some 0] rfl rfl rfl rfl rfl rfl 0 rfl rfl rfl hl.1 rfl (Nat.le_of_ble_eq_true rfl) dX7_take_30 ⟨Nat.zero_le _, Nat.zero_le _⟩ (fun H locs hP hD hS => ?_)
  refine x_put (W1 := [x_o7 a_t a_N v1 v2 v3, x_o4 a_N a_N_inverses a_N_roots N_p]) (ty := .int) (C := RX7) (T := TX7) (N := 4) hx hb hts iX7 tyX7 tyX7_ok nmX7 hown hK hP hD hS 0 rfl rfl 3 (by decide) l26 rfl rfl (by decide +kernel) rfl rfl (Nat.le_of_ble_eq_true rfl) rfl dX7_take_33 (fun H locs hP hD hS => ?_)
  obtain ⟨rfl, rfl, rfl⟩ := o_s3 hf
  exact hret dX7_take_36 hP hD hS
def fX5_countPoints (t_pointCount : Int32) : Option (Int32) :=
  some t_pointCount
def rmX5_countPoints : Room := { frames := 0, cells := 0, slots := 0, locals := 0 }
set_option maxHeartbeats 4000000 in
set_option maxRecDepth 100000 in
theorem tX5_countPoints (l : Launch) (D : va_G) (cI : ClassId) (a_t : Nat) (a_N : Nat) (a_t_meeting : Nat) (a_t_level : Nat) (a_t_pointKeys : Nat) (a_t_firstFlags : Nat) (a_t_flagPoints : Nat) (a_t_flagLines : Nat) (a_t_nexts : Nat) (a_t_befores : Nat) (a_t_walk : Nat) (a_t_places : Nat) (a_t_ringStarts : Nat) (a_t_ringSizes : Nat) (t_pointCount : Int32) (t_flagCount : Int32) (t_ringCount : Int32) (r : Int32) (hf : fX5_countPoints t_pointCount = some r) : x_CI l D cI yX5_countPoints wsX5_countPoints rmX5_countPoints [.ref a_t] [x_o5 a_t a_N a_t_meeting a_t_level a_t_pointKeys a_t_firstFlags a_t_flagPoints a_t_flagLines a_t_nexts a_t_befores a_t_walk a_t_places a_t_ringStarts a_t_ringSizes t_pointCount t_flagCount t_ringCount] [x_o5 a_t a_N a_t_meeting a_t_level a_t_pointKeys a_t_firstFlags a_t_flagPoints a_t_flagLines a_t_nexts a_t_befores a_t_walk a_t_places a_t_ringStarts a_t_ringSizes t_pointCount t_flagCount t_ringCount] r := by
  refine x_CI_of (cc := cX5_countPoints) (maxL := 1) (ty := .int) (own := RX5) (lv0 := [(0, .ref a_t)]) (by decide) rfl rfl (Nat.le_of_ble_eq_true rfl) rfl ?_
  intro p e s m args below meth c A Q ls hx hb hml hown hts hN hK hP hD hS hA hl hret
  have iX5 : ∀ w ∈ u_ws RX5 TX5 16, w ∈ wsX5_countPoints := by decide +kernel
  have l62 := hts (.fieldLink RX5 62 "ChordRings$Rings" "pointCount" "I") (by decide +kernel)
  unfold fX5_countPoints at hf
  refine lv_aload_n hx hb dX5_countPoints_0 rfl (lv_at hl 0 rfl) ?_
  refine va_get (D := D) (ci := 5) (C := RX5) (T := TX5) (N := 16) hx hb hts iX5 hown hK hP 0 rfl rfl 13 (by decide) l62 (fun _ h9 => h9) rfl dX5_countPoints_1 ?_
  obtain rfl := Option.some.inj hf
  exact hret rfl rfl dX5_countPoints_4 hP hD hS
noncomputable def fX2_between (t_a : Int32) (t_b : Int32) (t_c : Int32) (t_d : Int32) (t_e : Int32) (t_f : Int32) (b1_x : Int32) (b1_y : Int32) (b1_z : Int32) (b2_x : Int32) (b2_y : Int32) (b2_z : Int32) (N_p : Int32) : Option (Int32) :=
  p_b1 (fX2_side t_a t_b t_c t_d t_e t_f b2_x b2_y b2_z 0) (fun v1 =>
p_b1 (fX2_side t_a t_b t_c t_d t_e t_f b2_x b2_y b2_z 1) (fun v2 =>
p_b1 (fX2_side t_a t_b t_c t_d t_e t_f b2_x b2_y b2_z 2) (fun v3 =>
p_b1 (fX4_rest N_p (((b1_x * v1) + (b1_y * v2)) + (b1_z * v3))) (fun v4 =>
some v4))))
def rmX2_between : Room := { frames := 1, cells := 0, slots := 0, locals := 22 }
set_option maxHeartbeats 4000000 in
set_option maxRecDepth 100000 in
theorem tX2_between (l : Launch) (D : va_G) (cI : ClassId) (a_t : Nat) (a_b1 : Nat) (a_b2 : Nat) (a_N : Nat) (a_N_inverses : Nat) (a_N_roots : Nat) (t_a : Int32) (t_b : Int32) (t_c : Int32) (t_d : Int32) (t_e : Int32) (t_f : Int32) (b1_x : Int32) (b1_y : Int32) (b1_z : Int32) (b2_x : Int32) (b2_y : Int32) (b2_z : Int32) (N_p : Int32) (r : Int32) (hf : fX2_between t_a t_b t_c t_d t_e t_f b1_x b1_y b1_z b2_x b2_y b2_z N_p = some r) : x_CI l D cI yX2_between wsX2_between rmX2_between [.ref a_t, .ref a_b1, .ref a_b2] [x_o2 a_t a_N t_a t_b t_c t_d t_e t_f, x_o7 a_b1 a_N b1_x b1_y b1_z, x_o7 a_b2 a_N b2_x b2_y b2_z, x_o4 a_N a_N_inverses a_N_roots N_p] [x_o2 a_t a_N t_a t_b t_c t_d t_e t_f, x_o7 a_b1 a_N b1_x b1_y b1_z, x_o7 a_b2 a_N b2_x b2_y b2_z, x_o4 a_N a_N_inverses a_N_roots N_p] r := by
  refine x_CI_of (cc := cX2_between) (maxL := 3) (ty := .int) (own := RX2) (lv0 := [(0, .ref a_t), (1, .ref a_b1), (2, .ref a_b2)]) (by decide) rfl rfl (Nat.le_of_ble_eq_true rfl) rfl ?_
  intro p e s m args below meth c A Q ls hx hb hml hown hts hN hK hP hD hS hA hl hret
  have iX2 : ∀ w ∈ u_ws RX2 TX2 7, w ∈ wsX2_between := by decide +kernel
  have iX7 : ∀ w ∈ u_ws RX7 TX7 4, w ∈ wsX2_between := by decide +kernel
  have l7 := hts (.fieldLink RX2 7 "ChordRings$Form" "numbers" "LChordRings$Numbers;") (by decide +kernel)
  unfold fX2_between at hf
  refine lv_aload_n hx hb dX2_between_0 rfl (lv_at hl 0 rfl) ?_
  refine va_get (D := D) (ci := 2) (C := RX2) (T := TX2) (N := 7) hx hb hts iX2 hown hK hP 0 rfl rfl 0 (by decide) l7 (fun _ h9 => h9) rfl dX2_between_1 ?_
  refine lv_aload_n hx hb dX2_between_4 rfl (lv_at hl 1 rfl) ?_
  refine va_getN (D := D) (ci := 7) (C := RX7) (T := TX7) (N := 4) hx hb hts iX7 hown hK hP 1 rfl rfl 1 (by decide) (va_Nw.use rfl hN.1) (fun _ h9 => h9) rfl dX2_between_5 ?_
  refine lv_aload_n hx hb dX2_between_8 rfl (lv_at hl 0 rfl) ?_
  refine lv_iconst (v := 0) hx hb dX2_between_9 (by decide) ?_
  refine lv_aload_n hx hb dX2_between_10 rfl (lv_at hl 2 rfl) ?_
  obtain ⟨v1, hv1, hf⟩ := o_b1 hf
  refine x_vi (rest := [.int b1_x, .ref a_N]) (W1 := [x_o2 a_t a_N t_a t_b t_c t_d t_e t_f, x_o7 a_b1 a_N b1_x b1_y b1_z, x_o7 a_b2 a_N b2_x b2_y b2_z, x_o4 a_N a_N_inverses a_N_roots N_p]) ⟨hx, hb, hml, hown, hts⟩ (tX2_side l D cI a_t a_b2 a_N t_a t_b t_c t_d t_e t_f b2_x b2_y b2_z 0 v1 hv1) (cwV 2 hts gX2_between_X2_side rfl rfl rfl (by decide +kernel) ⟨Nat.le_of_ble_eq_true rfl, Nat.le_of_ble_eq_true rfl⟩) hN hK hP hD hS hA [0, 2] [some 0, none, some 1, none] rfl rfl rfl rfl rfl rfl 0 rfl rfl rfl hl.1 rfl (Nat.le_of_ble_eq_true rfl) dX2_between_11 ⟨Nat.zero_le _, Nat.zero_le _⟩ (fun H locs hP hD hS => ?_)
  refine lv_imul hx hb dX2_between_14 ?_
  refine lv_aload_n hx hb dX2_between_15 rfl (lv_at hl 1 rfl) ?_
  refine va_getN (D := D) (ci := 7) (C := RX7) (T := TX7) (N := 4) hx hb hts iX7 hown hK hP 1 rfl rfl 2 (by decide) (va_Nw.use rfl hN.2.1) (fun _ h9 => h9) rfl dX2_between_16 ?_
  refine lv_aload_n hx hb dX2_between_19 rfl (lv_at hl 0 rfl) ?_
  refine lv_iconst (v := 1) hx hb dX2_between_20 (by decide) ?_
  refine lv_aload_n hx hb dX2_between_21 rfl (lv_at hl 2 rfl) ?_
  obtain ⟨v2, hv2, hf⟩ := o_b1 hf
  refine x_vi (rest := [.int b1_y, .int (b1_x * v1), .ref a_N]) (W1 := [x_o2 a_t a_N t_a t_b t_c t_d t_e t_f, x_o7 a_b1 a_N b1_x b1_y b1_z, x_o7 a_b2 a_N b2_x b2_y b2_z, x_o4 a_N a_N_inverses a_N_roots N_p]) ⟨hx, hb, hml, hown, hts⟩ (tX2_side l D cI a_t a_b2 a_N t_a t_b t_c t_d t_e t_f b2_x b2_y b2_z 1 v2 hv2) (cwV 2 hts gX2_between_X2_side rfl rfl rfl (by decide +kernel) ⟨Nat.le_of_ble_eq_true rfl, Nat.le_of_ble_eq_true rfl⟩) hN hK hP hD hS hA [0, 2] [some 0, none, some 1, none] rfl rfl rfl rfl rfl rfl 0 rfl rfl rfl hl.1 rfl (Nat.le_of_ble_eq_true rfl) dX2_between_22 ⟨Nat.zero_le _, Nat.zero_le _⟩ (fun H locs hP hD hS => ?_)
  refine lv_imul hx hb dX2_between_25 ?_
  refine lv_iadd hx hb dX2_between_26 ?_
  refine lv_aload_n hx hb dX2_between_27 rfl (lv_at hl 1 rfl) ?_
  refine va_getN (D := D) (ci := 7) (C := RX7) (T := TX7) (N := 4) hx hb hts iX7 hown hK hP 1 rfl rfl 3 (by decide) (va_Nw.use rfl hN.2.2.1) (fun _ h9 => h9) rfl dX2_between_28 ?_
  refine lv_aload_n hx hb dX2_between_31 rfl (lv_at hl 0 rfl) ?_
  refine lv_iconst (v := 2) hx hb dX2_between_32 (by decide) ?_
  refine lv_aload_n hx hb dX2_between_33 rfl (lv_at hl 2 rfl) ?_
  obtain ⟨v3, hv3, hf⟩ := o_b1 hf
  refine x_vi (rest := [.int b1_z, .int ((b1_x * v1) + (b1_y * v2)), .ref a_N]) (W1 := [x_o2 a_t a_N t_a t_b t_c t_d t_e t_f, x_o7 a_b1 a_N b1_x b1_y b1_z, x_o7 a_b2 a_N b2_x b2_y b2_z, x_o4 a_N a_N_inverses a_N_roots N_p]) ⟨hx, hb, hml, hown, hts⟩ (tX2_side l D cI a_t a_b2 a_N t_a t_b t_c t_d t_e t_f b2_x b2_y b2_z 2 v3 hv3) (cwV 2 hts gX2_between_X2_side rfl rfl rfl (by decide +kernel) ⟨Nat.le_of_ble_eq_true rfl, Nat.le_of_ble_eq_true rfl⟩) hN hK hP hD hS hA [0, 2] [some 0, none, some 1, none] rfl rfl rfl rfl rfl rfl 0 rfl rfl rfl hl.1 rfl (Nat.le_of_ble_eq_true rfl) dX2_between_34 ⟨Nat.zero_le _, Nat.zero_le _⟩ (fun H locs hP hD hS => ?_)
  refine lv_imul hx hb dX2_between_37 ?_
  refine lv_iadd hx hb dX2_between_38 ?_
  obtain ⟨v4, hv4, hf⟩ := o_b1 hf
  refine x_vi (rest := []) (W1 := [x_o2 a_t a_N t_a t_b t_c t_d t_e t_f, x_o7 a_b1 a_N b1_x b1_y b1_z, x_o7 a_b2 a_N b2_x b2_y b2_z, x_o4 a_N a_N_inverses a_N_roots N_p]) ⟨hx, hb, hml, hown, hts⟩ (tX4_rest l D cI a_N a_N_inverses a_N_roots N_p (((b1_x * v1) + (b1_y * v2)) + (b1_z * v3)) v4 hv4) (cwV 1 hts gX2_between_X4_rest rfl rfl rfl (by decide +kernel) ⟨Nat.le_of_ble_eq_true rfl, Nat.le_of_ble_eq_true rfl⟩) hN hK hP hD hS hA [3] [none, none, none, some 0] rfl rfl rfl rfl rfl rfl 0 rfl rfl rfl hl.1 rfl (Nat.le_of_ble_eq_true rfl) dX2_between_39 ⟨Nat.zero_le _, Nat.zero_le _⟩ (fun H locs hP hD hS => ?_)
  obtain rfl := Option.some.inj hf
  exact hret rfl rfl dX2_between_42 hP hD hS
noncomputable def fX7_key (t_x : Int32) (t_y : Int32) (t_z : Int32) (N_p : Int32) (N_inverses_r : (Nat → Int32)) : Option (Int32) :=
  p_b1 (fX4_prime N_p) (fun v1 =>
if t_z = 0 then (if t_y = 0 then (some ((v1 * v1) + v1)) else (p_b1 (fX4_inverseOf N_p N_inverses_r t_y) (fun v2 =>
p_b1 (fX4_rest N_p (t_x * v2)) (fun v3 =>
some ((v1 * v1) + v3))))) else (p_b1 (fX4_inverseOf N_p N_inverses_r t_z) (fun v4 =>
p_b1 (fX4_rest N_p (t_y * v4)) (fun v5 =>
p_b1 (fX4_rest N_p (t_x * v4)) (fun v6 =>
some ((v5 * v1) + v6))))))
def rmX7_key : Room := { frames := 1, cells := 0, slots := 0, locals := 22 }
set_option maxHeartbeats 4000000 in
set_option maxRecDepth 100000 in
theorem tX7_key (l : Launch) (D : va_G) (cI : ClassId) (a_t : Nat) (a_N : Nat) (a_N_inverses : Nat) (a_N_roots : Nat) (t_x : Int32) (t_y : Int32) (t_z : Int32) (N_p : Int32) (N_inverses_r : (Nat → Int32)) (r : Int32) (hf : fX7_key t_x t_y t_z N_p N_inverses_r = some r) : x_CI l D cI yX7_key wsX7_key rmX7_key [.ref a_t] [x_o7 a_t a_N t_x t_y t_z, x_o4 a_N a_N_inverses a_N_roots N_p, x_ar cI a_N_inverses 200 N_inverses_r] [x_o7 a_t a_N t_x t_y t_z, x_o4 a_N a_N_inverses a_N_roots N_p, x_ar cI a_N_inverses 200 N_inverses_r] r := by
  refine x_CI_of (cc := cX7_key) (maxL := 3) (ty := .int) (own := RX7) (lv0 := [(0, .ref a_t)]) (by decide) rfl rfl (Nat.le_of_ble_eq_true rfl) rfl ?_
  intro p e s m args below meth c A Q ls hx hb hml hown hts hN hK hP hD hS hA hl hret
  have iX7 : ∀ w ∈ u_ws RX7 TX7 4, w ∈ wsX7_key := by decide +kernel
  have l7 := hts (.fieldLink RX7 7 "ChordRings$Triple" "numbers" "LChordRings$Numbers;") (by decide +kernel)
  have l26 := hts (.fieldLink RX7 26 "ChordRings$Triple" "z" "I") (by decide +kernel)
  have l23 := hts (.fieldLink RX7 23 "ChordRings$Triple" "y" "I") (by decide +kernel)
  have l19 := hts (.fieldLink RX7 19 "ChordRings$Triple" "x" "I") (by decide +kernel)
  unfold fX7_key at hf
  refine lv_aload_n hx hb dX7_key_0 rfl (lv_at hl 0 rfl) ?_
  refine va_get (D := D) (ci := 7) (C := RX7) (T := TX7) (N := 4) hx hb hts iX7 hown hK hP 0 rfl rfl 0 (by decide) l7 (fun _ h9 => h9) rfl dX7_key_1 ?_
  obtain ⟨v1, hv1, hf⟩ := o_b1 hf
  refine x_vi (rest := []) (W1 := [x_o7 a_t a_N t_x t_y t_z, x_o4 a_N a_N_inverses a_N_roots N_p, x_ar cI a_N_inverses 200 N_inverses_r]) ⟨hx, hb, hml, hown, hts⟩ (tX4_prime l D cI a_N a_N_inverses a_N_roots N_p v1 hv1) (cwV 0 hts gX7_key_X4_prime rfl rfl rfl (by decide +kernel) ⟨Nat.le_of_ble_eq_true rfl, Nat.le_of_ble_eq_true rfl⟩) hN hK hP hD hS hA [1] [none, some 0, none] rfl rfl rfl rfl rfl rfl 0 rfl rfl rfl hl.1 rfl (Nat.le_of_ble_eq_true rfl) dX7_key_4 ⟨Nat.zero_le _, Nat.zero_le _⟩ (fun H locs hP hD hS => ?_)
  refine lv_istore_n (lv' := [(1, .int v1), (0, .ref a_t)]) hx hb dX7_key_7 rfl hl (by decide) rfl (fun ls hl => ?_)
  refine lv_aload_n hx hb dX7_key_8 rfl (lv_at hl 1 rfl) ?_
  refine va_get (D := D) (ci := 7) (C := RX7) (T := TX7) (N := 4) hx hb hts iX7 hown hK hP 0 rfl rfl 3 (by decide) l26 (fun _ h9 => h9) rfl dX7_key_9 ?_
  refine lv_if_eq (tgt := 57) hx hb dX7_key_12 (by decide) (fun hc => ?_) (fun hc => ?_)
  · have hf := o_t hf hc
    refine lv_aload_n hx hb dX7_key_57 rfl (lv_at hl 1 rfl) ?_
    refine va_get (D := D) (ci := 7) (C := RX7) (T := TX7) (N := 4) hx hb hts iX7 hown hK hP 0 rfl rfl 2 (by decide) l23 (fun _ h9 => h9) rfl dX7_key_58 ?_
    refine lv_if_eq (tgt := 94) hx hb dX7_key_61 (by decide) (fun hc => ?_) (fun hc => ?_)
    · have hf := o_t hf hc
      refine lv_iload_n hx hb dX7_key_94 rfl (lv_at hl 0 rfl) ?_
      refine lv_iload_n hx hb dX7_key_95 rfl (lv_at hl 0 rfl) ?_
      refine lv_imul hx hb dX7_key_96 ?_
      refine lv_iload_n hx hb dX7_key_97 rfl (lv_at hl 0 rfl) ?_
      refine lv_iadd hx hb dX7_key_98 ?_
      obtain rfl := Option.some.inj hf
      exact hret rfl rfl dX7_key_99 hP hD hS
    · have hf := o_f hf hc
      refine lv_iload_n hx hb dX7_key_64 rfl (lv_at hl 0 rfl) ?_
      refine lv_iload_n hx hb dX7_key_65 rfl (lv_at hl 0 rfl) ?_
      refine lv_imul hx hb dX7_key_66 ?_
      refine lv_aload_n hx hb dX7_key_67 rfl (lv_at hl 1 rfl) ?_
      refine va_get (D := D) (ci := 7) (C := RX7) (T := TX7) (N := 4) hx hb hts iX7 hown hK hP 0 rfl rfl 0 (by decide) l7 (fun _ h9 => h9) rfl dX7_key_68 ?_
      refine lv_aload_n hx hb dX7_key_71 rfl (lv_at hl 1 rfl) ?_
      refine va_get (D := D) (ci := 7) (C := RX7) (T := TX7) (N := 4) hx hb hts iX7 hown hK hP 0 rfl rfl 1 (by decide) l19 (fun _ h9 => h9) rfl dX7_key_72 ?_
      refine lv_aload_n hx hb dX7_key_75 rfl (lv_at hl 1 rfl) ?_
      refine va_get (D := D) (ci := 7) (C := RX7) (T := TX7) (N := 4) hx hb hts iX7 hown hK hP 0 rfl rfl 0 (by decide) l7 (fun _ h9 => h9) rfl dX7_key_76 ?_
      refine lv_aload_n hx hb dX7_key_79 rfl (lv_at hl 1 rfl) ?_
      refine va_get (D := D) (ci := 7) (C := RX7) (T := TX7) (N := 4) hx hb hts iX7 hown hK hP 0 rfl rfl 2 (by decide) l23 (fun _ h9 => h9) rfl dX7_key_80 ?_
      obtain ⟨v2, hv2, hf⟩ := o_b1 hf
      refine x_vi (rest := [.int t_x, .ref a_N, .int (v1 * v1)]) (W1 := [x_o7 a_t a_N t_x t_y t_z, x_o4 a_N a_N_inverses a_N_roots N_p, x_ar cI a_N_inverses 200 N_inverses_r]) ⟨hx, hb, hml, hown, hts⟩ (tX4_inverseOf l D cI a_N a_N_inverses a_N_roots N_p N_inverses_r t_y v2 hv2) (cwV 1 hts gX7_key_X4_inverseOf rfl rfl rfl (by decide +kernel) ⟨Nat.le_of_ble_eq_true rfl, Nat.le_of_ble_eq_true rfl⟩) hN hK hP hD hS hA [1, 2] [none, some 0, some 1] rfl rfl rfl rfl rfl rfl 0 rfl rfl rfl hl.1 rfl (Nat.le_of_ble_eq_true rfl) dX7_key_83 ⟨Nat.zero_le _, Nat.zero_le _⟩ (fun H locs hP hD hS => ?_)
      refine lv_imul hx hb dX7_key_86 ?_
      obtain ⟨v3, hv3, hf⟩ := o_b1 hf
      refine x_vi (rest := [.int (v1 * v1)]) (W1 := [x_o7 a_t a_N t_x t_y t_z, x_o4 a_N a_N_inverses a_N_roots N_p, x_ar cI a_N_inverses 200 N_inverses_r]) ⟨hx, hb, hml, hown, hts⟩ (tX4_rest l D cI a_N a_N_inverses a_N_roots N_p (t_x * v2) v3 hv3) (cwV 1 hts gX7_key_X4_rest rfl rfl rfl (by decide +kernel) ⟨Nat.le_of_ble_eq_true rfl, Nat.le_of_ble_eq_true rfl⟩) hN hK hP hD hS hA [1] [none, some 0, none] rfl rfl rfl rfl rfl rfl 0 rfl rfl rfl hl.1 rfl (Nat.le_of_ble_eq_true rfl) dX7_key_87 ⟨Nat.zero_le _, Nat.zero_le _⟩ (fun H locs hP hD hS => ?_)
      refine lv_iadd hx hb dX7_key_90 ?_
      refine lv_goto (tgt := 99) hx hb dX7_key_91 (by decide) ?_
      obtain rfl := Option.some.inj hf
      exact hret rfl rfl dX7_key_99 hP hD hS
  · have hf := o_f hf hc
    refine lv_aload_n hx hb dX7_key_15 rfl (lv_at hl 1 rfl) ?_
    refine va_get (D := D) (ci := 7) (C := RX7) (T := TX7) (N := 4) hx hb hts iX7 hown hK hP 0 rfl rfl 0 (by decide) l7 (fun _ h9 => h9) rfl dX7_key_16 ?_
    refine lv_aload_n hx hb dX7_key_19 rfl (lv_at hl 1 rfl) ?_
    refine va_get (D := D) (ci := 7) (C := RX7) (T := TX7) (N := 4) hx hb hts iX7 hown hK hP 0 rfl rfl 3 (by decide) l26 (fun _ h9 => h9) rfl dX7_key_20 ?_
    obtain ⟨v4, hv4, hf⟩ := o_b1 hf
    refine x_vi (rest := []) (W1 := [x_o7 a_t a_N t_x t_y t_z, x_o4 a_N a_N_inverses a_N_roots N_p, x_ar cI a_N_inverses 200 N_inverses_r]) ⟨hx, hb, hml, hown, hts⟩ (tX4_inverseOf l D cI a_N a_N_inverses a_N_roots N_p N_inverses_r t_z v4 hv4) (cwV 1 hts gX7_key_X4_inverseOf rfl rfl rfl (by decide +kernel) ⟨Nat.le_of_ble_eq_true rfl, Nat.le_of_ble_eq_true rfl⟩) hN hK hP hD hS hA [1, 2] [none, some 0, some 1] rfl rfl rfl rfl rfl rfl 0 rfl rfl rfl hl.1 rfl (Nat.le_of_ble_eq_true rfl) dX7_key_23 ⟨Nat.zero_le _, Nat.zero_le _⟩ (fun H locs hP hD hS => ?_)
    refine lv_istore_n (lv' := [(2, .int v4), (1, .int v1), (0, .ref a_t)]) hx hb dX7_key_26 rfl hl (by decide) rfl (fun ls hl => ?_)
    refine lv_aload_n hx hb dX7_key_27 rfl (lv_at hl 2 rfl) ?_
    refine va_get (D := D) (ci := 7) (C := RX7) (T := TX7) (N := 4) hx hb hts iX7 hown hK hP 0 rfl rfl 0 (by decide) l7 (fun _ h9 => h9) rfl dX7_key_28 ?_
    refine lv_aload_n hx hb dX7_key_31 rfl (lv_at hl 2 rfl) ?_
    refine va_get (D := D) (ci := 7) (C := RX7) (T := TX7) (N := 4) hx hb hts iX7 hown hK hP 0 rfl rfl 2 (by decide) l23 (fun _ h9 => h9) rfl dX7_key_32 ?_
    refine lv_iload_n hx hb dX7_key_35 rfl (lv_at hl 0 rfl) ?_
    refine lv_imul hx hb dX7_key_36 ?_
    obtain ⟨v5, hv5, hf⟩ := o_b1 hf
    refine x_vi (rest := []) (W1 := [x_o7 a_t a_N t_x t_y t_z, x_o4 a_N a_N_inverses a_N_roots N_p, x_ar cI a_N_inverses 200 N_inverses_r]) ⟨hx, hb, hml, hown, hts⟩ (tX4_rest l D cI a_N a_N_inverses a_N_roots N_p (t_y * v4) v5 hv5) (cwV 1 hts gX7_key_X4_rest rfl rfl rfl (by decide +kernel) ⟨Nat.le_of_ble_eq_true rfl, Nat.le_of_ble_eq_true rfl⟩) hN hK hP hD hS hA [1] [none, some 0, none] rfl rfl rfl rfl rfl rfl 0 rfl rfl rfl hl.1 rfl (Nat.le_of_ble_eq_true rfl) dX7_key_37 ⟨Nat.zero_le _, Nat.zero_le _⟩ (fun H locs hP hD hS => ?_)
    refine lv_iload_n hx hb dX7_key_40 rfl (lv_at hl 1 rfl) ?_
    refine lv_imul hx hb dX7_key_41 ?_
    refine lv_aload_n hx hb dX7_key_42 rfl (lv_at hl 2 rfl) ?_
    refine va_get (D := D) (ci := 7) (C := RX7) (T := TX7) (N := 4) hx hb hts iX7 hown hK hP 0 rfl rfl 0 (by decide) l7 (fun _ h9 => h9) rfl dX7_key_43 ?_
    refine lv_aload_n hx hb dX7_key_46 rfl (lv_at hl 2 rfl) ?_
    refine va_get (D := D) (ci := 7) (C := RX7) (T := TX7) (N := 4) hx hb hts iX7 hown hK hP 0 rfl rfl 1 (by decide) l19 (fun _ h9 => h9) rfl dX7_key_47 ?_
    refine lv_iload_n hx hb dX7_key_50 rfl (lv_at hl 0 rfl) ?_
    refine lv_imul hx hb dX7_key_51 ?_
    obtain ⟨v6, hv6, hf⟩ := o_b1 hf
    refine x_vi (rest := [.int (v5 * v1)]) (W1 := [x_o7 a_t a_N t_x t_y t_z, x_o4 a_N a_N_inverses a_N_roots N_p, x_ar cI a_N_inverses 200 N_inverses_r]) ⟨hx, hb, hml, hown, hts⟩ (tX4_rest l D cI a_N a_N_inverses a_N_roots N_p (t_x * v4) v6 hv6) (cwV 1 hts gX7_key_X4_rest rfl rfl rfl (by decide +kernel) ⟨Nat.le_of_ble_eq_true rfl, Nat.le_of_ble_eq_true rfl⟩) hN hK hP hD hS hA [1] [none, some 0, none] rfl rfl rfl rfl rfl rfl 0 rfl rfl rfl hl.1 rfl (Nat.le_of_ble_eq_true rfl) dX7_key_52 ⟨Nat.zero_le _, Nat.zero_le _⟩ (fun H locs hP hD hS => ?_)
    refine lv_iadd hx hb dX7_key_55 ?_
    obtain rfl := Option.some.inj hf
    exact hret rfl rfl dX7_key_56 hP hD hS
noncomputable def fX7_takeSum (t_x : Int32) (t_y : Int32) (t_z : Int32) (b2_x : Int32) (b2_y : Int32) (b2_z : Int32) (b4_x : Int32) (b4_y : Int32) (b4_z : Int32) (N_p : Int32) (i1 : Int32) (i3 : Int32) : Option (Int32 × Int32 × Int32) :=
  p_b1 (fX4_rest N_p ((i1 * b2_x) + (i3 * b4_x))) (fun v1 =>
p_b1 (fX4_rest N_p ((i1 * b2_y) + (i3 * b4_y))) (fun v2 =>
p_b1 (fX4_rest N_p ((i1 * b2_z) + (i3 * b4_z))) (fun v3 =>
some (v1, v2, v3))))
def rmX7_takeSum : Room := { frames := 1, cells := 0, slots := 0, locals := 22 }
set_option maxHeartbeats 4000000 in
set_option maxRecDepth 100000 in
theorem tX7_takeSum (l : Launch) (D : va_G) (cI : ClassId) (a_t : Nat) (a_b2 : Nat) (a_b4 : Nat) (a_N : Nat) (a_N_inverses : Nat) (a_N_roots : Nat) (t_x : Int32) (t_y : Int32) (t_z : Int32) (b2_x : Int32) (b2_y : Int32) (b2_z : Int32) (b4_x : Int32) (b4_y : Int32) (b4_z : Int32) (N_p : Int32) (i1 : Int32) (i3 : Int32) (s_t_x : Int32) (s_t_y : Int32) (s_t_z : Int32) (hf : fX7_takeSum t_x t_y t_z b2_x b2_y b2_z b4_x b4_y b4_z N_p i1 i3 = some (s_t_x, s_t_y, s_t_z)) : x_CV l D cI yX7_takeSum wsX7_takeSum rmX7_takeSum [.ref a_t, .int i1, .ref a_b2, .int i3, .ref a_b4] [x_o7 a_t a_N t_x t_y t_z, x_o7 a_b2 a_N b2_x b2_y b2_z, x_o7 a_b4 a_N b4_x b4_y b4_z, x_o4 a_N a_N_inverses a_N_roots N_p] [x_o7 a_t a_N s_t_x s_t_y s_t_z, x_o7 a_b2 a_N b2_x b2_y b2_z, x_o7 a_b4 a_N b4_x b4_y b4_z, x_o4 a_N a_N_inverses a_N_roots N_p] := by
  refine x_CV_of (cc := cX7_takeSum) (maxL := 5) (own := RX7) (lv0 := [(0, .ref a_t), (1, .int i1), (2, .ref a_b2), (3, .int i3), (4, .ref a_b4)]) (by decide) rfl rfl (Nat.le_of_ble_eq_true rfl) rfl ?_
  intro p e s m args below meth c A Q ls hx hb hml hown hts hN hK hP hD hS hA hl hret
  have iX7 : ∀ w ∈ u_ws RX7 TX7 4, w ∈ wsX7_takeSum := by decide +kernel
  have l7 := hts (.fieldLink RX7 7 "ChordRings$Triple" "numbers" "LChordRings$Numbers;") (by decide +kernel)
  have l19 := hts (.fieldLink RX7 19 "ChordRings$Triple" "x" "I") (by decide +kernel)
  have l23 := hts (.fieldLink RX7 23 "ChordRings$Triple" "y" "I") (by decide +kernel)
  have l26 := hts (.fieldLink RX7 26 "ChordRings$Triple" "z" "I") (by decide +kernel)
  unfold fX7_takeSum at hf
  refine lv_aload_n hx hb dX7_takeSum_0 rfl (lv_at hl 0 rfl) ?_
  refine lv_aload_n hx hb dX7_takeSum_1 rfl (lv_at hl 0 rfl) ?_
  refine va_get (D := D) (ci := 7) (C := RX7) (T := TX7) (N := 4) hx hb hts iX7 hown hK hP 0 rfl rfl 0 (by decide) l7 (fun _ h9 => h9) rfl dX7_takeSum_2 ?_
  refine lv_iload_n hx hb dX7_takeSum_5 rfl (lv_at hl 1 rfl) ?_
  refine lv_aload_n hx hb dX7_takeSum_6 rfl (lv_at hl 2 rfl) ?_
  refine va_get (D := D) (ci := 7) (C := RX7) (T := TX7) (N := 4) hx hb hts iX7 hown hK hP 1 rfl rfl 1 (by decide) l19 (fun _ h9 => h9) rfl dX7_takeSum_7 ?_
  refine lv_imul hx hb dX7_takeSum_10 ?_
  refine lv_iload_n hx hb dX7_takeSum_11 rfl (lv_at hl 3 rfl) ?_
  refine lv_aload hx hb dX7_takeSum_12 (lv_at hl 4 rfl) ?_
  refine va_get (D := D) (ci := 7) (C := RX7) (T := TX7) (N := 4) hx hb hts iX7 hown hK hP 2 rfl rfl 1 (by decide) l19 (fun _ h9 => h9) rfl dX7_takeSum_14 ?_
  refine lv_imul hx hb dX7_takeSum_17 ?_
  refine lv_iadd hx hb dX7_takeSum_18 ?_
  obtain ⟨v1, hv1, hf⟩ := o_b1 hf
  refine x_vi (rest := [.ref a_t]) (W1 := [x_o7 a_t a_N t_x t_y t_z, x_o7 a_b2 a_N b2_x b2_y b2_z, x_o7 a_b4 a_N b4_x b4_y b4_z, x_o4 a_N a_N_inverses a_N_roots N_p]) ⟨hx, hb, hml, hown, hts⟩ (tX4_rest l D cI a_N a_N_inverses a_N_roots N_p ((i1 * b2_x) + (i3 * b4_x)) v1 hv1) (cwV 1 hts gX7_takeSum_X4_rest rfl rfl rfl (by decide +kernel) ⟨Nat.le_of_ble_eq_true rfl, Nat.le_of_ble_eq_true rfl⟩) hN hK hP hD hS hA [3] [none, none, none, some 0] rfl rfl rfl rfl rfl rfl 0 rfl rfl rfl hl.1 rfl (Nat.le_of_ble_eq_true rfl) dX7_takeSum_19 ⟨Nat.zero_le _, Nat.zero_le _⟩ (fun H locs hP hD hS => ?_)
  refine x_put (W1 := [x_o7 a_t a_N v1 t_y t_z, x_o7 a_b2 a_N b2_x b2_y b2_z, x_o7 a_b4 a_N b4_x b4_y b4_z, x_o4 a_N a_N_inverses a_N_roots N_p]) (ty := .int) (C := RX7) (T := TX7) (N := 4) hx hb hts iX7 tyX7 tyX7_ok nmX7 hown hK hP hD hS 0 rfl rfl 1 (by decide) l19 rfl rfl (by decide +kernel) rfl rfl (Nat.le_of_ble_eq_true rfl) rfl dX7_takeSum_22 (fun H locs hP hD hS => ?_)
  refine lv_aload_n hx hb dX7_takeSum_25 rfl (lv_at hl 0 rfl) ?_
  refine lv_aload_n hx hb dX7_takeSum_26 rfl (lv_at hl 0 rfl) ?_
  refine va_get (D := D) (ci := 7) (C := RX7) (T := TX7) (N := 4) hx hb hts iX7 hown hK hP 0 rfl rfl 0 (by decide) l7 (fun _ h9 => h9) rfl dX7_takeSum_27 ?_
  refine lv_iload_n hx hb dX7_takeSum_30 rfl (lv_at hl 1 rfl) ?_
  refine lv_aload_n hx hb dX7_takeSum_31 rfl (lv_at hl 2 rfl) ?_
  refine va_get (D := D) (ci := 7) (C := RX7) (T := TX7) (N := 4) hx hb hts iX7 hown hK hP 1 rfl rfl 2 (by decide) l23 (fun _ h9 => h9) rfl dX7_takeSum_32 ?_
  refine lv_imul hx hb dX7_takeSum_35 ?_
  refine lv_iload_n hx hb dX7_takeSum_36 rfl (lv_at hl 3 rfl) ?_
  refine lv_aload hx hb dX7_takeSum_37 (lv_at hl 4 rfl) ?_
  refine va_get (D := D) (ci := 7) (C := RX7) (T := TX7) (N := 4) hx hb hts iX7 hown hK hP 2 rfl rfl 2 (by decide) l23 (fun _ h9 => h9) rfl dX7_takeSum_39 ?_
  refine lv_imul hx hb dX7_takeSum_42 ?_
  refine lv_iadd hx hb dX7_takeSum_43 ?_
  obtain ⟨v2, hv2, hf⟩ := o_b1 hf
  refine x_vi (rest := [.ref a_t]) (W1 := [x_o7 a_t a_N v1 t_y t_z, x_o7 a_b2 a_N b2_x b2_y b2_z, x_o7 a_b4 a_N b4_x b4_y b4_z, x_o4 a_N a_N_inverses a_N_roots N_p]) ⟨hx, hb, hml, hown, hts⟩ (tX4_rest l D cI a_N a_N_inverses a_N_roots N_p ((i1 * b2_y) + (i3 * b4_y)) v2 hv2) (cwV 1 hts gX7_takeSum_X4_rest rfl rfl rfl (by decide +kernel) ⟨Nat.le_of_ble_eq_true rfl, Nat.le_of_ble_eq_true rfl⟩) hN hK hP hD hS hA [3] [none, none, none, some 0] rfl rfl rfl rfl rfl rfl 0 rfl rfl rfl hl.1 rfl (Nat.le_of_ble_eq_true rfl) dX7_takeSum_44 ⟨Nat.zero_le _, Nat.zero_le _⟩ (fun H locs hP hD hS => ?_)
  refine x_put (W1 := [x_o7 a_t a_N v1 v2 t_z, x_o7 a_b2 a_N b2_x b2_y b2_z, x_o7 a_b4 a_N b4_x b4_y b4_z, x_o4 a_N a_N_inverses a_N_roots N_p]) (ty := .int) (C := RX7) (T := TX7) (N := 4) hx hb hts iX7 tyX7 tyX7_ok nmX7 hown hK hP hD hS 0 rfl rfl 2 (by decide) l23 rfl rfl (by decide +kernel) rfl rfl (Nat.le_of_ble_eq_true rfl) rfl dX7_takeSum_47 (fun H locs hP hD hS => ?_)
  refine lv_aload_n hx hb dX7_takeSum_50 rfl (lv_at hl 0 rfl) ?_
  refine lv_aload_n hx hb dX7_takeSum_51 rfl (lv_at hl 0 rfl) ?_
  refine va_get (D := D) (ci := 7) (C := RX7) (T := TX7) (N := 4) hx hb hts iX7 hown hK hP 0 rfl rfl 0 (by decide) l7 (fun _ h9 => h9) rfl dX7_takeSum_52 ?_
  refine lv_iload_n hx hb dX7_takeSum_55 rfl (lv_at hl 1 rfl) ?_
  refine lv_aload_n hx hb dX7_takeSum_56 rfl (lv_at hl 2 rfl) ?_
  refine va_get (D := D) (ci := 7) (C := RX7) (T := TX7) (N := 4) hx hb hts iX7 hown hK hP 1 rfl rfl 3 (by decide) l26 (fun _ h9 => h9) rfl dX7_takeSum_57 ?_
  refine lv_imul hx hb dX7_takeSum_60 ?_
  refine lv_iload_n hx hb dX7_takeSum_61 rfl (lv_at hl 3 rfl) ?_
  refine lv_aload hx hb dX7_takeSum_62 (lv_at hl 4 rfl) ?_
  refine va_get (D := D) (ci := 7) (C := RX7) (T := TX7) (N := 4) hx hb hts iX7 hown hK hP 2 rfl rfl 3 (by decide) l26 (fun _ h9 => h9) rfl dX7_takeSum_64 ?_
  refine lv_imul hx hb dX7_takeSum_67 ?_
  refine lv_iadd hx hb dX7_takeSum_68 ?_
  obtain ⟨v3, hv3, hf⟩ := o_b1 hf
  refine x_vi (rest := [.ref a_t]) (W1 := [x_o7 a_t a_N v1 v2 t_z, x_o7 a_b2 a_N b2_x b2_y b2_z, x_o7 a_b4 a_N b4_x b4_y b4_z, x_o4 a_N a_N_inverses a_N_roots N_p]) ⟨hx, hb, hml, hown, hts⟩ (tX4_rest l D cI a_N a_N_inverses a_N_roots N_p ((i1 * b2_z) + (i3 * b4_z)) v3 hv3) (cwV 1 hts gX7_takeSum_X4_rest rfl rfl rfl (by decide +kernel) ⟨Nat.le_of_ble_eq_true rfl, Nat.le_of_ble_eq_true rfl⟩) hN hK hP hD hS hA [3] [none, none, none, some 0] rfl rfl rfl rfl rfl rfl 0 rfl rfl rfl hl.1 rfl (Nat.le_of_ble_eq_true rfl) dX7_takeSum_69 ⟨Nat.zero_le _, Nat.zero_le _⟩ (fun H locs hP hD hS => ?_)
  refine x_put (W1 := [x_o7 a_t a_N v1 v2 v3, x_o7 a_b2 a_N b2_x b2_y b2_z, x_o7 a_b4 a_N b4_x b4_y b4_z, x_o4 a_N a_N_inverses a_N_roots N_p]) (ty := .int) (C := RX7) (T := TX7) (N := 4) hx hb hts iX7 tyX7 tyX7_ok nmX7 hown hK hP hD hS 0 rfl rfl 3 (by decide) l26 rfl rfl (by decide +kernel) rfl rfl (Nat.le_of_ble_eq_true rfl) rfl dX7_takeSum_72 (fun H locs hP hD hS => ?_)
  obtain ⟨rfl, rfl, rfl⟩ := o_s3 hf
  exact hret dX7_takeSum_75 hP hD hS
noncomputable def jX3_put_66 (t_count : Int32) (v1 : Int32) (v2 : Int32) (v3 : Int32) (y5 : Int32) (y6 : Int32) : Option (Int32 × Int32 × Int32 × Int32 × Int32 × Int32) :=
  p_nm (t_count + 1) (fun v7 =>
some (v7, y5, y6, v1, v2, v3))
noncomputable def fX3_put (t_count : Int32) (t_lower : Int32) (t_upper : Int32) (N_p : Int32) (N_inverses_r : (Nat → Int32)) (t_end_x : Int32) (t_end_y : Int32) (t_end_z : Int32) (t_found_x : Int32) (t_found_y : Int32) (t_found_z : Int32) (t_start_x : Int32) (t_start_y : Int32) (t_start_z : Int32) (i1 : Int32) (i2 : Int32) : Option (Int32 × Int32 × Int32 × Int32 × Int32 × Int32) :=
  p_b3 (fX7_takeSum t_found_x t_found_y t_found_z t_start_x t_start_y t_start_z t_end_x t_end_y t_end_z N_p i1 i2) (fun v1 v2 v3 =>
p_b1 (fX7_key v1 v2 v3 N_p N_inverses_r) (fun v4 =>
if t_count = 0 then (jX3_put_66 t_count v1 v2 v3 v4 v4) else (if t_lower ≤ v4 then (jX3_put_66 t_count v1 v2 v3 t_lower v4) else (jX3_put_66 t_count v1 v2 v3 v4 t_upper))))
def rmX3_put : Room := { frames := 2, cells := 0, slots := 0, locals := 46 }
set_option maxHeartbeats 4000000 in
set_option maxRecDepth 100000 in
theorem tX3_put (l : Launch) (D : va_G) (cI : ClassId) (a_t : Nat) (a_N : Nat) (a_t_start : Nat) (a_t_end : Nat) (a_t_found : Nat) (a_N_inverses : Nat) (a_N_roots : Nat) (t_count : Int32) (t_lower : Int32) (t_upper : Int32) (N_p : Int32) (N_inverses_r : (Nat → Int32)) (t_end_x : Int32) (t_end_y : Int32) (t_end_z : Int32) (t_found_x : Int32) (t_found_y : Int32) (t_found_z : Int32) (t_start_x : Int32) (t_start_y : Int32) (t_start_z : Int32) (i1 : Int32) (i2 : Int32) (s_t_count : Int32) (s_t_lower : Int32) (s_t_upper : Int32) (s_t_found_x : Int32) (s_t_found_y : Int32) (s_t_found_z : Int32) (hf : fX3_put t_count t_lower t_upper N_p N_inverses_r t_end_x t_end_y t_end_z t_found_x t_found_y t_found_z t_start_x t_start_y t_start_z i1 i2 = some (s_t_count, s_t_lower, s_t_upper, s_t_found_x, s_t_found_y, s_t_found_z)) : x_CV l D cI yX3_put wsX3_put rmX3_put [.ref a_t, .int i1, .int i2] [x_o3 a_t a_N a_t_start a_t_end a_t_found t_count t_lower t_upper, x_o4 a_N a_N_inverses a_N_roots N_p, x_ar cI a_N_inverses 200 N_inverses_r, x_o7 a_t_end a_N t_end_x t_end_y t_end_z, x_o7 a_t_found a_N t_found_x t_found_y t_found_z, x_o7 a_t_start a_N t_start_x t_start_y t_start_z] [x_o3 a_t a_N a_t_start a_t_end a_t_found s_t_count s_t_lower s_t_upper, x_o4 a_N a_N_inverses a_N_roots N_p, x_ar cI a_N_inverses 200 N_inverses_r, x_o7 a_t_end a_N t_end_x t_end_y t_end_z, x_o7 a_t_found a_N s_t_found_x s_t_found_y s_t_found_z, x_o7 a_t_start a_N t_start_x t_start_y t_start_z] := by
  refine x_CV_of (cc := cX3_put) (maxL := 4) (own := RX3) (lv0 := [(0, .ref a_t), (1, .int i1), (2, .int i2)]) (by decide) rfl rfl (Nat.le_of_ble_eq_true rfl) rfl ?_
  intro p e s m args below meth c A Q ls hx hb hml hown hts hN hK hP hD hS hA hl hret
  have iX3 : ∀ w ∈ u_ws RX3 TX3 7, w ∈ wsX3_put := by decide +kernel
  have l27 := hts (.fieldLink RX3 27 "ChordRings$Meeting" "found" "LChordRings$Triple;") (by decide +kernel)
  have l20 := hts (.fieldLink RX3 20 "ChordRings$Meeting" "start" "LChordRings$Triple;") (by decide +kernel)
  have l24 := hts (.fieldLink RX3 24 "ChordRings$Meeting" "end" "LChordRings$Triple;") (by decide +kernel)
  have l30 := hts (.fieldLink RX3 30 "ChordRings$Meeting" "count" "I") (by decide +kernel)
  have l58 := hts (.fieldLink RX3 58 "ChordRings$Meeting" "lower" "I") (by decide +kernel)
  have l61 := hts (.fieldLink RX3 61 "ChordRings$Meeting" "upper" "I") (by decide +kernel)
  unfold fX3_put at hf
  refine lv_aload_n hx hb dX3_put_0 rfl (lv_at hl 0 rfl) ?_
  refine va_get (D := D) (ci := 3) (C := RX3) (T := TX3) (N := 7) hx hb hts iX3 hown hK hP 0 rfl rfl 3 (by decide) l27 (fun _ h9 => h9) rfl dX3_put_1 ?_
  refine lv_iload_n hx hb dX3_put_4 rfl (lv_at hl 1 rfl) ?_
  refine lv_aload_n hx hb dX3_put_5 rfl (lv_at hl 0 rfl) ?_
  refine va_get (D := D) (ci := 3) (C := RX3) (T := TX3) (N := 7) hx hb hts iX3 hown hK hP 0 rfl rfl 1 (by decide) l20 (fun _ h9 => h9) rfl dX3_put_6 ?_
  refine lv_iload_n hx hb dX3_put_9 rfl (lv_at hl 2 rfl) ?_
  refine lv_aload_n hx hb dX3_put_10 rfl (lv_at hl 0 rfl) ?_
  refine va_get (D := D) (ci := 3) (C := RX3) (T := TX3) (N := 7) hx hb hts iX3 hown hK hP 0 rfl rfl 2 (by decide) l24 (fun _ h9 => h9) rfl dX3_put_11 ?_
  obtain ⟨v1, v2, v3, hv1, hf⟩ := o_b3 hf
  refine x_vv (rest := []) (W1 := [x_o3 a_t a_N a_t_start a_t_end a_t_found t_count t_lower t_upper, x_o4 a_N a_N_inverses a_N_roots N_p, x_ar cI a_N_inverses 200 N_inverses_r, x_o7 a_t_end a_N t_end_x t_end_y t_end_z, x_o7 a_t_found a_N v1 v2 v3, x_o7 a_t_start a_N t_start_x t_start_y t_start_z]) ⟨hx, hb, hml, hown, hts⟩ (tX7_takeSum l D cI a_t_found a_t_start a_t_end a_N a_N_inverses a_N_roots t_found_x t_found_y t_found_z t_start_x t_start_y t_start_z t_end_x t_end_y t_end_z N_p i1 i2 v1 v2 v3 hv1) (cwV 4 hts gX3_put_X7_takeSum rfl rfl rfl (by decide +kernel) ⟨Nat.le_of_ble_eq_true rfl, Nat.le_of_ble_eq_true rfl⟩) hN hK hP hD hS hA [4, 5, 3, 1] [none, some 3, none, some 2, some 0, some 1] rfl rfl rfl rfl rfl rfl 0 rfl rfl rfl hl.1 rfl (Nat.le_of_ble_eq_true rfl) dX3_put_14 ⟨Nat.zero_le _, Nat.zero_le _⟩ (fun H locs hP hD hS => ?_)
  refine lv_aload_n hx hb dX3_put_17 rfl (lv_at hl 0 rfl) ?_
  refine va_get (D := D) (ci := 3) (C := RX3) (T := TX3) (N := 7) hx hb hts iX3 hown hK hP 0 rfl rfl 3 (by decide) l27 (fun _ h9 => h9) rfl dX3_put_18 ?_
  obtain ⟨v4, hv4, hf⟩ := o_b1 hf
  refine x_vi (rest := []) (W1 := [x_o3 a_t a_N a_t_start a_t_end a_t_found t_count t_lower t_upper, x_o4 a_N a_N_inverses a_N_roots N_p, x_ar cI a_N_inverses 200 N_inverses_r, x_o7 a_t_end a_N t_end_x t_end_y t_end_z, x_o7 a_t_found a_N v1 v2 v3, x_o7 a_t_start a_N t_start_x t_start_y t_start_z]) ⟨hx, hb, hml, hown, hts⟩ (tX7_key l D cI a_t_found a_N a_N_inverses a_N_roots v1 v2 v3 N_p N_inverses_r v4 hv4) (cwV 0 hts gX3_put_X7_key rfl rfl rfl (by decide +kernel) ⟨Nat.le_of_ble_eq_true rfl, Nat.le_of_ble_eq_true rfl⟩) hN hK hP hD hS hA [4, 1, 2] [none, some 1, some 2, none, some 0, none] rfl rfl rfl rfl rfl rfl 0 rfl rfl rfl hl.1 rfl (Nat.le_of_ble_eq_true rfl) dX3_put_21 ⟨Nat.zero_le _, Nat.zero_le _⟩ (fun H locs hP hD hS => ?_)
  refine lv_istore_n (lv' := [(3, .int v4), (0, .ref a_t), (1, .int i1), (2, .int i2)]) hx hb dX3_put_24 rfl hl (by decide) rfl (fun ls hl => ?_)
  refine lv_aload_n hx hb dX3_put_25 rfl (lv_at hl 1 rfl) ?_
  refine va_get (D := D) (ci := 3) (C := RX3) (T := TX3) (N := 7) hx hb hts iX3 hown hK hP 0 rfl rfl 4 (by decide) l30 (fun _ h9 => h9) rfl dX3_put_26 ?_
  have J66 : ∀ (y5 : Int32) (y6 : Int32) (ls : Array Slot) (H : Heap) (locs : List Loc), jX3_put_66 t_count v1 v2 v3 y5 y6 = some (s_t_count, s_t_lower, s_t_upper, s_t_found_x, s_t_found_y, s_t_found_z) → lv_has ls 4 [(0, .ref a_t)] → va_P D vwCl [x_o3 a_t a_N a_t_start a_t_end a_t_found t_count y5 y6, x_o4 a_N a_N_inverses a_N_roots N_p, x_ar cI a_N_inverses 200 N_inverses_r, x_o7 a_t_end a_N t_end_x t_end_y t_end_z, x_o7 a_t_found a_N v1 v2 v3, x_o7 a_t_start a_N t_start_x t_start_y t_start_z] H → va_D A [x_o3 a_t a_N a_t_start a_t_end a_t_found t_count y5 y6, x_o4 a_N a_N_inverses a_N_roots N_p, x_ar cI a_N_inverses 200 N_inverses_r, x_o7 a_t_end a_N t_end_x t_end_y t_end_z, x_o7 a_t_found a_N v1 v2 v3, x_o7 a_t_start a_N t_start_x t_start_y t_start_z] → va_S A s.heap H locs → W p l e rmX3_put s m args below meth c H locs 0 0 Q (F0 m 66 ls []) := by
    intro y5 y6 ls H locs hf hl hP hD hS
    unfold jX3_put_66 at hf
    refine lv_aload_n hx hb dX3_put_66 rfl (lv_at hl 0 rfl) ?_
    refine lv_dup hx hb dX3_put_67 rfl ?_
    refine va_get (D := D) (ci := 3) (C := RX3) (T := TX3) (N := 7) hx hb hts iX3 hown hK hP 0 rfl rfl 4 (by decide) l30 (fun _ h9 => h9) rfl dX3_put_68 ?_
    refine lv_iconst (v := 1) hx hb dX3_put_71 (by decide) ?_
    refine lv_iadd hx hb dX3_put_72 ?_
    obtain ⟨v7, ev7, hf⟩ := o_nm hf
    refine x_top ev7 ?_
    refine x_put (W1 := [x_o3 a_t a_N a_t_start a_t_end a_t_found v7 y5 y6, x_o4 a_N a_N_inverses a_N_roots N_p, x_ar cI a_N_inverses 200 N_inverses_r, x_o7 a_t_end a_N t_end_x t_end_y t_end_z, x_o7 a_t_found a_N v1 v2 v3, x_o7 a_t_start a_N t_start_x t_start_y t_start_z]) (ty := .int) (C := RX3) (T := TX3) (N := 7) hx hb hts iX3 tyX3 tyX3_ok nmX3 hown hK hP hD hS 0 rfl rfl 4 (by decide) l30 rfl rfl (by decide +kernel) rfl rfl (Nat.le_of_ble_eq_true rfl) rfl dX3_put_73 (fun H locs hP hD hS => ?_)
    obtain ⟨rfl, rfl, rfl, rfl, rfl, rfl⟩ := o_s6 hf
    exact hret dX3_put_76 hP hD hS
  refine lv_if_ne (tgt := 45) hx hb dX3_put_29 (by decide) (fun hc => ?_) (fun hc => ?_)
  · have hf := o_f hf hc
    refine lv_iload_n hx hb dX3_put_45 rfl (lv_at hl 0 rfl) ?_
    refine lv_aload_n hx hb dX3_put_46 rfl (lv_at hl 1 rfl) ?_
    refine va_get (D := D) (ci := 3) (C := RX3) (T := TX3) (N := 7) hx hb hts iX3 hown hK hP 0 rfl rfl 5 (by decide) l58 (fun _ h9 => h9) rfl dX3_put_47 ?_
    refine lv_icmp_ge (tgt := 61) hx hb dX3_put_50 (by decide) (fun hc => ?_) (fun hc => ?_)
    · have hf := o_t hf hc
      refine lv_aload_n hx hb dX3_put_61 rfl (lv_at hl 1 rfl) ?_
      refine lv_iload_n hx hb dX3_put_62 rfl (lv_at hl 0 rfl) ?_
      refine x_put (W1 := [x_o3 a_t a_N a_t_start a_t_end a_t_found t_count t_lower v4, x_o4 a_N a_N_inverses a_N_roots N_p, x_ar cI a_N_inverses 200 N_inverses_r, x_o7 a_t_end a_N t_end_x t_end_y t_end_z, x_o7 a_t_found a_N v1 v2 v3, x_o7 a_t_start a_N t_start_x t_start_y t_start_z]) (ty := .int) (C := RX3) (T := TX3) (N := 7) hx hb hts iX3 tyX3 tyX3_ok nmX3 hown hK hP hD hS 0 rfl rfl 6 (by decide) l61 rfl rfl (by decide +kernel) rfl rfl (Nat.le_of_ble_eq_true rfl) rfl dX3_put_63 (fun H locs hP hD hS => ?_)
      exact J66 t_lower v4 _ _ _ hf (lv_sub hl [1] rfl) hP hD hS
    · have hf := o_f hf hc
      refine lv_aload_n hx hb dX3_put_53 rfl (lv_at hl 1 rfl) ?_
      refine lv_iload_n hx hb dX3_put_54 rfl (lv_at hl 0 rfl) ?_
      refine x_put (W1 := [x_o3 a_t a_N a_t_start a_t_end a_t_found t_count v4 t_upper, x_o4 a_N a_N_inverses a_N_roots N_p, x_ar cI a_N_inverses 200 N_inverses_r, x_o7 a_t_end a_N t_end_x t_end_y t_end_z, x_o7 a_t_found a_N v1 v2 v3, x_o7 a_t_start a_N t_start_x t_start_y t_start_z]) (ty := .int) (C := RX3) (T := TX3) (N := 7) hx hb hts iX3 tyX3 tyX3_ok nmX3 hown hK hP hD hS 0 rfl rfl 5 (by decide) l58 rfl rfl (by decide +kernel) rfl rfl (Nat.le_of_ble_eq_true rfl) rfl dX3_put_55 (fun H locs hP hD hS => ?_)
      refine lv_goto (tgt := 66) hx hb dX3_put_58 (by decide) ?_
      exact J66 v4 t_upper _ _ _ hf (lv_sub hl [1] rfl) hP hD hS
  · have hf := o_t hf hc
    refine lv_aload_n hx hb dX3_put_32 rfl (lv_at hl 1 rfl) ?_
    refine lv_iload_n hx hb dX3_put_33 rfl (lv_at hl 0 rfl) ?_
    refine x_put (W1 := [x_o3 a_t a_N a_t_start a_t_end a_t_found t_count v4 t_upper, x_o4 a_N a_N_inverses a_N_roots N_p, x_ar cI a_N_inverses 200 N_inverses_r, x_o7 a_t_end a_N t_end_x t_end_y t_end_z, x_o7 a_t_found a_N v1 v2 v3, x_o7 a_t_start a_N t_start_x t_start_y t_start_z]) (ty := .int) (C := RX3) (T := TX3) (N := 7) hx hb hts iX3 tyX3 tyX3_ok nmX3 hown hK hP hD hS 0 rfl rfl 5 (by decide) l58 rfl rfl (by decide +kernel) rfl rfl (Nat.le_of_ble_eq_true rfl) rfl dX3_put_34 (fun H locs hP hD hS => ?_)
    refine lv_aload_n hx hb dX3_put_37 rfl (lv_at hl 1 rfl) ?_
    refine lv_iload_n hx hb dX3_put_38 rfl (lv_at hl 0 rfl) ?_
    refine x_put (W1 := [x_o3 a_t a_N a_t_start a_t_end a_t_found t_count v4 v4, x_o4 a_N a_N_inverses a_N_roots N_p, x_ar cI a_N_inverses 200 N_inverses_r, x_o7 a_t_end a_N t_end_x t_end_y t_end_z, x_o7 a_t_found a_N v1 v2 v3, x_o7 a_t_start a_N t_start_x t_start_y t_start_z]) (ty := .int) (C := RX3) (T := TX3) (N := 7) hx hb hts iX3 tyX3 tyX3_ok nmX3 hown hK hP hD hS 0 rfl rfl 6 (by decide) l61 rfl rfl (by decide +kernel) rfl rfl (Nat.le_of_ble_eq_true rfl) rfl dX3_put_39 (fun H locs hP hD hS => ?_)
    refine lv_goto (tgt := 66) hx hb dX3_put_42 (by decide) ?_
    exact J66 v4 v4 _ _ _ hf (lv_sub hl [1] rfl) hP hD hS
noncomputable def jX7_takeKey_53 (i1 : Int32) (v1 : Int32) (y2 : Int32) (y3 : Int32) : Option (Int32 × Int32 × Int32) :=
  if y2 = 1 then (p_b1 (p_rm i1 v1) (fun v5 =>
some (v5, y3, y2))) else (if y3 = 1 then (p_nm (i1 - (v1 * v1)) (fun v4 =>
some (v4, y3, y2))) else (some (1, y3, y2)))
noncomputable def jX7_takeKey_21 (i1 : Int32) (v1 : Int32) (y2 : Int32) : Option (Int32 × Int32 × Int32) :=
  if y2 = 1 then (p_b1 (p_dv i1 v1) (fun v6 =>
jX7_takeKey_53 i1 v1 y2 v6)) else (if ((v1 * v1) + v1) ≤ i1 then (jX7_takeKey_53 i1 v1 y2 0) else (jX7_takeKey_53 i1 v1 y2 1))
noncomputable def fX7_takeKey (t_x : Int32) (t_y : Int32) (t_z : Int32) (N_p : Int32) (i1 : Int32) : Option (Int32 × Int32 × Int32) :=
  p_b1 (fX4_prime N_p) (fun v1 =>
if (v1 * v1) ≤ i1 then (jX7_takeKey_21 i1 v1 0) else (jX7_takeKey_21 i1 v1 1))
def rmX7_takeKey : Room := { frames := 1, cells := 0, slots := 0, locals := 20 }
set_option maxHeartbeats 4000000 in
set_option maxRecDepth 100000 in
theorem tX7_takeKey (l : Launch) (D : va_G) (cI : ClassId) (a_t : Nat) (a_N : Nat) (a_N_inverses : Nat) (a_N_roots : Nat) (t_x : Int32) (t_y : Int32) (t_z : Int32) (N_p : Int32) (i1 : Int32) (s_t_x : Int32) (s_t_y : Int32) (s_t_z : Int32) (hf : fX7_takeKey t_x t_y t_z N_p i1 = some (s_t_x, s_t_y, s_t_z)) : x_CV l D cI yX7_takeKey wsX7_takeKey rmX7_takeKey [.ref a_t, .int i1] [x_o7 a_t a_N t_x t_y t_z, x_o4 a_N a_N_inverses a_N_roots N_p] [x_o7 a_t a_N s_t_x s_t_y s_t_z, x_o4 a_N a_N_inverses a_N_roots N_p] := by
  refine x_CV_of (cc := cX7_takeKey) (maxL := 3) (own := RX7) (lv0 := [(0, .ref a_t), (1, .int i1)]) (by decide) rfl rfl (Nat.le_of_ble_eq_true rfl) rfl ?_
  intro p e s m args below meth c A Q ls hx hb hml hown hts hN hK hP hD hS hA hl hret
  have iX7 : ∀ w ∈ u_ws RX7 TX7 4, w ∈ wsX7_takeKey := by decide +kernel
  have l7 := hts (.fieldLink RX7 7 "ChordRings$Triple" "numbers" "LChordRings$Numbers;") (by decide +kernel)
  have l26 := hts (.fieldLink RX7 26 "ChordRings$Triple" "z" "I") (by decide +kernel)
  have l23 := hts (.fieldLink RX7 23 "ChordRings$Triple" "y" "I") (by decide +kernel)
  have l19 := hts (.fieldLink RX7 19 "ChordRings$Triple" "x" "I") (by decide +kernel)
  unfold fX7_takeKey at hf
  refine lv_aload_n hx hb dX7_takeKey_0 rfl (lv_at hl 0 rfl) ?_
  refine va_get (D := D) (ci := 7) (C := RX7) (T := TX7) (N := 4) hx hb hts iX7 hown hK hP 0 rfl rfl 0 (by decide) l7 (fun _ h9 => h9) rfl dX7_takeKey_1 ?_
  obtain ⟨v1, hv1, hf⟩ := o_b1 hf
  refine x_vi (rest := []) (W1 := [x_o7 a_t a_N t_x t_y t_z, x_o4 a_N a_N_inverses a_N_roots N_p]) ⟨hx, hb, hml, hown, hts⟩ (tX4_prime l D cI a_N a_N_inverses a_N_roots N_p v1 hv1) (cwV 0 hts gX7_takeKey_X4_prime rfl rfl rfl (by decide +kernel) ⟨Nat.le_of_ble_eq_true rfl, Nat.le_of_ble_eq_true rfl⟩) hN hK hP hD hS hA [1] [none, some 0] rfl rfl rfl rfl rfl rfl 0 rfl rfl rfl hl.1 rfl (Nat.le_of_ble_eq_true rfl) dX7_takeKey_4 ⟨Nat.zero_le _, Nat.zero_le _⟩ (fun H locs hP hD hS => ?_)
  refine lv_istore_n (lv' := [(2, .int v1), (0, .ref a_t), (1, .int i1)]) hx hb dX7_takeKey_7 rfl hl (by decide) rfl (fun ls hl => ?_)
  refine lv_aload_n hx hb dX7_takeKey_8 rfl (lv_at hl 1 rfl) ?_
  refine lv_iload_n hx hb dX7_takeKey_9 rfl (lv_at hl 2 rfl) ?_
  refine lv_iload_n hx hb dX7_takeKey_10 rfl (lv_at hl 0 rfl) ?_
  refine lv_iload_n hx hb dX7_takeKey_11 rfl (lv_at hl 0 rfl) ?_
  refine lv_imul hx hb dX7_takeKey_12 ?_
  have J21 : ∀ (y2 : Int32) (ls : Array Slot) (H : Heap) (locs : List Loc), jX7_takeKey_21 i1 v1 y2 = some (s_t_x, s_t_y, s_t_z) → lv_has ls 3 [(0, .ref a_t), (1, .int i1), (2, .int v1)] → va_P D vwCl [x_o7 a_t a_N t_x t_y t_z, x_o4 a_N a_N_inverses a_N_roots N_p] H → va_D A [x_o7 a_t a_N t_x t_y t_z, x_o4 a_N a_N_inverses a_N_roots N_p] → va_S A s.heap H locs → W p l e rmX7_takeKey s m args below meth c H locs 0 0 Q (F0 m 21 ls [.int y2, .ref a_t]) := by
    intro y2 ls H locs hf hl hP hD hS
    unfold jX7_takeKey_21 at hf
    refine x_put (W1 := [x_o7 a_t a_N t_x t_y y2, x_o4 a_N a_N_inverses a_N_roots N_p]) (ty := .int) (C := RX7) (T := TX7) (N := 4) hx hb hts iX7 tyX7 tyX7_ok nmX7 hown hK hP hD hS 0 rfl rfl 3 (by decide) l26 rfl rfl (by decide +kernel) rfl rfl (Nat.le_of_ble_eq_true rfl) rfl dX7_takeKey_21 (fun H locs hP hD hS => ?_)
    refine lv_aload_n hx hb dX7_takeKey_24 rfl (lv_at hl 0 rfl) ?_
    refine lv_aload_n hx hb dX7_takeKey_25 rfl (lv_at hl 0 rfl) ?_
    refine va_get (D := D) (ci := 7) (C := RX7) (T := TX7) (N := 4) hx hb hts iX7 hown hK hP 0 rfl rfl 3 (by decide) l26 (fun _ h9 => h9) rfl dX7_takeKey_26 ?_
    refine lv_iconst (v := 1) hx hb dX7_takeKey_29 (by decide) ?_
    have J53 : ∀ (y3 : Int32) (ls : Array Slot) (H : Heap) (locs : List Loc), jX7_takeKey_53 i1 v1 y2 y3 = some (s_t_x, s_t_y, s_t_z) → lv_has ls 3 [(0, .ref a_t), (1, .int i1), (2, .int v1)] → va_P D vwCl [x_o7 a_t a_N t_x t_y y2, x_o4 a_N a_N_inverses a_N_roots N_p] H → va_D A [x_o7 a_t a_N t_x t_y y2, x_o4 a_N a_N_inverses a_N_roots N_p] → va_S A s.heap H locs → W p l e rmX7_takeKey s m args below meth c H locs 0 0 Q (F0 m 53 ls [.int y3, .ref a_t]) := by
      intro y3 ls H locs hf hl hP hD hS
      unfold jX7_takeKey_53 at hf
      refine x_put (W1 := [x_o7 a_t a_N t_x y3 y2, x_o4 a_N a_N_inverses a_N_roots N_p]) (ty := .int) (C := RX7) (T := TX7) (N := 4) hx hb hts iX7 tyX7 tyX7_ok nmX7 hown hK hP hD hS 0 rfl rfl 2 (by decide) l23 rfl rfl (by decide +kernel) rfl rfl (Nat.le_of_ble_eq_true rfl) rfl dX7_takeKey_53 (fun H locs hP hD hS => ?_)
      refine lv_aload_n hx hb dX7_takeKey_56 rfl (lv_at hl 0 rfl) ?_
      refine lv_aload_n hx hb dX7_takeKey_57 rfl (lv_at hl 0 rfl) ?_
      refine va_get (D := D) (ci := 7) (C := RX7) (T := TX7) (N := 4) hx hb hts iX7 hown hK hP 0 rfl rfl 3 (by decide) l26 (fun _ h9 => h9) rfl dX7_takeKey_58 ?_
      refine lv_iconst (v := 1) hx hb dX7_takeKey_61 (by decide) ?_
      refine lv_icmp_ne (tgt := 71) hx hb dX7_takeKey_62 (by decide) (fun hc => ?_) (fun hc => ?_)
      · have hf := o_f hf hc
        refine lv_aload_n hx hb dX7_takeKey_71 rfl (lv_at hl 0 rfl) ?_
        refine va_get (D := D) (ci := 7) (C := RX7) (T := TX7) (N := 4) hx hb hts iX7 hown hK hP 0 rfl rfl 2 (by decide) l23 (fun _ h9 => h9) rfl dX7_takeKey_72 ?_
        refine lv_iconst (v := 1) hx hb dX7_takeKey_75 (by decide) ?_
        refine lv_icmp_ne (tgt := 87) hx hb dX7_takeKey_76 (by decide) (fun hc => ?_) (fun hc => ?_)
        · have hf := o_f hf hc
          refine lv_iconst (v := 1) hx hb dX7_takeKey_87 (by decide) ?_
          refine x_put (W1 := [x_o7 a_t a_N 1 y3 y2, x_o4 a_N a_N_inverses a_N_roots N_p]) (ty := .int) (C := RX7) (T := TX7) (N := 4) hx hb hts iX7 tyX7 tyX7_ok nmX7 hown hK hP hD hS 0 rfl rfl 1 (by decide) l19 rfl rfl (by decide +kernel) rfl rfl (Nat.le_of_ble_eq_true rfl) rfl dX7_takeKey_88 (fun H locs hP hD hS => ?_)
          obtain ⟨rfl, rfl, rfl⟩ := o_s3 hf
          exact hret dX7_takeKey_91 hP hD hS
        · have hf := o_t hf hc
          refine lv_iload_n hx hb dX7_takeKey_79 rfl (lv_at hl 1 rfl) ?_
          refine lv_iload_n hx hb dX7_takeKey_80 rfl (lv_at hl 2 rfl) ?_
          refine lv_iload_n hx hb dX7_takeKey_81 rfl (lv_at hl 2 rfl) ?_
          refine lv_imul hx hb dX7_takeKey_82 ?_
          refine lv_isub hx hb dX7_takeKey_83 ?_
          refine lv_goto (tgt := 88) hx hb dX7_takeKey_84 (by decide) ?_
          obtain ⟨v4, ev4, hf⟩ := o_nm hf
          refine x_top ev4 ?_
          refine x_put (W1 := [x_o7 a_t a_N v4 y3 y2, x_o4 a_N a_N_inverses a_N_roots N_p]) (ty := .int) (C := RX7) (T := TX7) (N := 4) hx hb hts iX7 tyX7 tyX7_ok nmX7 hown hK hP hD hS 0 rfl rfl 1 (by decide) l19 rfl rfl (by decide +kernel) rfl rfl (Nat.le_of_ble_eq_true rfl) rfl dX7_takeKey_88 (fun H locs hP hD hS => ?_)
          obtain ⟨rfl, rfl, rfl⟩ := o_s3 hf
          exact hret dX7_takeKey_91 hP hD hS
      · have hf := o_t hf hc
        refine lv_iload_n hx hb dX7_takeKey_65 rfl (lv_at hl 1 rfl) ?_
        refine lv_iload_n hx hb dX7_takeKey_66 rfl (lv_at hl 2 rfl) ?_
        obtain ⟨v5, hv5, hf⟩ := o_b1 hf
        refine x_rm hx hb hv5 dX7_takeKey_67 ?_
        refine lv_goto (tgt := 88) hx hb dX7_takeKey_68 (by decide) ?_
        refine x_put (W1 := [x_o7 a_t a_N v5 y3 y2, x_o4 a_N a_N_inverses a_N_roots N_p]) (ty := .int) (C := RX7) (T := TX7) (N := 4) hx hb hts iX7 tyX7 tyX7_ok nmX7 hown hK hP hD hS 0 rfl rfl 1 (by decide) l19 rfl rfl (by decide +kernel) rfl rfl (Nat.le_of_ble_eq_true rfl) rfl dX7_takeKey_88 (fun H locs hP hD hS => ?_)
        obtain ⟨rfl, rfl, rfl⟩ := o_s3 hf
        exact hret dX7_takeKey_91 hP hD hS
    refine lv_icmp_ne (tgt := 39) hx hb dX7_takeKey_30 (by decide) (fun hc => ?_) (fun hc => ?_)
    · have hf := o_f hf hc
      refine lv_iload_n hx hb dX7_takeKey_39 rfl (lv_at hl 1 rfl) ?_
      refine lv_iload_n hx hb dX7_takeKey_40 rfl (lv_at hl 2 rfl) ?_
      refine lv_iload_n hx hb dX7_takeKey_41 rfl (lv_at hl 2 rfl) ?_
      refine lv_imul hx hb dX7_takeKey_42 ?_
      refine lv_iload_n hx hb dX7_takeKey_43 rfl (lv_at hl 2 rfl) ?_
      refine lv_iadd hx hb dX7_takeKey_44 ?_
      refine lv_icmp_ge (tgt := 52) hx hb dX7_takeKey_45 (by decide) (fun hc => ?_) (fun hc => ?_)
      · have hf := o_t hf hc
        refine lv_iconst (v := 0) hx hb dX7_takeKey_52 (by decide) ?_
        exact J53 0 _ _ _ hf (lv_sub hl [0, 1, 2] rfl) hP hD hS
      · have hf := o_f hf hc
        refine lv_iconst (v := 1) hx hb dX7_takeKey_48 (by decide) ?_
        refine lv_goto (tgt := 53) hx hb dX7_takeKey_49 (by decide) ?_
        exact J53 1 _ _ _ hf (lv_sub hl [0, 1, 2] rfl) hP hD hS
    · have hf := o_t hf hc
      refine lv_iload_n hx hb dX7_takeKey_33 rfl (lv_at hl 1 rfl) ?_
      refine lv_iload_n hx hb dX7_takeKey_34 rfl (lv_at hl 2 rfl) ?_
      obtain ⟨v6, hv6, hf⟩ := o_b1 hf
      refine x_dv hx hb hv6 dX7_takeKey_35 ?_
      refine lv_goto (tgt := 53) hx hb dX7_takeKey_36 (by decide) ?_
      exact J53 v6 _ _ _ hf (lv_sub hl [0, 1, 2] rfl) hP hD hS
  refine lv_icmp_ge (tgt := 20) hx hb dX7_takeKey_13 (by decide) (fun hc => ?_) (fun hc => ?_)
  · have hf := o_t hf hc
    refine lv_iconst (v := 0) hx hb dX7_takeKey_20 (by decide) ?_
    exact J21 0 _ _ _ hf (lv_sub hl [1, 2, 0] rfl) hP hD hS
  · have hf := o_f hf hc
    refine lv_iconst (v := 1) hx hb dX7_takeKey_16 (by decide) ?_
    refine lv_goto (tgt := 21) hx hb dX7_takeKey_17 (by decide) ?_
    exact J21 1 _ _ _ hf (lv_sub hl [1, 2, 0] rfl) hP hD hS
noncomputable def fX3_span (N_p : Int32) (t_end_x : Int32) (t_end_y : Int32) (t_end_z : Int32) (t_found_x : Int32) (t_found_y : Int32) (t_found_z : Int32) (t_start_x : Int32) (t_start_y : Int32) (t_start_z : Int32) (i1 : Int32) : Option (Int32 × Int32 × Int32 × Int32 × Int32 × Int32 × Int32 × Int32 × Int32) :=
  p_b3 (fX7_takeKey t_found_x t_found_y t_found_z N_p i1) (fun v1 v2 v3 =>
if v3 = 0 then (if v2 = 0 then (p_b3 (fX7_take t_start_x t_start_y t_start_z N_p 0 1 0) (fun v4 v5 v6 =>
p_b3 (fX7_take t_end_x t_end_y t_end_z N_p 0 0 1) (fun v7 v8 v9 =>
some (v7, v8, v9, v1, v2, v3, v4, v5, v6)))) else (p_b3 (fX7_take t_start_x t_start_y t_start_z N_p 1 (-v1) 0) (fun v10 v11 v12 =>
p_b3 (fX7_take t_end_x t_end_y t_end_z N_p 0 0 1) (fun v13 v14 v15 =>
some (v13, v14, v15, v1, v2, v3, v10, v11, v12))))) else (p_b3 (fX7_take t_start_x t_start_y t_start_z N_p 1 0 (-v1)) (fun v16 v17 v18 =>
p_b3 (fX7_take t_end_x t_end_y t_end_z N_p 0 1 (-v2)) (fun v19 v20 v21 =>
some (v19, v20, v21, v1, v2, v3, v16, v17, v18)))))
def rmX3_span : Room := { frames := 2, cells := 0, slots := 0, locals := 45 }
set_option maxHeartbeats 4000000 in
set_option maxRecDepth 100000 in
theorem tX3_span (l : Launch) (D : va_G) (cI : ClassId) (a_t : Nat) (a_N : Nat) (a_t_start : Nat) (a_t_end : Nat) (a_t_found : Nat) (a_N_inverses : Nat) (a_N_roots : Nat) (t_count : Int32) (t_lower : Int32) (t_upper : Int32) (N_p : Int32) (t_end_x : Int32) (t_end_y : Int32) (t_end_z : Int32) (t_found_x : Int32) (t_found_y : Int32) (t_found_z : Int32) (t_start_x : Int32) (t_start_y : Int32) (t_start_z : Int32) (i1 : Int32) (s_t_end_x : Int32) (s_t_end_y : Int32) (s_t_end_z : Int32) (s_t_found_x : Int32) (s_t_found_y : Int32) (s_t_found_z : Int32) (s_t_start_x : Int32) (s_t_start_y : Int32) (s_t_start_z : Int32) (hf : fX3_span N_p t_end_x t_end_y t_end_z t_found_x t_found_y t_found_z t_start_x t_start_y t_start_z i1 = some (s_t_end_x, s_t_end_y, s_t_end_z, s_t_found_x, s_t_found_y, s_t_found_z, s_t_start_x, s_t_start_y, s_t_start_z)) : x_CV l D cI yX3_span wsX3_span rmX3_span [.ref a_t, .int i1] [x_o3 a_t a_N a_t_start a_t_end a_t_found t_count t_lower t_upper, x_o4 a_N a_N_inverses a_N_roots N_p, x_o7 a_t_end a_N t_end_x t_end_y t_end_z, x_o7 a_t_found a_N t_found_x t_found_y t_found_z, x_o7 a_t_start a_N t_start_x t_start_y t_start_z] [x_o3 a_t a_N a_t_start a_t_end a_t_found t_count t_lower t_upper, x_o4 a_N a_N_inverses a_N_roots N_p, x_o7 a_t_end a_N s_t_end_x s_t_end_y s_t_end_z, x_o7 a_t_found a_N s_t_found_x s_t_found_y s_t_found_z, x_o7 a_t_start a_N s_t_start_x s_t_start_y s_t_start_z] := by
  refine x_CV_of (cc := cX3_span) (maxL := 2) (own := RX3) (lv0 := [(0, .ref a_t), (1, .int i1)]) (by decide) rfl rfl (Nat.le_of_ble_eq_true rfl) rfl ?_
  intro p e s m args below meth c A Q ls hx hb hml hown hts hN hK hP hD hS hA hl hret
  have iX3 : ∀ w ∈ u_ws RX3 TX3 7, w ∈ wsX3_span := by decide +kernel
  have iX7 : ∀ w ∈ u_ws RX7 TX7 4, w ∈ wsX3_span := by decide +kernel
  have l27 := hts (.fieldLink RX3 27 "ChordRings$Meeting" "found" "LChordRings$Triple;") (by decide +kernel)
  have l20 := hts (.fieldLink RX3 20 "ChordRings$Meeting" "start" "LChordRings$Triple;") (by decide +kernel)
  have l24 := hts (.fieldLink RX3 24 "ChordRings$Meeting" "end" "LChordRings$Triple;") (by decide +kernel)
  unfold fX3_span at hf
  refine lv_aload_n hx hb dX3_span_0 rfl (lv_at hl 0 rfl) ?_
  refine va_get (D := D) (ci := 3) (C := RX3) (T := TX3) (N := 7) hx hb hts iX3 hown hK hP 0 rfl rfl 3 (by decide) l27 (fun _ h9 => h9) rfl dX3_span_1 ?_
  refine lv_iload_n hx hb dX3_span_4 rfl (lv_at hl 1 rfl) ?_
  obtain ⟨v1, v2, v3, hv1, hf⟩ := o_b3 hf
  refine x_vv (rest := []) (W1 := [x_o3 a_t a_N a_t_start a_t_end a_t_found t_count t_lower t_upper, x_o4 a_N a_N_inverses a_N_roots N_p, x_o7 a_t_end a_N t_end_x t_end_y t_end_z, x_o7 a_t_found a_N v1 v2 v3, x_o7 a_t_start a_N t_start_x t_start_y t_start_z]) ⟨hx, hb, hml, hown, hts⟩ (tX7_takeKey l D cI a_t_found a_N a_N_inverses a_N_roots t_found_x t_found_y t_found_z N_p i1 v1 v2 v3 hv1) (cwV 1 hts gX3_span_X7_takeKey rfl rfl rfl (by decide +kernel) ⟨Nat.le_of_ble_eq_true rfl, Nat.le_of_ble_eq_true rfl⟩) hN hK hP hD hS hA [3, 1] [none, some 1, none, some 0, none] rfl rfl rfl rfl rfl rfl 0 rfl rfl rfl hl.1 rfl (Nat.le_of_ble_eq_true rfl) dX3_span_5 ⟨Nat.zero_le _, Nat.zero_le _⟩ (fun H locs hP hD hS => ?_)
  refine lv_aload_n hx hb dX3_span_8 rfl (lv_at hl 0 rfl) ?_
  refine va_get (D := D) (ci := 3) (C := RX3) (T := TX3) (N := 7) hx hb hts iX3 hown hK hP 0 rfl rfl 3 (by decide) l27 (fun _ h9 => h9) rfl dX3_span_9 ?_
  refine va_getN (D := D) (ci := 7) (C := RX7) (T := TX7) (N := 4) hx hb hts iX7 hown hK hP 3 rfl rfl 3 (by decide) (va_Nw.use rfl hN.2.2.2.1) (fun _ h9 => h9) rfl dX3_span_12 ?_
  refine lv_if_eq (tgt := 55) hx hb dX3_span_15 (by decide) (fun hc => ?_) (fun hc => ?_)
  · have hf := o_t hf hc
    refine lv_aload_n hx hb dX3_span_55 rfl (lv_at hl 0 rfl) ?_
    refine va_get (D := D) (ci := 3) (C := RX3) (T := TX3) (N := 7) hx hb hts iX3 hown hK hP 0 rfl rfl 3 (by decide) l27 (fun _ h9 => h9) rfl dX3_span_56 ?_
    refine va_getN (D := D) (ci := 7) (C := RX7) (T := TX7) (N := 4) hx hb hts iX7 hown hK hP 3 rfl rfl 2 (by decide) (va_Nw.use rfl hN.2.2.2.2.2) (fun _ h9 => h9) rfl dX3_span_59 ?_
    refine lv_if_eq (tgt := 95) hx hb dX3_span_62 (by decide) (fun hc => ?_) (fun hc => ?_)
    · have hf := o_t hf hc
      refine lv_aload_n hx hb dX3_span_95 rfl (lv_at hl 0 rfl) ?_
      refine va_get (D := D) (ci := 3) (C := RX3) (T := TX3) (N := 7) hx hb hts iX3 hown hK hP 0 rfl rfl 1 (by decide) l20 (fun _ h9 => h9) rfl dX3_span_96 ?_
      refine lv_iconst (v := 0) hx hb dX3_span_99 (by decide) ?_
      refine lv_iconst (v := 1) hx hb dX3_span_100 (by decide) ?_
      refine lv_iconst (v := 0) hx hb dX3_span_101 (by decide) ?_
      obtain ⟨v4, v5, v6, hv4, hf⟩ := o_b3 hf
      refine x_vv (rest := []) (W1 := [x_o3 a_t a_N a_t_start a_t_end a_t_found t_count t_lower t_upper, x_o4 a_N a_N_inverses a_N_roots N_p, x_o7 a_t_end a_N t_end_x t_end_y t_end_z, x_o7 a_t_found a_N v1 v2 v3, x_o7 a_t_start a_N v4 v5 v6]) ⟨hx, hb, hml, hown, hts⟩ (tX7_take l D cI a_t_start a_N a_N_inverses a_N_roots t_start_x t_start_y t_start_z N_p 0 1 0 v4 v5 v6 hv4) (cwV 3 hts gX3_span_X7_take rfl rfl rfl (by decide +kernel) ⟨Nat.le_of_ble_eq_true rfl, Nat.le_of_ble_eq_true rfl⟩) hN hK hP hD hS hA [4, 1] [none, some 1, none, none, some 0] rfl rfl rfl rfl rfl rfl 0 rfl rfl rfl hl.1 rfl (Nat.le_of_ble_eq_true rfl) dX3_span_102 ⟨Nat.zero_le _, Nat.zero_le _⟩ (fun H locs hP hD hS => ?_)
      refine lv_aload_n hx hb dX3_span_105 rfl (lv_at hl 0 rfl) ?_
      refine va_get (D := D) (ci := 3) (C := RX3) (T := TX3) (N := 7) hx hb hts iX3 hown hK hP 0 rfl rfl 2 (by decide) l24 (fun _ h9 => h9) rfl dX3_span_106 ?_
      refine lv_iconst (v := 0) hx hb dX3_span_109 (by decide) ?_
      refine lv_iconst (v := 0) hx hb dX3_span_110 (by decide) ?_
      refine lv_iconst (v := 1) hx hb dX3_span_111 (by decide) ?_
      obtain ⟨v7, v8, v9, hv7, hf⟩ := o_b3 hf
      refine x_vv (rest := []) (W1 := [x_o3 a_t a_N a_t_start a_t_end a_t_found t_count t_lower t_upper, x_o4 a_N a_N_inverses a_N_roots N_p, x_o7 a_t_end a_N v7 v8 v9, x_o7 a_t_found a_N v1 v2 v3, x_o7 a_t_start a_N v4 v5 v6]) ⟨hx, hb, hml, hown, hts⟩ (tX7_take l D cI a_t_end a_N a_N_inverses a_N_roots t_end_x t_end_y t_end_z N_p 0 0 1 v7 v8 v9 hv7) (cwV 3 hts gX3_span_X7_take rfl rfl rfl (by decide +kernel) ⟨Nat.le_of_ble_eq_true rfl, Nat.le_of_ble_eq_true rfl⟩) hN hK hP hD hS hA [2, 1] [none, some 1, some 0, none, none] rfl rfl rfl rfl rfl rfl 0 rfl rfl rfl hl.1 rfl (Nat.le_of_ble_eq_true rfl) dX3_span_112 ⟨Nat.zero_le _, Nat.zero_le _⟩ (fun H locs hP hD hS => ?_)
      obtain ⟨rfl, rfl, rfl, rfl, rfl, rfl, rfl, rfl, rfl⟩ := o_s9 hf
      exact hret dX3_span_115 hP hD hS
    · have hf := o_f hf hc
      refine lv_aload_n hx hb dX3_span_65 rfl (lv_at hl 0 rfl) ?_
      refine va_get (D := D) (ci := 3) (C := RX3) (T := TX3) (N := 7) hx hb hts iX3 hown hK hP 0 rfl rfl 1 (by decide) l20 (fun _ h9 => h9) rfl dX3_span_66 ?_
      refine lv_iconst (v := 1) hx hb dX3_span_69 (by decide) ?_
      refine lv_aload_n hx hb dX3_span_70 rfl (lv_at hl 0 rfl) ?_
      refine va_get (D := D) (ci := 3) (C := RX3) (T := TX3) (N := 7) hx hb hts iX3 hown hK hP 0 rfl rfl 3 (by decide) l27 (fun _ h9 => h9) rfl dX3_span_71 ?_
      refine va_getN (D := D) (ci := 7) (C := RX7) (T := TX7) (N := 4) hx hb hts iX7 hown hK hP 3 rfl rfl 1 (by decide) (va_Nw.use rfl hN.2.2.2.2.1) (fun _ h9 => h9) rfl dX3_span_74 ?_
      refine lv_ineg hx hb dX3_span_77 ?_
      refine lv_iconst (v := 0) hx hb dX3_span_78 (by decide) ?_
      obtain ⟨v10, v11, v12, hv10, hf⟩ := o_b3 hf
      refine x_vv (rest := []) (W1 := [x_o3 a_t a_N a_t_start a_t_end a_t_found t_count t_lower t_upper, x_o4 a_N a_N_inverses a_N_roots N_p, x_o7 a_t_end a_N t_end_x t_end_y t_end_z, x_o7 a_t_found a_N v1 v2 v3, x_o7 a_t_start a_N v10 v11 v12]) ⟨hx, hb, hml, hown, hts⟩ (tX7_take l D cI a_t_start a_N a_N_inverses a_N_roots t_start_x t_start_y t_start_z N_p 1 (-v1) 0 v10 v11 v12 hv10) (cwV 3 hts gX3_span_X7_take rfl rfl rfl (by decide +kernel) ⟨Nat.le_of_ble_eq_true rfl, Nat.le_of_ble_eq_true rfl⟩) hN hK hP hD hS hA [4, 1] [none, some 1, none, none, some 0] rfl rfl rfl rfl rfl rfl 0 rfl rfl rfl hl.1 rfl (Nat.le_of_ble_eq_true rfl) dX3_span_79 ⟨Nat.zero_le _, Nat.zero_le _⟩ (fun H locs hP hD hS => ?_)
      refine lv_aload_n hx hb dX3_span_82 rfl (lv_at hl 0 rfl) ?_
      refine va_get (D := D) (ci := 3) (C := RX3) (T := TX3) (N := 7) hx hb hts iX3 hown hK hP 0 rfl rfl 2 (by decide) l24 (fun _ h9 => h9) rfl dX3_span_83 ?_
      refine lv_iconst (v := 0) hx hb dX3_span_86 (by decide) ?_
      refine lv_iconst (v := 0) hx hb dX3_span_87 (by decide) ?_
      refine lv_iconst (v := 1) hx hb dX3_span_88 (by decide) ?_
      obtain ⟨v13, v14, v15, hv13, hf⟩ := o_b3 hf
      refine x_vv (rest := []) (W1 := [x_o3 a_t a_N a_t_start a_t_end a_t_found t_count t_lower t_upper, x_o4 a_N a_N_inverses a_N_roots N_p, x_o7 a_t_end a_N v13 v14 v15, x_o7 a_t_found a_N v1 v2 v3, x_o7 a_t_start a_N v10 v11 v12]) ⟨hx, hb, hml, hown, hts⟩ (tX7_take l D cI a_t_end a_N a_N_inverses a_N_roots t_end_x t_end_y t_end_z N_p 0 0 1 v13 v14 v15 hv13) (cwV 3 hts gX3_span_X7_take rfl rfl rfl (by decide +kernel) ⟨Nat.le_of_ble_eq_true rfl, Nat.le_of_ble_eq_true rfl⟩) hN hK hP hD hS hA [2, 1] [none, some 1, some 0, none, none] rfl rfl rfl rfl rfl rfl 0 rfl rfl rfl hl.1 rfl (Nat.le_of_ble_eq_true rfl) dX3_span_89 ⟨Nat.zero_le _, Nat.zero_le _⟩ (fun H locs hP hD hS => ?_)
      refine lv_goto (tgt := 115) hx hb dX3_span_92 (by decide) ?_
      obtain ⟨rfl, rfl, rfl, rfl, rfl, rfl, rfl, rfl, rfl⟩ := o_s9 hf
      exact hret dX3_span_115 hP hD hS
  · have hf := o_f hf hc
    refine lv_aload_n hx hb dX3_span_18 rfl (lv_at hl 0 rfl) ?_
    refine va_get (D := D) (ci := 3) (C := RX3) (T := TX3) (N := 7) hx hb hts iX3 hown hK hP 0 rfl rfl 1 (by decide) l20 (fun _ h9 => h9) rfl dX3_span_19 ?_
    refine lv_iconst (v := 1) hx hb dX3_span_22 (by decide) ?_
    refine lv_iconst (v := 0) hx hb dX3_span_23 (by decide) ?_
    refine lv_aload_n hx hb dX3_span_24 rfl (lv_at hl 0 rfl) ?_
    refine va_get (D := D) (ci := 3) (C := RX3) (T := TX3) (N := 7) hx hb hts iX3 hown hK hP 0 rfl rfl 3 (by decide) l27 (fun _ h9 => h9) rfl dX3_span_25 ?_
    refine va_getN (D := D) (ci := 7) (C := RX7) (T := TX7) (N := 4) hx hb hts iX7 hown hK hP 3 rfl rfl 1 (by decide) (va_Nw.use rfl hN.2.2.2.2.1) (fun _ h9 => h9) rfl dX3_span_28 ?_
    refine lv_ineg hx hb dX3_span_31 ?_
    obtain ⟨v16, v17, v18, hv16, hf⟩ := o_b3 hf
    refine x_vv (rest := []) (W1 := [x_o3 a_t a_N a_t_start a_t_end a_t_found t_count t_lower t_upper, x_o4 a_N a_N_inverses a_N_roots N_p, x_o7 a_t_end a_N t_end_x t_end_y t_end_z, x_o7 a_t_found a_N v1 v2 v3, x_o7 a_t_start a_N v16 v17 v18]) ⟨hx, hb, hml, hown, hts⟩ (tX7_take l D cI a_t_start a_N a_N_inverses a_N_roots t_start_x t_start_y t_start_z N_p 1 0 (-v1) v16 v17 v18 hv16) (cwV 3 hts gX3_span_X7_take rfl rfl rfl (by decide +kernel) ⟨Nat.le_of_ble_eq_true rfl, Nat.le_of_ble_eq_true rfl⟩) hN hK hP hD hS hA [4, 1] [none, some 1, none, none, some 0] rfl rfl rfl rfl rfl rfl 0 rfl rfl rfl hl.1 rfl (Nat.le_of_ble_eq_true rfl) dX3_span_32 ⟨Nat.zero_le _, Nat.zero_le _⟩ (fun H locs hP hD hS => ?_)
    refine lv_aload_n hx hb dX3_span_35 rfl (lv_at hl 0 rfl) ?_
    refine va_get (D := D) (ci := 3) (C := RX3) (T := TX3) (N := 7) hx hb hts iX3 hown hK hP 0 rfl rfl 2 (by decide) l24 (fun _ h9 => h9) rfl dX3_span_36 ?_
    refine lv_iconst (v := 0) hx hb dX3_span_39 (by decide) ?_
    refine lv_iconst (v := 1) hx hb dX3_span_40 (by decide) ?_
    refine lv_aload_n hx hb dX3_span_41 rfl (lv_at hl 0 rfl) ?_
    refine va_get (D := D) (ci := 3) (C := RX3) (T := TX3) (N := 7) hx hb hts iX3 hown hK hP 0 rfl rfl 3 (by decide) l27 (fun _ h9 => h9) rfl dX3_span_42 ?_
    refine va_getN (D := D) (ci := 7) (C := RX7) (T := TX7) (N := 4) hx hb hts iX7 hown hK hP 3 rfl rfl 2 (by decide) (va_Nw.use rfl hN.2.2.2.2.2) (fun _ h9 => h9) rfl dX3_span_45 ?_
    refine lv_ineg hx hb dX3_span_48 ?_
    obtain ⟨v19, v20, v21, hv19, hf⟩ := o_b3 hf
    refine x_vv (rest := []) (W1 := [x_o3 a_t a_N a_t_start a_t_end a_t_found t_count t_lower t_upper, x_o4 a_N a_N_inverses a_N_roots N_p, x_o7 a_t_end a_N v19 v20 v21, x_o7 a_t_found a_N v1 v2 v3, x_o7 a_t_start a_N v16 v17 v18]) ⟨hx, hb, hml, hown, hts⟩ (tX7_take l D cI a_t_end a_N a_N_inverses a_N_roots t_end_x t_end_y t_end_z N_p 0 1 (-v2) v19 v20 v21 hv19) (cwV 3 hts gX3_span_X7_take rfl rfl rfl (by decide +kernel) ⟨Nat.le_of_ble_eq_true rfl, Nat.le_of_ble_eq_true rfl⟩) hN hK hP hD hS hA [2, 1] [none, some 1, some 0, none, none] rfl rfl rfl rfl rfl rfl 0 rfl rfl rfl hl.1 rfl (Nat.le_of_ble_eq_true rfl) dX3_span_49 ⟨Nat.zero_le _, Nat.zero_le _⟩ (fun H locs hP hD hS => ?_)
    refine lv_goto (tgt := 115) hx hb dX3_span_52 (by decide) ?_
    obtain ⟨rfl, rfl, rfl, rfl, rfl, rfl, rfl, rfl, rfl⟩ := o_s9 hf
    exact hret dX3_span_115 hP hD hS
noncomputable def fX3_find (t_count : Int32) (t_lower : Int32) (t_upper : Int32) (b1_a : Int32) (b1_b : Int32) (b1_c : Int32) (b1_d : Int32) (b1_e : Int32) (b1_f : Int32) (N_p : Int32) (N_inverses_r : (Nat → Int32)) (N_roots_r : (Nat → Int32)) (t_end_x : Int32) (t_end_y : Int32) (t_end_z : Int32) (t_found_x : Int32) (t_found_y : Int32) (t_found_z : Int32) (t_start_x : Int32) (t_start_y : Int32) (t_start_z : Int32) (i2 : Int32) : Option (Int32 × Int32 × Int32 × Int32 × Int32 × Int32 × Int32 × Int32 × Int32 × Int32 × Int32 × Int32) :=
  p_b9 (fX3_span N_p t_end_x t_end_y t_end_z t_found_x t_found_y t_found_z t_start_x t_start_y t_start_z i2) (fun v1 v2 v3 v4 v5 v6 v7 v8 v9 =>
p_b1 (fX2_at b1_a b1_b b1_c b1_d b1_e b1_f v7 v8 v9 N_p) (fun v10 =>
p_b1 (fX2_at b1_a b1_b b1_c b1_d b1_e b1_f v1 v2 v3 N_p) (fun v11 =>
p_b1 (fX2_between b1_a b1_b b1_c b1_d b1_e b1_f v7 v8 v9 v1 v2 v3 N_p) (fun v12 =>
if v10 = 0 then (p_b6 (fX3_put 0 t_lower t_upper N_p N_inverses_r v1 v2 v3 v4 v5 v6 v7 v8 v9 1 0) (fun v26 v27 v28 v29 v30 v31 =>
if v12 = 0 then (some (v26, v27, v28, v1, v2, v3, v29, v30, v31, v7, v8, v9)) else (p_b6 (fX3_put v26 v27 v28 N_p N_inverses_r v1 v2 v3 v29 v30 v31 v7 v8 v9 (-v11) (2 * v12)) (fun v32 v33 v34 v35 v36 v37 =>
some (v32, v33, v34, v1, v2, v3, v35, v36, v37, v7, v8, v9))))) else (p_b1 (fX4_rootOf N_p N_roots_r ((v12 * v12) - (v10 * v11))) (fun v13 =>
if v13 = (-6) then (some (0, t_lower, t_upper, v1, v2, v3, v4, v5, v6, v7, v8, v9)) else (p_b6 (fX3_put 0 t_lower t_upper N_p N_inverses_r v1 v2 v3 v4 v5 v6 v7 v8 v9 (v13 - v12) v10) (fun v14 v15 v16 v17 v18 v19 =>
if v13 = 0 then (some (v14, v15, v16, v1, v2, v3, v17, v18, v19, v7, v8, v9)) else (p_b6 (fX3_put v14 v15 v16 N_p N_inverses_r v1 v2 v3 v17 v18 v19 v7 v8 v9 ((-v13) - v12) v10) (fun v20 v21 v22 v23 v24 v25 =>
some (v20, v21, v22, v1, v2, v3, v23, v24, v25, v7, v8, v9)))))))))))
def rmX3_find : Room := { frames := 3, cells := 0, slots := 0, locals := 69 }
set_option maxHeartbeats 4000000 in
set_option maxRecDepth 100000 in
theorem tX3_find (l : Launch) (D : va_G) (cI : ClassId) (a_t : Nat) (a_b1 : Nat) (a_N : Nat) (a_t_start : Nat) (a_t_end : Nat) (a_t_found : Nat) (a_N_inverses : Nat) (a_N_roots : Nat) (t_count : Int32) (t_lower : Int32) (t_upper : Int32) (b1_a : Int32) (b1_b : Int32) (b1_c : Int32) (b1_d : Int32) (b1_e : Int32) (b1_f : Int32) (N_p : Int32) (N_inverses_r : (Nat → Int32)) (N_roots_r : (Nat → Int32)) (t_end_x : Int32) (t_end_y : Int32) (t_end_z : Int32) (t_found_x : Int32) (t_found_y : Int32) (t_found_z : Int32) (t_start_x : Int32) (t_start_y : Int32) (t_start_z : Int32) (i2 : Int32) (s_t_count : Int32) (s_t_lower : Int32) (s_t_upper : Int32) (s_t_end_x : Int32) (s_t_end_y : Int32) (s_t_end_z : Int32) (s_t_found_x : Int32) (s_t_found_y : Int32) (s_t_found_z : Int32) (s_t_start_x : Int32) (s_t_start_y : Int32) (s_t_start_z : Int32) (hf : fX3_find t_count t_lower t_upper b1_a b1_b b1_c b1_d b1_e b1_f N_p N_inverses_r N_roots_r t_end_x t_end_y t_end_z t_found_x t_found_y t_found_z t_start_x t_start_y t_start_z i2 = some (s_t_count, s_t_lower, s_t_upper, s_t_end_x, s_t_end_y, s_t_end_z, s_t_found_x, s_t_found_y, s_t_found_z, s_t_start_x, s_t_start_y, s_t_start_z)) : x_CV l D cI yX3_find wsX3_find rmX3_find [.ref a_t, .ref a_b1, .int i2] [x_o3 a_t a_N a_t_start a_t_end a_t_found t_count t_lower t_upper, x_o2 a_b1 a_N b1_a b1_b b1_c b1_d b1_e b1_f, x_o4 a_N a_N_inverses a_N_roots N_p, x_ar cI a_N_inverses 200 N_inverses_r, x_ar cI a_N_roots 200 N_roots_r, x_o7 a_t_end a_N t_end_x t_end_y t_end_z, x_o7 a_t_found a_N t_found_x t_found_y t_found_z, x_o7 a_t_start a_N t_start_x t_start_y t_start_z] [x_o3 a_t a_N a_t_start a_t_end a_t_found s_t_count s_t_lower s_t_upper, x_o2 a_b1 a_N b1_a b1_b b1_c b1_d b1_e b1_f, x_o4 a_N a_N_inverses a_N_roots N_p, x_ar cI a_N_inverses 200 N_inverses_r, x_ar cI a_N_roots 200 N_roots_r, x_o7 a_t_end a_N s_t_end_x s_t_end_y s_t_end_z, x_o7 a_t_found a_N s_t_found_x s_t_found_y s_t_found_z, x_o7 a_t_start a_N s_t_start_x s_t_start_y s_t_start_z] := by
  refine x_CV_of (cc := cX3_find) (maxL := 7) (own := RX3) (lv0 := [(0, .ref a_t), (1, .ref a_b1), (2, .int i2)]) (by decide) rfl rfl (Nat.le_of_ble_eq_true rfl) rfl ?_
  intro p e s m args below meth c A Q ls hx hb hml hown hts hN hK hP hD hS hA hl hret
  have iX3 : ∀ w ∈ u_ws RX3 TX3 7, w ∈ wsX3_find := by decide +kernel
  have l30 := hts (.fieldLink RX3 30 "ChordRings$Meeting" "count" "I") (by decide +kernel)
  have l20 := hts (.fieldLink RX3 20 "ChordRings$Meeting" "start" "LChordRings$Triple;") (by decide +kernel)
  have l24 := hts (.fieldLink RX3 24 "ChordRings$Meeting" "end" "LChordRings$Triple;") (by decide +kernel)
  have l9 := hts (.fieldLink RX3 9 "ChordRings$Meeting" "numbers" "LChordRings$Numbers;") (by decide +kernel)
  unfold fX3_find at hf
  refine lv_aload_n hx hb dX3_find_0 rfl (lv_at hl 0 rfl) ?_
  refine lv_iconst (v := 0) hx hb dX3_find_1 (by decide) ?_
  refine x_put (W1 := [x_o3 a_t a_N a_t_start a_t_end a_t_found 0 t_lower t_upper, x_o2 a_b1 a_N b1_a b1_b b1_c b1_d b1_e b1_f, x_o4 a_N a_N_inverses a_N_roots N_p, x_ar cI a_N_inverses 200 N_inverses_r, x_ar cI a_N_roots 200 N_roots_r, x_o7 a_t_end a_N t_end_x t_end_y t_end_z, x_o7 a_t_found a_N t_found_x t_found_y t_found_z, x_o7 a_t_start a_N t_start_x t_start_y t_start_z]) (ty := .int) (C := RX3) (T := TX3) (N := 7) hx hb hts iX3 tyX3 tyX3_ok nmX3 hown hK hP hD hS 0 rfl rfl 4 (by decide) l30 rfl rfl (by decide +kernel) rfl rfl (Nat.le_of_ble_eq_true rfl) rfl dX3_find_2 (fun H locs hP hD hS => ?_)
  refine lv_aload_n hx hb dX3_find_5 rfl (lv_at hl 0 rfl) ?_
  refine lv_iload_n hx hb dX3_find_6 rfl (lv_at hl 2 rfl) ?_
  obtain ⟨v1, v2, v3, v4, v5, v6, v7, v8, v9, hv1, hf⟩ := o_b9 hf
  refine x_vv (rest := []) (W1 := [x_o3 a_t a_N a_t_start a_t_end a_t_found 0 t_lower t_upper, x_o2 a_b1 a_N b1_a b1_b b1_c b1_d b1_e b1_f, x_o4 a_N a_N_inverses a_N_roots N_p, x_ar cI a_N_inverses 200 N_inverses_r, x_ar cI a_N_roots 200 N_roots_r, x_o7 a_t_end a_N v1 v2 v3, x_o7 a_t_found a_N v4 v5 v6, x_o7 a_t_start a_N v7 v8 v9]) ⟨hx, hb, hml, hown, hts⟩ (tX3_span l D cI a_t a_N a_t_start a_t_end a_t_found a_N_inverses a_N_roots 0 t_lower t_upper N_p t_end_x t_end_y t_end_z t_found_x t_found_y t_found_z t_start_x t_start_y t_start_z i2 v1 v2 v3 v4 v5 v6 v7 v8 v9 hv1) (cwV 1 hts gX3_find_X3_span rfl rfl rfl (by decide +kernel) ⟨Nat.le_of_ble_eq_true rfl, Nat.le_of_ble_eq_true rfl⟩) hN hK hP hD hS hA [0, 2, 5, 6, 7] [some 0, none, some 1, none, none, some 2, some 3, some 4] rfl rfl rfl rfl rfl rfl 0 rfl rfl rfl hl.1 rfl (Nat.le_of_ble_eq_true rfl) dX3_find_7 ⟨Nat.zero_le _, Nat.zero_le _⟩ (fun H locs hP hD hS => ?_)
  refine lv_aload_n hx hb dX3_find_10 rfl (lv_at hl 1 rfl) ?_
  refine lv_aload_n hx hb dX3_find_11 rfl (lv_at hl 0 rfl) ?_
  refine va_get (D := D) (ci := 3) (C := RX3) (T := TX3) (N := 7) hx hb hts iX3 hown hK hP 0 rfl rfl 1 (by decide) l20 (fun _ h9 => h9) rfl dX3_find_12 ?_
  obtain ⟨v10, hv10, hf⟩ := o_b1 hf
  refine x_vi (rest := []) (W1 := [x_o3 a_t a_N a_t_start a_t_end a_t_found 0 t_lower t_upper, x_o2 a_b1 a_N b1_a b1_b b1_c b1_d b1_e b1_f, x_o4 a_N a_N_inverses a_N_roots N_p, x_ar cI a_N_inverses 200 N_inverses_r, x_ar cI a_N_roots 200 N_roots_r, x_o7 a_t_end a_N v1 v2 v3, x_o7 a_t_found a_N v4 v5 v6, x_o7 a_t_start a_N v7 v8 v9]) ⟨hx, hb, hml, hown, hts⟩ (tX2_at l D cI a_b1 a_t_start a_N a_N_inverses a_N_roots b1_a b1_b b1_c b1_d b1_e b1_f v7 v8 v9 N_p v10 hv10) (cwV 1 hts gX3_find_X2_at rfl rfl rfl (by decide +kernel) ⟨Nat.le_of_ble_eq_true rfl, Nat.le_of_ble_eq_true rfl⟩) hN hK hP hD hS hA [1, 7, 2] [none, some 0, some 2, none, none, none, none, some 1] rfl rfl rfl rfl rfl rfl 0 rfl rfl rfl hl.1 rfl (Nat.le_of_ble_eq_true rfl) dX3_find_15 ⟨Nat.zero_le _, Nat.zero_le _⟩ (fun H locs hP hD hS => ?_)
  refine lv_istore_n (lv' := [(3, .int v10), (0, .ref a_t), (1, .ref a_b1), (2, .int i2)]) hx hb dX3_find_18 rfl hl (by decide) rfl (fun ls hl => ?_)
  refine lv_aload_n hx hb dX3_find_19 rfl (lv_at hl 2 rfl) ?_
  refine lv_aload_n hx hb dX3_find_20 rfl (lv_at hl 1 rfl) ?_
  refine va_get (D := D) (ci := 3) (C := RX3) (T := TX3) (N := 7) hx hb hts iX3 hown hK hP 0 rfl rfl 2 (by decide) l24 (fun _ h9 => h9) rfl dX3_find_21 ?_
  obtain ⟨v11, hv11, hf⟩ := o_b1 hf
  refine x_vi (rest := []) (W1 := [x_o3 a_t a_N a_t_start a_t_end a_t_found 0 t_lower t_upper, x_o2 a_b1 a_N b1_a b1_b b1_c b1_d b1_e b1_f, x_o4 a_N a_N_inverses a_N_roots N_p, x_ar cI a_N_inverses 200 N_inverses_r, x_ar cI a_N_roots 200 N_roots_r, x_o7 a_t_end a_N v1 v2 v3, x_o7 a_t_found a_N v4 v5 v6, x_o7 a_t_start a_N v7 v8 v9]) ⟨hx, hb, hml, hown, hts⟩ (tX2_at l D cI a_b1 a_t_end a_N a_N_inverses a_N_roots b1_a b1_b b1_c b1_d b1_e b1_f v1 v2 v3 N_p v11 hv11) (cwV 1 hts gX3_find_X2_at rfl rfl rfl (by decide +kernel) ⟨Nat.le_of_ble_eq_true rfl, Nat.le_of_ble_eq_true rfl⟩) hN hK hP hD hS hA [1, 5, 2] [none, some 0, some 2, none, none, some 1, none, none] rfl rfl rfl rfl rfl rfl 0 rfl rfl rfl hl.1 rfl (Nat.le_of_ble_eq_true rfl) dX3_find_24 ⟨Nat.zero_le _, Nat.zero_le _⟩ (fun H locs hP hD hS => ?_)
  refine lv_istore (lv' := [(4, .int v11), (3, .int v10), (0, .ref a_t), (1, .ref a_b1), (2, .int i2)]) hx hb dX3_find_27 hl (by decide) rfl (fun ls hl => ?_)
  refine lv_aload_n hx hb dX3_find_29 rfl (lv_at hl 3 rfl) ?_
  refine lv_aload_n hx hb dX3_find_30 rfl (lv_at hl 2 rfl) ?_
  refine va_get (D := D) (ci := 3) (C := RX3) (T := TX3) (N := 7) hx hb hts iX3 hown hK hP 0 rfl rfl 1 (by decide) l20 (fun _ h9 => h9) rfl dX3_find_31 ?_
  refine lv_aload_n hx hb dX3_find_34 rfl (lv_at hl 2 rfl) ?_
  refine va_get (D := D) (ci := 3) (C := RX3) (T := TX3) (N := 7) hx hb hts iX3 hown hK hP 0 rfl rfl 2 (by decide) l24 (fun _ h9 => h9) rfl dX3_find_35 ?_
  obtain ⟨v12, hv12, hf⟩ := o_b1 hf
  refine x_vi (rest := []) (W1 := [x_o3 a_t a_N a_t_start a_t_end a_t_found 0 t_lower t_upper, x_o2 a_b1 a_N b1_a b1_b b1_c b1_d b1_e b1_f, x_o4 a_N a_N_inverses a_N_roots N_p, x_ar cI a_N_inverses 200 N_inverses_r, x_ar cI a_N_roots 200 N_roots_r, x_o7 a_t_end a_N v1 v2 v3, x_o7 a_t_found a_N v4 v5 v6, x_o7 a_t_start a_N v7 v8 v9]) ⟨hx, hb, hml, hown, hts⟩ (tX2_between l D cI a_b1 a_t_start a_t_end a_N a_N_inverses a_N_roots b1_a b1_b b1_c b1_d b1_e b1_f v7 v8 v9 v1 v2 v3 N_p v12 hv12) (cwV 2 hts gX3_find_X2_between rfl rfl rfl (by decide +kernel) ⟨Nat.le_of_ble_eq_true rfl, Nat.le_of_ble_eq_true rfl⟩) hN hK hP hD hS hA [1, 7, 5, 2] [none, some 0, some 3, none, none, some 2, none, some 1] rfl rfl rfl rfl rfl rfl 0 rfl rfl rfl hl.1 rfl (Nat.le_of_ble_eq_true rfl) dX3_find_38 ⟨Nat.zero_le _, Nat.zero_le _⟩ (fun H locs hP hD hS => ?_)
  refine lv_istore (lv' := [(5, .int v12), (4, .int v11), (3, .int v10), (0, .ref a_t), (1, .ref a_b1), (2, .int i2)]) hx hb dX3_find_41 hl (by decide) rfl (fun ls hl => ?_)
  refine lv_iload_n hx hb dX3_find_43 rfl (lv_at hl 2 rfl) ?_
  refine lv_if_ne (tgt := 70) hx hb dX3_find_44 (by decide) (fun hc => ?_) (fun hc => ?_)
  · have hf := o_f hf hc
    refine lv_aload_n hx hb dX3_find_70 rfl (lv_at hl 3 rfl) ?_
    refine va_get (D := D) (ci := 3) (C := RX3) (T := TX3) (N := 7) hx hb hts iX3 hown hK hP 0 rfl rfl 0 (by decide) l9 (fun _ h9 => h9) rfl dX3_find_71 ?_
    refine lv_iload hx hb dX3_find_74 (lv_at hl 0 rfl) ?_
    refine lv_iload hx hb dX3_find_76 (lv_at hl 0 rfl) ?_
    refine lv_imul hx hb dX3_find_78 ?_
    refine lv_iload_n hx hb dX3_find_79 rfl (lv_at hl 2 rfl) ?_
    refine lv_iload hx hb dX3_find_80 (lv_at hl 1 rfl) ?_
    refine lv_imul hx hb dX3_find_82 ?_
    refine lv_isub hx hb dX3_find_83 ?_
    obtain ⟨v13, hv13, hf⟩ := o_b1 hf
    refine x_vi (rest := []) (W1 := [x_o3 a_t a_N a_t_start a_t_end a_t_found 0 t_lower t_upper, x_o2 a_b1 a_N b1_a b1_b b1_c b1_d b1_e b1_f, x_o4 a_N a_N_inverses a_N_roots N_p, x_ar cI a_N_inverses 200 N_inverses_r, x_ar cI a_N_roots 200 N_roots_r, x_o7 a_t_end a_N v1 v2 v3, x_o7 a_t_found a_N v4 v5 v6, x_o7 a_t_start a_N v7 v8 v9]) ⟨hx, hb, hml, hown, hts⟩ (tX4_rootOf l D cI a_N a_N_inverses a_N_roots N_p N_roots_r ((v12 * v12) - (v10 * v11)) v13 hv13) (cwV 1 hts gX3_find_X4_rootOf rfl rfl rfl (by decide +kernel) ⟨Nat.le_of_ble_eq_true rfl, Nat.le_of_ble_eq_true rfl⟩) hN hK hP hD hS hA [2, 4] [none, none, some 0, none, some 1, none, none, none] rfl rfl rfl rfl rfl rfl 0 rfl rfl rfl hl.1 rfl (Nat.le_of_ble_eq_true rfl) dX3_find_84 ⟨Nat.zero_le _, Nat.zero_le _⟩ (fun H locs hP hD hS => ?_)
    refine lv_istore (lv' := [(6, .int v13), (5, .int v12), (4, .int v11), (3, .int v10), (0, .ref a_t), (1, .ref a_b1), (2, .int i2)]) hx hb dX3_find_87 hl (by decide) rfl (fun ls hl => ?_)
    refine lv_iload hx hb dX3_find_89 (lv_at hl 0 rfl) ?_
    refine lv_bipush (v := (-6)) hx hb dX3_find_91 (by decide) ?_
    refine lv_icmp_ne (tgt := 97) hx hb dX3_find_93 (by decide) (fun hc => ?_) (fun hc => ?_)
    · have hf := o_f hf hc
      refine lv_aload_n hx hb dX3_find_97 rfl (lv_at hl 4 rfl) ?_
      refine lv_iload hx hb dX3_find_98 (lv_at hl 0 rfl) ?_
      refine lv_iload hx hb dX3_find_100 (lv_at hl 1 rfl) ?_
      refine lv_isub hx hb dX3_find_102 ?_
      refine lv_iload_n hx hb dX3_find_103 rfl (lv_at hl 3 rfl) ?_
      obtain ⟨v14, v15, v16, v17, v18, v19, hv14, hf⟩ := o_b6 hf
      refine x_vv (rest := []) (W1 := [x_o3 a_t a_N a_t_start a_t_end a_t_found v14 v15 v16, x_o2 a_b1 a_N b1_a b1_b b1_c b1_d b1_e b1_f, x_o4 a_N a_N_inverses a_N_roots N_p, x_ar cI a_N_inverses 200 N_inverses_r, x_ar cI a_N_roots 200 N_roots_r, x_o7 a_t_end a_N v1 v2 v3, x_o7 a_t_found a_N v17 v18 v19, x_o7 a_t_start a_N v7 v8 v9]) ⟨hx, hb, hml, hown, hts⟩ (tX3_put l D cI a_t a_N a_t_start a_t_end a_t_found a_N_inverses a_N_roots 0 t_lower t_upper N_p N_inverses_r v1 v2 v3 v4 v5 v6 v7 v8 v9 (v13 - v12) v10 v14 v15 v16 v17 v18 v19 hv14) (cwV 2 hts gX3_find_X3_put rfl rfl rfl (by decide +kernel) ⟨Nat.le_of_ble_eq_true rfl, Nat.le_of_ble_eq_true rfl⟩) hN hK hP hD hS hA [0, 2, 3, 5, 6, 7] [some 0, none, some 1, some 2, none, some 3, some 4, some 5] rfl rfl rfl rfl rfl rfl 0 rfl rfl rfl hl.1 rfl (Nat.le_of_ble_eq_true rfl) dX3_find_104 ⟨Nat.zero_le _, Nat.zero_le _⟩ (fun H locs hP hD hS => ?_)
      refine lv_iload hx hb dX3_find_107 (lv_at hl 0 rfl) ?_
      refine lv_if_eq (tgt := 123) hx hb dX3_find_109 (by decide) (fun hc => ?_) (fun hc => ?_)
      · have hf := o_t hf hc
        obtain ⟨rfl, rfl, rfl, rfl, rfl, rfl, rfl, rfl, rfl, rfl, rfl, rfl⟩ := o_s12 hf
        exact hret dX3_find_123 hP hD hS
      · have hf := o_f hf hc
        refine lv_aload_n hx hb dX3_find_112 rfl (lv_at hl 4 rfl) ?_
        refine lv_iload hx hb dX3_find_113 (lv_at hl 0 rfl) ?_
        refine lv_ineg hx hb dX3_find_115 ?_
        refine lv_iload hx hb dX3_find_116 (lv_at hl 1 rfl) ?_
        refine lv_isub hx hb dX3_find_118 ?_
        refine lv_iload_n hx hb dX3_find_119 rfl (lv_at hl 3 rfl) ?_
        obtain ⟨v20, v21, v22, v23, v24, v25, hv20, hf⟩ := o_b6 hf
        refine x_vv (rest := []) (W1 := [x_o3 a_t a_N a_t_start a_t_end a_t_found v20 v21 v22, x_o2 a_b1 a_N b1_a b1_b b1_c b1_d b1_e b1_f, x_o4 a_N a_N_inverses a_N_roots N_p, x_ar cI a_N_inverses 200 N_inverses_r, x_ar cI a_N_roots 200 N_roots_r, x_o7 a_t_end a_N v1 v2 v3, x_o7 a_t_found a_N v23 v24 v25, x_o7 a_t_start a_N v7 v8 v9]) ⟨hx, hb, hml, hown, hts⟩ (tX3_put l D cI a_t a_N a_t_start a_t_end a_t_found a_N_inverses a_N_roots v14 v15 v16 N_p N_inverses_r v1 v2 v3 v17 v18 v19 v7 v8 v9 ((-v13) - v12) v10 v20 v21 v22 v23 v24 v25 hv20) (cwV 2 hts gX3_find_X3_put rfl rfl rfl (by decide +kernel) ⟨Nat.le_of_ble_eq_true rfl, Nat.le_of_ble_eq_true rfl⟩) hN hK hP hD hS hA [0, 2, 3, 5, 6, 7] [some 0, none, some 1, some 2, none, some 3, some 4, some 5] rfl rfl rfl rfl rfl rfl 0 rfl rfl rfl hl.1 rfl (Nat.le_of_ble_eq_true rfl) dX3_find_120 ⟨Nat.zero_le _, Nat.zero_le _⟩ (fun H locs hP hD hS => ?_)
        obtain ⟨rfl, rfl, rfl, rfl, rfl, rfl, rfl, rfl, rfl, rfl, rfl, rfl⟩ := o_s12 hf
        exact hret dX3_find_123 hP hD hS
    · have hf := o_t hf hc
      obtain ⟨rfl, rfl, rfl, rfl, rfl, rfl, rfl, rfl, rfl, rfl, rfl, rfl⟩ := o_s12 hf
      exact hret dX3_find_96 hP hD hS
  · have hf := o_t hf hc
    refine lv_aload_n hx hb dX3_find_47 rfl (lv_at hl 3 rfl) ?_
    refine lv_iconst (v := 1) hx hb dX3_find_48 (by decide) ?_
    refine lv_iconst (v := 0) hx hb dX3_find_49 (by decide) ?_
    obtain ⟨v26, v27, v28, v29, v30, v31, hv26, hf⟩ := o_b6 hf
    refine x_vv (rest := []) (W1 := [x_o3 a_t a_N a_t_start a_t_end a_t_found v26 v27 v28, x_o2 a_b1 a_N b1_a b1_b b1_c b1_d b1_e b1_f, x_o4 a_N a_N_inverses a_N_roots N_p, x_ar cI a_N_inverses 200 N_inverses_r, x_ar cI a_N_roots 200 N_roots_r, x_o7 a_t_end a_N v1 v2 v3, x_o7 a_t_found a_N v29 v30 v31, x_o7 a_t_start a_N v7 v8 v9]) ⟨hx, hb, hml, hown, hts⟩ (tX3_put l D cI a_t a_N a_t_start a_t_end a_t_found a_N_inverses a_N_roots 0 t_lower t_upper N_p N_inverses_r v1 v2 v3 v4 v5 v6 v7 v8 v9 1 0 v26 v27 v28 v29 v30 v31 hv26) (cwV 2 hts gX3_find_X3_put rfl rfl rfl (by decide +kernel) ⟨Nat.le_of_ble_eq_true rfl, Nat.le_of_ble_eq_true rfl⟩) hN hK hP hD hS hA [0, 2, 3, 5, 6, 7] [some 0, none, some 1, some 2, none, some 3, some 4, some 5] rfl rfl rfl rfl rfl rfl 0 rfl rfl rfl hl.1 rfl (Nat.le_of_ble_eq_true rfl) dX3_find_50 ⟨Nat.zero_le _, Nat.zero_le _⟩ (fun H locs hP hD hS => ?_)
    refine lv_iload hx hb dX3_find_53 (lv_at hl 0 rfl) ?_
    refine lv_if_eq (tgt := 69) hx hb dX3_find_55 (by decide) (fun hc => ?_) (fun hc => ?_)
    · have hf := o_t hf hc
      obtain ⟨rfl, rfl, rfl, rfl, rfl, rfl, rfl, rfl, rfl, rfl, rfl, rfl⟩ := o_s12 hf
      exact hret dX3_find_69 hP hD hS
    · have hf := o_f hf hc
      refine lv_aload_n hx hb dX3_find_58 rfl (lv_at hl 3 rfl) ?_
      refine lv_iload hx hb dX3_find_59 (lv_at hl 1 rfl) ?_
      refine lv_ineg hx hb dX3_find_61 ?_
      refine lv_iconst (v := 2) hx hb dX3_find_62 (by decide) ?_
      refine lv_iload hx hb dX3_find_63 (lv_at hl 0 rfl) ?_
      refine lv_imul hx hb dX3_find_65 ?_
      obtain ⟨v32, v33, v34, v35, v36, v37, hv32, hf⟩ := o_b6 hf
      refine x_vv (rest := []) (W1 := [x_o3 a_t a_N a_t_start a_t_end a_t_found v32 v33 v34, x_o2 a_b1 a_N b1_a b1_b b1_c b1_d b1_e b1_f, x_o4 a_N a_N_inverses a_N_roots N_p, x_ar cI a_N_inverses 200 N_inverses_r, x_ar cI a_N_roots 200 N_roots_r, x_o7 a_t_end a_N v1 v2 v3, x_o7 a_t_found a_N v35 v36 v37, x_o7 a_t_start a_N v7 v8 v9]) ⟨hx, hb, hml, hown, hts⟩ (tX3_put l D cI a_t a_N a_t_start a_t_end a_t_found a_N_inverses a_N_roots v26 v27 v28 N_p N_inverses_r v1 v2 v3 v29 v30 v31 v7 v8 v9 (-v11) (2 * v12) v32 v33 v34 v35 v36 v37 hv32) (cwV 2 hts gX3_find_X3_put rfl rfl rfl (by decide +kernel) ⟨Nat.le_of_ble_eq_true rfl, Nat.le_of_ble_eq_true rfl⟩) hN hK hP hD hS hA [0, 2, 3, 5, 6, 7] [some 0, none, some 1, some 2, none, some 3, some 4, some 5] rfl rfl rfl rfl rfl rfl 0 rfl rfl rfl hl.1 rfl (Nat.le_of_ble_eq_true rfl) dX3_find_66 ⟨Nat.zero_le _, Nat.zero_le _⟩ (fun H locs hP hD hS => ?_)
      obtain ⟨rfl, rfl, rfl, rfl, rfl, rfl, rfl, rfl, rfl, rfl, rfl, rfl⟩ := o_s12 hf
      exact hret dX3_find_69 hP hD hS
def fX3_keyAt (t_lower : Int32) (t_upper : Int32) (i1 : Int32) : Option (Int32) :=
  if i1 = 0 then (some t_lower) else (some t_upper)
def rmX3_keyAt : Room := { frames := 0, cells := 0, slots := 0, locals := 0 }
set_option maxHeartbeats 4000000 in
set_option maxRecDepth 100000 in
theorem tX3_keyAt (l : Launch) (D : va_G) (cI : ClassId) (a_t : Nat) (a_N : Nat) (a_t_start : Nat) (a_t_end : Nat) (a_t_found : Nat) (t_count : Int32) (t_lower : Int32) (t_upper : Int32) (i1 : Int32) (r : Int32) (hf : fX3_keyAt t_lower t_upper i1 = some r) : x_CI l D cI yX3_keyAt wsX3_keyAt rmX3_keyAt [.ref a_t, .int i1] [x_o3 a_t a_N a_t_start a_t_end a_t_found t_count t_lower t_upper] [x_o3 a_t a_N a_t_start a_t_end a_t_found t_count t_lower t_upper] r := by
  refine x_CI_of (cc := cX3_keyAt) (maxL := 2) (ty := .int) (own := RX3) (lv0 := [(0, .ref a_t), (1, .int i1)]) (by decide) rfl rfl (Nat.le_of_ble_eq_true rfl) rfl ?_
  intro p e s m args below meth c A Q ls hx hb hml hown hts hN hK hP hD hS hA hl hret
  have iX3 : ∀ w ∈ u_ws RX3 TX3 7, w ∈ wsX3_keyAt := by decide +kernel
  have l61 := hts (.fieldLink RX3 61 "ChordRings$Meeting" "upper" "I") (by decide +kernel)
  have l58 := hts (.fieldLink RX3 58 "ChordRings$Meeting" "lower" "I") (by decide +kernel)
  unfold fX3_keyAt at hf
  refine lv_iload_n hx hb dX3_keyAt_0 rfl (lv_at hl 1 rfl) ?_
  refine lv_if_ne (tgt := 11) hx hb dX3_keyAt_1 (by decide) (fun hc => ?_) (fun hc => ?_)
  · have hf := o_f hf hc
    refine lv_aload_n hx hb dX3_keyAt_11 rfl (lv_at hl 0 rfl) ?_
    refine va_get (D := D) (ci := 3) (C := RX3) (T := TX3) (N := 7) hx hb hts iX3 hown hK hP 0 rfl rfl 6 (by decide) l61 (fun _ h9 => h9) rfl dX3_keyAt_12 ?_
    obtain rfl := Option.some.inj hf
    exact hret rfl rfl dX3_keyAt_15 hP hD hS
  · have hf := o_t hf hc
    refine lv_aload_n hx hb dX3_keyAt_4 rfl (lv_at hl 0 rfl) ?_
    refine va_get (D := D) (ci := 3) (C := RX3) (T := TX3) (N := 7) hx hb hts iX3 hown hK hP 0 rfl rfl 5 (by decide) l58 (fun _ h9 => h9) rfl dX3_keyAt_5 ?_
    refine lv_goto (tgt := 15) hx hb dX3_keyAt_8 (by decide) ?_
    obtain rfl := Option.some.inj hf
    exact hret rfl rfl dX3_keyAt_15 hP hD hS
def fX3_size (t_count : Int32) : Option (Int32) :=
  some t_count
def rmX3_size : Room := { frames := 0, cells := 0, slots := 0, locals := 0 }
set_option maxHeartbeats 4000000 in
set_option maxRecDepth 100000 in
theorem tX3_size (l : Launch) (D : va_G) (cI : ClassId) (a_t : Nat) (a_N : Nat) (a_t_start : Nat) (a_t_end : Nat) (a_t_found : Nat) (t_count : Int32) (t_lower : Int32) (t_upper : Int32) (r : Int32) (hf : fX3_size t_count = some r) : x_CI l D cI yX3_size wsX3_size rmX3_size [.ref a_t] [x_o3 a_t a_N a_t_start a_t_end a_t_found t_count t_lower t_upper] [x_o3 a_t a_N a_t_start a_t_end a_t_found t_count t_lower t_upper] r := by
  refine x_CI_of (cc := cX3_size) (maxL := 1) (ty := .int) (own := RX3) (lv0 := [(0, .ref a_t)]) (by decide) rfl rfl (Nat.le_of_ble_eq_true rfl) rfl ?_
  intro p e s m args below meth c A Q ls hx hb hml hown hts hN hK hP hD hS hA hl hret
  have iX3 : ∀ w ∈ u_ws RX3 TX3 7, w ∈ wsX3_size := by decide +kernel
  have l30 := hts (.fieldLink RX3 30 "ChordRings$Meeting" "count" "I") (by decide +kernel)
  unfold fX3_size at hf
  refine lv_aload_n hx hb dX3_size_0 rfl (lv_at hl 0 rfl) ?_
  refine va_get (D := D) (ci := 3) (C := RX3) (T := TX3) (N := 7) hx hb hts iX3 hown hK hP 0 rfl rfl 4 (by decide) l30 (fun _ h9 => h9) rfl dX3_size_1 ?_
  obtain rfl := Option.some.inj hf
  exact hret rfl rfl dX3_size_4 hP hD hS
noncomputable def kX5_findFlags_111 (t_pointCount : Int32) (y18 : Int32) (w19 : (Nat → Int32)) (w20 : (Nat → Int32)) (w21 : (Nat → Int32)) (y22 : Int32) (y23 : Int32) (y24 : Int32) (y25 : Int32) (y26 : Int32) (y27 : Int32) (y28 : Int32) (y29 : Int32) (y30 : Int32) (y31 : Int32) (y32 : Int32) (y33 : Int32) : Option (Int32 × (Nat → Int32) × (Nat → Int32) × (Nat → Int32) × Int32 × Int32 × Int32 × Int32 × Int32 × Int32 × Int32 × Int32 × Int32 × Int32 × Int32 × Int32) :=
  p_b1 (p_st w19 201 t_pointCount y18) (fun u34 =>
some (y18, u34, w20, w21, y22, y23, y24, y25, y26, y27, y28, y29, y30, y31, y32, y33))
noncomputable def kX5_findFlags_105 (x1 : Int32) (rec7 : Int32 → Int32 → (Nat → Int32) → (Nat → Int32) → (Nat → Int32) → Int32 → Int32 → Int32 → Int32 → Int32 → Int32 → Int32 → Int32 → Int32 → Int32 → Int32 → Int32 → Option (Int32 × (Nat → Int32) × (Nat → Int32) × (Nat → Int32) × Int32 × Int32 × Int32 × Int32 × Int32 × Int32 × Int32 × Int32 × Int32 × Int32 × Int32 × Int32)) (u35 : (Nat → Int32)) (v37 : Int32) (v38 : Int32) (v39 : Int32) (v40 : Int32) (v41 : Int32) (v42 : Int32) (v43 : Int32) (v44 : Int32) (v45 : Int32) (v46 : Int32) (v47 : Int32) (v48 : Int32) (y54 : Int32) (w55 : (Nat → Int32)) (w56 : (Nat → Int32)) : Option (Int32 × (Nat → Int32) × (Nat → Int32) × (Nat → Int32) × Int32 × Int32 × Int32 × Int32 × Int32 × Int32 × Int32 × Int32 × Int32 × Int32 × Int32 × Int32) :=
  p_nm (x1 + 1) (fun v57 =>
rec7 v57 y54 u35 w55 w56 v37 v38 v39 v40 v41 v42 v43 v44 v45 v46 v47 v48)
noncomputable def FgX5_findFlags_41 (x1 : Int32) (v37 : Int32) (v38 : Int32) (v39 : Int32) (rec41 : Int32 → Int32 → (Nat → Int32) → (Nat → Int32) → Option (Int32 × (Nat → Int32) × (Nat → Int32) × (Nat → Int32) × Int32 × Int32 × Int32 × Int32 × Int32 × Int32 × Int32 × Int32 × Int32 × Int32 × Int32 × Int32)) (kk41 : Int32 → (Nat → Int32) → (Nat → Int32) → Option (Int32 × (Nat → Int32) × (Nat → Int32) × (Nat → Int32) × Int32 × Int32 × Int32 × Int32 × Int32 × Int32 × Int32 × Int32 × Int32 × Int32 × Int32 × Int32)) (x49 : Int32) (x50 : Int32) (z51 : (Nat → Int32)) (z52 : (Nat → Int32)) : Option (Int32 × (Nat → Int32) × (Nat → Int32) × (Nat → Int32) × Int32 × Int32 × Int32 × Int32 × Int32 × Int32 × Int32 × Int32 × Int32 × Int32 × Int32 × Int32) :=
  p_b1 (fX3_size v37) (fun v53 =>
if v53 ≤ x49 then (kk41 x50 z51 z52) else (if 400 ≤ x50 then (kk41 x50 z51 z52) else (p_b1 (p_st z52 400 x50 x1) (fun u58 =>
p_b1 (fX3_keyAt v38 v39 x49) (fun v59 =>
p_b1 (p_st z51 400 x50 v59) (fun u60 =>
p_nm (x50 + 1) (fun v61 =>
p_nm (x49 + 1) (fun v62 =>
rec41 v62 v61 u60 u58))))))))
noncomputable def gX5_findFlags_41 (x1 : Int32) (v37 : Int32) (v38 : Int32) (v39 : Int32) (kk41 : Int32 → (Nat → Int32) → (Nat → Int32) → Option (Int32 × (Nat → Int32) × (Nat → Int32) × (Nat → Int32) × Int32 × Int32 × Int32 × Int32 × Int32 × Int32 × Int32 × Int32 × Int32 × Int32 × Int32 × Int32)) (n : Nat) : Int32 → Int32 → (Nat → Int32) → (Nat → Int32) → Option (Int32 × (Nat → Int32) × (Nat → Int32) × (Nat → Int32) × Int32 × Int32 × Int32 × Int32 × Int32 × Int32 × Int32 × Int32 × Int32 × Int32 × Int32 × Int32) := Nat.rec (motive := fun _ => Int32 → Int32 → (Nat → Int32) → (Nat → Int32) → Option (Int32 × (Nat → Int32) × (Nat → Int32) × (Nat → Int32) × Int32 × Int32 × Int32 × Int32 × Int32 × Int32 × Int32 × Int32 × Int32 × Int32 × Int32 × Int32)) (fun _ _ _ _ => none) (fun _ rec41 => FgX5_findFlags_41 x1 v37 v38 v39 rec41 kk41) n
noncomputable def FgX5_findFlags_7 (t_pointCount : Int32) (b1_a : Int32) (b1_b : Int32) (b1_c : Int32) (b1_d : Int32) (b1_e : Int32) (b1_f : Int32) (N_p : Int32) (N_inverses_r : (Nat → Int32)) (N_roots_r : (Nat → Int32)) (t_pointKeys_r : (Nat → Int32)) (rec7 : Int32 → Int32 → (Nat → Int32) → (Nat → Int32) → (Nat → Int32) → Int32 → Int32 → Int32 → Int32 → Int32 → Int32 → Int32 → Int32 → Int32 → Int32 → Int32 → Int32 → Option (Int32 × (Nat → Int32) × (Nat → Int32) × (Nat → Int32) × Int32 × Int32 × Int32 × Int32 × Int32 × Int32 × Int32 × Int32 × Int32 × Int32 × Int32 × Int32)) (kk7 : Int32 → (Nat → Int32) → (Nat → Int32) → (Nat → Int32) → Int32 → Int32 → Int32 → Int32 → Int32 → Int32 → Int32 → Int32 → Int32 → Int32 → Int32 → Int32 → Option (Int32 × (Nat → Int32) × (Nat → Int32) × (Nat → Int32) × Int32 × Int32 × Int32 × Int32 × Int32 × Int32 × Int32 × Int32 × Int32 × Int32 × Int32 × Int32)) (x1 : Int32) (x2 : Int32) (z3 : (Nat → Int32)) (z4 : (Nat → Int32)) (z5 : (Nat → Int32)) (x6 : Int32) (x7 : Int32) (x8 : Int32) (x9 : Int32) (x10 : Int32) (x11 : Int32) (x12 : Int32) (x13 : Int32) (x14 : Int32) (x15 : Int32) (x16 : Int32) (x17 : Int32) : Option (Int32 × (Nat → Int32) × (Nat → Int32) × (Nat → Int32) × Int32 × Int32 × Int32 × Int32 × Int32 × Int32 × Int32 × Int32 × Int32 × Int32 × Int32 × Int32) :=
  if t_pointCount ≤ x1 then (kk7 x2 z3 z4 z5 x6 x7 x8 x9 x10 x11 x12 x13 x14 x15 x16 x17) else (p_b1 (p_st z3 201 x1 x2) (fun u35 =>
p_b1 (p_ld t_pointKeys_r 200 x1) (fun v36 =>
p_b12 (fX3_find x6 x7 x8 b1_a b1_b b1_c b1_d b1_e b1_f N_p N_inverses_r N_roots_r x9 x10 x11 x12 x13 x14 x15 x16 x17 v36) (fun v37 v38 v39 v40 v41 v42 v43 v44 v45 v46 v47 v48 =>
gX5_findFlags_41 x1 v37 v38 v39 (kX5_findFlags_105 x1 rec7 u35 v37 v38 v39 v40 v41 v42 v43 v44 v45 v46 v47 v48) p_FU 0 x2 z4 z5))))
noncomputable def gX5_findFlags_7 (t_pointCount : Int32) (b1_a : Int32) (b1_b : Int32) (b1_c : Int32) (b1_d : Int32) (b1_e : Int32) (b1_f : Int32) (N_p : Int32) (N_inverses_r : (Nat → Int32)) (N_roots_r : (Nat → Int32)) (t_pointKeys_r : (Nat → Int32)) (kk7 : Int32 → (Nat → Int32) → (Nat → Int32) → (Nat → Int32) → Int32 → Int32 → Int32 → Int32 → Int32 → Int32 → Int32 → Int32 → Int32 → Int32 → Int32 → Int32 → Option (Int32 × (Nat → Int32) × (Nat → Int32) × (Nat → Int32) × Int32 × Int32 × Int32 × Int32 × Int32 × Int32 × Int32 × Int32 × Int32 × Int32 × Int32 × Int32)) (n : Nat) : Int32 → Int32 → (Nat → Int32) → (Nat → Int32) → (Nat → Int32) → Int32 → Int32 → Int32 → Int32 → Int32 → Int32 → Int32 → Int32 → Int32 → Int32 → Int32 → Int32 → Option (Int32 × (Nat → Int32) × (Nat → Int32) × (Nat → Int32) × Int32 × Int32 × Int32 × Int32 × Int32 × Int32 × Int32 × Int32 × Int32 × Int32 × Int32 × Int32) := Nat.rec (motive := fun _ => Int32 → Int32 → (Nat → Int32) → (Nat → Int32) → (Nat → Int32) → Int32 → Int32 → Int32 → Int32 → Int32 → Int32 → Int32 → Int32 → Int32 → Int32 → Int32 → Int32 → Option (Int32 × (Nat → Int32) × (Nat → Int32) × (Nat → Int32) × Int32 × Int32 × Int32 × Int32 × Int32 × Int32 × Int32 × Int32 × Int32 × Int32 × Int32 × Int32)) (fun _ _ _ _ _ _ _ _ _ _ _ _ _ _ _ _ _ => none) (fun _ rec7 => FgX5_findFlags_7 t_pointCount b1_a b1_b b1_c b1_d b1_e b1_f N_p N_inverses_r N_roots_r t_pointKeys_r rec7 kk7) n
noncomputable def fX5_findFlags (t_flagCount : Int32) (t_pointCount : Int32) (b1_a : Int32) (b1_b : Int32) (b1_c : Int32) (b1_d : Int32) (b1_e : Int32) (b1_f : Int32) (N_p : Int32) (N_inverses_r : (Nat → Int32)) (N_roots_r : (Nat → Int32)) (t_firstFlags_r : (Nat → Int32)) (t_flagLines_r : (Nat → Int32)) (t_flagPoints_r : (Nat → Int32)) (t_meeting_count : Int32) (t_meeting_lower : Int32) (t_meeting_upper : Int32) (t_meeting_end_x : Int32) (t_meeting_end_y : Int32) (t_meeting_end_z : Int32) (t_meeting_found_x : Int32) (t_meeting_found_y : Int32) (t_meeting_found_z : Int32) (t_meeting_start_x : Int32) (t_meeting_start_y : Int32) (t_meeting_start_z : Int32) (t_pointKeys_r : (Nat → Int32)) : Option (Int32 × (Nat → Int32) × (Nat → Int32) × (Nat → Int32) × Int32 × Int32 × Int32 × Int32 × Int32 × Int32 × Int32 × Int32 × Int32 × Int32 × Int32 × Int32) :=
  gX5_findFlags_7 t_pointCount b1_a b1_b b1_c b1_d b1_e b1_f N_p N_inverses_r N_roots_r t_pointKeys_r (kX5_findFlags_111 t_pointCount) p_FU 0 0 t_firstFlags_r t_flagLines_r t_flagPoints_r t_meeting_count t_meeting_lower t_meeting_upper t_meeting_end_x t_meeting_end_y t_meeting_end_z t_meeting_found_x t_meeting_found_y t_meeting_found_z t_meeting_start_x t_meeting_start_y t_meeting_start_z
def rmX5_findFlags : Room := { frames := 4, cells := 0, slots := 0, locals := 95 }
set_option maxHeartbeats 4000000 in
set_option maxRecDepth 100000 in
theorem tX5_findFlags (l : Launch) (D : va_G) (cI : ClassId) (a_t : Nat) (a_b1 : Nat) (a_N : Nat) (a_t_meeting : Nat) (a_t_level : Nat) (a_t_pointKeys : Nat) (a_t_firstFlags : Nat) (a_t_flagPoints : Nat) (a_t_flagLines : Nat) (a_t_nexts : Nat) (a_t_befores : Nat) (a_t_walk : Nat) (a_t_places : Nat) (a_t_ringStarts : Nat) (a_t_ringSizes : Nat) (a_N_inverses : Nat) (a_N_roots : Nat) (a_t_meeting_start : Nat) (a_t_meeting_end : Nat) (a_t_meeting_found : Nat) (t_pointCount : Int32) (t_flagCount : Int32) (t_ringCount : Int32) (b1_a : Int32) (b1_b : Int32) (b1_c : Int32) (b1_d : Int32) (b1_e : Int32) (b1_f : Int32) (N_p : Int32) (N_inverses_r : (Nat → Int32)) (N_roots_r : (Nat → Int32)) (t_firstFlags_r : (Nat → Int32)) (t_flagLines_r : (Nat → Int32)) (t_flagPoints_r : (Nat → Int32)) (t_meeting_count : Int32) (t_meeting_lower : Int32) (t_meeting_upper : Int32) (t_meeting_end_x : Int32) (t_meeting_end_y : Int32) (t_meeting_end_z : Int32) (t_meeting_found_x : Int32) (t_meeting_found_y : Int32) (t_meeting_found_z : Int32) (t_meeting_start_x : Int32) (t_meeting_start_y : Int32) (t_meeting_start_z : Int32) (t_pointKeys_r : (Nat → Int32)) (s_t_flagCount : Int32) (s_t_firstFlags_r : (Nat → Int32)) (s_t_flagLines_r : (Nat → Int32)) (s_t_flagPoints_r : (Nat → Int32)) (s_t_meeting_count : Int32) (s_t_meeting_lower : Int32) (s_t_meeting_upper : Int32) (s_t_meeting_end_x : Int32) (s_t_meeting_end_y : Int32) (s_t_meeting_end_z : Int32) (s_t_meeting_found_x : Int32) (s_t_meeting_found_y : Int32) (s_t_meeting_found_z : Int32) (s_t_meeting_start_x : Int32) (s_t_meeting_start_y : Int32) (s_t_meeting_start_z : Int32) (hf : fX5_findFlags t_flagCount t_pointCount b1_a b1_b b1_c b1_d b1_e b1_f N_p N_inverses_r N_roots_r t_firstFlags_r t_flagLines_r t_flagPoints_r t_meeting_count t_meeting_lower t_meeting_upper t_meeting_end_x t_meeting_end_y t_meeting_end_z t_meeting_found_x t_meeting_found_y t_meeting_found_z t_meeting_start_x t_meeting_start_y t_meeting_start_z t_pointKeys_r = some (s_t_flagCount, s_t_firstFlags_r, s_t_flagLines_r, s_t_flagPoints_r, s_t_meeting_count, s_t_meeting_lower, s_t_meeting_upper, s_t_meeting_end_x, s_t_meeting_end_y, s_t_meeting_end_z, s_t_meeting_found_x, s_t_meeting_found_y, s_t_meeting_found_z, s_t_meeting_start_x, s_t_meeting_start_y, s_t_meeting_start_z)) : x_CV l D cI yX5_findFlags wsX5_findFlags rmX5_findFlags [.ref a_t, .ref a_b1] [x_o5 a_t a_N a_t_meeting a_t_level a_t_pointKeys a_t_firstFlags a_t_flagPoints a_t_flagLines a_t_nexts a_t_befores a_t_walk a_t_places a_t_ringStarts a_t_ringSizes t_pointCount t_flagCount t_ringCount, x_o2 a_b1 a_N b1_a b1_b b1_c b1_d b1_e b1_f, x_o4 a_N a_N_inverses a_N_roots N_p, x_ar cI a_N_inverses 200 N_inverses_r, x_ar cI a_N_roots 200 N_roots_r, x_ar cI a_t_firstFlags 201 t_firstFlags_r, x_ar cI a_t_flagLines 400 t_flagLines_r, x_ar cI a_t_flagPoints 400 t_flagPoints_r, x_o3 a_t_meeting a_N a_t_meeting_start a_t_meeting_end a_t_meeting_found t_meeting_count t_meeting_lower t_meeting_upper, x_o7 a_t_meeting_end a_N t_meeting_end_x t_meeting_end_y t_meeting_end_z, x_o7 a_t_meeting_found a_N t_meeting_found_x t_meeting_found_y t_meeting_found_z, x_o7 a_t_meeting_start a_N t_meeting_start_x t_meeting_start_y t_meeting_start_z, x_ar cI a_t_pointKeys 200 t_pointKeys_r] [x_o5 a_t a_N a_t_meeting a_t_level a_t_pointKeys a_t_firstFlags a_t_flagPoints a_t_flagLines a_t_nexts a_t_befores a_t_walk a_t_places a_t_ringStarts a_t_ringSizes t_pointCount s_t_flagCount t_ringCount, x_o2 a_b1 a_N b1_a b1_b b1_c b1_d b1_e b1_f, x_o4 a_N a_N_inverses a_N_roots N_p, x_ar cI a_N_inverses 200 N_inverses_r, x_ar cI a_N_roots 200 N_roots_r, x_ar cI a_t_firstFlags 201 s_t_firstFlags_r, x_ar cI a_t_flagLines 400 s_t_flagLines_r, x_ar cI a_t_flagPoints 400 s_t_flagPoints_r, x_o3 a_t_meeting a_N a_t_meeting_start a_t_meeting_end a_t_meeting_found s_t_meeting_count s_t_meeting_lower s_t_meeting_upper, x_o7 a_t_meeting_end a_N s_t_meeting_end_x s_t_meeting_end_y s_t_meeting_end_z, x_o7 a_t_meeting_found a_N s_t_meeting_found_x s_t_meeting_found_y s_t_meeting_found_z, x_o7 a_t_meeting_start a_N s_t_meeting_start_x s_t_meeting_start_y s_t_meeting_start_z, x_ar cI a_t_pointKeys 200 t_pointKeys_r] := by
  refine x_CV_of (cc := cX5_findFlags) (maxL := 4) (own := RX5) (lv0 := [(0, .ref a_t), (1, .ref a_b1)]) (by decide) rfl rfl (Nat.le_of_ble_eq_true rfl) rfl ?_
  intro p e s m args below meth c A Q ls hx hb hml hown hts hN hK hP hD hS hA hl hret
  have iX5 : ∀ w ∈ u_ws RX5 TX5 16, w ∈ wsX5_findFlags := by decide +kernel
  have l66 := hts (.fieldLink RX5 66 "ChordRings$Rings" "flagCount" "I") (by decide +kernel)
  have l62 := hts (.fieldLink RX5 62 "ChordRings$Rings" "pointCount" "I") (by decide +kernel)
  have l15 := hts (.fieldLink RX5 15 "ChordRings$Rings" "firstFlags" "[I") (by decide +kernel)
  have l51 := hts (.fieldLink RX5 51 "ChordRings$Rings" "meeting" "LChordRings$Meeting;") (by decide +kernel)
  have l11 := hts (.fieldLink RX5 11 "ChordRings$Rings" "pointKeys" "[I") (by decide +kernel)
  have l18 := hts (.fieldLink RX5 18 "ChordRings$Rings" "flagPoints" "[I") (by decide +kernel)
  have l21 := hts (.fieldLink RX5 21 "ChordRings$Rings" "flagLines" "[I") (by decide +kernel)
  unfold fX5_findFlags at hf
  refine lv_aload_n hx hb dX5_findFlags_0 rfl (lv_at hl 0 rfl) ?_
  refine lv_iconst (v := 0) hx hb dX5_findFlags_1 (by decide) ?_
  refine x_put (W1 := [x_o5 a_t a_N a_t_meeting a_t_level a_t_pointKeys a_t_firstFlags a_t_flagPoints a_t_flagLines a_t_nexts a_t_befores a_t_walk a_t_places a_t_ringStarts a_t_ringSizes t_pointCount 0 t_ringCount, x_o2 a_b1 a_N b1_a b1_b b1_c b1_d b1_e b1_f, x_o4 a_N a_N_inverses a_N_roots N_p, x_ar cI a_N_inverses 200 N_inverses_r, x_ar cI a_N_roots 200 N_roots_r, x_ar cI a_t_firstFlags 201 t_firstFlags_r, x_ar cI a_t_flagLines 400 t_flagLines_r, x_ar cI a_t_flagPoints 400 t_flagPoints_r, x_o3 a_t_meeting a_N a_t_meeting_start a_t_meeting_end a_t_meeting_found t_meeting_count t_meeting_lower t_meeting_upper, x_o7 a_t_meeting_end a_N t_meeting_end_x t_meeting_end_y t_meeting_end_z, x_o7 a_t_meeting_found a_N t_meeting_found_x t_meeting_found_y t_meeting_found_z, x_o7 a_t_meeting_start a_N t_meeting_start_x t_meeting_start_y t_meeting_start_z, x_ar cI a_t_pointKeys 200 t_pointKeys_r]) (ty := .int) (C := RX5) (T := TX5) (N := 16) hx hb hts iX5 tyX5 tyX5_ok nmX5 hown hK hP hD hS 0 rfl rfl 14 (by decide) l66 rfl rfl (by decide +kernel) rfl rfl (Nat.le_of_ble_eq_true rfl) rfl dX5_findFlags_2 (fun H locs hP hD hS => ?_)
  refine lv_iconst (v := 0) hx hb dX5_findFlags_5 (by decide) ?_
  refine lv_istore_n (lv' := [(2, .int 0), (0, .ref a_t), (1, .ref a_b1)]) hx hb dX5_findFlags_6 rfl hl (by decide) rfl (fun ls hl => ?_)
  have L7 : ∀ (n : Nat) (x1 : Int32) (x2 : Int32) (z3 : (Nat → Int32)) (z4 : (Nat → Int32)) (z5 : (Nat → Int32)) (x6 : Int32) (x7 : Int32) (x8 : Int32) (x9 : Int32) (x10 : Int32) (x11 : Int32) (x12 : Int32) (x13 : Int32) (x14 : Int32) (x15 : Int32) (x16 : Int32) (x17 : Int32) (ls : Array Slot) (H : Heap) (locs : List Loc), gX5_findFlags_7 t_pointCount b1_a b1_b b1_c b1_d b1_e b1_f N_p N_inverses_r N_roots_r t_pointKeys_r (kX5_findFlags_111 t_pointCount) n x1 x2 z3 z4 z5 x6 x7 x8 x9 x10 x11 x12 x13 x14 x15 x16 x17 = some (s_t_flagCount, s_t_firstFlags_r, s_t_flagLines_r, s_t_flagPoints_r, s_t_meeting_count, s_t_meeting_lower, s_t_meeting_upper, s_t_meeting_end_x, s_t_meeting_end_y, s_t_meeting_end_z, s_t_meeting_found_x, s_t_meeting_found_y, s_t_meeting_found_z, s_t_meeting_start_x, s_t_meeting_start_y, s_t_meeting_start_z) → lv_has ls 4 [(0, .ref a_t), (1, .ref a_b1), (2, .int x1)] → va_P D vwCl [x_o5 a_t a_N a_t_meeting a_t_level a_t_pointKeys a_t_firstFlags a_t_flagPoints a_t_flagLines a_t_nexts a_t_befores a_t_walk a_t_places a_t_ringStarts a_t_ringSizes t_pointCount x2 t_ringCount, x_o2 a_b1 a_N b1_a b1_b b1_c b1_d b1_e b1_f, x_o4 a_N a_N_inverses a_N_roots N_p, x_ar cI a_N_inverses 200 N_inverses_r, x_ar cI a_N_roots 200 N_roots_r, x_ar cI a_t_firstFlags 201 z3, x_ar cI a_t_flagLines 400 z4, x_ar cI a_t_flagPoints 400 z5, x_o3 a_t_meeting a_N a_t_meeting_start a_t_meeting_end a_t_meeting_found x6 x7 x8, x_o7 a_t_meeting_end a_N x9 x10 x11, x_o7 a_t_meeting_found a_N x12 x13 x14, x_o7 a_t_meeting_start a_N x15 x16 x17, x_ar cI a_t_pointKeys 200 t_pointKeys_r] H → va_D A [x_o5 a_t a_N a_t_meeting a_t_level a_t_pointKeys a_t_firstFlags a_t_flagPoints a_t_flagLines a_t_nexts a_t_befores a_t_walk a_t_places a_t_ringStarts a_t_ringSizes t_pointCount x2 t_ringCount, x_o2 a_b1 a_N b1_a b1_b b1_c b1_d b1_e b1_f, x_o4 a_N a_N_inverses a_N_roots N_p, x_ar cI a_N_inverses 200 N_inverses_r, x_ar cI a_N_roots 200 N_roots_r, x_ar cI a_t_firstFlags 201 z3, x_ar cI a_t_flagLines 400 z4, x_ar cI a_t_flagPoints 400 z5, x_o3 a_t_meeting a_N a_t_meeting_start a_t_meeting_end a_t_meeting_found x6 x7 x8, x_o7 a_t_meeting_end a_N x9 x10 x11, x_o7 a_t_meeting_found a_N x12 x13 x14, x_o7 a_t_meeting_start a_N x15 x16 x17, x_ar cI a_t_pointKeys 200 t_pointKeys_r] → va_S A s.heap H locs → W p l e rmX5_findFlags s m args below meth c H locs 0 0 Q (F0 m 7 ls []) := by
    intro n7
    induction n7 with
    | zero =>
      intro x1 x2 z3 z4 z5 x6 x7 x8 x9 x10 x11 x12 x13 x14 x15 x16 x17 ls H locs hf
      exact nomatch (show (none : Option (Int32 × (Nat → Int32) × (Nat → Int32) × (Nat → Int32) × Int32 × Int32 × Int32 × Int32 × Int32 × Int32 × Int32 × Int32 × Int32 × Int32 × Int32 × Int32)) = some (s_t_flagCount, s_t_firstFlags_r, s_t_flagLines_r, s_t_flagPoints_r, s_t_meeting_count, s_t_meeting_lower, s_t_meeting_upper, s_t_meeting_end_x, s_t_meeting_end_y, s_t_meeting_end_z, s_t_meeting_found_x, s_t_meeting_found_y, s_t_meeting_found_z, s_t_meeting_start_x, s_t_meeting_start_y, s_t_meeting_start_z) from hf)
    | succ n7 ih7 =>
      intro x1 x2 z3 z4 z5 x6 x7 x8 x9 x10 x11 x12 x13 x14 x15 x16 x17 ls H locs hf hl hP hD hS
      have hf : FgX5_findFlags_7 t_pointCount b1_a b1_b b1_c b1_d b1_e b1_f N_p N_inverses_r N_roots_r t_pointKeys_r (gX5_findFlags_7 t_pointCount b1_a b1_b b1_c b1_d b1_e b1_f N_p N_inverses_r N_roots_r t_pointKeys_r (kX5_findFlags_111 t_pointCount) n7) (kX5_findFlags_111 t_pointCount) x1 x2 z3 z4 z5 x6 x7 x8 x9 x10 x11 x12 x13 x14 x15 x16 x17 = some (s_t_flagCount, s_t_firstFlags_r, s_t_flagLines_r, s_t_flagPoints_r, s_t_meeting_count, s_t_meeting_lower, s_t_meeting_upper, s_t_meeting_end_x, s_t_meeting_end_y, s_t_meeting_end_z, s_t_meeting_found_x, s_t_meeting_found_y, s_t_meeting_found_z, s_t_meeting_start_x, s_t_meeting_start_y, s_t_meeting_start_z) := hf
      unfold FgX5_findFlags_7 at hf
      refine lv_iload_n hx hb dX5_findFlags_7 rfl (lv_at hl 2 rfl) ?_
      refine lv_aload_n hx hb dX5_findFlags_8 rfl (lv_at hl 0 rfl) ?_
      refine va_get (D := D) (ci := 5) (C := RX5) (T := TX5) (N := 16) hx hb hts iX5 hown hK hP 0 rfl rfl 13 (by decide) l62 (fun _ h9 => h9) rfl dX5_findFlags_9 ?_
      have J111 : ∀ (y18 : Int32) (w19 : (Nat → Int32)) (w20 : (Nat → Int32)) (w21 : (Nat → Int32)) (y22 : Int32) (y23 : Int32) (y24 : Int32) (y25 : Int32) (y26 : Int32) (y27 : Int32) (y28 : Int32) (y29 : Int32) (y30 : Int32) (y31 : Int32) (y32 : Int32) (y33 : Int32) (ls : Array Slot) (H : Heap) (locs : List Loc), kX5_findFlags_111 t_pointCount y18 w19 w20 w21 y22 y23 y24 y25 y26 y27 y28 y29 y30 y31 y32 y33 = some (s_t_flagCount, s_t_firstFlags_r, s_t_flagLines_r, s_t_flagPoints_r, s_t_meeting_count, s_t_meeting_lower, s_t_meeting_upper, s_t_meeting_end_x, s_t_meeting_end_y, s_t_meeting_end_z, s_t_meeting_found_x, s_t_meeting_found_y, s_t_meeting_found_z, s_t_meeting_start_x, s_t_meeting_start_y, s_t_meeting_start_z) → lv_has ls 4 [(0, .ref a_t)] → va_P D vwCl [x_o5 a_t a_N a_t_meeting a_t_level a_t_pointKeys a_t_firstFlags a_t_flagPoints a_t_flagLines a_t_nexts a_t_befores a_t_walk a_t_places a_t_ringStarts a_t_ringSizes t_pointCount y18 t_ringCount, x_o2 a_b1 a_N b1_a b1_b b1_c b1_d b1_e b1_f, x_o4 a_N a_N_inverses a_N_roots N_p, x_ar cI a_N_inverses 200 N_inverses_r, x_ar cI a_N_roots 200 N_roots_r, x_ar cI a_t_firstFlags 201 w19, x_ar cI a_t_flagLines 400 w20, x_ar cI a_t_flagPoints 400 w21, x_o3 a_t_meeting a_N a_t_meeting_start a_t_meeting_end a_t_meeting_found y22 y23 y24, x_o7 a_t_meeting_end a_N y25 y26 y27, x_o7 a_t_meeting_found a_N y28 y29 y30, x_o7 a_t_meeting_start a_N y31 y32 y33, x_ar cI a_t_pointKeys 200 t_pointKeys_r] H → va_D A [x_o5 a_t a_N a_t_meeting a_t_level a_t_pointKeys a_t_firstFlags a_t_flagPoints a_t_flagLines a_t_nexts a_t_befores a_t_walk a_t_places a_t_ringStarts a_t_ringSizes t_pointCount y18 t_ringCount, x_o2 a_b1 a_N b1_a b1_b b1_c b1_d b1_e b1_f, x_o4 a_N a_N_inverses a_N_roots N_p, x_ar cI a_N_inverses 200 N_inverses_r, x_ar cI a_N_roots 200 N_roots_r, x_ar cI a_t_firstFlags 201 w19, x_ar cI a_t_flagLines 400 w20, x_ar cI a_t_flagPoints 400 w21, x_o3 a_t_meeting a_N a_t_meeting_start a_t_meeting_end a_t_meeting_found y22 y23 y24, x_o7 a_t_meeting_end a_N y25 y26 y27, x_o7 a_t_meeting_found a_N y28 y29 y30, x_o7 a_t_meeting_start a_N y31 y32 y33, x_ar cI a_t_pointKeys 200 t_pointKeys_r] → va_S A s.heap H locs → W p l e rmX5_findFlags s m args below meth c H locs 0 0 Q (F0 m 111 ls []) := by
        intro y18 w19 w20 w21 y22 y23 y24 y25 y26 y27 y28 y29 y30 y31 y32 y33 ls H locs hf hl hP hD hS
        unfold kX5_findFlags_111 at hf
        refine lv_aload_n hx hb dX5_findFlags_111 rfl (lv_at hl 0 rfl) ?_
        refine va_get (D := D) (ci := 5) (C := RX5) (T := TX5) (N := 16) hx hb hts iX5 hown hK hP 0 rfl rfl 4 (by decide) l15 (fun _ h9 => h9) rfl dX5_findFlags_112 ?_
        refine lv_aload_n hx hb dX5_findFlags_115 rfl (lv_at hl 0 rfl) ?_
        refine va_get (D := D) (ci := 5) (C := RX5) (T := TX5) (N := 16) hx hb hts iX5 hown hK hP 0 rfl rfl 13 (by decide) l62 (fun _ h9 => h9) rfl dX5_findFlags_116 ?_
        refine lv_aload_n hx hb dX5_findFlags_119 rfl (lv_at hl 0 rfl) ?_
        refine va_get (D := D) (ci := 5) (C := RX5) (T := TX5) (N := 16) hx hb hts iX5 hown hK hP 0 rfl rfl 14 (by decide) l66 (fun _ h9 => h9) rfl dX5_findFlags_120 ?_
        obtain ⟨u34, hu34, hf⟩ := o_b1 hf
        refine x_ast (W1 := [x_o5 a_t a_N a_t_meeting a_t_level a_t_pointKeys a_t_firstFlags a_t_flagPoints a_t_flagLines a_t_nexts a_t_befores a_t_walk a_t_places a_t_ringStarts a_t_ringSizes t_pointCount y18 t_ringCount, x_o2 a_b1 a_N b1_a b1_b b1_c b1_d b1_e b1_f, x_o4 a_N a_N_inverses a_N_roots N_p, x_ar cI a_N_inverses 200 N_inverses_r, x_ar cI a_N_roots 200 N_roots_r, x_ar cI a_t_firstFlags 201 u34, x_ar cI a_t_flagLines 400 w20, x_ar cI a_t_flagPoints 400 w21, x_o3 a_t_meeting a_N a_t_meeting_start a_t_meeting_end a_t_meeting_found y22 y23 y24, x_o7 a_t_meeting_end a_N y25 y26 y27, x_o7 a_t_meeting_found a_N y28 y29 y30, x_o7 a_t_meeting_start a_N y31 y32 y33, x_ar cI a_t_pointKeys 200 t_pointKeys_r]) hx hb hK hP hD hS 5 rfl hu34 rfl dX5_findFlags_123 (fun H locs hP hD hS => ?_)
        obtain ⟨rfl, rfl, rfl, rfl, rfl, rfl, rfl, rfl, rfl, rfl, rfl, rfl, rfl, rfl, rfl, rfl⟩ := o_s16 hf
        exact hret dX5_findFlags_124 hP hD hS
      refine lv_icmp_ge (tgt := 111) hx hb dX5_findFlags_12 (by decide) (fun hc => ?_) (fun hc => ?_)
      · have hf := o_t hf hc
        exact J111 x2 z3 z4 z5 x6 x7 x8 x9 x10 x11 x12 x13 x14 x15 x16 x17 _ _ _ hf (lv_sub hl [0] rfl) hP hD hS
      · have hf := o_f hf hc
        refine lv_aload_n hx hb dX5_findFlags_15 rfl (lv_at hl 0 rfl) ?_
        refine va_get (D := D) (ci := 5) (C := RX5) (T := TX5) (N := 16) hx hb hts iX5 hown hK hP 0 rfl rfl 4 (by decide) l15 (fun _ h9 => h9) rfl dX5_findFlags_16 ?_
        refine lv_iload_n hx hb dX5_findFlags_19 rfl (lv_at hl 2 rfl) ?_
        refine lv_aload_n hx hb dX5_findFlags_20 rfl (lv_at hl 0 rfl) ?_
        refine va_get (D := D) (ci := 5) (C := RX5) (T := TX5) (N := 16) hx hb hts iX5 hown hK hP 0 rfl rfl 14 (by decide) l66 (fun _ h9 => h9) rfl dX5_findFlags_21 ?_
        obtain ⟨u35, hu35, hf⟩ := o_b1 hf
        refine x_ast (W1 := [x_o5 a_t a_N a_t_meeting a_t_level a_t_pointKeys a_t_firstFlags a_t_flagPoints a_t_flagLines a_t_nexts a_t_befores a_t_walk a_t_places a_t_ringStarts a_t_ringSizes t_pointCount x2 t_ringCount, x_o2 a_b1 a_N b1_a b1_b b1_c b1_d b1_e b1_f, x_o4 a_N a_N_inverses a_N_roots N_p, x_ar cI a_N_inverses 200 N_inverses_r, x_ar cI a_N_roots 200 N_roots_r, x_ar cI a_t_firstFlags 201 u35, x_ar cI a_t_flagLines 400 z4, x_ar cI a_t_flagPoints 400 z5, x_o3 a_t_meeting a_N a_t_meeting_start a_t_meeting_end a_t_meeting_found x6 x7 x8, x_o7 a_t_meeting_end a_N x9 x10 x11, x_o7 a_t_meeting_found a_N x12 x13 x14, x_o7 a_t_meeting_start a_N x15 x16 x17, x_ar cI a_t_pointKeys 200 t_pointKeys_r]) hx hb hK hP hD hS 5 rfl hu35 rfl dX5_findFlags_24 (fun H locs hP hD hS => ?_)
        refine lv_aload_n hx hb dX5_findFlags_25 rfl (lv_at hl 0 rfl) ?_
        refine va_get (D := D) (ci := 5) (C := RX5) (T := TX5) (N := 16) hx hb hts iX5 hown hK hP 0 rfl rfl 1 (by decide) l51 (fun _ h9 => h9) rfl dX5_findFlags_26 ?_
        refine lv_aload_n hx hb dX5_findFlags_29 rfl (lv_at hl 1 rfl) ?_
        refine lv_aload_n hx hb dX5_findFlags_30 rfl (lv_at hl 0 rfl) ?_
        refine va_get (D := D) (ci := 5) (C := RX5) (T := TX5) (N := 16) hx hb hts iX5 hown hK hP 0 rfl rfl 3 (by decide) l11 (fun _ h9 => h9) rfl dX5_findFlags_31 ?_
        refine lv_iload_n hx hb dX5_findFlags_34 rfl (lv_at hl 2 rfl) ?_
        obtain ⟨v36, hv36, hf⟩ := o_b1 hf
        refine x_ald hx hb hK hP 12 rfl hv36 dX5_findFlags_35 ?_
        obtain ⟨v37, v38, v39, v40, v41, v42, v43, v44, v45, v46, v47, v48, hv37, hf⟩ := o_b12 hf
        refine x_vv (rest := []) (W1 := [x_o5 a_t a_N a_t_meeting a_t_level a_t_pointKeys a_t_firstFlags a_t_flagPoints a_t_flagLines a_t_nexts a_t_befores a_t_walk a_t_places a_t_ringStarts a_t_ringSizes t_pointCount x2 t_ringCount, x_o2 a_b1 a_N b1_a b1_b b1_c b1_d b1_e b1_f, x_o4 a_N a_N_inverses a_N_roots N_p, x_ar cI a_N_inverses 200 N_inverses_r, x_ar cI a_N_roots 200 N_roots_r, x_ar cI a_t_firstFlags 201 u35, x_ar cI a_t_flagLines 400 z4, x_ar cI a_t_flagPoints 400 z5, x_o3 a_t_meeting a_N a_t_meeting_start a_t_meeting_end a_t_meeting_found v37 v38 v39, x_o7 a_t_meeting_end a_N v40 v41 v42, x_o7 a_t_meeting_found a_N v43 v44 v45, x_o7 a_t_meeting_start a_N v46 v47 v48, x_ar cI a_t_pointKeys 200 t_pointKeys_r]) ⟨hx, hb, hml, hown, hts⟩ (tX3_find l D cI a_t_meeting a_b1 a_N a_t_meeting_start a_t_meeting_end a_t_meeting_found a_N_inverses a_N_roots x6 x7 x8 b1_a b1_b b1_c b1_d b1_e b1_f N_p N_inverses_r N_roots_r x9 x10 x11 x12 x13 x14 x15 x16 x17 v36 v37 v38 v39 v40 v41 v42 v43 v44 v45 v46 v47 v48 hv37) (cwV 2 hts gX5_findFlags_X3_find rfl rfl rfl (by decide +kernel) ⟨Nat.le_of_ble_eq_true rfl, Nat.le_of_ble_eq_true rfl⟩) hN hK hP hD hS hA [8, 1, 2, 3, 4, 9, 10, 11] [none, some 1, some 2, some 3, some 4, none, none, none, some 0, some 5, some 6, some 7, none] rfl rfl rfl rfl rfl rfl 0 rfl rfl rfl hl.1 rfl (Nat.le_of_ble_eq_true rfl) dX5_findFlags_36 ⟨Nat.zero_le _, Nat.zero_le _⟩ (fun H locs hP hD hS => ?_)
        refine lv_iconst (v := 0) hx hb dX5_findFlags_39 (by decide) ?_
        refine lv_istore_n (lv' := [(3, .int 0), (0, .ref a_t), (1, .ref a_b1), (2, .int x1)]) hx hb dX5_findFlags_40 rfl hl (by decide) rfl (fun ls hl => ?_)
        have L41 : ∀ (n : Nat) (x49 : Int32) (x50 : Int32) (z51 : (Nat → Int32)) (z52 : (Nat → Int32)) (ls : Array Slot) (H : Heap) (locs : List Loc), gX5_findFlags_41 x1 v37 v38 v39 (kX5_findFlags_105 x1 (gX5_findFlags_7 t_pointCount b1_a b1_b b1_c b1_d b1_e b1_f N_p N_inverses_r N_roots_r t_pointKeys_r (kX5_findFlags_111 t_pointCount) n7) u35 v37 v38 v39 v40 v41 v42 v43 v44 v45 v46 v47 v48) n x49 x50 z51 z52 = some (s_t_flagCount, s_t_firstFlags_r, s_t_flagLines_r, s_t_flagPoints_r, s_t_meeting_count, s_t_meeting_lower, s_t_meeting_upper, s_t_meeting_end_x, s_t_meeting_end_y, s_t_meeting_end_z, s_t_meeting_found_x, s_t_meeting_found_y, s_t_meeting_found_z, s_t_meeting_start_x, s_t_meeting_start_y, s_t_meeting_start_z) → lv_has ls 4 [(0, .ref a_t), (1, .ref a_b1), (2, .int x1), (3, .int x49)] → va_P D vwCl [x_o5 a_t a_N a_t_meeting a_t_level a_t_pointKeys a_t_firstFlags a_t_flagPoints a_t_flagLines a_t_nexts a_t_befores a_t_walk a_t_places a_t_ringStarts a_t_ringSizes t_pointCount x50 t_ringCount, x_o2 a_b1 a_N b1_a b1_b b1_c b1_d b1_e b1_f, x_o4 a_N a_N_inverses a_N_roots N_p, x_ar cI a_N_inverses 200 N_inverses_r, x_ar cI a_N_roots 200 N_roots_r, x_ar cI a_t_firstFlags 201 u35, x_ar cI a_t_flagLines 400 z51, x_ar cI a_t_flagPoints 400 z52, x_o3 a_t_meeting a_N a_t_meeting_start a_t_meeting_end a_t_meeting_found v37 v38 v39, x_o7 a_t_meeting_end a_N v40 v41 v42, x_o7 a_t_meeting_found a_N v43 v44 v45, x_o7 a_t_meeting_start a_N v46 v47 v48, x_ar cI a_t_pointKeys 200 t_pointKeys_r] H → va_D A [x_o5 a_t a_N a_t_meeting a_t_level a_t_pointKeys a_t_firstFlags a_t_flagPoints a_t_flagLines a_t_nexts a_t_befores a_t_walk a_t_places a_t_ringStarts a_t_ringSizes t_pointCount x50 t_ringCount, x_o2 a_b1 a_N b1_a b1_b b1_c b1_d b1_e b1_f, x_o4 a_N a_N_inverses a_N_roots N_p, x_ar cI a_N_inverses 200 N_inverses_r, x_ar cI a_N_roots 200 N_roots_r, x_ar cI a_t_firstFlags 201 u35, x_ar cI a_t_flagLines 400 z51, x_ar cI a_t_flagPoints 400 z52, x_o3 a_t_meeting a_N a_t_meeting_start a_t_meeting_end a_t_meeting_found v37 v38 v39, x_o7 a_t_meeting_end a_N v40 v41 v42, x_o7 a_t_meeting_found a_N v43 v44 v45, x_o7 a_t_meeting_start a_N v46 v47 v48, x_ar cI a_t_pointKeys 200 t_pointKeys_r] → va_S A s.heap H locs → W p l e rmX5_findFlags s m args below meth c H locs 0 0 Q (F0 m 41 ls []) := by
          intro n41
          induction n41 with
          | zero =>
            intro x49 x50 z51 z52 ls H locs hf
            exact nomatch (show (none : Option (Int32 × (Nat → Int32) × (Nat → Int32) × (Nat → Int32) × Int32 × Int32 × Int32 × Int32 × Int32 × Int32 × Int32 × Int32 × Int32 × Int32 × Int32 × Int32)) = some (s_t_flagCount, s_t_firstFlags_r, s_t_flagLines_r, s_t_flagPoints_r, s_t_meeting_count, s_t_meeting_lower, s_t_meeting_upper, s_t_meeting_end_x, s_t_meeting_end_y, s_t_meeting_end_z, s_t_meeting_found_x, s_t_meeting_found_y, s_t_meeting_found_z, s_t_meeting_start_x, s_t_meeting_start_y, s_t_meeting_start_z) from hf)
          | succ n41 ih41 =>
            intro x49 x50 z51 z52 ls H locs hf hl hP hD hS
            have hf : FgX5_findFlags_41 x1 v37 v38 v39 (gX5_findFlags_41 x1 v37 v38 v39 (kX5_findFlags_105 x1 (gX5_findFlags_7 t_pointCount b1_a b1_b b1_c b1_d b1_e b1_f N_p N_inverses_r N_roots_r t_pointKeys_r (kX5_findFlags_111 t_pointCount) n7) u35 v37 v38 v39 v40 v41 v42 v43 v44 v45 v46 v47 v48) n41) (kX5_findFlags_105 x1 (gX5_findFlags_7 t_pointCount b1_a b1_b b1_c b1_d b1_e b1_f N_p N_inverses_r N_roots_r t_pointKeys_r (kX5_findFlags_111 t_pointCount) n7) u35 v37 v38 v39 v40 v41 v42 v43 v44 v45 v46 v47 v48) x49 x50 z51 z52 = some (s_t_flagCount, s_t_firstFlags_r, s_t_flagLines_r, s_t_flagPoints_r, s_t_meeting_count, s_t_meeting_lower, s_t_meeting_upper, s_t_meeting_end_x, s_t_meeting_end_y, s_t_meeting_end_z, s_t_meeting_found_x, s_t_meeting_found_y, s_t_meeting_found_z, s_t_meeting_start_x, s_t_meeting_start_y, s_t_meeting_start_z) := hf
            unfold FgX5_findFlags_41 at hf
            refine lv_iload_n hx hb dX5_findFlags_41 rfl (lv_at hl 3 rfl) ?_
            refine lv_aload_n hx hb dX5_findFlags_42 rfl (lv_at hl 0 rfl) ?_
            refine va_get (D := D) (ci := 5) (C := RX5) (T := TX5) (N := 16) hx hb hts iX5 hown hK hP 0 rfl rfl 1 (by decide) l51 (fun _ h9 => h9) rfl dX5_findFlags_43 ?_
            obtain ⟨v53, hv53, hf⟩ := o_b1 hf
            refine x_vi (rest := [.int x49]) (W1 := [x_o5 a_t a_N a_t_meeting a_t_level a_t_pointKeys a_t_firstFlags a_t_flagPoints a_t_flagLines a_t_nexts a_t_befores a_t_walk a_t_places a_t_ringStarts a_t_ringSizes t_pointCount x50 t_ringCount, x_o2 a_b1 a_N b1_a b1_b b1_c b1_d b1_e b1_f, x_o4 a_N a_N_inverses a_N_roots N_p, x_ar cI a_N_inverses 200 N_inverses_r, x_ar cI a_N_roots 200 N_roots_r, x_ar cI a_t_firstFlags 201 u35, x_ar cI a_t_flagLines 400 z51, x_ar cI a_t_flagPoints 400 z52, x_o3 a_t_meeting a_N a_t_meeting_start a_t_meeting_end a_t_meeting_found v37 v38 v39, x_o7 a_t_meeting_end a_N v40 v41 v42, x_o7 a_t_meeting_found a_N v43 v44 v45, x_o7 a_t_meeting_start a_N v46 v47 v48, x_ar cI a_t_pointKeys 200 t_pointKeys_r]) ⟨hx, hb, hml, hown, hts⟩ (tX3_size l D cI a_t_meeting a_N a_t_meeting_start a_t_meeting_end a_t_meeting_found v37 v38 v39 v53 hv53) (cwV 0 hts gX5_findFlags_X3_size rfl rfl rfl (by decide +kernel) ⟨Nat.le_of_ble_eq_true rfl, Nat.le_of_ble_eq_true rfl⟩) hN hK hP hD hS hA [8] [none, none, none, none, none, none, none, none, some 0, none, none, none, none] rfl rfl rfl rfl rfl rfl 0 rfl rfl rfl hl.1 rfl (Nat.le_of_ble_eq_true rfl) dX5_findFlags_46 ⟨Nat.zero_le _, Nat.zero_le _⟩ (fun H locs hP hD hS => ?_)
            have J105 : ∀ (y54 : Int32) (w55 : (Nat → Int32)) (w56 : (Nat → Int32)) (ls : Array Slot) (H : Heap) (locs : List Loc), kX5_findFlags_105 x1 (gX5_findFlags_7 t_pointCount b1_a b1_b b1_c b1_d b1_e b1_f N_p N_inverses_r N_roots_r t_pointKeys_r (kX5_findFlags_111 t_pointCount) n7) u35 v37 v38 v39 v40 v41 v42 v43 v44 v45 v46 v47 v48 y54 w55 w56 = some (s_t_flagCount, s_t_firstFlags_r, s_t_flagLines_r, s_t_flagPoints_r, s_t_meeting_count, s_t_meeting_lower, s_t_meeting_upper, s_t_meeting_end_x, s_t_meeting_end_y, s_t_meeting_end_z, s_t_meeting_found_x, s_t_meeting_found_y, s_t_meeting_found_z, s_t_meeting_start_x, s_t_meeting_start_y, s_t_meeting_start_z) → lv_has ls 4 [(0, .ref a_t), (1, .ref a_b1), (2, .int x1)] → va_P D vwCl [x_o5 a_t a_N a_t_meeting a_t_level a_t_pointKeys a_t_firstFlags a_t_flagPoints a_t_flagLines a_t_nexts a_t_befores a_t_walk a_t_places a_t_ringStarts a_t_ringSizes t_pointCount y54 t_ringCount, x_o2 a_b1 a_N b1_a b1_b b1_c b1_d b1_e b1_f, x_o4 a_N a_N_inverses a_N_roots N_p, x_ar cI a_N_inverses 200 N_inverses_r, x_ar cI a_N_roots 200 N_roots_r, x_ar cI a_t_firstFlags 201 u35, x_ar cI a_t_flagLines 400 w55, x_ar cI a_t_flagPoints 400 w56, x_o3 a_t_meeting a_N a_t_meeting_start a_t_meeting_end a_t_meeting_found v37 v38 v39, x_o7 a_t_meeting_end a_N v40 v41 v42, x_o7 a_t_meeting_found a_N v43 v44 v45, x_o7 a_t_meeting_start a_N v46 v47 v48, x_ar cI a_t_pointKeys 200 t_pointKeys_r] H → va_D A [x_o5 a_t a_N a_t_meeting a_t_level a_t_pointKeys a_t_firstFlags a_t_flagPoints a_t_flagLines a_t_nexts a_t_befores a_t_walk a_t_places a_t_ringStarts a_t_ringSizes t_pointCount y54 t_ringCount, x_o2 a_b1 a_N b1_a b1_b b1_c b1_d b1_e b1_f, x_o4 a_N a_N_inverses a_N_roots N_p, x_ar cI a_N_inverses 200 N_inverses_r, x_ar cI a_N_roots 200 N_roots_r, x_ar cI a_t_firstFlags 201 u35, x_ar cI a_t_flagLines 400 w55, x_ar cI a_t_flagPoints 400 w56, x_o3 a_t_meeting a_N a_t_meeting_start a_t_meeting_end a_t_meeting_found v37 v38 v39, x_o7 a_t_meeting_end a_N v40 v41 v42, x_o7 a_t_meeting_found a_N v43 v44 v45, x_o7 a_t_meeting_start a_N v46 v47 v48, x_ar cI a_t_pointKeys 200 t_pointKeys_r] → va_S A s.heap H locs → W p l e rmX5_findFlags s m args below meth c H locs 0 0 Q (F0 m 105 ls []) := by
              intro y54 w55 w56 ls H locs hf hl hP hD hS
              unfold kX5_findFlags_105 at hf
              obtain ⟨v57, ev57, hf⟩ := o_nm hf
              refine lv_iinc (v := v57) (lv' := [(2, .int v57), (0, .ref a_t), (1, .ref a_b1)]) hx hb dX5_findFlags_105 hl (k := 2) rfl (by rw [ev57]; rfl) (by decide) rfl (fun ls hl => ?_)
              refine lv_goto (tgt := 7) hx hb dX5_findFlags_108 (by decide) ?_
              exact ih7 v57 y54 u35 w55 w56 v37 v38 v39 v40 v41 v42 v43 v44 v45 v46 v47 v48 _ _ _ hf (lv_sub hl [1, 2, 0] rfl) hP hD hS
            refine lv_icmp_ge (tgt := 105) hx hb dX5_findFlags_49 (by decide) (fun hc => ?_) (fun hc => ?_)
            · have hf := o_t hf hc
              exact J105 x50 z51 z52 _ _ _ hf (lv_sub hl [0, 1, 2] rfl) hP hD hS
            · have hf := o_f hf hc
              refine lv_aload_n hx hb dX5_findFlags_52 rfl (lv_at hl 0 rfl) ?_
              refine va_get (D := D) (ci := 5) (C := RX5) (T := TX5) (N := 16) hx hb hts iX5 hown hK hP 0 rfl rfl 14 (by decide) l66 (fun _ h9 => h9) rfl dX5_findFlags_53 ?_
              refine lv_sipush (v := 400) hx hb dX5_findFlags_56 (by decide) ?_
              refine lv_icmp_ge (tgt := 105) hx hb dX5_findFlags_59 (by decide) (fun hc => ?_) (fun hc => ?_)
              · have hf := o_t hf hc
                exact J105 x50 z51 z52 _ _ _ hf (lv_sub hl [0, 1, 2] rfl) hP hD hS
              · have hf := o_f hf hc
                refine lv_aload_n hx hb dX5_findFlags_62 rfl (lv_at hl 0 rfl) ?_
                refine va_get (D := D) (ci := 5) (C := RX5) (T := TX5) (N := 16) hx hb hts iX5 hown hK hP 0 rfl rfl 5 (by decide) l18 (fun _ h9 => h9) rfl dX5_findFlags_63 ?_
                refine lv_aload_n hx hb dX5_findFlags_66 rfl (lv_at hl 0 rfl) ?_
                refine va_get (D := D) (ci := 5) (C := RX5) (T := TX5) (N := 16) hx hb hts iX5 hown hK hP 0 rfl rfl 14 (by decide) l66 (fun _ h9 => h9) rfl dX5_findFlags_67 ?_
                refine lv_iload_n hx hb dX5_findFlags_70 rfl (lv_at hl 2 rfl) ?_
                obtain ⟨u58, hu58, hf⟩ := o_b1 hf
                refine x_ast (W1 := [x_o5 a_t a_N a_t_meeting a_t_level a_t_pointKeys a_t_firstFlags a_t_flagPoints a_t_flagLines a_t_nexts a_t_befores a_t_walk a_t_places a_t_ringStarts a_t_ringSizes t_pointCount x50 t_ringCount, x_o2 a_b1 a_N b1_a b1_b b1_c b1_d b1_e b1_f, x_o4 a_N a_N_inverses a_N_roots N_p, x_ar cI a_N_inverses 200 N_inverses_r, x_ar cI a_N_roots 200 N_roots_r, x_ar cI a_t_firstFlags 201 u35, x_ar cI a_t_flagLines 400 z51, x_ar cI a_t_flagPoints 400 u58, x_o3 a_t_meeting a_N a_t_meeting_start a_t_meeting_end a_t_meeting_found v37 v38 v39, x_o7 a_t_meeting_end a_N v40 v41 v42, x_o7 a_t_meeting_found a_N v43 v44 v45, x_o7 a_t_meeting_start a_N v46 v47 v48, x_ar cI a_t_pointKeys 200 t_pointKeys_r]) hx hb hK hP hD hS 7 rfl hu58 rfl dX5_findFlags_71 (fun H locs hP hD hS => ?_)
                refine lv_aload_n hx hb dX5_findFlags_72 rfl (lv_at hl 0 rfl) ?_
                refine va_get (D := D) (ci := 5) (C := RX5) (T := TX5) (N := 16) hx hb hts iX5 hown hK hP 0 rfl rfl 6 (by decide) l21 (fun _ h9 => h9) rfl dX5_findFlags_73 ?_
                refine lv_aload_n hx hb dX5_findFlags_76 rfl (lv_at hl 0 rfl) ?_
                refine va_get (D := D) (ci := 5) (C := RX5) (T := TX5) (N := 16) hx hb hts iX5 hown hK hP 0 rfl rfl 14 (by decide) l66 (fun _ h9 => h9) rfl dX5_findFlags_77 ?_
                refine lv_aload_n hx hb dX5_findFlags_80 rfl (lv_at hl 0 rfl) ?_
                refine va_get (D := D) (ci := 5) (C := RX5) (T := TX5) (N := 16) hx hb hts iX5 hown hK hP 0 rfl rfl 1 (by decide) l51 (fun _ h9 => h9) rfl dX5_findFlags_81 ?_
                refine lv_iload_n hx hb dX5_findFlags_84 rfl (lv_at hl 3 rfl) ?_
                obtain ⟨v59, hv59, hf⟩ := o_b1 hf
                refine x_vi (rest := [.int x50, .ref a_t_flagLines]) (W1 := [x_o5 a_t a_N a_t_meeting a_t_level a_t_pointKeys a_t_firstFlags a_t_flagPoints a_t_flagLines a_t_nexts a_t_befores a_t_walk a_t_places a_t_ringStarts a_t_ringSizes t_pointCount x50 t_ringCount, x_o2 a_b1 a_N b1_a b1_b b1_c b1_d b1_e b1_f, x_o4 a_N a_N_inverses a_N_roots N_p, x_ar cI a_N_inverses 200 N_inverses_r, x_ar cI a_N_roots 200 N_roots_r, x_ar cI a_t_firstFlags 201 u35, x_ar cI a_t_flagLines 400 z51, x_ar cI a_t_flagPoints 400 u58, x_o3 a_t_meeting a_N a_t_meeting_start a_t_meeting_end a_t_meeting_found v37 v38 v39, x_o7 a_t_meeting_end a_N v40 v41 v42, x_o7 a_t_meeting_found a_N v43 v44 v45, x_o7 a_t_meeting_start a_N v46 v47 v48, x_ar cI a_t_pointKeys 200 t_pointKeys_r]) ⟨hx, hb, hml, hown, hts⟩ (tX3_keyAt l D cI a_t_meeting a_N a_t_meeting_start a_t_meeting_end a_t_meeting_found v37 v38 v39 x49 v59 hv59) (cwV 1 hts gX5_findFlags_X3_keyAt rfl rfl rfl (by decide +kernel) ⟨Nat.le_of_ble_eq_true rfl, Nat.le_of_ble_eq_true rfl⟩) hN hK hP hD hS hA [8] [none, none, none, none, none, none, none, none, some 0, none, none, none, none] rfl rfl rfl rfl rfl rfl 0 rfl rfl rfl hl.1 rfl (Nat.le_of_ble_eq_true rfl) dX5_findFlags_85 ⟨Nat.zero_le _, Nat.zero_le _⟩ (fun H locs hP hD hS => ?_)
                obtain ⟨u60, hu60, hf⟩ := o_b1 hf
                refine x_ast (W1 := [x_o5 a_t a_N a_t_meeting a_t_level a_t_pointKeys a_t_firstFlags a_t_flagPoints a_t_flagLines a_t_nexts a_t_befores a_t_walk a_t_places a_t_ringStarts a_t_ringSizes t_pointCount x50 t_ringCount, x_o2 a_b1 a_N b1_a b1_b b1_c b1_d b1_e b1_f, x_o4 a_N a_N_inverses a_N_roots N_p, x_ar cI a_N_inverses 200 N_inverses_r, x_ar cI a_N_roots 200 N_roots_r, x_ar cI a_t_firstFlags 201 u35, x_ar cI a_t_flagLines 400 u60, x_ar cI a_t_flagPoints 400 u58, x_o3 a_t_meeting a_N a_t_meeting_start a_t_meeting_end a_t_meeting_found v37 v38 v39, x_o7 a_t_meeting_end a_N v40 v41 v42, x_o7 a_t_meeting_found a_N v43 v44 v45, x_o7 a_t_meeting_start a_N v46 v47 v48, x_ar cI a_t_pointKeys 200 t_pointKeys_r]) hx hb hK hP hD hS 6 rfl hu60 rfl dX5_findFlags_88 (fun H locs hP hD hS => ?_)
                refine lv_aload_n hx hb dX5_findFlags_89 rfl (lv_at hl 0 rfl) ?_
                refine lv_dup hx hb dX5_findFlags_90 rfl ?_
                refine va_get (D := D) (ci := 5) (C := RX5) (T := TX5) (N := 16) hx hb hts iX5 hown hK hP 0 rfl rfl 14 (by decide) l66 (fun _ h9 => h9) rfl dX5_findFlags_91 ?_
                refine lv_iconst (v := 1) hx hb dX5_findFlags_94 (by decide) ?_
                refine lv_iadd hx hb dX5_findFlags_95 ?_
                obtain ⟨v61, ev61, hf⟩ := o_nm hf
                refine x_top ev61 ?_
                refine x_put (W1 := [x_o5 a_t a_N a_t_meeting a_t_level a_t_pointKeys a_t_firstFlags a_t_flagPoints a_t_flagLines a_t_nexts a_t_befores a_t_walk a_t_places a_t_ringStarts a_t_ringSizes t_pointCount v61 t_ringCount, x_o2 a_b1 a_N b1_a b1_b b1_c b1_d b1_e b1_f, x_o4 a_N a_N_inverses a_N_roots N_p, x_ar cI a_N_inverses 200 N_inverses_r, x_ar cI a_N_roots 200 N_roots_r, x_ar cI a_t_firstFlags 201 u35, x_ar cI a_t_flagLines 400 u60, x_ar cI a_t_flagPoints 400 u58, x_o3 a_t_meeting a_N a_t_meeting_start a_t_meeting_end a_t_meeting_found v37 v38 v39, x_o7 a_t_meeting_end a_N v40 v41 v42, x_o7 a_t_meeting_found a_N v43 v44 v45, x_o7 a_t_meeting_start a_N v46 v47 v48, x_ar cI a_t_pointKeys 200 t_pointKeys_r]) (ty := .int) (C := RX5) (T := TX5) (N := 16) hx hb hts iX5 tyX5 tyX5_ok nmX5 hown hK hP hD hS 0 rfl rfl 14 (by decide) l66 rfl rfl (by decide +kernel) rfl rfl (Nat.le_of_ble_eq_true rfl) rfl dX5_findFlags_96 (fun H locs hP hD hS => ?_)
                obtain ⟨v62, ev62, hf⟩ := o_nm hf
                refine lv_iinc (v := v62) (lv' := [(3, .int v62), (0, .ref a_t), (1, .ref a_b1), (2, .int x1)]) hx hb dX5_findFlags_99 hl (k := 3) rfl (by rw [ev62]; rfl) (by decide) rfl (fun ls hl => ?_)
                refine lv_goto (tgt := 41) hx hb dX5_findFlags_102 (by decide) ?_
                exact ih41 v62 v61 u60 u58 _ _ _ hf (lv_sub hl [1, 2, 3, 0] rfl) hP hD hS
        exact L41 p_FU 0 x2 z4 z5 _ _ _ hf (lv_sub hl [1, 2, 3, 0] rfl) hP hD hS
  exact L7 p_FU 0 0 t_firstFlags_r t_flagLines_r t_flagPoints_r t_meeting_count t_meeting_lower t_meeting_upper t_meeting_end_x t_meeting_end_y t_meeting_end_z t_meeting_found_x t_meeting_found_y t_meeting_found_z t_meeting_start_x t_meeting_start_y t_meeting_start_z _ _ _ hf (lv_sub hl [1, 2, 0] rfl) hP hD hS
noncomputable def kX5_addPoints_68 (y5 : Int32) (w6 : (Nat → Int32)) : Option (Int32 × (Nat → Int32)) :=
  some (y5, w6)
noncomputable def jX5_addPoints_62 (x1 : Int32) (rec2 : Int32 → Int32 → (Nat → Int32) → Option (Int32 × (Nat → Int32))) (y8 : Int32) (w9 : (Nat → Int32)) : Option (Int32 × (Nat → Int32)) :=
  p_nm (x1 + 1) (fun v10 =>
rec2 v10 y8 w9)
noncomputable def FgX5_addPoints_2 (t_meeting_count : Int32) (t_meeting_lower : Int32) (t_meeting_upper : Int32) (i1 : Int32) (rec2 : Int32 → Int32 → (Nat → Int32) → Option (Int32 × (Nat → Int32))) (kk2 : Int32 → (Nat → Int32) → Option (Int32 × (Nat → Int32))) (x1 : Int32) (x2 : Int32) (z3 : (Nat → Int32)) : Option (Int32 × (Nat → Int32)) :=
  p_b1 (fX3_size t_meeting_count) (fun v4 =>
if v4 ≤ x1 then (kk2 x2 z3) else (p_b1 (fX3_keyAt t_meeting_lower t_meeting_upper x1) (fun v7 =>
if i1 ≤ v7 then (jX5_addPoints_62 x1 rec2 x2 z3) else (if 200 ≤ x2 then (jX5_addPoints_62 x1 rec2 x2 z3) else (p_b1 (fX3_keyAt t_meeting_lower t_meeting_upper x1) (fun v11 =>
p_b1 (p_st z3 200 x2 v11) (fun u12 =>
p_nm (x2 + 1) (fun v13 =>
jX5_addPoints_62 x1 rec2 v13 u12))))))))
noncomputable def gX5_addPoints_2 (t_meeting_count : Int32) (t_meeting_lower : Int32) (t_meeting_upper : Int32) (i1 : Int32) (kk2 : Int32 → (Nat → Int32) → Option (Int32 × (Nat → Int32))) (n : Nat) : Int32 → Int32 → (Nat → Int32) → Option (Int32 × (Nat → Int32)) := Nat.rec (motive := fun _ => Int32 → Int32 → (Nat → Int32) → Option (Int32 × (Nat → Int32))) (fun _ _ _ => none) (fun _ rec2 => FgX5_addPoints_2 t_meeting_count t_meeting_lower t_meeting_upper i1 rec2 kk2) n
noncomputable def fX5_addPoints (t_pointCount : Int32) (t_meeting_count : Int32) (t_meeting_lower : Int32) (t_meeting_upper : Int32) (t_pointKeys_r : (Nat → Int32)) (i1 : Int32) : Option (Int32 × (Nat → Int32)) :=
  gX5_addPoints_2 t_meeting_count t_meeting_lower t_meeting_upper i1 (kX5_addPoints_68) p_FU 0 t_pointCount t_pointKeys_r
def rmX5_addPoints : Room := { frames := 1, cells := 0, slots := 0, locals := 21 }
set_option maxHeartbeats 4000000 in
set_option maxRecDepth 100000 in
theorem tX5_addPoints (l : Launch) (D : va_G) (cI : ClassId) (a_t : Nat) (a_N : Nat) (a_t_meeting : Nat) (a_t_level : Nat) (a_t_pointKeys : Nat) (a_t_firstFlags : Nat) (a_t_flagPoints : Nat) (a_t_flagLines : Nat) (a_t_nexts : Nat) (a_t_befores : Nat) (a_t_walk : Nat) (a_t_places : Nat) (a_t_ringStarts : Nat) (a_t_ringSizes : Nat) (a_t_meeting_start : Nat) (a_t_meeting_end : Nat) (a_t_meeting_found : Nat) (t_pointCount : Int32) (t_flagCount : Int32) (t_ringCount : Int32) (t_meeting_count : Int32) (t_meeting_lower : Int32) (t_meeting_upper : Int32) (t_pointKeys_r : (Nat → Int32)) (i1 : Int32) (s_t_pointCount : Int32) (s_t_pointKeys_r : (Nat → Int32)) (hf : fX5_addPoints t_pointCount t_meeting_count t_meeting_lower t_meeting_upper t_pointKeys_r i1 = some (s_t_pointCount, s_t_pointKeys_r)) : x_CV l D cI yX5_addPoints wsX5_addPoints rmX5_addPoints [.ref a_t, .int i1] [x_o5 a_t a_N a_t_meeting a_t_level a_t_pointKeys a_t_firstFlags a_t_flagPoints a_t_flagLines a_t_nexts a_t_befores a_t_walk a_t_places a_t_ringStarts a_t_ringSizes t_pointCount t_flagCount t_ringCount, x_o3 a_t_meeting a_N a_t_meeting_start a_t_meeting_end a_t_meeting_found t_meeting_count t_meeting_lower t_meeting_upper, x_ar cI a_t_pointKeys 200 t_pointKeys_r] [x_o5 a_t a_N a_t_meeting a_t_level a_t_pointKeys a_t_firstFlags a_t_flagPoints a_t_flagLines a_t_nexts a_t_befores a_t_walk a_t_places a_t_ringStarts a_t_ringSizes s_t_pointCount t_flagCount t_ringCount, x_o3 a_t_meeting a_N a_t_meeting_start a_t_meeting_end a_t_meeting_found t_meeting_count t_meeting_lower t_meeting_upper, x_ar cI a_t_pointKeys 200 s_t_pointKeys_r] := by
  refine x_CV_of (cc := cX5_addPoints) (maxL := 3) (own := RX5) (lv0 := [(0, .ref a_t), (1, .int i1)]) (by decide) rfl rfl (Nat.le_of_ble_eq_true rfl) rfl ?_
  intro p e s m args below meth c A Q ls hx hb hml hown hts hN hK hP hD hS hA hl hret
  have iX5 : ∀ w ∈ u_ws RX5 TX5 16, w ∈ wsX5_addPoints := by decide +kernel
  have l51 := hts (.fieldLink RX5 51 "ChordRings$Rings" "meeting" "LChordRings$Meeting;") (by decide +kernel)
  have l62 := hts (.fieldLink RX5 62 "ChordRings$Rings" "pointCount" "I") (by decide +kernel)
  have l11 := hts (.fieldLink RX5 11 "ChordRings$Rings" "pointKeys" "[I") (by decide +kernel)
  unfold fX5_addPoints at hf
  refine lv_iconst (v := 0) hx hb dX5_addPoints_0 (by decide) ?_
  refine lv_istore_n (lv' := [(2, .int 0), (0, .ref a_t), (1, .int i1)]) hx hb dX5_addPoints_1 rfl hl (by decide) rfl (fun ls hl => ?_)
  have L2 : ∀ (n : Nat) (x1 : Int32) (x2 : Int32) (z3 : (Nat → Int32)) (ls : Array Slot) (H : Heap) (locs : List Loc), gX5_addPoints_2 t_meeting_count t_meeting_lower t_meeting_upper i1 (kX5_addPoints_68) n x1 x2 z3 = some (s_t_pointCount, s_t_pointKeys_r) → lv_has ls 3 [(0, .ref a_t), (1, .int i1), (2, .int x1)] → va_P D vwCl [x_o5 a_t a_N a_t_meeting a_t_level a_t_pointKeys a_t_firstFlags a_t_flagPoints a_t_flagLines a_t_nexts a_t_befores a_t_walk a_t_places a_t_ringStarts a_t_ringSizes x2 t_flagCount t_ringCount, x_o3 a_t_meeting a_N a_t_meeting_start a_t_meeting_end a_t_meeting_found t_meeting_count t_meeting_lower t_meeting_upper, x_ar cI a_t_pointKeys 200 z3] H → va_D A [x_o5 a_t a_N a_t_meeting a_t_level a_t_pointKeys a_t_firstFlags a_t_flagPoints a_t_flagLines a_t_nexts a_t_befores a_t_walk a_t_places a_t_ringStarts a_t_ringSizes x2 t_flagCount t_ringCount, x_o3 a_t_meeting a_N a_t_meeting_start a_t_meeting_end a_t_meeting_found t_meeting_count t_meeting_lower t_meeting_upper, x_ar cI a_t_pointKeys 200 z3] → va_S A s.heap H locs → W p l e rmX5_addPoints s m args below meth c H locs 0 0 Q (F0 m 2 ls []) := by
    intro n2
    induction n2 with
    | zero =>
      intro x1 x2 z3 ls H locs hf
      exact nomatch (show (none : Option (Int32 × (Nat → Int32))) = some (s_t_pointCount, s_t_pointKeys_r) from hf)
    | succ n2 ih2 =>
      intro x1 x2 z3 ls H locs hf hl hP hD hS
      have hf : FgX5_addPoints_2 t_meeting_count t_meeting_lower t_meeting_upper i1 (gX5_addPoints_2 t_meeting_count t_meeting_lower t_meeting_upper i1 (kX5_addPoints_68) n2) (kX5_addPoints_68) x1 x2 z3 = some (s_t_pointCount, s_t_pointKeys_r) := hf
      unfold FgX5_addPoints_2 at hf
      refine lv_iload_n hx hb dX5_addPoints_2 rfl (lv_at hl 2 rfl) ?_
      refine lv_aload_n hx hb dX5_addPoints_3 rfl (lv_at hl 0 rfl) ?_
      refine va_get (D := D) (ci := 5) (C := RX5) (T := TX5) (N := 16) hx hb hts iX5 hown hK hP 0 rfl rfl 1 (by decide) l51 (fun _ h9 => h9) rfl dX5_addPoints_4 ?_
      obtain ⟨v4, hv4, hf⟩ := o_b1 hf
      refine x_vi (rest := [.int x1]) (W1 := [x_o5 a_t a_N a_t_meeting a_t_level a_t_pointKeys a_t_firstFlags a_t_flagPoints a_t_flagLines a_t_nexts a_t_befores a_t_walk a_t_places a_t_ringStarts a_t_ringSizes x2 t_flagCount t_ringCount, x_o3 a_t_meeting a_N a_t_meeting_start a_t_meeting_end a_t_meeting_found t_meeting_count t_meeting_lower t_meeting_upper, x_ar cI a_t_pointKeys 200 z3]) ⟨hx, hb, hml, hown, hts⟩ (tX3_size l D cI a_t_meeting a_N a_t_meeting_start a_t_meeting_end a_t_meeting_found t_meeting_count t_meeting_lower t_meeting_upper v4 hv4) (cwV 0 hts gX5_addPoints_X3_size rfl rfl rfl (by decide +kernel) ⟨Nat.le_of_ble_eq_true rfl, Nat.le_of_ble_eq_true rfl⟩) hN hK hP hD hS hA [1] [none, some 0, none] rfl rfl rfl rfl rfl rfl 0 rfl rfl rfl hl.1 rfl (Nat.le_of_ble_eq_true rfl) dX5_addPoints_7 ⟨Nat.zero_le _, Nat.zero_le _⟩ (fun H locs hP hD hS => ?_)
      have J68 : ∀ (y5 : Int32) (w6 : (Nat → Int32)) (ls : Array Slot) (H : Heap) (locs : List Loc), kX5_addPoints_68 y5 w6 = some (s_t_pointCount, s_t_pointKeys_r) → lv_has ls 3 [] → va_P D vwCl [x_o5 a_t a_N a_t_meeting a_t_level a_t_pointKeys a_t_firstFlags a_t_flagPoints a_t_flagLines a_t_nexts a_t_befores a_t_walk a_t_places a_t_ringStarts a_t_ringSizes y5 t_flagCount t_ringCount, x_o3 a_t_meeting a_N a_t_meeting_start a_t_meeting_end a_t_meeting_found t_meeting_count t_meeting_lower t_meeting_upper, x_ar cI a_t_pointKeys 200 w6] H → va_D A [x_o5 a_t a_N a_t_meeting a_t_level a_t_pointKeys a_t_firstFlags a_t_flagPoints a_t_flagLines a_t_nexts a_t_befores a_t_walk a_t_places a_t_ringStarts a_t_ringSizes y5 t_flagCount t_ringCount, x_o3 a_t_meeting a_N a_t_meeting_start a_t_meeting_end a_t_meeting_found t_meeting_count t_meeting_lower t_meeting_upper, x_ar cI a_t_pointKeys 200 w6] → va_S A s.heap H locs → W p l e rmX5_addPoints s m args below meth c H locs 0 0 Q (F0 m 68 ls []) := by
        intro y5 w6 ls H locs hf hl hP hD hS
        unfold kX5_addPoints_68 at hf
        obtain ⟨rfl, rfl⟩ := o_s2 hf
        exact hret dX5_addPoints_68 hP hD hS
      refine lv_icmp_ge (tgt := 68) hx hb dX5_addPoints_10 (by decide) (fun hc => ?_) (fun hc => ?_)
      · have hf := o_t hf hc
        exact J68 x2 z3 _ _ _ hf (lv_sub hl [] rfl) hP hD hS
      · have hf := o_f hf hc
        refine lv_aload_n hx hb dX5_addPoints_13 rfl (lv_at hl 0 rfl) ?_
        refine va_get (D := D) (ci := 5) (C := RX5) (T := TX5) (N := 16) hx hb hts iX5 hown hK hP 0 rfl rfl 1 (by decide) l51 (fun _ h9 => h9) rfl dX5_addPoints_14 ?_
        refine lv_iload_n hx hb dX5_addPoints_17 rfl (lv_at hl 2 rfl) ?_
        obtain ⟨v7, hv7, hf⟩ := o_b1 hf
        refine x_vi (rest := []) (W1 := [x_o5 a_t a_N a_t_meeting a_t_level a_t_pointKeys a_t_firstFlags a_t_flagPoints a_t_flagLines a_t_nexts a_t_befores a_t_walk a_t_places a_t_ringStarts a_t_ringSizes x2 t_flagCount t_ringCount, x_o3 a_t_meeting a_N a_t_meeting_start a_t_meeting_end a_t_meeting_found t_meeting_count t_meeting_lower t_meeting_upper, x_ar cI a_t_pointKeys 200 z3]) ⟨hx, hb, hml, hown, hts⟩ (tX3_keyAt l D cI a_t_meeting a_N a_t_meeting_start a_t_meeting_end a_t_meeting_found t_meeting_count t_meeting_lower t_meeting_upper x1 v7 hv7) (cwV 1 hts gX5_addPoints_X3_keyAt rfl rfl rfl (by decide +kernel) ⟨Nat.le_of_ble_eq_true rfl, Nat.le_of_ble_eq_true rfl⟩) hN hK hP hD hS hA [1] [none, some 0, none] rfl rfl rfl rfl rfl rfl 0 rfl rfl rfl hl.1 rfl (Nat.le_of_ble_eq_true rfl) dX5_addPoints_18 ⟨Nat.zero_le _, Nat.zero_le _⟩ (fun H locs hP hD hS => ?_)
        refine lv_iload_n hx hb dX5_addPoints_21 rfl (lv_at hl 1 rfl) ?_
        have J62 : ∀ (y8 : Int32) (w9 : (Nat → Int32)) (ls : Array Slot) (H : Heap) (locs : List Loc), jX5_addPoints_62 x1 (gX5_addPoints_2 t_meeting_count t_meeting_lower t_meeting_upper i1 (kX5_addPoints_68) n2) y8 w9 = some (s_t_pointCount, s_t_pointKeys_r) → lv_has ls 3 [(0, .ref a_t), (1, .int i1), (2, .int x1)] → va_P D vwCl [x_o5 a_t a_N a_t_meeting a_t_level a_t_pointKeys a_t_firstFlags a_t_flagPoints a_t_flagLines a_t_nexts a_t_befores a_t_walk a_t_places a_t_ringStarts a_t_ringSizes y8 t_flagCount t_ringCount, x_o3 a_t_meeting a_N a_t_meeting_start a_t_meeting_end a_t_meeting_found t_meeting_count t_meeting_lower t_meeting_upper, x_ar cI a_t_pointKeys 200 w9] H → va_D A [x_o5 a_t a_N a_t_meeting a_t_level a_t_pointKeys a_t_firstFlags a_t_flagPoints a_t_flagLines a_t_nexts a_t_befores a_t_walk a_t_places a_t_ringStarts a_t_ringSizes y8 t_flagCount t_ringCount, x_o3 a_t_meeting a_N a_t_meeting_start a_t_meeting_end a_t_meeting_found t_meeting_count t_meeting_lower t_meeting_upper, x_ar cI a_t_pointKeys 200 w9] → va_S A s.heap H locs → W p l e rmX5_addPoints s m args below meth c H locs 0 0 Q (F0 m 62 ls []) := by
          intro y8 w9 ls H locs hf hl hP hD hS
          unfold jX5_addPoints_62 at hf
          obtain ⟨v10, ev10, hf⟩ := o_nm hf
          refine lv_iinc (v := v10) (lv' := [(2, .int v10), (0, .ref a_t), (1, .int i1)]) hx hb dX5_addPoints_62 hl (k := 2) rfl (by rw [ev10]; rfl) (by decide) rfl (fun ls hl => ?_)
          refine lv_goto (tgt := 2) hx hb dX5_addPoints_65 (by decide) ?_
          exact ih2 v10 y8 w9 _ _ _ hf (lv_sub hl [1, 2, 0] rfl) hP hD hS
        refine lv_icmp_ge (tgt := 62) hx hb dX5_addPoints_22 (by decide) (fun hc => ?_) (fun hc => ?_)
        · have hf := o_t hf hc
          exact J62 x2 z3 _ _ _ hf (lv_sub hl [0, 1, 2] rfl) hP hD hS
        · have hf := o_f hf hc
          refine lv_aload_n hx hb dX5_addPoints_25 rfl (lv_at hl 0 rfl) ?_
          refine va_get (D := D) (ci := 5) (C := RX5) (T := TX5) (N := 16) hx hb hts iX5 hown hK hP 0 rfl rfl 13 (by decide) l62 (fun _ h9 => h9) rfl dX5_addPoints_26 ?_
          refine lv_sipush (v := 200) hx hb dX5_addPoints_29 (by decide) ?_
          refine lv_icmp_ge (tgt := 62) hx hb dX5_addPoints_32 (by decide) (fun hc => ?_) (fun hc => ?_)
          · have hf := o_t hf hc
            exact J62 x2 z3 _ _ _ hf (lv_sub hl [0, 1, 2] rfl) hP hD hS
          · have hf := o_f hf hc
            refine lv_aload_n hx hb dX5_addPoints_35 rfl (lv_at hl 0 rfl) ?_
            refine va_get (D := D) (ci := 5) (C := RX5) (T := TX5) (N := 16) hx hb hts iX5 hown hK hP 0 rfl rfl 3 (by decide) l11 (fun _ h9 => h9) rfl dX5_addPoints_36 ?_
            refine lv_aload_n hx hb dX5_addPoints_39 rfl (lv_at hl 0 rfl) ?_
            refine va_get (D := D) (ci := 5) (C := RX5) (T := TX5) (N := 16) hx hb hts iX5 hown hK hP 0 rfl rfl 13 (by decide) l62 (fun _ h9 => h9) rfl dX5_addPoints_40 ?_
            refine lv_aload_n hx hb dX5_addPoints_43 rfl (lv_at hl 0 rfl) ?_
            refine va_get (D := D) (ci := 5) (C := RX5) (T := TX5) (N := 16) hx hb hts iX5 hown hK hP 0 rfl rfl 1 (by decide) l51 (fun _ h9 => h9) rfl dX5_addPoints_44 ?_
            refine lv_iload_n hx hb dX5_addPoints_47 rfl (lv_at hl 2 rfl) ?_
            obtain ⟨v11, hv11, hf⟩ := o_b1 hf
            refine x_vi (rest := [.int x2, .ref a_t_pointKeys]) (W1 := [x_o5 a_t a_N a_t_meeting a_t_level a_t_pointKeys a_t_firstFlags a_t_flagPoints a_t_flagLines a_t_nexts a_t_befores a_t_walk a_t_places a_t_ringStarts a_t_ringSizes x2 t_flagCount t_ringCount, x_o3 a_t_meeting a_N a_t_meeting_start a_t_meeting_end a_t_meeting_found t_meeting_count t_meeting_lower t_meeting_upper, x_ar cI a_t_pointKeys 200 z3]) ⟨hx, hb, hml, hown, hts⟩ (tX3_keyAt l D cI a_t_meeting a_N a_t_meeting_start a_t_meeting_end a_t_meeting_found t_meeting_count t_meeting_lower t_meeting_upper x1 v11 hv11) (cwV 1 hts gX5_addPoints_X3_keyAt rfl rfl rfl (by decide +kernel) ⟨Nat.le_of_ble_eq_true rfl, Nat.le_of_ble_eq_true rfl⟩) hN hK hP hD hS hA [1] [none, some 0, none] rfl rfl rfl rfl rfl rfl 0 rfl rfl rfl hl.1 rfl (Nat.le_of_ble_eq_true rfl) dX5_addPoints_48 ⟨Nat.zero_le _, Nat.zero_le _⟩ (fun H locs hP hD hS => ?_)
            obtain ⟨u12, hu12, hf⟩ := o_b1 hf
            refine x_ast (W1 := [x_o5 a_t a_N a_t_meeting a_t_level a_t_pointKeys a_t_firstFlags a_t_flagPoints a_t_flagLines a_t_nexts a_t_befores a_t_walk a_t_places a_t_ringStarts a_t_ringSizes x2 t_flagCount t_ringCount, x_o3 a_t_meeting a_N a_t_meeting_start a_t_meeting_end a_t_meeting_found t_meeting_count t_meeting_lower t_meeting_upper, x_ar cI a_t_pointKeys 200 u12]) hx hb hK hP hD hS 2 rfl hu12 rfl dX5_addPoints_51 (fun H locs hP hD hS => ?_)
            refine lv_aload_n hx hb dX5_addPoints_52 rfl (lv_at hl 0 rfl) ?_
            refine lv_dup hx hb dX5_addPoints_53 rfl ?_
            refine va_get (D := D) (ci := 5) (C := RX5) (T := TX5) (N := 16) hx hb hts iX5 hown hK hP 0 rfl rfl 13 (by decide) l62 (fun _ h9 => h9) rfl dX5_addPoints_54 ?_
            refine lv_iconst (v := 1) hx hb dX5_addPoints_57 (by decide) ?_
            refine lv_iadd hx hb dX5_addPoints_58 ?_
            obtain ⟨v13, ev13, hf⟩ := o_nm hf
            refine x_top ev13 ?_
            refine x_put (W1 := [x_o5 a_t a_N a_t_meeting a_t_level a_t_pointKeys a_t_firstFlags a_t_flagPoints a_t_flagLines a_t_nexts a_t_befores a_t_walk a_t_places a_t_ringStarts a_t_ringSizes v13 t_flagCount t_ringCount, x_o3 a_t_meeting a_N a_t_meeting_start a_t_meeting_end a_t_meeting_found t_meeting_count t_meeting_lower t_meeting_upper, x_ar cI a_t_pointKeys 200 u12]) (ty := .int) (C := RX5) (T := TX5) (N := 16) hx hb hts iX5 tyX5 tyX5_ok nmX5 hown hK hP hD hS 0 rfl rfl 13 (by decide) l62 rfl rfl (by decide +kernel) rfl rfl (Nat.le_of_ble_eq_true rfl) rfl dX5_addPoints_59 (fun H locs hP hD hS => ?_)
            exact J62 v13 u12 _ _ _ hf (lv_sub hl [0, 1, 2] rfl) hP hD hS
  exact L2 p_FU 0 t_pointCount t_pointKeys_r _ _ _ hf (lv_sub hl [1, 2, 0] rfl) hP hD hS
noncomputable def kX5_findPoints_59 (b1_a : Int32) (b1_b : Int32) (b1_c : Int32) (b1_d : Int32) (b1_e : Int32) (b1_f : Int32) (N_p : Int32) (N_inverses_r : (Nat → Int32)) (N_roots_r : (Nat → Int32)) (v1 : Int32) (y20 : Int32) (y21 : Int32) (y22 : Int32) (y23 : Int32) (y24 : Int32) (y25 : Int32) (y26 : Int32) (y27 : Int32) (y28 : Int32) (y29 : Int32) (y30 : Int32) (y31 : Int32) (y32 : Int32) (y33 : Int32) (y34 : Int32) (y35 : Int32) (w36 : (Nat → Int32)) : Option (Int32 × Int32 × Int32 × Int32 × Int32 × Int32 × Int32 × Int32 × Int32 × Int32 × Int32 × Int32 × Int32 × Int32 × Int32 × Int32 × (Nat → Int32)) :=
  p_b3 (fX7_take y21 y22 y23 N_p 0 0 1) (fun v37 v38 v39 =>
p_b1 (fX7_key v37 v38 v39 N_p N_inverses_r) (fun v40 =>
p_b12 (fX3_find y24 y25 y26 b1_a b1_b b1_c b1_d b1_e b1_f N_p N_inverses_r N_roots_r y27 y28 y29 y30 y31 y32 y33 y34 y35 v40) (fun v41 v42 v43 v44 v45 v46 v47 v48 v49 v50 v51 v52 =>
p_b2 (fX5_addPoints y20 v41 v42 v43 w36 (((v1 * v1) + v1) + 1)) (fun v53 u54 =>
some (v53, v37, v38, v39, v41, v42, v43, v44, v45, v46, v47, v48, v49, v50, v51, v52, u54)))))
noncomputable def FgX5_findPoints_15 (b1_a : Int32) (b1_b : Int32) (b1_c : Int32) (b1_d : Int32) (b1_e : Int32) (b1_f : Int32) (N_p : Int32) (N_inverses_r : (Nat → Int32)) (N_roots_r : (Nat → Int32)) (v1 : Int32) (rec15 : Int32 → Int32 → Int32 → Int32 → Int32 → Int32 → Int32 → Int32 → Int32 → Int32 → Int32 → Int32 → Int32 → Int32 → Int32 → Int32 → Int32 → (Nat → Int32) → Option (Int32 × Int32 × Int32 × Int32 × Int32 × Int32 × Int32 × Int32 × Int32 × Int32 × Int32 × Int32 × Int32 × Int32 × Int32 × Int32 × (Nat → Int32))) (kk15 : Int32 → Int32 → Int32 → Int32 → Int32 → Int32 → Int32 → Int32 → Int32 → Int32 → Int32 → Int32 → Int32 → Int32 → Int32 → Int32 → (Nat → Int32) → Option (Int32 × Int32 × Int32 × Int32 × Int32 × Int32 × Int32 × Int32 × Int32 × Int32 × Int32 × Int32 × Int32 × Int32 × Int32 × Int32 × (Nat → Int32))) (x2 : Int32) (x3 : Int32) (x4 : Int32) (x5 : Int32) (x6 : Int32) (x7 : Int32) (x8 : Int32) (x9 : Int32) (x10 : Int32) (x11 : Int32) (x12 : Int32) (x13 : Int32) (x14 : Int32) (x15 : Int32) (x16 : Int32) (x17 : Int32) (x18 : Int32) (z19 : (Nat → Int32)) : Option (Int32 × Int32 × Int32 × Int32 × Int32 × Int32 × Int32 × Int32 × Int32 × Int32 × Int32 × Int32 × Int32 × Int32 × Int32 × Int32 × (Nat → Int32)) :=
  if v1 ≤ x2 then (kk15 x3 x4 x5 x6 x7 x8 x9 x10 x11 x12 x13 x14 x15 x16 x17 x18 z19) else (p_b3 (fX7_take x4 x5 x6 N_p 0 1 (-x2)) (fun v55 v56 v57 =>
p_b1 (fX7_key v55 v56 v57 N_p N_inverses_r) (fun v58 =>
p_b12 (fX3_find x7 x8 x9 b1_a b1_b b1_c b1_d b1_e b1_f N_p N_inverses_r N_roots_r x10 x11 x12 x13 x14 x15 x16 x17 x18 v58) (fun v59 v60 v61 v62 v63 v64 v65 v66 v67 v68 v69 v70 =>
p_b2 (fX5_addPoints x3 v59 v60 v61 z19 (v1 * v1)) (fun v71 u72 =>
p_nm (x2 + 1) (fun v73 =>
rec15 v73 v71 v55 v56 v57 v59 v60 v61 v62 v63 v64 v65 v66 v67 v68 v69 v70 u72))))))
noncomputable def gX5_findPoints_15 (b1_a : Int32) (b1_b : Int32) (b1_c : Int32) (b1_d : Int32) (b1_e : Int32) (b1_f : Int32) (N_p : Int32) (N_inverses_r : (Nat → Int32)) (N_roots_r : (Nat → Int32)) (v1 : Int32) (kk15 : Int32 → Int32 → Int32 → Int32 → Int32 → Int32 → Int32 → Int32 → Int32 → Int32 → Int32 → Int32 → Int32 → Int32 → Int32 → Int32 → (Nat → Int32) → Option (Int32 × Int32 × Int32 × Int32 × Int32 × Int32 × Int32 × Int32 × Int32 × Int32 × Int32 × Int32 × Int32 × Int32 × Int32 × Int32 × (Nat → Int32))) (n : Nat) : Int32 → Int32 → Int32 → Int32 → Int32 → Int32 → Int32 → Int32 → Int32 → Int32 → Int32 → Int32 → Int32 → Int32 → Int32 → Int32 → Int32 → (Nat → Int32) → Option (Int32 × Int32 × Int32 × Int32 × Int32 × Int32 × Int32 × Int32 × Int32 × Int32 × Int32 × Int32 × Int32 × Int32 × Int32 × Int32 × (Nat → Int32)) := Nat.rec (motive := fun _ => Int32 → Int32 → Int32 → Int32 → Int32 → Int32 → Int32 → Int32 → Int32 → Int32 → Int32 → Int32 → Int32 → Int32 → Int32 → Int32 → Int32 → (Nat → Int32) → Option (Int32 × Int32 × Int32 × Int32 × Int32 × Int32 × Int32 × Int32 × Int32 × Int32 × Int32 × Int32 × Int32 × Int32 × Int32 × Int32 × (Nat → Int32))) (fun _ _ _ _ _ _ _ _ _ _ _ _ _ _ _ _ _ _ => none) (fun _ rec15 => FgX5_findPoints_15 b1_a b1_b b1_c b1_d b1_e b1_f N_p N_inverses_r N_roots_r v1 rec15 kk15) n
noncomputable def fX5_findPoints (t_pointCount : Int32) (b1_a : Int32) (b1_b : Int32) (b1_c : Int32) (b1_d : Int32) (b1_e : Int32) (b1_f : Int32) (N_p : Int32) (N_inverses_r : (Nat → Int32)) (N_roots_r : (Nat → Int32)) (t_level_x : Int32) (t_level_y : Int32) (t_level_z : Int32) (t_meeting_count : Int32) (t_meeting_lower : Int32) (t_meeting_upper : Int32) (t_meeting_end_x : Int32) (t_meeting_end_y : Int32) (t_meeting_end_z : Int32) (t_meeting_found_x : Int32) (t_meeting_found_y : Int32) (t_meeting_found_z : Int32) (t_meeting_start_x : Int32) (t_meeting_start_y : Int32) (t_meeting_start_z : Int32) (t_pointKeys_r : (Nat → Int32)) : Option (Int32 × Int32 × Int32 × Int32 × Int32 × Int32 × Int32 × Int32 × Int32 × Int32 × Int32 × Int32 × Int32 × Int32 × Int32 × Int32 × (Nat → Int32)) :=
  p_b1 (fX4_prime N_p) (fun v1 =>
gX5_findPoints_15 b1_a b1_b b1_c b1_d b1_e b1_f N_p N_inverses_r N_roots_r v1 (kX5_findPoints_59 b1_a b1_b b1_c b1_d b1_e b1_f N_p N_inverses_r N_roots_r v1) p_FU 0 0 t_level_x t_level_y t_level_z t_meeting_count t_meeting_lower t_meeting_upper t_meeting_end_x t_meeting_end_y t_meeting_end_z t_meeting_found_x t_meeting_found_y t_meeting_found_z t_meeting_start_x t_meeting_start_y t_meeting_start_z t_pointKeys_r)
def rmX5_findPoints : Room := { frames := 4, cells := 0, slots := 0, locals := 95 }
set_option maxHeartbeats 4000000 in
set_option maxRecDepth 100000 in
theorem tX5_findPoints (l : Launch) (D : va_G) (cI : ClassId) (a_t : Nat) (a_b1 : Nat) (a_N : Nat) (a_t_meeting : Nat) (a_t_level : Nat) (a_t_pointKeys : Nat) (a_t_firstFlags : Nat) (a_t_flagPoints : Nat) (a_t_flagLines : Nat) (a_t_nexts : Nat) (a_t_befores : Nat) (a_t_walk : Nat) (a_t_places : Nat) (a_t_ringStarts : Nat) (a_t_ringSizes : Nat) (a_N_inverses : Nat) (a_N_roots : Nat) (a_t_meeting_start : Nat) (a_t_meeting_end : Nat) (a_t_meeting_found : Nat) (t_pointCount : Int32) (t_flagCount : Int32) (t_ringCount : Int32) (b1_a : Int32) (b1_b : Int32) (b1_c : Int32) (b1_d : Int32) (b1_e : Int32) (b1_f : Int32) (N_p : Int32) (N_inverses_r : (Nat → Int32)) (N_roots_r : (Nat → Int32)) (t_level_x : Int32) (t_level_y : Int32) (t_level_z : Int32) (t_meeting_count : Int32) (t_meeting_lower : Int32) (t_meeting_upper : Int32) (t_meeting_end_x : Int32) (t_meeting_end_y : Int32) (t_meeting_end_z : Int32) (t_meeting_found_x : Int32) (t_meeting_found_y : Int32) (t_meeting_found_z : Int32) (t_meeting_start_x : Int32) (t_meeting_start_y : Int32) (t_meeting_start_z : Int32) (t_pointKeys_r : (Nat → Int32)) (s_t_pointCount : Int32) (s_t_level_x : Int32) (s_t_level_y : Int32) (s_t_level_z : Int32) (s_t_meeting_count : Int32) (s_t_meeting_lower : Int32) (s_t_meeting_upper : Int32) (s_t_meeting_end_x : Int32) (s_t_meeting_end_y : Int32) (s_t_meeting_end_z : Int32) (s_t_meeting_found_x : Int32) (s_t_meeting_found_y : Int32) (s_t_meeting_found_z : Int32) (s_t_meeting_start_x : Int32) (s_t_meeting_start_y : Int32) (s_t_meeting_start_z : Int32) (s_t_pointKeys_r : (Nat → Int32)) (hf : fX5_findPoints t_pointCount b1_a b1_b b1_c b1_d b1_e b1_f N_p N_inverses_r N_roots_r t_level_x t_level_y t_level_z t_meeting_count t_meeting_lower t_meeting_upper t_meeting_end_x t_meeting_end_y t_meeting_end_z t_meeting_found_x t_meeting_found_y t_meeting_found_z t_meeting_start_x t_meeting_start_y t_meeting_start_z t_pointKeys_r = some (s_t_pointCount, s_t_level_x, s_t_level_y, s_t_level_z, s_t_meeting_count, s_t_meeting_lower, s_t_meeting_upper, s_t_meeting_end_x, s_t_meeting_end_y, s_t_meeting_end_z, s_t_meeting_found_x, s_t_meeting_found_y, s_t_meeting_found_z, s_t_meeting_start_x, s_t_meeting_start_y, s_t_meeting_start_z, s_t_pointKeys_r)) : x_CV l D cI yX5_findPoints wsX5_findPoints rmX5_findPoints [.ref a_t, .ref a_b1] [x_o5 a_t a_N a_t_meeting a_t_level a_t_pointKeys a_t_firstFlags a_t_flagPoints a_t_flagLines a_t_nexts a_t_befores a_t_walk a_t_places a_t_ringStarts a_t_ringSizes t_pointCount t_flagCount t_ringCount, x_o2 a_b1 a_N b1_a b1_b b1_c b1_d b1_e b1_f, x_o4 a_N a_N_inverses a_N_roots N_p, x_ar cI a_N_inverses 200 N_inverses_r, x_ar cI a_N_roots 200 N_roots_r, x_o7 a_t_level a_N t_level_x t_level_y t_level_z, x_o3 a_t_meeting a_N a_t_meeting_start a_t_meeting_end a_t_meeting_found t_meeting_count t_meeting_lower t_meeting_upper, x_o7 a_t_meeting_end a_N t_meeting_end_x t_meeting_end_y t_meeting_end_z, x_o7 a_t_meeting_found a_N t_meeting_found_x t_meeting_found_y t_meeting_found_z, x_o7 a_t_meeting_start a_N t_meeting_start_x t_meeting_start_y t_meeting_start_z, x_ar cI a_t_pointKeys 200 t_pointKeys_r] [x_o5 a_t a_N a_t_meeting a_t_level a_t_pointKeys a_t_firstFlags a_t_flagPoints a_t_flagLines a_t_nexts a_t_befores a_t_walk a_t_places a_t_ringStarts a_t_ringSizes s_t_pointCount t_flagCount t_ringCount, x_o2 a_b1 a_N b1_a b1_b b1_c b1_d b1_e b1_f, x_o4 a_N a_N_inverses a_N_roots N_p, x_ar cI a_N_inverses 200 N_inverses_r, x_ar cI a_N_roots 200 N_roots_r, x_o7 a_t_level a_N s_t_level_x s_t_level_y s_t_level_z, x_o3 a_t_meeting a_N a_t_meeting_start a_t_meeting_end a_t_meeting_found s_t_meeting_count s_t_meeting_lower s_t_meeting_upper, x_o7 a_t_meeting_end a_N s_t_meeting_end_x s_t_meeting_end_y s_t_meeting_end_z, x_o7 a_t_meeting_found a_N s_t_meeting_found_x s_t_meeting_found_y s_t_meeting_found_z, x_o7 a_t_meeting_start a_N s_t_meeting_start_x s_t_meeting_start_y s_t_meeting_start_z, x_ar cI a_t_pointKeys 200 s_t_pointKeys_r] := by
  refine x_CV_of (cc := cX5_findPoints) (maxL := 4) (own := RX5) (lv0 := [(0, .ref a_t), (1, .ref a_b1)]) (by decide) rfl rfl (Nat.le_of_ble_eq_true rfl) rfl ?_
  intro p e s m args below meth c A Q ls hx hb hml hown hts hN hK hP hD hS hA hl hret
  have iX5 : ∀ w ∈ u_ws RX5 TX5 16, w ∈ wsX5_findPoints := by decide +kernel
  have l62 := hts (.fieldLink RX5 62 "ChordRings$Rings" "pointCount" "I") (by decide +kernel)
  have l42 := hts (.fieldLink RX5 42 "ChordRings$Rings" "numbers" "LChordRings$Numbers;") (by decide +kernel)
  have l58 := hts (.fieldLink RX5 58 "ChordRings$Rings" "level" "LChordRings$Triple;") (by decide +kernel)
  have l51 := hts (.fieldLink RX5 51 "ChordRings$Rings" "meeting" "LChordRings$Meeting;") (by decide +kernel)
  unfold fX5_findPoints at hf
  refine lv_aload_n hx hb dX5_findPoints_0 rfl (lv_at hl 0 rfl) ?_
  refine lv_iconst (v := 0) hx hb dX5_findPoints_1 (by decide) ?_
  refine x_put (W1 := [x_o5 a_t a_N a_t_meeting a_t_level a_t_pointKeys a_t_firstFlags a_t_flagPoints a_t_flagLines a_t_nexts a_t_befores a_t_walk a_t_places a_t_ringStarts a_t_ringSizes 0 t_flagCount t_ringCount, x_o2 a_b1 a_N b1_a b1_b b1_c b1_d b1_e b1_f, x_o4 a_N a_N_inverses a_N_roots N_p, x_ar cI a_N_inverses 200 N_inverses_r, x_ar cI a_N_roots 200 N_roots_r, x_o7 a_t_level a_N t_level_x t_level_y t_level_z, x_o3 a_t_meeting a_N a_t_meeting_start a_t_meeting_end a_t_meeting_found t_meeting_count t_meeting_lower t_meeting_upper, x_o7 a_t_meeting_end a_N t_meeting_end_x t_meeting_end_y t_meeting_end_z, x_o7 a_t_meeting_found a_N t_meeting_found_x t_meeting_found_y t_meeting_found_z, x_o7 a_t_meeting_start a_N t_meeting_start_x t_meeting_start_y t_meeting_start_z, x_ar cI a_t_pointKeys 200 t_pointKeys_r]) (ty := .int) (C := RX5) (T := TX5) (N := 16) hx hb hts iX5 tyX5 tyX5_ok nmX5 hown hK hP hD hS 0 rfl rfl 13 (by decide) l62 rfl rfl (by decide +kernel) rfl rfl (Nat.le_of_ble_eq_true rfl) rfl dX5_findPoints_2 (fun H locs hP hD hS => ?_)
  refine lv_aload_n hx hb dX5_findPoints_5 rfl (lv_at hl 0 rfl) ?_
  refine va_get (D := D) (ci := 5) (C := RX5) (T := TX5) (N := 16) hx hb hts iX5 hown hK hP 0 rfl rfl 0 (by decide) l42 (fun _ h9 => h9) rfl dX5_findPoints_6 ?_
  obtain ⟨v1, hv1, hf⟩ := o_b1 hf
  refine x_vi (rest := []) (W1 := [x_o5 a_t a_N a_t_meeting a_t_level a_t_pointKeys a_t_firstFlags a_t_flagPoints a_t_flagLines a_t_nexts a_t_befores a_t_walk a_t_places a_t_ringStarts a_t_ringSizes 0 t_flagCount t_ringCount, x_o2 a_b1 a_N b1_a b1_b b1_c b1_d b1_e b1_f, x_o4 a_N a_N_inverses a_N_roots N_p, x_ar cI a_N_inverses 200 N_inverses_r, x_ar cI a_N_roots 200 N_roots_r, x_o7 a_t_level a_N t_level_x t_level_y t_level_z, x_o3 a_t_meeting a_N a_t_meeting_start a_t_meeting_end a_t_meeting_found t_meeting_count t_meeting_lower t_meeting_upper, x_o7 a_t_meeting_end a_N t_meeting_end_x t_meeting_end_y t_meeting_end_z, x_o7 a_t_meeting_found a_N t_meeting_found_x t_meeting_found_y t_meeting_found_z, x_o7 a_t_meeting_start a_N t_meeting_start_x t_meeting_start_y t_meeting_start_z, x_ar cI a_t_pointKeys 200 t_pointKeys_r]) ⟨hx, hb, hml, hown, hts⟩ (tX4_prime l D cI a_N a_N_inverses a_N_roots N_p v1 hv1) (cwV 0 hts gX5_findPoints_X4_prime rfl rfl rfl (by decide +kernel) ⟨Nat.le_of_ble_eq_true rfl, Nat.le_of_ble_eq_true rfl⟩) hN hK hP hD hS hA [2] [none, none, some 0, none, none, none, none, none, none, none, none] rfl rfl rfl rfl rfl rfl 0 rfl rfl rfl hl.1 rfl (Nat.le_of_ble_eq_true rfl) dX5_findPoints_9 ⟨Nat.zero_le _, Nat.zero_le _⟩ (fun H locs hP hD hS => ?_)
  refine lv_istore_n (lv' := [(2, .int v1), (0, .ref a_t), (1, .ref a_b1)]) hx hb dX5_findPoints_12 rfl hl (by decide) rfl (fun ls hl => ?_)
  refine lv_iconst (v := 0) hx hb dX5_findPoints_13 (by decide) ?_
  refine lv_istore_n (lv' := [(3, .int 0), (2, .int v1), (0, .ref a_t), (1, .ref a_b1)]) hx hb dX5_findPoints_14 rfl hl (by decide) rfl (fun ls hl => ?_)
  have L15 : ∀ (n : Nat) (x2 : Int32) (x3 : Int32) (x4 : Int32) (x5 : Int32) (x6 : Int32) (x7 : Int32) (x8 : Int32) (x9 : Int32) (x10 : Int32) (x11 : Int32) (x12 : Int32) (x13 : Int32) (x14 : Int32) (x15 : Int32) (x16 : Int32) (x17 : Int32) (x18 : Int32) (z19 : (Nat → Int32)) (ls : Array Slot) (H : Heap) (locs : List Loc), gX5_findPoints_15 b1_a b1_b b1_c b1_d b1_e b1_f N_p N_inverses_r N_roots_r v1 (kX5_findPoints_59 b1_a b1_b b1_c b1_d b1_e b1_f N_p N_inverses_r N_roots_r v1) n x2 x3 x4 x5 x6 x7 x8 x9 x10 x11 x12 x13 x14 x15 x16 x17 x18 z19 = some (s_t_pointCount, s_t_level_x, s_t_level_y, s_t_level_z, s_t_meeting_count, s_t_meeting_lower, s_t_meeting_upper, s_t_meeting_end_x, s_t_meeting_end_y, s_t_meeting_end_z, s_t_meeting_found_x, s_t_meeting_found_y, s_t_meeting_found_z, s_t_meeting_start_x, s_t_meeting_start_y, s_t_meeting_start_z, s_t_pointKeys_r) → lv_has ls 4 [(0, .ref a_t), (1, .ref a_b1), (2, .int v1), (3, .int x2)] → va_P D vwCl [x_o5 a_t a_N a_t_meeting a_t_level a_t_pointKeys a_t_firstFlags a_t_flagPoints a_t_flagLines a_t_nexts a_t_befores a_t_walk a_t_places a_t_ringStarts a_t_ringSizes x3 t_flagCount t_ringCount, x_o2 a_b1 a_N b1_a b1_b b1_c b1_d b1_e b1_f, x_o4 a_N a_N_inverses a_N_roots N_p, x_ar cI a_N_inverses 200 N_inverses_r, x_ar cI a_N_roots 200 N_roots_r, x_o7 a_t_level a_N x4 x5 x6, x_o3 a_t_meeting a_N a_t_meeting_start a_t_meeting_end a_t_meeting_found x7 x8 x9, x_o7 a_t_meeting_end a_N x10 x11 x12, x_o7 a_t_meeting_found a_N x13 x14 x15, x_o7 a_t_meeting_start a_N x16 x17 x18, x_ar cI a_t_pointKeys 200 z19] H → va_D A [x_o5 a_t a_N a_t_meeting a_t_level a_t_pointKeys a_t_firstFlags a_t_flagPoints a_t_flagLines a_t_nexts a_t_befores a_t_walk a_t_places a_t_ringStarts a_t_ringSizes x3 t_flagCount t_ringCount, x_o2 a_b1 a_N b1_a b1_b b1_c b1_d b1_e b1_f, x_o4 a_N a_N_inverses a_N_roots N_p, x_ar cI a_N_inverses 200 N_inverses_r, x_ar cI a_N_roots 200 N_roots_r, x_o7 a_t_level a_N x4 x5 x6, x_o3 a_t_meeting a_N a_t_meeting_start a_t_meeting_end a_t_meeting_found x7 x8 x9, x_o7 a_t_meeting_end a_N x10 x11 x12, x_o7 a_t_meeting_found a_N x13 x14 x15, x_o7 a_t_meeting_start a_N x16 x17 x18, x_ar cI a_t_pointKeys 200 z19] → va_S A s.heap H locs → W p l e rmX5_findPoints s m args below meth c H locs 0 0 Q (F0 m 15 ls []) := by
    intro n15
    induction n15 with
    | zero =>
      intro x2 x3 x4 x5 x6 x7 x8 x9 x10 x11 x12 x13 x14 x15 x16 x17 x18 z19 ls H locs hf
      exact nomatch (show (none : Option (Int32 × Int32 × Int32 × Int32 × Int32 × Int32 × Int32 × Int32 × Int32 × Int32 × Int32 × Int32 × Int32 × Int32 × Int32 × Int32 × (Nat → Int32))) = some (s_t_pointCount, s_t_level_x, s_t_level_y, s_t_level_z, s_t_meeting_count, s_t_meeting_lower, s_t_meeting_upper, s_t_meeting_end_x, s_t_meeting_end_y, s_t_meeting_end_z, s_t_meeting_found_x, s_t_meeting_found_y, s_t_meeting_found_z, s_t_meeting_start_x, s_t_meeting_start_y, s_t_meeting_start_z, s_t_pointKeys_r) from hf)
    | succ n15 ih15 =>
      intro x2 x3 x4 x5 x6 x7 x8 x9 x10 x11 x12 x13 x14 x15 x16 x17 x18 z19 ls H locs hf hl hP hD hS
      have hf : FgX5_findPoints_15 b1_a b1_b b1_c b1_d b1_e b1_f N_p N_inverses_r N_roots_r v1 (gX5_findPoints_15 b1_a b1_b b1_c b1_d b1_e b1_f N_p N_inverses_r N_roots_r v1 (kX5_findPoints_59 b1_a b1_b b1_c b1_d b1_e b1_f N_p N_inverses_r N_roots_r v1) n15) (kX5_findPoints_59 b1_a b1_b b1_c b1_d b1_e b1_f N_p N_inverses_r N_roots_r v1) x2 x3 x4 x5 x6 x7 x8 x9 x10 x11 x12 x13 x14 x15 x16 x17 x18 z19 = some (s_t_pointCount, s_t_level_x, s_t_level_y, s_t_level_z, s_t_meeting_count, s_t_meeting_lower, s_t_meeting_upper, s_t_meeting_end_x, s_t_meeting_end_y, s_t_meeting_end_z, s_t_meeting_found_x, s_t_meeting_found_y, s_t_meeting_found_z, s_t_meeting_start_x, s_t_meeting_start_y, s_t_meeting_start_z, s_t_pointKeys_r) := hf
      unfold FgX5_findPoints_15 at hf
      refine lv_iload_n hx hb dX5_findPoints_15 rfl (lv_at hl 3 rfl) ?_
      refine lv_iload_n hx hb dX5_findPoints_16 rfl (lv_at hl 2 rfl) ?_
      have J59 : ∀ (y20 : Int32) (y21 : Int32) (y22 : Int32) (y23 : Int32) (y24 : Int32) (y25 : Int32) (y26 : Int32) (y27 : Int32) (y28 : Int32) (y29 : Int32) (y30 : Int32) (y31 : Int32) (y32 : Int32) (y33 : Int32) (y34 : Int32) (y35 : Int32) (w36 : (Nat → Int32)) (ls : Array Slot) (H : Heap) (locs : List Loc), kX5_findPoints_59 b1_a b1_b b1_c b1_d b1_e b1_f N_p N_inverses_r N_roots_r v1 y20 y21 y22 y23 y24 y25 y26 y27 y28 y29 y30 y31 y32 y33 y34 y35 w36 = some (s_t_pointCount, s_t_level_x, s_t_level_y, s_t_level_z, s_t_meeting_count, s_t_meeting_lower, s_t_meeting_upper, s_t_meeting_end_x, s_t_meeting_end_y, s_t_meeting_end_z, s_t_meeting_found_x, s_t_meeting_found_y, s_t_meeting_found_z, s_t_meeting_start_x, s_t_meeting_start_y, s_t_meeting_start_z, s_t_pointKeys_r) → lv_has ls 4 [(0, .ref a_t), (1, .ref a_b1), (2, .int v1)] → va_P D vwCl [x_o5 a_t a_N a_t_meeting a_t_level a_t_pointKeys a_t_firstFlags a_t_flagPoints a_t_flagLines a_t_nexts a_t_befores a_t_walk a_t_places a_t_ringStarts a_t_ringSizes y20 t_flagCount t_ringCount, x_o2 a_b1 a_N b1_a b1_b b1_c b1_d b1_e b1_f, x_o4 a_N a_N_inverses a_N_roots N_p, x_ar cI a_N_inverses 200 N_inverses_r, x_ar cI a_N_roots 200 N_roots_r, x_o7 a_t_level a_N y21 y22 y23, x_o3 a_t_meeting a_N a_t_meeting_start a_t_meeting_end a_t_meeting_found y24 y25 y26, x_o7 a_t_meeting_end a_N y27 y28 y29, x_o7 a_t_meeting_found a_N y30 y31 y32, x_o7 a_t_meeting_start a_N y33 y34 y35, x_ar cI a_t_pointKeys 200 w36] H → va_D A [x_o5 a_t a_N a_t_meeting a_t_level a_t_pointKeys a_t_firstFlags a_t_flagPoints a_t_flagLines a_t_nexts a_t_befores a_t_walk a_t_places a_t_ringStarts a_t_ringSizes y20 t_flagCount t_ringCount, x_o2 a_b1 a_N b1_a b1_b b1_c b1_d b1_e b1_f, x_o4 a_N a_N_inverses a_N_roots N_p, x_ar cI a_N_inverses 200 N_inverses_r, x_ar cI a_N_roots 200 N_roots_r, x_o7 a_t_level a_N y21 y22 y23, x_o3 a_t_meeting a_N a_t_meeting_start a_t_meeting_end a_t_meeting_found y24 y25 y26, x_o7 a_t_meeting_end a_N y27 y28 y29, x_o7 a_t_meeting_found a_N y30 y31 y32, x_o7 a_t_meeting_start a_N y33 y34 y35, x_ar cI a_t_pointKeys 200 w36] → va_S A s.heap H locs → W p l e rmX5_findPoints s m args below meth c H locs 0 0 Q (F0 m 59 ls []) := by
        intro y20 y21 y22 y23 y24 y25 y26 y27 y28 y29 y30 y31 y32 y33 y34 y35 w36 ls H locs hf hl hP hD hS
        unfold kX5_findPoints_59 at hf
        refine lv_aload_n hx hb dX5_findPoints_59 rfl (lv_at hl 0 rfl) ?_
        refine va_get (D := D) (ci := 5) (C := RX5) (T := TX5) (N := 16) hx hb hts iX5 hown hK hP 0 rfl rfl 2 (by decide) l58 (fun _ h9 => h9) rfl dX5_findPoints_60 ?_
        refine lv_iconst (v := 0) hx hb dX5_findPoints_63 (by decide) ?_
        refine lv_iconst (v := 0) hx hb dX5_findPoints_64 (by decide) ?_
        refine lv_iconst (v := 1) hx hb dX5_findPoints_65 (by decide) ?_
        obtain ⟨v37, v38, v39, hv37, hf⟩ := o_b3 hf
        refine x_vv (rest := []) (W1 := [x_o5 a_t a_N a_t_meeting a_t_level a_t_pointKeys a_t_firstFlags a_t_flagPoints a_t_flagLines a_t_nexts a_t_befores a_t_walk a_t_places a_t_ringStarts a_t_ringSizes y20 t_flagCount t_ringCount, x_o2 a_b1 a_N b1_a b1_b b1_c b1_d b1_e b1_f, x_o4 a_N a_N_inverses a_N_roots N_p, x_ar cI a_N_inverses 200 N_inverses_r, x_ar cI a_N_roots 200 N_roots_r, x_o7 a_t_level a_N v37 v38 v39, x_o3 a_t_meeting a_N a_t_meeting_start a_t_meeting_end a_t_meeting_found y24 y25 y26, x_o7 a_t_meeting_end a_N y27 y28 y29, x_o7 a_t_meeting_found a_N y30 y31 y32, x_o7 a_t_meeting_start a_N y33 y34 y35, x_ar cI a_t_pointKeys 200 w36]) ⟨hx, hb, hml, hown, hts⟩ (tX7_take l D cI a_t_level a_N a_N_inverses a_N_roots y21 y22 y23 N_p 0 0 1 v37 v38 v39 hv37) (cwV 3 hts gX5_findPoints_X7_take rfl rfl rfl (by decide +kernel) ⟨Nat.le_of_ble_eq_true rfl, Nat.le_of_ble_eq_true rfl⟩) hN hK hP hD hS hA [5, 2] [none, none, some 1, none, none, some 0, none, none, none, none, none] rfl rfl rfl rfl rfl rfl 0 rfl rfl rfl hl.1 rfl (Nat.le_of_ble_eq_true rfl) dX5_findPoints_66 ⟨Nat.zero_le _, Nat.zero_le _⟩ (fun H locs hP hD hS => ?_)
        refine lv_aload_n hx hb dX5_findPoints_69 rfl (lv_at hl 0 rfl) ?_
        refine va_get (D := D) (ci := 5) (C := RX5) (T := TX5) (N := 16) hx hb hts iX5 hown hK hP 0 rfl rfl 1 (by decide) l51 (fun _ h9 => h9) rfl dX5_findPoints_70 ?_
        refine lv_aload_n hx hb dX5_findPoints_73 rfl (lv_at hl 1 rfl) ?_
        refine lv_aload_n hx hb dX5_findPoints_74 rfl (lv_at hl 0 rfl) ?_
        refine va_get (D := D) (ci := 5) (C := RX5) (T := TX5) (N := 16) hx hb hts iX5 hown hK hP 0 rfl rfl 2 (by decide) l58 (fun _ h9 => h9) rfl dX5_findPoints_75 ?_
        obtain ⟨v40, hv40, hf⟩ := o_b1 hf
        refine x_vi (rest := [.ref a_b1, .ref a_t_meeting]) (W1 := [x_o5 a_t a_N a_t_meeting a_t_level a_t_pointKeys a_t_firstFlags a_t_flagPoints a_t_flagLines a_t_nexts a_t_befores a_t_walk a_t_places a_t_ringStarts a_t_ringSizes y20 t_flagCount t_ringCount, x_o2 a_b1 a_N b1_a b1_b b1_c b1_d b1_e b1_f, x_o4 a_N a_N_inverses a_N_roots N_p, x_ar cI a_N_inverses 200 N_inverses_r, x_ar cI a_N_roots 200 N_roots_r, x_o7 a_t_level a_N v37 v38 v39, x_o3 a_t_meeting a_N a_t_meeting_start a_t_meeting_end a_t_meeting_found y24 y25 y26, x_o7 a_t_meeting_end a_N y27 y28 y29, x_o7 a_t_meeting_found a_N y30 y31 y32, x_o7 a_t_meeting_start a_N y33 y34 y35, x_ar cI a_t_pointKeys 200 w36]) ⟨hx, hb, hml, hown, hts⟩ (tX7_key l D cI a_t_level a_N a_N_inverses a_N_roots v37 v38 v39 N_p N_inverses_r v40 hv40) (cwV 0 hts gX5_findPoints_X7_key rfl rfl rfl (by decide +kernel) ⟨Nat.le_of_ble_eq_true rfl, Nat.le_of_ble_eq_true rfl⟩) hN hK hP hD hS hA [5, 2, 3] [none, none, some 1, some 2, none, some 0, none, none, none, none, none] rfl rfl rfl rfl rfl rfl 0 rfl rfl rfl hl.1 rfl (Nat.le_of_ble_eq_true rfl) dX5_findPoints_78 ⟨Nat.zero_le _, Nat.zero_le _⟩ (fun H locs hP hD hS => ?_)
        obtain ⟨v41, v42, v43, v44, v45, v46, v47, v48, v49, v50, v51, v52, hv41, hf⟩ := o_b12 hf
        refine x_vv (rest := []) (W1 := [x_o5 a_t a_N a_t_meeting a_t_level a_t_pointKeys a_t_firstFlags a_t_flagPoints a_t_flagLines a_t_nexts a_t_befores a_t_walk a_t_places a_t_ringStarts a_t_ringSizes y20 t_flagCount t_ringCount, x_o2 a_b1 a_N b1_a b1_b b1_c b1_d b1_e b1_f, x_o4 a_N a_N_inverses a_N_roots N_p, x_ar cI a_N_inverses 200 N_inverses_r, x_ar cI a_N_roots 200 N_roots_r, x_o7 a_t_level a_N v37 v38 v39, x_o3 a_t_meeting a_N a_t_meeting_start a_t_meeting_end a_t_meeting_found v41 v42 v43, x_o7 a_t_meeting_end a_N v44 v45 v46, x_o7 a_t_meeting_found a_N v47 v48 v49, x_o7 a_t_meeting_start a_N v50 v51 v52, x_ar cI a_t_pointKeys 200 w36]) ⟨hx, hb, hml, hown, hts⟩ (tX3_find l D cI a_t_meeting a_b1 a_N a_t_meeting_start a_t_meeting_end a_t_meeting_found a_N_inverses a_N_roots y24 y25 y26 b1_a b1_b b1_c b1_d b1_e b1_f N_p N_inverses_r N_roots_r y27 y28 y29 y30 y31 y32 y33 y34 y35 v40 v41 v42 v43 v44 v45 v46 v47 v48 v49 v50 v51 v52 hv41) (cwV 2 hts gX5_findPoints_X3_find rfl rfl rfl (by decide +kernel) ⟨Nat.le_of_ble_eq_true rfl, Nat.le_of_ble_eq_true rfl⟩) hN hK hP hD hS hA [6, 1, 2, 3, 4, 7, 8, 9] [none, some 1, some 2, some 3, some 4, none, some 0, some 5, some 6, some 7, none] rfl rfl rfl rfl rfl rfl 0 rfl rfl rfl hl.1 rfl (Nat.le_of_ble_eq_true rfl) dX5_findPoints_81 ⟨Nat.zero_le _, Nat.zero_le _⟩ (fun H locs hP hD hS => ?_)
        refine lv_aload_n hx hb dX5_findPoints_84 rfl (lv_at hl 0 rfl) ?_
        refine lv_iload_n hx hb dX5_findPoints_85 rfl (lv_at hl 2 rfl) ?_
        refine lv_iload_n hx hb dX5_findPoints_86 rfl (lv_at hl 2 rfl) ?_
        refine lv_imul hx hb dX5_findPoints_87 ?_
        refine lv_iload_n hx hb dX5_findPoints_88 rfl (lv_at hl 2 rfl) ?_
        refine lv_iadd hx hb dX5_findPoints_89 ?_
        refine lv_iconst (v := 1) hx hb dX5_findPoints_90 (by decide) ?_
        refine lv_iadd hx hb dX5_findPoints_91 ?_
        obtain ⟨v53, u54, hv53, hf⟩ := o_b2 hf
        refine x_vv (rest := []) (W1 := [x_o5 a_t a_N a_t_meeting a_t_level a_t_pointKeys a_t_firstFlags a_t_flagPoints a_t_flagLines a_t_nexts a_t_befores a_t_walk a_t_places a_t_ringStarts a_t_ringSizes v53 t_flagCount t_ringCount, x_o2 a_b1 a_N b1_a b1_b b1_c b1_d b1_e b1_f, x_o4 a_N a_N_inverses a_N_roots N_p, x_ar cI a_N_inverses 200 N_inverses_r, x_ar cI a_N_roots 200 N_roots_r, x_o7 a_t_level a_N v37 v38 v39, x_o3 a_t_meeting a_N a_t_meeting_start a_t_meeting_end a_t_meeting_found v41 v42 v43, x_o7 a_t_meeting_end a_N v44 v45 v46, x_o7 a_t_meeting_found a_N v47 v48 v49, x_o7 a_t_meeting_start a_N v50 v51 v52, x_ar cI a_t_pointKeys 200 u54]) ⟨hx, hb, hml, hown, hts⟩ (tX5_addPoints l D cI a_t a_N a_t_meeting a_t_level a_t_pointKeys a_t_firstFlags a_t_flagPoints a_t_flagLines a_t_nexts a_t_befores a_t_walk a_t_places a_t_ringStarts a_t_ringSizes a_t_meeting_start a_t_meeting_end a_t_meeting_found y20 t_flagCount t_ringCount v41 v42 v43 w36 (((v1 * v1) + v1) + 1) v53 u54 hv53) (cwV 1 hts gX5_findPoints_X5_addPoints rfl rfl rfl (by decide +kernel) ⟨Nat.le_of_ble_eq_true rfl, Nat.le_of_ble_eq_true rfl⟩) hN hK hP hD hS hA [0, 6, 10] [some 0, none, none, none, none, none, some 1, none, none, none, some 2] rfl rfl rfl rfl rfl rfl 0 rfl rfl rfl hl.1 rfl (Nat.le_of_ble_eq_true rfl) dX5_findPoints_92 ⟨Nat.zero_le _, Nat.zero_le _⟩ (fun H locs hP hD hS => ?_)
        obtain ⟨rfl, rfl, rfl, rfl, rfl, rfl, rfl, rfl, rfl, rfl, rfl, rfl, rfl, rfl, rfl, rfl, rfl⟩ := o_s17 hf
        exact hret dX5_findPoints_95 hP hD hS
      refine lv_icmp_ge (tgt := 59) hx hb dX5_findPoints_17 (by decide) (fun hc => ?_) (fun hc => ?_)
      · have hf := o_t hf hc
        exact J59 x3 x4 x5 x6 x7 x8 x9 x10 x11 x12 x13 x14 x15 x16 x17 x18 z19 _ _ _ hf (lv_sub hl [0, 1, 2] rfl) hP hD hS
      · have hf := o_f hf hc
        refine lv_aload_n hx hb dX5_findPoints_20 rfl (lv_at hl 0 rfl) ?_
        refine va_get (D := D) (ci := 5) (C := RX5) (T := TX5) (N := 16) hx hb hts iX5 hown hK hP 0 rfl rfl 2 (by decide) l58 (fun _ h9 => h9) rfl dX5_findPoints_21 ?_
        refine lv_iconst (v := 0) hx hb dX5_findPoints_24 (by decide) ?_
        refine lv_iconst (v := 1) hx hb dX5_findPoints_25 (by decide) ?_
        refine lv_iload_n hx hb dX5_findPoints_26 rfl (lv_at hl 3 rfl) ?_
        refine lv_ineg hx hb dX5_findPoints_27 ?_
        obtain ⟨v55, v56, v57, hv55, hf⟩ := o_b3 hf
        refine x_vv (rest := []) (W1 := [x_o5 a_t a_N a_t_meeting a_t_level a_t_pointKeys a_t_firstFlags a_t_flagPoints a_t_flagLines a_t_nexts a_t_befores a_t_walk a_t_places a_t_ringStarts a_t_ringSizes x3 t_flagCount t_ringCount, x_o2 a_b1 a_N b1_a b1_b b1_c b1_d b1_e b1_f, x_o4 a_N a_N_inverses a_N_roots N_p, x_ar cI a_N_inverses 200 N_inverses_r, x_ar cI a_N_roots 200 N_roots_r, x_o7 a_t_level a_N v55 v56 v57, x_o3 a_t_meeting a_N a_t_meeting_start a_t_meeting_end a_t_meeting_found x7 x8 x9, x_o7 a_t_meeting_end a_N x10 x11 x12, x_o7 a_t_meeting_found a_N x13 x14 x15, x_o7 a_t_meeting_start a_N x16 x17 x18, x_ar cI a_t_pointKeys 200 z19]) ⟨hx, hb, hml, hown, hts⟩ (tX7_take l D cI a_t_level a_N a_N_inverses a_N_roots x4 x5 x6 N_p 0 1 (-x2) v55 v56 v57 hv55) (cwV 3 hts gX5_findPoints_X7_take rfl rfl rfl (by decide +kernel) ⟨Nat.le_of_ble_eq_true rfl, Nat.le_of_ble_eq_true rfl⟩) hN hK hP hD hS hA [5, 2] [none, none, some 1, none, none, some 0, none, none, none, none, none] rfl rfl rfl rfl rfl rfl 0 rfl rfl rfl hl.1 rfl (Nat.le_of_ble_eq_true rfl) dX5_findPoints_28 ⟨Nat.zero_le _, Nat.zero_le _⟩ (fun H locs hP hD hS => ?_)
        refine lv_aload_n hx hb dX5_findPoints_31 rfl (lv_at hl 0 rfl) ?_
        refine va_get (D := D) (ci := 5) (C := RX5) (T := TX5) (N := 16) hx hb hts iX5 hown hK hP 0 rfl rfl 1 (by decide) l51 (fun _ h9 => h9) rfl dX5_findPoints_32 ?_
        refine lv_aload_n hx hb dX5_findPoints_35 rfl (lv_at hl 1 rfl) ?_
        refine lv_aload_n hx hb dX5_findPoints_36 rfl (lv_at hl 0 rfl) ?_
        refine va_get (D := D) (ci := 5) (C := RX5) (T := TX5) (N := 16) hx hb hts iX5 hown hK hP 0 rfl rfl 2 (by decide) l58 (fun _ h9 => h9) rfl dX5_findPoints_37 ?_
        obtain ⟨v58, hv58, hf⟩ := o_b1 hf
        refine x_vi (rest := [.ref a_b1, .ref a_t_meeting]) (W1 := [x_o5 a_t a_N a_t_meeting a_t_level a_t_pointKeys a_t_firstFlags a_t_flagPoints a_t_flagLines a_t_nexts a_t_befores a_t_walk a_t_places a_t_ringStarts a_t_ringSizes x3 t_flagCount t_ringCount, x_o2 a_b1 a_N b1_a b1_b b1_c b1_d b1_e b1_f, x_o4 a_N a_N_inverses a_N_roots N_p, x_ar cI a_N_inverses 200 N_inverses_r, x_ar cI a_N_roots 200 N_roots_r, x_o7 a_t_level a_N v55 v56 v57, x_o3 a_t_meeting a_N a_t_meeting_start a_t_meeting_end a_t_meeting_found x7 x8 x9, x_o7 a_t_meeting_end a_N x10 x11 x12, x_o7 a_t_meeting_found a_N x13 x14 x15, x_o7 a_t_meeting_start a_N x16 x17 x18, x_ar cI a_t_pointKeys 200 z19]) ⟨hx, hb, hml, hown, hts⟩ (tX7_key l D cI a_t_level a_N a_N_inverses a_N_roots v55 v56 v57 N_p N_inverses_r v58 hv58) (cwV 0 hts gX5_findPoints_X7_key rfl rfl rfl (by decide +kernel) ⟨Nat.le_of_ble_eq_true rfl, Nat.le_of_ble_eq_true rfl⟩) hN hK hP hD hS hA [5, 2, 3] [none, none, some 1, some 2, none, some 0, none, none, none, none, none] rfl rfl rfl rfl rfl rfl 0 rfl rfl rfl hl.1 rfl (Nat.le_of_ble_eq_true rfl) dX5_findPoints_40 ⟨Nat.zero_le _, Nat.zero_le _⟩ (fun H locs hP hD hS => ?_)
        obtain ⟨v59, v60, v61, v62, v63, v64, v65, v66, v67, v68, v69, v70, hv59, hf⟩ := o_b12 hf
        refine x_vv (rest := []) (W1 := [x_o5 a_t a_N a_t_meeting a_t_level a_t_pointKeys a_t_firstFlags a_t_flagPoints a_t_flagLines a_t_nexts a_t_befores a_t_walk a_t_places a_t_ringStarts a_t_ringSizes x3 t_flagCount t_ringCount, x_o2 a_b1 a_N b1_a b1_b b1_c b1_d b1_e b1_f, x_o4 a_N a_N_inverses a_N_roots N_p, x_ar cI a_N_inverses 200 N_inverses_r, x_ar cI a_N_roots 200 N_roots_r, x_o7 a_t_level a_N v55 v56 v57, x_o3 a_t_meeting a_N a_t_meeting_start a_t_meeting_end a_t_meeting_found v59 v60 v61, x_o7 a_t_meeting_end a_N v62 v63 v64, x_o7 a_t_meeting_found a_N v65 v66 v67, x_o7 a_t_meeting_start a_N v68 v69 v70, x_ar cI a_t_pointKeys 200 z19]) ⟨hx, hb, hml, hown, hts⟩ (tX3_find l D cI a_t_meeting a_b1 a_N a_t_meeting_start a_t_meeting_end a_t_meeting_found a_N_inverses a_N_roots x7 x8 x9 b1_a b1_b b1_c b1_d b1_e b1_f N_p N_inverses_r N_roots_r x10 x11 x12 x13 x14 x15 x16 x17 x18 v58 v59 v60 v61 v62 v63 v64 v65 v66 v67 v68 v69 v70 hv59) (cwV 2 hts gX5_findPoints_X3_find rfl rfl rfl (by decide +kernel) ⟨Nat.le_of_ble_eq_true rfl, Nat.le_of_ble_eq_true rfl⟩) hN hK hP hD hS hA [6, 1, 2, 3, 4, 7, 8, 9] [none, some 1, some 2, some 3, some 4, none, some 0, some 5, some 6, some 7, none] rfl rfl rfl rfl rfl rfl 0 rfl rfl rfl hl.1 rfl (Nat.le_of_ble_eq_true rfl) dX5_findPoints_43 ⟨Nat.zero_le _, Nat.zero_le _⟩ (fun H locs hP hD hS => ?_)
        refine lv_aload_n hx hb dX5_findPoints_46 rfl (lv_at hl 0 rfl) ?_
        refine lv_iload_n hx hb dX5_findPoints_47 rfl (lv_at hl 2 rfl) ?_
        refine lv_iload_n hx hb dX5_findPoints_48 rfl (lv_at hl 2 rfl) ?_
        refine lv_imul hx hb dX5_findPoints_49 ?_
        obtain ⟨v71, u72, hv71, hf⟩ := o_b2 hf
        refine x_vv (rest := []) (W1 := [x_o5 a_t a_N a_t_meeting a_t_level a_t_pointKeys a_t_firstFlags a_t_flagPoints a_t_flagLines a_t_nexts a_t_befores a_t_walk a_t_places a_t_ringStarts a_t_ringSizes v71 t_flagCount t_ringCount, x_o2 a_b1 a_N b1_a b1_b b1_c b1_d b1_e b1_f, x_o4 a_N a_N_inverses a_N_roots N_p, x_ar cI a_N_inverses 200 N_inverses_r, x_ar cI a_N_roots 200 N_roots_r, x_o7 a_t_level a_N v55 v56 v57, x_o3 a_t_meeting a_N a_t_meeting_start a_t_meeting_end a_t_meeting_found v59 v60 v61, x_o7 a_t_meeting_end a_N v62 v63 v64, x_o7 a_t_meeting_found a_N v65 v66 v67, x_o7 a_t_meeting_start a_N v68 v69 v70, x_ar cI a_t_pointKeys 200 u72]) ⟨hx, hb, hml, hown, hts⟩ (tX5_addPoints l D cI a_t a_N a_t_meeting a_t_level a_t_pointKeys a_t_firstFlags a_t_flagPoints a_t_flagLines a_t_nexts a_t_befores a_t_walk a_t_places a_t_ringStarts a_t_ringSizes a_t_meeting_start a_t_meeting_end a_t_meeting_found x3 t_flagCount t_ringCount v59 v60 v61 z19 (v1 * v1) v71 u72 hv71) (cwV 1 hts gX5_findPoints_X5_addPoints rfl rfl rfl (by decide +kernel) ⟨Nat.le_of_ble_eq_true rfl, Nat.le_of_ble_eq_true rfl⟩) hN hK hP hD hS hA [0, 6, 10] [some 0, none, none, none, none, none, some 1, none, none, none, some 2] rfl rfl rfl rfl rfl rfl 0 rfl rfl rfl hl.1 rfl (Nat.le_of_ble_eq_true rfl) dX5_findPoints_50 ⟨Nat.zero_le _, Nat.zero_le _⟩ (fun H locs hP hD hS => ?_)
        obtain ⟨v73, ev73, hf⟩ := o_nm hf
        refine lv_iinc (v := v73) (lv' := [(3, .int v73), (0, .ref a_t), (1, .ref a_b1), (2, .int v1)]) hx hb dX5_findPoints_53 hl (k := 3) rfl (by rw [ev73]; rfl) (by decide) rfl (fun ls hl => ?_)
        refine lv_goto (tgt := 15) hx hb dX5_findPoints_56 (by decide) ?_
        exact ih15 v73 v71 v55 v56 v57 v59 v60 v61 v62 v63 v64 v65 v66 v67 v68 v69 v70 u72 _ _ _ hf (lv_sub hl [1, 2, 3, 0] rfl) hP hD hS
  exact L15 p_FU 0 0 t_level_x t_level_y t_level_z t_meeting_count t_meeting_lower t_meeting_upper t_meeting_end_x t_meeting_end_y t_meeting_end_z t_meeting_found_x t_meeting_found_y t_meeting_found_z t_meeting_start_x t_meeting_start_y t_meeting_start_z t_pointKeys_r _ _ _ hf (lv_sub hl [2, 3, 1, 0] rfl) hP hD hS
noncomputable def kX5_walkRing_98 (y5 : Int32) (w6 : (Nat → Int32)) (w7 : (Nat → Int32)) (w11 : (Nat → Int32)) (w12 : (Nat → Int32)) : Option (Int32 × (Nat → Int32) × (Nat → Int32) × (Nat → Int32) × (Nat → Int32)) :=
  some (y5, w6, w11, w12, w7)
noncomputable def FgX5_walkRing_58 (i2 : Int32) (y5 : Int32) (w7 : (Nat → Int32)) (rec58 : Int32 → (Nat → Int32) → (Nat → Int32) → Option (Int32 × (Nat → Int32) × (Nat → Int32) × (Nat → Int32) × (Nat → Int32))) (kk58 : (Nat → Int32) → (Nat → Int32) → Option (Int32 × (Nat → Int32) × (Nat → Int32) × (Nat → Int32) × (Nat → Int32))) (x8 : Int32) (z9 : (Nat → Int32)) (z10 : (Nat → Int32)) : Option (Int32 × (Nat → Int32) × (Nat → Int32) × (Nat → Int32) × (Nat → Int32)) :=
  if y5 ≤ x8 then (kk58 z9 z10) else (p_b1 (p_ld w7 400 x8) (fun v13 =>
p_b1 (p_st z10 400 v13 i2) (fun u14 =>
p_b1 (p_ld w7 400 x8) (fun v15 =>
p_b1 (p_st z9 400 v15 (y5 - i2)) (fun u16 =>
p_nm (x8 + 1) (fun v17 =>
rec58 v17 u16 u14))))))
noncomputable def gX5_walkRing_58 (i2 : Int32) (y5 : Int32) (w7 : (Nat → Int32)) (kk58 : (Nat → Int32) → (Nat → Int32) → Option (Int32 × (Nat → Int32) × (Nat → Int32) × (Nat → Int32) × (Nat → Int32))) (n : Nat) : Int32 → (Nat → Int32) → (Nat → Int32) → Option (Int32 × (Nat → Int32) × (Nat → Int32) × (Nat → Int32) × (Nat → Int32)) := Nat.rec (motive := fun _ => Int32 → (Nat → Int32) → (Nat → Int32) → Option (Int32 × (Nat → Int32) × (Nat → Int32) × (Nat → Int32) × (Nat → Int32))) (fun _ _ _ => none) (fun _ rec58 => FgX5_walkRing_58 i2 y5 w7 rec58 kk58) n
noncomputable def kX5_walkRing_55 (t_ringSizes_r : (Nat → Int32)) (t_ringStarts_r : (Nat → Int32)) (i2 : Int32) (y5 : Int32) (w6 : (Nat → Int32)) (w7 : (Nat → Int32)) : Option (Int32 × (Nat → Int32) × (Nat → Int32) × (Nat → Int32) × (Nat → Int32)) :=
  gX5_walkRing_58 i2 y5 w7 (kX5_walkRing_98 y5 w6 w7) p_FU i2 t_ringSizes_r t_ringStarts_r
noncomputable def jX5_walkRing_24 (t_nexts_r : (Nat → Int32)) (x1 : Int32) (x2 : Int32) (z3 : (Nat → Int32)) (z4 : (Nat → Int32)) (rec5 : Int32 → Int32 → (Nat → Int32) → (Nat → Int32) → Option (Int32 × (Nat → Int32) × (Nat → Int32) × (Nat → Int32) × (Nat → Int32))) : Option (Int32 × (Nat → Int32) × (Nat → Int32) × (Nat → Int32) × (Nat → Int32)) :=
  p_b1 (p_st z4 400 x1 x2) (fun u18 =>
p_b1 (p_st z3 400 x2 x1) (fun u19 =>
p_nm (x1 + 1) (fun v20 =>
p_b1 (p_ld t_nexts_r 400 x2) (fun v21 =>
rec5 v20 v21 u19 u18))))
noncomputable def FgX5_walkRing_5 (t_flagCount : Int32) (t_nexts_r : (Nat → Int32)) (i1 : Int32) (i2 : Int32) (rec5 : Int32 → Int32 → (Nat → Int32) → (Nat → Int32) → Option (Int32 × (Nat → Int32) × (Nat → Int32) × (Nat → Int32) × (Nat → Int32))) (kk5 : Int32 → (Nat → Int32) → (Nat → Int32) → Option (Int32 × (Nat → Int32) × (Nat → Int32) × (Nat → Int32) × (Nat → Int32))) (x1 : Int32) (x2 : Int32) (z3 : (Nat → Int32)) (z4 : (Nat → Int32)) : Option (Int32 × (Nat → Int32) × (Nat → Int32) × (Nat → Int32) × (Nat → Int32)) :=
  if t_flagCount ≤ x1 then (kk5 x1 z3 z4) else (if x1 = i2 then (jX5_walkRing_24 t_nexts_r x1 x2 z3 z4 rec5) else (if x2 = i1 then (kk5 x1 z3 z4) else (jX5_walkRing_24 t_nexts_r x1 x2 z3 z4 rec5)))
noncomputable def gX5_walkRing_5 (t_flagCount : Int32) (t_nexts_r : (Nat → Int32)) (i1 : Int32) (i2 : Int32) (kk5 : Int32 → (Nat → Int32) → (Nat → Int32) → Option (Int32 × (Nat → Int32) × (Nat → Int32) × (Nat → Int32) × (Nat → Int32))) (n : Nat) : Int32 → Int32 → (Nat → Int32) → (Nat → Int32) → Option (Int32 × (Nat → Int32) × (Nat → Int32) × (Nat → Int32) × (Nat → Int32)) := Nat.rec (motive := fun _ => Int32 → Int32 → (Nat → Int32) → (Nat → Int32) → Option (Int32 × (Nat → Int32) × (Nat → Int32) × (Nat → Int32) × (Nat → Int32))) (fun _ _ _ _ => none) (fun _ rec5 => FgX5_walkRing_5 t_flagCount t_nexts_r i1 i2 rec5 kk5) n
noncomputable def fX5_walkRing (t_flagCount : Int32) (t_nexts_r : (Nat → Int32)) (t_places_r : (Nat → Int32)) (t_ringSizes_r : (Nat → Int32)) (t_ringStarts_r : (Nat → Int32)) (t_walk_r : (Nat → Int32)) (i1 : Int32) (i2 : Int32) : Option (Int32 × (Nat → Int32) × (Nat → Int32) × (Nat → Int32) × (Nat → Int32)) :=
  gX5_walkRing_5 t_flagCount t_nexts_r i1 i2 (kX5_walkRing_55 t_ringSizes_r t_ringStarts_r i2) p_FU i2 i1 t_places_r t_walk_r
def rmX5_walkRing : Room := { frames := 0, cells := 0, slots := 0, locals := 0 }
set_option maxHeartbeats 4000000 in
set_option maxRecDepth 100000 in
theorem tX5_walkRing (l : Launch) (D : va_G) (cI : ClassId) (a_t : Nat) (a_N : Nat) (a_t_meeting : Nat) (a_t_level : Nat) (a_t_pointKeys : Nat) (a_t_firstFlags : Nat) (a_t_flagPoints : Nat) (a_t_flagLines : Nat) (a_t_nexts : Nat) (a_t_befores : Nat) (a_t_walk : Nat) (a_t_places : Nat) (a_t_ringStarts : Nat) (a_t_ringSizes : Nat) (t_pointCount : Int32) (t_flagCount : Int32) (t_ringCount : Int32) (t_nexts_r : (Nat → Int32)) (t_places_r : (Nat → Int32)) (t_ringSizes_r : (Nat → Int32)) (t_ringStarts_r : (Nat → Int32)) (t_walk_r : (Nat → Int32)) (i1 : Int32) (i2 : Int32) (r : Int32) (s_t_places_r : (Nat → Int32)) (s_t_ringSizes_r : (Nat → Int32)) (s_t_ringStarts_r : (Nat → Int32)) (s_t_walk_r : (Nat → Int32)) (hf : fX5_walkRing t_flagCount t_nexts_r t_places_r t_ringSizes_r t_ringStarts_r t_walk_r i1 i2 = some (r, s_t_places_r, s_t_ringSizes_r, s_t_ringStarts_r, s_t_walk_r)) : x_CI l D cI yX5_walkRing wsX5_walkRing rmX5_walkRing [.ref a_t, .int i1, .int i2] [x_o5 a_t a_N a_t_meeting a_t_level a_t_pointKeys a_t_firstFlags a_t_flagPoints a_t_flagLines a_t_nexts a_t_befores a_t_walk a_t_places a_t_ringStarts a_t_ringSizes t_pointCount t_flagCount t_ringCount, x_ar cI a_t_nexts 400 t_nexts_r, x_ar cI a_t_places 400 t_places_r, x_ar cI a_t_ringSizes 400 t_ringSizes_r, x_ar cI a_t_ringStarts 400 t_ringStarts_r, x_ar cI a_t_walk 400 t_walk_r] [x_o5 a_t a_N a_t_meeting a_t_level a_t_pointKeys a_t_firstFlags a_t_flagPoints a_t_flagLines a_t_nexts a_t_befores a_t_walk a_t_places a_t_ringStarts a_t_ringSizes t_pointCount t_flagCount t_ringCount, x_ar cI a_t_nexts 400 t_nexts_r, x_ar cI a_t_places 400 s_t_places_r, x_ar cI a_t_ringSizes 400 s_t_ringSizes_r, x_ar cI a_t_ringStarts 400 s_t_ringStarts_r, x_ar cI a_t_walk 400 s_t_walk_r] r := by
  refine x_CI_of (cc := cX5_walkRing) (maxL := 6) (ty := .int) (own := RX5) (lv0 := [(0, .ref a_t), (1, .int i1), (2, .int i2)]) (by decide) rfl rfl (Nat.le_of_ble_eq_true rfl) rfl ?_
  intro p e s m args below meth c A Q ls hx hb hml hown hts hN hK hP hD hS hA hl hret
  have iX5 : ∀ w ∈ u_ws RX5 TX5 16, w ∈ wsX5_walkRing := by decide +kernel
  have l66 := hts (.fieldLink RX5 66 "ChordRings$Rings" "flagCount" "I") (by decide +kernel)
  have l36 := hts (.fieldLink RX5 36 "ChordRings$Rings" "ringStarts" "[I") (by decide +kernel)
  have l30 := hts (.fieldLink RX5 30 "ChordRings$Rings" "walk" "[I") (by decide +kernel)
  have l39 := hts (.fieldLink RX5 39 "ChordRings$Rings" "ringSizes" "[I") (by decide +kernel)
  have l33 := hts (.fieldLink RX5 33 "ChordRings$Rings" "places" "[I") (by decide +kernel)
  have l24 := hts (.fieldLink RX5 24 "ChordRings$Rings" "nexts" "[I") (by decide +kernel)
  unfold fX5_walkRing at hf
  refine lv_iload_n hx hb dX5_walkRing_0 rfl (lv_at hl 2 rfl) ?_
  refine lv_istore_n (lv' := [(3, .int i2), (0, .ref a_t), (1, .int i1), (2, .int i2)]) hx hb dX5_walkRing_1 rfl hl (by decide) rfl (fun ls hl => ?_)
  refine lv_iload_n hx hb dX5_walkRing_2 rfl (lv_at hl 2 rfl) ?_
  refine lv_istore (lv' := [(4, .int i1), (3, .int i2), (0, .ref a_t), (1, .int i1), (2, .int i2)]) hx hb dX5_walkRing_3 hl (by decide) rfl (fun ls hl => ?_)
  have L5 : ∀ (n : Nat) (x1 : Int32) (x2 : Int32) (z3 : (Nat → Int32)) (z4 : (Nat → Int32)) (ls : Array Slot) (H : Heap) (locs : List Loc), gX5_walkRing_5 t_flagCount t_nexts_r i1 i2 (kX5_walkRing_55 t_ringSizes_r t_ringStarts_r i2) n x1 x2 z3 z4 = some (r, s_t_places_r, s_t_ringSizes_r, s_t_ringStarts_r, s_t_walk_r) → lv_has ls 6 [(0, .ref a_t), (1, .int i1), (2, .int i2), (3, .int x1), (4, .int x2)] → va_P D vwCl [x_o5 a_t a_N a_t_meeting a_t_level a_t_pointKeys a_t_firstFlags a_t_flagPoints a_t_flagLines a_t_nexts a_t_befores a_t_walk a_t_places a_t_ringStarts a_t_ringSizes t_pointCount t_flagCount t_ringCount, x_ar cI a_t_nexts 400 t_nexts_r, x_ar cI a_t_places 400 z3, x_ar cI a_t_ringSizes 400 t_ringSizes_r, x_ar cI a_t_ringStarts 400 t_ringStarts_r, x_ar cI a_t_walk 400 z4] H → va_D A [x_o5 a_t a_N a_t_meeting a_t_level a_t_pointKeys a_t_firstFlags a_t_flagPoints a_t_flagLines a_t_nexts a_t_befores a_t_walk a_t_places a_t_ringStarts a_t_ringSizes t_pointCount t_flagCount t_ringCount, x_ar cI a_t_nexts 400 t_nexts_r, x_ar cI a_t_places 400 z3, x_ar cI a_t_ringSizes 400 t_ringSizes_r, x_ar cI a_t_ringStarts 400 t_ringStarts_r, x_ar cI a_t_walk 400 z4] → va_S A s.heap H locs → W p l e rmX5_walkRing s m args below meth c H locs 0 0 Q (F0 m 5 ls []) := by
    intro n5
    induction n5 with
    | zero =>
      intro x1 x2 z3 z4 ls H locs hf
      exact nomatch (show (none : Option (Int32 × (Nat → Int32) × (Nat → Int32) × (Nat → Int32) × (Nat → Int32))) = some (r, s_t_places_r, s_t_ringSizes_r, s_t_ringStarts_r, s_t_walk_r) from hf)
    | succ n5 ih5 =>
      intro x1 x2 z3 z4 ls H locs hf hl hP hD hS
      have hf : FgX5_walkRing_5 t_flagCount t_nexts_r i1 i2 (gX5_walkRing_5 t_flagCount t_nexts_r i1 i2 (kX5_walkRing_55 t_ringSizes_r t_ringStarts_r i2) n5) (kX5_walkRing_55 t_ringSizes_r t_ringStarts_r i2) x1 x2 z3 z4 = some (r, s_t_places_r, s_t_ringSizes_r, s_t_ringStarts_r, s_t_walk_r) := hf
      unfold FgX5_walkRing_5 at hf
      refine lv_iload_n hx hb dX5_walkRing_5 rfl (lv_at hl 3 rfl) ?_
      refine lv_aload_n hx hb dX5_walkRing_6 rfl (lv_at hl 0 rfl) ?_
      refine va_get (D := D) (ci := 5) (C := RX5) (T := TX5) (N := 16) hx hb hts iX5 hown hK hP 0 rfl rfl 14 (by decide) l66 (fun _ h9 => h9) rfl dX5_walkRing_7 ?_
      have J55 : ∀ (y5 : Int32) (w6 : (Nat → Int32)) (w7 : (Nat → Int32)) (ls : Array Slot) (H : Heap) (locs : List Loc), kX5_walkRing_55 t_ringSizes_r t_ringStarts_r i2 y5 w6 w7 = some (r, s_t_places_r, s_t_ringSizes_r, s_t_ringStarts_r, s_t_walk_r) → lv_has ls 6 [(0, .ref a_t), (2, .int i2), (3, .int y5)] → va_P D vwCl [x_o5 a_t a_N a_t_meeting a_t_level a_t_pointKeys a_t_firstFlags a_t_flagPoints a_t_flagLines a_t_nexts a_t_befores a_t_walk a_t_places a_t_ringStarts a_t_ringSizes t_pointCount t_flagCount t_ringCount, x_ar cI a_t_nexts 400 t_nexts_r, x_ar cI a_t_places 400 w6, x_ar cI a_t_ringSizes 400 t_ringSizes_r, x_ar cI a_t_ringStarts 400 t_ringStarts_r, x_ar cI a_t_walk 400 w7] H → va_D A [x_o5 a_t a_N a_t_meeting a_t_level a_t_pointKeys a_t_firstFlags a_t_flagPoints a_t_flagLines a_t_nexts a_t_befores a_t_walk a_t_places a_t_ringStarts a_t_ringSizes t_pointCount t_flagCount t_ringCount, x_ar cI a_t_nexts 400 t_nexts_r, x_ar cI a_t_places 400 w6, x_ar cI a_t_ringSizes 400 t_ringSizes_r, x_ar cI a_t_ringStarts 400 t_ringStarts_r, x_ar cI a_t_walk 400 w7] → va_S A s.heap H locs → W p l e rmX5_walkRing s m args below meth c H locs 0 0 Q (F0 m 55 ls []) := by
        intro y5 w6 w7 ls H locs hf hl hP hD hS
        unfold kX5_walkRing_55 at hf
        refine lv_iload_n hx hb dX5_walkRing_55 rfl (lv_at hl 1 rfl) ?_
        refine lv_istore (lv' := [(5, .int i2), (0, .ref a_t), (2, .int i2), (3, .int y5)]) hx hb dX5_walkRing_56 hl (by decide) rfl (fun ls hl => ?_)
        have L58 : ∀ (n : Nat) (x8 : Int32) (z9 : (Nat → Int32)) (z10 : (Nat → Int32)) (ls : Array Slot) (H : Heap) (locs : List Loc), gX5_walkRing_58 i2 y5 w7 (kX5_walkRing_98 y5 w6 w7) n x8 z9 z10 = some (r, s_t_places_r, s_t_ringSizes_r, s_t_ringStarts_r, s_t_walk_r) → lv_has ls 6 [(0, .ref a_t), (2, .int i2), (3, .int y5), (5, .int x8)] → va_P D vwCl [x_o5 a_t a_N a_t_meeting a_t_level a_t_pointKeys a_t_firstFlags a_t_flagPoints a_t_flagLines a_t_nexts a_t_befores a_t_walk a_t_places a_t_ringStarts a_t_ringSizes t_pointCount t_flagCount t_ringCount, x_ar cI a_t_nexts 400 t_nexts_r, x_ar cI a_t_places 400 w6, x_ar cI a_t_ringSizes 400 z9, x_ar cI a_t_ringStarts 400 z10, x_ar cI a_t_walk 400 w7] H → va_D A [x_o5 a_t a_N a_t_meeting a_t_level a_t_pointKeys a_t_firstFlags a_t_flagPoints a_t_flagLines a_t_nexts a_t_befores a_t_walk a_t_places a_t_ringStarts a_t_ringSizes t_pointCount t_flagCount t_ringCount, x_ar cI a_t_nexts 400 t_nexts_r, x_ar cI a_t_places 400 w6, x_ar cI a_t_ringSizes 400 z9, x_ar cI a_t_ringStarts 400 z10, x_ar cI a_t_walk 400 w7] → va_S A s.heap H locs → W p l e rmX5_walkRing s m args below meth c H locs 0 0 Q (F0 m 58 ls []) := by
          intro n58
          induction n58 with
          | zero =>
            intro x8 z9 z10 ls H locs hf
            exact nomatch (show (none : Option (Int32 × (Nat → Int32) × (Nat → Int32) × (Nat → Int32) × (Nat → Int32))) = some (r, s_t_places_r, s_t_ringSizes_r, s_t_ringStarts_r, s_t_walk_r) from hf)
          | succ n58 ih58 =>
            intro x8 z9 z10 ls H locs hf hl hP hD hS
            have hf : FgX5_walkRing_58 i2 y5 w7 (gX5_walkRing_58 i2 y5 w7 (kX5_walkRing_98 y5 w6 w7) n58) (kX5_walkRing_98 y5 w6 w7) x8 z9 z10 = some (r, s_t_places_r, s_t_ringSizes_r, s_t_ringStarts_r, s_t_walk_r) := hf
            unfold FgX5_walkRing_58 at hf
            refine lv_iload hx hb dX5_walkRing_58 (lv_at hl 3 rfl) ?_
            refine lv_iload_n hx hb dX5_walkRing_60 rfl (lv_at hl 2 rfl) ?_
            have J98 : ∀ (w11 : (Nat → Int32)) (w12 : (Nat → Int32)) (ls : Array Slot) (H : Heap) (locs : List Loc), kX5_walkRing_98 y5 w6 w7 w11 w12 = some (r, s_t_places_r, s_t_ringSizes_r, s_t_ringStarts_r, s_t_walk_r) → lv_has ls 6 [(3, .int y5)] → va_P D vwCl [x_o5 a_t a_N a_t_meeting a_t_level a_t_pointKeys a_t_firstFlags a_t_flagPoints a_t_flagLines a_t_nexts a_t_befores a_t_walk a_t_places a_t_ringStarts a_t_ringSizes t_pointCount t_flagCount t_ringCount, x_ar cI a_t_nexts 400 t_nexts_r, x_ar cI a_t_places 400 w6, x_ar cI a_t_ringSizes 400 w11, x_ar cI a_t_ringStarts 400 w12, x_ar cI a_t_walk 400 w7] H → va_D A [x_o5 a_t a_N a_t_meeting a_t_level a_t_pointKeys a_t_firstFlags a_t_flagPoints a_t_flagLines a_t_nexts a_t_befores a_t_walk a_t_places a_t_ringStarts a_t_ringSizes t_pointCount t_flagCount t_ringCount, x_ar cI a_t_nexts 400 t_nexts_r, x_ar cI a_t_places 400 w6, x_ar cI a_t_ringSizes 400 w11, x_ar cI a_t_ringStarts 400 w12, x_ar cI a_t_walk 400 w7] → va_S A s.heap H locs → W p l e rmX5_walkRing s m args below meth c H locs 0 0 Q (F0 m 98 ls []) := by
              intro w11 w12 ls H locs hf hl hP hD hS
              unfold kX5_walkRing_98 at hf
              refine lv_iload_n hx hb dX5_walkRing_98 rfl (lv_at hl 0 rfl) ?_
              obtain ⟨rfl, rfl, rfl, rfl, rfl⟩ := o_s5 hf
              exact hret rfl rfl dX5_walkRing_99 hP hD hS
            refine lv_icmp_ge (tgt := 98) hx hb dX5_walkRing_61 (by decide) (fun hc => ?_) (fun hc => ?_)
            · have hf := o_t hf hc
              exact J98 z9 z10 _ _ _ hf (lv_sub hl [2] rfl) hP hD hS
            · have hf := o_f hf hc
              refine lv_aload_n hx hb dX5_walkRing_64 rfl (lv_at hl 0 rfl) ?_
              refine va_get (D := D) (ci := 5) (C := RX5) (T := TX5) (N := 16) hx hb hts iX5 hown hK hP 0 rfl rfl 11 (by decide) l36 (fun _ h9 => h9) rfl dX5_walkRing_65 ?_
              refine lv_aload_n hx hb dX5_walkRing_68 rfl (lv_at hl 0 rfl) ?_
              refine va_get (D := D) (ci := 5) (C := RX5) (T := TX5) (N := 16) hx hb hts iX5 hown hK hP 0 rfl rfl 9 (by decide) l30 (fun _ h9 => h9) rfl dX5_walkRing_69 ?_
              refine lv_iload hx hb dX5_walkRing_72 (lv_at hl 3 rfl) ?_
              obtain ⟨v13, hv13, hf⟩ := o_b1 hf
              refine x_ald hx hb hK hP 5 rfl hv13 dX5_walkRing_74 ?_
              refine lv_iload_n hx hb dX5_walkRing_75 rfl (lv_at hl 1 rfl) ?_
              obtain ⟨u14, hu14, hf⟩ := o_b1 hf
              refine x_ast (W1 := [x_o5 a_t a_N a_t_meeting a_t_level a_t_pointKeys a_t_firstFlags a_t_flagPoints a_t_flagLines a_t_nexts a_t_befores a_t_walk a_t_places a_t_ringStarts a_t_ringSizes t_pointCount t_flagCount t_ringCount, x_ar cI a_t_nexts 400 t_nexts_r, x_ar cI a_t_places 400 w6, x_ar cI a_t_ringSizes 400 z9, x_ar cI a_t_ringStarts 400 u14, x_ar cI a_t_walk 400 w7]) hx hb hK hP hD hS 4 rfl hu14 rfl dX5_walkRing_76 (fun H locs hP hD hS => ?_)
              refine lv_aload_n hx hb dX5_walkRing_77 rfl (lv_at hl 0 rfl) ?_
              refine va_get (D := D) (ci := 5) (C := RX5) (T := TX5) (N := 16) hx hb hts iX5 hown hK hP 0 rfl rfl 12 (by decide) l39 (fun _ h9 => h9) rfl dX5_walkRing_78 ?_
              refine lv_aload_n hx hb dX5_walkRing_81 rfl (lv_at hl 0 rfl) ?_
              refine va_get (D := D) (ci := 5) (C := RX5) (T := TX5) (N := 16) hx hb hts iX5 hown hK hP 0 rfl rfl 9 (by decide) l30 (fun _ h9 => h9) rfl dX5_walkRing_82 ?_
              refine lv_iload hx hb dX5_walkRing_85 (lv_at hl 3 rfl) ?_
              obtain ⟨v15, hv15, hf⟩ := o_b1 hf
              refine x_ald hx hb hK hP 5 rfl hv15 dX5_walkRing_87 ?_
              refine lv_iload_n hx hb dX5_walkRing_88 rfl (lv_at hl 2 rfl) ?_
              refine lv_iload_n hx hb dX5_walkRing_89 rfl (lv_at hl 1 rfl) ?_
              refine lv_isub hx hb dX5_walkRing_90 ?_
              obtain ⟨u16, hu16, hf⟩ := o_b1 hf
              refine x_ast (W1 := [x_o5 a_t a_N a_t_meeting a_t_level a_t_pointKeys a_t_firstFlags a_t_flagPoints a_t_flagLines a_t_nexts a_t_befores a_t_walk a_t_places a_t_ringStarts a_t_ringSizes t_pointCount t_flagCount t_ringCount, x_ar cI a_t_nexts 400 t_nexts_r, x_ar cI a_t_places 400 w6, x_ar cI a_t_ringSizes 400 u16, x_ar cI a_t_ringStarts 400 u14, x_ar cI a_t_walk 400 w7]) hx hb hK hP hD hS 3 rfl hu16 rfl dX5_walkRing_91 (fun H locs hP hD hS => ?_)
              obtain ⟨v17, ev17, hf⟩ := o_nm hf
              refine lv_iinc (v := v17) (lv' := [(5, .int v17), (0, .ref a_t), (2, .int i2), (3, .int y5)]) hx hb dX5_walkRing_92 hl (k := 3) rfl (by rw [ev17]; rfl) (by decide) rfl (fun ls hl => ?_)
              refine lv_goto (tgt := 58) hx hb dX5_walkRing_95 (by decide) ?_
              exact ih58 v17 u16 u14 _ _ _ hf (lv_sub hl [1, 2, 3, 0] rfl) hP hD hS
        exact L58 p_FU i2 t_ringSizes_r t_ringStarts_r _ _ _ hf (lv_sub hl [1, 2, 3, 0] rfl) hP hD hS
      refine lv_icmp_ge (tgt := 55) hx hb dX5_walkRing_10 (by decide) (fun hc => ?_) (fun hc => ?_)
      · have hf := o_t hf hc
        exact J55 x1 z3 z4 _ _ _ hf (lv_sub hl [0, 2, 3] rfl) hP hD hS
      · have hf := o_f hf hc
        refine lv_iload_n hx hb dX5_walkRing_13 rfl (lv_at hl 3 rfl) ?_
        refine lv_iload_n hx hb dX5_walkRing_14 rfl (lv_at hl 2 rfl) ?_
        have J24 : ∀ (ls : Array Slot) (H : Heap) (locs : List Loc), jX5_walkRing_24 t_nexts_r x1 x2 z3 z4 (gX5_walkRing_5 t_flagCount t_nexts_r i1 i2 (kX5_walkRing_55 t_ringSizes_r t_ringStarts_r i2) n5) = some (r, s_t_places_r, s_t_ringSizes_r, s_t_ringStarts_r, s_t_walk_r) → lv_has ls 6 [(0, .ref a_t), (1, .int i1), (2, .int i2), (3, .int x1), (4, .int x2)] → va_P D vwCl [x_o5 a_t a_N a_t_meeting a_t_level a_t_pointKeys a_t_firstFlags a_t_flagPoints a_t_flagLines a_t_nexts a_t_befores a_t_walk a_t_places a_t_ringStarts a_t_ringSizes t_pointCount t_flagCount t_ringCount, x_ar cI a_t_nexts 400 t_nexts_r, x_ar cI a_t_places 400 z3, x_ar cI a_t_ringSizes 400 t_ringSizes_r, x_ar cI a_t_ringStarts 400 t_ringStarts_r, x_ar cI a_t_walk 400 z4] H → va_D A [x_o5 a_t a_N a_t_meeting a_t_level a_t_pointKeys a_t_firstFlags a_t_flagPoints a_t_flagLines a_t_nexts a_t_befores a_t_walk a_t_places a_t_ringStarts a_t_ringSizes t_pointCount t_flagCount t_ringCount, x_ar cI a_t_nexts 400 t_nexts_r, x_ar cI a_t_places 400 z3, x_ar cI a_t_ringSizes 400 t_ringSizes_r, x_ar cI a_t_ringStarts 400 t_ringStarts_r, x_ar cI a_t_walk 400 z4] → va_S A s.heap H locs → W p l e rmX5_walkRing s m args below meth c H locs 0 0 Q (F0 m 24 ls []) := by
          intro ls H locs hf hl hP hD hS
          unfold jX5_walkRing_24 at hf
          refine lv_aload_n hx hb dX5_walkRing_24 rfl (lv_at hl 0 rfl) ?_
          refine va_get (D := D) (ci := 5) (C := RX5) (T := TX5) (N := 16) hx hb hts iX5 hown hK hP 0 rfl rfl 9 (by decide) l30 (fun _ h9 => h9) rfl dX5_walkRing_25 ?_
          refine lv_iload_n hx hb dX5_walkRing_28 rfl (lv_at hl 3 rfl) ?_
          refine lv_iload hx hb dX5_walkRing_29 (lv_at hl 4 rfl) ?_
          obtain ⟨u18, hu18, hf⟩ := o_b1 hf
          refine x_ast (W1 := [x_o5 a_t a_N a_t_meeting a_t_level a_t_pointKeys a_t_firstFlags a_t_flagPoints a_t_flagLines a_t_nexts a_t_befores a_t_walk a_t_places a_t_ringStarts a_t_ringSizes t_pointCount t_flagCount t_ringCount, x_ar cI a_t_nexts 400 t_nexts_r, x_ar cI a_t_places 400 z3, x_ar cI a_t_ringSizes 400 t_ringSizes_r, x_ar cI a_t_ringStarts 400 t_ringStarts_r, x_ar cI a_t_walk 400 u18]) hx hb hK hP hD hS 5 rfl hu18 rfl dX5_walkRing_31 (fun H locs hP hD hS => ?_)
          refine lv_aload_n hx hb dX5_walkRing_32 rfl (lv_at hl 0 rfl) ?_
          refine va_get (D := D) (ci := 5) (C := RX5) (T := TX5) (N := 16) hx hb hts iX5 hown hK hP 0 rfl rfl 10 (by decide) l33 (fun _ h9 => h9) rfl dX5_walkRing_33 ?_
          refine lv_iload hx hb dX5_walkRing_36 (lv_at hl 4 rfl) ?_
          refine lv_iload_n hx hb dX5_walkRing_38 rfl (lv_at hl 3 rfl) ?_
          obtain ⟨u19, hu19, hf⟩ := o_b1 hf
          refine x_ast (W1 := [x_o5 a_t a_N a_t_meeting a_t_level a_t_pointKeys a_t_firstFlags a_t_flagPoints a_t_flagLines a_t_nexts a_t_befores a_t_walk a_t_places a_t_ringStarts a_t_ringSizes t_pointCount t_flagCount t_ringCount, x_ar cI a_t_nexts 400 t_nexts_r, x_ar cI a_t_places 400 u19, x_ar cI a_t_ringSizes 400 t_ringSizes_r, x_ar cI a_t_ringStarts 400 t_ringStarts_r, x_ar cI a_t_walk 400 u18]) hx hb hK hP hD hS 2 rfl hu19 rfl dX5_walkRing_39 (fun H locs hP hD hS => ?_)
          obtain ⟨v20, ev20, hf⟩ := o_nm hf
          refine lv_iinc (v := v20) (lv' := [(3, .int v20), (0, .ref a_t), (1, .int i1), (2, .int i2), (4, .int x2)]) hx hb dX5_walkRing_40 hl (k := 3) rfl (by rw [ev20]; rfl) (by decide) rfl (fun ls hl => ?_)
          refine lv_aload_n hx hb dX5_walkRing_43 rfl (lv_at hl 1 rfl) ?_
          refine va_get (D := D) (ci := 5) (C := RX5) (T := TX5) (N := 16) hx hb hts iX5 hown hK hP 0 rfl rfl 7 (by decide) l24 (fun _ h9 => h9) rfl dX5_walkRing_44 ?_
          refine lv_iload hx hb dX5_walkRing_47 (lv_at hl 4 rfl) ?_
          obtain ⟨v21, hv21, hf⟩ := o_b1 hf
          refine x_ald hx hb hK hP 1 rfl hv21 dX5_walkRing_49 ?_
          refine lv_istore (lv' := [(4, .int v21), (3, .int v20), (0, .ref a_t), (1, .int i1), (2, .int i2)]) hx hb dX5_walkRing_50 hl (by decide) rfl (fun ls hl => ?_)
          refine lv_goto (tgt := 5) hx hb dX5_walkRing_52 (by decide) ?_
          exact ih5 v20 v21 u19 u18 _ _ _ hf (lv_sub hl [2, 3, 4, 1, 0] rfl) hP hD hS
        refine lv_icmp_eq (tgt := 24) hx hb dX5_walkRing_15 (by decide) (fun hc => ?_) (fun hc => ?_)
        · have hf := o_t hf hc
          exact J24 _ _ _ hf (lv_sub hl [0, 1, 2, 3, 4] rfl) hP hD hS
        · have hf := o_f hf hc
          refine lv_iload hx hb dX5_walkRing_18 (lv_at hl 4 rfl) ?_
          refine lv_iload_n hx hb dX5_walkRing_20 rfl (lv_at hl 1 rfl) ?_
          refine lv_icmp_eq (tgt := 55) hx hb dX5_walkRing_21 (by decide) (fun hc => ?_) (fun hc => ?_)
          · have hf := o_t hf hc
            exact J55 x1 z3 z4 _ _ _ hf (lv_sub hl [0, 2, 3] rfl) hP hD hS
          · have hf := o_f hf hc
            exact J24 _ _ _ hf (lv_sub hl [0, 1, 2, 3, 4] rfl) hP hD hS
  exact L5 p_FU i2 i1 t_places_r t_walk_r _ _ _ hf (lv_sub hl [2, 3, 4, 1, 0] rfl) hP hD hS
noncomputable def kX5_findRings_72 (y11 : Int32) (w12 : (Nat → Int32)) (w13 : (Nat → Int32)) (w14 : (Nat → Int32)) (w15 : (Nat → Int32)) : Option (Int32 × (Nat → Int32) × (Nat → Int32) × (Nat → Int32) × (Nat → Int32)) :=
  some (y11, w12, w13, w14, w15)
noncomputable def jX5_findRings_66 (x5 : Int32) (rec32 : Int32 → Int32 → Int32 → (Nat → Int32) → (Nat → Int32) → (Nat → Int32) → (Nat → Int32) → Option (Int32 × (Nat → Int32) × (Nat → Int32) × (Nat → Int32) × (Nat → Int32))) (y17 : Int32) (y18 : Int32) (w19 : (Nat → Int32)) (w20 : (Nat → Int32)) (w21 : (Nat → Int32)) (w22 : (Nat → Int32)) : Option (Int32 × (Nat → Int32) × (Nat → Int32) × (Nat → Int32) × (Nat → Int32)) :=
  p_nm (x5 + 1) (fun v23 =>
rec32 y17 v23 y18 w19 w20 w21 w22)
noncomputable def FgX5_findRings_32 (t_flagCount : Int32) (t_nexts_r : (Nat → Int32)) (rec32 : Int32 → Int32 → Int32 → (Nat → Int32) → (Nat → Int32) → (Nat → Int32) → (Nat → Int32) → Option (Int32 × (Nat → Int32) × (Nat → Int32) × (Nat → Int32) × (Nat → Int32))) (kk32 : Int32 → (Nat → Int32) → (Nat → Int32) → (Nat → Int32) → (Nat → Int32) → Option (Int32 × (Nat → Int32) × (Nat → Int32) × (Nat → Int32) × (Nat → Int32))) (x4 : Int32) (x5 : Int32) (x6 : Int32) (z7 : (Nat → Int32)) (z8 : (Nat → Int32)) (z9 : (Nat → Int32)) (z10 : (Nat → Int32)) : Option (Int32 × (Nat → Int32) × (Nat → Int32) × (Nat → Int32) × (Nat → Int32)) :=
  if t_flagCount ≤ x5 then (kk32 x6 z7 z8 z9 z10) else (p_b1 (p_ld z8 400 x5) (fun v16 =>
if v16 = 0 then (p_b5 (fX5_walkRing t_flagCount t_nexts_r z7 z8 z9 z10 x5 x4) (fun v24 u25 u26 u27 u28 =>
p_nm (x6 + 1) (fun v29 =>
jX5_findRings_66 x5 rec32 v24 v29 u25 u26 u27 u28))) else (jX5_findRings_66 x5 rec32 x4 x6 z7 z8 z9 z10)))
noncomputable def gX5_findRings_32 (t_flagCount : Int32) (t_nexts_r : (Nat → Int32)) (kk32 : Int32 → (Nat → Int32) → (Nat → Int32) → (Nat → Int32) → (Nat → Int32) → Option (Int32 × (Nat → Int32) × (Nat → Int32) × (Nat → Int32) × (Nat → Int32))) (n : Nat) : Int32 → Int32 → Int32 → (Nat → Int32) → (Nat → Int32) → (Nat → Int32) → (Nat → Int32) → Option (Int32 × (Nat → Int32) × (Nat → Int32) × (Nat → Int32) × (Nat → Int32)) := Nat.rec (motive := fun _ => Int32 → Int32 → Int32 → (Nat → Int32) → (Nat → Int32) → (Nat → Int32) → (Nat → Int32) → Option (Int32 × (Nat → Int32) × (Nat → Int32) × (Nat → Int32) × (Nat → Int32))) (fun _ _ _ _ _ _ _ => none) (fun _ rec32 => FgX5_findRings_32 t_flagCount t_nexts_r rec32 kk32) n
noncomputable def kX5_findRings_28 (t_flagCount : Int32) (t_nexts_r : (Nat → Int32)) (t_places_r : (Nat → Int32)) (t_ringStarts_r : (Nat → Int32)) (t_walk_r : (Nat → Int32)) (w3 : (Nat → Int32)) : Option (Int32 × (Nat → Int32) × (Nat → Int32) × (Nat → Int32) × (Nat → Int32)) :=
  gX5_findRings_32 t_flagCount t_nexts_r (kX5_findRings_72) p_FU 0 0 0 t_places_r w3 t_ringStarts_r t_walk_r
noncomputable def FgX5_findRings_7 (t_flagCount : Int32) (rec7 : Int32 → (Nat → Int32) → Option (Int32 × (Nat → Int32) × (Nat → Int32) × (Nat → Int32) × (Nat → Int32))) (kk7 : (Nat → Int32) → Option (Int32 × (Nat → Int32) × (Nat → Int32) × (Nat → Int32) × (Nat → Int32))) (x1 : Int32) (z2 : (Nat → Int32)) : Option (Int32 × (Nat → Int32) × (Nat → Int32) × (Nat → Int32) × (Nat → Int32)) :=
  if t_flagCount ≤ x1 then (kk7 z2) else (p_b1 (p_st z2 400 x1 0) (fun u30 =>
p_nm (x1 + 1) (fun v31 =>
rec7 v31 u30)))
noncomputable def gX5_findRings_7 (t_flagCount : Int32) (kk7 : (Nat → Int32) → Option (Int32 × (Nat → Int32) × (Nat → Int32) × (Nat → Int32) × (Nat → Int32))) (n : Nat) : Int32 → (Nat → Int32) → Option (Int32 × (Nat → Int32) × (Nat → Int32) × (Nat → Int32) × (Nat → Int32)) := Nat.rec (motive := fun _ => Int32 → (Nat → Int32) → Option (Int32 × (Nat → Int32) × (Nat → Int32) × (Nat → Int32) × (Nat → Int32))) (fun _ _ => none) (fun _ rec7 => FgX5_findRings_7 t_flagCount rec7 kk7) n
noncomputable def fX5_findRings (t_flagCount : Int32) (t_ringCount : Int32) (t_nexts_r : (Nat → Int32)) (t_places_r : (Nat → Int32)) (t_ringSizes_r : (Nat → Int32)) (t_ringStarts_r : (Nat → Int32)) (t_walk_r : (Nat → Int32)) : Option (Int32 × (Nat → Int32) × (Nat → Int32) × (Nat → Int32) × (Nat → Int32)) :=
  gX5_findRings_7 t_flagCount (kX5_findRings_28 t_flagCount t_nexts_r t_places_r t_ringStarts_r t_walk_r) p_FU 0 t_ringSizes_r
def rmX5_findRings : Room := { frames := 1, cells := 0, slots := 0, locals := 25 }
set_option maxHeartbeats 4000000 in
set_option maxRecDepth 100000 in
theorem tX5_findRings (l : Launch) (D : va_G) (cI : ClassId) (a_t : Nat) (a_N : Nat) (a_t_meeting : Nat) (a_t_level : Nat) (a_t_pointKeys : Nat) (a_t_firstFlags : Nat) (a_t_flagPoints : Nat) (a_t_flagLines : Nat) (a_t_nexts : Nat) (a_t_befores : Nat) (a_t_walk : Nat) (a_t_places : Nat) (a_t_ringStarts : Nat) (a_t_ringSizes : Nat) (t_pointCount : Int32) (t_flagCount : Int32) (t_ringCount : Int32) (t_nexts_r : (Nat → Int32)) (t_places_r : (Nat → Int32)) (t_ringSizes_r : (Nat → Int32)) (t_ringStarts_r : (Nat → Int32)) (t_walk_r : (Nat → Int32)) (s_t_ringCount : Int32) (s_t_places_r : (Nat → Int32)) (s_t_ringSizes_r : (Nat → Int32)) (s_t_ringStarts_r : (Nat → Int32)) (s_t_walk_r : (Nat → Int32)) (hf : fX5_findRings t_flagCount t_ringCount t_nexts_r t_places_r t_ringSizes_r t_ringStarts_r t_walk_r = some (s_t_ringCount, s_t_places_r, s_t_ringSizes_r, s_t_ringStarts_r, s_t_walk_r)) : x_CV l D cI yX5_findRings wsX5_findRings rmX5_findRings [.ref a_t] [x_o5 a_t a_N a_t_meeting a_t_level a_t_pointKeys a_t_firstFlags a_t_flagPoints a_t_flagLines a_t_nexts a_t_befores a_t_walk a_t_places a_t_ringStarts a_t_ringSizes t_pointCount t_flagCount t_ringCount, x_ar cI a_t_nexts 400 t_nexts_r, x_ar cI a_t_places 400 t_places_r, x_ar cI a_t_ringSizes 400 t_ringSizes_r, x_ar cI a_t_ringStarts 400 t_ringStarts_r, x_ar cI a_t_walk 400 t_walk_r] [x_o5 a_t a_N a_t_meeting a_t_level a_t_pointKeys a_t_firstFlags a_t_flagPoints a_t_flagLines a_t_nexts a_t_befores a_t_walk a_t_places a_t_ringStarts a_t_ringSizes t_pointCount t_flagCount s_t_ringCount, x_ar cI a_t_nexts 400 t_nexts_r, x_ar cI a_t_places 400 s_t_places_r, x_ar cI a_t_ringSizes 400 s_t_ringSizes_r, x_ar cI a_t_ringStarts 400 s_t_ringStarts_r, x_ar cI a_t_walk 400 s_t_walk_r] := by
  refine x_CV_of (cc := cX5_findRings) (maxL := 3) (own := RX5) (lv0 := [(0, .ref a_t)]) (by decide) rfl rfl (Nat.le_of_ble_eq_true rfl) rfl ?_
  intro p e s m args below meth c A Q ls hx hb hml hown hts hN hK hP hD hS hA hl hret
  have iX5 : ∀ w ∈ u_ws RX5 TX5 16, w ∈ wsX5_findRings := by decide +kernel
  have l69 := hts (.fieldLink RX5 69 "ChordRings$Rings" "ringCount" "I") (by decide +kernel)
  have l66 := hts (.fieldLink RX5 66 "ChordRings$Rings" "flagCount" "I") (by decide +kernel)
  have l39 := hts (.fieldLink RX5 39 "ChordRings$Rings" "ringSizes" "[I") (by decide +kernel)
  unfold fX5_findRings at hf
  refine lv_aload_n hx hb dX5_findRings_0 rfl (lv_at hl 0 rfl) ?_
  refine lv_iconst (v := 0) hx hb dX5_findRings_1 (by decide) ?_
  refine x_put (W1 := [x_o5 a_t a_N a_t_meeting a_t_level a_t_pointKeys a_t_firstFlags a_t_flagPoints a_t_flagLines a_t_nexts a_t_befores a_t_walk a_t_places a_t_ringStarts a_t_ringSizes t_pointCount t_flagCount 0, x_ar cI a_t_nexts 400 t_nexts_r, x_ar cI a_t_places 400 t_places_r, x_ar cI a_t_ringSizes 400 t_ringSizes_r, x_ar cI a_t_ringStarts 400 t_ringStarts_r, x_ar cI a_t_walk 400 t_walk_r]) (ty := .int) (C := RX5) (T := TX5) (N := 16) hx hb hts iX5 tyX5 tyX5_ok nmX5 hown hK hP hD hS 0 rfl rfl 15 (by decide) l69 rfl rfl (by decide +kernel) rfl rfl (Nat.le_of_ble_eq_true rfl) rfl dX5_findRings_2 (fun H locs hP hD hS => ?_)
  refine lv_iconst (v := 0) hx hb dX5_findRings_5 (by decide) ?_
  refine lv_istore_n (lv' := [(1, .int 0), (0, .ref a_t)]) hx hb dX5_findRings_6 rfl hl (by decide) rfl (fun ls hl => ?_)
  have L7 : ∀ (n : Nat) (x1 : Int32) (z2 : (Nat → Int32)) (ls : Array Slot) (H : Heap) (locs : List Loc), gX5_findRings_7 t_flagCount (kX5_findRings_28 t_flagCount t_nexts_r t_places_r t_ringStarts_r t_walk_r) n x1 z2 = some (s_t_ringCount, s_t_places_r, s_t_ringSizes_r, s_t_ringStarts_r, s_t_walk_r) → lv_has ls 3 [(0, .ref a_t), (1, .int x1)] → va_P D vwCl [x_o5 a_t a_N a_t_meeting a_t_level a_t_pointKeys a_t_firstFlags a_t_flagPoints a_t_flagLines a_t_nexts a_t_befores a_t_walk a_t_places a_t_ringStarts a_t_ringSizes t_pointCount t_flagCount 0, x_ar cI a_t_nexts 400 t_nexts_r, x_ar cI a_t_places 400 t_places_r, x_ar cI a_t_ringSizes 400 z2, x_ar cI a_t_ringStarts 400 t_ringStarts_r, x_ar cI a_t_walk 400 t_walk_r] H → va_D A [x_o5 a_t a_N a_t_meeting a_t_level a_t_pointKeys a_t_firstFlags a_t_flagPoints a_t_flagLines a_t_nexts a_t_befores a_t_walk a_t_places a_t_ringStarts a_t_ringSizes t_pointCount t_flagCount 0, x_ar cI a_t_nexts 400 t_nexts_r, x_ar cI a_t_places 400 t_places_r, x_ar cI a_t_ringSizes 400 z2, x_ar cI a_t_ringStarts 400 t_ringStarts_r, x_ar cI a_t_walk 400 t_walk_r] → va_S A s.heap H locs → W p l e rmX5_findRings s m args below meth c H locs 0 0 Q (F0 m 7 ls []) := by
    intro n7
    induction n7 with
    | zero =>
      intro x1 z2 ls H locs hf
      exact nomatch (show (none : Option (Int32 × (Nat → Int32) × (Nat → Int32) × (Nat → Int32) × (Nat → Int32))) = some (s_t_ringCount, s_t_places_r, s_t_ringSizes_r, s_t_ringStarts_r, s_t_walk_r) from hf)
    | succ n7 ih7 =>
      intro x1 z2 ls H locs hf hl hP hD hS
      have hf : FgX5_findRings_7 t_flagCount (gX5_findRings_7 t_flagCount (kX5_findRings_28 t_flagCount t_nexts_r t_places_r t_ringStarts_r t_walk_r) n7) (kX5_findRings_28 t_flagCount t_nexts_r t_places_r t_ringStarts_r t_walk_r) x1 z2 = some (s_t_ringCount, s_t_places_r, s_t_ringSizes_r, s_t_ringStarts_r, s_t_walk_r) := hf
      unfold FgX5_findRings_7 at hf
      refine lv_iload_n hx hb dX5_findRings_7 rfl (lv_at hl 1 rfl) ?_
      refine lv_aload_n hx hb dX5_findRings_8 rfl (lv_at hl 0 rfl) ?_
      refine va_get (D := D) (ci := 5) (C := RX5) (T := TX5) (N := 16) hx hb hts iX5 hown hK hP 0 rfl rfl 14 (by decide) l66 (fun _ h9 => h9) rfl dX5_findRings_9 ?_
      have J28 : ∀ (w3 : (Nat → Int32)) (ls : Array Slot) (H : Heap) (locs : List Loc), kX5_findRings_28 t_flagCount t_nexts_r t_places_r t_ringStarts_r t_walk_r w3 = some (s_t_ringCount, s_t_places_r, s_t_ringSizes_r, s_t_ringStarts_r, s_t_walk_r) → lv_has ls 3 [(0, .ref a_t)] → va_P D vwCl [x_o5 a_t a_N a_t_meeting a_t_level a_t_pointKeys a_t_firstFlags a_t_flagPoints a_t_flagLines a_t_nexts a_t_befores a_t_walk a_t_places a_t_ringStarts a_t_ringSizes t_pointCount t_flagCount 0, x_ar cI a_t_nexts 400 t_nexts_r, x_ar cI a_t_places 400 t_places_r, x_ar cI a_t_ringSizes 400 w3, x_ar cI a_t_ringStarts 400 t_ringStarts_r, x_ar cI a_t_walk 400 t_walk_r] H → va_D A [x_o5 a_t a_N a_t_meeting a_t_level a_t_pointKeys a_t_firstFlags a_t_flagPoints a_t_flagLines a_t_nexts a_t_befores a_t_walk a_t_places a_t_ringStarts a_t_ringSizes t_pointCount t_flagCount 0, x_ar cI a_t_nexts 400 t_nexts_r, x_ar cI a_t_places 400 t_places_r, x_ar cI a_t_ringSizes 400 w3, x_ar cI a_t_ringStarts 400 t_ringStarts_r, x_ar cI a_t_walk 400 t_walk_r] → va_S A s.heap H locs → W p l e rmX5_findRings s m args below meth c H locs 0 0 Q (F0 m 28 ls []) := by
        intro w3 ls H locs hf hl hP hD hS
        unfold kX5_findRings_28 at hf
        refine lv_iconst (v := 0) hx hb dX5_findRings_28 (by decide) ?_
        refine lv_istore_n (lv' := [(1, .int 0), (0, .ref a_t)]) hx hb dX5_findRings_29 rfl hl (by decide) rfl (fun ls hl => ?_)
        refine lv_iconst (v := 0) hx hb dX5_findRings_30 (by decide) ?_
        refine lv_istore_n (lv' := [(2, .int 0), (1, .int 0), (0, .ref a_t)]) hx hb dX5_findRings_31 rfl hl (by decide) rfl (fun ls hl => ?_)
        have L32 : ∀ (n : Nat) (x4 : Int32) (x5 : Int32) (x6 : Int32) (z7 : (Nat → Int32)) (z8 : (Nat → Int32)) (z9 : (Nat → Int32)) (z10 : (Nat → Int32)) (ls : Array Slot) (H : Heap) (locs : List Loc), gX5_findRings_32 t_flagCount t_nexts_r (kX5_findRings_72) n x4 x5 x6 z7 z8 z9 z10 = some (s_t_ringCount, s_t_places_r, s_t_ringSizes_r, s_t_ringStarts_r, s_t_walk_r) → lv_has ls 3 [(0, .ref a_t), (1, .int x4), (2, .int x5)] → va_P D vwCl [x_o5 a_t a_N a_t_meeting a_t_level a_t_pointKeys a_t_firstFlags a_t_flagPoints a_t_flagLines a_t_nexts a_t_befores a_t_walk a_t_places a_t_ringStarts a_t_ringSizes t_pointCount t_flagCount x6, x_ar cI a_t_nexts 400 t_nexts_r, x_ar cI a_t_places 400 z7, x_ar cI a_t_ringSizes 400 z8, x_ar cI a_t_ringStarts 400 z9, x_ar cI a_t_walk 400 z10] H → va_D A [x_o5 a_t a_N a_t_meeting a_t_level a_t_pointKeys a_t_firstFlags a_t_flagPoints a_t_flagLines a_t_nexts a_t_befores a_t_walk a_t_places a_t_ringStarts a_t_ringSizes t_pointCount t_flagCount x6, x_ar cI a_t_nexts 400 t_nexts_r, x_ar cI a_t_places 400 z7, x_ar cI a_t_ringSizes 400 z8, x_ar cI a_t_ringStarts 400 z9, x_ar cI a_t_walk 400 z10] → va_S A s.heap H locs → W p l e rmX5_findRings s m args below meth c H locs 0 0 Q (F0 m 32 ls []) := by
          intro n32
          induction n32 with
          | zero =>
            intro x4 x5 x6 z7 z8 z9 z10 ls H locs hf
            exact nomatch (show (none : Option (Int32 × (Nat → Int32) × (Nat → Int32) × (Nat → Int32) × (Nat → Int32))) = some (s_t_ringCount, s_t_places_r, s_t_ringSizes_r, s_t_ringStarts_r, s_t_walk_r) from hf)
          | succ n32 ih32 =>
            intro x4 x5 x6 z7 z8 z9 z10 ls H locs hf hl hP hD hS
            have hf : FgX5_findRings_32 t_flagCount t_nexts_r (gX5_findRings_32 t_flagCount t_nexts_r (kX5_findRings_72) n32) (kX5_findRings_72) x4 x5 x6 z7 z8 z9 z10 = some (s_t_ringCount, s_t_places_r, s_t_ringSizes_r, s_t_ringStarts_r, s_t_walk_r) := hf
            unfold FgX5_findRings_32 at hf
            refine lv_iload_n hx hb dX5_findRings_32 rfl (lv_at hl 2 rfl) ?_
            refine lv_aload_n hx hb dX5_findRings_33 rfl (lv_at hl 0 rfl) ?_
            refine va_get (D := D) (ci := 5) (C := RX5) (T := TX5) (N := 16) hx hb hts iX5 hown hK hP 0 rfl rfl 14 (by decide) l66 (fun _ h9 => h9) rfl dX5_findRings_34 ?_
            have J72 : ∀ (y11 : Int32) (w12 : (Nat → Int32)) (w13 : (Nat → Int32)) (w14 : (Nat → Int32)) (w15 : (Nat → Int32)) (ls : Array Slot) (H : Heap) (locs : List Loc), kX5_findRings_72 y11 w12 w13 w14 w15 = some (s_t_ringCount, s_t_places_r, s_t_ringSizes_r, s_t_ringStarts_r, s_t_walk_r) → lv_has ls 3 [] → va_P D vwCl [x_o5 a_t a_N a_t_meeting a_t_level a_t_pointKeys a_t_firstFlags a_t_flagPoints a_t_flagLines a_t_nexts a_t_befores a_t_walk a_t_places a_t_ringStarts a_t_ringSizes t_pointCount t_flagCount y11, x_ar cI a_t_nexts 400 t_nexts_r, x_ar cI a_t_places 400 w12, x_ar cI a_t_ringSizes 400 w13, x_ar cI a_t_ringStarts 400 w14, x_ar cI a_t_walk 400 w15] H → va_D A [x_o5 a_t a_N a_t_meeting a_t_level a_t_pointKeys a_t_firstFlags a_t_flagPoints a_t_flagLines a_t_nexts a_t_befores a_t_walk a_t_places a_t_ringStarts a_t_ringSizes t_pointCount t_flagCount y11, x_ar cI a_t_nexts 400 t_nexts_r, x_ar cI a_t_places 400 w12, x_ar cI a_t_ringSizes 400 w13, x_ar cI a_t_ringStarts 400 w14, x_ar cI a_t_walk 400 w15] → va_S A s.heap H locs → W p l e rmX5_findRings s m args below meth c H locs 0 0 Q (F0 m 72 ls []) := by
              intro y11 w12 w13 w14 w15 ls H locs hf hl hP hD hS
              unfold kX5_findRings_72 at hf
              obtain ⟨rfl, rfl, rfl, rfl, rfl⟩ := o_s5 hf
              exact hret dX5_findRings_72 hP hD hS
            refine lv_icmp_ge (tgt := 72) hx hb dX5_findRings_37 (by decide) (fun hc => ?_) (fun hc => ?_)
            · have hf := o_t hf hc
              exact J72 x6 z7 z8 z9 z10 _ _ _ hf (lv_sub hl [] rfl) hP hD hS
            · have hf := o_f hf hc
              refine lv_aload_n hx hb dX5_findRings_40 rfl (lv_at hl 0 rfl) ?_
              refine va_get (D := D) (ci := 5) (C := RX5) (T := TX5) (N := 16) hx hb hts iX5 hown hK hP 0 rfl rfl 12 (by decide) l39 (fun _ h9 => h9) rfl dX5_findRings_41 ?_
              refine lv_iload_n hx hb dX5_findRings_44 rfl (lv_at hl 2 rfl) ?_
              obtain ⟨v16, hv16, hf⟩ := o_b1 hf
              refine x_ald hx hb hK hP 3 rfl hv16 dX5_findRings_45 ?_
              have J66 : ∀ (y17 : Int32) (y18 : Int32) (w19 : (Nat → Int32)) (w20 : (Nat → Int32)) (w21 : (Nat → Int32)) (w22 : (Nat → Int32)) (ls : Array Slot) (H : Heap) (locs : List Loc), jX5_findRings_66 x5 (gX5_findRings_32 t_flagCount t_nexts_r (kX5_findRings_72) n32) y17 y18 w19 w20 w21 w22 = some (s_t_ringCount, s_t_places_r, s_t_ringSizes_r, s_t_ringStarts_r, s_t_walk_r) → lv_has ls 3 [(0, .ref a_t), (1, .int y17), (2, .int x5)] → va_P D vwCl [x_o5 a_t a_N a_t_meeting a_t_level a_t_pointKeys a_t_firstFlags a_t_flagPoints a_t_flagLines a_t_nexts a_t_befores a_t_walk a_t_places a_t_ringStarts a_t_ringSizes t_pointCount t_flagCount y18, x_ar cI a_t_nexts 400 t_nexts_r, x_ar cI a_t_places 400 w19, x_ar cI a_t_ringSizes 400 w20, x_ar cI a_t_ringStarts 400 w21, x_ar cI a_t_walk 400 w22] H → va_D A [x_o5 a_t a_N a_t_meeting a_t_level a_t_pointKeys a_t_firstFlags a_t_flagPoints a_t_flagLines a_t_nexts a_t_befores a_t_walk a_t_places a_t_ringStarts a_t_ringSizes t_pointCount t_flagCount y18, x_ar cI a_t_nexts 400 t_nexts_r, x_ar cI a_t_places 400 w19, x_ar cI a_t_ringSizes 400 w20, x_ar cI a_t_ringStarts 400 w21, x_ar cI a_t_walk 400 w22] → va_S A s.heap H locs → W p l e rmX5_findRings s m args below meth c H locs 0 0 Q (F0 m 66 ls []) := by
                intro y17 y18 w19 w20 w21 w22 ls H locs hf hl hP hD hS
                unfold jX5_findRings_66 at hf
                obtain ⟨v23, ev23, hf⟩ := o_nm hf
                refine lv_iinc (v := v23) (lv' := [(2, .int v23), (0, .ref a_t), (1, .int y17)]) hx hb dX5_findRings_66 hl (k := 2) rfl (by rw [ev23]; rfl) (by decide) rfl (fun ls hl => ?_)
                refine lv_goto (tgt := 32) hx hb dX5_findRings_69 (by decide) ?_
                exact ih32 y17 v23 y18 w19 w20 w21 w22 _ _ _ hf (lv_sub hl [1, 2, 0] rfl) hP hD hS
              refine lv_if_ne (tgt := 66) hx hb dX5_findRings_46 (by decide) (fun hc => ?_) (fun hc => ?_)
              · have hf := o_f hf hc
                exact J66 x4 x6 z7 z8 z9 z10 _ _ _ hf (lv_sub hl [0, 1, 2] rfl) hP hD hS
              · have hf := o_t hf hc
                refine lv_aload_n hx hb dX5_findRings_49 rfl (lv_at hl 0 rfl) ?_
                refine lv_iload_n hx hb dX5_findRings_50 rfl (lv_at hl 2 rfl) ?_
                refine lv_iload_n hx hb dX5_findRings_51 rfl (lv_at hl 1 rfl) ?_
                obtain ⟨v24, u25, u26, u27, u28, hv24, hf⟩ := o_b5 hf
                refine x_vi (rest := []) (W1 := [x_o5 a_t a_N a_t_meeting a_t_level a_t_pointKeys a_t_firstFlags a_t_flagPoints a_t_flagLines a_t_nexts a_t_befores a_t_walk a_t_places a_t_ringStarts a_t_ringSizes t_pointCount t_flagCount x6, x_ar cI a_t_nexts 400 t_nexts_r, x_ar cI a_t_places 400 u25, x_ar cI a_t_ringSizes 400 u26, x_ar cI a_t_ringStarts 400 u27, x_ar cI a_t_walk 400 u28]) ⟨hx, hb, hml, hown, hts⟩ (tX5_walkRing l D cI a_t a_N a_t_meeting a_t_level a_t_pointKeys a_t_firstFlags a_t_flagPoints a_t_flagLines a_t_nexts a_t_befores a_t_walk a_t_places a_t_ringStarts a_t_ringSizes t_pointCount t_flagCount x6 t_nexts_r z7 z8 z9 z10 x5 x4 v24 u25 u26 u27 u28 hv24) (cwV 2 hts gX5_findRings_X5_walkRing rfl rfl rfl (by decide +kernel) ⟨Nat.le_of_ble_eq_true rfl, Nat.le_of_ble_eq_true rfl⟩) hN hK hP hD hS hA [0, 1, 2, 3, 4, 5] [some 0, some 1, some 2, some 3, some 4, some 5] rfl rfl rfl rfl rfl rfl 0 rfl rfl rfl hl.1 rfl (Nat.le_of_ble_eq_true rfl) dX5_findRings_52 ⟨Nat.zero_le _, Nat.zero_le _⟩ (fun H locs hP hD hS => ?_)
                refine lv_istore_n (lv' := [(1, .int v24), (0, .ref a_t), (2, .int x5)]) hx hb dX5_findRings_55 rfl hl (by decide) rfl (fun ls hl => ?_)
                refine lv_aload_n hx hb dX5_findRings_56 rfl (lv_at hl 1 rfl) ?_
                refine lv_dup hx hb dX5_findRings_57 rfl ?_
                refine va_get (D := D) (ci := 5) (C := RX5) (T := TX5) (N := 16) hx hb hts iX5 hown hK hP 0 rfl rfl 15 (by decide) l69 (fun _ h9 => h9) rfl dX5_findRings_58 ?_
                refine lv_iconst (v := 1) hx hb dX5_findRings_61 (by decide) ?_
                refine lv_iadd hx hb dX5_findRings_62 ?_
                obtain ⟨v29, ev29, hf⟩ := o_nm hf
                refine x_top ev29 ?_
                refine x_put (W1 := [x_o5 a_t a_N a_t_meeting a_t_level a_t_pointKeys a_t_firstFlags a_t_flagPoints a_t_flagLines a_t_nexts a_t_befores a_t_walk a_t_places a_t_ringStarts a_t_ringSizes t_pointCount t_flagCount v29, x_ar cI a_t_nexts 400 t_nexts_r, x_ar cI a_t_places 400 u25, x_ar cI a_t_ringSizes 400 u26, x_ar cI a_t_ringStarts 400 u27, x_ar cI a_t_walk 400 u28]) (ty := .int) (C := RX5) (T := TX5) (N := 16) hx hb hts iX5 tyX5 tyX5_ok nmX5 hown hK hP hD hS 0 rfl rfl 15 (by decide) l69 rfl rfl (by decide +kernel) rfl rfl (Nat.le_of_ble_eq_true rfl) rfl dX5_findRings_63 (fun H locs hP hD hS => ?_)
                exact J66 v24 v29 u25 u26 u27 u28 _ _ _ hf (lv_sub hl [1, 0, 2] rfl) hP hD hS
        exact L32 p_FU 0 0 0 t_places_r w3 t_ringStarts_r t_walk_r _ _ _ hf (lv_sub hl [2, 1, 0] rfl) hP hD hS
      refine lv_icmp_ge (tgt := 28) hx hb dX5_findRings_12 (by decide) (fun hc => ?_) (fun hc => ?_)
      · have hf := o_t hf hc
        exact J28 z2 _ _ _ hf (lv_sub hl [0] rfl) hP hD hS
      · have hf := o_f hf hc
        refine lv_aload_n hx hb dX5_findRings_15 rfl (lv_at hl 0 rfl) ?_
        refine va_get (D := D) (ci := 5) (C := RX5) (T := TX5) (N := 16) hx hb hts iX5 hown hK hP 0 rfl rfl 12 (by decide) l39 (fun _ h9 => h9) rfl dX5_findRings_16 ?_
        refine lv_iload_n hx hb dX5_findRings_19 rfl (lv_at hl 1 rfl) ?_
        refine lv_iconst (v := 0) hx hb dX5_findRings_20 (by decide) ?_
        obtain ⟨u30, hu30, hf⟩ := o_b1 hf
        refine x_ast (W1 := [x_o5 a_t a_N a_t_meeting a_t_level a_t_pointKeys a_t_firstFlags a_t_flagPoints a_t_flagLines a_t_nexts a_t_befores a_t_walk a_t_places a_t_ringStarts a_t_ringSizes t_pointCount t_flagCount 0, x_ar cI a_t_nexts 400 t_nexts_r, x_ar cI a_t_places 400 t_places_r, x_ar cI a_t_ringSizes 400 u30, x_ar cI a_t_ringStarts 400 t_ringStarts_r, x_ar cI a_t_walk 400 t_walk_r]) hx hb hK hP hD hS 3 rfl hu30 rfl dX5_findRings_21 (fun H locs hP hD hS => ?_)
        obtain ⟨v31, ev31, hf⟩ := o_nm hf
        refine lv_iinc (v := v31) (lv' := [(1, .int v31), (0, .ref a_t)]) hx hb dX5_findRings_22 hl (k := 1) rfl (by rw [ev31]; rfl) (by decide) rfl (fun ls hl => ?_)
        refine lv_goto (tgt := 7) hx hb dX5_findRings_25 (by decide) ?_
        exact ih7 v31 u30 _ _ _ hf (lv_sub hl [1, 0] rfl) hP hD hS
  exact L7 p_FU 0 t_ringSizes_r _ _ _ hf (lv_sub hl [1, 0] rfl) hP hD hS
def fX3_keyBeside (t_count : Int32) (t_lower : Int32) (t_upper : Int32) (i1 : Int32) : Option (Int32) :=
  if 2 ≤ t_count then (if i1 = t_lower then (some t_upper) else (some t_lower)) else (some i1)
def rmX3_keyBeside : Room := { frames := 0, cells := 0, slots := 0, locals := 0 }
set_option maxHeartbeats 4000000 in
set_option maxRecDepth 100000 in
theorem tX3_keyBeside (l : Launch) (D : va_G) (cI : ClassId) (a_t : Nat) (a_N : Nat) (a_t_start : Nat) (a_t_end : Nat) (a_t_found : Nat) (t_count : Int32) (t_lower : Int32) (t_upper : Int32) (i1 : Int32) (r : Int32) (hf : fX3_keyBeside t_count t_lower t_upper i1 = some r) : x_CI l D cI yX3_keyBeside wsX3_keyBeside rmX3_keyBeside [.ref a_t, .int i1] [x_o3 a_t a_N a_t_start a_t_end a_t_found t_count t_lower t_upper] [x_o3 a_t a_N a_t_start a_t_end a_t_found t_count t_lower t_upper] r := by
  refine x_CI_of (cc := cX3_keyBeside) (maxL := 2) (ty := .int) (own := RX3) (lv0 := [(0, .ref a_t), (1, .int i1)]) (by decide) rfl rfl (Nat.le_of_ble_eq_true rfl) rfl ?_
  intro p e s m args below meth c A Q ls hx hb hml hown hts hN hK hP hD hS hA hl hret
  have iX3 : ∀ w ∈ u_ws RX3 TX3 7, w ∈ wsX3_keyBeside := by decide +kernel
  have l30 := hts (.fieldLink RX3 30 "ChordRings$Meeting" "count" "I") (by decide +kernel)
  have l58 := hts (.fieldLink RX3 58 "ChordRings$Meeting" "lower" "I") (by decide +kernel)
  have l61 := hts (.fieldLink RX3 61 "ChordRings$Meeting" "upper" "I") (by decide +kernel)
  unfold fX3_keyBeside at hf
  refine lv_aload_n hx hb dX3_keyBeside_0 rfl (lv_at hl 0 rfl) ?_
  refine va_get (D := D) (ci := 3) (C := RX3) (T := TX3) (N := 7) hx hb hts iX3 hown hK hP 0 rfl rfl 4 (by decide) l30 (fun _ h9 => h9) rfl dX3_keyBeside_1 ?_
  refine lv_iconst (v := 2) hx hb dX3_keyBeside_4 (by decide) ?_
  refine lv_icmp_ge (tgt := 12) hx hb dX3_keyBeside_5 (by decide) (fun hc => ?_) (fun hc => ?_)
  · have hf := o_t hf hc
    refine lv_iload_n hx hb dX3_keyBeside_12 rfl (lv_at hl 1 rfl) ?_
    refine lv_aload_n hx hb dX3_keyBeside_13 rfl (lv_at hl 0 rfl) ?_
    refine va_get (D := D) (ci := 3) (C := RX3) (T := TX3) (N := 7) hx hb hts iX3 hown hK hP 0 rfl rfl 5 (by decide) l58 (fun _ h9 => h9) rfl dX3_keyBeside_14 ?_
    refine lv_icmp_ne (tgt := 27) hx hb dX3_keyBeside_17 (by decide) (fun hc => ?_) (fun hc => ?_)
    · have hf := o_f hf hc
      refine lv_aload_n hx hb dX3_keyBeside_27 rfl (lv_at hl 0 rfl) ?_
      refine va_get (D := D) (ci := 3) (C := RX3) (T := TX3) (N := 7) hx hb hts iX3 hown hK hP 0 rfl rfl 5 (by decide) l58 (fun _ h9 => h9) rfl dX3_keyBeside_28 ?_
      obtain rfl := Option.some.inj hf
      exact hret rfl rfl dX3_keyBeside_31 hP hD hS
    · have hf := o_t hf hc
      refine lv_aload_n hx hb dX3_keyBeside_20 rfl (lv_at hl 0 rfl) ?_
      refine va_get (D := D) (ci := 3) (C := RX3) (T := TX3) (N := 7) hx hb hts iX3 hown hK hP 0 rfl rfl 6 (by decide) l61 (fun _ h9 => h9) rfl dX3_keyBeside_21 ?_
      refine lv_goto (tgt := 31) hx hb dX3_keyBeside_24 (by decide) ?_
      obtain rfl := Option.some.inj hf
      exact hret rfl rfl dX3_keyBeside_31 hP hD hS
  · have hf := o_f hf hc
    refine lv_iload_n hx hb dX3_keyBeside_8 rfl (lv_at hl 1 rfl) ?_
    refine lv_goto (tgt := 31) hx hb dX3_keyBeside_9 (by decide) ?_
    obtain rfl := Option.some.inj hf
    exact hret rfl rfl dX3_keyBeside_31 hP hD hS
noncomputable def kX5_findPoint_76 : Option (Int32) :=
  some (-1)
noncomputable def jX5_findPoint_70 (x4 : Int32) (rec12 : Int32 → Int32 → Int32 → Option (Int32)) (y8 : Int32) (y9 : Int32) : Option (Int32) :=
  p_nm (x4 + 1) (fun v10 =>
rec12 y8 y9 v10)
noncomputable def FgX5_findPoint_12 (t_pointKeys_r : (Nat → Int32)) (i1 : Int32) (rec12 : Int32 → Int32 → Int32 → Option (Int32)) (kk12 : Option (Int32)) (x2 : Int32) (x3 : Int32) (x4 : Int32) : Option (Int32) :=
  if 200 ≤ x4 then (kk12) else (if x3 < x2 then (kk12) else (p_b1 (p_dv (x2 + x3) 2) (fun v5 =>
p_b1 (p_ld t_pointKeys_r 200 v5) (fun v6 =>
if v6 = i1 then (some v5) else (p_b1 (p_ld t_pointKeys_r 200 v5) (fun v7 =>
if i1 ≤ v7 then (p_nm (v5 - 1) (fun v11 =>
jX5_findPoint_70 x4 rec12 x2 v11)) else (p_nm (v5 + 1) (fun v12 =>
jX5_findPoint_70 x4 rec12 v12 x3))))))))
noncomputable def gX5_findPoint_12 (t_pointKeys_r : (Nat → Int32)) (i1 : Int32) (kk12 : Option (Int32)) (n : Nat) : Int32 → Int32 → Int32 → Option (Int32) := Nat.rec (motive := fun _ => Int32 → Int32 → Int32 → Option (Int32)) (fun _ _ _ => none) (fun _ rec12 => FgX5_findPoint_12 t_pointKeys_r i1 rec12 kk12) n
noncomputable def fX5_findPoint (t_pointCount : Int32) (t_pointKeys_r : (Nat → Int32)) (i1 : Int32) : Option (Int32) :=
  p_nm (t_pointCount - 1) (fun v1 =>
gX5_findPoint_12 t_pointKeys_r i1 (kX5_findPoint_76) p_FU 0 v1 0)
def rmX5_findPoint : Room := { frames := 0, cells := 0, slots := 0, locals := 0 }
set_option maxHeartbeats 4000000 in
set_option maxRecDepth 100000 in
theorem tX5_findPoint (l : Launch) (D : va_G) (cI : ClassId) (a_t : Nat) (a_N : Nat) (a_t_meeting : Nat) (a_t_level : Nat) (a_t_pointKeys : Nat) (a_t_firstFlags : Nat) (a_t_flagPoints : Nat) (a_t_flagLines : Nat) (a_t_nexts : Nat) (a_t_befores : Nat) (a_t_walk : Nat) (a_t_places : Nat) (a_t_ringStarts : Nat) (a_t_ringSizes : Nat) (t_pointCount : Int32) (t_flagCount : Int32) (t_ringCount : Int32) (t_pointKeys_r : (Nat → Int32)) (i1 : Int32) (r : Int32) (hf : fX5_findPoint t_pointCount t_pointKeys_r i1 = some r) : x_CI l D cI yX5_findPoint wsX5_findPoint rmX5_findPoint [.ref a_t, .int i1] [x_o5 a_t a_N a_t_meeting a_t_level a_t_pointKeys a_t_firstFlags a_t_flagPoints a_t_flagLines a_t_nexts a_t_befores a_t_walk a_t_places a_t_ringStarts a_t_ringSizes t_pointCount t_flagCount t_ringCount, x_ar cI a_t_pointKeys 200 t_pointKeys_r] [x_o5 a_t a_N a_t_meeting a_t_level a_t_pointKeys a_t_firstFlags a_t_flagPoints a_t_flagLines a_t_nexts a_t_befores a_t_walk a_t_places a_t_ringStarts a_t_ringSizes t_pointCount t_flagCount t_ringCount, x_ar cI a_t_pointKeys 200 t_pointKeys_r] r := by
  refine x_CI_of (cc := cX5_findPoint) (maxL := 6) (ty := .int) (own := RX5) (lv0 := [(0, .ref a_t), (1, .int i1)]) (by decide) rfl rfl (Nat.le_of_ble_eq_true rfl) rfl ?_
  intro p e s m args below meth c A Q ls hx hb hml hown hts hN hK hP hD hS hA hl hret
  have iX5 : ∀ w ∈ u_ws RX5 TX5 16, w ∈ wsX5_findPoint := by decide +kernel
  have l62 := hts (.fieldLink RX5 62 "ChordRings$Rings" "pointCount" "I") (by decide +kernel)
  have l11 := hts (.fieldLink RX5 11 "ChordRings$Rings" "pointKeys" "[I") (by decide +kernel)
  unfold fX5_findPoint at hf
  refine lv_iconst (v := 0) hx hb dX5_findPoint_0 (by decide) ?_
  refine lv_istore_n (lv' := [(2, .int 0), (0, .ref a_t), (1, .int i1)]) hx hb dX5_findPoint_1 rfl hl (by decide) rfl (fun ls hl => ?_)
  refine lv_aload_n hx hb dX5_findPoint_2 rfl (lv_at hl 1 rfl) ?_
  refine va_get (D := D) (ci := 5) (C := RX5) (T := TX5) (N := 16) hx hb hts iX5 hown hK hP 0 rfl rfl 13 (by decide) l62 (fun _ h9 => h9) rfl dX5_findPoint_3 ?_
  refine lv_iconst (v := 1) hx hb dX5_findPoint_6 (by decide) ?_
  refine lv_isub hx hb dX5_findPoint_7 ?_
  obtain ⟨v1, ev1, hf⟩ := o_nm hf
  refine x_top ev1 ?_
  refine lv_istore_n (lv' := [(3, .int v1), (2, .int 0), (0, .ref a_t), (1, .int i1)]) hx hb dX5_findPoint_8 rfl hl (by decide) rfl (fun ls hl => ?_)
  refine lv_iconst (v := 0) hx hb dX5_findPoint_9 (by decide) ?_
  refine lv_istore (lv' := [(4, .int 0), (3, .int v1), (2, .int 0), (0, .ref a_t), (1, .int i1)]) hx hb dX5_findPoint_10 hl (by decide) rfl (fun ls hl => ?_)
  have L12 : ∀ (n : Nat) (x2 : Int32) (x3 : Int32) (x4 : Int32) (ls : Array Slot) (H : Heap) (locs : List Loc), gX5_findPoint_12 t_pointKeys_r i1 (kX5_findPoint_76) n x2 x3 x4 = some r → lv_has ls 6 [(0, .ref a_t), (1, .int i1), (2, .int x2), (3, .int x3), (4, .int x4)] → va_P D vwCl [x_o5 a_t a_N a_t_meeting a_t_level a_t_pointKeys a_t_firstFlags a_t_flagPoints a_t_flagLines a_t_nexts a_t_befores a_t_walk a_t_places a_t_ringStarts a_t_ringSizes t_pointCount t_flagCount t_ringCount, x_ar cI a_t_pointKeys 200 t_pointKeys_r] H → va_D A [x_o5 a_t a_N a_t_meeting a_t_level a_t_pointKeys a_t_firstFlags a_t_flagPoints a_t_flagLines a_t_nexts a_t_befores a_t_walk a_t_places a_t_ringStarts a_t_ringSizes t_pointCount t_flagCount t_ringCount, x_ar cI a_t_pointKeys 200 t_pointKeys_r] → va_S A s.heap H locs → W p l e rmX5_findPoint s m args below meth c H locs 0 0 Q (F0 m 12 ls []) := by
    intro n12
    induction n12 with
    | zero =>
      intro x2 x3 x4 ls H locs hf
      exact nomatch (show (none : Option (Int32)) = some r from hf)
    | succ n12 ih12 =>
      intro x2 x3 x4 ls H locs hf hl hP hD hS
      have hf : FgX5_findPoint_12 t_pointKeys_r i1 (gX5_findPoint_12 t_pointKeys_r i1 (kX5_findPoint_76) n12) (kX5_findPoint_76) x2 x3 x4 = some r := hf
      unfold FgX5_findPoint_12 at hf
      refine lv_iload hx hb dX5_findPoint_12 (lv_at hl 4 rfl) ?_
      refine lv_sipush (v := 200) hx hb dX5_findPoint_14 (by decide) ?_
      have J76 : ∀ (ls : Array Slot) (H : Heap) (locs : List Loc), kX5_findPoint_76 = some r → lv_has ls 6 [] → va_P D vwCl [x_o5 a_t a_N a_t_meeting a_t_level a_t_pointKeys a_t_firstFlags a_t_flagPoints a_t_flagLines a_t_nexts a_t_befores a_t_walk a_t_places a_t_ringStarts a_t_ringSizes t_pointCount t_flagCount t_ringCount, x_ar cI a_t_pointKeys 200 t_pointKeys_r] H → va_D A [x_o5 a_t a_N a_t_meeting a_t_level a_t_pointKeys a_t_firstFlags a_t_flagPoints a_t_flagLines a_t_nexts a_t_befores a_t_walk a_t_places a_t_ringStarts a_t_ringSizes t_pointCount t_flagCount t_ringCount, x_ar cI a_t_pointKeys 200 t_pointKeys_r] → va_S A s.heap H locs → W p l e rmX5_findPoint s m args below meth c H locs 0 0 Q (F0 m 76 ls []) := by
        intro ls H locs hf hl hP hD hS
        unfold kX5_findPoint_76 at hf
        refine lv_iconst (v := (-1)) hx hb dX5_findPoint_76 (by decide) ?_
        obtain rfl := Option.some.inj hf
        exact hret rfl rfl dX5_findPoint_77 hP hD hS
      refine lv_icmp_ge (tgt := 76) hx hb dX5_findPoint_17 (by decide) (fun hc => ?_) (fun hc => ?_)
      · have hf := o_t hf hc
        exact J76 _ _ _ hf (lv_sub hl [] rfl) hP hD hS
      · have hf := o_f hf hc
        refine lv_iload_n hx hb dX5_findPoint_20 rfl (lv_at hl 2 rfl) ?_
        refine lv_iload_n hx hb dX5_findPoint_21 rfl (lv_at hl 3 rfl) ?_
        refine lv_icmp_gt (tgt := 76) hx hb dX5_findPoint_22 (by decide) (fun hc => ?_) (fun hc => ?_)
        · have hf := o_t hf hc
          exact J76 _ _ _ hf (lv_sub hl [] rfl) hP hD hS
        · have hf := o_f hf hc
          refine lv_iload_n hx hb dX5_findPoint_25 rfl (lv_at hl 2 rfl) ?_
          refine lv_iload_n hx hb dX5_findPoint_26 rfl (lv_at hl 3 rfl) ?_
          refine lv_iadd hx hb dX5_findPoint_27 ?_
          refine lv_iconst (v := 2) hx hb dX5_findPoint_28 (by decide) ?_
          obtain ⟨v5, hv5, hf⟩ := o_b1 hf
          refine x_dv hx hb hv5 dX5_findPoint_29 ?_
          refine lv_istore (lv' := [(5, .int v5), (0, .ref a_t), (1, .int i1), (2, .int x2), (3, .int x3), (4, .int x4)]) hx hb dX5_findPoint_30 hl (by decide) rfl (fun ls hl => ?_)
          refine lv_aload_n hx hb dX5_findPoint_32 rfl (lv_at hl 1 rfl) ?_
          refine va_get (D := D) (ci := 5) (C := RX5) (T := TX5) (N := 16) hx hb hts iX5 hown hK hP 0 rfl rfl 3 (by decide) l11 (fun _ h9 => h9) rfl dX5_findPoint_33 ?_
          refine lv_iload hx hb dX5_findPoint_36 (lv_at hl 0 rfl) ?_
          obtain ⟨v6, hv6, hf⟩ := o_b1 hf
          refine x_ald hx hb hK hP 1 rfl hv6 dX5_findPoint_38 ?_
          refine lv_iload_n hx hb dX5_findPoint_39 rfl (lv_at hl 2 rfl) ?_
          refine lv_icmp_ne (tgt := 46) hx hb dX5_findPoint_40 (by decide) (fun hc => ?_) (fun hc => ?_)
          · have hf := o_f hf hc
            refine lv_aload_n hx hb dX5_findPoint_46 rfl (lv_at hl 1 rfl) ?_
            refine va_get (D := D) (ci := 5) (C := RX5) (T := TX5) (N := 16) hx hb hts iX5 hown hK hP 0 rfl rfl 3 (by decide) l11 (fun _ h9 => h9) rfl dX5_findPoint_47 ?_
            refine lv_iload hx hb dX5_findPoint_50 (lv_at hl 0 rfl) ?_
            obtain ⟨v7, hv7, hf⟩ := o_b1 hf
            refine x_ald hx hb hK hP 1 rfl hv7 dX5_findPoint_52 ?_
            refine lv_iload_n hx hb dX5_findPoint_53 rfl (lv_at hl 2 rfl) ?_
            have J70 : ∀ (y8 : Int32) (y9 : Int32) (ls : Array Slot) (H : Heap) (locs : List Loc), jX5_findPoint_70 x4 (gX5_findPoint_12 t_pointKeys_r i1 (kX5_findPoint_76) n12) y8 y9 = some r → lv_has ls 6 [(0, .ref a_t), (1, .int i1), (2, .int y8), (3, .int y9), (4, .int x4)] → va_P D vwCl [x_o5 a_t a_N a_t_meeting a_t_level a_t_pointKeys a_t_firstFlags a_t_flagPoints a_t_flagLines a_t_nexts a_t_befores a_t_walk a_t_places a_t_ringStarts a_t_ringSizes t_pointCount t_flagCount t_ringCount, x_ar cI a_t_pointKeys 200 t_pointKeys_r] H → va_D A [x_o5 a_t a_N a_t_meeting a_t_level a_t_pointKeys a_t_firstFlags a_t_flagPoints a_t_flagLines a_t_nexts a_t_befores a_t_walk a_t_places a_t_ringStarts a_t_ringSizes t_pointCount t_flagCount t_ringCount, x_ar cI a_t_pointKeys 200 t_pointKeys_r] → va_S A s.heap H locs → W p l e rmX5_findPoint s m args below meth c H locs 0 0 Q (F0 m 70 ls []) := by
              intro y8 y9 ls H locs hf hl hP hD hS
              unfold jX5_findPoint_70 at hf
              obtain ⟨v10, ev10, hf⟩ := o_nm hf
              refine lv_iinc (v := v10) (lv' := [(4, .int v10), (0, .ref a_t), (1, .int i1), (2, .int y8), (3, .int y9)]) hx hb dX5_findPoint_70 hl (k := 4) rfl (by rw [ev10]; rfl) (by decide) rfl (fun ls hl => ?_)
              refine lv_goto (tgt := 12) hx hb dX5_findPoint_73 (by decide) ?_
              exact ih12 y8 y9 v10 _ _ _ hf (lv_sub hl [1, 2, 3, 4, 0] rfl) hP hD hS
            refine lv_icmp_ge (tgt := 65) hx hb dX5_findPoint_54 (by decide) (fun hc => ?_) (fun hc => ?_)
            · have hf := o_t hf hc
              refine lv_iload hx hb dX5_findPoint_65 (lv_at hl 0 rfl) ?_
              refine lv_iconst (v := 1) hx hb dX5_findPoint_67 (by decide) ?_
              refine lv_isub hx hb dX5_findPoint_68 ?_
              obtain ⟨v11, ev11, hf⟩ := o_nm hf
              refine x_top ev11 ?_
              refine lv_istore_n (lv' := [(3, .int v11), (5, .int v5), (0, .ref a_t), (1, .int i1), (2, .int x2), (4, .int x4)]) hx hb dX5_findPoint_69 rfl hl (by decide) rfl (fun ls hl => ?_)
              exact J70 x2 v11 _ _ _ hf (lv_sub hl [2, 3, 4, 0, 5] rfl) hP hD hS
            · have hf := o_f hf hc
              refine lv_iload hx hb dX5_findPoint_57 (lv_at hl 0 rfl) ?_
              refine lv_iconst (v := 1) hx hb dX5_findPoint_59 (by decide) ?_
              refine lv_iadd hx hb dX5_findPoint_60 ?_
              obtain ⟨v12, ev12, hf⟩ := o_nm hf
              refine x_top ev12 ?_
              refine lv_istore_n (lv' := [(2, .int v12), (5, .int v5), (0, .ref a_t), (1, .int i1), (3, .int x3), (4, .int x4)]) hx hb dX5_findPoint_61 rfl hl (by decide) rfl (fun ls hl => ?_)
              refine lv_goto (tgt := 70) hx hb dX5_findPoint_62 (by decide) ?_
              exact J70 v12 x3 _ _ _ hf (lv_sub hl [2, 3, 0, 4, 5] rfl) hP hD hS
          · have hf := o_t hf hc
            refine lv_iload hx hb dX5_findPoint_43 (lv_at hl 0 rfl) ?_
            obtain rfl := Option.some.inj hf
            exact hret rfl rfl dX5_findPoint_45 hP hD hS
  exact L12 p_FU 0 v1 0 _ _ _ hf (lv_sub hl [3, 4, 2, 1, 0] rfl) hP hD hS
def fX5_hasPoint (t_pointCount : Int32) (i1 : Int32) : Option (Int32) :=
  if i1 < 0 then (some 0) else (if t_pointCount ≤ i1 then (some 0) else (some 1))
def rmX5_hasPoint : Room := { frames := 0, cells := 0, slots := 0, locals := 0 }
set_option maxHeartbeats 4000000 in
set_option maxRecDepth 100000 in
theorem tX5_hasPoint (l : Launch) (D : va_G) (cI : ClassId) (a_t : Nat) (a_N : Nat) (a_t_meeting : Nat) (a_t_level : Nat) (a_t_pointKeys : Nat) (a_t_firstFlags : Nat) (a_t_flagPoints : Nat) (a_t_flagLines : Nat) (a_t_nexts : Nat) (a_t_befores : Nat) (a_t_walk : Nat) (a_t_places : Nat) (a_t_ringStarts : Nat) (a_t_ringSizes : Nat) (t_pointCount : Int32) (t_flagCount : Int32) (t_ringCount : Int32) (i1 : Int32) (r : Int32) (hf : fX5_hasPoint t_pointCount i1 = some r) : x_CI l D cI yX5_hasPoint wsX5_hasPoint rmX5_hasPoint [.ref a_t, .int i1] [x_o5 a_t a_N a_t_meeting a_t_level a_t_pointKeys a_t_firstFlags a_t_flagPoints a_t_flagLines a_t_nexts a_t_befores a_t_walk a_t_places a_t_ringStarts a_t_ringSizes t_pointCount t_flagCount t_ringCount] [x_o5 a_t a_N a_t_meeting a_t_level a_t_pointKeys a_t_firstFlags a_t_flagPoints a_t_flagLines a_t_nexts a_t_befores a_t_walk a_t_places a_t_ringStarts a_t_ringSizes t_pointCount t_flagCount t_ringCount] r := by
  refine x_CI_of (cc := cX5_hasPoint) (maxL := 2) (ty := .boolean) (own := RX5) (lv0 := [(0, .ref a_t), (1, .int i1)]) (by decide) rfl rfl (Nat.le_of_ble_eq_true rfl) rfl ?_
  intro p e s m args below meth c A Q ls hx hb hml hown hts hN hK hP hD hS hA hl hret
  have iX5 : ∀ w ∈ u_ws RX5 TX5 16, w ∈ wsX5_hasPoint := by decide +kernel
  have l62 := hts (.fieldLink RX5 62 "ChordRings$Rings" "pointCount" "I") (by decide +kernel)
  unfold fX5_hasPoint at hf
  refine lv_iload_n hx hb dX5_hasPoint_0 rfl (lv_at hl 1 rfl) ?_
  refine lv_if_lt (tgt := 16) hx hb dX5_hasPoint_1 (by decide) (fun hc => ?_) (fun hc => ?_)
  · have hf := o_t hf hc
    refine lv_iconst (v := 0) hx hb dX5_hasPoint_16 (by decide) ?_
    obtain rfl := Option.some.inj hf
    exact hret rfl (by decide) dX5_hasPoint_17 hP hD hS
  · have hf := o_f hf hc
    refine lv_iload_n hx hb dX5_hasPoint_4 rfl (lv_at hl 1 rfl) ?_
    refine lv_aload_n hx hb dX5_hasPoint_5 rfl (lv_at hl 0 rfl) ?_
    refine va_get (D := D) (ci := 5) (C := RX5) (T := TX5) (N := 16) hx hb hts iX5 hown hK hP 0 rfl rfl 13 (by decide) l62 (fun _ h9 => h9) rfl dX5_hasPoint_6 ?_
    refine lv_icmp_ge (tgt := 16) hx hb dX5_hasPoint_9 (by decide) (fun hc => ?_) (fun hc => ?_)
    · have hf := o_t hf hc
      refine lv_iconst (v := 0) hx hb dX5_hasPoint_16 (by decide) ?_
      obtain rfl := Option.some.inj hf
      exact hret rfl (by decide) dX5_hasPoint_17 hP hD hS
    · have hf := o_f hf hc
      refine lv_iconst (v := 1) hx hb dX5_hasPoint_12 (by decide) ?_
      refine lv_goto (tgt := 17) hx hb dX5_hasPoint_13 (by decide) ?_
      obtain rfl := Option.some.inj hf
      exact hret rfl (by decide) dX5_hasPoint_17 hP hD hS
noncomputable def kX5_flagBeside_60 (y6 : Int32) : Option (Int32) :=
  some y6
noncomputable def FgX5_flagBeside_20 (t_firstFlags_r : (Nat → Int32)) (t_flagLines_r : (Nat → Int32)) (i1 : Int32) (i2 : Int32) (rec20 : Int32 → Int32 → Option (Int32)) (kk20 : Int32 → Option (Int32)) (x3 : Int32) (x4 : Int32) : Option (Int32) :=
  p_b1 (p_ld t_firstFlags_r 201 (i2 + 1)) (fun v5 =>
if v5 ≤ x4 then (kk20 x3) else (p_b1 (p_ld t_flagLines_r 400 x4) (fun v7 =>
p_b1 (p_ld t_flagLines_r 400 i1) (fun v8 =>
if v7 = v8 then (p_nm (x4 + 1) (fun v9 =>
rec20 x4 v9)) else (some x4)))))
noncomputable def gX5_flagBeside_20 (t_firstFlags_r : (Nat → Int32)) (t_flagLines_r : (Nat → Int32)) (i1 : Int32) (i2 : Int32) (kk20 : Int32 → Option (Int32)) (n : Nat) : Int32 → Int32 → Option (Int32) := Nat.rec (motive := fun _ => Int32 → Int32 → Option (Int32)) (fun _ _ => none) (fun _ rec20 => FgX5_flagBeside_20 t_firstFlags_r t_flagLines_r i1 i2 rec20 kk20) n
noncomputable def fX5_flagBeside (t_pointCount : Int32) (t_firstFlags_r : (Nat → Int32)) (t_flagLines_r : (Nat → Int32)) (i1 : Int32) (i2 : Int32) : Option (Int32) :=
  p_b1 (fX5_hasPoint t_pointCount i2) (fun v1 =>
if v1 = 0 then (some i1) else (p_b1 (p_ld t_firstFlags_r 201 i2) (fun v2 =>
gX5_flagBeside_20 t_firstFlags_r t_flagLines_r i1 i2 (kX5_flagBeside_60) p_FU i1 v2)))
def rmX5_flagBeside : Room := { frames := 1, cells := 0, slots := 0, locals := 21 }
set_option maxHeartbeats 4000000 in
set_option maxRecDepth 100000 in
theorem tX5_flagBeside (l : Launch) (D : va_G) (cI : ClassId) (a_t : Nat) (a_N : Nat) (a_t_meeting : Nat) (a_t_level : Nat) (a_t_pointKeys : Nat) (a_t_firstFlags : Nat) (a_t_flagPoints : Nat) (a_t_flagLines : Nat) (a_t_nexts : Nat) (a_t_befores : Nat) (a_t_walk : Nat) (a_t_places : Nat) (a_t_ringStarts : Nat) (a_t_ringSizes : Nat) (t_pointCount : Int32) (t_flagCount : Int32) (t_ringCount : Int32) (t_firstFlags_r : (Nat → Int32)) (t_flagLines_r : (Nat → Int32)) (i1 : Int32) (i2 : Int32) (r : Int32) (hf : fX5_flagBeside t_pointCount t_firstFlags_r t_flagLines_r i1 i2 = some r) : x_CI l D cI yX5_flagBeside wsX5_flagBeside rmX5_flagBeside [.ref a_t, .int i1, .int i2] [x_o5 a_t a_N a_t_meeting a_t_level a_t_pointKeys a_t_firstFlags a_t_flagPoints a_t_flagLines a_t_nexts a_t_befores a_t_walk a_t_places a_t_ringStarts a_t_ringSizes t_pointCount t_flagCount t_ringCount, x_ar cI a_t_firstFlags 201 t_firstFlags_r, x_ar cI a_t_flagLines 400 t_flagLines_r] [x_o5 a_t a_N a_t_meeting a_t_level a_t_pointKeys a_t_firstFlags a_t_flagPoints a_t_flagLines a_t_nexts a_t_befores a_t_walk a_t_places a_t_ringStarts a_t_ringSizes t_pointCount t_flagCount t_ringCount, x_ar cI a_t_firstFlags 201 t_firstFlags_r, x_ar cI a_t_flagLines 400 t_flagLines_r] r := by
  refine x_CI_of (cc := cX5_flagBeside) (maxL := 5) (ty := .int) (own := RX5) (lv0 := [(0, .ref a_t), (1, .int i1), (2, .int i2)]) (by decide) rfl rfl (Nat.le_of_ble_eq_true rfl) rfl ?_
  intro p e s m args below meth c A Q ls hx hb hml hown hts hN hK hP hD hS hA hl hret
  have iX5 : ∀ w ∈ u_ws RX5 TX5 16, w ∈ wsX5_flagBeside := by decide +kernel
  have l15 := hts (.fieldLink RX5 15 "ChordRings$Rings" "firstFlags" "[I") (by decide +kernel)
  have l21 := hts (.fieldLink RX5 21 "ChordRings$Rings" "flagLines" "[I") (by decide +kernel)
  unfold fX5_flagBeside at hf
  refine lv_iload_n hx hb dX5_flagBeside_0 rfl (lv_at hl 1 rfl) ?_
  refine lv_istore_n (lv' := [(3, .int i1), (0, .ref a_t), (1, .int i1), (2, .int i2)]) hx hb dX5_flagBeside_1 rfl hl (by decide) rfl (fun ls hl => ?_)
  refine lv_aload_n hx hb dX5_flagBeside_2 rfl (lv_at hl 1 rfl) ?_
  refine lv_iload_n hx hb dX5_flagBeside_3 rfl (lv_at hl 3 rfl) ?_
  obtain ⟨v1, hv1, hf⟩ := o_b1 hf
  refine x_vi (rest := []) (W1 := [x_o5 a_t a_N a_t_meeting a_t_level a_t_pointKeys a_t_firstFlags a_t_flagPoints a_t_flagLines a_t_nexts a_t_befores a_t_walk a_t_places a_t_ringStarts a_t_ringSizes t_pointCount t_flagCount t_ringCount, x_ar cI a_t_firstFlags 201 t_firstFlags_r, x_ar cI a_t_flagLines 400 t_flagLines_r]) ⟨hx, hb, hml, hown, hts⟩ (tX5_hasPoint l D cI a_t a_N a_t_meeting a_t_level a_t_pointKeys a_t_firstFlags a_t_flagPoints a_t_flagLines a_t_nexts a_t_befores a_t_walk a_t_places a_t_ringStarts a_t_ringSizes t_pointCount t_flagCount t_ringCount i2 v1 hv1) (cwV 1 hts gX5_flagBeside_X5_hasPoint rfl rfl rfl (by decide +kernel) ⟨Nat.le_of_ble_eq_true rfl, Nat.le_of_ble_eq_true rfl⟩) hN hK hP hD hS hA [0] [some 0, none, none] rfl rfl rfl rfl rfl rfl 0 rfl rfl rfl hl.1 rfl (Nat.le_of_ble_eq_true rfl) dX5_flagBeside_4 ⟨Nat.zero_le _, Nat.zero_le _⟩ (fun H locs hP hD hS => ?_)
  refine lv_if_ne (tgt := 12) hx hb dX5_flagBeside_7 (by decide) (fun hc => ?_) (fun hc => ?_)
  · have hf := o_f hf hc
    refine lv_aload_n hx hb dX5_flagBeside_12 rfl (lv_at hl 1 rfl) ?_
    refine va_get (D := D) (ci := 5) (C := RX5) (T := TX5) (N := 16) hx hb hts iX5 hown hK hP 0 rfl rfl 4 (by decide) l15 (fun _ h9 => h9) rfl dX5_flagBeside_13 ?_
    refine lv_iload_n hx hb dX5_flagBeside_16 rfl (lv_at hl 3 rfl) ?_
    obtain ⟨v2, hv2, hf⟩ := o_b1 hf
    refine x_ald hx hb hK hP 1 rfl hv2 dX5_flagBeside_17 ?_
    refine lv_istore (lv' := [(4, .int v2), (3, .int i1), (0, .ref a_t), (1, .int i1), (2, .int i2)]) hx hb dX5_flagBeside_18 hl (by decide) rfl (fun ls hl => ?_)
    have L20 : ∀ (n : Nat) (x3 : Int32) (x4 : Int32) (ls : Array Slot) (H : Heap) (locs : List Loc), gX5_flagBeside_20 t_firstFlags_r t_flagLines_r i1 i2 (kX5_flagBeside_60) n x3 x4 = some r → lv_has ls 5 [(0, .ref a_t), (1, .int i1), (2, .int i2), (3, .int x3), (4, .int x4)] → va_P D vwCl [x_o5 a_t a_N a_t_meeting a_t_level a_t_pointKeys a_t_firstFlags a_t_flagPoints a_t_flagLines a_t_nexts a_t_befores a_t_walk a_t_places a_t_ringStarts a_t_ringSizes t_pointCount t_flagCount t_ringCount, x_ar cI a_t_firstFlags 201 t_firstFlags_r, x_ar cI a_t_flagLines 400 t_flagLines_r] H → va_D A [x_o5 a_t a_N a_t_meeting a_t_level a_t_pointKeys a_t_firstFlags a_t_flagPoints a_t_flagLines a_t_nexts a_t_befores a_t_walk a_t_places a_t_ringStarts a_t_ringSizes t_pointCount t_flagCount t_ringCount, x_ar cI a_t_firstFlags 201 t_firstFlags_r, x_ar cI a_t_flagLines 400 t_flagLines_r] → va_S A s.heap H locs → W p l e rmX5_flagBeside s m args below meth c H locs 0 0 Q (F0 m 20 ls []) := by
      intro n20
      induction n20 with
      | zero =>
        intro x3 x4 ls H locs hf
        exact nomatch (show (none : Option (Int32)) = some r from hf)
      | succ n20 ih20 =>
        intro x3 x4 ls H locs hf hl hP hD hS
        have hf : FgX5_flagBeside_20 t_firstFlags_r t_flagLines_r i1 i2 (gX5_flagBeside_20 t_firstFlags_r t_flagLines_r i1 i2 (kX5_flagBeside_60) n20) (kX5_flagBeside_60) x3 x4 = some r := hf
        unfold FgX5_flagBeside_20 at hf
        refine lv_iload hx hb dX5_flagBeside_20 (lv_at hl 4 rfl) ?_
        refine lv_aload_n hx hb dX5_flagBeside_22 rfl (lv_at hl 0 rfl) ?_
        refine va_get (D := D) (ci := 5) (C := RX5) (T := TX5) (N := 16) hx hb hts iX5 hown hK hP 0 rfl rfl 4 (by decide) l15 (fun _ h9 => h9) rfl dX5_flagBeside_23 ?_
        refine lv_iload_n hx hb dX5_flagBeside_26 rfl (lv_at hl 2 rfl) ?_
        refine lv_iconst (v := 1) hx hb dX5_flagBeside_27 (by decide) ?_
        refine lv_iadd hx hb dX5_flagBeside_28 ?_
        obtain ⟨v5, hv5, hf⟩ := o_b1 hf
        refine x_ald hx hb hK hP 1 rfl hv5 dX5_flagBeside_29 ?_
        have J60 : ∀ (y6 : Int32) (ls : Array Slot) (H : Heap) (locs : List Loc), kX5_flagBeside_60 y6 = some r → lv_has ls 5 [(3, .int y6)] → va_P D vwCl [x_o5 a_t a_N a_t_meeting a_t_level a_t_pointKeys a_t_firstFlags a_t_flagPoints a_t_flagLines a_t_nexts a_t_befores a_t_walk a_t_places a_t_ringStarts a_t_ringSizes t_pointCount t_flagCount t_ringCount, x_ar cI a_t_firstFlags 201 t_firstFlags_r, x_ar cI a_t_flagLines 400 t_flagLines_r] H → va_D A [x_o5 a_t a_N a_t_meeting a_t_level a_t_pointKeys a_t_firstFlags a_t_flagPoints a_t_flagLines a_t_nexts a_t_befores a_t_walk a_t_places a_t_ringStarts a_t_ringSizes t_pointCount t_flagCount t_ringCount, x_ar cI a_t_firstFlags 201 t_firstFlags_r, x_ar cI a_t_flagLines 400 t_flagLines_r] → va_S A s.heap H locs → W p l e rmX5_flagBeside s m args below meth c H locs 0 0 Q (F0 m 60 ls []) := by
          intro y6 ls H locs hf hl hP hD hS
          unfold kX5_flagBeside_60 at hf
          refine lv_iload_n hx hb dX5_flagBeside_60 rfl (lv_at hl 0 rfl) ?_
          obtain rfl := Option.some.inj hf
          exact hret rfl rfl dX5_flagBeside_61 hP hD hS
        refine lv_icmp_ge (tgt := 60) hx hb dX5_flagBeside_30 (by decide) (fun hc => ?_) (fun hc => ?_)
        · have hf := o_t hf hc
          exact J60 x3 _ _ _ hf (lv_sub hl [3] rfl) hP hD hS
        · have hf := o_f hf hc
          refine lv_iload hx hb dX5_flagBeside_33 (lv_at hl 4 rfl) ?_
          refine lv_istore_n (lv' := [(3, .int x4), (0, .ref a_t), (1, .int i1), (2, .int i2), (4, .int x4)]) hx hb dX5_flagBeside_35 rfl hl (by decide) rfl (fun ls hl => ?_)
          refine lv_aload_n hx hb dX5_flagBeside_36 rfl (lv_at hl 1 rfl) ?_
          refine va_get (D := D) (ci := 5) (C := RX5) (T := TX5) (N := 16) hx hb hts iX5 hown hK hP 0 rfl rfl 6 (by decide) l21 (fun _ h9 => h9) rfl dX5_flagBeside_37 ?_
          refine lv_iload hx hb dX5_flagBeside_40 (lv_at hl 4 rfl) ?_
          obtain ⟨v7, hv7, hf⟩ := o_b1 hf
          refine x_ald hx hb hK hP 2 rfl hv7 dX5_flagBeside_42 ?_
          refine lv_aload_n hx hb dX5_flagBeside_43 rfl (lv_at hl 1 rfl) ?_
          refine va_get (D := D) (ci := 5) (C := RX5) (T := TX5) (N := 16) hx hb hts iX5 hown hK hP 0 rfl rfl 6 (by decide) l21 (fun _ h9 => h9) rfl dX5_flagBeside_44 ?_
          refine lv_iload_n hx hb dX5_flagBeside_47 rfl (lv_at hl 2 rfl) ?_
          obtain ⟨v8, hv8, hf⟩ := o_b1 hf
          refine x_ald hx hb hK hP 2 rfl hv8 dX5_flagBeside_48 ?_
          refine lv_icmp_eq (tgt := 54) hx hb dX5_flagBeside_49 (by decide) (fun hc => ?_) (fun hc => ?_)
          · have hf := o_t hf hc
            obtain ⟨v9, ev9, hf⟩ := o_nm hf
            refine lv_iinc (v := v9) (lv' := [(4, .int v9), (3, .int x4), (0, .ref a_t), (1, .int i1), (2, .int i2)]) hx hb dX5_flagBeside_54 hl (k := 4) rfl (by rw [ev9]; rfl) (by decide) rfl (fun ls hl => ?_)
            refine lv_goto (tgt := 20) hx hb dX5_flagBeside_57 (by decide) ?_
            exact ih20 x4 v9 _ _ _ hf (lv_sub hl [2, 3, 4, 1, 0] rfl) hP hD hS
          · have hf := o_f hf hc
            refine lv_iload_n hx hb dX5_flagBeside_52 rfl (lv_at hl 0 rfl) ?_
            obtain rfl := Option.some.inj hf
            exact hret rfl rfl dX5_flagBeside_53 hP hD hS
    exact L20 p_FU i1 v2 _ _ _ hf (lv_sub hl [2, 3, 4, 1, 0] rfl) hP hD hS
  · have hf := o_t hf hc
    refine lv_iload_n hx hb dX5_flagBeside_10 rfl (lv_at hl 0 rfl) ?_
    obtain rfl := Option.some.inj hf
    exact hret rfl rfl dX5_flagBeside_11 hP hD hS
noncomputable def kX5_findSteps_77 (w16 : (Nat → Int32)) (y17 : Int32) (y18 : Int32) (y19 : Int32) (y20 : Int32) (y21 : Int32) (y22 : Int32) (y23 : Int32) (y24 : Int32) (y25 : Int32) (y26 : Int32) (y27 : Int32) (y28 : Int32) (w29 : (Nat → Int32)) : Option ((Nat → Int32) × Int32 × Int32 × Int32 × Int32 × Int32 × Int32 × Int32 × Int32 × Int32 × Int32 × Int32 × Int32 × (Nat → Int32)) :=
  some (w16, y17, y18, y19, y20, y21, y22, y23, y24, y25, y26, y27, y28, w29)
noncomputable def FgX5_findSteps_2 (t_pointCount : Int32) (t_flagCount : Int32) (b1_a : Int32) (b1_b : Int32) (b1_c : Int32) (b1_d : Int32) (b1_e : Int32) (b1_f : Int32) (N_p : Int32) (N_inverses_r : (Nat → Int32)) (N_roots_r : (Nat → Int32)) (t_firstFlags_r : (Nat → Int32)) (t_flagLines_r : (Nat → Int32)) (t_flagPoints_r : (Nat → Int32)) (t_pointKeys_r : (Nat → Int32)) (rec2 : Int32 → (Nat → Int32) → Int32 → Int32 → Int32 → Int32 → Int32 → Int32 → Int32 → Int32 → Int32 → Int32 → Int32 → Int32 → (Nat → Int32) → Option ((Nat → Int32) × Int32 × Int32 × Int32 × Int32 × Int32 × Int32 × Int32 × Int32 × Int32 × Int32 × Int32 × Int32 × (Nat → Int32))) (kk2 : (Nat → Int32) → Int32 → Int32 → Int32 → Int32 → Int32 → Int32 → Int32 → Int32 → Int32 → Int32 → Int32 → Int32 → (Nat → Int32) → Option ((Nat → Int32) × Int32 × Int32 × Int32 × Int32 × Int32 × Int32 × Int32 × Int32 × Int32 × Int32 × Int32 × Int32 × (Nat → Int32))) (x1 : Int32) (z2 : (Nat → Int32)) (x3 : Int32) (x4 : Int32) (x5 : Int32) (x6 : Int32) (x7 : Int32) (x8 : Int32) (x9 : Int32) (x10 : Int32) (x11 : Int32) (x12 : Int32) (x13 : Int32) (x14 : Int32) (z15 : (Nat → Int32)) : Option ((Nat → Int32) × Int32 × Int32 × Int32 × Int32 × Int32 × Int32 × Int32 × Int32 × Int32 × Int32 × Int32 × Int32 × (Nat → Int32)) :=
  if t_flagCount ≤ x1 then (kk2 z2 x3 x4 x5 x6 x7 x8 x9 x10 x11 x12 x13 x14 z15) else (p_b1 (p_ld t_flagLines_r 400 x1) (fun v30 =>
p_b12 (fX3_find x3 x4 x5 b1_a b1_b b1_c b1_d b1_e b1_f N_p N_inverses_r N_roots_r x6 x7 x8 x9 x10 x11 x12 x13 x14 v30) (fun v31 v32 v33 v34 v35 v36 v37 v38 v39 v40 v41 v42 =>
p_b1 (p_ld t_flagPoints_r 400 x1) (fun v43 =>
p_b1 (p_ld t_pointKeys_r 200 v43) (fun v44 =>
p_b1 (fX3_keyBeside v31 v32 v33 v44) (fun v45 =>
p_b1 (fX5_findPoint t_pointCount t_pointKeys_r v45) (fun v46 =>
p_b1 (fX5_flagBeside t_pointCount t_firstFlags_r t_flagLines_r x1 v46) (fun v47 =>
p_b1 (p_st z15 400 x1 v47) (fun u48 =>
p_b1 (p_st z2 400 v47 x1) (fun u49 =>
p_nm (x1 + 1) (fun v50 =>
rec2 v50 u49 v31 v32 v33 v34 v35 v36 v37 v38 v39 v40 v41 v42 u48)))))))))))
noncomputable def gX5_findSteps_2 (t_pointCount : Int32) (t_flagCount : Int32) (b1_a : Int32) (b1_b : Int32) (b1_c : Int32) (b1_d : Int32) (b1_e : Int32) (b1_f : Int32) (N_p : Int32) (N_inverses_r : (Nat → Int32)) (N_roots_r : (Nat → Int32)) (t_firstFlags_r : (Nat → Int32)) (t_flagLines_r : (Nat → Int32)) (t_flagPoints_r : (Nat → Int32)) (t_pointKeys_r : (Nat → Int32)) (kk2 : (Nat → Int32) → Int32 → Int32 → Int32 → Int32 → Int32 → Int32 → Int32 → Int32 → Int32 → Int32 → Int32 → Int32 → (Nat → Int32) → Option ((Nat → Int32) × Int32 × Int32 × Int32 × Int32 × Int32 × Int32 × Int32 × Int32 × Int32 × Int32 × Int32 × Int32 × (Nat → Int32))) (n : Nat) : Int32 → (Nat → Int32) → Int32 → Int32 → Int32 → Int32 → Int32 → Int32 → Int32 → Int32 → Int32 → Int32 → Int32 → Int32 → (Nat → Int32) → Option ((Nat → Int32) × Int32 × Int32 × Int32 × Int32 × Int32 × Int32 × Int32 × Int32 × Int32 × Int32 × Int32 × Int32 × (Nat → Int32)) := Nat.rec (motive := fun _ => Int32 → (Nat → Int32) → Int32 → Int32 → Int32 → Int32 → Int32 → Int32 → Int32 → Int32 → Int32 → Int32 → Int32 → Int32 → (Nat → Int32) → Option ((Nat → Int32) × Int32 × Int32 × Int32 × Int32 × Int32 × Int32 × Int32 × Int32 × Int32 × Int32 × Int32 × Int32 × (Nat → Int32))) (fun _ _ _ _ _ _ _ _ _ _ _ _ _ _ _ => none) (fun _ rec2 => FgX5_findSteps_2 t_pointCount t_flagCount b1_a b1_b b1_c b1_d b1_e b1_f N_p N_inverses_r N_roots_r t_firstFlags_r t_flagLines_r t_flagPoints_r t_pointKeys_r rec2 kk2) n
noncomputable def fX5_findSteps (t_flagCount : Int32) (t_pointCount : Int32) (b1_a : Int32) (b1_b : Int32) (b1_c : Int32) (b1_d : Int32) (b1_e : Int32) (b1_f : Int32) (N_p : Int32) (N_inverses_r : (Nat → Int32)) (N_roots_r : (Nat → Int32)) (t_befores_r : (Nat → Int32)) (t_firstFlags_r : (Nat → Int32)) (t_flagLines_r : (Nat → Int32)) (t_flagPoints_r : (Nat → Int32)) (t_meeting_count : Int32) (t_meeting_lower : Int32) (t_meeting_upper : Int32) (t_meeting_end_x : Int32) (t_meeting_end_y : Int32) (t_meeting_end_z : Int32) (t_meeting_found_x : Int32) (t_meeting_found_y : Int32) (t_meeting_found_z : Int32) (t_meeting_start_x : Int32) (t_meeting_start_y : Int32) (t_meeting_start_z : Int32) (t_nexts_r : (Nat → Int32)) (t_pointKeys_r : (Nat → Int32)) : Option ((Nat → Int32) × Int32 × Int32 × Int32 × Int32 × Int32 × Int32 × Int32 × Int32 × Int32 × Int32 × Int32 × Int32 × (Nat → Int32)) :=
  gX5_findSteps_2 t_pointCount t_flagCount b1_a b1_b b1_c b1_d b1_e b1_f N_p N_inverses_r N_roots_r t_firstFlags_r t_flagLines_r t_flagPoints_r t_pointKeys_r (kX5_findSteps_77) p_FU 0 t_befores_r t_meeting_count t_meeting_lower t_meeting_upper t_meeting_end_x t_meeting_end_y t_meeting_end_z t_meeting_found_x t_meeting_found_y t_meeting_found_z t_meeting_start_x t_meeting_start_y t_meeting_start_z t_nexts_r
def rmX5_findSteps : Room := { frames := 4, cells := 0, slots := 0, locals := 95 }
set_option maxHeartbeats 4000000 in
set_option maxRecDepth 100000 in
theorem tX5_findSteps (l : Launch) (D : va_G) (cI : ClassId) (a_t : Nat) (a_b1 : Nat) (a_N : Nat) (a_t_meeting : Nat) (a_t_level : Nat) (a_t_pointKeys : Nat) (a_t_firstFlags : Nat) (a_t_flagPoints : Nat) (a_t_flagLines : Nat) (a_t_nexts : Nat) (a_t_befores : Nat) (a_t_walk : Nat) (a_t_places : Nat) (a_t_ringStarts : Nat) (a_t_ringSizes : Nat) (a_N_inverses : Nat) (a_N_roots : Nat) (a_t_meeting_start : Nat) (a_t_meeting_end : Nat) (a_t_meeting_found : Nat) (t_pointCount : Int32) (t_flagCount : Int32) (t_ringCount : Int32) (b1_a : Int32) (b1_b : Int32) (b1_c : Int32) (b1_d : Int32) (b1_e : Int32) (b1_f : Int32) (N_p : Int32) (N_inverses_r : (Nat → Int32)) (N_roots_r : (Nat → Int32)) (t_befores_r : (Nat → Int32)) (t_firstFlags_r : (Nat → Int32)) (t_flagLines_r : (Nat → Int32)) (t_flagPoints_r : (Nat → Int32)) (t_meeting_count : Int32) (t_meeting_lower : Int32) (t_meeting_upper : Int32) (t_meeting_end_x : Int32) (t_meeting_end_y : Int32) (t_meeting_end_z : Int32) (t_meeting_found_x : Int32) (t_meeting_found_y : Int32) (t_meeting_found_z : Int32) (t_meeting_start_x : Int32) (t_meeting_start_y : Int32) (t_meeting_start_z : Int32) (t_nexts_r : (Nat → Int32)) (t_pointKeys_r : (Nat → Int32)) (s_t_befores_r : (Nat → Int32)) (s_t_meeting_count : Int32) (s_t_meeting_lower : Int32) (s_t_meeting_upper : Int32) (s_t_meeting_end_x : Int32) (s_t_meeting_end_y : Int32) (s_t_meeting_end_z : Int32) (s_t_meeting_found_x : Int32) (s_t_meeting_found_y : Int32) (s_t_meeting_found_z : Int32) (s_t_meeting_start_x : Int32) (s_t_meeting_start_y : Int32) (s_t_meeting_start_z : Int32) (s_t_nexts_r : (Nat → Int32)) (hf : fX5_findSteps t_flagCount t_pointCount b1_a b1_b b1_c b1_d b1_e b1_f N_p N_inverses_r N_roots_r t_befores_r t_firstFlags_r t_flagLines_r t_flagPoints_r t_meeting_count t_meeting_lower t_meeting_upper t_meeting_end_x t_meeting_end_y t_meeting_end_z t_meeting_found_x t_meeting_found_y t_meeting_found_z t_meeting_start_x t_meeting_start_y t_meeting_start_z t_nexts_r t_pointKeys_r = some (s_t_befores_r, s_t_meeting_count, s_t_meeting_lower, s_t_meeting_upper, s_t_meeting_end_x, s_t_meeting_end_y, s_t_meeting_end_z, s_t_meeting_found_x, s_t_meeting_found_y, s_t_meeting_found_z, s_t_meeting_start_x, s_t_meeting_start_y, s_t_meeting_start_z, s_t_nexts_r)) : x_CV l D cI yX5_findSteps wsX5_findSteps rmX5_findSteps [.ref a_t, .ref a_b1] [x_o5 a_t a_N a_t_meeting a_t_level a_t_pointKeys a_t_firstFlags a_t_flagPoints a_t_flagLines a_t_nexts a_t_befores a_t_walk a_t_places a_t_ringStarts a_t_ringSizes t_pointCount t_flagCount t_ringCount, x_o2 a_b1 a_N b1_a b1_b b1_c b1_d b1_e b1_f, x_o4 a_N a_N_inverses a_N_roots N_p, x_ar cI a_N_inverses 200 N_inverses_r, x_ar cI a_N_roots 200 N_roots_r, x_ar cI a_t_befores 400 t_befores_r, x_ar cI a_t_firstFlags 201 t_firstFlags_r, x_ar cI a_t_flagLines 400 t_flagLines_r, x_ar cI a_t_flagPoints 400 t_flagPoints_r, x_o3 a_t_meeting a_N a_t_meeting_start a_t_meeting_end a_t_meeting_found t_meeting_count t_meeting_lower t_meeting_upper, x_o7 a_t_meeting_end a_N t_meeting_end_x t_meeting_end_y t_meeting_end_z, x_o7 a_t_meeting_found a_N t_meeting_found_x t_meeting_found_y t_meeting_found_z, x_o7 a_t_meeting_start a_N t_meeting_start_x t_meeting_start_y t_meeting_start_z, x_ar cI a_t_nexts 400 t_nexts_r, x_ar cI a_t_pointKeys 200 t_pointKeys_r] [x_o5 a_t a_N a_t_meeting a_t_level a_t_pointKeys a_t_firstFlags a_t_flagPoints a_t_flagLines a_t_nexts a_t_befores a_t_walk a_t_places a_t_ringStarts a_t_ringSizes t_pointCount t_flagCount t_ringCount, x_o2 a_b1 a_N b1_a b1_b b1_c b1_d b1_e b1_f, x_o4 a_N a_N_inverses a_N_roots N_p, x_ar cI a_N_inverses 200 N_inverses_r, x_ar cI a_N_roots 200 N_roots_r, x_ar cI a_t_befores 400 s_t_befores_r, x_ar cI a_t_firstFlags 201 t_firstFlags_r, x_ar cI a_t_flagLines 400 t_flagLines_r, x_ar cI a_t_flagPoints 400 t_flagPoints_r, x_o3 a_t_meeting a_N a_t_meeting_start a_t_meeting_end a_t_meeting_found s_t_meeting_count s_t_meeting_lower s_t_meeting_upper, x_o7 a_t_meeting_end a_N s_t_meeting_end_x s_t_meeting_end_y s_t_meeting_end_z, x_o7 a_t_meeting_found a_N s_t_meeting_found_x s_t_meeting_found_y s_t_meeting_found_z, x_o7 a_t_meeting_start a_N s_t_meeting_start_x s_t_meeting_start_y s_t_meeting_start_z, x_ar cI a_t_nexts 400 s_t_nexts_r, x_ar cI a_t_pointKeys 200 t_pointKeys_r] := by
  refine x_CV_of (cc := cX5_findSteps) (maxL := 5) (own := RX5) (lv0 := [(0, .ref a_t), (1, .ref a_b1)]) (by decide) rfl rfl (Nat.le_of_ble_eq_true rfl) rfl ?_
  intro p e s m args below meth c A Q ls hx hb hml hown hts hN hK hP hD hS hA hl hret
  have iX5 : ∀ w ∈ u_ws RX5 TX5 16, w ∈ wsX5_findSteps := by decide +kernel
  have l66 := hts (.fieldLink RX5 66 "ChordRings$Rings" "flagCount" "I") (by decide +kernel)
  have l51 := hts (.fieldLink RX5 51 "ChordRings$Rings" "meeting" "LChordRings$Meeting;") (by decide +kernel)
  have l21 := hts (.fieldLink RX5 21 "ChordRings$Rings" "flagLines" "[I") (by decide +kernel)
  have l11 := hts (.fieldLink RX5 11 "ChordRings$Rings" "pointKeys" "[I") (by decide +kernel)
  have l18 := hts (.fieldLink RX5 18 "ChordRings$Rings" "flagPoints" "[I") (by decide +kernel)
  have l24 := hts (.fieldLink RX5 24 "ChordRings$Rings" "nexts" "[I") (by decide +kernel)
  have l27 := hts (.fieldLink RX5 27 "ChordRings$Rings" "befores" "[I") (by decide +kernel)
  unfold fX5_findSteps at hf
  refine lv_iconst (v := 0) hx hb dX5_findSteps_0 (by decide) ?_
  refine lv_istore_n (lv' := [(2, .int 0), (0, .ref a_t), (1, .ref a_b1)]) hx hb dX5_findSteps_1 rfl hl (by decide) rfl (fun ls hl => ?_)
  have L2 : ∀ (n : Nat) (x1 : Int32) (z2 : (Nat → Int32)) (x3 : Int32) (x4 : Int32) (x5 : Int32) (x6 : Int32) (x7 : Int32) (x8 : Int32) (x9 : Int32) (x10 : Int32) (x11 : Int32) (x12 : Int32) (x13 : Int32) (x14 : Int32) (z15 : (Nat → Int32)) (ls : Array Slot) (H : Heap) (locs : List Loc), gX5_findSteps_2 t_pointCount t_flagCount b1_a b1_b b1_c b1_d b1_e b1_f N_p N_inverses_r N_roots_r t_firstFlags_r t_flagLines_r t_flagPoints_r t_pointKeys_r (kX5_findSteps_77) n x1 z2 x3 x4 x5 x6 x7 x8 x9 x10 x11 x12 x13 x14 z15 = some (s_t_befores_r, s_t_meeting_count, s_t_meeting_lower, s_t_meeting_upper, s_t_meeting_end_x, s_t_meeting_end_y, s_t_meeting_end_z, s_t_meeting_found_x, s_t_meeting_found_y, s_t_meeting_found_z, s_t_meeting_start_x, s_t_meeting_start_y, s_t_meeting_start_z, s_t_nexts_r) → lv_has ls 5 [(0, .ref a_t), (1, .ref a_b1), (2, .int x1)] → va_P D vwCl [x_o5 a_t a_N a_t_meeting a_t_level a_t_pointKeys a_t_firstFlags a_t_flagPoints a_t_flagLines a_t_nexts a_t_befores a_t_walk a_t_places a_t_ringStarts a_t_ringSizes t_pointCount t_flagCount t_ringCount, x_o2 a_b1 a_N b1_a b1_b b1_c b1_d b1_e b1_f, x_o4 a_N a_N_inverses a_N_roots N_p, x_ar cI a_N_inverses 200 N_inverses_r, x_ar cI a_N_roots 200 N_roots_r, x_ar cI a_t_befores 400 z2, x_ar cI a_t_firstFlags 201 t_firstFlags_r, x_ar cI a_t_flagLines 400 t_flagLines_r, x_ar cI a_t_flagPoints 400 t_flagPoints_r, x_o3 a_t_meeting a_N a_t_meeting_start a_t_meeting_end a_t_meeting_found x3 x4 x5, x_o7 a_t_meeting_end a_N x6 x7 x8, x_o7 a_t_meeting_found a_N x9 x10 x11, x_o7 a_t_meeting_start a_N x12 x13 x14, x_ar cI a_t_nexts 400 z15, x_ar cI a_t_pointKeys 200 t_pointKeys_r] H → va_D A [x_o5 a_t a_N a_t_meeting a_t_level a_t_pointKeys a_t_firstFlags a_t_flagPoints a_t_flagLines a_t_nexts a_t_befores a_t_walk a_t_places a_t_ringStarts a_t_ringSizes t_pointCount t_flagCount t_ringCount, x_o2 a_b1 a_N b1_a b1_b b1_c b1_d b1_e b1_f, x_o4 a_N a_N_inverses a_N_roots N_p, x_ar cI a_N_inverses 200 N_inverses_r, x_ar cI a_N_roots 200 N_roots_r, x_ar cI a_t_befores 400 z2, x_ar cI a_t_firstFlags 201 t_firstFlags_r, x_ar cI a_t_flagLines 400 t_flagLines_r, x_ar cI a_t_flagPoints 400 t_flagPoints_r, x_o3 a_t_meeting a_N a_t_meeting_start a_t_meeting_end a_t_meeting_found x3 x4 x5, x_o7 a_t_meeting_end a_N x6 x7 x8, x_o7 a_t_meeting_found a_N x9 x10 x11, x_o7 a_t_meeting_start a_N x12 x13 x14, x_ar cI a_t_nexts 400 z15, x_ar cI a_t_pointKeys 200 t_pointKeys_r] → va_S A s.heap H locs → W p l e rmX5_findSteps s m args below meth c H locs 0 0 Q (F0 m 2 ls []) := by
    intro n2
    induction n2 with
    | zero =>
      intro x1 z2 x3 x4 x5 x6 x7 x8 x9 x10 x11 x12 x13 x14 z15 ls H locs hf
      exact nomatch (show (none : Option ((Nat → Int32) × Int32 × Int32 × Int32 × Int32 × Int32 × Int32 × Int32 × Int32 × Int32 × Int32 × Int32 × Int32 × (Nat → Int32))) = some (s_t_befores_r, s_t_meeting_count, s_t_meeting_lower, s_t_meeting_upper, s_t_meeting_end_x, s_t_meeting_end_y, s_t_meeting_end_z, s_t_meeting_found_x, s_t_meeting_found_y, s_t_meeting_found_z, s_t_meeting_start_x, s_t_meeting_start_y, s_t_meeting_start_z, s_t_nexts_r) from hf)
    | succ n2 ih2 =>
      intro x1 z2 x3 x4 x5 x6 x7 x8 x9 x10 x11 x12 x13 x14 z15 ls H locs hf hl hP hD hS
      have hf : FgX5_findSteps_2 t_pointCount t_flagCount b1_a b1_b b1_c b1_d b1_e b1_f N_p N_inverses_r N_roots_r t_firstFlags_r t_flagLines_r t_flagPoints_r t_pointKeys_r (gX5_findSteps_2 t_pointCount t_flagCount b1_a b1_b b1_c b1_d b1_e b1_f N_p N_inverses_r N_roots_r t_firstFlags_r t_flagLines_r t_flagPoints_r t_pointKeys_r (kX5_findSteps_77) n2) (kX5_findSteps_77) x1 z2 x3 x4 x5 x6 x7 x8 x9 x10 x11 x12 x13 x14 z15 = some (s_t_befores_r, s_t_meeting_count, s_t_meeting_lower, s_t_meeting_upper, s_t_meeting_end_x, s_t_meeting_end_y, s_t_meeting_end_z, s_t_meeting_found_x, s_t_meeting_found_y, s_t_meeting_found_z, s_t_meeting_start_x, s_t_meeting_start_y, s_t_meeting_start_z, s_t_nexts_r) := hf
      unfold FgX5_findSteps_2 at hf
      refine lv_iload_n hx hb dX5_findSteps_2 rfl (lv_at hl 2 rfl) ?_
      refine lv_aload_n hx hb dX5_findSteps_3 rfl (lv_at hl 0 rfl) ?_
      refine va_get (D := D) (ci := 5) (C := RX5) (T := TX5) (N := 16) hx hb hts iX5 hown hK hP 0 rfl rfl 14 (by decide) l66 (fun _ h9 => h9) rfl dX5_findSteps_4 ?_
      have J77 : ∀ (w16 : (Nat → Int32)) (y17 : Int32) (y18 : Int32) (y19 : Int32) (y20 : Int32) (y21 : Int32) (y22 : Int32) (y23 : Int32) (y24 : Int32) (y25 : Int32) (y26 : Int32) (y27 : Int32) (y28 : Int32) (w29 : (Nat → Int32)) (ls : Array Slot) (H : Heap) (locs : List Loc), kX5_findSteps_77 w16 y17 y18 y19 y20 y21 y22 y23 y24 y25 y26 y27 y28 w29 = some (s_t_befores_r, s_t_meeting_count, s_t_meeting_lower, s_t_meeting_upper, s_t_meeting_end_x, s_t_meeting_end_y, s_t_meeting_end_z, s_t_meeting_found_x, s_t_meeting_found_y, s_t_meeting_found_z, s_t_meeting_start_x, s_t_meeting_start_y, s_t_meeting_start_z, s_t_nexts_r) → lv_has ls 5 [] → va_P D vwCl [x_o5 a_t a_N a_t_meeting a_t_level a_t_pointKeys a_t_firstFlags a_t_flagPoints a_t_flagLines a_t_nexts a_t_befores a_t_walk a_t_places a_t_ringStarts a_t_ringSizes t_pointCount t_flagCount t_ringCount, x_o2 a_b1 a_N b1_a b1_b b1_c b1_d b1_e b1_f, x_o4 a_N a_N_inverses a_N_roots N_p, x_ar cI a_N_inverses 200 N_inverses_r, x_ar cI a_N_roots 200 N_roots_r, x_ar cI a_t_befores 400 w16, x_ar cI a_t_firstFlags 201 t_firstFlags_r, x_ar cI a_t_flagLines 400 t_flagLines_r, x_ar cI a_t_flagPoints 400 t_flagPoints_r, x_o3 a_t_meeting a_N a_t_meeting_start a_t_meeting_end a_t_meeting_found y17 y18 y19, x_o7 a_t_meeting_end a_N y20 y21 y22, x_o7 a_t_meeting_found a_N y23 y24 y25, x_o7 a_t_meeting_start a_N y26 y27 y28, x_ar cI a_t_nexts 400 w29, x_ar cI a_t_pointKeys 200 t_pointKeys_r] H → va_D A [x_o5 a_t a_N a_t_meeting a_t_level a_t_pointKeys a_t_firstFlags a_t_flagPoints a_t_flagLines a_t_nexts a_t_befores a_t_walk a_t_places a_t_ringStarts a_t_ringSizes t_pointCount t_flagCount t_ringCount, x_o2 a_b1 a_N b1_a b1_b b1_c b1_d b1_e b1_f, x_o4 a_N a_N_inverses a_N_roots N_p, x_ar cI a_N_inverses 200 N_inverses_r, x_ar cI a_N_roots 200 N_roots_r, x_ar cI a_t_befores 400 w16, x_ar cI a_t_firstFlags 201 t_firstFlags_r, x_ar cI a_t_flagLines 400 t_flagLines_r, x_ar cI a_t_flagPoints 400 t_flagPoints_r, x_o3 a_t_meeting a_N a_t_meeting_start a_t_meeting_end a_t_meeting_found y17 y18 y19, x_o7 a_t_meeting_end a_N y20 y21 y22, x_o7 a_t_meeting_found a_N y23 y24 y25, x_o7 a_t_meeting_start a_N y26 y27 y28, x_ar cI a_t_nexts 400 w29, x_ar cI a_t_pointKeys 200 t_pointKeys_r] → va_S A s.heap H locs → W p l e rmX5_findSteps s m args below meth c H locs 0 0 Q (F0 m 77 ls []) := by
        intro w16 y17 y18 y19 y20 y21 y22 y23 y24 y25 y26 y27 y28 w29 ls H locs hf hl hP hD hS
        unfold kX5_findSteps_77 at hf
        obtain ⟨rfl, rfl, rfl, rfl, rfl, rfl, rfl, rfl, rfl, rfl, rfl, rfl, rfl, rfl⟩ := o_s14 hf
        exact hret dX5_findSteps_77 hP hD hS
      refine lv_icmp_ge (tgt := 77) hx hb dX5_findSteps_7 (by decide) (fun hc => ?_) (fun hc => ?_)
      · have hf := o_t hf hc
        exact J77 z2 x3 x4 x5 x6 x7 x8 x9 x10 x11 x12 x13 x14 z15 _ _ _ hf (lv_sub hl [] rfl) hP hD hS
      · have hf := o_f hf hc
        refine lv_aload_n hx hb dX5_findSteps_10 rfl (lv_at hl 0 rfl) ?_
        refine va_get (D := D) (ci := 5) (C := RX5) (T := TX5) (N := 16) hx hb hts iX5 hown hK hP 0 rfl rfl 1 (by decide) l51 (fun _ h9 => h9) rfl dX5_findSteps_11 ?_
        refine lv_aload_n hx hb dX5_findSteps_14 rfl (lv_at hl 1 rfl) ?_
        refine lv_aload_n hx hb dX5_findSteps_15 rfl (lv_at hl 0 rfl) ?_
        refine va_get (D := D) (ci := 5) (C := RX5) (T := TX5) (N := 16) hx hb hts iX5 hown hK hP 0 rfl rfl 6 (by decide) l21 (fun _ h9 => h9) rfl dX5_findSteps_16 ?_
        refine lv_iload_n hx hb dX5_findSteps_19 rfl (lv_at hl 2 rfl) ?_
        obtain ⟨v30, hv30, hf⟩ := o_b1 hf
        refine x_ald hx hb hK hP 7 rfl hv30 dX5_findSteps_20 ?_
        obtain ⟨v31, v32, v33, v34, v35, v36, v37, v38, v39, v40, v41, v42, hv31, hf⟩ := o_b12 hf
        refine x_vv (rest := []) (W1 := [x_o5 a_t a_N a_t_meeting a_t_level a_t_pointKeys a_t_firstFlags a_t_flagPoints a_t_flagLines a_t_nexts a_t_befores a_t_walk a_t_places a_t_ringStarts a_t_ringSizes t_pointCount t_flagCount t_ringCount, x_o2 a_b1 a_N b1_a b1_b b1_c b1_d b1_e b1_f, x_o4 a_N a_N_inverses a_N_roots N_p, x_ar cI a_N_inverses 200 N_inverses_r, x_ar cI a_N_roots 200 N_roots_r, x_ar cI a_t_befores 400 z2, x_ar cI a_t_firstFlags 201 t_firstFlags_r, x_ar cI a_t_flagLines 400 t_flagLines_r, x_ar cI a_t_flagPoints 400 t_flagPoints_r, x_o3 a_t_meeting a_N a_t_meeting_start a_t_meeting_end a_t_meeting_found v31 v32 v33, x_o7 a_t_meeting_end a_N v34 v35 v36, x_o7 a_t_meeting_found a_N v37 v38 v39, x_o7 a_t_meeting_start a_N v40 v41 v42, x_ar cI a_t_nexts 400 z15, x_ar cI a_t_pointKeys 200 t_pointKeys_r]) ⟨hx, hb, hml, hown, hts⟩ (tX3_find l D cI a_t_meeting a_b1 a_N a_t_meeting_start a_t_meeting_end a_t_meeting_found a_N_inverses a_N_roots x3 x4 x5 b1_a b1_b b1_c b1_d b1_e b1_f N_p N_inverses_r N_roots_r x6 x7 x8 x9 x10 x11 x12 x13 x14 v30 v31 v32 v33 v34 v35 v36 v37 v38 v39 v40 v41 v42 hv31) (cwV 2 hts gX5_findSteps_X3_find rfl rfl rfl (by decide +kernel) ⟨Nat.le_of_ble_eq_true rfl, Nat.le_of_ble_eq_true rfl⟩) hN hK hP hD hS hA [9, 1, 2, 3, 4, 10, 11, 12] [none, some 1, some 2, some 3, some 4, none, none, none, none, some 0, some 5, some 6, some 7, none, none] rfl rfl rfl rfl rfl rfl 0 rfl rfl rfl hl.1 rfl (Nat.le_of_ble_eq_true rfl) dX5_findSteps_21 ⟨Nat.zero_le _, Nat.zero_le _⟩ (fun H locs hP hD hS => ?_)
        refine lv_aload_n hx hb dX5_findSteps_24 rfl (lv_at hl 0 rfl) ?_
        refine lv_aload_n hx hb dX5_findSteps_25 rfl (lv_at hl 0 rfl) ?_
        refine va_get (D := D) (ci := 5) (C := RX5) (T := TX5) (N := 16) hx hb hts iX5 hown hK hP 0 rfl rfl 1 (by decide) l51 (fun _ h9 => h9) rfl dX5_findSteps_26 ?_
        refine lv_aload_n hx hb dX5_findSteps_29 rfl (lv_at hl 0 rfl) ?_
        refine va_get (D := D) (ci := 5) (C := RX5) (T := TX5) (N := 16) hx hb hts iX5 hown hK hP 0 rfl rfl 3 (by decide) l11 (fun _ h9 => h9) rfl dX5_findSteps_30 ?_
        refine lv_aload_n hx hb dX5_findSteps_33 rfl (lv_at hl 0 rfl) ?_
        refine va_get (D := D) (ci := 5) (C := RX5) (T := TX5) (N := 16) hx hb hts iX5 hown hK hP 0 rfl rfl 5 (by decide) l18 (fun _ h9 => h9) rfl dX5_findSteps_34 ?_
        refine lv_iload_n hx hb dX5_findSteps_37 rfl (lv_at hl 2 rfl) ?_
        obtain ⟨v43, hv43, hf⟩ := o_b1 hf
        refine x_ald hx hb hK hP 8 rfl hv43 dX5_findSteps_38 ?_
        obtain ⟨v44, hv44, hf⟩ := o_b1 hf
        refine x_ald hx hb hK hP 14 rfl hv44 dX5_findSteps_39 ?_
        obtain ⟨v45, hv45, hf⟩ := o_b1 hf
        refine x_vi (rest := [.ref a_t]) (W1 := [x_o5 a_t a_N a_t_meeting a_t_level a_t_pointKeys a_t_firstFlags a_t_flagPoints a_t_flagLines a_t_nexts a_t_befores a_t_walk a_t_places a_t_ringStarts a_t_ringSizes t_pointCount t_flagCount t_ringCount, x_o2 a_b1 a_N b1_a b1_b b1_c b1_d b1_e b1_f, x_o4 a_N a_N_inverses a_N_roots N_p, x_ar cI a_N_inverses 200 N_inverses_r, x_ar cI a_N_roots 200 N_roots_r, x_ar cI a_t_befores 400 z2, x_ar cI a_t_firstFlags 201 t_firstFlags_r, x_ar cI a_t_flagLines 400 t_flagLines_r, x_ar cI a_t_flagPoints 400 t_flagPoints_r, x_o3 a_t_meeting a_N a_t_meeting_start a_t_meeting_end a_t_meeting_found v31 v32 v33, x_o7 a_t_meeting_end a_N v34 v35 v36, x_o7 a_t_meeting_found a_N v37 v38 v39, x_o7 a_t_meeting_start a_N v40 v41 v42, x_ar cI a_t_nexts 400 z15, x_ar cI a_t_pointKeys 200 t_pointKeys_r]) ⟨hx, hb, hml, hown, hts⟩ (tX3_keyBeside l D cI a_t_meeting a_N a_t_meeting_start a_t_meeting_end a_t_meeting_found v31 v32 v33 v44 v45 hv45) (cwV 1 hts gX5_findSteps_X3_keyBeside rfl rfl rfl (by decide +kernel) ⟨Nat.le_of_ble_eq_true rfl, Nat.le_of_ble_eq_true rfl⟩) hN hK hP hD hS hA [9] [none, none, none, none, none, none, none, none, none, some 0, none, none, none, none, none] rfl rfl rfl rfl rfl rfl 0 rfl rfl rfl hl.1 rfl (Nat.le_of_ble_eq_true rfl) dX5_findSteps_40 ⟨Nat.zero_le _, Nat.zero_le _⟩ (fun H locs hP hD hS => ?_)
        obtain ⟨v46, hv46, hf⟩ := o_b1 hf
        refine x_vi (rest := []) (W1 := [x_o5 a_t a_N a_t_meeting a_t_level a_t_pointKeys a_t_firstFlags a_t_flagPoints a_t_flagLines a_t_nexts a_t_befores a_t_walk a_t_places a_t_ringStarts a_t_ringSizes t_pointCount t_flagCount t_ringCount, x_o2 a_b1 a_N b1_a b1_b b1_c b1_d b1_e b1_f, x_o4 a_N a_N_inverses a_N_roots N_p, x_ar cI a_N_inverses 200 N_inverses_r, x_ar cI a_N_roots 200 N_roots_r, x_ar cI a_t_befores 400 z2, x_ar cI a_t_firstFlags 201 t_firstFlags_r, x_ar cI a_t_flagLines 400 t_flagLines_r, x_ar cI a_t_flagPoints 400 t_flagPoints_r, x_o3 a_t_meeting a_N a_t_meeting_start a_t_meeting_end a_t_meeting_found v31 v32 v33, x_o7 a_t_meeting_end a_N v34 v35 v36, x_o7 a_t_meeting_found a_N v37 v38 v39, x_o7 a_t_meeting_start a_N v40 v41 v42, x_ar cI a_t_nexts 400 z15, x_ar cI a_t_pointKeys 200 t_pointKeys_r]) ⟨hx, hb, hml, hown, hts⟩ (tX5_findPoint l D cI a_t a_N a_t_meeting a_t_level a_t_pointKeys a_t_firstFlags a_t_flagPoints a_t_flagLines a_t_nexts a_t_befores a_t_walk a_t_places a_t_ringStarts a_t_ringSizes t_pointCount t_flagCount t_ringCount t_pointKeys_r v45 v46 hv46) (cwV 1 hts gX5_findSteps_X5_findPoint rfl rfl rfl (by decide +kernel) ⟨Nat.le_of_ble_eq_true rfl, Nat.le_of_ble_eq_true rfl⟩) hN hK hP hD hS hA [0, 14] [some 0, none, none, none, none, none, none, none, none, none, none, none, none, none, some 1] rfl rfl rfl rfl rfl rfl 0 rfl rfl rfl hl.1 rfl (Nat.le_of_ble_eq_true rfl) dX5_findSteps_43 ⟨Nat.zero_le _, Nat.zero_le _⟩ (fun H locs hP hD hS => ?_)
        refine lv_istore_n (lv' := [(3, .int v46), (0, .ref a_t), (1, .ref a_b1), (2, .int x1)]) hx hb dX5_findSteps_46 rfl hl (by decide) rfl (fun ls hl => ?_)
        refine lv_aload_n hx hb dX5_findSteps_47 rfl (lv_at hl 1 rfl) ?_
        refine lv_iload_n hx hb dX5_findSteps_48 rfl (lv_at hl 3 rfl) ?_
        refine lv_iload_n hx hb dX5_findSteps_49 rfl (lv_at hl 0 rfl) ?_
        obtain ⟨v47, hv47, hf⟩ := o_b1 hf
        refine x_vi (rest := []) (W1 := [x_o5 a_t a_N a_t_meeting a_t_level a_t_pointKeys a_t_firstFlags a_t_flagPoints a_t_flagLines a_t_nexts a_t_befores a_t_walk a_t_places a_t_ringStarts a_t_ringSizes t_pointCount t_flagCount t_ringCount, x_o2 a_b1 a_N b1_a b1_b b1_c b1_d b1_e b1_f, x_o4 a_N a_N_inverses a_N_roots N_p, x_ar cI a_N_inverses 200 N_inverses_r, x_ar cI a_N_roots 200 N_roots_r, x_ar cI a_t_befores 400 z2, x_ar cI a_t_firstFlags 201 t_firstFlags_r, x_ar cI a_t_flagLines 400 t_flagLines_r, x_ar cI a_t_flagPoints 400 t_flagPoints_r, x_o3 a_t_meeting a_N a_t_meeting_start a_t_meeting_end a_t_meeting_found v31 v32 v33, x_o7 a_t_meeting_end a_N v34 v35 v36, x_o7 a_t_meeting_found a_N v37 v38 v39, x_o7 a_t_meeting_start a_N v40 v41 v42, x_ar cI a_t_nexts 400 z15, x_ar cI a_t_pointKeys 200 t_pointKeys_r]) ⟨hx, hb, hml, hown, hts⟩ (tX5_flagBeside l D cI a_t a_N a_t_meeting a_t_level a_t_pointKeys a_t_firstFlags a_t_flagPoints a_t_flagLines a_t_nexts a_t_befores a_t_walk a_t_places a_t_ringStarts a_t_ringSizes t_pointCount t_flagCount t_ringCount t_firstFlags_r t_flagLines_r x1 v46 v47 hv47) (cwV 2 hts gX5_findSteps_X5_flagBeside rfl rfl rfl (by decide +kernel) ⟨Nat.le_of_ble_eq_true rfl, Nat.le_of_ble_eq_true rfl⟩) hN hK hP hD hS hA [0, 6, 7] [some 0, none, none, none, none, none, some 1, some 2, none, none, none, none, none, none, none] rfl rfl rfl rfl rfl rfl 0 rfl rfl rfl hl.1 rfl (Nat.le_of_ble_eq_true rfl) dX5_findSteps_50 ⟨Nat.zero_le _, Nat.zero_le _⟩ (fun H locs hP hD hS => ?_)
        refine lv_istore (lv' := [(4, .int v47), (3, .int v46), (0, .ref a_t), (1, .ref a_b1), (2, .int x1)]) hx hb dX5_findSteps_53 hl (by decide) rfl (fun ls hl => ?_)
        refine lv_aload_n hx hb dX5_findSteps_55 rfl (lv_at hl 2 rfl) ?_
        refine va_get (D := D) (ci := 5) (C := RX5) (T := TX5) (N := 16) hx hb hts iX5 hown hK hP 0 rfl rfl 7 (by decide) l24 (fun _ h9 => h9) rfl dX5_findSteps_56 ?_
        refine lv_iload_n hx hb dX5_findSteps_59 rfl (lv_at hl 4 rfl) ?_
        refine lv_iload hx hb dX5_findSteps_60 (lv_at hl 0 rfl) ?_
        obtain ⟨u48, hu48, hf⟩ := o_b1 hf
        refine x_ast (W1 := [x_o5 a_t a_N a_t_meeting a_t_level a_t_pointKeys a_t_firstFlags a_t_flagPoints a_t_flagLines a_t_nexts a_t_befores a_t_walk a_t_places a_t_ringStarts a_t_ringSizes t_pointCount t_flagCount t_ringCount, x_o2 a_b1 a_N b1_a b1_b b1_c b1_d b1_e b1_f, x_o4 a_N a_N_inverses a_N_roots N_p, x_ar cI a_N_inverses 200 N_inverses_r, x_ar cI a_N_roots 200 N_roots_r, x_ar cI a_t_befores 400 z2, x_ar cI a_t_firstFlags 201 t_firstFlags_r, x_ar cI a_t_flagLines 400 t_flagLines_r, x_ar cI a_t_flagPoints 400 t_flagPoints_r, x_o3 a_t_meeting a_N a_t_meeting_start a_t_meeting_end a_t_meeting_found v31 v32 v33, x_o7 a_t_meeting_end a_N v34 v35 v36, x_o7 a_t_meeting_found a_N v37 v38 v39, x_o7 a_t_meeting_start a_N v40 v41 v42, x_ar cI a_t_nexts 400 u48, x_ar cI a_t_pointKeys 200 t_pointKeys_r]) hx hb hK hP hD hS 13 rfl hu48 rfl dX5_findSteps_62 (fun H locs hP hD hS => ?_)
        refine lv_aload_n hx hb dX5_findSteps_63 rfl (lv_at hl 2 rfl) ?_
        refine va_get (D := D) (ci := 5) (C := RX5) (T := TX5) (N := 16) hx hb hts iX5 hown hK hP 0 rfl rfl 8 (by decide) l27 (fun _ h9 => h9) rfl dX5_findSteps_64 ?_
        refine lv_iload hx hb dX5_findSteps_67 (lv_at hl 0 rfl) ?_
        refine lv_iload_n hx hb dX5_findSteps_69 rfl (lv_at hl 4 rfl) ?_
        obtain ⟨u49, hu49, hf⟩ := o_b1 hf
        refine x_ast (W1 := [x_o5 a_t a_N a_t_meeting a_t_level a_t_pointKeys a_t_firstFlags a_t_flagPoints a_t_flagLines a_t_nexts a_t_befores a_t_walk a_t_places a_t_ringStarts a_t_ringSizes t_pointCount t_flagCount t_ringCount, x_o2 a_b1 a_N b1_a b1_b b1_c b1_d b1_e b1_f, x_o4 a_N a_N_inverses a_N_roots N_p, x_ar cI a_N_inverses 200 N_inverses_r, x_ar cI a_N_roots 200 N_roots_r, x_ar cI a_t_befores 400 u49, x_ar cI a_t_firstFlags 201 t_firstFlags_r, x_ar cI a_t_flagLines 400 t_flagLines_r, x_ar cI a_t_flagPoints 400 t_flagPoints_r, x_o3 a_t_meeting a_N a_t_meeting_start a_t_meeting_end a_t_meeting_found v31 v32 v33, x_o7 a_t_meeting_end a_N v34 v35 v36, x_o7 a_t_meeting_found a_N v37 v38 v39, x_o7 a_t_meeting_start a_N v40 v41 v42, x_ar cI a_t_nexts 400 u48, x_ar cI a_t_pointKeys 200 t_pointKeys_r]) hx hb hK hP hD hS 5 rfl hu49 rfl dX5_findSteps_70 (fun H locs hP hD hS => ?_)
        obtain ⟨v50, ev50, hf⟩ := o_nm hf
        refine lv_iinc (v := v50) (lv' := [(2, .int v50), (4, .int v47), (3, .int v46), (0, .ref a_t), (1, .ref a_b1)]) hx hb dX5_findSteps_71 hl (k := 4) rfl (by rw [ev50]; rfl) (by decide) rfl (fun ls hl => ?_)
        refine lv_goto (tgt := 2) hx hb dX5_findSteps_74 (by decide) ?_
        exact ih2 v50 u49 v31 v32 v33 v34 v35 v36 v37 v38 v39 v40 v41 v42 u48 _ _ _ hf (lv_sub hl [3, 4, 0] rfl) hP hD hS
  exact L2 p_FU 0 t_befores_r t_meeting_count t_meeting_lower t_meeting_upper t_meeting_end_x t_meeting_end_y t_meeting_end_z t_meeting_found_x t_meeting_found_y t_meeting_found_z t_meeting_start_x t_meeting_start_y t_meeting_start_z t_nexts_r _ _ _ hf (lv_sub hl [1, 2, 0] rfl) hP hD hS
noncomputable def fX5_countFlagsAt (t_pointCount : Int32) (t_firstFlags_r : (Nat → Int32)) (i1 : Int32) : Option (Int32) :=
  p_b1 (fX5_hasPoint t_pointCount i1) (fun v1 =>
if v1 = 0 then (some (-1)) else (p_b1 (p_ld t_firstFlags_r 201 (i1 + 1)) (fun v2 =>
p_b1 (p_ld t_firstFlags_r 201 i1) (fun v3 =>
some (v2 - v3)))))
def rmX5_countFlagsAt : Room := { frames := 1, cells := 0, slots := 0, locals := 21 }
set_option maxHeartbeats 4000000 in
set_option maxRecDepth 100000 in
theorem tX5_countFlagsAt (l : Launch) (D : va_G) (cI : ClassId) (a_t : Nat) (a_N : Nat) (a_t_meeting : Nat) (a_t_level : Nat) (a_t_pointKeys : Nat) (a_t_firstFlags : Nat) (a_t_flagPoints : Nat) (a_t_flagLines : Nat) (a_t_nexts : Nat) (a_t_befores : Nat) (a_t_walk : Nat) (a_t_places : Nat) (a_t_ringStarts : Nat) (a_t_ringSizes : Nat) (t_pointCount : Int32) (t_flagCount : Int32) (t_ringCount : Int32) (t_firstFlags_r : (Nat → Int32)) (i1 : Int32) (r : Int32) (hf : fX5_countFlagsAt t_pointCount t_firstFlags_r i1 = some r) : x_CI l D cI yX5_countFlagsAt wsX5_countFlagsAt rmX5_countFlagsAt [.ref a_t, .int i1] [x_o5 a_t a_N a_t_meeting a_t_level a_t_pointKeys a_t_firstFlags a_t_flagPoints a_t_flagLines a_t_nexts a_t_befores a_t_walk a_t_places a_t_ringStarts a_t_ringSizes t_pointCount t_flagCount t_ringCount, x_ar cI a_t_firstFlags 201 t_firstFlags_r] [x_o5 a_t a_N a_t_meeting a_t_level a_t_pointKeys a_t_firstFlags a_t_flagPoints a_t_flagLines a_t_nexts a_t_befores a_t_walk a_t_places a_t_ringStarts a_t_ringSizes t_pointCount t_flagCount t_ringCount, x_ar cI a_t_firstFlags 201 t_firstFlags_r] r := by
  refine x_CI_of (cc := cX5_countFlagsAt) (maxL := 2) (ty := .int) (own := RX5) (lv0 := [(0, .ref a_t), (1, .int i1)]) (by decide) rfl rfl (Nat.le_of_ble_eq_true rfl) rfl ?_
  intro p e s m args below meth c A Q ls hx hb hml hown hts hN hK hP hD hS hA hl hret
  have iX5 : ∀ w ∈ u_ws RX5 TX5 16, w ∈ wsX5_countFlagsAt := by decide +kernel
  have l15 := hts (.fieldLink RX5 15 "ChordRings$Rings" "firstFlags" "[I") (by decide +kernel)
  unfold fX5_countFlagsAt at hf
  refine lv_aload_n hx hb dX5_countFlagsAt_0 rfl (lv_at hl 0 rfl) ?_
  refine lv_iload_n hx hb dX5_countFlagsAt_1 rfl (lv_at hl 1 rfl) ?_
  obtain ⟨v1, hv1, hf⟩ := o_b1 hf
  refine x_vi (rest := []) (W1 := [x_o5 a_t a_N a_t_meeting a_t_level a_t_pointKeys a_t_firstFlags a_t_flagPoints a_t_flagLines a_t_nexts a_t_befores a_t_walk a_t_places a_t_ringStarts a_t_ringSizes t_pointCount t_flagCount t_ringCount, x_ar cI a_t_firstFlags 201 t_firstFlags_r]) ⟨hx, hb, hml, hown, hts⟩ (tX5_hasPoint l D cI a_t a_N a_t_meeting a_t_level a_t_pointKeys a_t_firstFlags a_t_flagPoints a_t_flagLines a_t_nexts a_t_befores a_t_walk a_t_places a_t_ringStarts a_t_ringSizes t_pointCount t_flagCount t_ringCount i1 v1 hv1) (cwV 1 hts gX5_countFlagsAt_X5_hasPoint rfl rfl rfl (by decide +kernel) ⟨Nat.le_of_ble_eq_true rfl, Nat.le_of_ble_eq_true rfl⟩) hN hK hP hD hS hA [0] [some 0, none] rfl rfl rfl rfl rfl rfl 0 rfl rfl rfl hl.1 rfl (Nat.le_of_ble_eq_true rfl) dX5_countFlagsAt_2 ⟨Nat.zero_le _, Nat.zero_le _⟩ (fun H locs hP hD hS => ?_)
  refine lv_if_eq (tgt := 26) hx hb dX5_countFlagsAt_5 (by decide) (fun hc => ?_) (fun hc => ?_)
  · have hf := o_t hf hc
    refine lv_iconst (v := (-1)) hx hb dX5_countFlagsAt_26 (by decide) ?_
    obtain rfl := Option.some.inj hf
    exact hret rfl rfl dX5_countFlagsAt_27 hP hD hS
  · have hf := o_f hf hc
    refine lv_aload_n hx hb dX5_countFlagsAt_8 rfl (lv_at hl 0 rfl) ?_
    refine va_get (D := D) (ci := 5) (C := RX5) (T := TX5) (N := 16) hx hb hts iX5 hown hK hP 0 rfl rfl 4 (by decide) l15 (fun _ h9 => h9) rfl dX5_countFlagsAt_9 ?_
    refine lv_iload_n hx hb dX5_countFlagsAt_12 rfl (lv_at hl 1 rfl) ?_
    refine lv_iconst (v := 1) hx hb dX5_countFlagsAt_13 (by decide) ?_
    refine lv_iadd hx hb dX5_countFlagsAt_14 ?_
    obtain ⟨v2, hv2, hf⟩ := o_b1 hf
    refine x_ald hx hb hK hP 1 rfl hv2 dX5_countFlagsAt_15 ?_
    refine lv_aload_n hx hb dX5_countFlagsAt_16 rfl (lv_at hl 0 rfl) ?_
    refine va_get (D := D) (ci := 5) (C := RX5) (T := TX5) (N := 16) hx hb hts iX5 hown hK hP 0 rfl rfl 4 (by decide) l15 (fun _ h9 => h9) rfl dX5_countFlagsAt_17 ?_
    refine lv_iload_n hx hb dX5_countFlagsAt_20 rfl (lv_at hl 1 rfl) ?_
    obtain ⟨v3, hv3, hf⟩ := o_b1 hf
    refine x_ald hx hb hK hP 1 rfl hv3 dX5_countFlagsAt_21 ?_
    refine lv_isub hx hb dX5_countFlagsAt_22 ?_
    refine lv_goto (tgt := 27) hx hb dX5_countFlagsAt_23 (by decide) ?_
    obtain rfl := Option.some.inj hf
    exact hret rfl rfl dX5_countFlagsAt_27 hP hD hS
noncomputable def fX5_pointKey (t_pointCount : Int32) (t_pointKeys_r : (Nat → Int32)) (i1 : Int32) : Option (Int32) :=
  p_b1 (fX5_hasPoint t_pointCount i1) (fun v1 =>
if v1 = 0 then (some (-1)) else (p_b1 (p_ld t_pointKeys_r 200 i1) (fun v2 =>
some v2)))
def rmX5_pointKey : Room := { frames := 1, cells := 0, slots := 0, locals := 21 }
set_option maxHeartbeats 4000000 in
set_option maxRecDepth 100000 in
theorem tX5_pointKey (l : Launch) (D : va_G) (cI : ClassId) (a_t : Nat) (a_N : Nat) (a_t_meeting : Nat) (a_t_level : Nat) (a_t_pointKeys : Nat) (a_t_firstFlags : Nat) (a_t_flagPoints : Nat) (a_t_flagLines : Nat) (a_t_nexts : Nat) (a_t_befores : Nat) (a_t_walk : Nat) (a_t_places : Nat) (a_t_ringStarts : Nat) (a_t_ringSizes : Nat) (t_pointCount : Int32) (t_flagCount : Int32) (t_ringCount : Int32) (t_pointKeys_r : (Nat → Int32)) (i1 : Int32) (r : Int32) (hf : fX5_pointKey t_pointCount t_pointKeys_r i1 = some r) : x_CI l D cI yX5_pointKey wsX5_pointKey rmX5_pointKey [.ref a_t, .int i1] [x_o5 a_t a_N a_t_meeting a_t_level a_t_pointKeys a_t_firstFlags a_t_flagPoints a_t_flagLines a_t_nexts a_t_befores a_t_walk a_t_places a_t_ringStarts a_t_ringSizes t_pointCount t_flagCount t_ringCount, x_ar cI a_t_pointKeys 200 t_pointKeys_r] [x_o5 a_t a_N a_t_meeting a_t_level a_t_pointKeys a_t_firstFlags a_t_flagPoints a_t_flagLines a_t_nexts a_t_befores a_t_walk a_t_places a_t_ringStarts a_t_ringSizes t_pointCount t_flagCount t_ringCount, x_ar cI a_t_pointKeys 200 t_pointKeys_r] r := by
  refine x_CI_of (cc := cX5_pointKey) (maxL := 2) (ty := .int) (own := RX5) (lv0 := [(0, .ref a_t), (1, .int i1)]) (by decide) rfl rfl (Nat.le_of_ble_eq_true rfl) rfl ?_
  intro p e s m args below meth c A Q ls hx hb hml hown hts hN hK hP hD hS hA hl hret
  have iX5 : ∀ w ∈ u_ws RX5 TX5 16, w ∈ wsX5_pointKey := by decide +kernel
  have l11 := hts (.fieldLink RX5 11 "ChordRings$Rings" "pointKeys" "[I") (by decide +kernel)
  unfold fX5_pointKey at hf
  refine lv_aload_n hx hb dX5_pointKey_0 rfl (lv_at hl 0 rfl) ?_
  refine lv_iload_n hx hb dX5_pointKey_1 rfl (lv_at hl 1 rfl) ?_
  obtain ⟨v1, hv1, hf⟩ := o_b1 hf
  refine x_vi (rest := []) (W1 := [x_o5 a_t a_N a_t_meeting a_t_level a_t_pointKeys a_t_firstFlags a_t_flagPoints a_t_flagLines a_t_nexts a_t_befores a_t_walk a_t_places a_t_ringStarts a_t_ringSizes t_pointCount t_flagCount t_ringCount, x_ar cI a_t_pointKeys 200 t_pointKeys_r]) ⟨hx, hb, hml, hown, hts⟩ (tX5_hasPoint l D cI a_t a_N a_t_meeting a_t_level a_t_pointKeys a_t_firstFlags a_t_flagPoints a_t_flagLines a_t_nexts a_t_befores a_t_walk a_t_places a_t_ringStarts a_t_ringSizes t_pointCount t_flagCount t_ringCount i1 v1 hv1) (cwV 1 hts gX5_pointKey_X5_hasPoint rfl rfl rfl (by decide +kernel) ⟨Nat.le_of_ble_eq_true rfl, Nat.le_of_ble_eq_true rfl⟩) hN hK hP hD hS hA [0] [some 0, none] rfl rfl rfl rfl rfl rfl 0 rfl rfl rfl hl.1 rfl (Nat.le_of_ble_eq_true rfl) dX5_pointKey_2 ⟨Nat.zero_le _, Nat.zero_le _⟩ (fun H locs hP hD hS => ?_)
  refine lv_if_eq (tgt := 17) hx hb dX5_pointKey_5 (by decide) (fun hc => ?_) (fun hc => ?_)
  · have hf := o_t hf hc
    refine lv_iconst (v := (-1)) hx hb dX5_pointKey_17 (by decide) ?_
    obtain rfl := Option.some.inj hf
    exact hret rfl rfl dX5_pointKey_18 hP hD hS
  · have hf := o_f hf hc
    refine lv_aload_n hx hb dX5_pointKey_8 rfl (lv_at hl 0 rfl) ?_
    refine va_get (D := D) (ci := 5) (C := RX5) (T := TX5) (N := 16) hx hb hts iX5 hown hK hP 0 rfl rfl 3 (by decide) l11 (fun _ h9 => h9) rfl dX5_pointKey_9 ?_
    refine lv_iload_n hx hb dX5_pointKey_12 rfl (lv_at hl 1 rfl) ?_
    obtain ⟨v2, hv2, hf⟩ := o_b1 hf
    refine x_ald hx hb hK hP 1 rfl hv2 dX5_pointKey_13 ?_
    refine lv_goto (tgt := 18) hx hb dX5_pointKey_14 (by decide) ?_
    obtain rfl := Option.some.inj hf
    exact hret rfl rfl dX5_pointKey_18 hP hD hS
def fX7_part (t_x : Int32) (t_y : Int32) (t_z : Int32) (i1 : Int32) : Option (Int32) :=
  if i1 = 0 then (some t_x) else (if i1 = 1 then (some t_y) else (some t_z))
def rmX7_part : Room := { frames := 0, cells := 0, slots := 0, locals := 0 }
set_option maxHeartbeats 4000000 in
set_option maxRecDepth 100000 in
theorem tX7_part (l : Launch) (D : va_G) (cI : ClassId) (a_t : Nat) (a_N : Nat) (t_x : Int32) (t_y : Int32) (t_z : Int32) (i1 : Int32) (r : Int32) (hf : fX7_part t_x t_y t_z i1 = some r) : x_CI l D cI yX7_part wsX7_part rmX7_part [.ref a_t, .int i1] [x_o7 a_t a_N t_x t_y t_z] [x_o7 a_t a_N t_x t_y t_z] r := by
  refine x_CI_of (cc := cX7_part) (maxL := 2) (ty := .int) (own := RX7) (lv0 := [(0, .ref a_t), (1, .int i1)]) (by decide) rfl rfl (Nat.le_of_ble_eq_true rfl) rfl ?_
  intro p e s m args below meth c A Q ls hx hb hml hown hts hN hK hP hD hS hA hl hret
  have iX7 : ∀ w ∈ u_ws RX7 TX7 4, w ∈ wsX7_part := by decide +kernel
  have l26 := hts (.fieldLink RX7 26 "ChordRings$Triple" "z" "I") (by decide +kernel)
  have l23 := hts (.fieldLink RX7 23 "ChordRings$Triple" "y" "I") (by decide +kernel)
  have l19 := hts (.fieldLink RX7 19 "ChordRings$Triple" "x" "I") (by decide +kernel)
  unfold fX7_part at hf
  refine lv_iload_n hx hb dX7_part_0 rfl (lv_at hl 1 rfl) ?_
  refine lv_if_ne (tgt := 11) hx hb dX7_part_1 (by decide) (fun hc => ?_) (fun hc => ?_)
  · have hf := o_f hf hc
    refine lv_iload_n hx hb dX7_part_11 rfl (lv_at hl 1 rfl) ?_
    refine lv_iconst (v := 1) hx hb dX7_part_12 (by decide) ?_
    refine lv_icmp_ne (tgt := 23) hx hb dX7_part_13 (by decide) (fun hc => ?_) (fun hc => ?_)
    · have hf := o_f hf hc
      refine lv_aload_n hx hb dX7_part_23 rfl (lv_at hl 0 rfl) ?_
      refine va_get (D := D) (ci := 7) (C := RX7) (T := TX7) (N := 4) hx hb hts iX7 hown hK hP 0 rfl rfl 3 (by decide) l26 (fun _ h9 => h9) rfl dX7_part_24 ?_
      obtain rfl := Option.some.inj hf
      exact hret rfl rfl dX7_part_27 hP hD hS
    · have hf := o_t hf hc
      refine lv_aload_n hx hb dX7_part_16 rfl (lv_at hl 0 rfl) ?_
      refine va_get (D := D) (ci := 7) (C := RX7) (T := TX7) (N := 4) hx hb hts iX7 hown hK hP 0 rfl rfl 2 (by decide) l23 (fun _ h9 => h9) rfl dX7_part_17 ?_
      refine lv_goto (tgt := 27) hx hb dX7_part_20 (by decide) ?_
      obtain rfl := Option.some.inj hf
      exact hret rfl rfl dX7_part_27 hP hD hS
  · have hf := o_t hf hc
    refine lv_aload_n hx hb dX7_part_4 rfl (lv_at hl 0 rfl) ?_
    refine va_get (D := D) (ci := 7) (C := RX7) (T := TX7) (N := 4) hx hb hts iX7 hown hK hP 0 rfl rfl 1 (by decide) l19 (fun _ h9 => h9) rfl dX7_part_5 ?_
    refine lv_goto (tgt := 27) hx hb dX7_part_8 (by decide) ?_
    obtain rfl := Option.some.inj hf
    exact hret rfl rfl dX7_part_27 hP hD hS
def fX5_countFlags (t_flagCount : Int32) : Option (Int32) :=
  some t_flagCount
def rmX5_countFlags : Room := { frames := 0, cells := 0, slots := 0, locals := 0 }
set_option maxHeartbeats 4000000 in
set_option maxRecDepth 100000 in
theorem tX5_countFlags (l : Launch) (D : va_G) (cI : ClassId) (a_t : Nat) (a_N : Nat) (a_t_meeting : Nat) (a_t_level : Nat) (a_t_pointKeys : Nat) (a_t_firstFlags : Nat) (a_t_flagPoints : Nat) (a_t_flagLines : Nat) (a_t_nexts : Nat) (a_t_befores : Nat) (a_t_walk : Nat) (a_t_places : Nat) (a_t_ringStarts : Nat) (a_t_ringSizes : Nat) (t_pointCount : Int32) (t_flagCount : Int32) (t_ringCount : Int32) (r : Int32) (hf : fX5_countFlags t_flagCount = some r) : x_CI l D cI yX5_countFlags wsX5_countFlags rmX5_countFlags [.ref a_t] [x_o5 a_t a_N a_t_meeting a_t_level a_t_pointKeys a_t_firstFlags a_t_flagPoints a_t_flagLines a_t_nexts a_t_befores a_t_walk a_t_places a_t_ringStarts a_t_ringSizes t_pointCount t_flagCount t_ringCount] [x_o5 a_t a_N a_t_meeting a_t_level a_t_pointKeys a_t_firstFlags a_t_flagPoints a_t_flagLines a_t_nexts a_t_befores a_t_walk a_t_places a_t_ringStarts a_t_ringSizes t_pointCount t_flagCount t_ringCount] r := by
  refine x_CI_of (cc := cX5_countFlags) (maxL := 1) (ty := .int) (own := RX5) (lv0 := [(0, .ref a_t)]) (by decide) rfl rfl (Nat.le_of_ble_eq_true rfl) rfl ?_
  intro p e s m args below meth c A Q ls hx hb hml hown hts hN hK hP hD hS hA hl hret
  have iX5 : ∀ w ∈ u_ws RX5 TX5 16, w ∈ wsX5_countFlags := by decide +kernel
  have l66 := hts (.fieldLink RX5 66 "ChordRings$Rings" "flagCount" "I") (by decide +kernel)
  unfold fX5_countFlags at hf
  refine lv_aload_n hx hb dX5_countFlags_0 rfl (lv_at hl 0 rfl) ?_
  refine va_get (D := D) (ci := 5) (C := RX5) (T := TX5) (N := 16) hx hb hts iX5 hown hK hP 0 rfl rfl 14 (by decide) l66 (fun _ h9 => h9) rfl dX5_countFlags_1 ?_
  obtain rfl := Option.some.inj hf
  exact hret rfl rfl dX5_countFlags_4 hP hD hS
def fX5_hasFlag (t_flagCount : Int32) (i1 : Int32) : Option (Int32) :=
  if i1 < 0 then (some 0) else (if t_flagCount ≤ i1 then (some 0) else (some 1))
def rmX5_hasFlag : Room := { frames := 0, cells := 0, slots := 0, locals := 0 }
set_option maxHeartbeats 4000000 in
set_option maxRecDepth 100000 in
theorem tX5_hasFlag (l : Launch) (D : va_G) (cI : ClassId) (a_t : Nat) (a_N : Nat) (a_t_meeting : Nat) (a_t_level : Nat) (a_t_pointKeys : Nat) (a_t_firstFlags : Nat) (a_t_flagPoints : Nat) (a_t_flagLines : Nat) (a_t_nexts : Nat) (a_t_befores : Nat) (a_t_walk : Nat) (a_t_places : Nat) (a_t_ringStarts : Nat) (a_t_ringSizes : Nat) (t_pointCount : Int32) (t_flagCount : Int32) (t_ringCount : Int32) (i1 : Int32) (r : Int32) (hf : fX5_hasFlag t_flagCount i1 = some r) : x_CI l D cI yX5_hasFlag wsX5_hasFlag rmX5_hasFlag [.ref a_t, .int i1] [x_o5 a_t a_N a_t_meeting a_t_level a_t_pointKeys a_t_firstFlags a_t_flagPoints a_t_flagLines a_t_nexts a_t_befores a_t_walk a_t_places a_t_ringStarts a_t_ringSizes t_pointCount t_flagCount t_ringCount] [x_o5 a_t a_N a_t_meeting a_t_level a_t_pointKeys a_t_firstFlags a_t_flagPoints a_t_flagLines a_t_nexts a_t_befores a_t_walk a_t_places a_t_ringStarts a_t_ringSizes t_pointCount t_flagCount t_ringCount] r := by
  refine x_CI_of (cc := cX5_hasFlag) (maxL := 2) (ty := .boolean) (own := RX5) (lv0 := [(0, .ref a_t), (1, .int i1)]) (by decide) rfl rfl (Nat.le_of_ble_eq_true rfl) rfl ?_
  intro p e s m args below meth c A Q ls hx hb hml hown hts hN hK hP hD hS hA hl hret
  have iX5 : ∀ w ∈ u_ws RX5 TX5 16, w ∈ wsX5_hasFlag := by decide +kernel
  have l66 := hts (.fieldLink RX5 66 "ChordRings$Rings" "flagCount" "I") (by decide +kernel)
  unfold fX5_hasFlag at hf
  refine lv_iload_n hx hb dX5_hasFlag_0 rfl (lv_at hl 1 rfl) ?_
  refine lv_if_lt (tgt := 16) hx hb dX5_hasFlag_1 (by decide) (fun hc => ?_) (fun hc => ?_)
  · have hf := o_t hf hc
    refine lv_iconst (v := 0) hx hb dX5_hasFlag_16 (by decide) ?_
    obtain rfl := Option.some.inj hf
    exact hret rfl (by decide) dX5_hasFlag_17 hP hD hS
  · have hf := o_f hf hc
    refine lv_iload_n hx hb dX5_hasFlag_4 rfl (lv_at hl 1 rfl) ?_
    refine lv_aload_n hx hb dX5_hasFlag_5 rfl (lv_at hl 0 rfl) ?_
    refine va_get (D := D) (ci := 5) (C := RX5) (T := TX5) (N := 16) hx hb hts iX5 hown hK hP 0 rfl rfl 14 (by decide) l66 (fun _ h9 => h9) rfl dX5_hasFlag_6 ?_
    refine lv_icmp_ge (tgt := 16) hx hb dX5_hasFlag_9 (by decide) (fun hc => ?_) (fun hc => ?_)
    · have hf := o_t hf hc
      refine lv_iconst (v := 0) hx hb dX5_hasFlag_16 (by decide) ?_
      obtain rfl := Option.some.inj hf
      exact hret rfl (by decide) dX5_hasFlag_17 hP hD hS
    · have hf := o_f hf hc
      refine lv_iconst (v := 1) hx hb dX5_hasFlag_12 (by decide) ?_
      refine lv_goto (tgt := 17) hx hb dX5_hasFlag_13 (by decide) ?_
      obtain rfl := Option.some.inj hf
      exact hret rfl (by decide) dX5_hasFlag_17 hP hD hS
noncomputable def fX5_beforeOf (t_flagCount : Int32) (t_befores_r : (Nat → Int32)) (i1 : Int32) : Option (Int32) :=
  p_b1 (fX5_hasFlag t_flagCount i1) (fun v1 =>
if v1 = 0 then (some (-1)) else (p_b1 (p_ld t_befores_r 400 i1) (fun v2 =>
some v2)))
def rmX5_beforeOf : Room := { frames := 1, cells := 0, slots := 0, locals := 21 }
set_option maxHeartbeats 4000000 in
set_option maxRecDepth 100000 in
theorem tX5_beforeOf (l : Launch) (D : va_G) (cI : ClassId) (a_t : Nat) (a_N : Nat) (a_t_meeting : Nat) (a_t_level : Nat) (a_t_pointKeys : Nat) (a_t_firstFlags : Nat) (a_t_flagPoints : Nat) (a_t_flagLines : Nat) (a_t_nexts : Nat) (a_t_befores : Nat) (a_t_walk : Nat) (a_t_places : Nat) (a_t_ringStarts : Nat) (a_t_ringSizes : Nat) (t_pointCount : Int32) (t_flagCount : Int32) (t_ringCount : Int32) (t_befores_r : (Nat → Int32)) (i1 : Int32) (r : Int32) (hf : fX5_beforeOf t_flagCount t_befores_r i1 = some r) : x_CI l D cI yX5_beforeOf wsX5_beforeOf rmX5_beforeOf [.ref a_t, .int i1] [x_o5 a_t a_N a_t_meeting a_t_level a_t_pointKeys a_t_firstFlags a_t_flagPoints a_t_flagLines a_t_nexts a_t_befores a_t_walk a_t_places a_t_ringStarts a_t_ringSizes t_pointCount t_flagCount t_ringCount, x_ar cI a_t_befores 400 t_befores_r] [x_o5 a_t a_N a_t_meeting a_t_level a_t_pointKeys a_t_firstFlags a_t_flagPoints a_t_flagLines a_t_nexts a_t_befores a_t_walk a_t_places a_t_ringStarts a_t_ringSizes t_pointCount t_flagCount t_ringCount, x_ar cI a_t_befores 400 t_befores_r] r := by
  refine x_CI_of (cc := cX5_beforeOf) (maxL := 2) (ty := .int) (own := RX5) (lv0 := [(0, .ref a_t), (1, .int i1)]) (by decide) rfl rfl (Nat.le_of_ble_eq_true rfl) rfl ?_
  intro p e s m args below meth c A Q ls hx hb hml hown hts hN hK hP hD hS hA hl hret
  have iX5 : ∀ w ∈ u_ws RX5 TX5 16, w ∈ wsX5_beforeOf := by decide +kernel
  have l27 := hts (.fieldLink RX5 27 "ChordRings$Rings" "befores" "[I") (by decide +kernel)
  unfold fX5_beforeOf at hf
  refine lv_aload_n hx hb dX5_beforeOf_0 rfl (lv_at hl 0 rfl) ?_
  refine lv_iload_n hx hb dX5_beforeOf_1 rfl (lv_at hl 1 rfl) ?_
  obtain ⟨v1, hv1, hf⟩ := o_b1 hf
  refine x_vi (rest := []) (W1 := [x_o5 a_t a_N a_t_meeting a_t_level a_t_pointKeys a_t_firstFlags a_t_flagPoints a_t_flagLines a_t_nexts a_t_befores a_t_walk a_t_places a_t_ringStarts a_t_ringSizes t_pointCount t_flagCount t_ringCount, x_ar cI a_t_befores 400 t_befores_r]) ⟨hx, hb, hml, hown, hts⟩ (tX5_hasFlag l D cI a_t a_N a_t_meeting a_t_level a_t_pointKeys a_t_firstFlags a_t_flagPoints a_t_flagLines a_t_nexts a_t_befores a_t_walk a_t_places a_t_ringStarts a_t_ringSizes t_pointCount t_flagCount t_ringCount i1 v1 hv1) (cwV 1 hts gX5_beforeOf_X5_hasFlag rfl rfl rfl (by decide +kernel) ⟨Nat.le_of_ble_eq_true rfl, Nat.le_of_ble_eq_true rfl⟩) hN hK hP hD hS hA [0] [some 0, none] rfl rfl rfl rfl rfl rfl 0 rfl rfl rfl hl.1 rfl (Nat.le_of_ble_eq_true rfl) dX5_beforeOf_2 ⟨Nat.zero_le _, Nat.zero_le _⟩ (fun H locs hP hD hS => ?_)
  refine lv_if_eq (tgt := 17) hx hb dX5_beforeOf_5 (by decide) (fun hc => ?_) (fun hc => ?_)
  · have hf := o_t hf hc
    refine lv_iconst (v := (-1)) hx hb dX5_beforeOf_17 (by decide) ?_
    obtain rfl := Option.some.inj hf
    exact hret rfl rfl dX5_beforeOf_18 hP hD hS
  · have hf := o_f hf hc
    refine lv_aload_n hx hb dX5_beforeOf_8 rfl (lv_at hl 0 rfl) ?_
    refine va_get (D := D) (ci := 5) (C := RX5) (T := TX5) (N := 16) hx hb hts iX5 hown hK hP 0 rfl rfl 8 (by decide) l27 (fun _ h9 => h9) rfl dX5_beforeOf_9 ?_
    refine lv_iload_n hx hb dX5_beforeOf_12 rfl (lv_at hl 1 rfl) ?_
    obtain ⟨v2, hv2, hf⟩ := o_b1 hf
    refine x_ald hx hb hK hP 1 rfl hv2 dX5_beforeOf_13 ?_
    refine lv_goto (tgt := 18) hx hb dX5_beforeOf_14 (by decide) ?_
    obtain rfl := Option.some.inj hf
    exact hret rfl rfl dX5_beforeOf_18 hP hD hS
noncomputable def fX5_lineKey (t_flagCount : Int32) (t_flagLines_r : (Nat → Int32)) (i1 : Int32) : Option (Int32) :=
  p_b1 (fX5_hasFlag t_flagCount i1) (fun v1 =>
if v1 = 0 then (some (-1)) else (p_b1 (p_ld t_flagLines_r 400 i1) (fun v2 =>
some v2)))
def rmX5_lineKey : Room := { frames := 1, cells := 0, slots := 0, locals := 21 }
set_option maxHeartbeats 4000000 in
set_option maxRecDepth 100000 in
theorem tX5_lineKey (l : Launch) (D : va_G) (cI : ClassId) (a_t : Nat) (a_N : Nat) (a_t_meeting : Nat) (a_t_level : Nat) (a_t_pointKeys : Nat) (a_t_firstFlags : Nat) (a_t_flagPoints : Nat) (a_t_flagLines : Nat) (a_t_nexts : Nat) (a_t_befores : Nat) (a_t_walk : Nat) (a_t_places : Nat) (a_t_ringStarts : Nat) (a_t_ringSizes : Nat) (t_pointCount : Int32) (t_flagCount : Int32) (t_ringCount : Int32) (t_flagLines_r : (Nat → Int32)) (i1 : Int32) (r : Int32) (hf : fX5_lineKey t_flagCount t_flagLines_r i1 = some r) : x_CI l D cI yX5_lineKey wsX5_lineKey rmX5_lineKey [.ref a_t, .int i1] [x_o5 a_t a_N a_t_meeting a_t_level a_t_pointKeys a_t_firstFlags a_t_flagPoints a_t_flagLines a_t_nexts a_t_befores a_t_walk a_t_places a_t_ringStarts a_t_ringSizes t_pointCount t_flagCount t_ringCount, x_ar cI a_t_flagLines 400 t_flagLines_r] [x_o5 a_t a_N a_t_meeting a_t_level a_t_pointKeys a_t_firstFlags a_t_flagPoints a_t_flagLines a_t_nexts a_t_befores a_t_walk a_t_places a_t_ringStarts a_t_ringSizes t_pointCount t_flagCount t_ringCount, x_ar cI a_t_flagLines 400 t_flagLines_r] r := by
  refine x_CI_of (cc := cX5_lineKey) (maxL := 2) (ty := .int) (own := RX5) (lv0 := [(0, .ref a_t), (1, .int i1)]) (by decide) rfl rfl (Nat.le_of_ble_eq_true rfl) rfl ?_
  intro p e s m args below meth c A Q ls hx hb hml hown hts hN hK hP hD hS hA hl hret
  have iX5 : ∀ w ∈ u_ws RX5 TX5 16, w ∈ wsX5_lineKey := by decide +kernel
  have l21 := hts (.fieldLink RX5 21 "ChordRings$Rings" "flagLines" "[I") (by decide +kernel)
  unfold fX5_lineKey at hf
  refine lv_aload_n hx hb dX5_lineKey_0 rfl (lv_at hl 0 rfl) ?_
  refine lv_iload_n hx hb dX5_lineKey_1 rfl (lv_at hl 1 rfl) ?_
  obtain ⟨v1, hv1, hf⟩ := o_b1 hf
  refine x_vi (rest := []) (W1 := [x_o5 a_t a_N a_t_meeting a_t_level a_t_pointKeys a_t_firstFlags a_t_flagPoints a_t_flagLines a_t_nexts a_t_befores a_t_walk a_t_places a_t_ringStarts a_t_ringSizes t_pointCount t_flagCount t_ringCount, x_ar cI a_t_flagLines 400 t_flagLines_r]) ⟨hx, hb, hml, hown, hts⟩ (tX5_hasFlag l D cI a_t a_N a_t_meeting a_t_level a_t_pointKeys a_t_firstFlags a_t_flagPoints a_t_flagLines a_t_nexts a_t_befores a_t_walk a_t_places a_t_ringStarts a_t_ringSizes t_pointCount t_flagCount t_ringCount i1 v1 hv1) (cwV 1 hts gX5_lineKey_X5_hasFlag rfl rfl rfl (by decide +kernel) ⟨Nat.le_of_ble_eq_true rfl, Nat.le_of_ble_eq_true rfl⟩) hN hK hP hD hS hA [0] [some 0, none] rfl rfl rfl rfl rfl rfl 0 rfl rfl rfl hl.1 rfl (Nat.le_of_ble_eq_true rfl) dX5_lineKey_2 ⟨Nat.zero_le _, Nat.zero_le _⟩ (fun H locs hP hD hS => ?_)
  refine lv_if_eq (tgt := 17) hx hb dX5_lineKey_5 (by decide) (fun hc => ?_) (fun hc => ?_)
  · have hf := o_t hf hc
    refine lv_iconst (v := (-1)) hx hb dX5_lineKey_17 (by decide) ?_
    obtain rfl := Option.some.inj hf
    exact hret rfl rfl dX5_lineKey_18 hP hD hS
  · have hf := o_f hf hc
    refine lv_aload_n hx hb dX5_lineKey_8 rfl (lv_at hl 0 rfl) ?_
    refine va_get (D := D) (ci := 5) (C := RX5) (T := TX5) (N := 16) hx hb hts iX5 hown hK hP 0 rfl rfl 6 (by decide) l21 (fun _ h9 => h9) rfl dX5_lineKey_9 ?_
    refine lv_iload_n hx hb dX5_lineKey_12 rfl (lv_at hl 1 rfl) ?_
    obtain ⟨v2, hv2, hf⟩ := o_b1 hf
    refine x_ald hx hb hK hP 1 rfl hv2 dX5_lineKey_13 ?_
    refine lv_goto (tgt := 18) hx hb dX5_lineKey_14 (by decide) ?_
    obtain rfl := Option.some.inj hf
    exact hret rfl rfl dX5_lineKey_18 hP hD hS
noncomputable def fX5_nextOf (t_flagCount : Int32) (t_nexts_r : (Nat → Int32)) (i1 : Int32) : Option (Int32) :=
  p_b1 (fX5_hasFlag t_flagCount i1) (fun v1 =>
if v1 = 0 then (some (-1)) else (p_b1 (p_ld t_nexts_r 400 i1) (fun v2 =>
some v2)))
def rmX5_nextOf : Room := { frames := 1, cells := 0, slots := 0, locals := 21 }
set_option maxHeartbeats 4000000 in
set_option maxRecDepth 100000 in
theorem tX5_nextOf (l : Launch) (D : va_G) (cI : ClassId) (a_t : Nat) (a_N : Nat) (a_t_meeting : Nat) (a_t_level : Nat) (a_t_pointKeys : Nat) (a_t_firstFlags : Nat) (a_t_flagPoints : Nat) (a_t_flagLines : Nat) (a_t_nexts : Nat) (a_t_befores : Nat) (a_t_walk : Nat) (a_t_places : Nat) (a_t_ringStarts : Nat) (a_t_ringSizes : Nat) (t_pointCount : Int32) (t_flagCount : Int32) (t_ringCount : Int32) (t_nexts_r : (Nat → Int32)) (i1 : Int32) (r : Int32) (hf : fX5_nextOf t_flagCount t_nexts_r i1 = some r) : x_CI l D cI yX5_nextOf wsX5_nextOf rmX5_nextOf [.ref a_t, .int i1] [x_o5 a_t a_N a_t_meeting a_t_level a_t_pointKeys a_t_firstFlags a_t_flagPoints a_t_flagLines a_t_nexts a_t_befores a_t_walk a_t_places a_t_ringStarts a_t_ringSizes t_pointCount t_flagCount t_ringCount, x_ar cI a_t_nexts 400 t_nexts_r] [x_o5 a_t a_N a_t_meeting a_t_level a_t_pointKeys a_t_firstFlags a_t_flagPoints a_t_flagLines a_t_nexts a_t_befores a_t_walk a_t_places a_t_ringStarts a_t_ringSizes t_pointCount t_flagCount t_ringCount, x_ar cI a_t_nexts 400 t_nexts_r] r := by
  refine x_CI_of (cc := cX5_nextOf) (maxL := 2) (ty := .int) (own := RX5) (lv0 := [(0, .ref a_t), (1, .int i1)]) (by decide) rfl rfl (Nat.le_of_ble_eq_true rfl) rfl ?_
  intro p e s m args below meth c A Q ls hx hb hml hown hts hN hK hP hD hS hA hl hret
  have iX5 : ∀ w ∈ u_ws RX5 TX5 16, w ∈ wsX5_nextOf := by decide +kernel
  have l24 := hts (.fieldLink RX5 24 "ChordRings$Rings" "nexts" "[I") (by decide +kernel)
  unfold fX5_nextOf at hf
  refine lv_aload_n hx hb dX5_nextOf_0 rfl (lv_at hl 0 rfl) ?_
  refine lv_iload_n hx hb dX5_nextOf_1 rfl (lv_at hl 1 rfl) ?_
  obtain ⟨v1, hv1, hf⟩ := o_b1 hf
  refine x_vi (rest := []) (W1 := [x_o5 a_t a_N a_t_meeting a_t_level a_t_pointKeys a_t_firstFlags a_t_flagPoints a_t_flagLines a_t_nexts a_t_befores a_t_walk a_t_places a_t_ringStarts a_t_ringSizes t_pointCount t_flagCount t_ringCount, x_ar cI a_t_nexts 400 t_nexts_r]) ⟨hx, hb, hml, hown, hts⟩ (tX5_hasFlag l D cI a_t a_N a_t_meeting a_t_level a_t_pointKeys a_t_firstFlags a_t_flagPoints a_t_flagLines a_t_nexts a_t_befores a_t_walk a_t_places a_t_ringStarts a_t_ringSizes t_pointCount t_flagCount t_ringCount i1 v1 hv1) (cwV 1 hts gX5_nextOf_X5_hasFlag rfl rfl rfl (by decide +kernel) ⟨Nat.le_of_ble_eq_true rfl, Nat.le_of_ble_eq_true rfl⟩) hN hK hP hD hS hA [0] [some 0, none] rfl rfl rfl rfl rfl rfl 0 rfl rfl rfl hl.1 rfl (Nat.le_of_ble_eq_true rfl) dX5_nextOf_2 ⟨Nat.zero_le _, Nat.zero_le _⟩ (fun H locs hP hD hS => ?_)
  refine lv_if_eq (tgt := 17) hx hb dX5_nextOf_5 (by decide) (fun hc => ?_) (fun hc => ?_)
  · have hf := o_t hf hc
    refine lv_iconst (v := (-1)) hx hb dX5_nextOf_17 (by decide) ?_
    obtain rfl := Option.some.inj hf
    exact hret rfl rfl dX5_nextOf_18 hP hD hS
  · have hf := o_f hf hc
    refine lv_aload_n hx hb dX5_nextOf_8 rfl (lv_at hl 0 rfl) ?_
    refine va_get (D := D) (ci := 5) (C := RX5) (T := TX5) (N := 16) hx hb hts iX5 hown hK hP 0 rfl rfl 7 (by decide) l24 (fun _ h9 => h9) rfl dX5_nextOf_9 ?_
    refine lv_iload_n hx hb dX5_nextOf_12 rfl (lv_at hl 1 rfl) ?_
    obtain ⟨v2, hv2, hf⟩ := o_b1 hf
    refine x_ald hx hb hK hP 1 rfl hv2 dX5_nextOf_13 ?_
    refine lv_goto (tgt := 18) hx hb dX5_nextOf_14 (by decide) ?_
    obtain rfl := Option.some.inj hf
    exact hret rfl rfl dX5_nextOf_18 hP hD hS
noncomputable def fX5_pointOf (t_flagCount : Int32) (t_flagPoints_r : (Nat → Int32)) (i1 : Int32) : Option (Int32) :=
  p_b1 (fX5_hasFlag t_flagCount i1) (fun v1 =>
if v1 = 0 then (some (-1)) else (p_b1 (p_ld t_flagPoints_r 400 i1) (fun v2 =>
some v2)))
def rmX5_pointOf : Room := { frames := 1, cells := 0, slots := 0, locals := 21 }
set_option maxHeartbeats 4000000 in
set_option maxRecDepth 100000 in
theorem tX5_pointOf (l : Launch) (D : va_G) (cI : ClassId) (a_t : Nat) (a_N : Nat) (a_t_meeting : Nat) (a_t_level : Nat) (a_t_pointKeys : Nat) (a_t_firstFlags : Nat) (a_t_flagPoints : Nat) (a_t_flagLines : Nat) (a_t_nexts : Nat) (a_t_befores : Nat) (a_t_walk : Nat) (a_t_places : Nat) (a_t_ringStarts : Nat) (a_t_ringSizes : Nat) (t_pointCount : Int32) (t_flagCount : Int32) (t_ringCount : Int32) (t_flagPoints_r : (Nat → Int32)) (i1 : Int32) (r : Int32) (hf : fX5_pointOf t_flagCount t_flagPoints_r i1 = some r) : x_CI l D cI yX5_pointOf wsX5_pointOf rmX5_pointOf [.ref a_t, .int i1] [x_o5 a_t a_N a_t_meeting a_t_level a_t_pointKeys a_t_firstFlags a_t_flagPoints a_t_flagLines a_t_nexts a_t_befores a_t_walk a_t_places a_t_ringStarts a_t_ringSizes t_pointCount t_flagCount t_ringCount, x_ar cI a_t_flagPoints 400 t_flagPoints_r] [x_o5 a_t a_N a_t_meeting a_t_level a_t_pointKeys a_t_firstFlags a_t_flagPoints a_t_flagLines a_t_nexts a_t_befores a_t_walk a_t_places a_t_ringStarts a_t_ringSizes t_pointCount t_flagCount t_ringCount, x_ar cI a_t_flagPoints 400 t_flagPoints_r] r := by
  refine x_CI_of (cc := cX5_pointOf) (maxL := 2) (ty := .int) (own := RX5) (lv0 := [(0, .ref a_t), (1, .int i1)]) (by decide) rfl rfl (Nat.le_of_ble_eq_true rfl) rfl ?_
  intro p e s m args below meth c A Q ls hx hb hml hown hts hN hK hP hD hS hA hl hret
  have iX5 : ∀ w ∈ u_ws RX5 TX5 16, w ∈ wsX5_pointOf := by decide +kernel
  have l18 := hts (.fieldLink RX5 18 "ChordRings$Rings" "flagPoints" "[I") (by decide +kernel)
  unfold fX5_pointOf at hf
  refine lv_aload_n hx hb dX5_pointOf_0 rfl (lv_at hl 0 rfl) ?_
  refine lv_iload_n hx hb dX5_pointOf_1 rfl (lv_at hl 1 rfl) ?_
  obtain ⟨v1, hv1, hf⟩ := o_b1 hf
  refine x_vi (rest := []) (W1 := [x_o5 a_t a_N a_t_meeting a_t_level a_t_pointKeys a_t_firstFlags a_t_flagPoints a_t_flagLines a_t_nexts a_t_befores a_t_walk a_t_places a_t_ringStarts a_t_ringSizes t_pointCount t_flagCount t_ringCount, x_ar cI a_t_flagPoints 400 t_flagPoints_r]) ⟨hx, hb, hml, hown, hts⟩ (tX5_hasFlag l D cI a_t a_N a_t_meeting a_t_level a_t_pointKeys a_t_firstFlags a_t_flagPoints a_t_flagLines a_t_nexts a_t_befores a_t_walk a_t_places a_t_ringStarts a_t_ringSizes t_pointCount t_flagCount t_ringCount i1 v1 hv1) (cwV 1 hts gX5_pointOf_X5_hasFlag rfl rfl rfl (by decide +kernel) ⟨Nat.le_of_ble_eq_true rfl, Nat.le_of_ble_eq_true rfl⟩) hN hK hP hD hS hA [0] [some 0, none] rfl rfl rfl rfl rfl rfl 0 rfl rfl rfl hl.1 rfl (Nat.le_of_ble_eq_true rfl) dX5_pointOf_2 ⟨Nat.zero_le _, Nat.zero_le _⟩ (fun H locs hP hD hS => ?_)
  refine lv_if_eq (tgt := 17) hx hb dX5_pointOf_5 (by decide) (fun hc => ?_) (fun hc => ?_)
  · have hf := o_t hf hc
    refine lv_iconst (v := (-1)) hx hb dX5_pointOf_17 (by decide) ?_
    obtain rfl := Option.some.inj hf
    exact hret rfl rfl dX5_pointOf_18 hP hD hS
  · have hf := o_f hf hc
    refine lv_aload_n hx hb dX5_pointOf_8 rfl (lv_at hl 0 rfl) ?_
    refine va_get (D := D) (ci := 5) (C := RX5) (T := TX5) (N := 16) hx hb hts iX5 hown hK hP 0 rfl rfl 5 (by decide) l18 (fun _ h9 => h9) rfl dX5_pointOf_9 ?_
    refine lv_iload_n hx hb dX5_pointOf_12 rfl (lv_at hl 1 rfl) ?_
    obtain ⟨v2, hv2, hf⟩ := o_b1 hf
    refine x_ald hx hb hK hP 1 rfl hv2 dX5_pointOf_13 ?_
    refine lv_goto (tgt := 18) hx hb dX5_pointOf_14 (by decide) ?_
    obtain rfl := Option.some.inj hf
    exact hret rfl rfl dX5_pointOf_18 hP hD hS
noncomputable def fX5_after (t_flagCount : Int32) (t_places_r : (Nat → Int32)) (t_ringSizes_r : (Nat → Int32)) (t_ringStarts_r : (Nat → Int32)) (t_walk_r : (Nat → Int32)) (i1 : Int32) (i2 : Int32) : Option (Int32) :=
  p_b1 (fX5_hasFlag t_flagCount i1) (fun v1 =>
if v1 = 0 then (some (-1)) else (if i2 < 0 then (some (-1)) else (p_b1 (p_ld t_ringSizes_r 400 i1) (fun v2 =>
if 1 ≤ v2 then (p_b1 (p_ld t_ringStarts_r 400 i1) (fun v3 =>
p_b1 (p_ld t_places_r 400 i1) (fun v4 =>
p_b1 (p_ld t_ringSizes_r 400 i1) (fun v5 =>
p_b1 (p_rm ((v4 - v3) + i2) v5) (fun v6 =>
p_b1 (p_ld t_walk_r 400 (v3 + v6)) (fun v7 =>
some v7)))))) else (some (-1))))))
def rmX5_after : Room := { frames := 1, cells := 0, slots := 0, locals := 21 }
set_option maxHeartbeats 4000000 in
set_option maxRecDepth 100000 in
theorem tX5_after (l : Launch) (D : va_G) (cI : ClassId) (a_t : Nat) (a_N : Nat) (a_t_meeting : Nat) (a_t_level : Nat) (a_t_pointKeys : Nat) (a_t_firstFlags : Nat) (a_t_flagPoints : Nat) (a_t_flagLines : Nat) (a_t_nexts : Nat) (a_t_befores : Nat) (a_t_walk : Nat) (a_t_places : Nat) (a_t_ringStarts : Nat) (a_t_ringSizes : Nat) (t_pointCount : Int32) (t_flagCount : Int32) (t_ringCount : Int32) (t_places_r : (Nat → Int32)) (t_ringSizes_r : (Nat → Int32)) (t_ringStarts_r : (Nat → Int32)) (t_walk_r : (Nat → Int32)) (i1 : Int32) (i2 : Int32) (r : Int32) (hf : fX5_after t_flagCount t_places_r t_ringSizes_r t_ringStarts_r t_walk_r i1 i2 = some r) : x_CI l D cI yX5_after wsX5_after rmX5_after [.ref a_t, .int i1, .int i2] [x_o5 a_t a_N a_t_meeting a_t_level a_t_pointKeys a_t_firstFlags a_t_flagPoints a_t_flagLines a_t_nexts a_t_befores a_t_walk a_t_places a_t_ringStarts a_t_ringSizes t_pointCount t_flagCount t_ringCount, x_ar cI a_t_places 400 t_places_r, x_ar cI a_t_ringSizes 400 t_ringSizes_r, x_ar cI a_t_ringStarts 400 t_ringStarts_r, x_ar cI a_t_walk 400 t_walk_r] [x_o5 a_t a_N a_t_meeting a_t_level a_t_pointKeys a_t_firstFlags a_t_flagPoints a_t_flagLines a_t_nexts a_t_befores a_t_walk a_t_places a_t_ringStarts a_t_ringSizes t_pointCount t_flagCount t_ringCount, x_ar cI a_t_places 400 t_places_r, x_ar cI a_t_ringSizes 400 t_ringSizes_r, x_ar cI a_t_ringStarts 400 t_ringStarts_r, x_ar cI a_t_walk 400 t_walk_r] r := by
  refine x_CI_of (cc := cX5_after) (maxL := 4) (ty := .int) (own := RX5) (lv0 := [(0, .ref a_t), (1, .int i1), (2, .int i2)]) (by decide) rfl rfl (Nat.le_of_ble_eq_true rfl) rfl ?_
  intro p e s m args below meth c A Q ls hx hb hml hown hts hN hK hP hD hS hA hl hret
  have iX5 : ∀ w ∈ u_ws RX5 TX5 16, w ∈ wsX5_after := by decide +kernel
  have l39 := hts (.fieldLink RX5 39 "ChordRings$Rings" "ringSizes" "[I") (by decide +kernel)
  have l36 := hts (.fieldLink RX5 36 "ChordRings$Rings" "ringStarts" "[I") (by decide +kernel)
  have l30 := hts (.fieldLink RX5 30 "ChordRings$Rings" "walk" "[I") (by decide +kernel)
  have l33 := hts (.fieldLink RX5 33 "ChordRings$Rings" "places" "[I") (by decide +kernel)
  unfold fX5_after at hf
  refine lv_aload_n hx hb dX5_after_0 rfl (lv_at hl 0 rfl) ?_
  refine lv_iload_n hx hb dX5_after_1 rfl (lv_at hl 1 rfl) ?_
  obtain ⟨v1, hv1, hf⟩ := o_b1 hf
  refine x_vi (rest := []) (W1 := [x_o5 a_t a_N a_t_meeting a_t_level a_t_pointKeys a_t_firstFlags a_t_flagPoints a_t_flagLines a_t_nexts a_t_befores a_t_walk a_t_places a_t_ringStarts a_t_ringSizes t_pointCount t_flagCount t_ringCount, x_ar cI a_t_places 400 t_places_r, x_ar cI a_t_ringSizes 400 t_ringSizes_r, x_ar cI a_t_ringStarts 400 t_ringStarts_r, x_ar cI a_t_walk 400 t_walk_r]) ⟨hx, hb, hml, hown, hts⟩ (tX5_hasFlag l D cI a_t a_N a_t_meeting a_t_level a_t_pointKeys a_t_firstFlags a_t_flagPoints a_t_flagLines a_t_nexts a_t_befores a_t_walk a_t_places a_t_ringStarts a_t_ringSizes t_pointCount t_flagCount t_ringCount i1 v1 hv1) (cwV 1 hts gX5_after_X5_hasFlag rfl rfl rfl (by decide +kernel) ⟨Nat.le_of_ble_eq_true rfl, Nat.le_of_ble_eq_true rfl⟩) hN hK hP hD hS hA [0] [some 0, none, none, none, none] rfl rfl rfl rfl rfl rfl 0 rfl rfl rfl hl.1 rfl (Nat.le_of_ble_eq_true rfl) dX5_after_2 ⟨Nat.zero_le _, Nat.zero_le _⟩ (fun H locs hP hD hS => ?_)
  refine lv_if_eq (tgt := 22) hx hb dX5_after_5 (by decide) (fun hc => ?_) (fun hc => ?_)
  · have hf := o_t hf hc
    refine lv_iconst (v := (-1)) hx hb dX5_after_22 (by decide) ?_
    obtain rfl := Option.some.inj hf
    exact hret rfl rfl dX5_after_23 hP hD hS
  · have hf := o_f hf hc
    refine lv_iload_n hx hb dX5_after_8 rfl (lv_at hl 2 rfl) ?_
    refine lv_if_lt (tgt := 22) hx hb dX5_after_9 (by decide) (fun hc => ?_) (fun hc => ?_)
    · have hf := o_t hf hc
      refine lv_iconst (v := (-1)) hx hb dX5_after_22 (by decide) ?_
      obtain rfl := Option.some.inj hf
      exact hret rfl rfl dX5_after_23 hP hD hS
    · have hf := o_f hf hc
      refine lv_aload_n hx hb dX5_after_12 rfl (lv_at hl 0 rfl) ?_
      refine va_get (D := D) (ci := 5) (C := RX5) (T := TX5) (N := 16) hx hb hts iX5 hown hK hP 0 rfl rfl 12 (by decide) l39 (fun _ h9 => h9) rfl dX5_after_13 ?_
      refine lv_iload_n hx hb dX5_after_16 rfl (lv_at hl 1 rfl) ?_
      obtain ⟨v2, hv2, hf⟩ := o_b1 hf
      refine x_ald hx hb hK hP 2 rfl hv2 dX5_after_17 ?_
      refine lv_iconst (v := 1) hx hb dX5_after_18 (by decide) ?_
      refine lv_icmp_ge (tgt := 24) hx hb dX5_after_19 (by decide) (fun hc => ?_) (fun hc => ?_)
      · have hf := o_t hf hc
        refine lv_aload_n hx hb dX5_after_24 rfl (lv_at hl 0 rfl) ?_
        refine va_get (D := D) (ci := 5) (C := RX5) (T := TX5) (N := 16) hx hb hts iX5 hown hK hP 0 rfl rfl 11 (by decide) l36 (fun _ h9 => h9) rfl dX5_after_25 ?_
        refine lv_iload_n hx hb dX5_after_28 rfl (lv_at hl 1 rfl) ?_
        obtain ⟨v3, hv3, hf⟩ := o_b1 hf
        refine x_ald hx hb hK hP 3 rfl hv3 dX5_after_29 ?_
        refine lv_istore_n (lv' := [(3, .int v3), (0, .ref a_t), (1, .int i1), (2, .int i2)]) hx hb dX5_after_30 rfl hl (by decide) rfl (fun ls hl => ?_)
        refine lv_aload_n hx hb dX5_after_31 rfl (lv_at hl 1 rfl) ?_
        refine va_get (D := D) (ci := 5) (C := RX5) (T := TX5) (N := 16) hx hb hts iX5 hown hK hP 0 rfl rfl 9 (by decide) l30 (fun _ h9 => h9) rfl dX5_after_32 ?_
        refine lv_iload_n hx hb dX5_after_35 rfl (lv_at hl 0 rfl) ?_
        refine lv_aload_n hx hb dX5_after_36 rfl (lv_at hl 1 rfl) ?_
        refine va_get (D := D) (ci := 5) (C := RX5) (T := TX5) (N := 16) hx hb hts iX5 hown hK hP 0 rfl rfl 10 (by decide) l33 (fun _ h9 => h9) rfl dX5_after_37 ?_
        refine lv_iload_n hx hb dX5_after_40 rfl (lv_at hl 2 rfl) ?_
        obtain ⟨v4, hv4, hf⟩ := o_b1 hf
        refine x_ald hx hb hK hP 1 rfl hv4 dX5_after_41 ?_
        refine lv_iload_n hx hb dX5_after_42 rfl (lv_at hl 0 rfl) ?_
        refine lv_isub hx hb dX5_after_43 ?_
        refine lv_iload_n hx hb dX5_after_44 rfl (lv_at hl 3 rfl) ?_
        refine lv_iadd hx hb dX5_after_45 ?_
        refine lv_aload_n hx hb dX5_after_46 rfl (lv_at hl 1 rfl) ?_
        refine va_get (D := D) (ci := 5) (C := RX5) (T := TX5) (N := 16) hx hb hts iX5 hown hK hP 0 rfl rfl 12 (by decide) l39 (fun _ h9 => h9) rfl dX5_after_47 ?_
        refine lv_iload_n hx hb dX5_after_50 rfl (lv_at hl 2 rfl) ?_
        obtain ⟨v5, hv5, hf⟩ := o_b1 hf
        refine x_ald hx hb hK hP 2 rfl hv5 dX5_after_51 ?_
        obtain ⟨v6, hv6, hf⟩ := o_b1 hf
        refine x_rm hx hb hv6 dX5_after_52 ?_
        refine lv_iadd hx hb dX5_after_53 ?_
        obtain ⟨v7, hv7, hf⟩ := o_b1 hf
        refine x_ald hx hb hK hP 4 rfl hv7 dX5_after_54 ?_
        obtain rfl := Option.some.inj hf
        exact hret rfl rfl dX5_after_55 hP hD hS
      · have hf := o_f hf hc
        refine lv_iconst (v := (-1)) hx hb dX5_after_22 (by decide) ?_
        obtain rfl := Option.some.inj hf
        exact hret rfl rfl dX5_after_23 hP hD hS
noncomputable def fX5_ringOf (t_flagCount : Int32) (t_ringSizes_r : (Nat → Int32)) (i1 : Int32) : Option (Int32) :=
  p_b1 (fX5_hasFlag t_flagCount i1) (fun v1 =>
if v1 = 0 then (some (-1)) else (p_b1 (p_ld t_ringSizes_r 400 i1) (fun v2 =>
some v2)))
def rmX5_ringOf : Room := { frames := 1, cells := 0, slots := 0, locals := 21 }
set_option maxHeartbeats 4000000 in
set_option maxRecDepth 100000 in
theorem tX5_ringOf (l : Launch) (D : va_G) (cI : ClassId) (a_t : Nat) (a_N : Nat) (a_t_meeting : Nat) (a_t_level : Nat) (a_t_pointKeys : Nat) (a_t_firstFlags : Nat) (a_t_flagPoints : Nat) (a_t_flagLines : Nat) (a_t_nexts : Nat) (a_t_befores : Nat) (a_t_walk : Nat) (a_t_places : Nat) (a_t_ringStarts : Nat) (a_t_ringSizes : Nat) (t_pointCount : Int32) (t_flagCount : Int32) (t_ringCount : Int32) (t_ringSizes_r : (Nat → Int32)) (i1 : Int32) (r : Int32) (hf : fX5_ringOf t_flagCount t_ringSizes_r i1 = some r) : x_CI l D cI yX5_ringOf wsX5_ringOf rmX5_ringOf [.ref a_t, .int i1] [x_o5 a_t a_N a_t_meeting a_t_level a_t_pointKeys a_t_firstFlags a_t_flagPoints a_t_flagLines a_t_nexts a_t_befores a_t_walk a_t_places a_t_ringStarts a_t_ringSizes t_pointCount t_flagCount t_ringCount, x_ar cI a_t_ringSizes 400 t_ringSizes_r] [x_o5 a_t a_N a_t_meeting a_t_level a_t_pointKeys a_t_firstFlags a_t_flagPoints a_t_flagLines a_t_nexts a_t_befores a_t_walk a_t_places a_t_ringStarts a_t_ringSizes t_pointCount t_flagCount t_ringCount, x_ar cI a_t_ringSizes 400 t_ringSizes_r] r := by
  refine x_CI_of (cc := cX5_ringOf) (maxL := 2) (ty := .int) (own := RX5) (lv0 := [(0, .ref a_t), (1, .int i1)]) (by decide) rfl rfl (Nat.le_of_ble_eq_true rfl) rfl ?_
  intro p e s m args below meth c A Q ls hx hb hml hown hts hN hK hP hD hS hA hl hret
  have iX5 : ∀ w ∈ u_ws RX5 TX5 16, w ∈ wsX5_ringOf := by decide +kernel
  have l39 := hts (.fieldLink RX5 39 "ChordRings$Rings" "ringSizes" "[I") (by decide +kernel)
  unfold fX5_ringOf at hf
  refine lv_aload_n hx hb dX5_ringOf_0 rfl (lv_at hl 0 rfl) ?_
  refine lv_iload_n hx hb dX5_ringOf_1 rfl (lv_at hl 1 rfl) ?_
  obtain ⟨v1, hv1, hf⟩ := o_b1 hf
  refine x_vi (rest := []) (W1 := [x_o5 a_t a_N a_t_meeting a_t_level a_t_pointKeys a_t_firstFlags a_t_flagPoints a_t_flagLines a_t_nexts a_t_befores a_t_walk a_t_places a_t_ringStarts a_t_ringSizes t_pointCount t_flagCount t_ringCount, x_ar cI a_t_ringSizes 400 t_ringSizes_r]) ⟨hx, hb, hml, hown, hts⟩ (tX5_hasFlag l D cI a_t a_N a_t_meeting a_t_level a_t_pointKeys a_t_firstFlags a_t_flagPoints a_t_flagLines a_t_nexts a_t_befores a_t_walk a_t_places a_t_ringStarts a_t_ringSizes t_pointCount t_flagCount t_ringCount i1 v1 hv1) (cwV 1 hts gX5_ringOf_X5_hasFlag rfl rfl rfl (by decide +kernel) ⟨Nat.le_of_ble_eq_true rfl, Nat.le_of_ble_eq_true rfl⟩) hN hK hP hD hS hA [0] [some 0, none] rfl rfl rfl rfl rfl rfl 0 rfl rfl rfl hl.1 rfl (Nat.le_of_ble_eq_true rfl) dX5_ringOf_2 ⟨Nat.zero_le _, Nat.zero_le _⟩ (fun H locs hP hD hS => ?_)
  refine lv_if_eq (tgt := 17) hx hb dX5_ringOf_5 (by decide) (fun hc => ?_) (fun hc => ?_)
  · have hf := o_t hf hc
    refine lv_iconst (v := (-1)) hx hb dX5_ringOf_17 (by decide) ?_
    obtain rfl := Option.some.inj hf
    exact hret rfl rfl dX5_ringOf_18 hP hD hS
  · have hf := o_f hf hc
    refine lv_aload_n hx hb dX5_ringOf_8 rfl (lv_at hl 0 rfl) ?_
    refine va_get (D := D) (ci := 5) (C := RX5) (T := TX5) (N := 16) hx hb hts iX5 hown hK hP 0 rfl rfl 12 (by decide) l39 (fun _ h9 => h9) rfl dX5_ringOf_9 ?_
    refine lv_iload_n hx hb dX5_ringOf_12 rfl (lv_at hl 1 rfl) ?_
    obtain ⟨v2, hv2, hf⟩ := o_b1 hf
    refine x_ald hx hb hK hP 1 rfl hv2 dX5_ringOf_13 ?_
    refine lv_goto (tgt := 18) hx hb dX5_ringOf_14 (by decide) ?_
    obtain rfl := Option.some.inj hf
    exact hret rfl rfl dX5_ringOf_18 hP hD hS
def fX5_countRings (t_ringCount : Int32) : Option (Int32) :=
  some t_ringCount
def rmX5_countRings : Room := { frames := 0, cells := 0, slots := 0, locals := 0 }
set_option maxHeartbeats 4000000 in
set_option maxRecDepth 100000 in
theorem tX5_countRings (l : Launch) (D : va_G) (cI : ClassId) (a_t : Nat) (a_N : Nat) (a_t_meeting : Nat) (a_t_level : Nat) (a_t_pointKeys : Nat) (a_t_firstFlags : Nat) (a_t_flagPoints : Nat) (a_t_flagLines : Nat) (a_t_nexts : Nat) (a_t_befores : Nat) (a_t_walk : Nat) (a_t_places : Nat) (a_t_ringStarts : Nat) (a_t_ringSizes : Nat) (t_pointCount : Int32) (t_flagCount : Int32) (t_ringCount : Int32) (r : Int32) (hf : fX5_countRings t_ringCount = some r) : x_CI l D cI yX5_countRings wsX5_countRings rmX5_countRings [.ref a_t] [x_o5 a_t a_N a_t_meeting a_t_level a_t_pointKeys a_t_firstFlags a_t_flagPoints a_t_flagLines a_t_nexts a_t_befores a_t_walk a_t_places a_t_ringStarts a_t_ringSizes t_pointCount t_flagCount t_ringCount] [x_o5 a_t a_N a_t_meeting a_t_level a_t_pointKeys a_t_firstFlags a_t_flagPoints a_t_flagLines a_t_nexts a_t_befores a_t_walk a_t_places a_t_ringStarts a_t_ringSizes t_pointCount t_flagCount t_ringCount] r := by
  refine x_CI_of (cc := cX5_countRings) (maxL := 1) (ty := .int) (own := RX5) (lv0 := [(0, .ref a_t)]) (by decide) rfl rfl (Nat.le_of_ble_eq_true rfl) rfl ?_
  intro p e s m args below meth c A Q ls hx hb hml hown hts hN hK hP hD hS hA hl hret
  have iX5 : ∀ w ∈ u_ws RX5 TX5 16, w ∈ wsX5_countRings := by decide +kernel
  have l69 := hts (.fieldLink RX5 69 "ChordRings$Rings" "ringCount" "I") (by decide +kernel)
  unfold fX5_countRings at hf
  refine lv_aload_n hx hb dX5_countRings_0 rfl (lv_at hl 0 rfl) ?_
  refine va_get (D := D) (ci := 5) (C := RX5) (T := TX5) (N := 16) hx hb hts iX5 hown hK hP 0 rfl rfl 15 (by decide) l69 (fun _ h9 => h9) rfl dX5_countRings_1 ?_
  obtain rfl := Option.some.inj hf
  exact hret rfl rfl dX5_countRings_4 hP hD hS
noncomputable def fX6_part (t_parts_r : (Nat → Int32)) (i1 : Int32) : Option (Int32) :=
  if i1 < 0 then (some (-2)) else (if 31 < i1 then (some (-2)) else (p_b1 (p_ld t_parts_r 32 i1) (fun v1 =>
some v1)))
def rmX6_part : Room := { frames := 0, cells := 0, slots := 0, locals := 0 }
set_option maxHeartbeats 4000000 in
set_option maxRecDepth 100000 in
theorem tX6_part (l : Launch) (D : va_G) (cI : ClassId) (a_t : Nat) (a_N : Nat) (a_t_parts : Nat) (a_t_square : Nat) (t_parts_r : (Nat → Int32)) (i1 : Int32) (r : Int32) (hf : fX6_part t_parts_r i1 = some r) : x_CI l D cI yX6_part wsX6_part rmX6_part [.ref a_t, .int i1] [x_o6 a_t a_N a_t_parts a_t_square, x_ar cI a_t_parts 32 t_parts_r] [x_o6 a_t a_N a_t_parts a_t_square, x_ar cI a_t_parts 32 t_parts_r] r := by
  refine x_CI_of (cc := cX6_part) (maxL := 2) (ty := .int) (own := RX6) (lv0 := [(0, .ref a_t), (1, .int i1)]) (by decide) rfl rfl (Nat.le_of_ble_eq_true rfl) rfl ?_
  intro p e s m args below meth c A Q ls hx hb hml hown hts hN hK hP hD hS hA hl hret
  have iX6 : ∀ w ∈ u_ws RX6 TX6 3, w ∈ wsX6_part := by decide +kernel
  have l11 := hts (.fieldLink RX6 11 "ChordRings$Series" "parts" "[I") (by decide +kernel)
  unfold fX6_part at hf
  refine lv_iload_n hx hb dX6_part_0 rfl (lv_at hl 1 rfl) ?_
  refine lv_if_lt (tgt := 19) hx hb dX6_part_1 (by decide) (fun hc => ?_) (fun hc => ?_)
  · have hf := o_t hf hc
    refine lv_bipush (v := (-2)) hx hb dX6_part_19 (by decide) ?_
    obtain rfl := Option.some.inj hf
    exact hret rfl rfl dX6_part_21 hP hD hS
  · have hf := o_f hf hc
    refine lv_iload_n hx hb dX6_part_4 rfl (lv_at hl 1 rfl) ?_
    refine lv_bipush (v := 31) hx hb dX6_part_5 (by decide) ?_
    refine lv_icmp_gt (tgt := 19) hx hb dX6_part_7 (by decide) (fun hc => ?_) (fun hc => ?_)
    · have hf := o_t hf hc
      refine lv_bipush (v := (-2)) hx hb dX6_part_19 (by decide) ?_
      obtain rfl := Option.some.inj hf
      exact hret rfl rfl dX6_part_21 hP hD hS
    · have hf := o_f hf hc
      refine lv_aload_n hx hb dX6_part_10 rfl (lv_at hl 0 rfl) ?_
      refine va_get (D := D) (ci := 6) (C := RX6) (T := TX6) (N := 3) hx hb hts iX6 hown hK hP 0 rfl rfl 1 (by decide) l11 (fun _ h9 => h9) rfl dX6_part_11 ?_
      refine lv_iload_n hx hb dX6_part_14 rfl (lv_at hl 1 rfl) ?_
      obtain ⟨v1, hv1, hf⟩ := o_b1 hf
      refine x_ald hx hb hK hP 1 rfl hv1 dX6_part_15 ?_
      refine lv_goto (tgt := 21) hx hb dX6_part_16 (by decide) ?_
      obtain rfl := Option.some.inj hf
      exact hret rfl rfl dX6_part_21 hP hD hS
noncomputable def fX0_partByFirst (t_c0 : Int32) (t_c1 : Int32) (t_c2 : Int32) (t_c3 : Int32) (N_p : Int32) (N_inverses_r : (Nat → Int32)) (i1 : Int32) : Option (Int32) :=
  p_b1 (fX0_part t_c0 t_c1 t_c2 t_c3 i1) (fun v1 =>
p_b1 (fX4_inverseOf N_p N_inverses_r t_c0) (fun v2 =>
p_b1 (fX4_rest N_p (v1 * v2)) (fun v3 =>
some v3)))
def rmX0_partByFirst : Room := { frames := 1, cells := 0, slots := 0, locals := 22 }
set_option maxHeartbeats 4000000 in
set_option maxRecDepth 100000 in
theorem tX0_partByFirst (l : Launch) (D : va_G) (cI : ClassId) (a_t : Nat) (a_N : Nat) (a_N_inverses : Nat) (a_N_roots : Nat) (t_c0 : Int32) (t_c1 : Int32) (t_c2 : Int32) (t_c3 : Int32) (N_p : Int32) (N_inverses_r : (Nat → Int32)) (i1 : Int32) (r : Int32) (hf : fX0_partByFirst t_c0 t_c1 t_c2 t_c3 N_p N_inverses_r i1 = some r) : x_CI l D cI yX0_partByFirst wsX0_partByFirst rmX0_partByFirst [.ref a_t, .int i1] [x_o0 a_t a_N t_c0 t_c1 t_c2 t_c3, x_o4 a_N a_N_inverses a_N_roots N_p, x_ar cI a_N_inverses 200 N_inverses_r] [x_o0 a_t a_N t_c0 t_c1 t_c2 t_c3, x_o4 a_N a_N_inverses a_N_roots N_p, x_ar cI a_N_inverses 200 N_inverses_r] r := by
  refine x_CI_of (cc := cX0_partByFirst) (maxL := 2) (ty := .int) (own := RX0) (lv0 := [(0, .ref a_t), (1, .int i1)]) (by decide) rfl rfl (Nat.le_of_ble_eq_true rfl) rfl ?_
  intro p e s m args below meth c A Q ls hx hb hml hown hts hN hK hP hD hS hA hl hret
  have iX0 : ∀ w ∈ u_ws RX0 TX0 5, w ∈ wsX0_partByFirst := by decide +kernel
  have l7 := hts (.fieldLink RX0 7 "ChordRings$Cubic" "numbers" "LChordRings$Numbers;") (by decide +kernel)
  have l19 := hts (.fieldLink RX0 19 "ChordRings$Cubic" "c0" "I") (by decide +kernel)
  unfold fX0_partByFirst at hf
  refine lv_aload_n hx hb dX0_partByFirst_0 rfl (lv_at hl 0 rfl) ?_
  refine va_get (D := D) (ci := 0) (C := RX0) (T := TX0) (N := 5) hx hb hts iX0 hown hK hP 0 rfl rfl 0 (by decide) l7 (fun _ h9 => h9) rfl dX0_partByFirst_1 ?_
  refine lv_aload_n hx hb dX0_partByFirst_4 rfl (lv_at hl 0 rfl) ?_
  refine lv_iload_n hx hb dX0_partByFirst_5 rfl (lv_at hl 1 rfl) ?_
  obtain ⟨v1, hv1, hf⟩ := o_b1 hf
  refine x_vi (rest := [.ref a_N]) (W1 := [x_o0 a_t a_N t_c0 t_c1 t_c2 t_c3, x_o4 a_N a_N_inverses a_N_roots N_p, x_ar cI a_N_inverses 200 N_inverses_r]) ⟨hx, hb, hml, hown, hts⟩ (tX0_part l D cI a_t a_N t_c0 t_c1 t_c2 t_c3 i1 v1 hv1) (cwV 1 hts gX0_partByFirst_X0_part rfl rfl rfl (by decide +kernel) ⟨Nat.le_of_ble_eq_true rfl, Nat.le_of_ble_eq_true rfl⟩) hN hK hP hD hS hA [0] [some 0, none, none] rfl rfl rfl rfl rfl rfl 0 rfl rfl rfl hl.1 rfl (Nat.le_of_ble_eq_true rfl) dX0_partByFirst_6 ⟨Nat.zero_le _, Nat.zero_le _⟩ (fun H locs hP hD hS => ?_)
  refine lv_aload_n hx hb dX0_partByFirst_9 rfl (lv_at hl 0 rfl) ?_
  refine va_get (D := D) (ci := 0) (C := RX0) (T := TX0) (N := 5) hx hb hts iX0 hown hK hP 0 rfl rfl 0 (by decide) l7 (fun _ h9 => h9) rfl dX0_partByFirst_10 ?_
  refine lv_aload_n hx hb dX0_partByFirst_13 rfl (lv_at hl 0 rfl) ?_
  refine va_get (D := D) (ci := 0) (C := RX0) (T := TX0) (N := 5) hx hb hts iX0 hown hK hP 0 rfl rfl 1 (by decide) l19 (fun _ h9 => h9) rfl dX0_partByFirst_14 ?_
  obtain ⟨v2, hv2, hf⟩ := o_b1 hf
  refine x_vi (rest := [.int v1, .ref a_N]) (W1 := [x_o0 a_t a_N t_c0 t_c1 t_c2 t_c3, x_o4 a_N a_N_inverses a_N_roots N_p, x_ar cI a_N_inverses 200 N_inverses_r]) ⟨hx, hb, hml, hown, hts⟩ (tX4_inverseOf l D cI a_N a_N_inverses a_N_roots N_p N_inverses_r t_c0 v2 hv2) (cwV 1 hts gX0_partByFirst_X4_inverseOf rfl rfl rfl (by decide +kernel) ⟨Nat.le_of_ble_eq_true rfl, Nat.le_of_ble_eq_true rfl⟩) hN hK hP hD hS hA [1, 2] [none, some 0, some 1] rfl rfl rfl rfl rfl rfl 0 rfl rfl rfl hl.1 rfl (Nat.le_of_ble_eq_true rfl) dX0_partByFirst_17 ⟨Nat.zero_le _, Nat.zero_le _⟩ (fun H locs hP hD hS => ?_)
  refine lv_imul hx hb dX0_partByFirst_20 ?_
  obtain ⟨v3, hv3, hf⟩ := o_b1 hf
  refine x_vi (rest := []) (W1 := [x_o0 a_t a_N t_c0 t_c1 t_c2 t_c3, x_o4 a_N a_N_inverses a_N_roots N_p, x_ar cI a_N_inverses 200 N_inverses_r]) ⟨hx, hb, hml, hown, hts⟩ (tX4_rest l D cI a_N a_N_inverses a_N_roots N_p (v1 * v2) v3 hv3) (cwV 1 hts gX0_partByFirst_X4_rest rfl rfl rfl (by decide +kernel) ⟨Nat.le_of_ble_eq_true rfl, Nat.le_of_ble_eq_true rfl⟩) hN hK hP hD hS hA [1] [none, some 0, none] rfl rfl rfl rfl rfl rfl 0 rfl rfl rfl hl.1 rfl (Nat.le_of_ble_eq_true rfl) dX0_partByFirst_21 ⟨Nat.zero_le _, Nat.zero_le _⟩ (fun H locs hP hD hS => ?_)
  obtain rfl := Option.some.inj hf
  exact hret rfl rfl dX0_partByFirst_24 hP hD hS
noncomputable def kX6_take_98 (w5 : (Nat → Int32)) : Option ((Nat → Int32)) :=
  some w5
noncomputable def kX6_take_68 (N_p : Int32) (v1 : Int32) (x3 : Int32) (z4 : (Nat → Int32)) (rec18 : Int32 → (Nat → Int32) → Option ((Nat → Int32))) (y9 : Int32) : Option ((Nat → Int32)) :=
  p_b1 (fX4_rest N_p y9) (fun v10 =>
p_b1 (fX4_rest N_p (v10 * v1)) (fun v11 =>
p_b1 (p_st z4 32 x3 v11) (fun u12 =>
p_nm (x3 + 1) (fun v13 =>
rec18 v13 u12))))
noncomputable def FgX6_take_34 (x3 : Int32) (z4 : (Nat → Int32)) (rec34 : Int32 → Int32 → Option ((Nat → Int32))) (kk34 : Int32 → Option ((Nat → Int32))) (x7 : Int32) (x8 : Int32) : Option ((Nat → Int32)) :=
  if x3 ≤ x8 then (kk34 x7) else (p_b1 (p_ld z4 32 x8) (fun v14 =>
p_b1 (p_ld z4 32 (x3 - x8)) (fun v15 =>
p_nm (x7 - (v14 * v15)) (fun v16 =>
p_nm (x8 + 1) (fun v17 =>
rec34 v16 v17)))))
noncomputable def gX6_take_34 (x3 : Int32) (z4 : (Nat → Int32)) (kk34 : Int32 → Option ((Nat → Int32))) (n : Nat) : Int32 → Int32 → Option ((Nat → Int32)) := Nat.rec (motive := fun _ => Int32 → Int32 → Option ((Nat → Int32))) (fun _ _ => none) (fun _ rec34 => FgX6_take_34 x3 z4 rec34 kk34) n
noncomputable def FgX6_take_18 (b1_c0 : Int32) (b1_c1 : Int32) (b1_c2 : Int32) (b1_c3 : Int32) (N_p : Int32) (N_inverses_r : (Nat → Int32)) (v1 : Int32) (rec18 : Int32 → (Nat → Int32) → Option ((Nat → Int32))) (kk18 : (Nat → Int32) → Option ((Nat → Int32))) (x3 : Int32) (z4 : (Nat → Int32)) : Option ((Nat → Int32)) :=
  if 31 < x3 then (kk18 z4) else (p_b1 (fX0_partByFirst b1_c0 b1_c1 b1_c2 b1_c3 N_p N_inverses_r x3) (fun v6 =>
gX6_take_34 x3 z4 (kX6_take_68 N_p v1 x3 z4 rec18) p_FU v6 1))
noncomputable def gX6_take_18 (b1_c0 : Int32) (b1_c1 : Int32) (b1_c2 : Int32) (b1_c3 : Int32) (N_p : Int32) (N_inverses_r : (Nat → Int32)) (v1 : Int32) (kk18 : (Nat → Int32) → Option ((Nat → Int32))) (n : Nat) : Int32 → (Nat → Int32) → Option ((Nat → Int32)) := Nat.rec (motive := fun _ => Int32 → (Nat → Int32) → Option ((Nat → Int32))) (fun _ _ => none) (fun _ rec18 => FgX6_take_18 b1_c0 b1_c1 b1_c2 b1_c3 N_p N_inverses_r v1 rec18 kk18) n
noncomputable def fX6_take (b1_c0 : Int32) (b1_c1 : Int32) (b1_c2 : Int32) (b1_c3 : Int32) (N_p : Int32) (N_inverses_r : (Nat → Int32)) (t_parts_r : (Nat → Int32)) : Option ((Nat → Int32)) :=
  p_b1 (fX4_inverseOf N_p N_inverses_r 2) (fun v1 =>
p_b1 (p_st t_parts_r 32 0 1) (fun u2 =>
gX6_take_18 b1_c0 b1_c1 b1_c2 b1_c3 N_p N_inverses_r v1 (kX6_take_98) p_FU 1 u2))
def rmX6_take : Room := { frames := 2, cells := 0, slots := 0, locals := 43 }
set_option maxHeartbeats 4000000 in
set_option maxRecDepth 100000 in
theorem tX6_take (l : Launch) (D : va_G) (cI : ClassId) (a_t : Nat) (a_b1 : Nat) (a_N : Nat) (a_t_parts : Nat) (a_t_square : Nat) (a_N_inverses : Nat) (a_N_roots : Nat) (b1_c0 : Int32) (b1_c1 : Int32) (b1_c2 : Int32) (b1_c3 : Int32) (N_p : Int32) (N_inverses_r : (Nat → Int32)) (t_parts_r : (Nat → Int32)) (s_t_parts_r : (Nat → Int32)) (hf : fX6_take b1_c0 b1_c1 b1_c2 b1_c3 N_p N_inverses_r t_parts_r = some s_t_parts_r) : x_CV l D cI yX6_take wsX6_take rmX6_take [.ref a_t, .ref a_b1] [x_o6 a_t a_N a_t_parts a_t_square, x_o0 a_b1 a_N b1_c0 b1_c1 b1_c2 b1_c3, x_o4 a_N a_N_inverses a_N_roots N_p, x_ar cI a_N_inverses 200 N_inverses_r, x_ar cI a_t_parts 32 t_parts_r] [x_o6 a_t a_N a_t_parts a_t_square, x_o0 a_b1 a_N b1_c0 b1_c1 b1_c2 b1_c3, x_o4 a_N a_N_inverses a_N_roots N_p, x_ar cI a_N_inverses 200 N_inverses_r, x_ar cI a_t_parts 32 s_t_parts_r] := by
  refine x_CV_of (cc := cX6_take) (maxL := 6) (own := RX6) (lv0 := [(0, .ref a_t), (1, .ref a_b1)]) (by decide) rfl rfl (Nat.le_of_ble_eq_true rfl) rfl ?_
  intro p e s m args below meth c A Q ls hx hb hml hown hts hN hK hP hD hS hA hl hret
  have iX6 : ∀ w ∈ u_ws RX6 TX6 3, w ∈ wsX6_take := by decide +kernel
  have l18 := hts (.fieldLink RX6 18 "ChordRings$Series" "numbers" "LChordRings$Numbers;") (by decide +kernel)
  have l11 := hts (.fieldLink RX6 11 "ChordRings$Series" "parts" "[I") (by decide +kernel)
  unfold fX6_take at hf
  refine lv_aload_n hx hb dX6_take_0 rfl (lv_at hl 0 rfl) ?_
  refine va_get (D := D) (ci := 6) (C := RX6) (T := TX6) (N := 3) hx hb hts iX6 hown hK hP 0 rfl rfl 0 (by decide) l18 (fun _ h9 => h9) rfl dX6_take_1 ?_
  refine lv_iconst (v := 2) hx hb dX6_take_4 (by decide) ?_
  obtain ⟨v1, hv1, hf⟩ := o_b1 hf
  refine x_vi (rest := []) (W1 := [x_o6 a_t a_N a_t_parts a_t_square, x_o0 a_b1 a_N b1_c0 b1_c1 b1_c2 b1_c3, x_o4 a_N a_N_inverses a_N_roots N_p, x_ar cI a_N_inverses 200 N_inverses_r, x_ar cI a_t_parts 32 t_parts_r]) ⟨hx, hb, hml, hown, hts⟩ (tX4_inverseOf l D cI a_N a_N_inverses a_N_roots N_p N_inverses_r 2 v1 hv1) (cwV 1 hts gX6_take_X4_inverseOf rfl rfl rfl (by decide +kernel) ⟨Nat.le_of_ble_eq_true rfl, Nat.le_of_ble_eq_true rfl⟩) hN hK hP hD hS hA [2, 3] [none, none, some 0, some 1, none] rfl rfl rfl rfl rfl rfl 0 rfl rfl rfl hl.1 rfl (Nat.le_of_ble_eq_true rfl) dX6_take_5 ⟨Nat.zero_le _, Nat.zero_le _⟩ (fun H locs hP hD hS => ?_)
  refine lv_istore_n (lv' := [(2, .int v1), (0, .ref a_t), (1, .ref a_b1)]) hx hb dX6_take_8 rfl hl (by decide) rfl (fun ls hl => ?_)
  refine lv_aload_n hx hb dX6_take_9 rfl (lv_at hl 1 rfl) ?_
  refine va_get (D := D) (ci := 6) (C := RX6) (T := TX6) (N := 3) hx hb hts iX6 hown hK hP 0 rfl rfl 1 (by decide) l11 (fun _ h9 => h9) rfl dX6_take_10 ?_
  refine lv_iconst (v := 0) hx hb dX6_take_13 (by decide) ?_
  refine lv_iconst (v := 1) hx hb dX6_take_14 (by decide) ?_
  obtain ⟨u2, hu2, hf⟩ := o_b1 hf
  refine x_ast (W1 := [x_o6 a_t a_N a_t_parts a_t_square, x_o0 a_b1 a_N b1_c0 b1_c1 b1_c2 b1_c3, x_o4 a_N a_N_inverses a_N_roots N_p, x_ar cI a_N_inverses 200 N_inverses_r, x_ar cI a_t_parts 32 u2]) hx hb hK hP hD hS 4 rfl hu2 rfl dX6_take_15 (fun H locs hP hD hS => ?_)
  refine lv_iconst (v := 1) hx hb dX6_take_16 (by decide) ?_
  refine lv_istore_n (lv' := [(3, .int 1), (2, .int v1), (0, .ref a_t), (1, .ref a_b1)]) hx hb dX6_take_17 rfl hl (by decide) rfl (fun ls hl => ?_)
  have L18 : ∀ (n : Nat) (x3 : Int32) (z4 : (Nat → Int32)) (ls : Array Slot) (H : Heap) (locs : List Loc), gX6_take_18 b1_c0 b1_c1 b1_c2 b1_c3 N_p N_inverses_r v1 (kX6_take_98) n x3 z4 = some s_t_parts_r → lv_has ls 6 [(0, .ref a_t), (1, .ref a_b1), (2, .int v1), (3, .int x3)] → va_P D vwCl [x_o6 a_t a_N a_t_parts a_t_square, x_o0 a_b1 a_N b1_c0 b1_c1 b1_c2 b1_c3, x_o4 a_N a_N_inverses a_N_roots N_p, x_ar cI a_N_inverses 200 N_inverses_r, x_ar cI a_t_parts 32 z4] H → va_D A [x_o6 a_t a_N a_t_parts a_t_square, x_o0 a_b1 a_N b1_c0 b1_c1 b1_c2 b1_c3, x_o4 a_N a_N_inverses a_N_roots N_p, x_ar cI a_N_inverses 200 N_inverses_r, x_ar cI a_t_parts 32 z4] → va_S A s.heap H locs → W p l e rmX6_take s m args below meth c H locs 0 0 Q (F0 m 18 ls []) := by
    intro n18
    induction n18 with
    | zero =>
      intro x3 z4 ls H locs hf
      exact nomatch (show (none : Option ((Nat → Int32))) = some s_t_parts_r from hf)
    | succ n18 ih18 =>
      intro x3 z4 ls H locs hf hl hP hD hS
      have hf : FgX6_take_18 b1_c0 b1_c1 b1_c2 b1_c3 N_p N_inverses_r v1 (gX6_take_18 b1_c0 b1_c1 b1_c2 b1_c3 N_p N_inverses_r v1 (kX6_take_98) n18) (kX6_take_98) x3 z4 = some s_t_parts_r := hf
      unfold FgX6_take_18 at hf
      refine lv_iload_n hx hb dX6_take_18 rfl (lv_at hl 3 rfl) ?_
      refine lv_bipush (v := 31) hx hb dX6_take_19 (by decide) ?_
      have J98 : ∀ (w5 : (Nat → Int32)) (ls : Array Slot) (H : Heap) (locs : List Loc), kX6_take_98 w5 = some s_t_parts_r → lv_has ls 6 [] → va_P D vwCl [x_o6 a_t a_N a_t_parts a_t_square, x_o0 a_b1 a_N b1_c0 b1_c1 b1_c2 b1_c3, x_o4 a_N a_N_inverses a_N_roots N_p, x_ar cI a_N_inverses 200 N_inverses_r, x_ar cI a_t_parts 32 w5] H → va_D A [x_o6 a_t a_N a_t_parts a_t_square, x_o0 a_b1 a_N b1_c0 b1_c1 b1_c2 b1_c3, x_o4 a_N a_N_inverses a_N_roots N_p, x_ar cI a_N_inverses 200 N_inverses_r, x_ar cI a_t_parts 32 w5] → va_S A s.heap H locs → W p l e rmX6_take s m args below meth c H locs 0 0 Q (F0 m 98 ls []) := by
        intro w5 ls H locs hf hl hP hD hS
        unfold kX6_take_98 at hf
        obtain rfl := Option.some.inj hf
        exact hret dX6_take_98 hP hD hS
      refine lv_icmp_gt (tgt := 98) hx hb dX6_take_21 (by decide) (fun hc => ?_) (fun hc => ?_)
      · have hf := o_t hf hc
        exact J98 z4 _ _ _ hf (lv_sub hl [] rfl) hP hD hS
      · have hf := o_f hf hc
        refine lv_aload_n hx hb dX6_take_24 rfl (lv_at hl 1 rfl) ?_
        refine lv_iload_n hx hb dX6_take_25 rfl (lv_at hl 3 rfl) ?_
        obtain ⟨v6, hv6, hf⟩ := o_b1 hf
        refine x_vi (rest := []) (W1 := [x_o6 a_t a_N a_t_parts a_t_square, x_o0 a_b1 a_N b1_c0 b1_c1 b1_c2 b1_c3, x_o4 a_N a_N_inverses a_N_roots N_p, x_ar cI a_N_inverses 200 N_inverses_r, x_ar cI a_t_parts 32 z4]) ⟨hx, hb, hml, hown, hts⟩ (tX0_partByFirst l D cI a_b1 a_N a_N_inverses a_N_roots b1_c0 b1_c1 b1_c2 b1_c3 N_p N_inverses_r x3 v6 hv6) (cwV 1 hts gX6_take_X0_partByFirst rfl rfl rfl (by decide +kernel) ⟨Nat.le_of_ble_eq_true rfl, Nat.le_of_ble_eq_true rfl⟩) hN hK hP hD hS hA [1, 2, 3] [none, some 0, some 1, some 2, none] rfl rfl rfl rfl rfl rfl 0 rfl rfl rfl hl.1 rfl (Nat.le_of_ble_eq_true rfl) dX6_take_26 ⟨Nat.zero_le _, Nat.zero_le _⟩ (fun H locs hP hD hS => ?_)
        refine lv_istore (lv' := [(4, .int v6), (0, .ref a_t), (1, .ref a_b1), (2, .int v1), (3, .int x3)]) hx hb dX6_take_29 hl (by decide) rfl (fun ls hl => ?_)
        refine lv_iconst (v := 1) hx hb dX6_take_31 (by decide) ?_
        refine lv_istore (lv' := [(5, .int 1), (4, .int v6), (0, .ref a_t), (1, .ref a_b1), (2, .int v1), (3, .int x3)]) hx hb dX6_take_32 hl (by decide) rfl (fun ls hl => ?_)
        have L34 : ∀ (n : Nat) (x7 : Int32) (x8 : Int32) (ls : Array Slot) (H : Heap) (locs : List Loc), gX6_take_34 x3 z4 (kX6_take_68 N_p v1 x3 z4 (gX6_take_18 b1_c0 b1_c1 b1_c2 b1_c3 N_p N_inverses_r v1 (kX6_take_98) n18)) n x7 x8 = some s_t_parts_r → lv_has ls 6 [(0, .ref a_t), (1, .ref a_b1), (2, .int v1), (3, .int x3), (4, .int x7), (5, .int x8)] → va_P D vwCl [x_o6 a_t a_N a_t_parts a_t_square, x_o0 a_b1 a_N b1_c0 b1_c1 b1_c2 b1_c3, x_o4 a_N a_N_inverses a_N_roots N_p, x_ar cI a_N_inverses 200 N_inverses_r, x_ar cI a_t_parts 32 z4] H → va_D A [x_o6 a_t a_N a_t_parts a_t_square, x_o0 a_b1 a_N b1_c0 b1_c1 b1_c2 b1_c3, x_o4 a_N a_N_inverses a_N_roots N_p, x_ar cI a_N_inverses 200 N_inverses_r, x_ar cI a_t_parts 32 z4] → va_S A s.heap H locs → W p l e rmX6_take s m args below meth c H locs 0 0 Q (F0 m 34 ls []) := by
          intro n34
          induction n34 with
          | zero =>
            intro x7 x8 ls H locs hf
            exact nomatch (show (none : Option ((Nat → Int32))) = some s_t_parts_r from hf)
          | succ n34 ih34 =>
            intro x7 x8 ls H locs hf hl hP hD hS
            have hf : FgX6_take_34 x3 z4 (gX6_take_34 x3 z4 (kX6_take_68 N_p v1 x3 z4 (gX6_take_18 b1_c0 b1_c1 b1_c2 b1_c3 N_p N_inverses_r v1 (kX6_take_98) n18)) n34) (kX6_take_68 N_p v1 x3 z4 (gX6_take_18 b1_c0 b1_c1 b1_c2 b1_c3 N_p N_inverses_r v1 (kX6_take_98) n18)) x7 x8 = some s_t_parts_r := hf
            unfold FgX6_take_34 at hf
            refine lv_iload hx hb dX6_take_34 (lv_at hl 5 rfl) ?_
            refine lv_iload_n hx hb dX6_take_36 rfl (lv_at hl 3 rfl) ?_
            have J68 : ∀ (y9 : Int32) (ls : Array Slot) (H : Heap) (locs : List Loc), kX6_take_68 N_p v1 x3 z4 (gX6_take_18 b1_c0 b1_c1 b1_c2 b1_c3 N_p N_inverses_r v1 (kX6_take_98) n18) y9 = some s_t_parts_r → lv_has ls 6 [(0, .ref a_t), (1, .ref a_b1), (2, .int v1), (3, .int x3), (4, .int y9)] → va_P D vwCl [x_o6 a_t a_N a_t_parts a_t_square, x_o0 a_b1 a_N b1_c0 b1_c1 b1_c2 b1_c3, x_o4 a_N a_N_inverses a_N_roots N_p, x_ar cI a_N_inverses 200 N_inverses_r, x_ar cI a_t_parts 32 z4] H → va_D A [x_o6 a_t a_N a_t_parts a_t_square, x_o0 a_b1 a_N b1_c0 b1_c1 b1_c2 b1_c3, x_o4 a_N a_N_inverses a_N_roots N_p, x_ar cI a_N_inverses 200 N_inverses_r, x_ar cI a_t_parts 32 z4] → va_S A s.heap H locs → W p l e rmX6_take s m args below meth c H locs 0 0 Q (F0 m 68 ls []) := by
              intro y9 ls H locs hf hl hP hD hS
              unfold kX6_take_68 at hf
              refine lv_aload_n hx hb dX6_take_68 rfl (lv_at hl 0 rfl) ?_
              refine va_get (D := D) (ci := 6) (C := RX6) (T := TX6) (N := 3) hx hb hts iX6 hown hK hP 0 rfl rfl 1 (by decide) l11 (fun _ h9 => h9) rfl dX6_take_69 ?_
              refine lv_iload_n hx hb dX6_take_72 rfl (lv_at hl 3 rfl) ?_
              refine lv_aload_n hx hb dX6_take_73 rfl (lv_at hl 0 rfl) ?_
              refine va_get (D := D) (ci := 6) (C := RX6) (T := TX6) (N := 3) hx hb hts iX6 hown hK hP 0 rfl rfl 0 (by decide) l18 (fun _ h9 => h9) rfl dX6_take_74 ?_
              refine lv_aload_n hx hb dX6_take_77 rfl (lv_at hl 0 rfl) ?_
              refine va_get (D := D) (ci := 6) (C := RX6) (T := TX6) (N := 3) hx hb hts iX6 hown hK hP 0 rfl rfl 0 (by decide) l18 (fun _ h9 => h9) rfl dX6_take_78 ?_
              refine lv_iload hx hb dX6_take_81 (lv_at hl 4 rfl) ?_
              obtain ⟨v10, hv10, hf⟩ := o_b1 hf
              refine x_vi (rest := [.ref a_N, .int x3, .ref a_t_parts]) (W1 := [x_o6 a_t a_N a_t_parts a_t_square, x_o0 a_b1 a_N b1_c0 b1_c1 b1_c2 b1_c3, x_o4 a_N a_N_inverses a_N_roots N_p, x_ar cI a_N_inverses 200 N_inverses_r, x_ar cI a_t_parts 32 z4]) ⟨hx, hb, hml, hown, hts⟩ (tX4_rest l D cI a_N a_N_inverses a_N_roots N_p y9 v10 hv10) (cwV 1 hts gX6_take_X4_rest rfl rfl rfl (by decide +kernel) ⟨Nat.le_of_ble_eq_true rfl, Nat.le_of_ble_eq_true rfl⟩) hN hK hP hD hS hA [2] [none, none, some 0, none, none] rfl rfl rfl rfl rfl rfl 0 rfl rfl rfl hl.1 rfl (Nat.le_of_ble_eq_true rfl) dX6_take_83 ⟨Nat.zero_le _, Nat.zero_le _⟩ (fun H locs hP hD hS => ?_)
              refine lv_iload_n hx hb dX6_take_86 rfl (lv_at hl 2 rfl) ?_
              refine lv_imul hx hb dX6_take_87 ?_
              obtain ⟨v11, hv11, hf⟩ := o_b1 hf
              refine x_vi (rest := [.int x3, .ref a_t_parts]) (W1 := [x_o6 a_t a_N a_t_parts a_t_square, x_o0 a_b1 a_N b1_c0 b1_c1 b1_c2 b1_c3, x_o4 a_N a_N_inverses a_N_roots N_p, x_ar cI a_N_inverses 200 N_inverses_r, x_ar cI a_t_parts 32 z4]) ⟨hx, hb, hml, hown, hts⟩ (tX4_rest l D cI a_N a_N_inverses a_N_roots N_p (v10 * v1) v11 hv11) (cwV 1 hts gX6_take_X4_rest rfl rfl rfl (by decide +kernel) ⟨Nat.le_of_ble_eq_true rfl, Nat.le_of_ble_eq_true rfl⟩) hN hK hP hD hS hA [2] [none, none, some 0, none, none] rfl rfl rfl rfl rfl rfl 0 rfl rfl rfl hl.1 rfl (Nat.le_of_ble_eq_true rfl) dX6_take_88 ⟨Nat.zero_le _, Nat.zero_le _⟩ (fun H locs hP hD hS => ?_)
              obtain ⟨u12, hu12, hf⟩ := o_b1 hf
              refine x_ast (W1 := [x_o6 a_t a_N a_t_parts a_t_square, x_o0 a_b1 a_N b1_c0 b1_c1 b1_c2 b1_c3, x_o4 a_N a_N_inverses a_N_roots N_p, x_ar cI a_N_inverses 200 N_inverses_r, x_ar cI a_t_parts 32 u12]) hx hb hK hP hD hS 4 rfl hu12 rfl dX6_take_91 (fun H locs hP hD hS => ?_)
              obtain ⟨v13, ev13, hf⟩ := o_nm hf
              refine lv_iinc (v := v13) (lv' := [(3, .int v13), (0, .ref a_t), (1, .ref a_b1), (2, .int v1), (4, .int y9)]) hx hb dX6_take_92 hl (k := 3) rfl (by rw [ev13]; rfl) (by decide) rfl (fun ls hl => ?_)
              refine lv_goto (tgt := 18) hx hb dX6_take_95 (by decide) ?_
              exact ih18 v13 u12 _ _ _ hf (lv_sub hl [1, 2, 3, 0] rfl) hP hD hS
            refine lv_icmp_ge (tgt := 68) hx hb dX6_take_37 (by decide) (fun hc => ?_) (fun hc => ?_)
            · have hf := o_t hf hc
              exact J68 x7 _ _ _ hf (lv_sub hl [0, 1, 2, 3, 4] rfl) hP hD hS
            · have hf := o_f hf hc
              refine lv_iload hx hb dX6_take_40 (lv_at hl 4 rfl) ?_
              refine lv_aload_n hx hb dX6_take_42 rfl (lv_at hl 0 rfl) ?_
              refine va_get (D := D) (ci := 6) (C := RX6) (T := TX6) (N := 3) hx hb hts iX6 hown hK hP 0 rfl rfl 1 (by decide) l11 (fun _ h9 => h9) rfl dX6_take_43 ?_
              refine lv_iload hx hb dX6_take_46 (lv_at hl 5 rfl) ?_
              obtain ⟨v14, hv14, hf⟩ := o_b1 hf
              refine x_ald hx hb hK hP 4 rfl hv14 dX6_take_48 ?_
              refine lv_aload_n hx hb dX6_take_49 rfl (lv_at hl 0 rfl) ?_
              refine va_get (D := D) (ci := 6) (C := RX6) (T := TX6) (N := 3) hx hb hts iX6 hown hK hP 0 rfl rfl 1 (by decide) l11 (fun _ h9 => h9) rfl dX6_take_50 ?_
              refine lv_iload_n hx hb dX6_take_53 rfl (lv_at hl 3 rfl) ?_
              refine lv_iload hx hb dX6_take_54 (lv_at hl 5 rfl) ?_
              refine lv_isub hx hb dX6_take_56 ?_
              obtain ⟨v15, hv15, hf⟩ := o_b1 hf
              refine x_ald hx hb hK hP 4 rfl hv15 dX6_take_57 ?_
              refine lv_imul hx hb dX6_take_58 ?_
              refine lv_isub hx hb dX6_take_59 ?_
              obtain ⟨v16, ev16, hf⟩ := o_nm hf
              refine x_top ev16 ?_
              refine lv_istore (lv' := [(4, .int v16), (0, .ref a_t), (1, .ref a_b1), (2, .int v1), (3, .int x3), (5, .int x8)]) hx hb dX6_take_60 hl (by decide) rfl (fun ls hl => ?_)
              obtain ⟨v17, ev17, hf⟩ := o_nm hf
              refine lv_iinc (v := v17) (lv' := [(5, .int v17), (4, .int v16), (0, .ref a_t), (1, .ref a_b1), (2, .int v1), (3, .int x3)]) hx hb dX6_take_62 hl (k := 5) rfl (by rw [ev17]; rfl) (by decide) rfl (fun ls hl => ?_)
              refine lv_goto (tgt := 34) hx hb dX6_take_65 (by decide) ?_
              exact ih34 v16 v17 _ _ _ hf (lv_sub hl [2, 3, 4, 5, 1, 0] rfl) hP hD hS
        exact L34 p_FU v6 1 _ _ _ hf (lv_sub hl [2, 3, 4, 5, 1, 0] rfl) hP hD hS
  exact L18 p_FU 1 u2 _ _ _ hf (lv_sub hl [2, 3, 1, 0] rfl) hP hD hS
noncomputable def kX6_findPivot_28 : Option (Int32) :=
  some (-6)
noncomputable def FgX6_findPivot_2 (t_square_r : (Nat → Int32)) (i1 : Int32) (i2 : Int32) (rec2 : Int32 → Option (Int32)) (kk2 : Option (Int32)) (x1 : Int32) : Option (Int32) :=
  if i2 ≤ x1 then (kk2) else (p_b1 (p_ld t_square_r 225 ((x1 * i2) + i1)) (fun v2 =>
if v2 = 0 then (p_nm (x1 + 1) (fun v3 =>
rec2 v3)) else (some x1)))
noncomputable def gX6_findPivot_2 (t_square_r : (Nat → Int32)) (i1 : Int32) (i2 : Int32) (kk2 : Option (Int32)) (n : Nat) : Int32 → Option (Int32) := Nat.rec (motive := fun _ => Int32 → Option (Int32)) (fun _ => none) (fun _ rec2 => FgX6_findPivot_2 t_square_r i1 i2 rec2 kk2) n
noncomputable def fX6_findPivot (t_square_r : (Nat → Int32)) (i1 : Int32) (i2 : Int32) : Option (Int32) :=
  gX6_findPivot_2 t_square_r i1 i2 (kX6_findPivot_28) p_FU i1
def rmX6_findPivot : Room := { frames := 0, cells := 0, slots := 0, locals := 0 }
set_option maxHeartbeats 4000000 in
set_option maxRecDepth 100000 in
theorem tX6_findPivot (l : Launch) (D : va_G) (cI : ClassId) (a_t : Nat) (a_N : Nat) (a_t_parts : Nat) (a_t_square : Nat) (t_square_r : (Nat → Int32)) (i1 : Int32) (i2 : Int32) (r : Int32) (hf : fX6_findPivot t_square_r i1 i2 = some r) : x_CI l D cI yX6_findPivot wsX6_findPivot rmX6_findPivot [.ref a_t, .int i1, .int i2] [x_o6 a_t a_N a_t_parts a_t_square, x_ar cI a_t_square 225 t_square_r] [x_o6 a_t a_N a_t_parts a_t_square, x_ar cI a_t_square 225 t_square_r] r := by
  refine x_CI_of (cc := cX6_findPivot) (maxL := 4) (ty := .int) (own := RX6) (lv0 := [(0, .ref a_t), (1, .int i1), (2, .int i2)]) (by decide) rfl rfl (Nat.le_of_ble_eq_true rfl) rfl ?_
  intro p e s m args below meth c A Q ls hx hb hml hown hts hN hK hP hD hS hA hl hret
  have iX6 : ∀ w ∈ u_ws RX6 TX6 3, w ∈ wsX6_findPivot := by decide +kernel
  have l15 := hts (.fieldLink RX6 15 "ChordRings$Series" "square" "[I") (by decide +kernel)
  unfold fX6_findPivot at hf
  refine lv_iload_n hx hb dX6_findPivot_0 rfl (lv_at hl 1 rfl) ?_
  refine lv_istore_n (lv' := [(3, .int i1), (0, .ref a_t), (1, .int i1), (2, .int i2)]) hx hb dX6_findPivot_1 rfl hl (by decide) rfl (fun ls hl => ?_)
  have L2 : ∀ (n : Nat) (x1 : Int32) (ls : Array Slot) (H : Heap) (locs : List Loc), gX6_findPivot_2 t_square_r i1 i2 (kX6_findPivot_28) n x1 = some r → lv_has ls 4 [(0, .ref a_t), (1, .int i1), (2, .int i2), (3, .int x1)] → va_P D vwCl [x_o6 a_t a_N a_t_parts a_t_square, x_ar cI a_t_square 225 t_square_r] H → va_D A [x_o6 a_t a_N a_t_parts a_t_square, x_ar cI a_t_square 225 t_square_r] → va_S A s.heap H locs → W p l e rmX6_findPivot s m args below meth c H locs 0 0 Q (F0 m 2 ls []) := by
    intro n2
    induction n2 with
    | zero =>
      intro x1 ls H locs hf
      exact nomatch (show (none : Option (Int32)) = some r from hf)
    | succ n2 ih2 =>
      intro x1 ls H locs hf hl hP hD hS
      have hf : FgX6_findPivot_2 t_square_r i1 i2 (gX6_findPivot_2 t_square_r i1 i2 (kX6_findPivot_28) n2) (kX6_findPivot_28) x1 = some r := hf
      unfold FgX6_findPivot_2 at hf
      refine lv_iload_n hx hb dX6_findPivot_2 rfl (lv_at hl 3 rfl) ?_
      refine lv_iload_n hx hb dX6_findPivot_3 rfl (lv_at hl 2 rfl) ?_
      have J28 : ∀ (ls : Array Slot) (H : Heap) (locs : List Loc), kX6_findPivot_28 = some r → lv_has ls 4 [] → va_P D vwCl [x_o6 a_t a_N a_t_parts a_t_square, x_ar cI a_t_square 225 t_square_r] H → va_D A [x_o6 a_t a_N a_t_parts a_t_square, x_ar cI a_t_square 225 t_square_r] → va_S A s.heap H locs → W p l e rmX6_findPivot s m args below meth c H locs 0 0 Q (F0 m 28 ls []) := by
        intro ls H locs hf hl hP hD hS
        unfold kX6_findPivot_28 at hf
        refine lv_bipush (v := (-6)) hx hb dX6_findPivot_28 (by decide) ?_
        obtain rfl := Option.some.inj hf
        exact hret rfl rfl dX6_findPivot_30 hP hD hS
      refine lv_icmp_ge (tgt := 28) hx hb dX6_findPivot_4 (by decide) (fun hc => ?_) (fun hc => ?_)
      · have hf := o_t hf hc
        exact J28 _ _ _ hf (lv_sub hl [] rfl) hP hD hS
      · have hf := o_f hf hc
        refine lv_aload_n hx hb dX6_findPivot_7 rfl (lv_at hl 0 rfl) ?_
        refine va_get (D := D) (ci := 6) (C := RX6) (T := TX6) (N := 3) hx hb hts iX6 hown hK hP 0 rfl rfl 2 (by decide) l15 (fun _ h9 => h9) rfl dX6_findPivot_8 ?_
        refine lv_iload_n hx hb dX6_findPivot_11 rfl (lv_at hl 3 rfl) ?_
        refine lv_iload_n hx hb dX6_findPivot_12 rfl (lv_at hl 2 rfl) ?_
        refine lv_imul hx hb dX6_findPivot_13 ?_
        refine lv_iload_n hx hb dX6_findPivot_14 rfl (lv_at hl 1 rfl) ?_
        refine lv_iadd hx hb dX6_findPivot_15 ?_
        obtain ⟨v2, hv2, hf⟩ := o_b1 hf
        refine x_ald hx hb hK hP 1 rfl hv2 dX6_findPivot_16 ?_
        refine lv_if_eq (tgt := 22) hx hb dX6_findPivot_17 (by decide) (fun hc => ?_) (fun hc => ?_)
        · have hf := o_t hf hc
          obtain ⟨v3, ev3, hf⟩ := o_nm hf
          refine lv_iinc (v := v3) (lv' := [(3, .int v3), (0, .ref a_t), (1, .int i1), (2, .int i2)]) hx hb dX6_findPivot_22 hl (k := 3) rfl (by rw [ev3]; rfl) (by decide) rfl (fun ls hl => ?_)
          refine lv_goto (tgt := 2) hx hb dX6_findPivot_25 (by decide) ?_
          exact ih2 v3 _ _ _ hf (lv_sub hl [1, 2, 3, 0] rfl) hP hD hS
        · have hf := o_f hf hc
          refine lv_iload_n hx hb dX6_findPivot_20 rfl (lv_at hl 3 rfl) ?_
          obtain rfl := Option.some.inj hf
          exact hret rfl rfl dX6_findPivot_21 hP hD hS
  exact L2 p_FU i1 _ _ _ hf (lv_sub hl [1, 2, 3, 0] rfl) hP hD hS
noncomputable def kX6_swapRows_63 (w3 : (Nat → Int32)) : Option ((Nat → Int32)) :=
  some w3
noncomputable def FgX6_swapRows_3 (i1 : Int32) (i2 : Int32) (i3 : Int32) (rec3 : Int32 → (Nat → Int32) → Option ((Nat → Int32))) (kk3 : (Nat → Int32) → Option ((Nat → Int32))) (x1 : Int32) (z2 : (Nat → Int32)) : Option ((Nat → Int32)) :=
  if i3 ≤ x1 then (kk3 z2) else (p_b1 (p_ld z2 225 ((i1 * i3) + x1)) (fun v4 =>
p_b1 (p_ld z2 225 ((i2 * i3) + x1)) (fun v5 =>
p_b1 (p_st z2 225 ((i1 * i3) + x1) v5) (fun u6 =>
p_b1 (p_st u6 225 ((i2 * i3) + x1) v4) (fun u7 =>
p_nm (x1 + 1) (fun v8 =>
rec3 v8 u7))))))
noncomputable def gX6_swapRows_3 (i1 : Int32) (i2 : Int32) (i3 : Int32) (kk3 : (Nat → Int32) → Option ((Nat → Int32))) (n : Nat) : Int32 → (Nat → Int32) → Option ((Nat → Int32)) := Nat.rec (motive := fun _ => Int32 → (Nat → Int32) → Option ((Nat → Int32))) (fun _ _ => none) (fun _ rec3 => FgX6_swapRows_3 i1 i2 i3 rec3 kk3) n
noncomputable def fX6_swapRows (t_square_r : (Nat → Int32)) (i1 : Int32) (i2 : Int32) (i3 : Int32) : Option ((Nat → Int32)) :=
  gX6_swapRows_3 i1 i2 i3 (kX6_swapRows_63) p_FU 0 t_square_r
def rmX6_swapRows : Room := { frames := 0, cells := 0, slots := 0, locals := 0 }
set_option maxHeartbeats 4000000 in
set_option maxRecDepth 100000 in
theorem tX6_swapRows (l : Launch) (D : va_G) (cI : ClassId) (a_t : Nat) (a_N : Nat) (a_t_parts : Nat) (a_t_square : Nat) (t_square_r : (Nat → Int32)) (i1 : Int32) (i2 : Int32) (i3 : Int32) (s_t_square_r : (Nat → Int32)) (hf : fX6_swapRows t_square_r i1 i2 i3 = some s_t_square_r) : x_CV l D cI yX6_swapRows wsX6_swapRows rmX6_swapRows [.ref a_t, .int i1, .int i2, .int i3] [x_o6 a_t a_N a_t_parts a_t_square, x_ar cI a_t_square 225 t_square_r] [x_o6 a_t a_N a_t_parts a_t_square, x_ar cI a_t_square 225 s_t_square_r] := by
  refine x_CV_of (cc := cX6_swapRows) (maxL := 6) (own := RX6) (lv0 := [(0, .ref a_t), (1, .int i1), (2, .int i2), (3, .int i3)]) (by decide) rfl rfl (Nat.le_of_ble_eq_true rfl) rfl ?_
  intro p e s m args below meth c A Q ls hx hb hml hown hts hN hK hP hD hS hA hl hret
  have iX6 : ∀ w ∈ u_ws RX6 TX6 3, w ∈ wsX6_swapRows := by decide +kernel
  have l15 := hts (.fieldLink RX6 15 "ChordRings$Series" "square" "[I") (by decide +kernel)
  unfold fX6_swapRows at hf
  refine lv_iconst (v := 0) hx hb dX6_swapRows_0 (by decide) ?_
  refine lv_istore (lv' := [(4, .int 0), (0, .ref a_t), (1, .int i1), (2, .int i2), (3, .int i3)]) hx hb dX6_swapRows_1 hl (by decide) rfl (fun ls hl => ?_)
  have L3 : ∀ (n : Nat) (x1 : Int32) (z2 : (Nat → Int32)) (ls : Array Slot) (H : Heap) (locs : List Loc), gX6_swapRows_3 i1 i2 i3 (kX6_swapRows_63) n x1 z2 = some s_t_square_r → lv_has ls 6 [(0, .ref a_t), (1, .int i1), (2, .int i2), (3, .int i3), (4, .int x1)] → va_P D vwCl [x_o6 a_t a_N a_t_parts a_t_square, x_ar cI a_t_square 225 z2] H → va_D A [x_o6 a_t a_N a_t_parts a_t_square, x_ar cI a_t_square 225 z2] → va_S A s.heap H locs → W p l e rmX6_swapRows s m args below meth c H locs 0 0 Q (F0 m 3 ls []) := by
    intro n3
    induction n3 with
    | zero =>
      intro x1 z2 ls H locs hf
      exact nomatch (show (none : Option ((Nat → Int32))) = some s_t_square_r from hf)
    | succ n3 ih3 =>
      intro x1 z2 ls H locs hf hl hP hD hS
      have hf : FgX6_swapRows_3 i1 i2 i3 (gX6_swapRows_3 i1 i2 i3 (kX6_swapRows_63) n3) (kX6_swapRows_63) x1 z2 = some s_t_square_r := hf
      unfold FgX6_swapRows_3 at hf
      refine lv_iload hx hb dX6_swapRows_3 (lv_at hl 4 rfl) ?_
      refine lv_iload_n hx hb dX6_swapRows_5 rfl (lv_at hl 3 rfl) ?_
      have J63 : ∀ (w3 : (Nat → Int32)) (ls : Array Slot) (H : Heap) (locs : List Loc), kX6_swapRows_63 w3 = some s_t_square_r → lv_has ls 6 [] → va_P D vwCl [x_o6 a_t a_N a_t_parts a_t_square, x_ar cI a_t_square 225 w3] H → va_D A [x_o6 a_t a_N a_t_parts a_t_square, x_ar cI a_t_square 225 w3] → va_S A s.heap H locs → W p l e rmX6_swapRows s m args below meth c H locs 0 0 Q (F0 m 63 ls []) := by
        intro w3 ls H locs hf hl hP hD hS
        unfold kX6_swapRows_63 at hf
        obtain rfl := Option.some.inj hf
        exact hret dX6_swapRows_63 hP hD hS
      refine lv_icmp_ge (tgt := 63) hx hb dX6_swapRows_6 (by decide) (fun hc => ?_) (fun hc => ?_)
      · have hf := o_t hf hc
        exact J63 z2 _ _ _ hf (lv_sub hl [] rfl) hP hD hS
      · have hf := o_f hf hc
        refine lv_aload_n hx hb dX6_swapRows_9 rfl (lv_at hl 0 rfl) ?_
        refine va_get (D := D) (ci := 6) (C := RX6) (T := TX6) (N := 3) hx hb hts iX6 hown hK hP 0 rfl rfl 2 (by decide) l15 (fun _ h9 => h9) rfl dX6_swapRows_10 ?_
        refine lv_iload_n hx hb dX6_swapRows_13 rfl (lv_at hl 1 rfl) ?_
        refine lv_iload_n hx hb dX6_swapRows_14 rfl (lv_at hl 3 rfl) ?_
        refine lv_imul hx hb dX6_swapRows_15 ?_
        refine lv_iload hx hb dX6_swapRows_16 (lv_at hl 4 rfl) ?_
        refine lv_iadd hx hb dX6_swapRows_18 ?_
        obtain ⟨v4, hv4, hf⟩ := o_b1 hf
        refine x_ald hx hb hK hP 1 rfl hv4 dX6_swapRows_19 ?_
        refine lv_istore (lv' := [(5, .int v4), (0, .ref a_t), (1, .int i1), (2, .int i2), (3, .int i3), (4, .int x1)]) hx hb dX6_swapRows_20 hl (by decide) rfl (fun ls hl => ?_)
        refine lv_aload_n hx hb dX6_swapRows_22 rfl (lv_at hl 1 rfl) ?_
        refine va_get (D := D) (ci := 6) (C := RX6) (T := TX6) (N := 3) hx hb hts iX6 hown hK hP 0 rfl rfl 2 (by decide) l15 (fun _ h9 => h9) rfl dX6_swapRows_23 ?_
        refine lv_iload_n hx hb dX6_swapRows_26 rfl (lv_at hl 2 rfl) ?_
        refine lv_iload_n hx hb dX6_swapRows_27 rfl (lv_at hl 4 rfl) ?_
        refine lv_imul hx hb dX6_swapRows_28 ?_
        refine lv_iload hx hb dX6_swapRows_29 (lv_at hl 5 rfl) ?_
        refine lv_iadd hx hb dX6_swapRows_31 ?_
        refine lv_aload_n hx hb dX6_swapRows_32 rfl (lv_at hl 1 rfl) ?_
        refine va_get (D := D) (ci := 6) (C := RX6) (T := TX6) (N := 3) hx hb hts iX6 hown hK hP 0 rfl rfl 2 (by decide) l15 (fun _ h9 => h9) rfl dX6_swapRows_33 ?_
        refine lv_iload_n hx hb dX6_swapRows_36 rfl (lv_at hl 3 rfl) ?_
        refine lv_iload_n hx hb dX6_swapRows_37 rfl (lv_at hl 4 rfl) ?_
        refine lv_imul hx hb dX6_swapRows_38 ?_
        refine lv_iload hx hb dX6_swapRows_39 (lv_at hl 5 rfl) ?_
        refine lv_iadd hx hb dX6_swapRows_41 ?_
        obtain ⟨v5, hv5, hf⟩ := o_b1 hf
        refine x_ald hx hb hK hP 1 rfl hv5 dX6_swapRows_42 ?_
        obtain ⟨u6, hu6, hf⟩ := o_b1 hf
        refine x_ast (W1 := [x_o6 a_t a_N a_t_parts a_t_square, x_ar cI a_t_square 225 u6]) hx hb hK hP hD hS 1 rfl hu6 rfl dX6_swapRows_43 (fun H locs hP hD hS => ?_)
        refine lv_aload_n hx hb dX6_swapRows_44 rfl (lv_at hl 1 rfl) ?_
        refine va_get (D := D) (ci := 6) (C := RX6) (T := TX6) (N := 3) hx hb hts iX6 hown hK hP 0 rfl rfl 2 (by decide) l15 (fun _ h9 => h9) rfl dX6_swapRows_45 ?_
        refine lv_iload_n hx hb dX6_swapRows_48 rfl (lv_at hl 3 rfl) ?_
        refine lv_iload_n hx hb dX6_swapRows_49 rfl (lv_at hl 4 rfl) ?_
        refine lv_imul hx hb dX6_swapRows_50 ?_
        refine lv_iload hx hb dX6_swapRows_51 (lv_at hl 5 rfl) ?_
        refine lv_iadd hx hb dX6_swapRows_53 ?_
        refine lv_iload hx hb dX6_swapRows_54 (lv_at hl 0 rfl) ?_
        obtain ⟨u7, hu7, hf⟩ := o_b1 hf
        refine x_ast (W1 := [x_o6 a_t a_N a_t_parts a_t_square, x_ar cI a_t_square 225 u7]) hx hb hK hP hD hS 1 rfl hu7 rfl dX6_swapRows_56 (fun H locs hP hD hS => ?_)
        obtain ⟨v8, ev8, hf⟩ := o_nm hf
        refine lv_iinc (v := v8) (lv' := [(4, .int v8), (5, .int v4), (0, .ref a_t), (1, .int i1), (2, .int i2), (3, .int i3)]) hx hb dX6_swapRows_57 hl (k := 5) rfl (by rw [ev8]; rfl) (by decide) rfl (fun ls hl => ?_)
        refine lv_goto (tgt := 3) hx hb dX6_swapRows_60 (by decide) ?_
        exact ih3 v8 u7 _ _ _ hf (lv_sub hl [2, 3, 4, 5, 0] rfl) hP hD hS
  exact L3 p_FU 0 t_square_r _ _ _ hf (lv_sub hl [1, 2, 3, 4, 0] rfl) hP hD hS
noncomputable def kX6_takeAway_66 (w3 : (Nat → Int32)) : Option ((Nat → Int32)) :=
  some w3
noncomputable def FgX6_takeAway_3 (N_p : Int32) (i1 : Int32) (i2 : Int32) (i3 : Int32) (i4 : Int32) (rec3 : Int32 → (Nat → Int32) → Option ((Nat → Int32))) (kk3 : (Nat → Int32) → Option ((Nat → Int32))) (x1 : Int32) (z2 : (Nat → Int32)) : Option ((Nat → Int32)) :=
  if i4 ≤ x1 then (kk3 z2) else (p_b1 (p_ld z2 225 ((i1 * i4) + x1)) (fun v4 =>
p_b1 (p_ld z2 225 ((i3 * i4) + x1)) (fun v5 =>
p_nm (v4 - (i2 * v5)) (fun v6 =>
p_b1 (fX4_rest N_p v6) (fun v7 =>
p_b1 (p_st z2 225 ((i1 * i4) + x1) v7) (fun u8 =>
p_nm (x1 + 1) (fun v9 =>
rec3 v9 u8)))))))
noncomputable def gX6_takeAway_3 (N_p : Int32) (i1 : Int32) (i2 : Int32) (i3 : Int32) (i4 : Int32) (kk3 : (Nat → Int32) → Option ((Nat → Int32))) (n : Nat) : Int32 → (Nat → Int32) → Option ((Nat → Int32)) := Nat.rec (motive := fun _ => Int32 → (Nat → Int32) → Option ((Nat → Int32))) (fun _ _ => none) (fun _ rec3 => FgX6_takeAway_3 N_p i1 i2 i3 i4 rec3 kk3) n
noncomputable def fX6_takeAway (N_p : Int32) (t_square_r : (Nat → Int32)) (i1 : Int32) (i2 : Int32) (i3 : Int32) (i4 : Int32) : Option ((Nat → Int32)) :=
  gX6_takeAway_3 N_p i1 i2 i3 i4 (kX6_takeAway_66) p_FU i3 t_square_r
def rmX6_takeAway : Room := { frames := 1, cells := 0, slots := 0, locals := 22 }
set_option maxHeartbeats 4000000 in
set_option maxRecDepth 100000 in
theorem tX6_takeAway (l : Launch) (D : va_G) (cI : ClassId) (a_t : Nat) (a_N : Nat) (a_t_parts : Nat) (a_t_square : Nat) (a_N_inverses : Nat) (a_N_roots : Nat) (N_p : Int32) (t_square_r : (Nat → Int32)) (i1 : Int32) (i2 : Int32) (i3 : Int32) (i4 : Int32) (s_t_square_r : (Nat → Int32)) (hf : fX6_takeAway N_p t_square_r i1 i2 i3 i4 = some s_t_square_r) : x_CV l D cI yX6_takeAway wsX6_takeAway rmX6_takeAway [.ref a_t, .int i1, .int i2, .int i3, .int i4] [x_o6 a_t a_N a_t_parts a_t_square, x_o4 a_N a_N_inverses a_N_roots N_p, x_ar cI a_t_square 225 t_square_r] [x_o6 a_t a_N a_t_parts a_t_square, x_o4 a_N a_N_inverses a_N_roots N_p, x_ar cI a_t_square 225 s_t_square_r] := by
  refine x_CV_of (cc := cX6_takeAway) (maxL := 7) (own := RX6) (lv0 := [(0, .ref a_t), (1, .int i1), (2, .int i2), (3, .int i3), (4, .int i4)]) (by decide) rfl rfl (Nat.le_of_ble_eq_true rfl) rfl ?_
  intro p e s m args below meth c A Q ls hx hb hml hown hts hN hK hP hD hS hA hl hret
  have iX6 : ∀ w ∈ u_ws RX6 TX6 3, w ∈ wsX6_takeAway := by decide +kernel
  have l15 := hts (.fieldLink RX6 15 "ChordRings$Series" "square" "[I") (by decide +kernel)
  have l18 := hts (.fieldLink RX6 18 "ChordRings$Series" "numbers" "LChordRings$Numbers;") (by decide +kernel)
  unfold fX6_takeAway at hf
  refine lv_iload_n hx hb dX6_takeAway_0 rfl (lv_at hl 3 rfl) ?_
  refine lv_istore (lv' := [(5, .int i3), (0, .ref a_t), (1, .int i1), (2, .int i2), (3, .int i3), (4, .int i4)]) hx hb dX6_takeAway_1 hl (by decide) rfl (fun ls hl => ?_)
  have L3 : ∀ (n : Nat) (x1 : Int32) (z2 : (Nat → Int32)) (ls : Array Slot) (H : Heap) (locs : List Loc), gX6_takeAway_3 N_p i1 i2 i3 i4 (kX6_takeAway_66) n x1 z2 = some s_t_square_r → lv_has ls 7 [(0, .ref a_t), (1, .int i1), (2, .int i2), (3, .int i3), (4, .int i4), (5, .int x1)] → va_P D vwCl [x_o6 a_t a_N a_t_parts a_t_square, x_o4 a_N a_N_inverses a_N_roots N_p, x_ar cI a_t_square 225 z2] H → va_D A [x_o6 a_t a_N a_t_parts a_t_square, x_o4 a_N a_N_inverses a_N_roots N_p, x_ar cI a_t_square 225 z2] → va_S A s.heap H locs → W p l e rmX6_takeAway s m args below meth c H locs 0 0 Q (F0 m 3 ls []) := by
    intro n3
    induction n3 with
    | zero =>
      intro x1 z2 ls H locs hf
      exact nomatch (show (none : Option ((Nat → Int32))) = some s_t_square_r from hf)
    | succ n3 ih3 =>
      intro x1 z2 ls H locs hf hl hP hD hS
      have hf : FgX6_takeAway_3 N_p i1 i2 i3 i4 (gX6_takeAway_3 N_p i1 i2 i3 i4 (kX6_takeAway_66) n3) (kX6_takeAway_66) x1 z2 = some s_t_square_r := hf
      unfold FgX6_takeAway_3 at hf
      refine lv_iload hx hb dX6_takeAway_3 (lv_at hl 5 rfl) ?_
      refine lv_iload hx hb dX6_takeAway_5 (lv_at hl 4 rfl) ?_
      have J66 : ∀ (w3 : (Nat → Int32)) (ls : Array Slot) (H : Heap) (locs : List Loc), kX6_takeAway_66 w3 = some s_t_square_r → lv_has ls 7 [] → va_P D vwCl [x_o6 a_t a_N a_t_parts a_t_square, x_o4 a_N a_N_inverses a_N_roots N_p, x_ar cI a_t_square 225 w3] H → va_D A [x_o6 a_t a_N a_t_parts a_t_square, x_o4 a_N a_N_inverses a_N_roots N_p, x_ar cI a_t_square 225 w3] → va_S A s.heap H locs → W p l e rmX6_takeAway s m args below meth c H locs 0 0 Q (F0 m 66 ls []) := by
        intro w3 ls H locs hf hl hP hD hS
        unfold kX6_takeAway_66 at hf
        obtain rfl := Option.some.inj hf
        exact hret dX6_takeAway_66 hP hD hS
      refine lv_icmp_ge (tgt := 66) hx hb dX6_takeAway_7 (by decide) (fun hc => ?_) (fun hc => ?_)
      · have hf := o_t hf hc
        exact J66 z2 _ _ _ hf (lv_sub hl [] rfl) hP hD hS
      · have hf := o_f hf hc
        refine lv_aload_n hx hb dX6_takeAway_10 rfl (lv_at hl 0 rfl) ?_
        refine va_get (D := D) (ci := 6) (C := RX6) (T := TX6) (N := 3) hx hb hts iX6 hown hK hP 0 rfl rfl 2 (by decide) l15 (fun _ h9 => h9) rfl dX6_takeAway_11 ?_
        refine lv_iload_n hx hb dX6_takeAway_14 rfl (lv_at hl 1 rfl) ?_
        refine lv_iload hx hb dX6_takeAway_15 (lv_at hl 4 rfl) ?_
        refine lv_imul hx hb dX6_takeAway_17 ?_
        refine lv_iload hx hb dX6_takeAway_18 (lv_at hl 5 rfl) ?_
        refine lv_iadd hx hb dX6_takeAway_20 ?_
        obtain ⟨v4, hv4, hf⟩ := o_b1 hf
        refine x_ald hx hb hK hP 2 rfl hv4 dX6_takeAway_21 ?_
        refine lv_iload_n hx hb dX6_takeAway_22 rfl (lv_at hl 2 rfl) ?_
        refine lv_aload_n hx hb dX6_takeAway_23 rfl (lv_at hl 0 rfl) ?_
        refine va_get (D := D) (ci := 6) (C := RX6) (T := TX6) (N := 3) hx hb hts iX6 hown hK hP 0 rfl rfl 2 (by decide) l15 (fun _ h9 => h9) rfl dX6_takeAway_24 ?_
        refine lv_iload_n hx hb dX6_takeAway_27 rfl (lv_at hl 3 rfl) ?_
        refine lv_iload hx hb dX6_takeAway_28 (lv_at hl 4 rfl) ?_
        refine lv_imul hx hb dX6_takeAway_30 ?_
        refine lv_iload hx hb dX6_takeAway_31 (lv_at hl 5 rfl) ?_
        refine lv_iadd hx hb dX6_takeAway_33 ?_
        obtain ⟨v5, hv5, hf⟩ := o_b1 hf
        refine x_ald hx hb hK hP 2 rfl hv5 dX6_takeAway_34 ?_
        refine lv_imul hx hb dX6_takeAway_35 ?_
        refine lv_isub hx hb dX6_takeAway_36 ?_
        obtain ⟨v6, ev6, hf⟩ := o_nm hf
        refine x_top ev6 ?_
        refine lv_istore (lv' := [(6, .int v6), (0, .ref a_t), (1, .int i1), (2, .int i2), (3, .int i3), (4, .int i4), (5, .int x1)]) hx hb dX6_takeAway_37 hl (by decide) rfl (fun ls hl => ?_)
        refine lv_aload_n hx hb dX6_takeAway_39 rfl (lv_at hl 1 rfl) ?_
        refine va_get (D := D) (ci := 6) (C := RX6) (T := TX6) (N := 3) hx hb hts iX6 hown hK hP 0 rfl rfl 2 (by decide) l15 (fun _ h9 => h9) rfl dX6_takeAway_40 ?_
        refine lv_iload_n hx hb dX6_takeAway_43 rfl (lv_at hl 2 rfl) ?_
        refine lv_iload hx hb dX6_takeAway_44 (lv_at hl 5 rfl) ?_
        refine lv_imul hx hb dX6_takeAway_46 ?_
        refine lv_iload hx hb dX6_takeAway_47 (lv_at hl 6 rfl) ?_
        refine lv_iadd hx hb dX6_takeAway_49 ?_
        refine lv_aload_n hx hb dX6_takeAway_50 rfl (lv_at hl 1 rfl) ?_
        refine va_get (D := D) (ci := 6) (C := RX6) (T := TX6) (N := 3) hx hb hts iX6 hown hK hP 0 rfl rfl 0 (by decide) l18 (fun _ h9 => h9) rfl dX6_takeAway_51 ?_
        refine lv_iload hx hb dX6_takeAway_54 (lv_at hl 0 rfl) ?_
        obtain ⟨v7, hv7, hf⟩ := o_b1 hf
        refine x_vi (rest := [.int ((i1 * i4) + x1), .ref a_t_square]) (W1 := [x_o6 a_t a_N a_t_parts a_t_square, x_o4 a_N a_N_inverses a_N_roots N_p, x_ar cI a_t_square 225 z2]) ⟨hx, hb, hml, hown, hts⟩ (tX4_rest l D cI a_N a_N_inverses a_N_roots N_p v6 v7 hv7) (cwV 1 hts gX6_takeAway_X4_rest rfl rfl rfl (by decide +kernel) ⟨Nat.le_of_ble_eq_true rfl, Nat.le_of_ble_eq_true rfl⟩) hN hK hP hD hS hA [1] [none, some 0, none] rfl rfl rfl rfl rfl rfl 0 rfl rfl rfl hl.1 rfl (Nat.le_of_ble_eq_true rfl) dX6_takeAway_56 ⟨Nat.zero_le _, Nat.zero_le _⟩ (fun H locs hP hD hS => ?_)
        obtain ⟨u8, hu8, hf⟩ := o_b1 hf
        refine x_ast (W1 := [x_o6 a_t a_N a_t_parts a_t_square, x_o4 a_N a_N_inverses a_N_roots N_p, x_ar cI a_t_square 225 u8]) hx hb hK hP hD hS 2 rfl hu8 rfl dX6_takeAway_59 (fun H locs hP hD hS => ?_)
        obtain ⟨v9, ev9, hf⟩ := o_nm hf
        refine lv_iinc (v := v9) (lv' := [(5, .int v9), (6, .int v6), (0, .ref a_t), (1, .int i1), (2, .int i2), (3, .int i3), (4, .int i4)]) hx hb dX6_takeAway_60 hl (k := 6) rfl (by rw [ev9]; rfl) (by decide) rfl (fun ls hl => ?_)
        refine lv_goto (tgt := 3) hx hb dX6_takeAway_63 (by decide) ?_
        exact ih3 v9 u8 _ _ _ hf (lv_sub hl [2, 3, 4, 5, 6, 0] rfl) hP hD hS
  exact L3 p_FU i3 t_square_r _ _ _ hf (lv_sub hl [1, 2, 3, 4, 5, 0] rfl) hP hD hS
noncomputable def kX6_clear_134 (y4 : Int32) (w5 : (Nat → Int32)) : Option (Int32 × (Nat → Int32)) :=
  some (y4, w5)
noncomputable def kX6_clear_128 (x2 : Int32) (rec4 : Int32 → Int32 → (Nat → Int32) → Option (Int32 × (Nat → Int32))) (v10 : Int32) (w15 : (Nat → Int32)) : Option (Int32 × (Nat → Int32)) :=
  p_nm (x2 + 1) (fun v16 =>
rec4 v10 v16 w15)
noncomputable def FgX6_clear_83 (N_p : Int32) (i1 : Int32) (x2 : Int32) (v11 : Int32) (rec83 : Int32 → (Nat → Int32) → Option (Int32 × (Nat → Int32))) (kk83 : (Nat → Int32) → Option (Int32 × (Nat → Int32))) (x13 : Int32) (z14 : (Nat → Int32)) : Option (Int32 × (Nat → Int32)) :=
  if i1 ≤ x13 then (kk83 z14) else (p_b1 (p_ld z14 225 ((x13 * i1) + x2)) (fun v17 =>
p_b1 (fX4_rest N_p (v17 * v11)) (fun v18 =>
p_b1 (fX6_takeAway N_p z14 x13 v18 x2 i1) (fun u19 =>
p_nm (x13 + 1) (fun v20 =>
rec83 v20 u19)))))
noncomputable def gX6_clear_83 (N_p : Int32) (i1 : Int32) (x2 : Int32) (v11 : Int32) (kk83 : (Nat → Int32) → Option (Int32 × (Nat → Int32))) (n : Nat) : Int32 → (Nat → Int32) → Option (Int32 × (Nat → Int32)) := Nat.rec (motive := fun _ => Int32 → (Nat → Int32) → Option (Int32 × (Nat → Int32))) (fun _ _ => none) (fun _ rec83 => FgX6_clear_83 N_p i1 x2 v11 rec83 kk83) n
noncomputable def jX6_clear_43 (N_p : Int32) (N_inverses_r : (Nat → Int32)) (i1 : Int32) (x2 : Int32) (rec4 : Int32 → Int32 → (Nat → Int32) → Option (Int32 × (Nat → Int32))) (y7 : Int32) (w8 : (Nat → Int32)) : Option (Int32 × (Nat → Int32)) :=
  p_b1 (p_ld w8 225 ((x2 * i1) + x2)) (fun v9 =>
p_b1 (fX4_rest N_p (y7 * v9)) (fun v10 =>
p_b1 (fX4_inverseOf N_p N_inverses_r v9) (fun v11 =>
p_nm (x2 + 1) (fun v12 =>
gX6_clear_83 N_p i1 x2 v11 (kX6_clear_128 x2 rec4 v10) p_FU v12 w8))))
noncomputable def FgX6_clear_4 (N_p : Int32) (N_inverses_r : (Nat → Int32)) (i1 : Int32) (rec4 : Int32 → Int32 → (Nat → Int32) → Option (Int32 × (Nat → Int32))) (kk4 : Int32 → (Nat → Int32) → Option (Int32 × (Nat → Int32))) (x1 : Int32) (x2 : Int32) (z3 : (Nat → Int32)) : Option (Int32 × (Nat → Int32)) :=
  if i1 ≤ x2 then (kk4 x1 z3) else (p_b1 (fX6_findPivot z3 x2 i1) (fun v6 =>
if v6 = (-6) then (some (0, z3)) else (if v6 = x2 then (jX6_clear_43 N_p N_inverses_r i1 x2 rec4 x1 z3) else (p_b1 (fX6_swapRows z3 v6 x2 i1) (fun u21 =>
p_nm (-x1) (fun v22 =>
jX6_clear_43 N_p N_inverses_r i1 x2 rec4 v22 u21))))))
noncomputable def gX6_clear_4 (N_p : Int32) (N_inverses_r : (Nat → Int32)) (i1 : Int32) (kk4 : Int32 → (Nat → Int32) → Option (Int32 × (Nat → Int32))) (n : Nat) : Int32 → Int32 → (Nat → Int32) → Option (Int32 × (Nat → Int32)) := Nat.rec (motive := fun _ => Int32 → Int32 → (Nat → Int32) → Option (Int32 × (Nat → Int32))) (fun _ _ _ => none) (fun _ rec4 => FgX6_clear_4 N_p N_inverses_r i1 rec4 kk4) n
noncomputable def fX6_clear (N_p : Int32) (N_inverses_r : (Nat → Int32)) (t_square_r : (Nat → Int32)) (i1 : Int32) : Option (Int32 × (Nat → Int32)) :=
  gX6_clear_4 N_p N_inverses_r i1 (kX6_clear_134) p_FU 1 0 t_square_r
def rmX6_clear : Room := { frames := 2, cells := 0, slots := 0, locals := 48 }
set_option maxHeartbeats 4000000 in
set_option maxRecDepth 100000 in
theorem tX6_clear (l : Launch) (D : va_G) (cI : ClassId) (a_t : Nat) (a_N : Nat) (a_t_parts : Nat) (a_t_square : Nat) (a_N_inverses : Nat) (a_N_roots : Nat) (N_p : Int32) (N_inverses_r : (Nat → Int32)) (t_square_r : (Nat → Int32)) (i1 : Int32) (r : Int32) (s_t_square_r : (Nat → Int32)) (hf : fX6_clear N_p N_inverses_r t_square_r i1 = some (r, s_t_square_r)) : x_CI l D cI yX6_clear wsX6_clear rmX6_clear [.ref a_t, .int i1] [x_o6 a_t a_N a_t_parts a_t_square, x_o4 a_N a_N_inverses a_N_roots N_p, x_ar cI a_N_inverses 200 N_inverses_r, x_ar cI a_t_square 225 t_square_r] [x_o6 a_t a_N a_t_parts a_t_square, x_o4 a_N a_N_inverses a_N_roots N_p, x_ar cI a_N_inverses 200 N_inverses_r, x_ar cI a_t_square 225 s_t_square_r] r := by
  refine x_CI_of (cc := cX6_clear) (maxL := 9) (ty := .int) (own := RX6) (lv0 := [(0, .ref a_t), (1, .int i1)]) (by decide) rfl rfl (Nat.le_of_ble_eq_true rfl) rfl ?_
  intro p e s m args below meth c A Q ls hx hb hml hown hts hN hK hP hD hS hA hl hret
  have iX6 : ∀ w ∈ u_ws RX6 TX6 3, w ∈ wsX6_clear := by decide +kernel
  have l15 := hts (.fieldLink RX6 15 "ChordRings$Series" "square" "[I") (by decide +kernel)
  have l18 := hts (.fieldLink RX6 18 "ChordRings$Series" "numbers" "LChordRings$Numbers;") (by decide +kernel)
  unfold fX6_clear at hf
  refine lv_iconst (v := 1) hx hb dX6_clear_0 (by decide) ?_
  refine lv_istore_n (lv' := [(2, .int 1), (0, .ref a_t), (1, .int i1)]) hx hb dX6_clear_1 rfl hl (by decide) rfl (fun ls hl => ?_)
  refine lv_iconst (v := 0) hx hb dX6_clear_2 (by decide) ?_
  refine lv_istore_n (lv' := [(3, .int 0), (2, .int 1), (0, .ref a_t), (1, .int i1)]) hx hb dX6_clear_3 rfl hl (by decide) rfl (fun ls hl => ?_)
  have L4 : ∀ (n : Nat) (x1 : Int32) (x2 : Int32) (z3 : (Nat → Int32)) (ls : Array Slot) (H : Heap) (locs : List Loc), gX6_clear_4 N_p N_inverses_r i1 (kX6_clear_134) n x1 x2 z3 = some (r, s_t_square_r) → lv_has ls 9 [(0, .ref a_t), (1, .int i1), (2, .int x1), (3, .int x2)] → va_P D vwCl [x_o6 a_t a_N a_t_parts a_t_square, x_o4 a_N a_N_inverses a_N_roots N_p, x_ar cI a_N_inverses 200 N_inverses_r, x_ar cI a_t_square 225 z3] H → va_D A [x_o6 a_t a_N a_t_parts a_t_square, x_o4 a_N a_N_inverses a_N_roots N_p, x_ar cI a_N_inverses 200 N_inverses_r, x_ar cI a_t_square 225 z3] → va_S A s.heap H locs → W p l e rmX6_clear s m args below meth c H locs 0 0 Q (F0 m 4 ls []) := by
    intro n4
    induction n4 with
    | zero =>
      intro x1 x2 z3 ls H locs hf
      exact nomatch (show (none : Option (Int32 × (Nat → Int32))) = some (r, s_t_square_r) from hf)
    | succ n4 ih4 =>
      intro x1 x2 z3 ls H locs hf hl hP hD hS
      have hf : FgX6_clear_4 N_p N_inverses_r i1 (gX6_clear_4 N_p N_inverses_r i1 (kX6_clear_134) n4) (kX6_clear_134) x1 x2 z3 = some (r, s_t_square_r) := hf
      unfold FgX6_clear_4 at hf
      refine lv_iload_n hx hb dX6_clear_4 rfl (lv_at hl 3 rfl) ?_
      refine lv_iload_n hx hb dX6_clear_5 rfl (lv_at hl 1 rfl) ?_
      have J134 : ∀ (y4 : Int32) (w5 : (Nat → Int32)) (ls : Array Slot) (H : Heap) (locs : List Loc), kX6_clear_134 y4 w5 = some (r, s_t_square_r) → lv_has ls 9 [(2, .int y4)] → va_P D vwCl [x_o6 a_t a_N a_t_parts a_t_square, x_o4 a_N a_N_inverses a_N_roots N_p, x_ar cI a_N_inverses 200 N_inverses_r, x_ar cI a_t_square 225 w5] H → va_D A [x_o6 a_t a_N a_t_parts a_t_square, x_o4 a_N a_N_inverses a_N_roots N_p, x_ar cI a_N_inverses 200 N_inverses_r, x_ar cI a_t_square 225 w5] → va_S A s.heap H locs → W p l e rmX6_clear s m args below meth c H locs 0 0 Q (F0 m 134 ls []) := by
        intro y4 w5 ls H locs hf hl hP hD hS
        unfold kX6_clear_134 at hf
        refine lv_iload_n hx hb dX6_clear_134 rfl (lv_at hl 0 rfl) ?_
        obtain ⟨rfl, rfl⟩ := o_s2 hf
        exact hret rfl rfl dX6_clear_135 hP hD hS
      refine lv_icmp_ge (tgt := 134) hx hb dX6_clear_6 (by decide) (fun hc => ?_) (fun hc => ?_)
      · have hf := o_t hf hc
        exact J134 x1 z3 _ _ _ hf (lv_sub hl [2] rfl) hP hD hS
      · have hf := o_f hf hc
        refine lv_aload_n hx hb dX6_clear_9 rfl (lv_at hl 0 rfl) ?_
        refine lv_iload_n hx hb dX6_clear_10 rfl (lv_at hl 3 rfl) ?_
        refine lv_iload_n hx hb dX6_clear_11 rfl (lv_at hl 1 rfl) ?_
        obtain ⟨v6, hv6, hf⟩ := o_b1 hf
        refine x_vi (rest := []) (W1 := [x_o6 a_t a_N a_t_parts a_t_square, x_o4 a_N a_N_inverses a_N_roots N_p, x_ar cI a_N_inverses 200 N_inverses_r, x_ar cI a_t_square 225 z3]) ⟨hx, hb, hml, hown, hts⟩ (tX6_findPivot l D cI a_t a_N a_t_parts a_t_square z3 x2 i1 v6 hv6) (cwV 2 hts gX6_clear_X6_findPivot rfl rfl rfl (by decide +kernel) ⟨Nat.le_of_ble_eq_true rfl, Nat.le_of_ble_eq_true rfl⟩) hN hK hP hD hS hA [0, 3] [some 0, none, none, some 1] rfl rfl rfl rfl rfl rfl 0 rfl rfl rfl hl.1 rfl (Nat.le_of_ble_eq_true rfl) dX6_clear_12 ⟨Nat.zero_le _, Nat.zero_le _⟩ (fun H locs hP hD hS => ?_)
        refine lv_istore (lv' := [(4, .int v6), (0, .ref a_t), (1, .int i1), (2, .int x1), (3, .int x2)]) hx hb dX6_clear_15 hl (by decide) rfl (fun ls hl => ?_)
        refine lv_iload hx hb dX6_clear_17 (lv_at hl 0 rfl) ?_
        refine lv_bipush (v := (-6)) hx hb dX6_clear_19 (by decide) ?_
        refine lv_icmp_ne (tgt := 26) hx hb dX6_clear_21 (by decide) (fun hc => ?_) (fun hc => ?_)
        · have hf := o_f hf hc
          refine lv_iload hx hb dX6_clear_26 (lv_at hl 0 rfl) ?_
          refine lv_iload_n hx hb dX6_clear_28 rfl (lv_at hl 4 rfl) ?_
          have J43 : ∀ (y7 : Int32) (w8 : (Nat → Int32)) (ls : Array Slot) (H : Heap) (locs : List Loc), jX6_clear_43 N_p N_inverses_r i1 x2 (gX6_clear_4 N_p N_inverses_r i1 (kX6_clear_134) n4) y7 w8 = some (r, s_t_square_r) → lv_has ls 9 [(0, .ref a_t), (1, .int i1), (2, .int y7), (3, .int x2)] → va_P D vwCl [x_o6 a_t a_N a_t_parts a_t_square, x_o4 a_N a_N_inverses a_N_roots N_p, x_ar cI a_N_inverses 200 N_inverses_r, x_ar cI a_t_square 225 w8] H → va_D A [x_o6 a_t a_N a_t_parts a_t_square, x_o4 a_N a_N_inverses a_N_roots N_p, x_ar cI a_N_inverses 200 N_inverses_r, x_ar cI a_t_square 225 w8] → va_S A s.heap H locs → W p l e rmX6_clear s m args below meth c H locs 0 0 Q (F0 m 43 ls []) := by
            intro y7 w8 ls H locs hf hl hP hD hS
            unfold jX6_clear_43 at hf
            refine lv_aload_n hx hb dX6_clear_43 rfl (lv_at hl 0 rfl) ?_
            refine va_get (D := D) (ci := 6) (C := RX6) (T := TX6) (N := 3) hx hb hts iX6 hown hK hP 0 rfl rfl 2 (by decide) l15 (fun _ h9 => h9) rfl dX6_clear_44 ?_
            refine lv_iload_n hx hb dX6_clear_47 rfl (lv_at hl 3 rfl) ?_
            refine lv_iload_n hx hb dX6_clear_48 rfl (lv_at hl 1 rfl) ?_
            refine lv_imul hx hb dX6_clear_49 ?_
            refine lv_iload_n hx hb dX6_clear_50 rfl (lv_at hl 3 rfl) ?_
            refine lv_iadd hx hb dX6_clear_51 ?_
            obtain ⟨v9, hv9, hf⟩ := o_b1 hf
            refine x_ald hx hb hK hP 3 rfl hv9 dX6_clear_52 ?_
            refine lv_istore (lv' := [(5, .int v9), (0, .ref a_t), (1, .int i1), (2, .int y7), (3, .int x2)]) hx hb dX6_clear_53 hl (by decide) rfl (fun ls hl => ?_)
            refine lv_aload_n hx hb dX6_clear_55 rfl (lv_at hl 1 rfl) ?_
            refine va_get (D := D) (ci := 6) (C := RX6) (T := TX6) (N := 3) hx hb hts iX6 hown hK hP 0 rfl rfl 0 (by decide) l18 (fun _ h9 => h9) rfl dX6_clear_56 ?_
            refine lv_iload_n hx hb dX6_clear_59 rfl (lv_at hl 3 rfl) ?_
            refine lv_iload hx hb dX6_clear_60 (lv_at hl 0 rfl) ?_
            refine lv_imul hx hb dX6_clear_62 ?_
            obtain ⟨v10, hv10, hf⟩ := o_b1 hf
            refine x_vi (rest := []) (W1 := [x_o6 a_t a_N a_t_parts a_t_square, x_o4 a_N a_N_inverses a_N_roots N_p, x_ar cI a_N_inverses 200 N_inverses_r, x_ar cI a_t_square 225 w8]) ⟨hx, hb, hml, hown, hts⟩ (tX4_rest l D cI a_N a_N_inverses a_N_roots N_p (y7 * v9) v10 hv10) (cwV 1 hts gX6_clear_X4_rest rfl rfl rfl (by decide +kernel) ⟨Nat.le_of_ble_eq_true rfl, Nat.le_of_ble_eq_true rfl⟩) hN hK hP hD hS hA [1] [none, some 0, none, none] rfl rfl rfl rfl rfl rfl 0 rfl rfl rfl hl.1 rfl (Nat.le_of_ble_eq_true rfl) dX6_clear_63 ⟨Nat.zero_le _, Nat.zero_le _⟩ (fun H locs hP hD hS => ?_)
            refine lv_istore_n (lv' := [(2, .int v10), (5, .int v9), (0, .ref a_t), (1, .int i1), (3, .int x2)]) hx hb dX6_clear_66 rfl hl (by decide) rfl (fun ls hl => ?_)
            refine lv_aload_n hx hb dX6_clear_67 rfl (lv_at hl 2 rfl) ?_
            refine va_get (D := D) (ci := 6) (C := RX6) (T := TX6) (N := 3) hx hb hts iX6 hown hK hP 0 rfl rfl 0 (by decide) l18 (fun _ h9 => h9) rfl dX6_clear_68 ?_
            refine lv_iload hx hb dX6_clear_71 (lv_at hl 1 rfl) ?_
            obtain ⟨v11, hv11, hf⟩ := o_b1 hf
            refine x_vi (rest := []) (W1 := [x_o6 a_t a_N a_t_parts a_t_square, x_o4 a_N a_N_inverses a_N_roots N_p, x_ar cI a_N_inverses 200 N_inverses_r, x_ar cI a_t_square 225 w8]) ⟨hx, hb, hml, hown, hts⟩ (tX4_inverseOf l D cI a_N a_N_inverses a_N_roots N_p N_inverses_r v9 v11 hv11) (cwV 1 hts gX6_clear_X4_inverseOf rfl rfl rfl (by decide +kernel) ⟨Nat.le_of_ble_eq_true rfl, Nat.le_of_ble_eq_true rfl⟩) hN hK hP hD hS hA [1, 2] [none, some 0, some 1, none] rfl rfl rfl rfl rfl rfl 0 rfl rfl rfl hl.1 rfl (Nat.le_of_ble_eq_true rfl) dX6_clear_73 ⟨Nat.zero_le _, Nat.zero_le _⟩ (fun H locs hP hD hS => ?_)
            refine lv_istore (lv' := [(6, .int v11), (2, .int v10), (5, .int v9), (0, .ref a_t), (1, .int i1), (3, .int x2)]) hx hb dX6_clear_76 hl (by decide) rfl (fun ls hl => ?_)
            refine lv_iload_n hx hb dX6_clear_78 rfl (lv_at hl 5 rfl) ?_
            refine lv_iconst (v := 1) hx hb dX6_clear_79 (by decide) ?_
            refine lv_iadd hx hb dX6_clear_80 ?_
            obtain ⟨v12, ev12, hf⟩ := o_nm hf
            refine x_top ev12 ?_
            refine lv_istore (lv' := [(7, .int v12), (6, .int v11), (2, .int v10), (5, .int v9), (0, .ref a_t), (1, .int i1), (3, .int x2)]) hx hb dX6_clear_81 hl (by decide) rfl (fun ls hl => ?_)
            have L83 : ∀ (n : Nat) (x13 : Int32) (z14 : (Nat → Int32)) (ls : Array Slot) (H : Heap) (locs : List Loc), gX6_clear_83 N_p i1 x2 v11 (kX6_clear_128 x2 (gX6_clear_4 N_p N_inverses_r i1 (kX6_clear_134) n4) v10) n x13 z14 = some (r, s_t_square_r) → lv_has ls 9 [(0, .ref a_t), (1, .int i1), (2, .int v10), (3, .int x2), (6, .int v11), (7, .int x13)] → va_P D vwCl [x_o6 a_t a_N a_t_parts a_t_square, x_o4 a_N a_N_inverses a_N_roots N_p, x_ar cI a_N_inverses 200 N_inverses_r, x_ar cI a_t_square 225 z14] H → va_D A [x_o6 a_t a_N a_t_parts a_t_square, x_o4 a_N a_N_inverses a_N_roots N_p, x_ar cI a_N_inverses 200 N_inverses_r, x_ar cI a_t_square 225 z14] → va_S A s.heap H locs → W p l e rmX6_clear s m args below meth c H locs 0 0 Q (F0 m 83 ls []) := by
              intro n83
              induction n83 with
              | zero =>
                intro x13 z14 ls H locs hf
                exact nomatch (show (none : Option (Int32 × (Nat → Int32))) = some (r, s_t_square_r) from hf)
              | succ n83 ih83 =>
                intro x13 z14 ls H locs hf hl hP hD hS
                have hf : FgX6_clear_83 N_p i1 x2 v11 (gX6_clear_83 N_p i1 x2 v11 (kX6_clear_128 x2 (gX6_clear_4 N_p N_inverses_r i1 (kX6_clear_134) n4) v10) n83) (kX6_clear_128 x2 (gX6_clear_4 N_p N_inverses_r i1 (kX6_clear_134) n4) v10) x13 z14 = some (r, s_t_square_r) := hf
                unfold FgX6_clear_83 at hf
                refine lv_iload hx hb dX6_clear_83 (lv_at hl 5 rfl) ?_
                refine lv_iload_n hx hb dX6_clear_85 rfl (lv_at hl 1 rfl) ?_
                have J128 : ∀ (w15 : (Nat → Int32)) (ls : Array Slot) (H : Heap) (locs : List Loc), kX6_clear_128 x2 (gX6_clear_4 N_p N_inverses_r i1 (kX6_clear_134) n4) v10 w15 = some (r, s_t_square_r) → lv_has ls 9 [(0, .ref a_t), (1, .int i1), (2, .int v10), (3, .int x2)] → va_P D vwCl [x_o6 a_t a_N a_t_parts a_t_square, x_o4 a_N a_N_inverses a_N_roots N_p, x_ar cI a_N_inverses 200 N_inverses_r, x_ar cI a_t_square 225 w15] H → va_D A [x_o6 a_t a_N a_t_parts a_t_square, x_o4 a_N a_N_inverses a_N_roots N_p, x_ar cI a_N_inverses 200 N_inverses_r, x_ar cI a_t_square 225 w15] → va_S A s.heap H locs → W p l e rmX6_clear s m args below meth c H locs 0 0 Q (F0 m 128 ls []) := by
                  intro w15 ls H locs hf hl hP hD hS
                  unfold kX6_clear_128 at hf
                  obtain ⟨v16, ev16, hf⟩ := o_nm hf
                  refine lv_iinc (v := v16) (lv' := [(3, .int v16), (0, .ref a_t), (1, .int i1), (2, .int v10)]) hx hb dX6_clear_128 hl (k := 3) rfl (by rw [ev16]; rfl) (by decide) rfl (fun ls hl => ?_)
                  refine lv_goto (tgt := 4) hx hb dX6_clear_131 (by decide) ?_
                  exact ih4 v10 v16 w15 _ _ _ hf (lv_sub hl [1, 2, 3, 0] rfl) hP hD hS
                refine lv_icmp_ge (tgt := 128) hx hb dX6_clear_86 (by decide) (fun hc => ?_) (fun hc => ?_)
                · have hf := o_t hf hc
                  exact J128 z14 _ _ _ hf (lv_sub hl [0, 1, 2, 3] rfl) hP hD hS
                · have hf := o_f hf hc
                  refine lv_aload_n hx hb dX6_clear_89 rfl (lv_at hl 0 rfl) ?_
                  refine va_get (D := D) (ci := 6) (C := RX6) (T := TX6) (N := 3) hx hb hts iX6 hown hK hP 0 rfl rfl 0 (by decide) l18 (fun _ h9 => h9) rfl dX6_clear_90 ?_
                  refine lv_aload_n hx hb dX6_clear_93 rfl (lv_at hl 0 rfl) ?_
                  refine va_get (D := D) (ci := 6) (C := RX6) (T := TX6) (N := 3) hx hb hts iX6 hown hK hP 0 rfl rfl 2 (by decide) l15 (fun _ h9 => h9) rfl dX6_clear_94 ?_
                  refine lv_iload hx hb dX6_clear_97 (lv_at hl 5 rfl) ?_
                  refine lv_iload_n hx hb dX6_clear_99 rfl (lv_at hl 1 rfl) ?_
                  refine lv_imul hx hb dX6_clear_100 ?_
                  refine lv_iload_n hx hb dX6_clear_101 rfl (lv_at hl 3 rfl) ?_
                  refine lv_iadd hx hb dX6_clear_102 ?_
                  obtain ⟨v17, hv17, hf⟩ := o_b1 hf
                  refine x_ald hx hb hK hP 3 rfl hv17 dX6_clear_103 ?_
                  refine lv_iload hx hb dX6_clear_104 (lv_at hl 4 rfl) ?_
                  refine lv_imul hx hb dX6_clear_106 ?_
                  obtain ⟨v18, hv18, hf⟩ := o_b1 hf
                  refine x_vi (rest := []) (W1 := [x_o6 a_t a_N a_t_parts a_t_square, x_o4 a_N a_N_inverses a_N_roots N_p, x_ar cI a_N_inverses 200 N_inverses_r, x_ar cI a_t_square 225 z14]) ⟨hx, hb, hml, hown, hts⟩ (tX4_rest l D cI a_N a_N_inverses a_N_roots N_p (v17 * v11) v18 hv18) (cwV 1 hts gX6_clear_X4_rest rfl rfl rfl (by decide +kernel) ⟨Nat.le_of_ble_eq_true rfl, Nat.le_of_ble_eq_true rfl⟩) hN hK hP hD hS hA [1] [none, some 0, none, none] rfl rfl rfl rfl rfl rfl 0 rfl rfl rfl hl.1 rfl (Nat.le_of_ble_eq_true rfl) dX6_clear_107 ⟨Nat.zero_le _, Nat.zero_le _⟩ (fun H locs hP hD hS => ?_)
                  refine lv_istore (lv' := [(8, .int v18), (0, .ref a_t), (1, .int i1), (2, .int v10), (3, .int x2), (6, .int v11), (7, .int x13)]) hx hb dX6_clear_110 hl (by decide) rfl (fun ls hl => ?_)
                  refine lv_aload_n hx hb dX6_clear_112 rfl (lv_at hl 1 rfl) ?_
                  refine lv_iload hx hb dX6_clear_113 (lv_at hl 6 rfl) ?_
                  refine lv_iload hx hb dX6_clear_115 (lv_at hl 0 rfl) ?_
                  refine lv_iload_n hx hb dX6_clear_117 rfl (lv_at hl 4 rfl) ?_
                  refine lv_iload_n hx hb dX6_clear_118 rfl (lv_at hl 2 rfl) ?_
                  obtain ⟨u19, hu19, hf⟩ := o_b1 hf
                  refine x_vv (rest := []) (W1 := [x_o6 a_t a_N a_t_parts a_t_square, x_o4 a_N a_N_inverses a_N_roots N_p, x_ar cI a_N_inverses 200 N_inverses_r, x_ar cI a_t_square 225 u19]) ⟨hx, hb, hml, hown, hts⟩ (tX6_takeAway l D cI a_t a_N a_t_parts a_t_square a_N_inverses a_N_roots N_p z14 x13 v18 x2 i1 u19 hu19) (cwV 4 hts gX6_clear_X6_takeAway rfl rfl rfl (by decide +kernel) ⟨Nat.le_of_ble_eq_true rfl, Nat.le_of_ble_eq_true rfl⟩) hN hK hP hD hS hA [0, 1, 3] [some 0, some 1, none, some 2] rfl rfl rfl rfl rfl rfl 0 rfl rfl rfl hl.1 rfl (Nat.le_of_ble_eq_true rfl) dX6_clear_119 ⟨Nat.zero_le _, Nat.zero_le _⟩ (fun H locs hP hD hS => ?_)
                  obtain ⟨v20, ev20, hf⟩ := o_nm hf
                  refine lv_iinc (v := v20) (lv' := [(7, .int v20), (8, .int v18), (0, .ref a_t), (1, .int i1), (2, .int v10), (3, .int x2), (6, .int v11)]) hx hb dX6_clear_122 hl (k := 6) rfl (by rw [ev20]; rfl) (by decide) rfl (fun ls hl => ?_)
                  refine lv_goto (tgt := 83) hx hb dX6_clear_125 (by decide) ?_
                  exact ih83 v20 u19 _ _ _ hf (lv_sub hl [2, 3, 4, 5, 6, 0] rfl) hP hD hS
            exact L83 p_FU v12 w8 _ _ _ hf (lv_sub hl [4, 5, 2, 6, 1, 0] rfl) hP hD hS
          refine lv_icmp_eq (tgt := 43) hx hb dX6_clear_29 (by decide) (fun hc => ?_) (fun hc => ?_)
          · have hf := o_t hf hc
            exact J43 x1 z3 _ _ _ hf (lv_sub hl [1, 2, 3, 4] rfl) hP hD hS
          · have hf := o_f hf hc
            refine lv_aload_n hx hb dX6_clear_32 rfl (lv_at hl 1 rfl) ?_
            refine lv_iload hx hb dX6_clear_33 (lv_at hl 0 rfl) ?_
            refine lv_iload_n hx hb dX6_clear_35 rfl (lv_at hl 4 rfl) ?_
            refine lv_iload_n hx hb dX6_clear_36 rfl (lv_at hl 2 rfl) ?_
            obtain ⟨u21, hu21, hf⟩ := o_b1 hf
            refine x_vv (rest := []) (W1 := [x_o6 a_t a_N a_t_parts a_t_square, x_o4 a_N a_N_inverses a_N_roots N_p, x_ar cI a_N_inverses 200 N_inverses_r, x_ar cI a_t_square 225 u21]) ⟨hx, hb, hml, hown, hts⟩ (tX6_swapRows l D cI a_t a_N a_t_parts a_t_square z3 v6 x2 i1 u21 hu21) (cwV 3 hts gX6_clear_X6_swapRows rfl rfl rfl (by decide +kernel) ⟨Nat.le_of_ble_eq_true rfl, Nat.le_of_ble_eq_true rfl⟩) hN hK hP hD hS hA [0, 3] [some 0, none, none, some 1] rfl rfl rfl rfl rfl rfl 0 rfl rfl rfl hl.1 rfl (Nat.le_of_ble_eq_true rfl) dX6_clear_37 ⟨Nat.zero_le _, Nat.zero_le _⟩ (fun H locs hP hD hS => ?_)
            refine lv_iload_n hx hb dX6_clear_40 rfl (lv_at hl 3 rfl) ?_
            refine lv_ineg hx hb dX6_clear_41 ?_
            obtain ⟨v22, ev22, hf⟩ := o_nm hf
            refine x_top ev22 ?_
            refine lv_istore_n (lv' := [(2, .int v22), (4, .int v6), (0, .ref a_t), (1, .int i1), (3, .int x2)]) hx hb dX6_clear_42 rfl hl (by decide) rfl (fun ls hl => ?_)
            exact J43 v22 u21 _ _ _ hf (lv_sub hl [2, 3, 0, 4] rfl) hP hD hS
        · have hf := o_t hf hc
          refine lv_iconst (v := 0) hx hb dX6_clear_24 (by decide) ?_
          obtain ⟨rfl, rfl⟩ := o_s2 hf
          exact hret rfl rfl dX6_clear_25 hP hD hS
  exact L4 p_FU 1 0 t_square_r _ _ _ hf (lv_sub hl [2, 3, 1, 0] rfl) hP hD hS
noncomputable def kX6_closing_85 (N_p : Int32) (N_inverses_r : (Nat → Int32)) (v1 : Int32) (w6 : (Nat → Int32)) : Option (Int32 × (Nat → Int32)) :=
  p_b2 (fX6_clear N_p N_inverses_r w6 v1) (fun v7 u8 =>
some (v7, u8))
noncomputable def kX6_closing_79 (x4 : Int32) (rec35 : Int32 → (Nat → Int32) → Option (Int32 × (Nat → Int32))) (w11 : (Nat → Int32)) : Option (Int32 × (Nat → Int32)) :=
  p_nm (x4 + 1) (fun v12 =>
rec35 v12 w11)
noncomputable def FgX6_closing_44 (t_parts_r : (Nat → Int32)) (v1 : Int32) (y3 : Int32) (x4 : Int32) (rec44 : Int32 → (Nat → Int32) → Option (Int32 × (Nat → Int32))) (kk44 : (Nat → Int32) → Option (Int32 × (Nat → Int32))) (x9 : Int32) (z10 : (Nat → Int32)) : Option (Int32 × (Nat → Int32)) :=
  if v1 ≤ x9 then (kk44 z10) else (p_b1 (fX6_part t_parts_r ((y3 + x4) + x9)) (fun v13 =>
p_b1 (p_st z10 225 ((x4 * v1) + x9) v13) (fun u14 =>
p_nm (x9 + 1) (fun v15 =>
rec44 v15 u14))))
noncomputable def gX6_closing_44 (t_parts_r : (Nat → Int32)) (v1 : Int32) (y3 : Int32) (x4 : Int32) (kk44 : (Nat → Int32) → Option (Int32 × (Nat → Int32))) (n : Nat) : Int32 → (Nat → Int32) → Option (Int32 × (Nat → Int32)) := Nat.rec (motive := fun _ => Int32 → (Nat → Int32) → Option (Int32 × (Nat → Int32))) (fun _ _ => none) (fun _ rec44 => FgX6_closing_44 t_parts_r v1 y3 x4 rec44 kk44) n
noncomputable def FgX6_closing_35 (t_parts_r : (Nat → Int32)) (v1 : Int32) (y3 : Int32) (rec35 : Int32 → (Nat → Int32) → Option (Int32 × (Nat → Int32))) (kk35 : (Nat → Int32) → Option (Int32 × (Nat → Int32))) (x4 : Int32) (z5 : (Nat → Int32)) : Option (Int32 × (Nat → Int32)) :=
  if v1 ≤ x4 then (kk35 z5) else (gX6_closing_44 t_parts_r v1 y3 x4 (kX6_closing_79 x4 rec35) p_FU 0 z5)
noncomputable def gX6_closing_35 (t_parts_r : (Nat → Int32)) (v1 : Int32) (y3 : Int32) (kk35 : (Nat → Int32) → Option (Int32 × (Nat → Int32))) (n : Nat) : Int32 → (Nat → Int32) → Option (Int32 × (Nat → Int32)) := Nat.rec (motive := fun _ => Int32 → (Nat → Int32) → Option (Int32 × (Nat → Int32))) (fun _ _ => none) (fun _ rec35 => FgX6_closing_35 t_parts_r v1 y3 rec35 kk35) n
noncomputable def jX6_closing_17 (N_p : Int32) (N_inverses_r : (Nat → Int32)) (t_parts_r : (Nat → Int32)) (t_square_r : (Nat → Int32)) (v1 : Int32) (y3 : Int32) : Option (Int32 × (Nat → Int32)) :=
  if v1 < 1 then (some ((-2), t_square_r)) else (if v1 ≤ 15 then (gX6_closing_35 t_parts_r v1 y3 (kX6_closing_85 N_p N_inverses_r v1) p_FU 0 t_square_r) else (some ((-2), t_square_r)))
noncomputable def fX6_closing (N_p : Int32) (N_inverses_r : (Nat → Int32)) (t_parts_r : (Nat → Int32)) (t_square_r : (Nat → Int32)) (i1 : Int32) : Option (Int32 × (Nat → Int32)) :=
  p_b1 (p_dv (i1 - 1) 2) (fun v1 =>
p_b1 (p_rm i1 2) (fun v2 =>
if v2 = 0 then (jX6_closing_17 N_p N_inverses_r t_parts_r t_square_r v1 3) else (jX6_closing_17 N_p N_inverses_r t_parts_r t_square_r v1 2)))
def rmX6_closing : Room := { frames := 3, cells := 0, slots := 0, locals := 76 }
set_option maxHeartbeats 4000000 in
set_option maxRecDepth 100000 in
theorem tX6_closing (l : Launch) (D : va_G) (cI : ClassId) (a_t : Nat) (a_N : Nat) (a_t_parts : Nat) (a_t_square : Nat) (a_N_inverses : Nat) (a_N_roots : Nat) (N_p : Int32) (N_inverses_r : (Nat → Int32)) (t_parts_r : (Nat → Int32)) (t_square_r : (Nat → Int32)) (i1 : Int32) (r : Int32) (s_t_square_r : (Nat → Int32)) (hf : fX6_closing N_p N_inverses_r t_parts_r t_square_r i1 = some (r, s_t_square_r)) : x_CI l D cI yX6_closing wsX6_closing rmX6_closing [.ref a_t, .int i1] [x_o6 a_t a_N a_t_parts a_t_square, x_o4 a_N a_N_inverses a_N_roots N_p, x_ar cI a_N_inverses 200 N_inverses_r, x_ar cI a_t_parts 32 t_parts_r, x_ar cI a_t_square 225 t_square_r] [x_o6 a_t a_N a_t_parts a_t_square, x_o4 a_N a_N_inverses a_N_roots N_p, x_ar cI a_N_inverses 200 N_inverses_r, x_ar cI a_t_parts 32 t_parts_r, x_ar cI a_t_square 225 s_t_square_r] r := by
  refine x_CI_of (cc := cX6_closing) (maxL := 6) (ty := .int) (own := RX6) (lv0 := [(0, .ref a_t), (1, .int i1)]) (by decide) rfl rfl (Nat.le_of_ble_eq_true rfl) rfl ?_
  intro p e s m args below meth c A Q ls hx hb hml hown hts hN hK hP hD hS hA hl hret
  have iX6 : ∀ w ∈ u_ws RX6 TX6 3, w ∈ wsX6_closing := by decide +kernel
  have l15 := hts (.fieldLink RX6 15 "ChordRings$Series" "square" "[I") (by decide +kernel)
  unfold fX6_closing at hf
  refine lv_iload_n hx hb dX6_closing_0 rfl (lv_at hl 1 rfl) ?_
  refine lv_iconst (v := 1) hx hb dX6_closing_1 (by decide) ?_
  refine lv_isub hx hb dX6_closing_2 ?_
  refine lv_iconst (v := 2) hx hb dX6_closing_3 (by decide) ?_
  obtain ⟨v1, hv1, hf⟩ := o_b1 hf
  refine x_dv hx hb hv1 dX6_closing_4 ?_
  refine lv_istore_n (lv' := [(2, .int v1), (0, .ref a_t), (1, .int i1)]) hx hb dX6_closing_5 rfl hl (by decide) rfl (fun ls hl => ?_)
  refine lv_iload_n hx hb dX6_closing_6 rfl (lv_at hl 2 rfl) ?_
  refine lv_iconst (v := 2) hx hb dX6_closing_7 (by decide) ?_
  obtain ⟨v2, hv2, hf⟩ := o_b1 hf
  refine x_rm hx hb hv2 dX6_closing_8 ?_
  have J17 : ∀ (y3 : Int32) (ls : Array Slot) (H : Heap) (locs : List Loc), jX6_closing_17 N_p N_inverses_r t_parts_r t_square_r v1 y3 = some (r, s_t_square_r) → lv_has ls 6 [(0, .ref a_t), (2, .int v1)] → va_P D vwCl [x_o6 a_t a_N a_t_parts a_t_square, x_o4 a_N a_N_inverses a_N_roots N_p, x_ar cI a_N_inverses 200 N_inverses_r, x_ar cI a_t_parts 32 t_parts_r, x_ar cI a_t_square 225 t_square_r] H → va_D A [x_o6 a_t a_N a_t_parts a_t_square, x_o4 a_N a_N_inverses a_N_roots N_p, x_ar cI a_N_inverses 200 N_inverses_r, x_ar cI a_t_parts 32 t_parts_r, x_ar cI a_t_square 225 t_square_r] → va_S A s.heap H locs → W p l e rmX6_closing s m args below meth c H locs 0 0 Q (F0 m 17 ls [.int y3]) := by
    intro y3 ls H locs hf hl hP hD hS
    unfold jX6_closing_17 at hf
    refine lv_istore_n (lv' := [(3, .int y3), (0, .ref a_t), (2, .int v1)]) hx hb dX6_closing_17 rfl hl (by decide) rfl (fun ls hl => ?_)
    refine lv_iload_n hx hb dX6_closing_18 rfl (lv_at hl 2 rfl) ?_
    refine lv_iconst (v := 1) hx hb dX6_closing_19 (by decide) ?_
    refine lv_icmp_lt (tgt := 29) hx hb dX6_closing_20 (by decide) (fun hc => ?_) (fun hc => ?_)
    · have hf := o_t hf hc
      refine lv_bipush (v := (-2)) hx hb dX6_closing_29 (by decide) ?_
      obtain ⟨rfl, rfl⟩ := o_s2 hf
      exact hret rfl rfl dX6_closing_31 hP hD hS
    · have hf := o_f hf hc
      refine lv_iload_n hx hb dX6_closing_23 rfl (lv_at hl 2 rfl) ?_
      refine lv_bipush (v := 15) hx hb dX6_closing_24 (by decide) ?_
      refine lv_icmp_le (tgt := 32) hx hb dX6_closing_26 (by decide) (fun hc => ?_) (fun hc => ?_)
      · have hf := o_t hf hc
        refine lv_iconst (v := 0) hx hb dX6_closing_32 (by decide) ?_
        refine lv_istore (lv' := [(4, .int 0), (3, .int y3), (0, .ref a_t), (2, .int v1)]) hx hb dX6_closing_33 hl (by decide) rfl (fun ls hl => ?_)
        have L35 : ∀ (n : Nat) (x4 : Int32) (z5 : (Nat → Int32)) (ls : Array Slot) (H : Heap) (locs : List Loc), gX6_closing_35 t_parts_r v1 y3 (kX6_closing_85 N_p N_inverses_r v1) n x4 z5 = some (r, s_t_square_r) → lv_has ls 6 [(0, .ref a_t), (2, .int v1), (3, .int y3), (4, .int x4)] → va_P D vwCl [x_o6 a_t a_N a_t_parts a_t_square, x_o4 a_N a_N_inverses a_N_roots N_p, x_ar cI a_N_inverses 200 N_inverses_r, x_ar cI a_t_parts 32 t_parts_r, x_ar cI a_t_square 225 z5] H → va_D A [x_o6 a_t a_N a_t_parts a_t_square, x_o4 a_N a_N_inverses a_N_roots N_p, x_ar cI a_N_inverses 200 N_inverses_r, x_ar cI a_t_parts 32 t_parts_r, x_ar cI a_t_square 225 z5] → va_S A s.heap H locs → W p l e rmX6_closing s m args below meth c H locs 0 0 Q (F0 m 35 ls []) := by
          intro n35
          induction n35 with
          | zero =>
            intro x4 z5 ls H locs hf
            exact nomatch (show (none : Option (Int32 × (Nat → Int32))) = some (r, s_t_square_r) from hf)
          | succ n35 ih35 =>
            intro x4 z5 ls H locs hf hl hP hD hS
            have hf : FgX6_closing_35 t_parts_r v1 y3 (gX6_closing_35 t_parts_r v1 y3 (kX6_closing_85 N_p N_inverses_r v1) n35) (kX6_closing_85 N_p N_inverses_r v1) x4 z5 = some (r, s_t_square_r) := hf
            unfold FgX6_closing_35 at hf
            refine lv_iload hx hb dX6_closing_35 (lv_at hl 3 rfl) ?_
            refine lv_iload_n hx hb dX6_closing_37 rfl (lv_at hl 1 rfl) ?_
            have J85 : ∀ (w6 : (Nat → Int32)) (ls : Array Slot) (H : Heap) (locs : List Loc), kX6_closing_85 N_p N_inverses_r v1 w6 = some (r, s_t_square_r) → lv_has ls 6 [(0, .ref a_t), (2, .int v1)] → va_P D vwCl [x_o6 a_t a_N a_t_parts a_t_square, x_o4 a_N a_N_inverses a_N_roots N_p, x_ar cI a_N_inverses 200 N_inverses_r, x_ar cI a_t_parts 32 t_parts_r, x_ar cI a_t_square 225 w6] H → va_D A [x_o6 a_t a_N a_t_parts a_t_square, x_o4 a_N a_N_inverses a_N_roots N_p, x_ar cI a_N_inverses 200 N_inverses_r, x_ar cI a_t_parts 32 t_parts_r, x_ar cI a_t_square 225 w6] → va_S A s.heap H locs → W p l e rmX6_closing s m args below meth c H locs 0 0 Q (F0 m 85 ls []) := by
              intro w6 ls H locs hf hl hP hD hS
              unfold kX6_closing_85 at hf
              refine lv_aload_n hx hb dX6_closing_85 rfl (lv_at hl 0 rfl) ?_
              refine lv_iload_n hx hb dX6_closing_86 rfl (lv_at hl 1 rfl) ?_
              obtain ⟨v7, u8, hv7, hf⟩ := o_b2 hf
              refine x_vi (rest := []) (W1 := [x_o6 a_t a_N a_t_parts a_t_square, x_o4 a_N a_N_inverses a_N_roots N_p, x_ar cI a_N_inverses 200 N_inverses_r, x_ar cI a_t_parts 32 t_parts_r, x_ar cI a_t_square 225 u8]) ⟨hx, hb, hml, hown, hts⟩ (tX6_clear l D cI a_t a_N a_t_parts a_t_square a_N_inverses a_N_roots N_p N_inverses_r w6 v1 v7 u8 hv7) (cwV 1 hts gX6_closing_X6_clear rfl rfl rfl (by decide +kernel) ⟨Nat.le_of_ble_eq_true rfl, Nat.le_of_ble_eq_true rfl⟩) hN hK hP hD hS hA [0, 1, 2, 4] [some 0, some 1, some 2, none, some 3] rfl rfl rfl rfl rfl rfl 0 rfl rfl rfl hl.1 rfl (Nat.le_of_ble_eq_true rfl) dX6_closing_87 ⟨Nat.zero_le _, Nat.zero_le _⟩ (fun H locs hP hD hS => ?_)
              obtain ⟨rfl, rfl⟩ := o_s2 hf
              exact hret rfl rfl dX6_closing_90 hP hD hS
            refine lv_icmp_ge (tgt := 85) hx hb dX6_closing_38 (by decide) (fun hc => ?_) (fun hc => ?_)
            · have hf := o_t hf hc
              exact J85 z5 _ _ _ hf (lv_sub hl [0, 1] rfl) hP hD hS
            · have hf := o_f hf hc
              refine lv_iconst (v := 0) hx hb dX6_closing_41 (by decide) ?_
              refine lv_istore (lv' := [(5, .int 0), (0, .ref a_t), (2, .int v1), (3, .int y3), (4, .int x4)]) hx hb dX6_closing_42 hl (by decide) rfl (fun ls hl => ?_)
              have L44 : ∀ (n : Nat) (x9 : Int32) (z10 : (Nat → Int32)) (ls : Array Slot) (H : Heap) (locs : List Loc), gX6_closing_44 t_parts_r v1 y3 x4 (kX6_closing_79 x4 (gX6_closing_35 t_parts_r v1 y3 (kX6_closing_85 N_p N_inverses_r v1) n35)) n x9 z10 = some (r, s_t_square_r) → lv_has ls 6 [(0, .ref a_t), (2, .int v1), (3, .int y3), (4, .int x4), (5, .int x9)] → va_P D vwCl [x_o6 a_t a_N a_t_parts a_t_square, x_o4 a_N a_N_inverses a_N_roots N_p, x_ar cI a_N_inverses 200 N_inverses_r, x_ar cI a_t_parts 32 t_parts_r, x_ar cI a_t_square 225 z10] H → va_D A [x_o6 a_t a_N a_t_parts a_t_square, x_o4 a_N a_N_inverses a_N_roots N_p, x_ar cI a_N_inverses 200 N_inverses_r, x_ar cI a_t_parts 32 t_parts_r, x_ar cI a_t_square 225 z10] → va_S A s.heap H locs → W p l e rmX6_closing s m args below meth c H locs 0 0 Q (F0 m 44 ls []) := by
                intro n44
                induction n44 with
                | zero =>
                  intro x9 z10 ls H locs hf
                  exact nomatch (show (none : Option (Int32 × (Nat → Int32))) = some (r, s_t_square_r) from hf)
                | succ n44 ih44 =>
                  intro x9 z10 ls H locs hf hl hP hD hS
                  have hf : FgX6_closing_44 t_parts_r v1 y3 x4 (gX6_closing_44 t_parts_r v1 y3 x4 (kX6_closing_79 x4 (gX6_closing_35 t_parts_r v1 y3 (kX6_closing_85 N_p N_inverses_r v1) n35)) n44) (kX6_closing_79 x4 (gX6_closing_35 t_parts_r v1 y3 (kX6_closing_85 N_p N_inverses_r v1) n35)) x9 z10 = some (r, s_t_square_r) := hf
                  unfold FgX6_closing_44 at hf
                  refine lv_iload hx hb dX6_closing_44 (lv_at hl 4 rfl) ?_
                  refine lv_iload_n hx hb dX6_closing_46 rfl (lv_at hl 1 rfl) ?_
                  have J79 : ∀ (w11 : (Nat → Int32)) (ls : Array Slot) (H : Heap) (locs : List Loc), kX6_closing_79 x4 (gX6_closing_35 t_parts_r v1 y3 (kX6_closing_85 N_p N_inverses_r v1) n35) w11 = some (r, s_t_square_r) → lv_has ls 6 [(0, .ref a_t), (2, .int v1), (3, .int y3), (4, .int x4)] → va_P D vwCl [x_o6 a_t a_N a_t_parts a_t_square, x_o4 a_N a_N_inverses a_N_roots N_p, x_ar cI a_N_inverses 200 N_inverses_r, x_ar cI a_t_parts 32 t_parts_r, x_ar cI a_t_square 225 w11] H → va_D A [x_o6 a_t a_N a_t_parts a_t_square, x_o4 a_N a_N_inverses a_N_roots N_p, x_ar cI a_N_inverses 200 N_inverses_r, x_ar cI a_t_parts 32 t_parts_r, x_ar cI a_t_square 225 w11] → va_S A s.heap H locs → W p l e rmX6_closing s m args below meth c H locs 0 0 Q (F0 m 79 ls []) := by
                    intro w11 ls H locs hf hl hP hD hS
                    unfold kX6_closing_79 at hf
                    obtain ⟨v12, ev12, hf⟩ := o_nm hf
                    refine lv_iinc (v := v12) (lv' := [(4, .int v12), (0, .ref a_t), (2, .int v1), (3, .int y3)]) hx hb dX6_closing_79 hl (k := 3) rfl (by rw [ev12]; rfl) (by decide) rfl (fun ls hl => ?_)
                    refine lv_goto (tgt := 35) hx hb dX6_closing_82 (by decide) ?_
                    exact ih35 v12 w11 _ _ _ hf (lv_sub hl [1, 2, 3, 0] rfl) hP hD hS
                  refine lv_icmp_ge (tgt := 79) hx hb dX6_closing_47 (by decide) (fun hc => ?_) (fun hc => ?_)
                  · have hf := o_t hf hc
                    exact J79 z10 _ _ _ hf (lv_sub hl [0, 1, 2, 3] rfl) hP hD hS
                  · have hf := o_f hf hc
                    refine lv_aload_n hx hb dX6_closing_50 rfl (lv_at hl 0 rfl) ?_
                    refine va_get (D := D) (ci := 6) (C := RX6) (T := TX6) (N := 3) hx hb hts iX6 hown hK hP 0 rfl rfl 2 (by decide) l15 (fun _ h9 => h9) rfl dX6_closing_51 ?_
                    refine lv_iload hx hb dX6_closing_54 (lv_at hl 3 rfl) ?_
                    refine lv_iload_n hx hb dX6_closing_56 rfl (lv_at hl 1 rfl) ?_
                    refine lv_imul hx hb dX6_closing_57 ?_
                    refine lv_iload hx hb dX6_closing_58 (lv_at hl 4 rfl) ?_
                    refine lv_iadd hx hb dX6_closing_60 ?_
                    refine lv_aload_n hx hb dX6_closing_61 rfl (lv_at hl 0 rfl) ?_
                    refine lv_iload_n hx hb dX6_closing_62 rfl (lv_at hl 2 rfl) ?_
                    refine lv_iload hx hb dX6_closing_63 (lv_at hl 3 rfl) ?_
                    refine lv_iadd hx hb dX6_closing_65 ?_
                    refine lv_iload hx hb dX6_closing_66 (lv_at hl 4 rfl) ?_
                    refine lv_iadd hx hb dX6_closing_68 ?_
                    obtain ⟨v13, hv13, hf⟩ := o_b1 hf
                    refine x_vi (rest := [.int ((x4 * v1) + x9), .ref a_t_square]) (W1 := [x_o6 a_t a_N a_t_parts a_t_square, x_o4 a_N a_N_inverses a_N_roots N_p, x_ar cI a_N_inverses 200 N_inverses_r, x_ar cI a_t_parts 32 t_parts_r, x_ar cI a_t_square 225 z10]) ⟨hx, hb, hml, hown, hts⟩ (tX6_part l D cI a_t a_N a_t_parts a_t_square t_parts_r ((y3 + x4) + x9) v13 hv13) (cwV 1 hts gX6_closing_X6_part rfl rfl rfl (by decide +kernel) ⟨Nat.le_of_ble_eq_true rfl, Nat.le_of_ble_eq_true rfl⟩) hN hK hP hD hS hA [0, 3] [some 0, none, none, some 1, none] rfl rfl rfl rfl rfl rfl 0 rfl rfl rfl hl.1 rfl (Nat.le_of_ble_eq_true rfl) dX6_closing_69 ⟨Nat.zero_le _, Nat.zero_le _⟩ (fun H locs hP hD hS => ?_)
                    obtain ⟨u14, hu14, hf⟩ := o_b1 hf
                    refine x_ast (W1 := [x_o6 a_t a_N a_t_parts a_t_square, x_o4 a_N a_N_inverses a_N_roots N_p, x_ar cI a_N_inverses 200 N_inverses_r, x_ar cI a_t_parts 32 t_parts_r, x_ar cI a_t_square 225 u14]) hx hb hK hP hD hS 4 rfl hu14 rfl dX6_closing_72 (fun H locs hP hD hS => ?_)
                    obtain ⟨v15, ev15, hf⟩ := o_nm hf
                    refine lv_iinc (v := v15) (lv' := [(5, .int v15), (0, .ref a_t), (2, .int v1), (3, .int y3), (4, .int x4)]) hx hb dX6_closing_73 hl (k := 4) rfl (by rw [ev15]; rfl) (by decide) rfl (fun ls hl => ?_)
                    refine lv_goto (tgt := 44) hx hb dX6_closing_76 (by decide) ?_
                    exact ih44 v15 u14 _ _ _ hf (lv_sub hl [1, 2, 3, 4, 0] rfl) hP hD hS
              exact L44 p_FU 0 z5 _ _ _ hf (lv_sub hl [1, 2, 3, 4, 0] rfl) hP hD hS
        exact L35 p_FU 0 t_square_r _ _ _ hf (lv_sub hl [2, 3, 1, 0] rfl) hP hD hS
      · have hf := o_f hf hc
        refine lv_bipush (v := (-2)) hx hb dX6_closing_29 (by decide) ?_
        obtain ⟨rfl, rfl⟩ := o_s2 hf
        exact hret rfl rfl dX6_closing_31 hP hD hS
  refine lv_if_ne (tgt := 16) hx hb dX6_closing_9 (by decide) (fun hc => ?_) (fun hc => ?_)
  · have hf := o_f hf hc
    refine lv_iconst (v := 2) hx hb dX6_closing_16 (by decide) ?_
    exact J17 2 _ _ _ hf (lv_sub hl [1, 0] rfl) hP hD hS
  · have hf := o_t hf hc
    refine lv_iconst (v := 3) hx hb dX6_closing_12 (by decide) ?_
    refine lv_goto (tgt := 17) hx hb dX6_closing_13 (by decide) ?_
    exact J17 3 _ _ _ hf (lv_sub hl [1, 0] rfl) hP hD hS
noncomputable def jX1_acrossAt_12 : Option (Int32) :=
  some (-6)
noncomputable def fX1_acrossAt (t_closing : Int32) (t_acrosses_r : (Nat → Int32)) (i1 : Int32) : Option (Int32) :=
  if i1 < 0 then (jX1_acrossAt_12) else (if 1 ≤ t_closing then (p_b1 (p_rm i1 t_closing) (fun v1 =>
p_b1 (p_ld t_acrosses_r 256 v1) (fun v2 =>
some v2))) else (jX1_acrossAt_12))
def rmX1_acrossAt : Room := { frames := 0, cells := 0, slots := 0, locals := 0 }
set_option maxHeartbeats 4000000 in
set_option maxRecDepth 100000 in
theorem tX1_acrossAt (l : Launch) (D : va_G) (cI : ClassId) (a_t : Nat) (a_N : Nat) (a_t_acrosses : Nat) (a_t_ups : Nat) (t_closing : Int32) (t_pointCount : Int32) (t_acrosses_r : (Nat → Int32)) (i1 : Int32) (r : Int32) (hf : fX1_acrossAt t_closing t_acrosses_r i1 = some r) : x_CI l D cI yX1_acrossAt wsX1_acrossAt rmX1_acrossAt [.ref a_t, .int i1] [x_o1 a_t a_N a_t_acrosses a_t_ups t_closing t_pointCount, x_ar cI a_t_acrosses 256 t_acrosses_r] [x_o1 a_t a_N a_t_acrosses a_t_ups t_closing t_pointCount, x_ar cI a_t_acrosses 256 t_acrosses_r] r := by
  refine x_CI_of (cc := cX1_acrossAt) (maxL := 2) (ty := .int) (own := RX1) (lv0 := [(0, .ref a_t), (1, .int i1)]) (by decide) rfl rfl (Nat.le_of_ble_eq_true rfl) rfl ?_
  intro p e s m args below meth c A Q ls hx hb hml hown hts hN hK hP hD hS hA hl hret
  have iX1 : ∀ w ∈ u_ws RX1 TX1 5, w ∈ wsX1_acrossAt := by decide +kernel
  have l22 := hts (.fieldLink RX1 22 "ChordRings$Curve" "closing" "I") (by decide +kernel)
  have l11 := hts (.fieldLink RX1 11 "ChordRings$Curve" "acrosses" "[I") (by decide +kernel)
  unfold fX1_acrossAt at hf
  refine lv_iload_n hx hb dX1_acrossAt_0 rfl (lv_at hl 1 rfl) ?_
  have J12 : ∀ (ls : Array Slot) (H : Heap) (locs : List Loc), jX1_acrossAt_12 = some r → lv_has ls 2 [] → va_P D vwCl [x_o1 a_t a_N a_t_acrosses a_t_ups t_closing t_pointCount, x_ar cI a_t_acrosses 256 t_acrosses_r] H → va_D A [x_o1 a_t a_N a_t_acrosses a_t_ups t_closing t_pointCount, x_ar cI a_t_acrosses 256 t_acrosses_r] → va_S A s.heap H locs → W p l e rmX1_acrossAt s m args below meth c H locs 0 0 Q (F0 m 12 ls []) := by
    intro ls H locs hf hl hP hD hS
    unfold jX1_acrossAt_12 at hf
    refine lv_bipush (v := (-6)) hx hb dX1_acrossAt_12 (by decide) ?_
    refine lv_goto (tgt := 28) hx hb dX1_acrossAt_14 (by decide) ?_
    obtain rfl := Option.some.inj hf
    exact hret rfl rfl dX1_acrossAt_28 hP hD hS
  refine lv_if_lt (tgt := 12) hx hb dX1_acrossAt_1 (by decide) (fun hc => ?_) (fun hc => ?_)
  · have hf := o_t hf hc
    exact J12 _ _ _ hf (lv_sub hl [] rfl) hP hD hS
  · have hf := o_f hf hc
    refine lv_aload_n hx hb dX1_acrossAt_4 rfl (lv_at hl 0 rfl) ?_
    refine va_get (D := D) (ci := 1) (C := RX1) (T := TX1) (N := 5) hx hb hts iX1 hown hK hP 0 rfl rfl 3 (by decide) l22 (fun _ h9 => h9) rfl dX1_acrossAt_5 ?_
    refine lv_iconst (v := 1) hx hb dX1_acrossAt_8 (by decide) ?_
    refine lv_icmp_ge (tgt := 17) hx hb dX1_acrossAt_9 (by decide) (fun hc => ?_) (fun hc => ?_)
    · have hf := o_t hf hc
      refine lv_aload_n hx hb dX1_acrossAt_17 rfl (lv_at hl 0 rfl) ?_
      refine va_get (D := D) (ci := 1) (C := RX1) (T := TX1) (N := 5) hx hb hts iX1 hown hK hP 0 rfl rfl 1 (by decide) l11 (fun _ h9 => h9) rfl dX1_acrossAt_18 ?_
      refine lv_iload_n hx hb dX1_acrossAt_21 rfl (lv_at hl 1 rfl) ?_
      refine lv_aload_n hx hb dX1_acrossAt_22 rfl (lv_at hl 0 rfl) ?_
      refine va_get (D := D) (ci := 1) (C := RX1) (T := TX1) (N := 5) hx hb hts iX1 hown hK hP 0 rfl rfl 3 (by decide) l22 (fun _ h9 => h9) rfl dX1_acrossAt_23 ?_
      obtain ⟨v1, hv1, hf⟩ := o_b1 hf
      refine x_rm hx hb hv1 dX1_acrossAt_26 ?_
      obtain ⟨v2, hv2, hf⟩ := o_b1 hf
      refine x_ald hx hb hK hP 1 rfl hv2 dX1_acrossAt_27 ?_
      obtain rfl := Option.some.inj hf
      exact hret rfl rfl dX1_acrossAt_28 hP hD hS
    · have hf := o_f hf hc
      exact J12 _ _ _ hf (lv_sub hl [] rfl) hP hD hS
noncomputable def jX1_upAt_12 : Option (Int32) :=
  some (-6)
noncomputable def fX1_upAt (t_closing : Int32) (t_ups_r : (Nat → Int32)) (i1 : Int32) : Option (Int32) :=
  if i1 < 0 then (jX1_upAt_12) else (if 1 ≤ t_closing then (p_b1 (p_rm i1 t_closing) (fun v1 =>
p_b1 (p_ld t_ups_r 256 v1) (fun v2 =>
some v2))) else (jX1_upAt_12))
def rmX1_upAt : Room := { frames := 0, cells := 0, slots := 0, locals := 0 }
set_option maxHeartbeats 4000000 in
set_option maxRecDepth 100000 in
theorem tX1_upAt (l : Launch) (D : va_G) (cI : ClassId) (a_t : Nat) (a_N : Nat) (a_t_acrosses : Nat) (a_t_ups : Nat) (t_closing : Int32) (t_pointCount : Int32) (t_ups_r : (Nat → Int32)) (i1 : Int32) (r : Int32) (hf : fX1_upAt t_closing t_ups_r i1 = some r) : x_CI l D cI yX1_upAt wsX1_upAt rmX1_upAt [.ref a_t, .int i1] [x_o1 a_t a_N a_t_acrosses a_t_ups t_closing t_pointCount, x_ar cI a_t_ups 256 t_ups_r] [x_o1 a_t a_N a_t_acrosses a_t_ups t_closing t_pointCount, x_ar cI a_t_ups 256 t_ups_r] r := by
  refine x_CI_of (cc := cX1_upAt) (maxL := 2) (ty := .int) (own := RX1) (lv0 := [(0, .ref a_t), (1, .int i1)]) (by decide) rfl rfl (Nat.le_of_ble_eq_true rfl) rfl ?_
  intro p e s m args below meth c A Q ls hx hb hml hown hts hN hK hP hD hS hA hl hret
  have iX1 : ∀ w ∈ u_ws RX1 TX1 5, w ∈ wsX1_upAt := by decide +kernel
  have l22 := hts (.fieldLink RX1 22 "ChordRings$Curve" "closing" "I") (by decide +kernel)
  have l15 := hts (.fieldLink RX1 15 "ChordRings$Curve" "ups" "[I") (by decide +kernel)
  unfold fX1_upAt at hf
  refine lv_iload_n hx hb dX1_upAt_0 rfl (lv_at hl 1 rfl) ?_
  have J12 : ∀ (ls : Array Slot) (H : Heap) (locs : List Loc), jX1_upAt_12 = some r → lv_has ls 2 [] → va_P D vwCl [x_o1 a_t a_N a_t_acrosses a_t_ups t_closing t_pointCount, x_ar cI a_t_ups 256 t_ups_r] H → va_D A [x_o1 a_t a_N a_t_acrosses a_t_ups t_closing t_pointCount, x_ar cI a_t_ups 256 t_ups_r] → va_S A s.heap H locs → W p l e rmX1_upAt s m args below meth c H locs 0 0 Q (F0 m 12 ls []) := by
    intro ls H locs hf hl hP hD hS
    unfold jX1_upAt_12 at hf
    refine lv_bipush (v := (-6)) hx hb dX1_upAt_12 (by decide) ?_
    refine lv_goto (tgt := 28) hx hb dX1_upAt_14 (by decide) ?_
    obtain rfl := Option.some.inj hf
    exact hret rfl rfl dX1_upAt_28 hP hD hS
  refine lv_if_lt (tgt := 12) hx hb dX1_upAt_1 (by decide) (fun hc => ?_) (fun hc => ?_)
  · have hf := o_t hf hc
    exact J12 _ _ _ hf (lv_sub hl [] rfl) hP hD hS
  · have hf := o_f hf hc
    refine lv_aload_n hx hb dX1_upAt_4 rfl (lv_at hl 0 rfl) ?_
    refine va_get (D := D) (ci := 1) (C := RX1) (T := TX1) (N := 5) hx hb hts iX1 hown hK hP 0 rfl rfl 3 (by decide) l22 (fun _ h9 => h9) rfl dX1_upAt_5 ?_
    refine lv_iconst (v := 1) hx hb dX1_upAt_8 (by decide) ?_
    refine lv_icmp_ge (tgt := 17) hx hb dX1_upAt_9 (by decide) (fun hc => ?_) (fun hc => ?_)
    · have hf := o_t hf hc
      refine lv_aload_n hx hb dX1_upAt_17 rfl (lv_at hl 0 rfl) ?_
      refine va_get (D := D) (ci := 1) (C := RX1) (T := TX1) (N := 5) hx hb hts iX1 hown hK hP 0 rfl rfl 2 (by decide) l15 (fun _ h9 => h9) rfl dX1_upAt_18 ?_
      refine lv_iload_n hx hb dX1_upAt_21 rfl (lv_at hl 1 rfl) ?_
      refine lv_aload_n hx hb dX1_upAt_22 rfl (lv_at hl 0 rfl) ?_
      refine va_get (D := D) (ci := 1) (C := RX1) (T := TX1) (N := 5) hx hb hts iX1 hown hK hP 0 rfl rfl 3 (by decide) l22 (fun _ h9 => h9) rfl dX1_upAt_23 ?_
      obtain ⟨v1, hv1, hf⟩ := o_b1 hf
      refine x_rm hx hb hv1 dX1_upAt_26 ?_
      obtain ⟨v2, hv2, hf⟩ := o_b1 hf
      refine x_ald hx hb hK hP 1 rfl hv2 dX1_upAt_27 ?_
      obtain rfl := Option.some.inj hf
      exact hret rfl rfl dX1_upAt_28 hP hD hS
    · have hf := o_f hf hc
      exact J12 _ _ _ hf (lv_sub hl [] rfl) hP hD hS
noncomputable def kX1_findCount_115 (y7 : Int32) : Option (Int32) :=
  some y7
noncomputable def jX1_findCount_109 (x4 : Int32) (rec27 : Int32 → Int32 → Option (Int32)) (y11 : Int32) : Option (Int32) :=
  p_nm (x4 + 1) (fun v12 =>
rec27 v12 y11)
noncomputable def jX1_findCount_105 (x4 : Int32) (x5 : Int32) (rec27 : Int32 → Int32 → Option (Int32)) (y13 : Int32) : Option (Int32) :=
  p_nm (x5 + y13) (fun v14 =>
jX1_findCount_109 x4 rec27 v14)
noncomputable def FgX1_findCount_27 (N_p : Int32) (N_roots_r : (Nat → Int32)) (v1 : Int32) (v2 : Int32) (v3 : Int32) (rec27 : Int32 → Int32 → Option (Int32)) (kk27 : Int32 → Option (Int32)) (x4 : Int32) (x5 : Int32) : Option (Int32) :=
  p_b1 (fX4_prime N_p) (fun v6 =>
if v6 ≤ x4 then (kk27 x5) else (p_b1 (fX4_rest N_p ((((v3 * x4) + v2) * x4) + v1)) (fun v8 =>
p_b1 (fX4_rest N_p ((v8 * x4) + 1)) (fun v9 =>
p_b1 (fX4_rootOf N_p N_roots_r v9) (fun v10 =>
if v10 = (-6) then (jX1_findCount_109 x4 rec27 x5) else (if v10 = 0 then (jX1_findCount_105 x4 x5 rec27 1) else (jX1_findCount_105 x4 x5 rec27 2)))))))
noncomputable def gX1_findCount_27 (N_p : Int32) (N_roots_r : (Nat → Int32)) (v1 : Int32) (v2 : Int32) (v3 : Int32) (kk27 : Int32 → Option (Int32)) (n : Nat) : Int32 → Int32 → Option (Int32) := Nat.rec (motive := fun _ => Int32 → Int32 → Option (Int32)) (fun _ _ => none) (fun _ rec27 => FgX1_findCount_27 N_p N_roots_r v1 v2 v3 rec27 kk27) n
noncomputable def fX1_findCount (t_pointCount : Int32) (b1_c0 : Int32) (b1_c1 : Int32) (b1_c2 : Int32) (b1_c3 : Int32) (N_p : Int32) (N_inverses_r : (Nat → Int32)) (N_roots_r : (Nat → Int32)) : Option (Int32) :=
  p_b1 (fX0_partByFirst b1_c0 b1_c1 b1_c2 b1_c3 N_p N_inverses_r 1) (fun v1 =>
p_b1 (fX0_partByFirst b1_c0 b1_c1 b1_c2 b1_c3 N_p N_inverses_r 2) (fun v2 =>
p_b1 (fX0_partByFirst b1_c0 b1_c1 b1_c2 b1_c3 N_p N_inverses_r 3) (fun v3 =>
gX1_findCount_27 N_p N_roots_r v1 v2 v3 (kX1_findCount_115) p_FU 0 1)))
def rmX1_findCount : Room := { frames := 2, cells := 0, slots := 0, locals := 43 }
set_option maxHeartbeats 4000000 in
set_option maxRecDepth 100000 in
theorem tX1_findCount (l : Launch) (D : va_G) (cI : ClassId) (a_t : Nat) (a_b1 : Nat) (a_N : Nat) (a_t_acrosses : Nat) (a_t_ups : Nat) (a_N_inverses : Nat) (a_N_roots : Nat) (t_closing : Int32) (t_pointCount : Int32) (b1_c0 : Int32) (b1_c1 : Int32) (b1_c2 : Int32) (b1_c3 : Int32) (N_p : Int32) (N_inverses_r : (Nat → Int32)) (N_roots_r : (Nat → Int32)) (s_t_pointCount : Int32) (hf : fX1_findCount t_pointCount b1_c0 b1_c1 b1_c2 b1_c3 N_p N_inverses_r N_roots_r = some s_t_pointCount) : x_CV l D cI yX1_findCount wsX1_findCount rmX1_findCount [.ref a_t, .ref a_b1] [x_o1 a_t a_N a_t_acrosses a_t_ups t_closing t_pointCount, x_o0 a_b1 a_N b1_c0 b1_c1 b1_c2 b1_c3, x_o4 a_N a_N_inverses a_N_roots N_p, x_ar cI a_N_inverses 200 N_inverses_r, x_ar cI a_N_roots 200 N_roots_r] [x_o1 a_t a_N a_t_acrosses a_t_ups t_closing s_t_pointCount, x_o0 a_b1 a_N b1_c0 b1_c1 b1_c2 b1_c3, x_o4 a_N a_N_inverses a_N_roots N_p, x_ar cI a_N_inverses 200 N_inverses_r, x_ar cI a_N_roots 200 N_roots_r] := by
  refine x_CV_of (cc := cX1_findCount) (maxL := 8) (own := RX1) (lv0 := [(0, .ref a_t), (1, .ref a_b1)]) (by decide) rfl rfl (Nat.le_of_ble_eq_true rfl) rfl ?_
  intro p e s m args below meth c A Q ls hx hb hml hown hts hN hK hP hD hS hA hl hret
  have iX1 : ∀ w ∈ u_ws RX1 TX1 5, w ∈ wsX1_findCount := by decide +kernel
  have l26 := hts (.fieldLink RX1 26 "ChordRings$Curve" "pointCount" "I") (by decide +kernel)
  have l18 := hts (.fieldLink RX1 18 "ChordRings$Curve" "numbers" "LChordRings$Numbers;") (by decide +kernel)
  unfold fX1_findCount at hf
  refine lv_aload_n hx hb dX1_findCount_0 rfl (lv_at hl 1 rfl) ?_
  refine lv_iconst (v := 1) hx hb dX1_findCount_1 (by decide) ?_
  obtain ⟨v1, hv1, hf⟩ := o_b1 hf
  refine x_vi (rest := []) (W1 := [x_o1 a_t a_N a_t_acrosses a_t_ups t_closing t_pointCount, x_o0 a_b1 a_N b1_c0 b1_c1 b1_c2 b1_c3, x_o4 a_N a_N_inverses a_N_roots N_p, x_ar cI a_N_inverses 200 N_inverses_r, x_ar cI a_N_roots 200 N_roots_r]) ⟨hx, hb, hml, hown, hts⟩ (tX0_partByFirst l D cI a_b1 a_N a_N_inverses a_N_roots b1_c0 b1_c1 b1_c2 b1_c3 N_p N_inverses_r 1 v1 hv1) (cwV 1 hts gX1_findCount_X0_partByFirst rfl rfl rfl (by decide +kernel) ⟨Nat.le_of_ble_eq_true rfl, Nat.le_of_ble_eq_true rfl⟩) hN hK hP hD hS hA [1, 2, 3] [none, some 0, some 1, some 2, none] rfl rfl rfl rfl rfl rfl 0 rfl rfl rfl hl.1 rfl (Nat.le_of_ble_eq_true rfl) dX1_findCount_2 ⟨Nat.zero_le _, Nat.zero_le _⟩ (fun H locs hP hD hS => ?_)
  refine lv_istore_n (lv' := [(2, .int v1), (0, .ref a_t), (1, .ref a_b1)]) hx hb dX1_findCount_5 rfl hl (by decide) rfl (fun ls hl => ?_)
  refine lv_aload_n hx hb dX1_findCount_6 rfl (lv_at hl 2 rfl) ?_
  refine lv_iconst (v := 2) hx hb dX1_findCount_7 (by decide) ?_
  obtain ⟨v2, hv2, hf⟩ := o_b1 hf
  refine x_vi (rest := []) (W1 := [x_o1 a_t a_N a_t_acrosses a_t_ups t_closing t_pointCount, x_o0 a_b1 a_N b1_c0 b1_c1 b1_c2 b1_c3, x_o4 a_N a_N_inverses a_N_roots N_p, x_ar cI a_N_inverses 200 N_inverses_r, x_ar cI a_N_roots 200 N_roots_r]) ⟨hx, hb, hml, hown, hts⟩ (tX0_partByFirst l D cI a_b1 a_N a_N_inverses a_N_roots b1_c0 b1_c1 b1_c2 b1_c3 N_p N_inverses_r 2 v2 hv2) (cwV 1 hts gX1_findCount_X0_partByFirst rfl rfl rfl (by decide +kernel) ⟨Nat.le_of_ble_eq_true rfl, Nat.le_of_ble_eq_true rfl⟩) hN hK hP hD hS hA [1, 2, 3] [none, some 0, some 1, some 2, none] rfl rfl rfl rfl rfl rfl 0 rfl rfl rfl hl.1 rfl (Nat.le_of_ble_eq_true rfl) dX1_findCount_8 ⟨Nat.zero_le _, Nat.zero_le _⟩ (fun H locs hP hD hS => ?_)
  refine lv_istore_n (lv' := [(3, .int v2), (2, .int v1), (0, .ref a_t), (1, .ref a_b1)]) hx hb dX1_findCount_11 rfl hl (by decide) rfl (fun ls hl => ?_)
  refine lv_aload_n hx hb dX1_findCount_12 rfl (lv_at hl 3 rfl) ?_
  refine lv_iconst (v := 3) hx hb dX1_findCount_13 (by decide) ?_
  obtain ⟨v3, hv3, hf⟩ := o_b1 hf
  refine x_vi (rest := []) (W1 := [x_o1 a_t a_N a_t_acrosses a_t_ups t_closing t_pointCount, x_o0 a_b1 a_N b1_c0 b1_c1 b1_c2 b1_c3, x_o4 a_N a_N_inverses a_N_roots N_p, x_ar cI a_N_inverses 200 N_inverses_r, x_ar cI a_N_roots 200 N_roots_r]) ⟨hx, hb, hml, hown, hts⟩ (tX0_partByFirst l D cI a_b1 a_N a_N_inverses a_N_roots b1_c0 b1_c1 b1_c2 b1_c3 N_p N_inverses_r 3 v3 hv3) (cwV 1 hts gX1_findCount_X0_partByFirst rfl rfl rfl (by decide +kernel) ⟨Nat.le_of_ble_eq_true rfl, Nat.le_of_ble_eq_true rfl⟩) hN hK hP hD hS hA [1, 2, 3] [none, some 0, some 1, some 2, none] rfl rfl rfl rfl rfl rfl 0 rfl rfl rfl hl.1 rfl (Nat.le_of_ble_eq_true rfl) dX1_findCount_14 ⟨Nat.zero_le _, Nat.zero_le _⟩ (fun H locs hP hD hS => ?_)
  refine lv_istore (lv' := [(4, .int v3), (3, .int v2), (2, .int v1), (0, .ref a_t), (1, .ref a_b1)]) hx hb dX1_findCount_17 hl (by decide) rfl (fun ls hl => ?_)
  refine lv_aload_n hx hb dX1_findCount_19 rfl (lv_at hl 3 rfl) ?_
  refine lv_iconst (v := 1) hx hb dX1_findCount_20 (by decide) ?_
  refine x_put (W1 := [x_o1 a_t a_N a_t_acrosses a_t_ups t_closing 1, x_o0 a_b1 a_N b1_c0 b1_c1 b1_c2 b1_c3, x_o4 a_N a_N_inverses a_N_roots N_p, x_ar cI a_N_inverses 200 N_inverses_r, x_ar cI a_N_roots 200 N_roots_r]) (ty := .int) (C := RX1) (T := TX1) (N := 5) hx hb hts iX1 tyX1 tyX1_ok nmX1 hown hK hP hD hS 0 rfl rfl 4 (by decide) l26 rfl rfl (by decide +kernel) rfl rfl (Nat.le_of_ble_eq_true rfl) rfl dX1_findCount_21 (fun H locs hP hD hS => ?_)
  refine lv_iconst (v := 0) hx hb dX1_findCount_24 (by decide) ?_
  refine lv_istore (lv' := [(5, .int 0), (4, .int v3), (3, .int v2), (2, .int v1), (0, .ref a_t), (1, .ref a_b1)]) hx hb dX1_findCount_25 hl (by decide) rfl (fun ls hl => ?_)
  have L27 : ∀ (n : Nat) (x4 : Int32) (x5 : Int32) (ls : Array Slot) (H : Heap) (locs : List Loc), gX1_findCount_27 N_p N_roots_r v1 v2 v3 (kX1_findCount_115) n x4 x5 = some s_t_pointCount → lv_has ls 8 [(0, .ref a_t), (2, .int v1), (3, .int v2), (4, .int v3), (5, .int x4)] → va_P D vwCl [x_o1 a_t a_N a_t_acrosses a_t_ups t_closing x5, x_o0 a_b1 a_N b1_c0 b1_c1 b1_c2 b1_c3, x_o4 a_N a_N_inverses a_N_roots N_p, x_ar cI a_N_inverses 200 N_inverses_r, x_ar cI a_N_roots 200 N_roots_r] H → va_D A [x_o1 a_t a_N a_t_acrosses a_t_ups t_closing x5, x_o0 a_b1 a_N b1_c0 b1_c1 b1_c2 b1_c3, x_o4 a_N a_N_inverses a_N_roots N_p, x_ar cI a_N_inverses 200 N_inverses_r, x_ar cI a_N_roots 200 N_roots_r] → va_S A s.heap H locs → W p l e rmX1_findCount s m args below meth c H locs 0 0 Q (F0 m 27 ls []) := by
    intro n27
    induction n27 with
    | zero =>
      intro x4 x5 ls H locs hf
      exact nomatch (show (none : Option (Int32)) = some s_t_pointCount from hf)
    | succ n27 ih27 =>
      intro x4 x5 ls H locs hf hl hP hD hS
      have hf : FgX1_findCount_27 N_p N_roots_r v1 v2 v3 (gX1_findCount_27 N_p N_roots_r v1 v2 v3 (kX1_findCount_115) n27) (kX1_findCount_115) x4 x5 = some s_t_pointCount := hf
      unfold FgX1_findCount_27 at hf
      refine lv_iload hx hb dX1_findCount_27 (lv_at hl 4 rfl) ?_
      refine lv_aload_n hx hb dX1_findCount_29 rfl (lv_at hl 0 rfl) ?_
      refine va_get (D := D) (ci := 1) (C := RX1) (T := TX1) (N := 5) hx hb hts iX1 hown hK hP 0 rfl rfl 0 (by decide) l18 (fun _ h9 => h9) rfl dX1_findCount_30 ?_
      obtain ⟨v6, hv6, hf⟩ := o_b1 hf
      refine x_vi (rest := [.int x4]) (W1 := [x_o1 a_t a_N a_t_acrosses a_t_ups t_closing x5, x_o0 a_b1 a_N b1_c0 b1_c1 b1_c2 b1_c3, x_o4 a_N a_N_inverses a_N_roots N_p, x_ar cI a_N_inverses 200 N_inverses_r, x_ar cI a_N_roots 200 N_roots_r]) ⟨hx, hb, hml, hown, hts⟩ (tX4_prime l D cI a_N a_N_inverses a_N_roots N_p v6 hv6) (cwV 0 hts gX1_findCount_X4_prime rfl rfl rfl (by decide +kernel) ⟨Nat.le_of_ble_eq_true rfl, Nat.le_of_ble_eq_true rfl⟩) hN hK hP hD hS hA [2] [none, none, some 0, none, none] rfl rfl rfl rfl rfl rfl 0 rfl rfl rfl hl.1 rfl (Nat.le_of_ble_eq_true rfl) dX1_findCount_33 ⟨Nat.zero_le _, Nat.zero_le _⟩ (fun H locs hP hD hS => ?_)
      have J115 : ∀ (y7 : Int32) (ls : Array Slot) (H : Heap) (locs : List Loc), kX1_findCount_115 y7 = some s_t_pointCount → lv_has ls 8 [] → va_P D vwCl [x_o1 a_t a_N a_t_acrosses a_t_ups t_closing y7, x_o0 a_b1 a_N b1_c0 b1_c1 b1_c2 b1_c3, x_o4 a_N a_N_inverses a_N_roots N_p, x_ar cI a_N_inverses 200 N_inverses_r, x_ar cI a_N_roots 200 N_roots_r] H → va_D A [x_o1 a_t a_N a_t_acrosses a_t_ups t_closing y7, x_o0 a_b1 a_N b1_c0 b1_c1 b1_c2 b1_c3, x_o4 a_N a_N_inverses a_N_roots N_p, x_ar cI a_N_inverses 200 N_inverses_r, x_ar cI a_N_roots 200 N_roots_r] → va_S A s.heap H locs → W p l e rmX1_findCount s m args below meth c H locs 0 0 Q (F0 m 115 ls []) := by
        intro y7 ls H locs hf hl hP hD hS
        unfold kX1_findCount_115 at hf
        obtain rfl := Option.some.inj hf
        exact hret dX1_findCount_115 hP hD hS
      refine lv_icmp_ge (tgt := 115) hx hb dX1_findCount_36 (by decide) (fun hc => ?_) (fun hc => ?_)
      · have hf := o_t hf hc
        exact J115 x5 _ _ _ hf (lv_sub hl [] rfl) hP hD hS
      · have hf := o_f hf hc
        refine lv_aload_n hx hb dX1_findCount_39 rfl (lv_at hl 0 rfl) ?_
        refine va_get (D := D) (ci := 1) (C := RX1) (T := TX1) (N := 5) hx hb hts iX1 hown hK hP 0 rfl rfl 0 (by decide) l18 (fun _ h9 => h9) rfl dX1_findCount_40 ?_
        refine lv_aload_n hx hb dX1_findCount_43 rfl (lv_at hl 0 rfl) ?_
        refine va_get (D := D) (ci := 1) (C := RX1) (T := TX1) (N := 5) hx hb hts iX1 hown hK hP 0 rfl rfl 0 (by decide) l18 (fun _ h9 => h9) rfl dX1_findCount_44 ?_
        refine lv_iload hx hb dX1_findCount_47 (lv_at hl 3 rfl) ?_
        refine lv_iload hx hb dX1_findCount_49 (lv_at hl 4 rfl) ?_
        refine lv_imul hx hb dX1_findCount_51 ?_
        refine lv_iload_n hx hb dX1_findCount_52 rfl (lv_at hl 2 rfl) ?_
        refine lv_iadd hx hb dX1_findCount_53 ?_
        refine lv_iload hx hb dX1_findCount_54 (lv_at hl 4 rfl) ?_
        refine lv_imul hx hb dX1_findCount_56 ?_
        refine lv_iload_n hx hb dX1_findCount_57 rfl (lv_at hl 1 rfl) ?_
        refine lv_iadd hx hb dX1_findCount_58 ?_
        obtain ⟨v8, hv8, hf⟩ := o_b1 hf
        refine x_vi (rest := [.ref a_N]) (W1 := [x_o1 a_t a_N a_t_acrosses a_t_ups t_closing x5, x_o0 a_b1 a_N b1_c0 b1_c1 b1_c2 b1_c3, x_o4 a_N a_N_inverses a_N_roots N_p, x_ar cI a_N_inverses 200 N_inverses_r, x_ar cI a_N_roots 200 N_roots_r]) ⟨hx, hb, hml, hown, hts⟩ (tX4_rest l D cI a_N a_N_inverses a_N_roots N_p ((((v3 * x4) + v2) * x4) + v1) v8 hv8) (cwV 1 hts gX1_findCount_X4_rest rfl rfl rfl (by decide +kernel) ⟨Nat.le_of_ble_eq_true rfl, Nat.le_of_ble_eq_true rfl⟩) hN hK hP hD hS hA [2] [none, none, some 0, none, none] rfl rfl rfl rfl rfl rfl 0 rfl rfl rfl hl.1 rfl (Nat.le_of_ble_eq_true rfl) dX1_findCount_59 ⟨Nat.zero_le _, Nat.zero_le _⟩ (fun H locs hP hD hS => ?_)
        refine lv_iload hx hb dX1_findCount_62 (lv_at hl 4 rfl) ?_
        refine lv_imul hx hb dX1_findCount_64 ?_
        refine lv_iconst (v := 1) hx hb dX1_findCount_65 (by decide) ?_
        refine lv_iadd hx hb dX1_findCount_66 ?_
        obtain ⟨v9, hv9, hf⟩ := o_b1 hf
        refine x_vi (rest := []) (W1 := [x_o1 a_t a_N a_t_acrosses a_t_ups t_closing x5, x_o0 a_b1 a_N b1_c0 b1_c1 b1_c2 b1_c3, x_o4 a_N a_N_inverses a_N_roots N_p, x_ar cI a_N_inverses 200 N_inverses_r, x_ar cI a_N_roots 200 N_roots_r]) ⟨hx, hb, hml, hown, hts⟩ (tX4_rest l D cI a_N a_N_inverses a_N_roots N_p ((v8 * x4) + 1) v9 hv9) (cwV 1 hts gX1_findCount_X4_rest rfl rfl rfl (by decide +kernel) ⟨Nat.le_of_ble_eq_true rfl, Nat.le_of_ble_eq_true rfl⟩) hN hK hP hD hS hA [2] [none, none, some 0, none, none] rfl rfl rfl rfl rfl rfl 0 rfl rfl rfl hl.1 rfl (Nat.le_of_ble_eq_true rfl) dX1_findCount_67 ⟨Nat.zero_le _, Nat.zero_le _⟩ (fun H locs hP hD hS => ?_)
        refine lv_istore (lv' := [(6, .int v9), (0, .ref a_t), (2, .int v1), (3, .int v2), (4, .int v3), (5, .int x4)]) hx hb dX1_findCount_70 hl (by decide) rfl (fun ls hl => ?_)
        refine lv_aload_n hx hb dX1_findCount_72 rfl (lv_at hl 1 rfl) ?_
        refine va_get (D := D) (ci := 1) (C := RX1) (T := TX1) (N := 5) hx hb hts iX1 hown hK hP 0 rfl rfl 0 (by decide) l18 (fun _ h9 => h9) rfl dX1_findCount_73 ?_
        refine lv_iload hx hb dX1_findCount_76 (lv_at hl 0 rfl) ?_
        obtain ⟨v10, hv10, hf⟩ := o_b1 hf
        refine x_vi (rest := []) (W1 := [x_o1 a_t a_N a_t_acrosses a_t_ups t_closing x5, x_o0 a_b1 a_N b1_c0 b1_c1 b1_c2 b1_c3, x_o4 a_N a_N_inverses a_N_roots N_p, x_ar cI a_N_inverses 200 N_inverses_r, x_ar cI a_N_roots 200 N_roots_r]) ⟨hx, hb, hml, hown, hts⟩ (tX4_rootOf l D cI a_N a_N_inverses a_N_roots N_p N_roots_r v9 v10 hv10) (cwV 1 hts gX1_findCount_X4_rootOf rfl rfl rfl (by decide +kernel) ⟨Nat.le_of_ble_eq_true rfl, Nat.le_of_ble_eq_true rfl⟩) hN hK hP hD hS hA [2, 4] [none, none, some 0, none, some 1] rfl rfl rfl rfl rfl rfl 0 rfl rfl rfl hl.1 rfl (Nat.le_of_ble_eq_true rfl) dX1_findCount_78 ⟨Nat.zero_le _, Nat.zero_le _⟩ (fun H locs hP hD hS => ?_)
        refine lv_istore (lv' := [(7, .int v10), (6, .int v9), (0, .ref a_t), (2, .int v1), (3, .int v2), (4, .int v3), (5, .int x4)]) hx hb dX1_findCount_81 hl (by decide) rfl (fun ls hl => ?_)
        refine lv_iload hx hb dX1_findCount_83 (lv_at hl 0 rfl) ?_
        refine lv_bipush (v := (-6)) hx hb dX1_findCount_85 (by decide) ?_
        have J109 : ∀ (y11 : Int32) (ls : Array Slot) (H : Heap) (locs : List Loc), jX1_findCount_109 x4 (gX1_findCount_27 N_p N_roots_r v1 v2 v3 (kX1_findCount_115) n27) y11 = some s_t_pointCount → lv_has ls 8 [(0, .ref a_t), (2, .int v1), (3, .int v2), (4, .int v3), (5, .int x4)] → va_P D vwCl [x_o1 a_t a_N a_t_acrosses a_t_ups t_closing y11, x_o0 a_b1 a_N b1_c0 b1_c1 b1_c2 b1_c3, x_o4 a_N a_N_inverses a_N_roots N_p, x_ar cI a_N_inverses 200 N_inverses_r, x_ar cI a_N_roots 200 N_roots_r] H → va_D A [x_o1 a_t a_N a_t_acrosses a_t_ups t_closing y11, x_o0 a_b1 a_N b1_c0 b1_c1 b1_c2 b1_c3, x_o4 a_N a_N_inverses a_N_roots N_p, x_ar cI a_N_inverses 200 N_inverses_r, x_ar cI a_N_roots 200 N_roots_r] → va_S A s.heap H locs → W p l e rmX1_findCount s m args below meth c H locs 0 0 Q (F0 m 109 ls []) := by
          intro y11 ls H locs hf hl hP hD hS
          unfold jX1_findCount_109 at hf
          obtain ⟨v12, ev12, hf⟩ := o_nm hf
          refine lv_iinc (v := v12) (lv' := [(5, .int v12), (0, .ref a_t), (2, .int v1), (3, .int v2), (4, .int v3)]) hx hb dX1_findCount_109 hl (k := 4) rfl (by rw [ev12]; rfl) (by decide) rfl (fun ls hl => ?_)
          refine lv_goto (tgt := 27) hx hb dX1_findCount_112 (by decide) ?_
          exact ih27 v12 y11 _ _ _ hf (lv_sub hl [1, 2, 3, 4, 0] rfl) hP hD hS
        refine lv_icmp_eq (tgt := 109) hx hb dX1_findCount_87 (by decide) (fun hc => ?_) (fun hc => ?_)
        · have hf := o_t hf hc
          exact J109 x5 _ _ _ hf (lv_sub hl [2, 3, 4, 5, 6] rfl) hP hD hS
        · have hf := o_f hf hc
          refine lv_aload_n hx hb dX1_findCount_90 rfl (lv_at hl 2 rfl) ?_
          refine lv_dup hx hb dX1_findCount_91 rfl ?_
          refine va_get (D := D) (ci := 1) (C := RX1) (T := TX1) (N := 5) hx hb hts iX1 hown hK hP 0 rfl rfl 4 (by decide) l26 (fun _ h9 => h9) rfl dX1_findCount_92 ?_
          refine lv_iload hx hb dX1_findCount_95 (lv_at hl 0 rfl) ?_
          have J105 : ∀ (y13 : Int32) (ls : Array Slot) (H : Heap) (locs : List Loc), jX1_findCount_105 x4 x5 (gX1_findCount_27 N_p N_roots_r v1 v2 v3 (kX1_findCount_115) n27) y13 = some s_t_pointCount → lv_has ls 8 [(0, .ref a_t), (2, .int v1), (3, .int v2), (4, .int v3), (5, .int x4)] → va_P D vwCl [x_o1 a_t a_N a_t_acrosses a_t_ups t_closing x5, x_o0 a_b1 a_N b1_c0 b1_c1 b1_c2 b1_c3, x_o4 a_N a_N_inverses a_N_roots N_p, x_ar cI a_N_inverses 200 N_inverses_r, x_ar cI a_N_roots 200 N_roots_r] H → va_D A [x_o1 a_t a_N a_t_acrosses a_t_ups t_closing x5, x_o0 a_b1 a_N b1_c0 b1_c1 b1_c2 b1_c3, x_o4 a_N a_N_inverses a_N_roots N_p, x_ar cI a_N_inverses 200 N_inverses_r, x_ar cI a_N_roots 200 N_roots_r] → va_S A s.heap H locs → W p l e rmX1_findCount s m args below meth c H locs 0 0 Q (F0 m 105 ls [.int y13, .int x5, .ref a_t]) := by
            intro y13 ls H locs hf hl hP hD hS
            unfold jX1_findCount_105 at hf
            refine lv_iadd hx hb dX1_findCount_105 ?_
            obtain ⟨v14, ev14, hf⟩ := o_nm hf
            refine x_top ev14 ?_
            refine x_put (W1 := [x_o1 a_t a_N a_t_acrosses a_t_ups t_closing v14, x_o0 a_b1 a_N b1_c0 b1_c1 b1_c2 b1_c3, x_o4 a_N a_N_inverses a_N_roots N_p, x_ar cI a_N_inverses 200 N_inverses_r, x_ar cI a_N_roots 200 N_roots_r]) (ty := .int) (C := RX1) (T := TX1) (N := 5) hx hb hts iX1 tyX1 tyX1_ok nmX1 hown hK hP hD hS 0 rfl rfl 4 (by decide) l26 rfl rfl (by decide +kernel) rfl rfl (Nat.le_of_ble_eq_true rfl) rfl dX1_findCount_106 (fun H locs hP hD hS => ?_)
            exact J109 v14 _ _ _ hf (lv_sub hl [0, 1, 2, 3, 4] rfl) hP hD hS
          refine lv_if_ne (tgt := 104) hx hb dX1_findCount_97 (by decide) (fun hc => ?_) (fun hc => ?_)
          · have hf := o_f hf hc
            refine lv_iconst (v := 2) hx hb dX1_findCount_104 (by decide) ?_
            exact J105 2 _ _ _ hf (lv_sub hl [2, 3, 4, 5, 6] rfl) hP hD hS
          · have hf := o_t hf hc
            refine lv_iconst (v := 1) hx hb dX1_findCount_100 (by decide) ?_
            refine lv_goto (tgt := 105) hx hb dX1_findCount_101 (by decide) ?_
            exact J105 1 _ _ _ hf (lv_sub hl [2, 3, 4, 5, 6] rfl) hP hD hS
  exact L27 p_FU 0 1 _ _ _ hf (lv_sub hl [4, 3, 2, 1, 0] rfl) hP hD hS
noncomputable def kX1_findMultiples_189 (y13 : Int32) (y14 : Int32) (y15 : Int32) (w16 : (Nat → Int32)) (w17 : (Nat → Int32)) : Option (Int32 × (Nat → Int32) × (Nat → Int32)) :=
  p_b1 (p_st w16 256 y15 y13) (fun u18 =>
p_b1 (p_st w17 256 y15 y14) (fun u19 =>
p_nm (y15 + 1) (fun v20 =>
some (v20, u18, u19))))
noncomputable def jX1_findMultiples_131 (N_p : Int32) (v2 : Int32) (v4 : Int32) (x8 : Int32) (x10 : Int32) (rec61 : Int32 → Int32 → Int32 → (Nat → Int32) → (Nat → Int32) → Option (Int32 × (Nat → Int32) × (Nat → Int32))) (u21 : (Nat → Int32)) (u22 : (Nat → Int32)) (y23 : Int32) : Option (Int32 × (Nat → Int32) × (Nat → Int32)) :=
  p_b1 (fX4_rest N_p y23) (fun v24 =>
p_b1 (fX4_rest N_p ((((v24 * v24) - v2) * v4) - x8)) (fun v25 =>
p_b1 (fX4_rest N_p (((-v24) * v25) - 1)) (fun v26 =>
p_nm (x10 + 1) (fun v27 =>
rec61 v25 v26 v27 u21 u22))))
noncomputable def jX1_findMultiples_81 (N_p : Int32) (N_inverses_r : (Nat → Int32)) (v1 : Int32) (v2 : Int32) (v4 : Int32) (x8 : Int32) (x9 : Int32) (x10 : Int32) (z11 : (Nat → Int32)) (z12 : (Nat → Int32)) (rec61 : Int32 → Int32 → Int32 → (Nat → Int32) → (Nat → Int32) → Option (Int32 × (Nat → Int32) × (Nat → Int32))) : Option (Int32 × (Nat → Int32) × (Nat → Int32)) :=
  p_b1 (p_st z11 256 x10 x8) (fun u21 =>
p_b1 (p_st z12 256 x10 x9) (fun u22 =>
if x8 = 0 then (p_b1 (fX4_inverseOf N_p N_inverses_r 2) (fun v29 =>
jX1_findMultiples_131 N_p v2 v4 x8 x10 rec61 u21 u22 (v1 * v29))) else (p_b1 (fX4_inverseOf N_p N_inverses_r x8) (fun v28 =>
jX1_findMultiples_131 N_p v2 v4 x8 x10 rec61 u21 u22 ((x9 - 1) * v28)))))
noncomputable def FgX1_findMultiples_61 (N_p : Int32) (N_inverses_r : (Nat → Int32)) (v1 : Int32) (v2 : Int32) (v4 : Int32) (v5 : Int32) (rec61 : Int32 → Int32 → Int32 → (Nat → Int32) → (Nat → Int32) → Option (Int32 × (Nat → Int32) × (Nat → Int32))) (kk61 : Int32 → Int32 → Int32 → (Nat → Int32) → (Nat → Int32) → Option (Int32 × (Nat → Int32) × (Nat → Int32))) (x8 : Int32) (x9 : Int32) (x10 : Int32) (z11 : (Nat → Int32)) (z12 : (Nat → Int32)) : Option (Int32 × (Nat → Int32) × (Nat → Int32)) :=
  if 255 ≤ x10 then (kk61 x8 x9 x10 z11 z12) else (if x8 = 0 then (if x9 = v5 then (kk61 x8 x9 x10 z11 z12) else (jX1_findMultiples_81 N_p N_inverses_r v1 v2 v4 x8 x9 x10 z11 z12 rec61)) else (jX1_findMultiples_81 N_p N_inverses_r v1 v2 v4 x8 x9 x10 z11 z12 rec61))
noncomputable def gX1_findMultiples_61 (N_p : Int32) (N_inverses_r : (Nat → Int32)) (v1 : Int32) (v2 : Int32) (v4 : Int32) (v5 : Int32) (kk61 : Int32 → Int32 → Int32 → (Nat → Int32) → (Nat → Int32) → Option (Int32 × (Nat → Int32) × (Nat → Int32))) (n : Nat) : Int32 → Int32 → Int32 → (Nat → Int32) → (Nat → Int32) → Option (Int32 × (Nat → Int32) × (Nat → Int32)) := Nat.rec (motive := fun _ => Int32 → Int32 → Int32 → (Nat → Int32) → (Nat → Int32) → Option (Int32 × (Nat → Int32) × (Nat → Int32))) (fun _ _ _ _ _ => none) (fun _ rec61 => FgX1_findMultiples_61 N_p N_inverses_r v1 v2 v4 v5 rec61 kk61) n
noncomputable def fX1_findMultiples (t_closing : Int32) (b1_c0 : Int32) (b1_c1 : Int32) (b1_c2 : Int32) (b1_c3 : Int32) (N_p : Int32) (N_inverses_r : (Nat → Int32)) (t_acrosses_r : (Nat → Int32)) (t_ups_r : (Nat → Int32)) : Option (Int32 × (Nat → Int32) × (Nat → Int32)) :=
  p_b1 (fX0_partByFirst b1_c0 b1_c1 b1_c2 b1_c3 N_p N_inverses_r 1) (fun v1 =>
p_b1 (fX0_partByFirst b1_c0 b1_c1 b1_c2 b1_c3 N_p N_inverses_r 2) (fun v2 =>
p_b1 (fX0_partByFirst b1_c0 b1_c1 b1_c2 b1_c3 N_p N_inverses_r 3) (fun v3 =>
p_b1 (fX4_inverseOf N_p N_inverses_r v3) (fun v4 =>
p_b1 (fX4_rest N_p (-1)) (fun v5 =>
p_b1 (p_st t_acrosses_r 256 0 (-6)) (fun u6 =>
p_b1 (p_st t_ups_r 256 0 (-6)) (fun u7 =>
gX1_findMultiples_61 N_p N_inverses_r v1 v2 v4 v5 (kX1_findMultiples_189) p_FU 0 1 1 u6 u7)))))))
def rmX1_findMultiples : Room := { frames := 2, cells := 0, slots := 0, locals := 43 }
set_option maxHeartbeats 4000000 in
set_option maxRecDepth 100000 in
theorem tX1_findMultiples (l : Launch) (D : va_G) (cI : ClassId) (a_t : Nat) (a_b1 : Nat) (a_N : Nat) (a_t_acrosses : Nat) (a_t_ups : Nat) (a_N_inverses : Nat) (a_N_roots : Nat) (t_closing : Int32) (t_pointCount : Int32) (b1_c0 : Int32) (b1_c1 : Int32) (b1_c2 : Int32) (b1_c3 : Int32) (N_p : Int32) (N_inverses_r : (Nat → Int32)) (t_acrosses_r : (Nat → Int32)) (t_ups_r : (Nat → Int32)) (s_t_closing : Int32) (s_t_acrosses_r : (Nat → Int32)) (s_t_ups_r : (Nat → Int32)) (hf : fX1_findMultiples t_closing b1_c0 b1_c1 b1_c2 b1_c3 N_p N_inverses_r t_acrosses_r t_ups_r = some (s_t_closing, s_t_acrosses_r, s_t_ups_r)) : x_CV l D cI yX1_findMultiples wsX1_findMultiples rmX1_findMultiples [.ref a_t, .ref a_b1] [x_o1 a_t a_N a_t_acrosses a_t_ups t_closing t_pointCount, x_o0 a_b1 a_N b1_c0 b1_c1 b1_c2 b1_c3, x_o4 a_N a_N_inverses a_N_roots N_p, x_ar cI a_N_inverses 200 N_inverses_r, x_ar cI a_t_acrosses 256 t_acrosses_r, x_ar cI a_t_ups 256 t_ups_r] [x_o1 a_t a_N a_t_acrosses a_t_ups s_t_closing t_pointCount, x_o0 a_b1 a_N b1_c0 b1_c1 b1_c2 b1_c3, x_o4 a_N a_N_inverses a_N_roots N_p, x_ar cI a_N_inverses 200 N_inverses_r, x_ar cI a_t_acrosses 256 s_t_acrosses_r, x_ar cI a_t_ups 256 s_t_ups_r] := by
  refine x_CV_of (cc := cX1_findMultiples) (maxL := 10) (own := RX1) (lv0 := [(0, .ref a_t), (1, .ref a_b1)]) (by decide) rfl rfl (Nat.le_of_ble_eq_true rfl) rfl ?_
  intro p e s m args below meth c A Q ls hx hb hml hown hts hN hK hP hD hS hA hl hret
  have iX1 : ∀ w ∈ u_ws RX1 TX1 5, w ∈ wsX1_findMultiples := by decide +kernel
  have l18 := hts (.fieldLink RX1 18 "ChordRings$Curve" "numbers" "LChordRings$Numbers;") (by decide +kernel)
  have l11 := hts (.fieldLink RX1 11 "ChordRings$Curve" "acrosses" "[I") (by decide +kernel)
  have l15 := hts (.fieldLink RX1 15 "ChordRings$Curve" "ups" "[I") (by decide +kernel)
  have l22 := hts (.fieldLink RX1 22 "ChordRings$Curve" "closing" "I") (by decide +kernel)
  unfold fX1_findMultiples at hf
  refine lv_aload_n hx hb dX1_findMultiples_0 rfl (lv_at hl 1 rfl) ?_
  refine lv_iconst (v := 1) hx hb dX1_findMultiples_1 (by decide) ?_
  obtain ⟨v1, hv1, hf⟩ := o_b1 hf
  refine x_vi (rest := []) (W1 := [x_o1 a_t a_N a_t_acrosses a_t_ups t_closing t_pointCount, x_o0 a_b1 a_N b1_c0 b1_c1 b1_c2 b1_c3, x_o4 a_N a_N_inverses a_N_roots N_p, x_ar cI a_N_inverses 200 N_inverses_r, x_ar cI a_t_acrosses 256 t_acrosses_r, x_ar cI a_t_ups 256 t_ups_r]) ⟨hx, hb, hml, hown, hts⟩ (tX0_partByFirst l D cI a_b1 a_N a_N_inverses a_N_roots b1_c0 b1_c1 b1_c2 b1_c3 N_p N_inverses_r 1 v1 hv1) (cwV 1 hts gX1_findMultiples_X0_partByFirst rfl rfl rfl (by decide +kernel) ⟨Nat.le_of_ble_eq_true rfl, Nat.le_of_ble_eq_true rfl⟩) hN hK hP hD hS hA [1, 2, 3] [none, some 0, some 1, some 2, none, none] rfl rfl rfl rfl rfl rfl 0 rfl rfl rfl hl.1 rfl (Nat.le_of_ble_eq_true rfl) dX1_findMultiples_2 ⟨Nat.zero_le _, Nat.zero_le _⟩ (fun H locs hP hD hS => ?_)
  refine lv_istore_n (lv' := [(2, .int v1), (0, .ref a_t), (1, .ref a_b1)]) hx hb dX1_findMultiples_5 rfl hl (by decide) rfl (fun ls hl => ?_)
  refine lv_aload_n hx hb dX1_findMultiples_6 rfl (lv_at hl 2 rfl) ?_
  refine lv_iconst (v := 2) hx hb dX1_findMultiples_7 (by decide) ?_
  obtain ⟨v2, hv2, hf⟩ := o_b1 hf
  refine x_vi (rest := []) (W1 := [x_o1 a_t a_N a_t_acrosses a_t_ups t_closing t_pointCount, x_o0 a_b1 a_N b1_c0 b1_c1 b1_c2 b1_c3, x_o4 a_N a_N_inverses a_N_roots N_p, x_ar cI a_N_inverses 200 N_inverses_r, x_ar cI a_t_acrosses 256 t_acrosses_r, x_ar cI a_t_ups 256 t_ups_r]) ⟨hx, hb, hml, hown, hts⟩ (tX0_partByFirst l D cI a_b1 a_N a_N_inverses a_N_roots b1_c0 b1_c1 b1_c2 b1_c3 N_p N_inverses_r 2 v2 hv2) (cwV 1 hts gX1_findMultiples_X0_partByFirst rfl rfl rfl (by decide +kernel) ⟨Nat.le_of_ble_eq_true rfl, Nat.le_of_ble_eq_true rfl⟩) hN hK hP hD hS hA [1, 2, 3] [none, some 0, some 1, some 2, none, none] rfl rfl rfl rfl rfl rfl 0 rfl rfl rfl hl.1 rfl (Nat.le_of_ble_eq_true rfl) dX1_findMultiples_8 ⟨Nat.zero_le _, Nat.zero_le _⟩ (fun H locs hP hD hS => ?_)
  refine lv_istore_n (lv' := [(3, .int v2), (2, .int v1), (0, .ref a_t), (1, .ref a_b1)]) hx hb dX1_findMultiples_11 rfl hl (by decide) rfl (fun ls hl => ?_)
  refine lv_aload_n hx hb dX1_findMultiples_12 rfl (lv_at hl 2 rfl) ?_
  refine va_get (D := D) (ci := 1) (C := RX1) (T := TX1) (N := 5) hx hb hts iX1 hown hK hP 0 rfl rfl 0 (by decide) l18 (fun _ h9 => h9) rfl dX1_findMultiples_13 ?_
  refine lv_aload_n hx hb dX1_findMultiples_16 rfl (lv_at hl 3 rfl) ?_
  refine lv_iconst (v := 3) hx hb dX1_findMultiples_17 (by decide) ?_
  obtain ⟨v3, hv3, hf⟩ := o_b1 hf
  refine x_vi (rest := [.ref a_N]) (W1 := [x_o1 a_t a_N a_t_acrosses a_t_ups t_closing t_pointCount, x_o0 a_b1 a_N b1_c0 b1_c1 b1_c2 b1_c3, x_o4 a_N a_N_inverses a_N_roots N_p, x_ar cI a_N_inverses 200 N_inverses_r, x_ar cI a_t_acrosses 256 t_acrosses_r, x_ar cI a_t_ups 256 t_ups_r]) ⟨hx, hb, hml, hown, hts⟩ (tX0_partByFirst l D cI a_b1 a_N a_N_inverses a_N_roots b1_c0 b1_c1 b1_c2 b1_c3 N_p N_inverses_r 3 v3 hv3) (cwV 1 hts gX1_findMultiples_X0_partByFirst rfl rfl rfl (by decide +kernel) ⟨Nat.le_of_ble_eq_true rfl, Nat.le_of_ble_eq_true rfl⟩) hN hK hP hD hS hA [1, 2, 3] [none, some 0, some 1, some 2, none, none] rfl rfl rfl rfl rfl rfl 0 rfl rfl rfl hl.1 rfl (Nat.le_of_ble_eq_true rfl) dX1_findMultiples_18 ⟨Nat.zero_le _, Nat.zero_le _⟩ (fun H locs hP hD hS => ?_)
  obtain ⟨v4, hv4, hf⟩ := o_b1 hf
  refine x_vi (rest := []) (W1 := [x_o1 a_t a_N a_t_acrosses a_t_ups t_closing t_pointCount, x_o0 a_b1 a_N b1_c0 b1_c1 b1_c2 b1_c3, x_o4 a_N a_N_inverses a_N_roots N_p, x_ar cI a_N_inverses 200 N_inverses_r, x_ar cI a_t_acrosses 256 t_acrosses_r, x_ar cI a_t_ups 256 t_ups_r]) ⟨hx, hb, hml, hown, hts⟩ (tX4_inverseOf l D cI a_N a_N_inverses a_N_roots N_p N_inverses_r v3 v4 hv4) (cwV 1 hts gX1_findMultiples_X4_inverseOf rfl rfl rfl (by decide +kernel) ⟨Nat.le_of_ble_eq_true rfl, Nat.le_of_ble_eq_true rfl⟩) hN hK hP hD hS hA [2, 3] [none, none, some 0, some 1, none, none] rfl rfl rfl rfl rfl rfl 0 rfl rfl rfl hl.1 rfl (Nat.le_of_ble_eq_true rfl) dX1_findMultiples_21 ⟨Nat.zero_le _, Nat.zero_le _⟩ (fun H locs hP hD hS => ?_)
  refine lv_istore (lv' := [(4, .int v4), (3, .int v2), (2, .int v1), (0, .ref a_t), (1, .ref a_b1)]) hx hb dX1_findMultiples_24 hl (by decide) rfl (fun ls hl => ?_)
  refine lv_aload_n hx hb dX1_findMultiples_26 rfl (lv_at hl 3 rfl) ?_
  refine va_get (D := D) (ci := 1) (C := RX1) (T := TX1) (N := 5) hx hb hts iX1 hown hK hP 0 rfl rfl 0 (by decide) l18 (fun _ h9 => h9) rfl dX1_findMultiples_27 ?_
  refine lv_iconst (v := (-1)) hx hb dX1_findMultiples_30 (by decide) ?_
  obtain ⟨v5, hv5, hf⟩ := o_b1 hf
  refine x_vi (rest := []) (W1 := [x_o1 a_t a_N a_t_acrosses a_t_ups t_closing t_pointCount, x_o0 a_b1 a_N b1_c0 b1_c1 b1_c2 b1_c3, x_o4 a_N a_N_inverses a_N_roots N_p, x_ar cI a_N_inverses 200 N_inverses_r, x_ar cI a_t_acrosses 256 t_acrosses_r, x_ar cI a_t_ups 256 t_ups_r]) ⟨hx, hb, hml, hown, hts⟩ (tX4_rest l D cI a_N a_N_inverses a_N_roots N_p (-1) v5 hv5) (cwV 1 hts gX1_findMultiples_X4_rest rfl rfl rfl (by decide +kernel) ⟨Nat.le_of_ble_eq_true rfl, Nat.le_of_ble_eq_true rfl⟩) hN hK hP hD hS hA [2] [none, none, some 0, none, none, none] rfl rfl rfl rfl rfl rfl 0 rfl rfl rfl hl.1 rfl (Nat.le_of_ble_eq_true rfl) dX1_findMultiples_31 ⟨Nat.zero_le _, Nat.zero_le _⟩ (fun H locs hP hD hS => ?_)
  refine lv_istore (lv' := [(5, .int v5), (4, .int v4), (3, .int v2), (2, .int v1), (0, .ref a_t), (1, .ref a_b1)]) hx hb dX1_findMultiples_34 hl (by decide) rfl (fun ls hl => ?_)
  refine lv_aload_n hx hb dX1_findMultiples_36 rfl (lv_at hl 4 rfl) ?_
  refine va_get (D := D) (ci := 1) (C := RX1) (T := TX1) (N := 5) hx hb hts iX1 hown hK hP 0 rfl rfl 1 (by decide) l11 (fun _ h9 => h9) rfl dX1_findMultiples_37 ?_
  refine lv_iconst (v := 0) hx hb dX1_findMultiples_40 (by decide) ?_
  refine lv_bipush (v := (-6)) hx hb dX1_findMultiples_41 (by decide) ?_
  obtain ⟨u6, hu6, hf⟩ := o_b1 hf
  refine x_ast (W1 := [x_o1 a_t a_N a_t_acrosses a_t_ups t_closing t_pointCount, x_o0 a_b1 a_N b1_c0 b1_c1 b1_c2 b1_c3, x_o4 a_N a_N_inverses a_N_roots N_p, x_ar cI a_N_inverses 200 N_inverses_r, x_ar cI a_t_acrosses 256 u6, x_ar cI a_t_ups 256 t_ups_r]) hx hb hK hP hD hS 4 rfl hu6 rfl dX1_findMultiples_43 (fun H locs hP hD hS => ?_)
  refine lv_aload_n hx hb dX1_findMultiples_44 rfl (lv_at hl 4 rfl) ?_
  refine va_get (D := D) (ci := 1) (C := RX1) (T := TX1) (N := 5) hx hb hts iX1 hown hK hP 0 rfl rfl 2 (by decide) l15 (fun _ h9 => h9) rfl dX1_findMultiples_45 ?_
  refine lv_iconst (v := 0) hx hb dX1_findMultiples_48 (by decide) ?_
  refine lv_bipush (v := (-6)) hx hb dX1_findMultiples_49 (by decide) ?_
  obtain ⟨u7, hu7, hf⟩ := o_b1 hf
  refine x_ast (W1 := [x_o1 a_t a_N a_t_acrosses a_t_ups t_closing t_pointCount, x_o0 a_b1 a_N b1_c0 b1_c1 b1_c2 b1_c3, x_o4 a_N a_N_inverses a_N_roots N_p, x_ar cI a_N_inverses 200 N_inverses_r, x_ar cI a_t_acrosses 256 u6, x_ar cI a_t_ups 256 u7]) hx hb hK hP hD hS 5 rfl hu7 rfl dX1_findMultiples_51 (fun H locs hP hD hS => ?_)
  refine lv_iconst (v := 0) hx hb dX1_findMultiples_52 (by decide) ?_
  refine lv_istore (lv' := [(6, .int 0), (5, .int v5), (4, .int v4), (3, .int v2), (2, .int v1), (0, .ref a_t), (1, .ref a_b1)]) hx hb dX1_findMultiples_53 hl (by decide) rfl (fun ls hl => ?_)
  refine lv_iconst (v := 1) hx hb dX1_findMultiples_55 (by decide) ?_
  refine lv_istore (lv' := [(7, .int 1), (6, .int 0), (5, .int v5), (4, .int v4), (3, .int v2), (2, .int v1), (0, .ref a_t), (1, .ref a_b1)]) hx hb dX1_findMultiples_56 hl (by decide) rfl (fun ls hl => ?_)
  refine lv_iconst (v := 1) hx hb dX1_findMultiples_58 (by decide) ?_
  refine lv_istore (lv' := [(8, .int 1), (7, .int 1), (6, .int 0), (5, .int v5), (4, .int v4), (3, .int v2), (2, .int v1), (0, .ref a_t), (1, .ref a_b1)]) hx hb dX1_findMultiples_59 hl (by decide) rfl (fun ls hl => ?_)
  have L61 : ∀ (n : Nat) (x8 : Int32) (x9 : Int32) (x10 : Int32) (z11 : (Nat → Int32)) (z12 : (Nat → Int32)) (ls : Array Slot) (H : Heap) (locs : List Loc), gX1_findMultiples_61 N_p N_inverses_r v1 v2 v4 v5 (kX1_findMultiples_189) n x8 x9 x10 z11 z12 = some (s_t_closing, s_t_acrosses_r, s_t_ups_r) → lv_has ls 10 [(0, .ref a_t), (2, .int v1), (3, .int v2), (4, .int v4), (5, .int v5), (6, .int x8), (7, .int x9), (8, .int x10)] → va_P D vwCl [x_o1 a_t a_N a_t_acrosses a_t_ups t_closing t_pointCount, x_o0 a_b1 a_N b1_c0 b1_c1 b1_c2 b1_c3, x_o4 a_N a_N_inverses a_N_roots N_p, x_ar cI a_N_inverses 200 N_inverses_r, x_ar cI a_t_acrosses 256 z11, x_ar cI a_t_ups 256 z12] H → va_D A [x_o1 a_t a_N a_t_acrosses a_t_ups t_closing t_pointCount, x_o0 a_b1 a_N b1_c0 b1_c1 b1_c2 b1_c3, x_o4 a_N a_N_inverses a_N_roots N_p, x_ar cI a_N_inverses 200 N_inverses_r, x_ar cI a_t_acrosses 256 z11, x_ar cI a_t_ups 256 z12] → va_S A s.heap H locs → W p l e rmX1_findMultiples s m args below meth c H locs 0 0 Q (F0 m 61 ls []) := by
    intro n61
    induction n61 with
    | zero =>
      intro x8 x9 x10 z11 z12 ls H locs hf
      exact nomatch (show (none : Option (Int32 × (Nat → Int32) × (Nat → Int32))) = some (s_t_closing, s_t_acrosses_r, s_t_ups_r) from hf)
    | succ n61 ih61 =>
      intro x8 x9 x10 z11 z12 ls H locs hf hl hP hD hS
      have hf : FgX1_findMultiples_61 N_p N_inverses_r v1 v2 v4 v5 (gX1_findMultiples_61 N_p N_inverses_r v1 v2 v4 v5 (kX1_findMultiples_189) n61) (kX1_findMultiples_189) x8 x9 x10 z11 z12 = some (s_t_closing, s_t_acrosses_r, s_t_ups_r) := hf
      unfold FgX1_findMultiples_61 at hf
      refine lv_iload hx hb dX1_findMultiples_61 (lv_at hl 7 rfl) ?_
      refine lv_sipush (v := 255) hx hb dX1_findMultiples_63 (by decide) ?_
      have J189 : ∀ (y13 : Int32) (y14 : Int32) (y15 : Int32) (w16 : (Nat → Int32)) (w17 : (Nat → Int32)) (ls : Array Slot) (H : Heap) (locs : List Loc), kX1_findMultiples_189 y13 y14 y15 w16 w17 = some (s_t_closing, s_t_acrosses_r, s_t_ups_r) → lv_has ls 10 [(0, .ref a_t), (6, .int y13), (7, .int y14), (8, .int y15)] → va_P D vwCl [x_o1 a_t a_N a_t_acrosses a_t_ups t_closing t_pointCount, x_o0 a_b1 a_N b1_c0 b1_c1 b1_c2 b1_c3, x_o4 a_N a_N_inverses a_N_roots N_p, x_ar cI a_N_inverses 200 N_inverses_r, x_ar cI a_t_acrosses 256 w16, x_ar cI a_t_ups 256 w17] H → va_D A [x_o1 a_t a_N a_t_acrosses a_t_ups t_closing t_pointCount, x_o0 a_b1 a_N b1_c0 b1_c1 b1_c2 b1_c3, x_o4 a_N a_N_inverses a_N_roots N_p, x_ar cI a_N_inverses 200 N_inverses_r, x_ar cI a_t_acrosses 256 w16, x_ar cI a_t_ups 256 w17] → va_S A s.heap H locs → W p l e rmX1_findMultiples s m args below meth c H locs 0 0 Q (F0 m 189 ls []) := by
        intro y13 y14 y15 w16 w17 ls H locs hf hl hP hD hS
        unfold kX1_findMultiples_189 at hf
        refine lv_aload_n hx hb dX1_findMultiples_189 rfl (lv_at hl 0 rfl) ?_
        refine va_get (D := D) (ci := 1) (C := RX1) (T := TX1) (N := 5) hx hb hts iX1 hown hK hP 0 rfl rfl 1 (by decide) l11 (fun _ h9 => h9) rfl dX1_findMultiples_190 ?_
        refine lv_iload hx hb dX1_findMultiples_193 (lv_at hl 3 rfl) ?_
        refine lv_iload hx hb dX1_findMultiples_195 (lv_at hl 1 rfl) ?_
        obtain ⟨u18, hu18, hf⟩ := o_b1 hf
        refine x_ast (W1 := [x_o1 a_t a_N a_t_acrosses a_t_ups t_closing t_pointCount, x_o0 a_b1 a_N b1_c0 b1_c1 b1_c2 b1_c3, x_o4 a_N a_N_inverses a_N_roots N_p, x_ar cI a_N_inverses 200 N_inverses_r, x_ar cI a_t_acrosses 256 u18, x_ar cI a_t_ups 256 w17]) hx hb hK hP hD hS 4 rfl hu18 rfl dX1_findMultiples_197 (fun H locs hP hD hS => ?_)
        refine lv_aload_n hx hb dX1_findMultiples_198 rfl (lv_at hl 0 rfl) ?_
        refine va_get (D := D) (ci := 1) (C := RX1) (T := TX1) (N := 5) hx hb hts iX1 hown hK hP 0 rfl rfl 2 (by decide) l15 (fun _ h9 => h9) rfl dX1_findMultiples_199 ?_
        refine lv_iload hx hb dX1_findMultiples_202 (lv_at hl 3 rfl) ?_
        refine lv_iload hx hb dX1_findMultiples_204 (lv_at hl 2 rfl) ?_
        obtain ⟨u19, hu19, hf⟩ := o_b1 hf
        refine x_ast (W1 := [x_o1 a_t a_N a_t_acrosses a_t_ups t_closing t_pointCount, x_o0 a_b1 a_N b1_c0 b1_c1 b1_c2 b1_c3, x_o4 a_N a_N_inverses a_N_roots N_p, x_ar cI a_N_inverses 200 N_inverses_r, x_ar cI a_t_acrosses 256 u18, x_ar cI a_t_ups 256 u19]) hx hb hK hP hD hS 5 rfl hu19 rfl dX1_findMultiples_206 (fun H locs hP hD hS => ?_)
        refine lv_aload_n hx hb dX1_findMultiples_207 rfl (lv_at hl 0 rfl) ?_
        refine lv_iload hx hb dX1_findMultiples_208 (lv_at hl 3 rfl) ?_
        refine lv_iconst (v := 1) hx hb dX1_findMultiples_210 (by decide) ?_
        refine lv_iadd hx hb dX1_findMultiples_211 ?_
        obtain ⟨v20, ev20, hf⟩ := o_nm hf
        refine x_top ev20 ?_
        refine x_put (W1 := [x_o1 a_t a_N a_t_acrosses a_t_ups v20 t_pointCount, x_o0 a_b1 a_N b1_c0 b1_c1 b1_c2 b1_c3, x_o4 a_N a_N_inverses a_N_roots N_p, x_ar cI a_N_inverses 200 N_inverses_r, x_ar cI a_t_acrosses 256 u18, x_ar cI a_t_ups 256 u19]) (ty := .int) (C := RX1) (T := TX1) (N := 5) hx hb hts iX1 tyX1 tyX1_ok nmX1 hown hK hP hD hS 0 rfl rfl 3 (by decide) l22 rfl rfl (by decide +kernel) rfl rfl (Nat.le_of_ble_eq_true rfl) rfl dX1_findMultiples_212 (fun H locs hP hD hS => ?_)
        obtain ⟨rfl, rfl, rfl⟩ := o_s3 hf
        exact hret dX1_findMultiples_215 hP hD hS
      refine lv_icmp_ge (tgt := 189) hx hb dX1_findMultiples_66 (by decide) (fun hc => ?_) (fun hc => ?_)
      · have hf := o_t hf hc
        exact J189 x8 x9 x10 z11 z12 _ _ _ hf (lv_sub hl [0, 5, 6, 7] rfl) hP hD hS
      · have hf := o_f hf hc
        refine lv_iload hx hb dX1_findMultiples_69 (lv_at hl 5 rfl) ?_
        have J81 : ∀ (ls : Array Slot) (H : Heap) (locs : List Loc), jX1_findMultiples_81 N_p N_inverses_r v1 v2 v4 x8 x9 x10 z11 z12 (gX1_findMultiples_61 N_p N_inverses_r v1 v2 v4 v5 (kX1_findMultiples_189) n61) = some (s_t_closing, s_t_acrosses_r, s_t_ups_r) → lv_has ls 10 [(0, .ref a_t), (2, .int v1), (3, .int v2), (4, .int v4), (5, .int v5), (6, .int x8), (7, .int x9), (8, .int x10)] → va_P D vwCl [x_o1 a_t a_N a_t_acrosses a_t_ups t_closing t_pointCount, x_o0 a_b1 a_N b1_c0 b1_c1 b1_c2 b1_c3, x_o4 a_N a_N_inverses a_N_roots N_p, x_ar cI a_N_inverses 200 N_inverses_r, x_ar cI a_t_acrosses 256 z11, x_ar cI a_t_ups 256 z12] H → va_D A [x_o1 a_t a_N a_t_acrosses a_t_ups t_closing t_pointCount, x_o0 a_b1 a_N b1_c0 b1_c1 b1_c2 b1_c3, x_o4 a_N a_N_inverses a_N_roots N_p, x_ar cI a_N_inverses 200 N_inverses_r, x_ar cI a_t_acrosses 256 z11, x_ar cI a_t_ups 256 z12] → va_S A s.heap H locs → W p l e rmX1_findMultiples s m args below meth c H locs 0 0 Q (F0 m 81 ls []) := by
          intro ls H locs hf hl hP hD hS
          unfold jX1_findMultiples_81 at hf
          refine lv_aload_n hx hb dX1_findMultiples_81 rfl (lv_at hl 0 rfl) ?_
          refine va_get (D := D) (ci := 1) (C := RX1) (T := TX1) (N := 5) hx hb hts iX1 hown hK hP 0 rfl rfl 1 (by decide) l11 (fun _ h9 => h9) rfl dX1_findMultiples_82 ?_
          refine lv_iload hx hb dX1_findMultiples_85 (lv_at hl 7 rfl) ?_
          refine lv_iload hx hb dX1_findMultiples_87 (lv_at hl 5 rfl) ?_
          obtain ⟨u21, hu21, hf⟩ := o_b1 hf
          refine x_ast (W1 := [x_o1 a_t a_N a_t_acrosses a_t_ups t_closing t_pointCount, x_o0 a_b1 a_N b1_c0 b1_c1 b1_c2 b1_c3, x_o4 a_N a_N_inverses a_N_roots N_p, x_ar cI a_N_inverses 200 N_inverses_r, x_ar cI a_t_acrosses 256 u21, x_ar cI a_t_ups 256 z12]) hx hb hK hP hD hS 4 rfl hu21 rfl dX1_findMultiples_89 (fun H locs hP hD hS => ?_)
          refine lv_aload_n hx hb dX1_findMultiples_90 rfl (lv_at hl 0 rfl) ?_
          refine va_get (D := D) (ci := 1) (C := RX1) (T := TX1) (N := 5) hx hb hts iX1 hown hK hP 0 rfl rfl 2 (by decide) l15 (fun _ h9 => h9) rfl dX1_findMultiples_91 ?_
          refine lv_iload hx hb dX1_findMultiples_94 (lv_at hl 7 rfl) ?_
          refine lv_iload hx hb dX1_findMultiples_96 (lv_at hl 6 rfl) ?_
          obtain ⟨u22, hu22, hf⟩ := o_b1 hf
          refine x_ast (W1 := [x_o1 a_t a_N a_t_acrosses a_t_ups t_closing t_pointCount, x_o0 a_b1 a_N b1_c0 b1_c1 b1_c2 b1_c3, x_o4 a_N a_N_inverses a_N_roots N_p, x_ar cI a_N_inverses 200 N_inverses_r, x_ar cI a_t_acrosses 256 u21, x_ar cI a_t_ups 256 u22]) hx hb hK hP hD hS 5 rfl hu22 rfl dX1_findMultiples_98 (fun H locs hP hD hS => ?_)
          refine lv_iload hx hb dX1_findMultiples_99 (lv_at hl 5 rfl) ?_
          have J131 : ∀ (y23 : Int32) (ls : Array Slot) (H : Heap) (locs : List Loc), jX1_findMultiples_131 N_p v2 v4 x8 x10 (gX1_findMultiples_61 N_p N_inverses_r v1 v2 v4 v5 (kX1_findMultiples_189) n61) u21 u22 y23 = some (s_t_closing, s_t_acrosses_r, s_t_ups_r) → lv_has ls 10 [(0, .ref a_t), (2, .int v1), (3, .int v2), (4, .int v4), (5, .int v5), (6, .int x8), (8, .int x10)] → va_P D vwCl [x_o1 a_t a_N a_t_acrosses a_t_ups t_closing t_pointCount, x_o0 a_b1 a_N b1_c0 b1_c1 b1_c2 b1_c3, x_o4 a_N a_N_inverses a_N_roots N_p, x_ar cI a_N_inverses 200 N_inverses_r, x_ar cI a_t_acrosses 256 u21, x_ar cI a_t_ups 256 u22] H → va_D A [x_o1 a_t a_N a_t_acrosses a_t_ups t_closing t_pointCount, x_o0 a_b1 a_N b1_c0 b1_c1 b1_c2 b1_c3, x_o4 a_N a_N_inverses a_N_roots N_p, x_ar cI a_N_inverses 200 N_inverses_r, x_ar cI a_t_acrosses 256 u21, x_ar cI a_t_ups 256 u22] → va_S A s.heap H locs → W p l e rmX1_findMultiples s m args below meth c H locs 0 0 Q (F0 m 131 ls [.int y23]) := by
            intro y23 ls H locs hf hl hP hD hS
            unfold jX1_findMultiples_131 at hf
            refine lv_istore (lv' := [(9, .int y23), (0, .ref a_t), (2, .int v1), (3, .int v2), (4, .int v4), (5, .int v5), (6, .int x8), (8, .int x10)]) hx hb dX1_findMultiples_131 hl (by decide) rfl (fun ls hl => ?_)
            refine lv_aload_n hx hb dX1_findMultiples_133 rfl (lv_at hl 1 rfl) ?_
            refine va_get (D := D) (ci := 1) (C := RX1) (T := TX1) (N := 5) hx hb hts iX1 hown hK hP 0 rfl rfl 0 (by decide) l18 (fun _ h9 => h9) rfl dX1_findMultiples_134 ?_
            refine lv_iload hx hb dX1_findMultiples_137 (lv_at hl 0 rfl) ?_
            obtain ⟨v24, hv24, hf⟩ := o_b1 hf
            refine x_vi (rest := []) (W1 := [x_o1 a_t a_N a_t_acrosses a_t_ups t_closing t_pointCount, x_o0 a_b1 a_N b1_c0 b1_c1 b1_c2 b1_c3, x_o4 a_N a_N_inverses a_N_roots N_p, x_ar cI a_N_inverses 200 N_inverses_r, x_ar cI a_t_acrosses 256 u21, x_ar cI a_t_ups 256 u22]) ⟨hx, hb, hml, hown, hts⟩ (tX4_rest l D cI a_N a_N_inverses a_N_roots N_p y23 v24 hv24) (cwV 1 hts gX1_findMultiples_X4_rest rfl rfl rfl (by decide +kernel) ⟨Nat.le_of_ble_eq_true rfl, Nat.le_of_ble_eq_true rfl⟩) hN hK hP hD hS hA [2] [none, none, some 0, none, none, none] rfl rfl rfl rfl rfl rfl 0 rfl rfl rfl hl.1 rfl (Nat.le_of_ble_eq_true rfl) dX1_findMultiples_139 ⟨Nat.zero_le _, Nat.zero_le _⟩ (fun H locs hP hD hS => ?_)
            refine lv_istore (lv' := [(9, .int v24), (0, .ref a_t), (2, .int v1), (3, .int v2), (4, .int v4), (5, .int v5), (6, .int x8), (8, .int x10)]) hx hb dX1_findMultiples_142 hl (by decide) rfl (fun ls hl => ?_)
            refine lv_aload_n hx hb dX1_findMultiples_144 rfl (lv_at hl 1 rfl) ?_
            refine va_get (D := D) (ci := 1) (C := RX1) (T := TX1) (N := 5) hx hb hts iX1 hown hK hP 0 rfl rfl 0 (by decide) l18 (fun _ h9 => h9) rfl dX1_findMultiples_145 ?_
            refine lv_iload hx hb dX1_findMultiples_148 (lv_at hl 0 rfl) ?_
            refine lv_iload hx hb dX1_findMultiples_150 (lv_at hl 0 rfl) ?_
            refine lv_imul hx hb dX1_findMultiples_152 ?_
            refine lv_iload_n hx hb dX1_findMultiples_153 rfl (lv_at hl 3 rfl) ?_
            refine lv_isub hx hb dX1_findMultiples_154 ?_
            refine lv_iload hx hb dX1_findMultiples_155 (lv_at hl 4 rfl) ?_
            refine lv_imul hx hb dX1_findMultiples_157 ?_
            refine lv_iload hx hb dX1_findMultiples_158 (lv_at hl 6 rfl) ?_
            refine lv_isub hx hb dX1_findMultiples_160 ?_
            obtain ⟨v25, hv25, hf⟩ := o_b1 hf
            refine x_vi (rest := []) (W1 := [x_o1 a_t a_N a_t_acrosses a_t_ups t_closing t_pointCount, x_o0 a_b1 a_N b1_c0 b1_c1 b1_c2 b1_c3, x_o4 a_N a_N_inverses a_N_roots N_p, x_ar cI a_N_inverses 200 N_inverses_r, x_ar cI a_t_acrosses 256 u21, x_ar cI a_t_ups 256 u22]) ⟨hx, hb, hml, hown, hts⟩ (tX4_rest l D cI a_N a_N_inverses a_N_roots N_p ((((v24 * v24) - v2) * v4) - x8) v25 hv25) (cwV 1 hts gX1_findMultiples_X4_rest rfl rfl rfl (by decide +kernel) ⟨Nat.le_of_ble_eq_true rfl, Nat.le_of_ble_eq_true rfl⟩) hN hK hP hD hS hA [2] [none, none, some 0, none, none, none] rfl rfl rfl rfl rfl rfl 0 rfl rfl rfl hl.1 rfl (Nat.le_of_ble_eq_true rfl) dX1_findMultiples_161 ⟨Nat.zero_le _, Nat.zero_le _⟩ (fun H locs hP hD hS => ?_)
            refine lv_istore (lv' := [(6, .int v25), (9, .int v24), (0, .ref a_t), (2, .int v1), (3, .int v2), (4, .int v4), (5, .int v5), (8, .int x10)]) hx hb dX1_findMultiples_164 hl (by decide) rfl (fun ls hl => ?_)
            refine lv_aload_n hx hb dX1_findMultiples_166 rfl (lv_at hl 2 rfl) ?_
            refine va_get (D := D) (ci := 1) (C := RX1) (T := TX1) (N := 5) hx hb hts iX1 hown hK hP 0 rfl rfl 0 (by decide) l18 (fun _ h9 => h9) rfl dX1_findMultiples_167 ?_
            refine lv_iload hx hb dX1_findMultiples_170 (lv_at hl 1 rfl) ?_
            refine lv_ineg hx hb dX1_findMultiples_172 ?_
            refine lv_iload hx hb dX1_findMultiples_173 (lv_at hl 0 rfl) ?_
            refine lv_imul hx hb dX1_findMultiples_175 ?_
            refine lv_iconst (v := 1) hx hb dX1_findMultiples_176 (by decide) ?_
            refine lv_isub hx hb dX1_findMultiples_177 ?_
            obtain ⟨v26, hv26, hf⟩ := o_b1 hf
            refine x_vi (rest := []) (W1 := [x_o1 a_t a_N a_t_acrosses a_t_ups t_closing t_pointCount, x_o0 a_b1 a_N b1_c0 b1_c1 b1_c2 b1_c3, x_o4 a_N a_N_inverses a_N_roots N_p, x_ar cI a_N_inverses 200 N_inverses_r, x_ar cI a_t_acrosses 256 u21, x_ar cI a_t_ups 256 u22]) ⟨hx, hb, hml, hown, hts⟩ (tX4_rest l D cI a_N a_N_inverses a_N_roots N_p (((-v24) * v25) - 1) v26 hv26) (cwV 1 hts gX1_findMultiples_X4_rest rfl rfl rfl (by decide +kernel) ⟨Nat.le_of_ble_eq_true rfl, Nat.le_of_ble_eq_true rfl⟩) hN hK hP hD hS hA [2] [none, none, some 0, none, none, none] rfl rfl rfl rfl rfl rfl 0 rfl rfl rfl hl.1 rfl (Nat.le_of_ble_eq_true rfl) dX1_findMultiples_178 ⟨Nat.zero_le _, Nat.zero_le _⟩ (fun H locs hP hD hS => ?_)
            refine lv_istore (lv' := [(7, .int v26), (6, .int v25), (9, .int v24), (0, .ref a_t), (2, .int v1), (3, .int v2), (4, .int v4), (5, .int v5), (8, .int x10)]) hx hb dX1_findMultiples_181 hl (by decide) rfl (fun ls hl => ?_)
            obtain ⟨v27, ev27, hf⟩ := o_nm hf
            refine lv_iinc (v := v27) (lv' := [(8, .int v27), (7, .int v26), (6, .int v25), (9, .int v24), (0, .ref a_t), (2, .int v1), (3, .int v2), (4, .int v4), (5, .int v5)]) hx hb dX1_findMultiples_183 hl (k := 8) rfl (by rw [ev27]; rfl) (by decide) rfl (fun ls hl => ?_)
            refine lv_goto (tgt := 61) hx hb dX1_findMultiples_186 (by decide) ?_
            exact ih61 v25 v26 v27 u21 u22 _ _ _ hf (lv_sub hl [4, 5, 6, 7, 8, 2, 1, 0] rfl) hP hD hS
          refine lv_if_ne (tgt := 117) hx hb dX1_findMultiples_101 (by decide) (fun hc => ?_) (fun hc => ?_)
          · have hf := o_f hf hc
            refine lv_iload hx hb dX1_findMultiples_117 (lv_at hl 6 rfl) ?_
            refine lv_iconst (v := 1) hx hb dX1_findMultiples_119 (by decide) ?_
            refine lv_isub hx hb dX1_findMultiples_120 ?_
            refine lv_aload_n hx hb dX1_findMultiples_121 rfl (lv_at hl 0 rfl) ?_
            refine va_get (D := D) (ci := 1) (C := RX1) (T := TX1) (N := 5) hx hb hts iX1 hown hK hP 0 rfl rfl 0 (by decide) l18 (fun _ h9 => h9) rfl dX1_findMultiples_122 ?_
            refine lv_iload hx hb dX1_findMultiples_125 (lv_at hl 5 rfl) ?_
            obtain ⟨v28, hv28, hf⟩ := o_b1 hf
            refine x_vi (rest := [.int (x9 - 1)]) (W1 := [x_o1 a_t a_N a_t_acrosses a_t_ups t_closing t_pointCount, x_o0 a_b1 a_N b1_c0 b1_c1 b1_c2 b1_c3, x_o4 a_N a_N_inverses a_N_roots N_p, x_ar cI a_N_inverses 200 N_inverses_r, x_ar cI a_t_acrosses 256 u21, x_ar cI a_t_ups 256 u22]) ⟨hx, hb, hml, hown, hts⟩ (tX4_inverseOf l D cI a_N a_N_inverses a_N_roots N_p N_inverses_r x8 v28 hv28) (cwV 1 hts gX1_findMultiples_X4_inverseOf rfl rfl rfl (by decide +kernel) ⟨Nat.le_of_ble_eq_true rfl, Nat.le_of_ble_eq_true rfl⟩) hN hK hP hD hS hA [2, 3] [none, none, some 0, some 1, none, none] rfl rfl rfl rfl rfl rfl 0 rfl rfl rfl hl.1 rfl (Nat.le_of_ble_eq_true rfl) dX1_findMultiples_127 ⟨Nat.zero_le _, Nat.zero_le _⟩ (fun H locs hP hD hS => ?_)
            refine lv_imul hx hb dX1_findMultiples_130 ?_
            exact J131 ((x9 - 1) * v28) _ _ _ hf (lv_sub hl [0, 1, 2, 3, 4, 5, 7] rfl) hP hD hS
          · have hf := o_t hf hc
            refine lv_iload_n hx hb dX1_findMultiples_104 rfl (lv_at hl 1 rfl) ?_
            refine lv_aload_n hx hb dX1_findMultiples_105 rfl (lv_at hl 0 rfl) ?_
            refine va_get (D := D) (ci := 1) (C := RX1) (T := TX1) (N := 5) hx hb hts iX1 hown hK hP 0 rfl rfl 0 (by decide) l18 (fun _ h9 => h9) rfl dX1_findMultiples_106 ?_
            refine lv_iconst (v := 2) hx hb dX1_findMultiples_109 (by decide) ?_
            obtain ⟨v29, hv29, hf⟩ := o_b1 hf
            refine x_vi (rest := [.int v1]) (W1 := [x_o1 a_t a_N a_t_acrosses a_t_ups t_closing t_pointCount, x_o0 a_b1 a_N b1_c0 b1_c1 b1_c2 b1_c3, x_o4 a_N a_N_inverses a_N_roots N_p, x_ar cI a_N_inverses 200 N_inverses_r, x_ar cI a_t_acrosses 256 u21, x_ar cI a_t_ups 256 u22]) ⟨hx, hb, hml, hown, hts⟩ (tX4_inverseOf l D cI a_N a_N_inverses a_N_roots N_p N_inverses_r 2 v29 hv29) (cwV 1 hts gX1_findMultiples_X4_inverseOf rfl rfl rfl (by decide +kernel) ⟨Nat.le_of_ble_eq_true rfl, Nat.le_of_ble_eq_true rfl⟩) hN hK hP hD hS hA [2, 3] [none, none, some 0, some 1, none, none] rfl rfl rfl rfl rfl rfl 0 rfl rfl rfl hl.1 rfl (Nat.le_of_ble_eq_true rfl) dX1_findMultiples_110 ⟨Nat.zero_le _, Nat.zero_le _⟩ (fun H locs hP hD hS => ?_)
            refine lv_imul hx hb dX1_findMultiples_113 ?_
            refine lv_goto (tgt := 131) hx hb dX1_findMultiples_114 (by decide) ?_
            exact J131 (v1 * v29) _ _ _ hf (lv_sub hl [0, 1, 2, 3, 4, 5, 7] rfl) hP hD hS
        refine lv_if_ne (tgt := 81) hx hb dX1_findMultiples_71 (by decide) (fun hc => ?_) (fun hc => ?_)
        · have hf := o_f hf hc
          exact J81 _ _ _ hf (lv_sub hl [0, 1, 2, 3, 4, 5, 6, 7] rfl) hP hD hS
        · have hf := o_t hf hc
          refine lv_iload hx hb dX1_findMultiples_74 (lv_at hl 6 rfl) ?_
          refine lv_iload hx hb dX1_findMultiples_76 (lv_at hl 4 rfl) ?_
          refine lv_icmp_eq (tgt := 189) hx hb dX1_findMultiples_78 (by decide) (fun hc => ?_) (fun hc => ?_)
          · have hf := o_t hf hc
            exact J189 x8 x9 x10 z11 z12 _ _ _ hf (lv_sub hl [0, 5, 6, 7] rfl) hP hD hS
          · have hf := o_f hf hc
            exact J81 _ _ _ hf (lv_sub hl [0, 1, 2, 3, 4, 5, 6, 7] rfl) hP hD hS
  exact L61 p_FU 0 1 1 u6 u7 _ _ _ hf (lv_sub hl [7, 6, 5, 4, 3, 2, 1, 0] rfl) hP hD hS
def fX1_closing (t_closing : Int32) : Option (Int32) :=
  some t_closing
def rmX1_closing : Room := { frames := 0, cells := 0, slots := 0, locals := 0 }
set_option maxHeartbeats 4000000 in
set_option maxRecDepth 100000 in
theorem tX1_closing (l : Launch) (D : va_G) (cI : ClassId) (a_t : Nat) (a_N : Nat) (a_t_acrosses : Nat) (a_t_ups : Nat) (t_closing : Int32) (t_pointCount : Int32) (r : Int32) (hf : fX1_closing t_closing = some r) : x_CI l D cI yX1_closing wsX1_closing rmX1_closing [.ref a_t] [x_o1 a_t a_N a_t_acrosses a_t_ups t_closing t_pointCount] [x_o1 a_t a_N a_t_acrosses a_t_ups t_closing t_pointCount] r := by
  refine x_CI_of (cc := cX1_closing) (maxL := 1) (ty := .int) (own := RX1) (lv0 := [(0, .ref a_t)]) (by decide) rfl rfl (Nat.le_of_ble_eq_true rfl) rfl ?_
  intro p e s m args below meth c A Q ls hx hb hml hown hts hN hK hP hD hS hA hl hret
  have iX1 : ∀ w ∈ u_ws RX1 TX1 5, w ∈ wsX1_closing := by decide +kernel
  have l22 := hts (.fieldLink RX1 22 "ChordRings$Curve" "closing" "I") (by decide +kernel)
  unfold fX1_closing at hf
  refine lv_aload_n hx hb dX1_closing_0 rfl (lv_at hl 0 rfl) ?_
  refine va_get (D := D) (ci := 1) (C := RX1) (T := TX1) (N := 5) hx hb hts iX1 hown hK hP 0 rfl rfl 3 (by decide) l22 (fun _ h9 => h9) rfl dX1_closing_1 ?_
  obtain rfl := Option.some.inj hf
  exact hret rfl rfl dX1_closing_4 hP hD hS
def fX1_countPoints (t_pointCount : Int32) : Option (Int32) :=
  some t_pointCount
def rmX1_countPoints : Room := { frames := 0, cells := 0, slots := 0, locals := 0 }
set_option maxHeartbeats 4000000 in
set_option maxRecDepth 100000 in
theorem tX1_countPoints (l : Launch) (D : va_G) (cI : ClassId) (a_t : Nat) (a_N : Nat) (a_t_acrosses : Nat) (a_t_ups : Nat) (t_closing : Int32) (t_pointCount : Int32) (r : Int32) (hf : fX1_countPoints t_pointCount = some r) : x_CI l D cI yX1_countPoints wsX1_countPoints rmX1_countPoints [.ref a_t] [x_o1 a_t a_N a_t_acrosses a_t_ups t_closing t_pointCount] [x_o1 a_t a_N a_t_acrosses a_t_ups t_closing t_pointCount] r := by
  refine x_CI_of (cc := cX1_countPoints) (maxL := 1) (ty := .int) (own := RX1) (lv0 := [(0, .ref a_t)]) (by decide) rfl rfl (Nat.le_of_ble_eq_true rfl) rfl ?_
  intro p e s m args below meth c A Q ls hx hb hml hown hts hN hK hP hD hS hA hl hret
  have iX1 : ∀ w ∈ u_ws RX1 TX1 5, w ∈ wsX1_countPoints := by decide +kernel
  have l26 := hts (.fieldLink RX1 26 "ChordRings$Curve" "pointCount" "I") (by decide +kernel)
  unfold fX1_countPoints at hf
  refine lv_aload_n hx hb dX1_countPoints_0 rfl (lv_at hl 0 rfl) ?_
  refine va_get (D := D) (ci := 1) (C := RX1) (T := TX1) (N := 5) hx hb hts iX1 hown hK hP 0 rfl rfl 4 (by decide) l26 (fun _ h9 => h9) rfl dX1_countPoints_1 ?_
  obtain rfl := Option.some.inj hf
  exact hret rfl rfl dX1_countPoints_4 hP hD hS
noncomputable def fX7_takeJoin (t_x : Int32) (t_y : Int32) (t_z : Int32) (b1_x : Int32) (b1_y : Int32) (b1_z : Int32) (b2_x : Int32) (b2_y : Int32) (b2_z : Int32) (N_p : Int32) : Option (Int32 × Int32 × Int32) :=
  p_b3 (fX7_take t_x t_y t_z N_p ((b1_y * b2_z) - (b1_z * b2_y)) ((b1_z * b2_x) - (b1_x * b2_z)) ((b1_x * b2_y) - (b1_y * b2_x))) (fun v1 v2 v3 =>
some (v1, v2, v3))
def rmX7_takeJoin : Room := { frames := 2, cells := 0, slots := 0, locals := 45 }
set_option maxHeartbeats 4000000 in
set_option maxRecDepth 100000 in
theorem tX7_takeJoin (l : Launch) (D : va_G) (cI : ClassId) (a_t : Nat) (a_b1 : Nat) (a_b2 : Nat) (a_N : Nat) (a_N_inverses : Nat) (a_N_roots : Nat) (t_x : Int32) (t_y : Int32) (t_z : Int32) (b1_x : Int32) (b1_y : Int32) (b1_z : Int32) (b2_x : Int32) (b2_y : Int32) (b2_z : Int32) (N_p : Int32) (s_t_x : Int32) (s_t_y : Int32) (s_t_z : Int32) (hf : fX7_takeJoin t_x t_y t_z b1_x b1_y b1_z b2_x b2_y b2_z N_p = some (s_t_x, s_t_y, s_t_z)) : x_CV l D cI yX7_takeJoin wsX7_takeJoin rmX7_takeJoin [.ref a_t, .ref a_b1, .ref a_b2] [x_o7 a_t a_N t_x t_y t_z, x_o7 a_b1 a_N b1_x b1_y b1_z, x_o7 a_b2 a_N b2_x b2_y b2_z, x_o4 a_N a_N_inverses a_N_roots N_p] [x_o7 a_t a_N s_t_x s_t_y s_t_z, x_o7 a_b1 a_N b1_x b1_y b1_z, x_o7 a_b2 a_N b2_x b2_y b2_z, x_o4 a_N a_N_inverses a_N_roots N_p] := by
  refine x_CV_of (cc := cX7_takeJoin) (maxL := 3) (own := RX7) (lv0 := [(0, .ref a_t), (1, .ref a_b1), (2, .ref a_b2)]) (by decide) rfl rfl (Nat.le_of_ble_eq_true rfl) rfl ?_
  intro p e s m args below meth c A Q ls hx hb hml hown hts hN hK hP hD hS hA hl hret
  have iX7 : ∀ w ∈ u_ws RX7 TX7 4, w ∈ wsX7_takeJoin := by decide +kernel
  have l23 := hts (.fieldLink RX7 23 "ChordRings$Triple" "y" "I") (by decide +kernel)
  have l26 := hts (.fieldLink RX7 26 "ChordRings$Triple" "z" "I") (by decide +kernel)
  have l19 := hts (.fieldLink RX7 19 "ChordRings$Triple" "x" "I") (by decide +kernel)
  unfold fX7_takeJoin at hf
  refine lv_aload_n hx hb dX7_takeJoin_0 rfl (lv_at hl 0 rfl) ?_
  refine lv_aload_n hx hb dX7_takeJoin_1 rfl (lv_at hl 1 rfl) ?_
  refine va_get (D := D) (ci := 7) (C := RX7) (T := TX7) (N := 4) hx hb hts iX7 hown hK hP 1 rfl rfl 2 (by decide) l23 (fun _ h9 => h9) rfl dX7_takeJoin_2 ?_
  refine lv_aload_n hx hb dX7_takeJoin_5 rfl (lv_at hl 2 rfl) ?_
  refine va_get (D := D) (ci := 7) (C := RX7) (T := TX7) (N := 4) hx hb hts iX7 hown hK hP 2 rfl rfl 3 (by decide) l26 (fun _ h9 => h9) rfl dX7_takeJoin_6 ?_
  refine lv_imul hx hb dX7_takeJoin_9 ?_
  refine lv_aload_n hx hb dX7_takeJoin_10 rfl (lv_at hl 1 rfl) ?_
  refine va_get (D := D) (ci := 7) (C := RX7) (T := TX7) (N := 4) hx hb hts iX7 hown hK hP 1 rfl rfl 3 (by decide) l26 (fun _ h9 => h9) rfl dX7_takeJoin_11 ?_
  refine lv_aload_n hx hb dX7_takeJoin_14 rfl (lv_at hl 2 rfl) ?_
  refine va_get (D := D) (ci := 7) (C := RX7) (T := TX7) (N := 4) hx hb hts iX7 hown hK hP 2 rfl rfl 2 (by decide) l23 (fun _ h9 => h9) rfl dX7_takeJoin_15 ?_
  refine lv_imul hx hb dX7_takeJoin_18 ?_
  refine lv_isub hx hb dX7_takeJoin_19 ?_
  refine lv_aload_n hx hb dX7_takeJoin_20 rfl (lv_at hl 1 rfl) ?_
  refine va_get (D := D) (ci := 7) (C := RX7) (T := TX7) (N := 4) hx hb hts iX7 hown hK hP 1 rfl rfl 3 (by decide) l26 (fun _ h9 => h9) rfl dX7_takeJoin_21 ?_
  refine lv_aload_n hx hb dX7_takeJoin_24 rfl (lv_at hl 2 rfl) ?_
  refine va_get (D := D) (ci := 7) (C := RX7) (T := TX7) (N := 4) hx hb hts iX7 hown hK hP 2 rfl rfl 1 (by decide) l19 (fun _ h9 => h9) rfl dX7_takeJoin_25 ?_
  refine lv_imul hx hb dX7_takeJoin_28 ?_
  refine lv_aload_n hx hb dX7_takeJoin_29 rfl (lv_at hl 1 rfl) ?_
  refine va_get (D := D) (ci := 7) (C := RX7) (T := TX7) (N := 4) hx hb hts iX7 hown hK hP 1 rfl rfl 1 (by decide) l19 (fun _ h9 => h9) rfl dX7_takeJoin_30 ?_
  refine lv_aload_n hx hb dX7_takeJoin_33 rfl (lv_at hl 2 rfl) ?_
  refine va_get (D := D) (ci := 7) (C := RX7) (T := TX7) (N := 4) hx hb hts iX7 hown hK hP 2 rfl rfl 3 (by decide) l26 (fun _ h9 => h9) rfl dX7_takeJoin_34 ?_
  refine lv_imul hx hb dX7_takeJoin_37 ?_
  refine lv_isub hx hb dX7_takeJoin_38 ?_
  refine lv_aload_n hx hb dX7_takeJoin_39 rfl (lv_at hl 1 rfl) ?_
  refine va_get (D := D) (ci := 7) (C := RX7) (T := TX7) (N := 4) hx hb hts iX7 hown hK hP 1 rfl rfl 1 (by decide) l19 (fun _ h9 => h9) rfl dX7_takeJoin_40 ?_
  refine lv_aload_n hx hb dX7_takeJoin_43 rfl (lv_at hl 2 rfl) ?_
  refine va_get (D := D) (ci := 7) (C := RX7) (T := TX7) (N := 4) hx hb hts iX7 hown hK hP 2 rfl rfl 2 (by decide) l23 (fun _ h9 => h9) rfl dX7_takeJoin_44 ?_
  refine lv_imul hx hb dX7_takeJoin_47 ?_
  refine lv_aload_n hx hb dX7_takeJoin_48 rfl (lv_at hl 1 rfl) ?_
  refine va_get (D := D) (ci := 7) (C := RX7) (T := TX7) (N := 4) hx hb hts iX7 hown hK hP 1 rfl rfl 2 (by decide) l23 (fun _ h9 => h9) rfl dX7_takeJoin_49 ?_
  refine lv_aload_n hx hb dX7_takeJoin_52 rfl (lv_at hl 2 rfl) ?_
  refine va_get (D := D) (ci := 7) (C := RX7) (T := TX7) (N := 4) hx hb hts iX7 hown hK hP 2 rfl rfl 1 (by decide) l19 (fun _ h9 => h9) rfl dX7_takeJoin_53 ?_
  refine lv_imul hx hb dX7_takeJoin_56 ?_
  refine lv_isub hx hb dX7_takeJoin_57 ?_
  obtain ⟨v1, v2, v3, hv1, hf⟩ := o_b3 hf
  refine x_vv (rest := []) (W1 := [x_o7 a_t a_N v1 v2 v3, x_o7 a_b1 a_N b1_x b1_y b1_z, x_o7 a_b2 a_N b2_x b2_y b2_z, x_o4 a_N a_N_inverses a_N_roots N_p]) ⟨hx, hb, hml, hown, hts⟩ (tX7_take l D cI a_t a_N a_N_inverses a_N_roots t_x t_y t_z N_p ((b1_y * b2_z) - (b1_z * b2_y)) ((b1_z * b2_x) - (b1_x * b2_z)) ((b1_x * b2_y) - (b1_y * b2_x)) v1 v2 v3 hv1) (cwV 3 hts gX7_takeJoin_X7_take rfl rfl rfl (by decide +kernel) ⟨Nat.le_of_ble_eq_true rfl, Nat.le_of_ble_eq_true rfl⟩) hN hK hP hD hS hA [0, 3] [some 0, none, none, some 1] rfl rfl rfl rfl rfl rfl 0 rfl rfl rfl hl.1 rfl (Nat.le_of_ble_eq_true rfl) dX7_takeJoin_58 ⟨Nat.zero_le _, Nat.zero_le _⟩ (fun H locs hP hD hS => ?_)
  obtain ⟨rfl, rfl, rfl⟩ := o_s3 hf
  exact hret dX7_takeJoin_61 hP hD hS
noncomputable def fX7_takePolar (t_x : Int32) (t_y : Int32) (t_z : Int32) (b1_a : Int32) (b1_b : Int32) (b1_c : Int32) (b1_d : Int32) (b1_e : Int32) (b1_f : Int32) (b2_x : Int32) (b2_y : Int32) (b2_z : Int32) (N_p : Int32) : Option (Int32 × Int32 × Int32) :=
  p_b1 (fX2_side b1_a b1_b b1_c b1_d b1_e b1_f b2_x b2_y b2_z 0) (fun v1 =>
p_b1 (fX2_side b1_a b1_b b1_c b1_d b1_e b1_f b2_x b2_y b2_z 1) (fun v2 =>
p_b1 (fX2_side b1_a b1_b b1_c b1_d b1_e b1_f b2_x b2_y b2_z 2) (fun v3 =>
p_b3 (fX7_take t_x t_y t_z N_p v1 v2 v3) (fun v4 v5 v6 =>
some (v4, v5, v6)))))
def rmX7_takePolar : Room := { frames := 2, cells := 0, slots := 0, locals := 45 }
set_option maxHeartbeats 4000000 in
set_option maxRecDepth 100000 in
theorem tX7_takePolar (l : Launch) (D : va_G) (cI : ClassId) (a_t : Nat) (a_b1 : Nat) (a_b2 : Nat) (a_N : Nat) (a_N_inverses : Nat) (a_N_roots : Nat) (t_x : Int32) (t_y : Int32) (t_z : Int32) (b1_a : Int32) (b1_b : Int32) (b1_c : Int32) (b1_d : Int32) (b1_e : Int32) (b1_f : Int32) (b2_x : Int32) (b2_y : Int32) (b2_z : Int32) (N_p : Int32) (s_t_x : Int32) (s_t_y : Int32) (s_t_z : Int32) (hf : fX7_takePolar t_x t_y t_z b1_a b1_b b1_c b1_d b1_e b1_f b2_x b2_y b2_z N_p = some (s_t_x, s_t_y, s_t_z)) : x_CV l D cI yX7_takePolar wsX7_takePolar rmX7_takePolar [.ref a_t, .ref a_b1, .ref a_b2] [x_o7 a_t a_N t_x t_y t_z, x_o2 a_b1 a_N b1_a b1_b b1_c b1_d b1_e b1_f, x_o7 a_b2 a_N b2_x b2_y b2_z, x_o4 a_N a_N_inverses a_N_roots N_p] [x_o7 a_t a_N s_t_x s_t_y s_t_z, x_o2 a_b1 a_N b1_a b1_b b1_c b1_d b1_e b1_f, x_o7 a_b2 a_N b2_x b2_y b2_z, x_o4 a_N a_N_inverses a_N_roots N_p] := by
  refine x_CV_of (cc := cX7_takePolar) (maxL := 3) (own := RX7) (lv0 := [(0, .ref a_t), (1, .ref a_b1), (2, .ref a_b2)]) (by decide) rfl rfl (Nat.le_of_ble_eq_true rfl) rfl ?_
  intro p e s m args below meth c A Q ls hx hb hml hown hts hN hK hP hD hS hA hl hret
  unfold fX7_takePolar at hf
  refine lv_aload_n hx hb dX7_takePolar_0 rfl (lv_at hl 0 rfl) ?_
  refine lv_aload_n hx hb dX7_takePolar_1 rfl (lv_at hl 1 rfl) ?_
  refine lv_iconst (v := 0) hx hb dX7_takePolar_2 (by decide) ?_
  refine lv_aload_n hx hb dX7_takePolar_3 rfl (lv_at hl 2 rfl) ?_
  obtain ⟨v1, hv1, hf⟩ := o_b1 hf
  refine x_vi (rest := [.ref a_t]) (W1 := [x_o7 a_t a_N t_x t_y t_z, x_o2 a_b1 a_N b1_a b1_b b1_c b1_d b1_e b1_f, x_o7 a_b2 a_N b2_x b2_y b2_z, x_o4 a_N a_N_inverses a_N_roots N_p]) ⟨hx, hb, hml, hown, hts⟩ (tX2_side l D cI a_b1 a_b2 a_N b1_a b1_b b1_c b1_d b1_e b1_f b2_x b2_y b2_z 0 v1 hv1) (cwV 2 hts gX7_takePolar_X2_side rfl rfl rfl (by decide +kernel) ⟨Nat.le_of_ble_eq_true rfl, Nat.le_of_ble_eq_true rfl⟩) hN hK hP hD hS hA [1, 2] [none, some 0, some 1, none] rfl rfl rfl rfl rfl rfl 0 rfl rfl rfl hl.1 rfl (Nat.le_of_ble_eq_true rfl) dX7_takePolar_4 ⟨Nat.zero_le _, Nat.zero_le _⟩ (fun H locs hP hD hS => ?_)
  refine lv_aload_n hx hb dX7_takePolar_7 rfl (lv_at hl 1 rfl) ?_
  refine lv_iconst (v := 1) hx hb dX7_takePolar_8 (by decide) ?_
  refine lv_aload_n hx hb dX7_takePolar_9 rfl (lv_at hl 2 rfl) ?_
  obtain ⟨v2, hv2, hf⟩ := o_b1 hf
  refine x_vi (rest := [.int v1, .ref a_t]) (W1 := [x_o7 a_t a_N t_x t_y t_z, x_o2 a_b1 a_N b1_a b1_b b1_c b1_d b1_e b1_f, x_o7 a_b2 a_N b2_x b2_y b2_z, x_o4 a_N a_N_inverses a_N_roots N_p]) ⟨hx, hb, hml, hown, hts⟩ (tX2_side l D cI a_b1 a_b2 a_N b1_a b1_b b1_c b1_d b1_e b1_f b2_x b2_y b2_z 1 v2 hv2) (cwV 2 hts gX7_takePolar_X2_side rfl rfl rfl (by decide +kernel) ⟨Nat.le_of_ble_eq_true rfl, Nat.le_of_ble_eq_true rfl⟩) hN hK hP hD hS hA [1, 2] [none, some 0, some 1, none] rfl rfl rfl rfl rfl rfl 0 rfl rfl rfl hl.1 rfl (Nat.le_of_ble_eq_true rfl) dX7_takePolar_10 ⟨Nat.zero_le _, Nat.zero_le _⟩ (fun H locs hP hD hS => ?_)
  refine lv_aload_n hx hb dX7_takePolar_13 rfl (lv_at hl 1 rfl) ?_
  refine lv_iconst (v := 2) hx hb dX7_takePolar_14 (by decide) ?_
  refine lv_aload_n hx hb dX7_takePolar_15 rfl (lv_at hl 2 rfl) ?_
  obtain ⟨v3, hv3, hf⟩ := o_b1 hf
  refine x_vi (rest := [.int v2, .int v1, .ref a_t]) (W1 := [x_o7 a_t a_N t_x t_y t_z, x_o2 a_b1 a_N b1_a b1_b b1_c b1_d b1_e b1_f, x_o7 a_b2 a_N b2_x b2_y b2_z, x_o4 a_N a_N_inverses a_N_roots N_p]) ⟨hx, hb, hml, hown, hts⟩ (tX2_side l D cI a_b1 a_b2 a_N b1_a b1_b b1_c b1_d b1_e b1_f b2_x b2_y b2_z 2 v3 hv3) (cwV 2 hts gX7_takePolar_X2_side rfl rfl rfl (by decide +kernel) ⟨Nat.le_of_ble_eq_true rfl, Nat.le_of_ble_eq_true rfl⟩) hN hK hP hD hS hA [1, 2] [none, some 0, some 1, none] rfl rfl rfl rfl rfl rfl 0 rfl rfl rfl hl.1 rfl (Nat.le_of_ble_eq_true rfl) dX7_takePolar_16 ⟨Nat.zero_le _, Nat.zero_le _⟩ (fun H locs hP hD hS => ?_)
  obtain ⟨v4, v5, v6, hv4, hf⟩ := o_b3 hf
  refine x_vv (rest := []) (W1 := [x_o7 a_t a_N v4 v5 v6, x_o2 a_b1 a_N b1_a b1_b b1_c b1_d b1_e b1_f, x_o7 a_b2 a_N b2_x b2_y b2_z, x_o4 a_N a_N_inverses a_N_roots N_p]) ⟨hx, hb, hml, hown, hts⟩ (tX7_take l D cI a_t a_N a_N_inverses a_N_roots t_x t_y t_z N_p v1 v2 v3 v4 v5 v6 hv4) (cwV 3 hts gX7_takePolar_X7_take rfl rfl rfl (by decide +kernel) ⟨Nat.le_of_ble_eq_true rfl, Nat.le_of_ble_eq_true rfl⟩) hN hK hP hD hS hA [0, 3] [some 0, none, none, some 1] rfl rfl rfl rfl rfl rfl 0 rfl rfl rfl hl.1 rfl (Nat.le_of_ble_eq_true rfl) dX7_takePolar_19 ⟨Nat.zero_le _, Nat.zero_le _⟩ (fun H locs hP hD hS => ?_)
  obtain ⟨rfl, rfl, rfl⟩ := o_s3 hf
  exact hret dX7_takePolar_22 hP hD hS
