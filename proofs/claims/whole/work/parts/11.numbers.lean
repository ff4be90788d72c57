def fX4_prime (N_p : Int32) : Option (Int32) :=
  some N_p
def rmX4_prime : Room := { frames := 0, cells := 0, slots := 0, locals := 0 }
set_option maxHeartbeats 4000000 in
set_option maxRecDepth 100000 in
theorem tX4_prime (l : Launch) (D : va_G) (cI : ClassId) (a_N : Nat) (a_N_inverses : Nat) (a_N_roots : Nat) (N_p : Int32) (r : Int32) (hf : fX4_prime N_p = some r) : x_CI l D cI yX4_prime wsX4_prime rmX4_prime [.ref a_N] [x_o4 a_N a_N_inverses a_N_roots N_p] [x_o4 a_N a_N_inverses a_N_roots N_p] r := by
  refine x_CI_of (cc := cX4_prime) (maxL := 1) (ty := .int) (own := RX4) (lv0 := [(0, .ref a_N)]) (by decide) rfl rfl (Nat.le_of_ble_eq_true rfl) rfl ?_
  intro p e s m args below meth c A Q ls hx hb hml hown hts hN hK hP hD hS hA hl hret
  have iX4 : ∀ w ∈ u_ws RX4 TX4 3, w ∈ wsX4_prime := by decide +kernel
  have l22 := hts (.fieldLink RX4 22 "ChordRings$Numbers" "p" "I") (by decide +kernel)
  unfold fX4_prime at hf
  refine lv_aload_n hx hb dX4_prime_0 rfl (lv_at hl 0 rfl) ?_
  refine va_get (D := D) (ci := 4) (C := RX4) (T := TX4) (N := 3) hx hb hts iX4 hown hK hP 0 rfl rfl 2 (by decide) l22 (fun _ h9 => h9) rfl dX4_prime_1 ?_
  obtain rfl := Option.some.inj hf
  exact hret rfl rfl dX4_prime_4 hP hD hS
noncomputable def kX4_take_118 (i1 : Int32) (w4 : (Nat → Int32)) (w11 : (Nat → Int32)) : Option (Int32 × (Nat → Int32) × (Nat → Int32)) :=
  some (i1, w4, w11)
noncomputable def FgX4_take_88 (i1 : Int32) (rec88 : Int32 → (Nat → Int32) → Option (Int32 × (Nat → Int32) × (Nat → Int32))) (kk88 : (Nat → Int32) → Option (Int32 × (Nat → Int32) × (Nat → Int32))) (x8 : Int32) (z9 : (Nat → Int32)) : Option (Int32 × (Nat → Int32) × (Nat → Int32)) :=
  p_b1 (p_dv i1 2) (fun v10 =>
if v10 < x8 then (kk88 z9) else (p_b1 (p_rm (x8 * x8) i1) (fun v12 =>
p_b1 (p_st z9 200 v12 x8) (fun u13 =>
p_nm (x8 + 1) (fun v14 =>
rec88 v14 u13)))))
noncomputable def gX4_take_88 (i1 : Int32) (kk88 : (Nat → Int32) → Option (Int32 × (Nat → Int32) × (Nat → Int32))) (n : Nat) : Int32 → (Nat → Int32) → Option (Int32 × (Nat → Int32) × (Nat → Int32)) := Nat.rec (motive := fun _ => Int32 → (Nat → Int32) → Option (Int32 × (Nat → Int32) × (Nat → Int32))) (fun _ _ => none) (fun _ rec88 => FgX4_take_88 i1 rec88 kk88) n
noncomputable def kX4_take_86 (i1 : Int32) (w4 : (Nat → Int32)) (w7 : (Nat → Int32)) : Option (Int32 × (Nat → Int32) × (Nat → Int32)) :=
  gX4_take_88 i1 (kX4_take_118 i1 w4) p_FU 0 w7
noncomputable def FgX4_take_64 (i1 : Int32) (rec64 : Int32 → (Nat → Int32) → Option (Int32 × (Nat → Int32) × (Nat → Int32))) (kk64 : (Nat → Int32) → Option (Int32 × (Nat → Int32) × (Nat → Int32))) (x5 : Int32) (z6 : (Nat → Int32)) : Option (Int32 × (Nat → Int32) × (Nat → Int32)) :=
  if i1 ≤ x5 then (kk64 z6) else (p_b1 (p_st z6 200 x5 (-6)) (fun u15 =>
p_nm (x5 + 1) (fun v16 =>
rec64 v16 u15)))
noncomputable def gX4_take_64 (i1 : Int32) (kk64 : (Nat → Int32) → Option (Int32 × (Nat → Int32) × (Nat → Int32))) (n : Nat) : Int32 → (Nat → Int32) → Option (Int32 × (Nat → Int32) × (Nat → Int32)) := Nat.rec (motive := fun _ => Int32 → (Nat → Int32) → Option (Int32 × (Nat → Int32) × (Nat → Int32))) (fun _ _ => none) (fun _ rec64 => FgX4_take_64 i1 rec64 kk64) n
noncomputable def kX4_take_62 (N_roots_r : (Nat → Int32)) (i1 : Int32) (w4 : (Nat → Int32)) : Option (Int32 × (Nat → Int32) × (Nat → Int32)) :=
  gX4_take_64 i1 (kX4_take_86 i1 w4) p_FU 0 N_roots_r
noncomputable def FgX4_take_14 (i1 : Int32) (rec14 : Int32 → (Nat → Int32) → Option (Int32 × (Nat → Int32) × (Nat → Int32))) (kk14 : (Nat → Int32) → Option (Int32 × (Nat → Int32) × (Nat → Int32))) (x2 : Int32) (z3 : (Nat → Int32)) : Option (Int32 × (Nat → Int32) × (Nat → Int32)) :=
  if i1 ≤ x2 then (kk14 z3) else (p_b1 (p_dv i1 x2) (fun v17 =>
p_b1 (p_rm i1 x2) (fun v18 =>
p_b1 (p_ld z3 200 v18) (fun v19 =>
p_b1 (p_rm (v17 * v19) i1) (fun v20 =>
p_b1 (p_st z3 200 x2 (i1 - v20)) (fun u21 =>
p_nm (x2 + 1) (fun v22 =>
rec14 v22 u21)))))))
noncomputable def gX4_take_14 (i1 : Int32) (kk14 : (Nat → Int32) → Option (Int32 × (Nat → Int32) × (Nat → Int32))) (n : Nat) : Int32 → (Nat → Int32) → Option (Int32 × (Nat → Int32) × (Nat → Int32)) := Nat.rec (motive := fun _ => Int32 → (Nat → Int32) → Option (Int32 × (Nat → Int32) × (Nat → Int32))) (fun _ _ => none) (fun _ rec14 => FgX4_take_14 i1 rec14 kk14) n
noncomputable def fX4_take (N_p : Int32) (N_inverses_r : (Nat → Int32)) (N_roots_r : (Nat → Int32)) (i1 : Int32) : Option (Int32 × (Nat → Int32) × (Nat → Int32)) :=
  p_b1 (p_st N_inverses_r 200 1 1) (fun u1 =>
gX4_take_14 i1 (kX4_take_62 N_roots_r i1) p_FU 2 u1)
def rmX4_take : Room := { frames := 0, cells := 0, slots := 0, locals := 0 }
set_option maxHeartbeats 4000000 in
set_option maxRecDepth 100000 in
theorem tX4_take (l : Launch) (D : va_G) (cI : ClassId) (a_N : Nat) (a_N_inverses : Nat) (a_N_roots : Nat) (N_p : Int32) (N_inverses_r : (Nat → Int32)) (N_roots_r : (Nat → Int32)) (i1 : Int32) (s_N_p : Int32) (s_N_inverses_r : (Nat → Int32)) (s_N_roots_r : (Nat → Int32)) (hf : fX4_take N_p N_inverses_r N_roots_r i1 = some (s_N_p, s_N_inverses_r, s_N_roots_r)) : x_CV l D cI yX4_take wsX4_take rmX4_take [.ref a_N, .int i1] [x_o4 a_N a_N_inverses a_N_roots N_p, x_ar cI a_N_inverses 200 N_inverses_r, x_ar cI a_N_roots 200 N_roots_r] [x_o4 a_N a_N_inverses a_N_roots s_N_p, x_ar cI a_N_inverses 200 s_N_inverses_r, x_ar cI a_N_roots 200 s_N_roots_r] := by
  refine x_CV_of (cc := cX4_take) (maxL := 3) (own := RX4) (lv0 := [(0, .ref a_N), (1, .int i1)]) (by decide) rfl rfl (Nat.le_of_ble_eq_true rfl) rfl ?_
  intro p e s m args below meth c A Q ls hx hb hml hown hts hN hK hP hD hS hA hl hret
  have iX4 : ∀ w ∈ u_ws RX4 TX4 3, w ∈ wsX4_take := by decide +kernel
  have l22 := hts (.fieldLink RX4 22 "ChordRings$Numbers" "p" "I") (by decide +kernel)
  have l9 := hts (.fieldLink RX4 9 "ChordRings$Numbers" "inverses" "[I") (by decide +kernel)
  have l15 := hts (.fieldLink RX4 15 "ChordRings$Numbers" "roots" "[I") (by decide +kernel)
  unfold fX4_take at hf
  refine lv_aload_n hx hb dX4_take_0 rfl (lv_at hl 0 rfl) ?_
  refine lv_iload_n hx hb dX4_take_1 rfl (lv_at hl 1 rfl) ?_
  refine x_put (W1 := [x_o4 a_N a_N_inverses a_N_roots i1, x_ar cI a_N_inverses 200 N_inverses_r, x_ar cI a_N_roots 200 N_roots_r]) (ty := .int) (C := RX4) (T := TX4) (N := 3) hx hb hts iX4 tyX4 tyX4_ok nmX4 hown hK hP hD hS 0 rfl rfl 2 (by decide) l22 rfl rfl (by decide +kernel) rfl rfl (Nat.le_of_ble_eq_true rfl) rfl dX4_take_2 (fun H locs hP hD hS => ?_)
  refine lv_aload_n hx hb dX4_take_5 rfl (lv_at hl 0 rfl) ?_
  refine va_get (D := D) (ci := 4) (C := RX4) (T := TX4) (N := 3) hx hb hts iX4 hown hK hP 0 rfl rfl 0 (by decide) l9 (fun _ h9 => h9) rfl dX4_take_6 ?_
  refine lv_iconst (v := 1) hx hb dX4_take_9 (by decide) ?_
  refine lv_iconst (v := 1) hx hb dX4_take_10 (by decide) ?_
  obtain ⟨u1, hu1, hf⟩ := o_b1 hf
  refine x_ast (W1 := [x_o4 a_N a_N_inverses a_N_roots i1, x_ar cI a_N_inverses 200 u1, x_ar cI a_N_roots 200 N_roots_r]) hx hb hK hP hD hS 1 rfl hu1 rfl dX4_take_11 (fun H locs hP hD hS => ?_)
  refine lv_iconst (v := 2) hx hb dX4_take_12 (by decide) ?_
  refine lv_istore_n (lv' := [(2, .int 2), (0, .ref a_N), (1, .int i1)]) hx hb dX4_take_13 rfl hl (by decide) rfl (fun ls hl => ?_)
  have L14 : ∀ (n : Nat) (x2 : Int32) (z3 : (Nat → Int32)) (ls : Array Slot) (H : Heap) (locs : List Loc), gX4_take_14 i1 (kX4_take_62 N_roots_r i1) n x2 z3 = some (s_N_p, s_N_inverses_r, s_N_roots_r) → lv_has ls 3 [(0, .ref a_N), (2, .int x2)] → va_P D vwCl [x_o4 a_N a_N_inverses a_N_roots i1, x_ar cI a_N_inverses 200 z3, x_ar cI a_N_roots 200 N_roots_r] H → va_D A [x_o4 a_N a_N_inverses a_N_roots i1, x_ar cI a_N_inverses 200 z3, x_ar cI a_N_roots 200 N_roots_r] → va_S A s.heap H locs → W p l e rmX4_take s m args below meth c H locs 0 0 Q (F0 m 14 ls []) := by
    intro n14
    induction n14 with
    | zero =>
      intro x2 z3 ls H locs hf
      exact nomatch (show (none : Option (Int32 × (Nat → Int32) × (Nat → Int32))) = some (s_N_p, s_N_inverses_r, s_N_roots_r) from hf)
    | succ n14 ih14 =>
      intro x2 z3 ls H locs hf hl hP hD hS
      have hf : FgX4_take_14 i1 (gX4_take_14 i1 (kX4_take_62 N_roots_r i1) n14) (kX4_take_62 N_roots_r i1) x2 z3 = some (s_N_p, s_N_inverses_r, s_N_roots_r) := hf
      unfold FgX4_take_14 at hf
      refine lv_iload_n hx hb dX4_take_14 rfl (lv_at hl 1 rfl) ?_
      refine lv_aload_n hx hb dX4_take_15 rfl (lv_at hl 0 rfl) ?_
      refine va_get (D := D) (ci := 4) (C := RX4) (T := TX4) (N := 3) hx hb hts iX4 hown hK hP 0 rfl rfl 2 (by decide) l22 (fun _ h9 => h9) rfl dX4_take_16 ?_
      have J62 : ∀ (w4 : (Nat → Int32)) (ls : Array Slot) (H : Heap) (locs : List Loc), kX4_take_62 N_roots_r i1 w4 = some (s_N_p, s_N_inverses_r, s_N_roots_r) → lv_has ls 3 [(0, .ref a_N)] → va_P D vwCl [x_o4 a_N a_N_inverses a_N_roots i1, x_ar cI a_N_inverses 200 w4, x_ar cI a_N_roots 200 N_roots_r] H → va_D A [x_o4 a_N a_N_inverses a_N_roots i1, x_ar cI a_N_inverses 200 w4, x_ar cI a_N_roots 200 N_roots_r] → va_S A s.heap H locs → W p l e rmX4_take s m args below meth c H locs 0 0 Q (F0 m 62 ls []) := by
        intro w4 ls H locs hf hl hP hD hS
        unfold kX4_take_62 at hf
        refine lv_iconst (v := 0) hx hb dX4_take_62 (by decide) ?_
        refine lv_istore_n (lv' := [(2, .int 0), (0, .ref a_N)]) hx hb dX4_take_63 rfl hl (by decide) rfl (fun ls hl => ?_)
        have L64 : ∀ (n : Nat) (x5 : Int32) (z6 : (Nat → Int32)) (ls : Array Slot) (H : Heap) (locs : List Loc), gX4_take_64 i1 (kX4_take_86 i1 w4) n x5 z6 = some (s_N_p, s_N_inverses_r, s_N_roots_r) → lv_has ls 3 [(0, .ref a_N), (2, .int x5)] → va_P D vwCl [x_o4 a_N a_N_inverses a_N_roots i1, x_ar cI a_N_inverses 200 w4, x_ar cI a_N_roots 200 z6] H → va_D A [x_o4 a_N a_N_inverses a_N_roots i1, x_ar cI a_N_inverses 200 w4, x_ar cI a_N_roots 200 z6] → va_S A s.heap H locs → W p l e rmX4_take s m args below meth c H locs 0 0 Q (F0 m 64 ls []) := by
          intro n64
          induction n64 with
          | zero =>
            intro x5 z6 ls H locs hf
            exact nomatch (show (none : Option (Int32 × (Nat → Int32) × (Nat → Int32))) = some (s_N_p, s_N_inverses_r, s_N_roots_r) from hf)
          | succ n64 ih64 =>
            intro x5 z6 ls H locs hf hl hP hD hS
            have hf : FgX4_take_64 i1 (gX4_take_64 i1 (kX4_take_86 i1 w4) n64) (kX4_take_86 i1 w4) x5 z6 = some (s_N_p, s_N_inverses_r, s_N_roots_r) := hf
            unfold FgX4_take_64 at hf
            refine lv_iload_n hx hb dX4_take_64 rfl (lv_at hl 1 rfl) ?_
            refine lv_aload_n hx hb dX4_take_65 rfl (lv_at hl 0 rfl) ?_
            refine va_get (D := D) (ci := 4) (C := RX4) (T := TX4) (N := 3) hx hb hts iX4 hown hK hP 0 rfl rfl 2 (by decide) l22 (fun _ h9 => h9) rfl dX4_take_66 ?_
            have J86 : ∀ (w7 : (Nat → Int32)) (ls : Array Slot) (H : Heap) (locs : List Loc), kX4_take_86 i1 w4 w7 = some (s_N_p, s_N_inverses_r, s_N_roots_r) → lv_has ls 3 [(0, .ref a_N)] → va_P D vwCl [x_o4 a_N a_N_inverses a_N_roots i1, x_ar cI a_N_inverses 200 w4, x_ar cI a_N_roots 200 w7] H → va_D A [x_o4 a_N a_N_inverses a_N_roots i1, x_ar cI a_N_inverses 200 w4, x_ar cI a_N_roots 200 w7] → va_S A s.heap H locs → W p l e rmX4_take s m args below meth c H locs 0 0 Q (F0 m 86 ls []) := by
              intro w7 ls H locs hf hl hP hD hS
              unfold kX4_take_86 at hf
              refine lv_iconst (v := 0) hx hb dX4_take_86 (by decide) ?_
              refine lv_istore_n (lv' := [(2, .int 0), (0, .ref a_N)]) hx hb dX4_take_87 rfl hl (by decide) rfl (fun ls hl => ?_)
              have L88 : ∀ (n : Nat) (x8 : Int32) (z9 : (Nat → Int32)) (ls : Array Slot) (H : Heap) (locs : List Loc), gX4_take_88 i1 (kX4_take_118 i1 w4) n x8 z9 = some (s_N_p, s_N_inverses_r, s_N_roots_r) → lv_has ls 3 [(0, .ref a_N), (2, .int x8)] → va_P D vwCl [x_o4 a_N a_N_inverses a_N_roots i1, x_ar cI a_N_inverses 200 w4, x_ar cI a_N_roots 200 z9] H → va_D A [x_o4 a_N a_N_inverses a_N_roots i1, x_ar cI a_N_inverses 200 w4, x_ar cI a_N_roots 200 z9] → va_S A s.heap H locs → W p l e rmX4_take s m args below meth c H locs 0 0 Q (F0 m 88 ls []) := by
                intro n88
                induction n88 with
                | zero =>
                  intro x8 z9 ls H locs hf
                  exact nomatch (show (none : Option (Int32 × (Nat → Int32) × (Nat → Int32))) = some (s_N_p, s_N_inverses_r, s_N_roots_r) from hf)
                | succ n88 ih88 =>
                  intro x8 z9 ls H locs hf hl hP hD hS
                  have hf : FgX4_take_88 i1 (gX4_take_88 i1 (kX4_take_118 i1 w4) n88) (kX4_take_118 i1 w4) x8 z9 = some (s_N_p, s_N_inverses_r, s_N_roots_r) := hf
                  unfold FgX4_take_88 at hf
                  refine lv_iload_n hx hb dX4_take_88 rfl (lv_at hl 1 rfl) ?_
                  refine lv_aload_n hx hb dX4_take_89 rfl (lv_at hl 0 rfl) ?_
                  refine va_get (D := D) (ci := 4) (C := RX4) (T := TX4) (N := 3) hx hb hts iX4 hown hK hP 0 rfl rfl 2 (by decide) l22 (fun _ h9 => h9) rfl dX4_take_90 ?_
                  refine lv_iconst (v := 2) hx hb dX4_take_93 (by decide) ?_
                  obtain ⟨v10, hv10, hf⟩ := o_b1 hf
                  refine x_dv hx hb hv10 dX4_take_94 ?_
                  have J118 : ∀ (w11 : (Nat → Int32)) (ls : Array Slot) (H : Heap) (locs : List Loc), kX4_take_118 i1 w4 w11 = some (s_N_p, s_N_inverses_r, s_N_roots_r) → lv_has ls 3 [] → va_P D vwCl [x_o4 a_N a_N_inverses a_N_roots i1, x_ar cI a_N_inverses 200 w4, x_ar cI a_N_roots 200 w11] H → va_D A [x_o4 a_N a_N_inverses a_N_roots i1, x_ar cI a_N_inverses 200 w4, x_ar cI a_N_roots 200 w11] → va_S A s.heap H locs → W p l e rmX4_take s m args below meth c H locs 0 0 Q (F0 m 118 ls []) := by
                    intro w11 ls H locs hf hl hP hD hS
                    unfold kX4_take_118 at hf
                    obtain ⟨rfl, rfl, rfl⟩ := o_s3 hf
                    exact hret dX4_take_118 hP hD hS
                  refine lv_icmp_gt (tgt := 118) hx hb dX4_take_95 (by decide) (fun hc => ?_) (fun hc => ?_)
                  · have hf := o_t hf hc
                    exact J118 z9 _ _ _ hf (lv_sub hl [] rfl) hP hD hS
                  · have hf := o_f hf hc
                    refine lv_aload_n hx hb dX4_take_98 rfl (lv_at hl 0 rfl) ?_
                    refine va_get (D := D) (ci := 4) (C := RX4) (T := TX4) (N := 3) hx hb hts iX4 hown hK hP 0 rfl rfl 1 (by decide) l15 (fun _ h9 => h9) rfl dX4_take_99 ?_
                    refine lv_iload_n hx hb dX4_take_102 rfl (lv_at hl 1 rfl) ?_
                    refine lv_iload_n hx hb dX4_take_103 rfl (lv_at hl 1 rfl) ?_
                    refine lv_imul hx hb dX4_take_104 ?_
                    refine lv_aload_n hx hb dX4_take_105 rfl (lv_at hl 0 rfl) ?_
                    refine va_get (D := D) (ci := 4) (C := RX4) (T := TX4) (N := 3) hx hb hts iX4 hown hK hP 0 rfl rfl 2 (by decide) l22 (fun _ h9 => h9) rfl dX4_take_106 ?_
                    obtain ⟨v12, hv12, hf⟩ := o_b1 hf
                    refine x_rm hx hb hv12 dX4_take_109 ?_
                    refine lv_iload_n hx hb dX4_take_110 rfl (lv_at hl 1 rfl) ?_
                    obtain ⟨u13, hu13, hf⟩ := o_b1 hf
                    refine x_ast (W1 := [x_o4 a_N a_N_inverses a_N_roots i1, x_ar cI a_N_inverses 200 w4, x_ar cI a_N_roots 200 u13]) hx hb hK hP hD hS 2 rfl hu13 rfl dX4_take_111 (fun H locs hP hD hS => ?_)
                    obtain ⟨v14, ev14, hf⟩ := o_nm hf
                    refine lv_iinc (v := v14) (lv' := [(2, .int v14), (0, .ref a_N)]) hx hb dX4_take_112 hl (k := 1) rfl (by rw [ev14]; rfl) (by decide) rfl (fun ls hl => ?_)
                    refine lv_goto (tgt := 88) hx hb dX4_take_115 (by decide) ?_
                    exact ih88 v14 u13 _ _ _ hf (lv_sub hl [1, 0] rfl) hP hD hS
              exact L88 p_FU 0 w7 _ _ _ hf (lv_sub hl [1, 0] rfl) hP hD hS
            refine lv_icmp_ge (tgt := 86) hx hb dX4_take_69 (by decide) (fun hc => ?_) (fun hc => ?_)
            · have hf := o_t hf hc
              exact J86 z6 _ _ _ hf (lv_sub hl [0] rfl) hP hD hS
            · have hf := o_f hf hc
              refine lv_aload_n hx hb dX4_take_72 rfl (lv_at hl 0 rfl) ?_
              refine va_get (D := D) (ci := 4) (C := RX4) (T := TX4) (N := 3) hx hb hts iX4 hown hK hP 0 rfl rfl 1 (by decide) l15 (fun _ h9 => h9) rfl dX4_take_73 ?_
              refine lv_iload_n hx hb dX4_take_76 rfl (lv_at hl 1 rfl) ?_
              refine lv_bipush (v := (-6)) hx hb dX4_take_77 (by decide) ?_
              obtain ⟨u15, hu15, hf⟩ := o_b1 hf
              refine x_ast (W1 := [x_o4 a_N a_N_inverses a_N_roots i1, x_ar cI a_N_inverses 200 w4, x_ar cI a_N_roots 200 u15]) hx hb hK hP hD hS 2 rfl hu15 rfl dX4_take_79 (fun H locs hP hD hS => ?_)
              obtain ⟨v16, ev16, hf⟩ := o_nm hf
              refine lv_iinc (v := v16) (lv' := [(2, .int v16), (0, .ref a_N)]) hx hb dX4_take_80 hl (k := 1) rfl (by rw [ev16]; rfl) (by decide) rfl (fun ls hl => ?_)
              refine lv_goto (tgt := 64) hx hb dX4_take_83 (by decide) ?_
              exact ih64 v16 u15 _ _ _ hf (lv_sub hl [1, 0] rfl) hP hD hS
        exact L64 p_FU 0 N_roots_r _ _ _ hf (lv_sub hl [1, 0] rfl) hP hD hS
      refine lv_icmp_ge (tgt := 62) hx hb dX4_take_19 (by decide) (fun hc => ?_) (fun hc => ?_)
      · have hf := o_t hf hc
        exact J62 z3 _ _ _ hf (lv_sub hl [0] rfl) hP hD hS
      · have hf := o_f hf hc
        refine lv_aload_n hx hb dX4_take_22 rfl (lv_at hl 0 rfl) ?_
        refine va_get (D := D) (ci := 4) (C := RX4) (T := TX4) (N := 3) hx hb hts iX4 hown hK hP 0 rfl rfl 0 (by decide) l9 (fun _ h9 => h9) rfl dX4_take_23 ?_
        refine lv_iload_n hx hb dX4_take_26 rfl (lv_at hl 1 rfl) ?_
        refine lv_aload_n hx hb dX4_take_27 rfl (lv_at hl 0 rfl) ?_
        refine va_get (D := D) (ci := 4) (C := RX4) (T := TX4) (N := 3) hx hb hts iX4 hown hK hP 0 rfl rfl 2 (by decide) l22 (fun _ h9 => h9) rfl dX4_take_28 ?_
        refine lv_aload_n hx hb dX4_take_31 rfl (lv_at hl 0 rfl) ?_
        refine va_get (D := D) (ci := 4) (C := RX4) (T := TX4) (N := 3) hx hb hts iX4 hown hK hP 0 rfl rfl 2 (by decide) l22 (fun _ h9 => h9) rfl dX4_take_32 ?_
        refine lv_iload_n hx hb dX4_take_35 rfl (lv_at hl 1 rfl) ?_
        obtain ⟨v17, hv17, hf⟩ := o_b1 hf
        refine x_dv hx hb hv17 dX4_take_36 ?_
        refine lv_aload_n hx hb dX4_take_37 rfl (lv_at hl 0 rfl) ?_
        refine va_get (D := D) (ci := 4) (C := RX4) (T := TX4) (N := 3) hx hb hts iX4 hown hK hP 0 rfl rfl 0 (by decide) l9 (fun _ h9 => h9) rfl dX4_take_38 ?_
        refine lv_aload_n hx hb dX4_take_41 rfl (lv_at hl 0 rfl) ?_
        refine va_get (D := D) (ci := 4) (C := RX4) (T := TX4) (N := 3) hx hb hts iX4 hown hK hP 0 rfl rfl 2 (by decide) l22 (fun _ h9 => h9) rfl dX4_take_42 ?_
        refine lv_iload_n hx hb dX4_take_45 rfl (lv_at hl 1 rfl) ?_
        obtain ⟨v18, hv18, hf⟩ := o_b1 hf
        refine x_rm hx hb hv18 dX4_take_46 ?_
        obtain ⟨v19, hv19, hf⟩ := o_b1 hf
        refine x_ald hx hb hK hP 1 rfl hv19 dX4_take_47 ?_
        refine lv_imul hx hb dX4_take_48 ?_
        refine lv_aload_n hx hb dX4_take_49 rfl (lv_at hl 0 rfl) ?_
        refine va_get (D := D) (ci := 4) (C := RX4) (T := TX4) (N := 3) hx hb hts iX4 hown hK hP 0 rfl rfl 2 (by decide) l22 (fun _ h9 => h9) rfl dX4_take_50 ?_
        obtain ⟨v20, hv20, hf⟩ := o_b1 hf
        refine x_rm hx hb hv20 dX4_take_53 ?_
        refine lv_isub hx hb dX4_take_54 ?_
        obtain ⟨u21, hu21, hf⟩ := o_b1 hf
        refine x_ast (W1 := [x_o4 a_N a_N_inverses a_N_roots i1, x_ar cI a_N_inverses 200 u21, x_ar cI a_N_roots 200 N_roots_r]) hx hb hK hP hD hS 1 rfl hu21 rfl dX4_take_55 (fun H locs hP hD hS => ?_)
        obtain ⟨v22, ev22, hf⟩ := o_nm hf
        refine lv_iinc (v := v22) (lv' := [(2, .int v22), (0, .ref a_N)]) hx hb dX4_take_56 hl (k := 1) rfl (by rw [ev22]; rfl) (by decide) rfl (fun ls hl => ?_)
        refine lv_goto (tgt := 14) hx hb dX4_take_59 (by decide) ?_
        exact ih14 v22 u21 _ _ _ hf (lv_sub hl [1, 0] rfl) hP hD hS
  exact L14 p_FU 2 u1 _ _ _ hf (lv_sub hl [1, 0] rfl) hP hD hS
noncomputable def kX8_isPrime_37 : Option (Int32) :=
  some 1
noncomputable def FgX8_isPrime_16 (i1 : Int32) (rec16 : Int32 → Option (Int32)) (kk16 : Option (Int32)) (x1 : Int32) : Option (Int32) :=
  if i1 < (x1 * x1) then (kk16) else (p_b1 (p_rm i1 x1) (fun v2 =>
if v2 = 0 then (some 0) else (p_nm (x1 + 1) (fun v3 =>
rec16 v3))))
noncomputable def gX8_isPrime_16 (i1 : Int32) (kk16 : Option (Int32)) (n : Nat) : Int32 → Option (Int32) := Nat.rec (motive := fun _ => Int32 → Option (Int32)) (fun _ => none) (fun _ rec16 => FgX8_isPrime_16 i1 rec16 kk16) n
noncomputable def fX8_isPrime (i1 : Int32) : Option (Int32) :=
  if i1 < 5 then (some 0) else (if i1 ≤ 199 then (gX8_isPrime_16 i1 (kX8_isPrime_37) p_FU 2) else (some 0))
def rmX8_isPrime : Room := { frames := 0, cells := 0, slots := 0, locals := 0 }
set_option maxHeartbeats 4000000 in
set_option maxRecDepth 100000 in
theorem tX8_isPrime (l : Launch) (D : va_G) (cI : ClassId) (i1 : Int32) (r : Int32) (hf : fX8_isPrime i1 = some r) : x_CI l D cI yX8_isPrime wsX8_isPrime rmX8_isPrime [.int i1] [] [] r := by
  refine x_CI_of (cc := cX8_isPrime) (maxL := 2) (ty := .boolean) (own := RX8) (lv0 := [(0, .int i1)]) (by decide) rfl rfl (Nat.le_of_ble_eq_true rfl) rfl ?_
  intro p e s m args below meth c A Q ls hx hb hml hown hts hN hK hP hD hS hA hl hret
  unfold fX8_isPrime at hf
  refine lv_iload_n hx hb dX8_isPrime_0 rfl (lv_at hl 0 rfl) ?_
  refine lv_iconst (v := 5) hx hb dX8_isPrime_1 (by decide) ?_
  refine lv_icmp_lt (tgt := 12) hx hb dX8_isPrime_2 (by decide) (fun hc => ?_) (fun hc => ?_)
  · have hf := o_t hf hc
    refine lv_iconst (v := 0) hx hb dX8_isPrime_12 (by decide) ?_
    obtain rfl := Option.some.inj hf
    exact hret rfl (by decide) dX8_isPrime_13 hP hD hS
  · have hf := o_f hf hc
    refine lv_iload_n hx hb dX8_isPrime_5 rfl (lv_at hl 0 rfl) ?_
    refine lv_sipush (v := 199) hx hb dX8_isPrime_6 (by decide) ?_
    refine lv_icmp_le (tgt := 14) hx hb dX8_isPrime_9 (by decide) (fun hc => ?_) (fun hc => ?_)
    · have hf := o_t hf hc
      refine lv_iconst (v := 2) hx hb dX8_isPrime_14 (by decide) ?_
      refine lv_istore_n (lv' := [(1, .int 2), (0, .int i1)]) hx hb dX8_isPrime_15 rfl hl (by decide) rfl (fun ls hl => ?_)
      have L16 : ∀ (n : Nat) (x1 : Int32) (ls : Array Slot) (H : Heap) (locs : List Loc), gX8_isPrime_16 i1 (kX8_isPrime_37) n x1 = some r → lv_has ls 2 [(0, .int i1), (1, .int x1)] → va_P D vwCl [] H → va_D A [] → va_S A s.heap H locs → W p l e rmX8_isPrime s m args below meth c H locs 0 0 Q (F0 m 16 ls []) := by
        intro n16
        induction n16 with
        | zero =>
          intro x1 ls H locs hf
          exact nomatch (show (none : Option (Int32)) = some r from hf)
        | succ n16 ih16 =>
          intro x1 ls H locs hf hl hP hD hS
          have hf : FgX8_isPrime_16 i1 (gX8_isPrime_16 i1 (kX8_isPrime_37) n16) (kX8_isPrime_37) x1 = some r := hf
          unfold FgX8_isPrime_16 at hf
          refine lv_iload_n hx hb dX8_isPrime_16 rfl (lv_at hl 1 rfl) ?_
          refine lv_iload_n hx hb dX8_isPrime_17 rfl (lv_at hl 1 rfl) ?_
          refine lv_imul hx hb dX8_isPrime_18 ?_
          refine lv_iload_n hx hb dX8_isPrime_19 rfl (lv_at hl 0 rfl) ?_
          have J37 : ∀ (ls : Array Slot) (H : Heap) (locs : List Loc), kX8_isPrime_37 = some r → lv_has ls 2 [] → va_P D vwCl [] H → va_D A [] → va_S A s.heap H locs → W p l e rmX8_isPrime s m args below meth c H locs 0 0 Q (F0 m 37 ls []) := by
            intro ls H locs hf hl hP hD hS
            unfold kX8_isPrime_37 at hf
            refine lv_iconst (v := 1) hx hb dX8_isPrime_37 (by decide) ?_
            obtain rfl := Option.some.inj hf
            exact hret rfl (by decide) dX8_isPrime_38 hP hD hS
          refine lv_icmp_gt (tgt := 37) hx hb dX8_isPrime_20 (by decide) (fun hc => ?_) (fun hc => ?_)
          · have hf := o_t hf hc
            exact J37 _ _ _ hf (lv_sub hl [] rfl) hP hD hS
          · have hf := o_f hf hc
            refine lv_iload_n hx hb dX8_isPrime_23 rfl (lv_at hl 0 rfl) ?_
            refine lv_iload_n hx hb dX8_isPrime_24 rfl (lv_at hl 1 rfl) ?_
            obtain ⟨v2, hv2, hf⟩ := o_b1 hf
            refine x_rm hx hb hv2 dX8_isPrime_25 ?_
            refine lv_if_ne (tgt := 31) hx hb dX8_isPrime_26 (by decide) (fun hc => ?_) (fun hc => ?_)
            · have hf := o_f hf hc
              obtain ⟨v3, ev3, hf⟩ := o_nm hf
              refine lv_iinc (v := v3) (lv' := [(1, .int v3), (0, .int i1)]) hx hb dX8_isPrime_31 hl (k := 1) rfl (by rw [ev3]; rfl) (by decide) rfl (fun ls hl => ?_)
              refine lv_goto (tgt := 16) hx hb dX8_isPrime_34 (by decide) ?_
              exact ih16 v3 _ _ _ hf (lv_sub hl [1, 0] rfl) hP hD hS
            · have hf := o_t hf hc
              refine lv_iconst (v := 0) hx hb dX8_isPrime_29 (by decide) ?_
              obtain rfl := Option.some.inj hf
              exact hret rfl (by decide) dX8_isPrime_30 hP hD hS
      exact L16 p_FU 2 _ _ _ hf (lv_sub hl [1, 0] rfl) hP hD hS
    · have hf := o_f hf hc
      refine lv_iconst (v := 0) hx hb dX8_isPrime_12 (by decide) ?_
      obtain rfl := Option.some.inj hf
      exact hret rfl (by decide) dX8_isPrime_13 hP hD hS
noncomputable def fX4_rest (N_p : Int32) (i1 : Int32) : Option (Int32) :=
  p_b1 (p_rm i1 N_p) (fun v1 =>
if 0 ≤ v1 then (some v1) else (some (v1 + N_p)))
def rmX4_rest : Room := { frames := 0, cells := 0, slots := 0, locals := 0 }
set_option maxHeartbeats 4000000 in
set_option maxRecDepth 100000 in
theorem tX4_rest (l : Launch) (D : va_G) (cI : ClassId) (a_N : Nat) (a_N_inverses : Nat) (a_N_roots : Nat) (N_p : Int32) (i1 : Int32) (r : Int32) (hf : fX4_rest N_p i1 = some r) : x_CI l D cI yX4_rest wsX4_rest rmX4_rest [.ref a_N, .int i1] [x_o4 a_N a_N_inverses a_N_roots N_p] [x_o4 a_N a_N_inverses a_N_roots N_p] r := by
  refine x_CI_of (cc := cX4_rest) (maxL := 3) (ty := .int) (own := RX4) (lv0 := [(0, .ref a_N), (1, .int i1)]) (by decide) rfl rfl (Nat.le_of_ble_eq_true rfl) rfl ?_
  intro p e s m args below meth c A Q ls hx hb hml hown hts hN hK hP hD hS hA hl hret
  have iX4 : ∀ w ∈ u_ws RX4 TX4 3, w ∈ wsX4_rest := by decide +kernel
  have l22 := hts (.fieldLink RX4 22 "ChordRings$Numbers" "p" "I") (by decide +kernel)
  unfold fX4_rest at hf
  refine lv_iload_n hx hb dX4_rest_0 rfl (lv_at hl 1 rfl) ?_
  refine lv_aload_n hx hb dX4_rest_1 rfl (lv_at hl 0 rfl) ?_
  refine va_get (D := D) (ci := 4) (C := RX4) (T := TX4) (N := 3) hx hb hts iX4 hown hK hP 0 rfl rfl 2 (by decide) l22 (fun _ h9 => h9) rfl dX4_rest_2 ?_
  obtain ⟨v1, hv1, hf⟩ := o_b1 hf
  refine x_rm hx hb hv1 dX4_rest_5 ?_
  refine lv_istore_n (lv' := [(2, .int v1), (0, .ref a_N), (1, .int i1)]) hx hb dX4_rest_6 rfl hl (by decide) rfl (fun ls hl => ?_)
  refine lv_iload_n hx hb dX4_rest_7 rfl (lv_at hl 0 rfl) ?_
  refine lv_if_ge (tgt := 20) hx hb dX4_rest_8 (by decide) (fun hc => ?_) (fun hc => ?_)
  · have hf := o_t hf hc
    refine lv_iload_n hx hb dX4_rest_20 rfl (lv_at hl 0 rfl) ?_
    obtain rfl := Option.some.inj hf
    exact hret rfl rfl dX4_rest_21 hP hD hS
  · have hf := o_f hf hc
    refine lv_iload_n hx hb dX4_rest_11 rfl (lv_at hl 0 rfl) ?_
    refine lv_aload_n hx hb dX4_rest_12 rfl (lv_at hl 1 rfl) ?_
    refine va_get (D := D) (ci := 4) (C := RX4) (T := TX4) (N := 3) hx hb hts iX4 hown hK hP 0 rfl rfl 2 (by decide) l22 (fun _ h9 => h9) rfl dX4_rest_13 ?_
    refine lv_iadd hx hb dX4_rest_16 ?_
    refine lv_goto (tgt := 21) hx hb dX4_rest_17 (by decide) ?_
    obtain rfl := Option.some.inj hf
    exact hret rfl rfl dX4_rest_21 hP hD hS
def fX4_has (N_p : Int32) (i1 : Int32) : Option (Int32) :=
  if i1 < 0 then (some 0) else (if N_p ≤ i1 then (some 0) else (some 1))
def rmX4_has : Room := { frames := 0, cells := 0, slots := 0, locals := 0 }
set_option maxHeartbeats 4000000 in
set_option maxRecDepth 100000 in
theorem tX4_has (l : Launch) (D : va_G) (cI : ClassId) (a_N : Nat) (a_N_inverses : Nat) (a_N_roots : Nat) (N_p : Int32) (i1 : Int32) (r : Int32) (hf : fX4_has N_p i1 = some r) : x_CI l D cI yX4_has wsX4_has rmX4_has [.ref a_N, .int i1] [x_o4 a_N a_N_inverses a_N_roots N_p] [x_o4 a_N a_N_inverses a_N_roots N_p] r := by
  refine x_CI_of (cc := cX4_has) (maxL := 2) (ty := .boolean) (own := RX4) (lv0 := [(0, .ref a_N), (1, .int i1)]) (by decide) rfl rfl (Nat.le_of_ble_eq_true rfl) rfl ?_
  intro p e s m args below meth c A Q ls hx hb hml hown hts hN hK hP hD hS hA hl hret
  have iX4 : ∀ w ∈ u_ws RX4 TX4 3, w ∈ wsX4_has := by decide +kernel
  have l22 := hts (.fieldLink RX4 22 "ChordRings$Numbers" "p" "I") (by decide +kernel)
  unfold fX4_has at hf
  refine lv_iload_n hx hb dX4_has_0 rfl (lv_at hl 1 rfl) ?_
  refine lv_if_lt (tgt := 16) hx hb dX4_has_1 (by decide) (fun hc => ?_) (fun hc => ?_)
  · have hf := o_t hf hc
    refine lv_iconst (v := 0) hx hb dX4_has_16 (by decide) ?_
    obtain rfl := Option.some.inj hf
    exact hret rfl (by decide) dX4_has_17 hP hD hS
  · have hf := o_f hf hc
    refine lv_iload_n hx hb dX4_has_4 rfl (lv_at hl 1 rfl) ?_
    refine lv_aload_n hx hb dX4_has_5 rfl (lv_at hl 0 rfl) ?_
    refine va_get (D := D) (ci := 4) (C := RX4) (T := TX4) (N := 3) hx hb hts iX4 hown hK hP 0 rfl rfl 2 (by decide) l22 (fun _ h9 => h9) rfl dX4_has_6 ?_
    refine lv_icmp_ge (tgt := 16) hx hb dX4_has_9 (by decide) (fun hc => ?_) (fun hc => ?_)
    · have hf := o_t hf hc
      refine lv_iconst (v := 0) hx hb dX4_has_16 (by decide) ?_
      obtain rfl := Option.some.inj hf
      exact hret rfl (by decide) dX4_has_17 hP hD hS
    · have hf := o_f hf hc
      refine lv_iconst (v := 1) hx hb dX4_has_12 (by decide) ?_
      refine lv_goto (tgt := 17) hx hb dX4_has_13 (by decide) ?_
      obtain rfl := Option.some.inj hf
      exact hret rfl (by decide) dX4_has_17 hP hD hS
noncomputable def fX4_inverseOf (N_p : Int32) (N_inverses_r : (Nat → Int32)) (i1 : Int32) : Option (Int32) :=
  if i1 ≤ 0 then (some 0) else (if N_p ≤ i1 then (some 0) else (p_b1 (p_ld N_inverses_r 200 i1) (fun v1 =>
some v1)))
def rmX4_inverseOf : Room := { frames := 0, cells := 0, slots := 0, locals := 0 }
set_option maxHeartbeats 4000000 in
set_option maxRecDepth 100000 in
theorem tX4_inverseOf (l : Launch) (D : va_G) (cI : ClassId) (a_N : Nat) (a_N_inverses : Nat) (a_N_roots : Nat) (N_p : Int32) (N_inverses_r : (Nat → Int32)) (i1 : Int32) (r : Int32) (hf : fX4_inverseOf N_p N_inverses_r i1 = some r) : x_CI l D cI yX4_inverseOf wsX4_inverseOf rmX4_inverseOf [.ref a_N, .int i1] [x_o4 a_N a_N_inverses a_N_roots N_p, x_ar cI a_N_inverses 200 N_inverses_r] [x_o4 a_N a_N_inverses a_N_roots N_p, x_ar cI a_N_inverses 200 N_inverses_r] r := by
  refine x_CI_of (cc := cX4_inverseOf) (maxL := 2) (ty := .int) (own := RX4) (lv0 := [(0, .ref a_N), (1, .int i1)]) (by decide) rfl rfl (Nat.le_of_ble_eq_true rfl) rfl ?_
  intro p e s m args below meth c A Q ls hx hb hml hown hts hN hK hP hD hS hA hl hret
  have iX4 : ∀ w ∈ u_ws RX4 TX4 3, w ∈ wsX4_inverseOf := by decide +kernel
  have l22 := hts (.fieldLink RX4 22 "ChordRings$Numbers" "p" "I") (by decide +kernel)
  have l9 := hts (.fieldLink RX4 9 "ChordRings$Numbers" "inverses" "[I") (by decide +kernel)
  unfold fX4_inverseOf at hf
  refine lv_iload_n hx hb dX4_inverseOf_0 rfl (lv_at hl 1 rfl) ?_
  refine lv_if_le (tgt := 21) hx hb dX4_inverseOf_1 (by decide) (fun hc => ?_) (fun hc => ?_)
  · have hf := o_t hf hc
    refine lv_iconst (v := 0) hx hb dX4_inverseOf_21 (by decide) ?_
    obtain rfl := Option.some.inj hf
    exact hret rfl rfl dX4_inverseOf_22 hP hD hS
  · have hf := o_f hf hc
    refine lv_iload_n hx hb dX4_inverseOf_4 rfl (lv_at hl 1 rfl) ?_
    refine lv_aload_n hx hb dX4_inverseOf_5 rfl (lv_at hl 0 rfl) ?_
    refine va_get (D := D) (ci := 4) (C := RX4) (T := TX4) (N := 3) hx hb hts iX4 hown hK hP 0 rfl rfl 2 (by decide) l22 (fun _ h9 => h9) rfl dX4_inverseOf_6 ?_
    refine lv_icmp_ge (tgt := 21) hx hb dX4_inverseOf_9 (by decide) (fun hc => ?_) (fun hc => ?_)
    · have hf := o_t hf hc
      refine lv_iconst (v := 0) hx hb dX4_inverseOf_21 (by decide) ?_
      obtain rfl := Option.some.inj hf
      exact hret rfl rfl dX4_inverseOf_22 hP hD hS
    · have hf := o_f hf hc
      refine lv_aload_n hx hb dX4_inverseOf_12 rfl (lv_at hl 0 rfl) ?_
      refine va_get (D := D) (ci := 4) (C := RX4) (T := TX4) (N := 3) hx hb hts iX4 hown hK hP 0 rfl rfl 0 (by decide) l9 (fun _ h9 => h9) rfl dX4_inverseOf_13 ?_
      refine lv_iload_n hx hb dX4_inverseOf_16 rfl (lv_at hl 1 rfl) ?_
      obtain ⟨v1, hv1, hf⟩ := o_b1 hf
      refine x_ald hx hb hK hP 1 rfl hv1 dX4_inverseOf_17 ?_
      refine lv_goto (tgt := 22) hx hb dX4_inverseOf_18 (by decide) ?_
      obtain rfl := Option.some.inj hf
      exact hret rfl rfl dX4_inverseOf_22 hP hD hS
noncomputable def fX4_rootOf (N_p : Int32) (N_roots_r : (Nat → Int32)) (i1 : Int32) : Option (Int32) :=
  p_b1 (fX4_rest N_p i1) (fun v1 =>
p_b1 (p_ld N_roots_r 200 v1) (fun v2 =>
some v2))
def rmX4_rootOf : Room := { frames := 1, cells := 0, slots := 0, locals := 22 }
set_option maxHeartbeats 4000000 in
set_option maxRecDepth 100000 in
theorem tX4_rootOf (l : Launch) (D : va_G) (cI : ClassId) (a_N : Nat) (a_N_inverses : Nat) (a_N_roots : Nat) (N_p : Int32) (N_roots_r : (Nat → Int32)) (i1 : Int32) (r : Int32) (hf : fX4_rootOf N_p N_roots_r i1 = some r) : x_CI l D cI yX4_rootOf wsX4_rootOf rmX4_rootOf [.ref a_N, .int i1] [x_o4 a_N a_N_inverses a_N_roots N_p, x_ar cI a_N_roots 200 N_roots_r] [x_o4 a_N a_N_inverses a_N_roots N_p, x_ar cI a_N_roots 200 N_roots_r] r := by
  refine x_CI_of (cc := cX4_rootOf) (maxL := 2) (ty := .int) (own := RX4) (lv0 := [(0, .ref a_N), (1, .int i1)]) (by decide) rfl rfl (Nat.le_of_ble_eq_true rfl) rfl ?_
  intro p e s m args below meth c A Q ls hx hb hml hown hts hN hK hP hD hS hA hl hret
  have iX4 : ∀ w ∈ u_ws RX4 TX4 3, w ∈ wsX4_rootOf := by decide +kernel
  have l15 := hts (.fieldLink RX4 15 "ChordRings$Numbers" "roots" "[I") (by decide +kernel)
  unfold fX4_rootOf at hf
  refine lv_aload_n hx hb dX4_rootOf_0 rfl (lv_at hl 0 rfl) ?_
  refine va_get (D := D) (ci := 4) (C := RX4) (T := TX4) (N := 3) hx hb hts iX4 hown hK hP 0 rfl rfl 1 (by decide) l15 (fun _ h9 => h9) rfl dX4_rootOf_1 ?_
  refine lv_aload_n hx hb dX4_rootOf_4 rfl (lv_at hl 0 rfl) ?_
  refine lv_iload_n hx hb dX4_rootOf_5 rfl (lv_at hl 1 rfl) ?_
  obtain ⟨v1, hv1, hf⟩ := o_b1 hf
  refine x_vi (rest := [.ref a_N_roots]) (W1 := [x_o4 a_N a_N_inverses a_N_roots N_p, x_ar cI a_N_roots 200 N_roots_r]) ⟨hx, hb, hml, hown, hts⟩ (tX4_rest l D cI a_N a_N_inverses a_N_roots N_p i1 v1 hv1) (cwV 1 hts gX4_rootOf_X4_rest rfl rfl rfl (by decide +kernel) ⟨Nat.le_of_ble_eq_true rfl, Nat.le_of_ble_eq_true rfl⟩) hN hK hP hD hS hA [0] [some 0, none] rfl rfl rfl rfl rfl rfl 0 rfl rfl rfl hl.1 rfl (Nat.le_of_ble_eq_true rfl) dX4_rootOf_6 ⟨Nat.zero_le _, Nat.zero_le _⟩ (fun H locs hP hD hS => ?_)
  obtain ⟨v2, hv2, hf⟩ := o_b1 hf
  refine x_ald hx hb hK hP 1 rfl hv2 dX4_rootOf_9 ?_
  obtain rfl := Option.some.inj hf
  exact hret rfl rfl dX4_rootOf_10 hP hD hS
