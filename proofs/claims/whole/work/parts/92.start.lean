/-! the start -/
set_option maxRecDepth 10000 in
theorem st_W : Start WInv := by
  have hz : z_pr 7 = true := by decide
  obtain ⟨inv1, roots1, hN1, e1⟩ := e_take hz 0 (fun _ => 0) (fun _ => 0)
  have e1 : fX4_take 0 (fun _ => 0) (fun _ => 0) 7 = some (iI ((7 : Nat) : Int), inv1, roots1) := e1
  obtain ⟨gv1, gC1, gD1, e2⟩ := e_begin hz 0 (fun _ => 0)
  have e2 : fX9_begin 0 7 (fun _ => 0) = some (0, gv1) := e2
  refine ⟨0, 0, 0, iI ((7 : Nat) : Int), inv1, roots1, iI (u0 7 0), iI (u0 7 1), iI (u0 7 2), iI (u0 7 3), iI (u0 7 4), iI (u0 7 5), iI (cof 7 (u0 7) 0), iI (cof 7 (u0 7) 1), iI (cof 7 (u0 7) 2), iI (cof 7 (u0 7) 3), iI (cof 7 (u0 7) 4), iI (cof 7 (u0 7) 5), iI (u0 7 0), iI (u0 7 1), iI (u0 7 2), iI (u0 7 3), iI (u0 7 4), iI (u0 7 5), iI (cof 7 (u0 7) 0), iI (cof 7 (u0 7) 1), iI (cof 7 (u0 7) 2), iI (cof 7 (u0 7) 3), iI (cof 7 (u0 7) 4), iI (cof 7 (u0 7) 5), iI (cu 7 (u0 7) (u0 7) 0), iI (cu 7 (u0 7) (u0 7) 1), iI (cu 7 (u0 7) (u0 7) 2), iI (cu 7 (u0 7) (u0 7) 3), 0, gv1, ?_, ?_, ?_⟩
  · unfold fX8_init fX4_init
    rw [e1, b3_s, b3_s, e_start hz, b31_s]
  · unfold fX9_init
    rw [e2, b2_s]
  · exact ⟨7, u0 7, u0 7, hz, u0_el hz, u0_el hz, ⟨rfl, hN1⟩, ⟨rfl, rfl, rfl, rfl, rfl, rfl⟩, ⟨rfl, rfl, rfl, rfl, rfl, rfl⟩, ⟨rfl, rfl, rfl, rfl, rfl, rfl⟩, ⟨rfl, rfl, rfl, rfl, rfl, rfl⟩, ⟨rfl, rfl, rfl, rfl⟩, Or.inl rfl, Or.inl rfl, Or.inl rfl, ⟨rfl, gC1, gD1⟩, Or.inl rfl⟩
theorem whole_start {p : Program} {e : Env} {s : State} {m : MethodId} {below : List Frame} {meth : Method} {c : Code} (l : Launch) {b L : Nat} {xs : Nat → Int32} (hL : L ≤ 4096) (C0 : lw_At p s m meth c b L xs) : W p l e room_1 s m #[Value.ref b] below meth c s.heap [] 0 0 (lw_Z below #[Value.ref b] s) (entryFrame m ([Value.ref b] : List Value).toArray 4) := whole_start_of l hL C0 WInv s_field s_round s_given s_work s_root s_cubic s_good s_on s_touches s_points s_point s_flags s_flag s_go s_ring s_rings s_series s_determinant s_closes s_least s_multiple s_order s_curve s_chord s_all st_W
