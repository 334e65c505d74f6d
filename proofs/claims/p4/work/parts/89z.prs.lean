/-! the pairs of this part, the relation, the run -/
def zp_coin : zPr := (99, 161, 3, false, [], [(98, 21), (98, 22), (98, 23), (98, 70), (98, 71), (98, 72)], (0, 0), none, none)
def zp_coinOn : zPr := (100, 163, 2, true, [], [], (0, 0), none, none)
def zPS : List zPr := [zp_coin, zp_coinOn]
theorem zPS_ok : ∀ p ∈ zPS, PairOK (RR ([] : zRF) Ar4 RX4c) p := by
  intro p hp
  simp only [zPS, List.mem_cons, List.not_mem_nil, or_false] at hp
  rcases hp with rfl | rfl
  · exact h_coin ⟨rfl, rfl, rfl⟩ (by decide +kernel)
  · exact h_coinOn ⟨rfl, rfl, rfl⟩ (by decide +kernel)
def b_st (w : mWd) : Bool := ([] : zRF).all (fun p => b_e p w) && Ar4.all (fun p => b_rn p w) && b_c 6 72 0 w
theorem b_st_ok (w : mWd) (hW : WI zZ w) (h : b_st w = true) : RR ([] : zRF) Ar4 RX4c w := by
  unfold b_st at h
  simp only [Bool.and_eq_true] at h
  obtain ⟨⟨h0, h1⟩, h2⟩ := h
  refine ⟨(RI_ofA hW (by decide +kernel) (by decide +kernel)).mpr ⟨fun p hp => (by cases hp), fun p hp n hn => b_rn_ok (List.all_eq_true.mp h1 p hp) hn⟩, fun L hL j hj => ?_⟩
  have := b_c_ok h2 L hL
  omega
theorem lw_run : lw_Run := lw_run3 (kp := fun wr => ri_wr zZ ([] : zRF) Ar4 wr && kpS S4 wr) (R := RR ([] : zRF) Ar4 RX4c) (PS := zPS) (bst := b_st) (fun wr w w1 a b c e f => kpRR (Keeps.of RX4c_s) wr w w1 a b c e f) (fun L xs d hd p hp => zPS_ok p hp L xs d hd) b_st_ok (by decide +kernel) (by decide +kernel)
