/-! the pairs of this part, the relation, the run -/
def zp_days : zPr := (98, 160, 1, false, [], [(11, 10), (12, 0)], (0, 0), none, none)
theorem zp_days_t : pairB zZ zT Ft Art zp_days 2000 = true := by decide +kernel
def zp_feed : zPr := (118, 190, 2, true, [], [(9, 2), (12, 39), (98, 36), (98, 99)], (0, 0), none, none)
def zp_text : zPr := (119, 204, 2, false, [], [(0, 7), (9, 2), (9, 3), (9, 4), (9, 5), (12, 39), (12, 45), (12, 60), (12, 61), (12, 62), (12, 63), (12, 64), (12, 66), (12, 68), (98, 37), (98, 39), (98, 40), (98, 41), (98, 42), (98, 43), (98, 100), (98, 101), (98, 102), (98, 103), (98, 104), (98, 115), (98, 117)], (1, 161), none, none)
def zPS : List zPr := [zp_days, zp_feed, zp_text]
theorem zPS_ok : ∀ p ∈ zPS, PairOK (RR Ft Art RXt) p := by
  intro p hp
  simp only [zPS, List.mem_cons, List.not_mem_nil, or_false] at hp
  rcases hp with rfl | rfl | rfl
  · exact pairC zp_days_t (by decide +kernel) RXt_keep (by decide +kernel) (by decide +kernel)
  · exact h_feed ⟨rfl, rfl, rfl⟩ (by decide +kernel)
  · exact h_text ⟨rfl, rfl, rfl⟩ (by decide +kernel)
def b_st (w : mWd) : Bool := Ft.all (fun p => b_e p w) && Art.all (fun p => b_rn p w) && b_c 160 36 0 w && b_i 69 45 0 w
theorem b_st_ok (w : mWd) (hW : WI zZ w) (h : b_st w = true) : RR Ft Art RXt w := by
  unfold b_st at h
  simp only [Bool.and_eq_true] at h
  obtain ⟨⟨⟨h0, h1⟩, h2⟩, h3⟩ := h
  refine ⟨(RI_ofA hW (by decide +kernel) (by decide +kernel)).mpr ⟨fun p hp => b_e_ok (List.all_eq_true.mp h0 p hp), fun p hp n hn => b_rn_ok (List.all_eq_true.mp h1 p hp) hn⟩, fun j hj => ?_, fun i hi => ?_⟩
  · have := b_c_ok h2 j hj
    omega
  · exfalso
    unfold tT at hi
    rw [b_i_ok h3] at hi
    exact absurd hi (Nat.not_lt_zero i)
theorem lw_run : lw_Run := lw_run3 (kp := fun wr => ri_wr zZ Ft Art wr && kRt wr) (R := RR Ft Art RXt) (PS := zPS) (bst := b_st) (fun wr w w1 a b c e f => kpRR RXt_keep wr w w1 a b c e f) (fun L xs d hd p hp => zPS_ok p hp L xs d hd) b_st_ok (by decide +kernel) (by decide +kernel)
