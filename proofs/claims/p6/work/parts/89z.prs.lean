/-! the pairs of this part, the relation, the run -/
def zp_house : zPr := (101, 164, 1, false, [], [(5, 3), (12, 7), (98, 2), (98, 73)], (0, 0), none, none)
theorem zp_house_t : pairB zZ zT F6 [] zp_house 2000 = true := by decide +kernel
def zp_days : zPr := (98, 160, 1, false, [], [(11, 10), (12, 0)], (0, 0), none, none)
theorem zp_days_t : pairB zZ zT F6 [] zp_days 2000 = true := by decide +kernel
def zp_relate : zPr := (102, 165, 2, true, [], [(98, 4), (98, 75)], (0, 0), none, none)
def zPS : List zPr := [zp_house, zp_days, zp_relate]
theorem zPS_ok : ∀ p ∈ zPS, PairOK (RR F6 [] Rz6) p := by
  intro p hp
  simp only [zPS, List.mem_cons, List.not_mem_nil, or_false] at hp
  rcases hp with rfl | rfl | rfl
  · exact pairC zp_house_t (by decide +kernel) (Keeps.of Rz6_s) (by decide +kernel) (by decide +kernel)
  · exact pairC zp_days_t (by decide +kernel) (Keeps.of Rz6_s) (by decide +kernel) (by decide +kernel)
  · exact h_relate ⟨rfl, rfl, rfl⟩ (by decide +kernel)
def b_st (w : mWd) : Bool := F6.all (fun p => b_e p w) && b_c 400 4 3600 w && b_c 400 75 0 w
theorem b_st_ok (w : mWd) (hW : WI zZ w) (h : b_st w = true) : RR F6 [] Rz6 w := by
  unfold b_st at h
  simp only [Bool.and_eq_true] at h
  obtain ⟨⟨h0, h1⟩, h2⟩ := h
  refine ⟨(RI_ofA hW (by decide +kernel) (by decide +kernel)).mpr ⟨fun p hp => b_e_ok (List.all_eq_true.mp h0 p hp), fun p hp => by cases hp⟩, fun j hj => .inl ⟨b_c_ok h2 j hj, b_c_ok h1 j hj⟩⟩
theorem lw_run : lw_Run := lw_run3 (kp := fun wr => ri_wr zZ F6 [] wr && kpS S6 wr) (R := RR F6 [] Rz6) (PS := zPS) (bst := b_st) (fun wr w w1 a b c e f => kpRR (Keeps.of Rz6_s) wr w w1 a b c e f) (fun L xs d hd p hp => zPS_ok p hp L xs d hd) b_st_ok (by decide +kernel) (by decide +kernel)
