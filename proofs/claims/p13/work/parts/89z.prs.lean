/-! the pairs of this part, the relation, the run -/
def zp_house : zPr := (101, 164, 1, false, [], [(5, 3), (12, 7), (98, 2), (98, 73)], (0, 0), none, none)
theorem zp_house_t : pairB zZ zT F14 [] zp_house 2000 = true := by decide +kernel
def zp_film : zPr := (103, 167, 2, false, [], [(4, 6), (12, 11), (98, 6), (98, 7), (98, 76), (98, 77)], (0, 0), none, none)
theorem zp_film_t : pairB zZ zT F14 [] zp_film 2000 = true := by decide +kernel
def zp_days : zPr := (98, 160, 1, false, [], [(11, 10), (12, 0)], (0, 0), none, none)
theorem zp_days_t : pairB zZ zT F14 [] zp_days 2000 = true := by decide +kernel
def zp_point : zPr := (108, 173, 3, false, [], [(4, 7), (12, 24), (98, 8), (98, 9), (98, 10), (98, 11), (98, 84), (98, 85), (98, 86), (98, 87)], (0, 0), none, none)
def zp_prove : zPr := (109, 174, 1, true, [], [(98, 11), (98, 87)], (0, 0), none, none)
def zPS : List zPr := [zp_house, zp_film, zp_days, zp_point, zp_prove]
theorem zPS_ok : ∀ p ∈ zPS, PairOK (RR F14 [] RX14) p := by
  intro p hp
  simp only [zPS, List.mem_cons, List.not_mem_nil, or_false] at hp
  rcases hp with rfl | rfl | rfl | rfl | rfl
  · exact pairC zp_house_t (by decide +kernel) (Keeps.of RX14_s) (by decide +kernel) (by decide +kernel)
  · exact pairC zp_film_t (by decide +kernel) (Keeps.of RX14_s) (by decide +kernel) (by decide +kernel)
  · exact pairC zp_days_t (by decide +kernel) (Keeps.of RX14_s) (by decide +kernel) (by decide +kernel)
  · exact h_point ⟨rfl, rfl, rfl⟩ (by decide +kernel)
  · exact h_prove ⟨rfl, rfl, rfl⟩ (by decide +kernel)
def b_st (w : mWd) : Bool := F14.all (fun p => b_e p w) && b_r 100 8 84 w && b_r 100 9 85 w && b_r 100 10 86 w && b_i 69 24 0 w
theorem b_st_ok (w : mWd) (hW : WI zZ w) (h : b_st w = true) : RR F14 [] RX14 w := by
  unfold b_st at h
  simp only [Bool.and_eq_true] at h
  obtain ⟨⟨⟨⟨h0, h1⟩, h2⟩, h3⟩, h4⟩ := h
  refine ⟨(RI_ofA hW (by decide +kernel) (by decide +kernel)).mpr ⟨fun p hp => b_e_ok (List.all_eq_true.mp h0 p hp), fun p hp => by cases hp⟩, b_r_ok h1, b_r_ok h2, b_r_ok h3, fun j hj => ?_⟩
  rw [b_i_ok h4] at hj
  exact absurd hj (Nat.not_lt_zero j)
theorem lw_run : lw_Run := lw_run3 (kp := fun wr => ri_wr zZ F14 [] wr && kpS S14 wr) (R := RR F14 [] RX14) (PS := zPS) (bst := b_st) (fun wr w w1 a b c e f => kpRR (Keeps.of RX14_s) wr w w1 a b c e f) (fun L xs d hd p hp => zPS_ok p hp L xs d hd) b_st_ok (by decide +kernel) (by decide +kernel)
