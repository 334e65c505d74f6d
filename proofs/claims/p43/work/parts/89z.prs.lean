/-! the pairs of this part, the relation, the run -/
def zp_house : zPr := (101, 164, 1, false, [], [(5, 3), (12, 7), (98, 2), (98, 73)], (0, 0), none, none)
theorem zp_house_t : pairB zZ zT Fc Arc zp_house 2000 = true := by decide +kernel
def zp_film : zPr := (103, 167, 2, false, [], [(4, 6), (12, 11), (98, 6), (98, 7), (98, 76), (98, 77)], (0, 0), none, none)
theorem zp_film_t : pairB zZ zT Fc Arc zp_film 2000 = true := by decide +kernel
def zp_person : zPr := (105, 169, 1, false, [], [(6, 7), (12, 13), (98, 13), (98, 78)], (0, 0), none, none)
theorem zp_person_t : pairB zZ zT Fc Arc zp_person 2000 = true := by decide +kernel
def zp_days : zPr := (98, 160, 1, false, [], [(11, 10), (12, 0)], (0, 0), none, none)
theorem zp_days_t : pairB zZ zT Fc Arc zp_days 2000 = true := by decide +kernel
def zp_set : zPr := (111, 177, 2, false, [], [(98, 32), (98, 88)], (0, 0), none, none)
theorem zp_set_t : pairB zZ zT Fc Arc zp_set 2000 = true := by decide +kernel
def zp_cost : zPr := (112, 179, 2, false, [], [(2, 0), (2, 1), (2, 2), (2, 3), (2, 4), (2, 5), (2, 6), (2, 7), (2, 8), (2, 9), (2, 10), (2, 11), (3, 4), (12, 31), (98, 31), (98, 34), (98, 89), (98, 90), (98, 91), (98, 93)], (1, 13), none, none)
def zp_audit : zPr := (136, 242, 2, false, [], [(2, 11), (2, 12), (3, 5), (98, 92), (98, 93)], (0, 0), none, none)
def zp_bound : zPr := (139, 247, 1, true, [], [], (0, 0), none, none)
def zPS : List zPr := [zp_house, zp_film, zp_person, zp_days, zp_set, zp_cost, zp_audit, zp_bound]
theorem zPS_ok : ∀ p ∈ zPS, PairOK (RR Fc Arc RZc) p := by
  intro p hp
  simp only [zPS, List.mem_cons, List.not_mem_nil, or_false] at hp
  rcases hp with rfl | rfl | rfl | rfl | rfl | rfl | rfl | rfl
  · exact pairC zp_house_t (by decide +kernel) RZc_keep (by decide +kernel) (by decide +kernel)
  · exact pairC zp_film_t (by decide +kernel) RZc_keep (by decide +kernel) (by decide +kernel)
  · exact pairC zp_person_t (by decide +kernel) RZc_keep (by decide +kernel) (by decide +kernel)
  · exact pairC zp_days_t (by decide +kernel) RZc_keep (by decide +kernel) (by decide +kernel)
  · exact pairC zp_set_t (by decide +kernel) RZc_keep (by decide +kernel) (by decide +kernel)
  · exact h_cost ⟨rfl, rfl, rfl⟩ (by decide +kernel)
  · exact h_audit ⟨rfl, rfl, rfl⟩ (by decide +kernel)
  · exact h_bound ⟨rfl, rfl, rfl⟩ (by decide +kernel) (by decide +kernel) (by decide +kernel)
def b_st (w : mWd) : Bool := Fc.all (fun p => b_e p w) && Arc.all (fun p => b_rn p w) && b_i 69 31 0 w && b_i 30 5 0 w && b_c 150 92 0 w
theorem b_st_ok (w : mWd) (hW : WI zZ w) (h : b_st w = true) : RR Fc Arc RZc w := by
  unfold b_st at h
  simp only [Bool.and_eq_true] at h
  obtain ⟨⟨⟨⟨h0, h1⟩, h2⟩, h3⟩, h4⟩ := h
  refine ⟨(RI_ofA hW (by decide +kernel) (by decide +kernel)).mpr ⟨fun p hp => b_e_ok (List.all_eq_true.mp h0 p hp), fun p hp n hn => b_rn_ok (List.all_eq_true.mp h1 p hp) hn⟩, ?_⟩
  have hT : cT (aw w) = 0 := by unfold cT; rw [b_i_ok h2]; rfl
  refine ⟨fun c hc => by omega, fun c d a hc => by omega, fun c _ h9 => i32_ext (b_c_ok h4 c h9), ?_⟩
  unfold audM
  rw [hT]
  exact i32_ext (b_i_ok h3)
theorem lw_run : lw_Run := lw_run3 (kp := fun wr => ri_wr zZ Fc Arc wr && kRc wr) (R := RR Fc Arc RZc) (PS := zPS) (bst := b_st) (fun wr w w1 a b c e f => kpRR RZc_keep wr w w1 a b c e f) (fun L xs d hd p hp => zPS_ok p hp L xs d hd) b_st_ok (by decide +kernel) (by decide +kernel)
