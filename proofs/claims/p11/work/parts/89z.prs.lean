/-! the pairs of this part, the relation, the run -/
def zp_person : zPr := (105, 169, 1, false, [], [(6, 7), (12, 13), (98, 13), (98, 78)], (0, 0), none, none)
theorem zp_person_t : pairB zZ zT F11 Ar11 zp_person 2000 = true := by decide +kernel
def zp_stay : zPr := (106, 170, 4, false, [], [(6, 8), (12, 19), (98, 14), (98, 15), (98, 16), (98, 17), (98, 18), (98, 79), (98, 80), (98, 81), (98, 82), (98, 83)], (0, 0), none, none)
theorem zp_stay_t : pairB zZ zT F11 Ar11 zp_stay 2000 = true := by decide +kernel
def zp_days : zPr := (98, 160, 1, false, [], [(11, 10), (12, 0)], (0, 0), none, none)
theorem zp_days_t : pairB zZ zT F11 Ar11 zp_days 2000 = true := by decide +kernel
def zp_lives : zPr := (107, 172, 4, true, [], [(98, 19), (98, 115)], (0, 0), none, none)
def zPS : List zPr := [zp_person, zp_stay, zp_days, zp_lives]
theorem zPS_ok : ∀ p ∈ zPS, PairOK (RR F11 Ar11 RXT) p := by
  intro p hp
  simp only [zPS, List.mem_cons, List.not_mem_nil, or_false] at hp
  rcases hp with rfl | rfl | rfl | rfl
  · exact pairC zp_person_t (by decide +kernel) keepT (by decide +kernel) (by decide +kernel)
  · exact pairC zp_stay_t (by decide +kernel) keepT (by decide +kernel) (by decide +kernel)
  · exact pairC zp_days_t (by decide +kernel) keepT (by decide +kernel) (by decide +kernel)
  · exact h_lives ⟨rfl, rfl, rfl⟩ (by decide +kernel)
def b_st (w : mWd) : Bool := F11.all (fun p => b_e p w) && Ar11.all (fun p => b_rn p w)
theorem b_st_ok (w : mWd) (hW : WI zZ w) (h : b_st w = true) : RR F11 Ar11 RXT w := by
  unfold b_st at h
  simp only [Bool.and_eq_true] at h
  exact ⟨(RI_ofA hW (by decide +kernel) (by decide +kernel)).mpr ⟨fun p hp => b_e_ok (List.all_eq_true.mp h.1 p hp), fun p hp n hn => b_rn_ok (List.all_eq_true.mp h.2 p hp) hn⟩, trivial⟩
theorem lw_run : lw_Run := lw_run3 (kp := fun wr => ri_wr zZ F11 Ar11 wr && (fun _ => true) wr) (R := RR F11 Ar11 RXT) (PS := zPS) (bst := b_st) (fun wr w w1 a b c e f => kpRR keepT wr w w1 a b c e f) (fun L xs d hd p hp => zPS_ok p hp L xs d hd) b_st_ok (by decide +kernel) (by decide +kernel)
