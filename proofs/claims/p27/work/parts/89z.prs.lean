/-! the pairs of this part, the relation, the run -/
def zp_house : zPr := (101, 164, 1, false, [], [(5, 3), (12, 7), (98, 2), (98, 73)], (0, 0), none, none)
theorem zp_house_t : pairB zZ zT F27 Ar27 zp_house 2000 = true := by decide +kernel
def zp_film : zPr := (103, 167, 2, false, [], [(4, 6), (12, 11), (98, 6), (98, 7), (98, 76), (98, 77)], (0, 0), none, none)
theorem zp_film_t : pairB zZ zT F27 Ar27 zp_film 2000 = true := by decide +kernel
def zp_ask : zPr := (123, 221, 2, true, [], [(8, 16), (12, 52), (98, 49), (98, 50), (98, 51), (98, 52), (98, 106), (98, 107), (98, 108), (98, 109)], (0, 0), none, none)
def zPS : List zPr := [zp_house, zp_film, zp_ask]
theorem zPS_ok : ∀ p ∈ zPS, PairOK (RR F27 Ar27 RXT) p := by
  intro p hp
  simp only [zPS, List.mem_cons, List.not_mem_nil, or_false] at hp
  rcases hp with rfl | rfl | rfl
  · exact pairC zp_house_t (by decide +kernel) keepT (by decide +kernel) (by decide +kernel)
  · exact pairC zp_film_t (by decide +kernel) keepT (by decide +kernel) (by decide +kernel)
  · exact h_ask ⟨rfl, rfl, rfl⟩ (by decide +kernel)
def b_st (w : mWd) : Bool := F27.all (fun p => b_e p w) && Ar27.all (fun p => b_rn p w)
theorem b_st_ok (w : mWd) (hW : WI zZ w) (h : b_st w = true) : RR F27 Ar27 RXT w := by
  unfold b_st at h
  simp only [Bool.and_eq_true] at h
  exact ⟨(RI_ofA hW (by decide +kernel) (by decide +kernel)).mpr ⟨fun p hp => b_e_ok (List.all_eq_true.mp h.1 p hp), fun p hp n hn => b_rn_ok (List.all_eq_true.mp h.2 p hp) hn⟩, trivial⟩
theorem lw_run : lw_Run := lw_run3 (kp := fun wr => ri_wr zZ F27 Ar27 wr && (fun _ => true) wr) (R := RR F27 Ar27 RXT) (PS := zPS) (bst := b_st) (fun wr w w1 a b c e f => kpRR keepT wr w w1 a b c e f) (fun L xs d hd p hp => zPS_ok p hp L xs d hd) b_st_ok (by decide +kernel) (by decide +kernel)
