/-! the pairs of this part, the relation, the run -/
def zp_house : zPr := (101, 164, 1, false, [], [(5, 3), (12, 7), (98, 2), (98, 73)], (0, 0), none, none)
theorem zp_house_t : pairB zZ zT (F27 ++ F30) (Ar27 ++ Ar30) zp_house 2000 = true := by decide +kernel
def zp_film : zPr := (103, 167, 2, false, [], [(4, 6), (12, 11), (98, 6), (98, 7), (98, 76), (98, 77)], (0, 0), none, none)
theorem zp_film_t : pairB zZ zT (F27 ++ F30) (Ar27 ++ Ar30) zp_film 2000 = true := by decide +kernel
def zp_ask : zPr := (123, 221, 2, false, [], [(8, 16), (12, 52), (98, 49), (98, 50), (98, 51), (98, 52), (98, 106), (98, 107), (98, 108), (98, 109)], (0, 0), none, none)
def zp_settle : zPr := (128, 232, 1, false, [74], [(0, 9), (0, 10), (1, 6), (7, 10), (8, 18), (12, 60), (12, 61), (12, 62), (12, 63), (12, 64), (12, 66), (12, 67), (12, 68), (98, 3), (98, 19), (98, 29), (98, 44), (98, 45), (98, 53), (98, 54), (98, 55), (98, 59), (98, 60), (98, 74), (98, 110), (98, 114), (98, 115), (98, 116), (98, 117), (98, 118), (98, 119), (98, 120), (98, 121)], (0, 0), none, none)
theorem zp_settle_t : pairB zZ zT (F27 ++ F30) (Ar27 ++ Ar30) zp_settle 2000 = true := by decide +kernel
def zp_loan : zPr := (126, 228, 4, true, [], [(8, 17), (12, 57), (98, 56), (98, 57), (98, 58), (98, 111), (98, 112), (98, 113)], (0, 0), none, none)
theorem zp_loan_t : pairB zZ zT (F27 ++ F30) (Ar27 ++ Ar30) zp_loan 2000 = true := by decide +kernel
def zPS : List zPr := [zp_house, zp_film, zp_ask, zp_settle, zp_loan]
theorem zPS_ok : ∀ p ∈ zPS, PairOK (RR (F27 ++ F30) (Ar27 ++ Ar30) RXT2) p := by
  intro p hp
  simp only [zPS, List.mem_cons, List.not_mem_nil, or_false] at hp
  rcases hp with rfl | rfl | rfl | rfl | rfl
  · exact pairC zp_house_t (by decide +kernel) keepT2 (by decide +kernel) (by decide +kernel)
  · exact pairC zp_film_t (by decide +kernel) keepT2 (by decide +kernel) (by decide +kernel)
  · exact PairOK.ext (F1 := F27) (F2 := F30) (A1 := Ar27) (A2 := Ar30) (h_ask ⟨rfl, rfl, rfl⟩ (by decide +kernel)) (by decide +kernel) keepT (by decide +kernel) (by decide +kernel)
  · exact pairC zp_settle_t (by decide +kernel) keepT2 (by decide +kernel) (by decide +kernel)
  · exact pairC zp_loan_t (by decide +kernel) keepT2 (by decide +kernel) (by decide +kernel)
def b_st (w : mWd) : Bool := (F27 ++ F30).all (fun p => b_e p w) && (Ar27 ++ Ar30).all (fun p => b_rn p w)
theorem b_st_ok (w : mWd) (hW : WI zZ w) (h : b_st w = true) : RR (F27 ++ F30) (Ar27 ++ Ar30) RXT2 w := by
  unfold b_st at h
  simp only [Bool.and_eq_true] at h
  exact ⟨(RI_ofA hW (by decide +kernel) (by decide +kernel)).mpr ⟨fun p hp => b_e_ok (List.all_eq_true.mp h.1 p hp), fun p hp n hn => b_rn_ok (List.all_eq_true.mp h.2 p hp) hn⟩, trivial, trivial⟩
theorem lw_run : lw_Run := lw_run3 (kp := fun wr => ri_wr zZ (F27 ++ F30) (Ar27 ++ Ar30) wr && (fun _ => true) wr) (R := RR (F27 ++ F30) (Ar27 ++ Ar30) RXT2) (PS := zPS) (bst := b_st) (fun wr w w1 a b c e f => kpRR keepT2 wr w w1 a b c e f) (fun L xs d hd p hp => zPS_ok p hp L xs d hd) b_st_ok (by decide +kernel) (by decide +kernel)
