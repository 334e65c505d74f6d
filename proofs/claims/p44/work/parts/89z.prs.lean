/-! the pairs of this part, the relation, the run -/
def zp_days : zPr := (98, 160, 1, false, [], [(11, 10), (12, 0)], (0, 0), none, none)
theorem zp_days_t : pairB zZ zT Fg Ag zp_days 2000 = true := by decide +kernel
def zp_set : zPr := (111, 177, 2, false, [], [(98, 32), (98, 88)], (0, 0), none, none)
theorem zp_set_t : pairB zZ zT Fg Ag zp_set 2000 = true := by decide +kernel
def zp_sell : zPr := (104, 168, 2, false, [], [(98, 6), (98, 76)], (0, 0), none, none)
theorem zp_sell_t : pairB zZ zT Fg Ag zp_sell 2000 = true := by decide +kernel
def zp_stay : zPr := (106, 170, 4, false, [], [(6, 8), (12, 19), (98, 14), (98, 15), (98, 16), (98, 17), (98, 18), (98, 79), (98, 80), (98, 81), (98, 82), (98, 83)], (0, 0), none, none)
theorem zp_stay_t : pairB zZ zT Fg Ag zp_stay 2000 = true := by decide +kernel
def zp_house : zPr := (101, 164, 1, false, [], [(5, 3), (12, 7), (98, 2), (98, 73)], (0, 0), none, none)
theorem zp_house_t : pairB zZ zT Fg Ag zp_house 2000 = true := by decide +kernel
def zp_film : zPr := (103, 167, 2, false, [], [(4, 6), (12, 11), (98, 6), (98, 7), (98, 76), (98, 77)], (0, 0), none, none)
theorem zp_film_t : pairB zZ zT Fg Ag zp_film 2000 = true := by decide +kernel
def zp_person : zPr := (105, 169, 1, false, [], [(6, 7), (12, 13), (98, 13), (98, 78)], (0, 0), none, none)
theorem zp_person_t : pairB zZ zT Fg Ag zp_person 2000 = true := by decide +kernel
def zp_cost : zPr := (112, 179, 2, false, [], [(2, 0), (2, 1), (2, 2), (2, 3), (2, 4), (2, 5), (2, 6), (2, 7), (2, 8), (2, 9), (2, 10), (2, 11), (3, 4), (12, 31), (98, 31), (98, 34), (98, 89), (98, 90), (98, 91), (98, 93)], (1, 13), none, none)
def zp_audit : zPr := (136, 242, 2, false, [], [(2, 11), (2, 12), (3, 5), (98, 92), (98, 93)], (0, 0), none, none)
def zp_point : zPr := (108, 173, 3, false, [], [(4, 7), (12, 24), (98, 8), (98, 9), (98, 10), (98, 11), (98, 84), (98, 85), (98, 86), (98, 87)], (0, 0), none, none)
def zp_prove : zPr := (109, 174, 1, false, [], [(98, 11), (98, 87)], (0, 0), none, none)
def zp_feed : zPr := (118, 190, 2, false, [], [(9, 2), (12, 39), (98, 36), (98, 99)], (0, 0), none, none)
def zp_text : zPr := (119, 204, 2, false, [], [(0, 7), (9, 2), (9, 3), (9, 4), (9, 5), (12, 39), (12, 45), (12, 60), (12, 61), (12, 62), (12, 63), (12, 64), (12, 66), (12, 68), (98, 37), (98, 39), (98, 40), (98, 41), (98, 42), (98, 43), (98, 100), (98, 101), (98, 102), (98, 103), (98, 104), (98, 115), (98, 117)], (1, 161), none, none)
def zp_relate : zPr := (102, 165, 2, false, [], [(98, 4), (98, 75)], (0, 0), none, none)
def zp_coin : zPr := (99, 161, 3, false, [], [(98, 21), (98, 22), (98, 23), (98, 70), (98, 71), (98, 72)], (0, 0), none, none)
def zp_like : zPr := (114, 183, 4, false, [], [(7, 9), (12, 37), (98, 24), (98, 25), (98, 26), (98, 27), (98, 28), (98, 94), (98, 95), (98, 96), (98, 97), (98, 98)], (0, 0), none, none)
def zp_tryText : zPr := (140, 248, 1, true, [], [(0, 8), (0, 9), (0, 10), (1, 6), (7, 10), (12, 60), (12, 61), (12, 62), (12, 63), (12, 64), (12, 66), (12, 67), (12, 68), (12, 69), (98, 19), (98, 29), (98, 44), (98, 45), (98, 115), (98, 116), (98, 117)], (0, 0), none, none)
def zPS : List zPr := [zp_days, zp_set, zp_sell, zp_stay, zp_house, zp_film, zp_person, zp_cost, zp_audit, zp_point, zp_prove, zp_feed, zp_text, zp_relate, zp_coin, zp_like, zp_tryText]
theorem zPS_ok : ∀ p ∈ zPS, PairOK (RR Fg Ag (RXL Ig)) p := by
  intro p hp
  simp only [zPS, List.mem_cons, List.not_mem_nil, or_false] at hp
  rcases hp with rfl | rfl | rfl | rfl | rfl | rfl | rfl | rfl | rfl | rfl | rfl | rfl | rfl | rfl | rfl | rfl | rfl
  · exact pairC zp_days_t (by decide +kernel) (keepXL Ig) (by decide +kernel) (by decide +kernel)
  · exact pairC zp_set_t (by decide +kernel) (keepXL Ig) (by decide +kernel) (by decide +kernel)
  · exact pairC zp_sell_t (by decide +kernel) (keepXL Ig) (by decide +kernel) (by decide +kernel)
  · exact pairC zp_stay_t (by decide +kernel) (keepXL Ig) (by decide +kernel) (by decide +kernel)
  · exact PairOK.two [0, 1, 2, 3, 4, 5, 6] [7] (pairC zp_house_t (by decide +kernel) (keepXL _) (by decide +kernel) (by decide +kernel)) (fl_house ⟨rfl, rfl, rfl, rfl⟩ (by decide +kernel)) (fun _ => RXL1 (yi := 7)) (by decide +kernel)
  · exact PairOK.two [0, 1, 2, 3, 4, 5, 6] [7] (pairC zp_film_t (by decide +kernel) (keepXL _) (by decide +kernel) (by decide +kernel)) (fl_film ⟨rfl, rfl, rfl, rfl⟩ (by decide +kernel)) (fun _ => RXL1 (yi := 7)) (by decide +kernel)
  · exact PairOK.two [0, 1, 2, 3, 4, 5, 6] [7] (pairC zp_person_t (by decide +kernel) (keepXL _) (by decide +kernel) (by decide +kernel)) (fl_person ⟨rfl, rfl, rfl, rfl⟩ (by decide +kernel)) (fun _ => RXL1 (yi := 7)) (by decide +kernel)
  · exact PairOK.put [0, 7] (h_costfl ⟨rfl, rfl, rfl⟩ (by decide +kernel)) (by decide +kernel) (fun _ => RXL2 (yi := 0) (yj := 7)) (by decide +kernel)
  · exact PairOK.put [0] (PairOK.ex0 (h_audit ⟨rfl, rfl, rfl⟩ (by decide +kernel)) (by decide +kernel) (Keeps.of R34_s) (by decide +kernel) (by decide +kernel)) (by decide +kernel) (fun _ => RXL1 (yi := 0)) (by decide +kernel)
  · exact PairOK.put [1] (h_point ⟨rfl, rfl, rfl⟩ (by decide +kernel)) (by decide +kernel) (fun _ => RXL1 (yi := 1)) (by decide +kernel)
  · exact PairOK.put [1] (h_prove ⟨rfl, rfl, rfl⟩ (by decide +kernel)) (by decide +kernel) (fun _ => RXL1 (yi := 1)) (by decide +kernel)
  · exact PairOK.put [2] (h_feed ⟨rfl, rfl, rfl⟩ (by decide +kernel)) (by decide +kernel) (fun _ => RXL1 (yi := 2)) (by decide +kernel)
  · exact PairOK.put [2] (h_text ⟨rfl, rfl, rfl⟩ (by decide +kernel)) (by decide +kernel) (fun _ => RXL1 (yi := 2)) (by decide +kernel)
  · exact PairOK.put [3] (h_relate ⟨rfl, rfl, rfl⟩ (by decide +kernel)) (by decide +kernel) (fun _ => RXL1 (yi := 3)) (by decide +kernel)
  · exact PairOK.put [4] (h_coinW ⟨rfl, rfl, rfl⟩ (by decide +kernel)) (by decide +kernel) (fun _ => RXL1 (yi := 4)) (by decide +kernel)
  · exact PairOK.put [5] (h_like0 ⟨rfl, rfl, rfl⟩ (by decide +kernel)) (by decide +kernel) (fun _ => RXL1 (yi := 5)) (by decide +kernel)
  · exact h_tryT ⟨rfl, rfl, rfl⟩ (by decide +kernel) (by decide +kernel) (by decide +kernel) (by decide +kernel) (by decide +kernel)
def b_st (w : mWd) : Bool := Fg.all (fun p => b_e p w) && Ag.all (fun p => b_rn p w) && b_i 69 31 0 w && b_i 30 5 0 w && b_c 150 92 0 w && b_r 100 8 84 w && b_r 100 9 85 w && b_r 100 10 86 w && b_i 69 24 0 w && b_c 20 34 0 w && b_c 160 36 0 w && b_i 38 8 (-1) w && b_i 69 69 (-1) w && b_i 69 45 0 w && b_c 400 4 3600 w && b_c 400 75 0 w && b_c 6 72 0 w && b_c 120 96 0 w
theorem b_st_ok (w : mWd) (hW : WI zZ w) (h : b_st w = true) : RR Fg Ag (RXL Ig) w := by
  unfold b_st at h
  simp only [Bool.and_eq_true] at h
  obtain ⟨⟨⟨⟨⟨⟨⟨⟨⟨⟨⟨⟨⟨⟨⟨⟨⟨h0, h1⟩, h2⟩, h3⟩, h4⟩, h5⟩, h6⟩, h7⟩, h8⟩, h9⟩, h10⟩, h11⟩, h12⟩, h13⟩, h14⟩, h15⟩, h16⟩, h17⟩ := h
  have hT : cT (aw w) = 0 := by unfold cT; rw [b_i_ok h2]; rfl
  refine ⟨(RI_ofA hW (by decide +kernel) (by decide +kernel)).mpr ⟨fun p hp => b_e_ok (List.all_eq_true.mp h0 p hp), fun p hp n hn => b_rn_ok (List.all_eq_true.mp h1 p hp) hn⟩, fun i hi => ?_⟩
  simp only [Ig, List.mem_cons, List.not_mem_nil, or_false] at hi
  rcases hi with rfl | rfl | rfl | rfl | rfl | rfl | rfl | rfl
  · show RZl (aw w)
    refine ⟨⟨fun c hc => by omega, fun c d a hc => by omega, fun c _ h9 => i32_ext (b_c_ok h4 c h9), ?_⟩, fun f hf => ?_⟩
    · unfold audM
      rw [hT]
      exact i32_ext (b_i_ok h3)
    · rw [hT]
      exact i32_ext (b_c_ok h9 f (by omega))
  · show RX14 (aw w)
    refine ⟨b_r_ok h5, b_r_ok h6, b_r_ok h7, fun j hj => ?_⟩
    rw [b_i_ok h8] at hj
    exact absurd hj (Nat.not_lt_zero j)
  · show RXt (aw w)
    refine ⟨fun j hj => ?_, fun i hi => ?_⟩
    · have := b_c_ok h10 j hj
      omega
    · exfalso
      unfold tT at hi
      rw [b_i_ok h13] at hi
      exact absurd hi (Nat.not_lt_zero i)
  · show Rz6 (aw w)
    exact fun j hj => .inl ⟨b_c_ok h15 j hj, b_c_ok h14 j hj⟩
  · show RX4d (aw w)
    refine ⟨fun L hL j hj => ?_, fun L hL j hj => ?_⟩
    · have := b_c_ok h16 L hL
      omega
    · have := b_c_ok h16 L hL
      omega
  · show RX19 (aw w)
    intro j hj
    have := b_c_ok h17 j hj
    omega
  · show R24 (aw w)
    exact ⟨b_i_ok h11, b_i_ok h12⟩
  · show Rfl (aw w)
    intro c hc
    omega
theorem lw_run : lw_Run := lw_run3 (kp := fun wr => ri_wr zZ Fg Ag wr && kXL Ig wr) (R := RR Fg Ag (RXL Ig)) (PS := zPS) (bst := b_st) (fun wr w w1 a b c e f => kpRR (keepXL Ig) wr w w1 a b c e f) (fun L xs d hd p hp => zPS_ok p hp L xs d hd) b_st_ok (by decide +kernel) (by decide +kernel)
