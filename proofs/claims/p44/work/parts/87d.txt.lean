/-! TEXT: ya tape is read, and yput to the texts -/
theorem i_div10 {yw : Int32} (yh : 0 ≤ yw.toInt) : (yw / 10).toInt = yw.toInt / 10 := by
  rw [Int32.toInt_div_of_ne_right _ _ (by decide), show (10 : Int32).toInt = 10 from by decide, Int.tdiv_eq_ediv_of_nonneg yh]
theorem bx_tx0 {N : Nat} {yA : AW} {yQ : Option Value → AW → Prop} (yw yf : Int32)
    (l1 : yw.toInt < 0 → yQ (some (.int (-1))) yA)
    (l2 : 0 ≤ yw.toInt → 59 < yw.toInt → yQ (some (.int (-1))) yA)
    (l3 : 0 ≤ yw.toInt → yw.toInt ≤ 59 → 4 < (yw - yw / 10 * 10).toInt → yQ (some (.int (-1))) yA)
    (l4 : 0 ≤ yw.toInt → yw.toInt ≤ 59 → (yw - yw / 10 * 10).toInt ≤ 4 → yf.toInt < 0 → yQ (some (.int (-1))) yA)
    (l5 : 0 ≤ yw.toInt → yw.toInt ≤ 59 → (yw - yw / 10 * 10).toInt ≤ 4 → 0 ≤ yf.toInt → 3599 < yf.toInt → yQ (some (.int (-1))) yA)
    (l6 : 0 ≤ yw.toInt → yw.toInt ≤ 59 → (yw - yw / 10 * 10).toInt ≤ 4 → 0 ≤ yf.toInt → yf.toInt ≤ 3599 → (yA.1 38 7).toInt < 20 → Pa N 82 0 [(0, .ref 35)] [] yA (fun yu A1 => Pa N 119 38 [(0, .ref 0), (1, .int yw), (2, .int yf)] (yu.toList ++ []) A1 yQ))
    (l7 : 0 ≤ yw.toInt → yw.toInt ≤ 59 → (yw - yw / 10 * 10).toInt ≤ 4 → 0 ≤ yf.toInt → yf.toInt ≤ 3599 → 20 ≤ (yA.1 38 7).toInt → yQ (some (.int (-2))) yA) :
    Pa N 119 0 [(0, .ref 0), (1, .int yw), (2, .int yf)] [] yA yQ := by
  refine Pa.mp 1 (pc' := 1) (l' := [(0, .ref 0), (1, .int yw), (2, .int yf)]) (st' := [.int yw]) (by rfl) ?_
  refine Pa.ist (by rfl) (by rfl) (.inl rfl) (by rfl) (by rfl) ?_
  show Pa N 149 0 [(0, .int yw)] [] yA _
  refine Pa.mp 1 (pc' := 1) (l' := [(0, .int yw)]) (st' := [.int yw]) (by rfl) ?_
  refine Pa.ic (x := 0) (pc' := 2) (by rfl) (by rfl) (by decide) ?_
  refine Pa.ic (x := 59) (pc' := 4) (by rfl) (by rfl) (by decide) ?_
  refine Pa.ist (by rfl) (by rfl) (.inl rfl) (by rfl) (by rfl) ?_
  show Pa N 146 0 [(0, .int yw), (1, .int 0), (2, .int 59)] [] yA _
  refine Pa.mp 2 (pc' := 2) (l' := [(0, .int yw), (1, .int 0), (2, .int 59)]) (st' := [.int 0, .int yw]) (by rfl) ?_
  refine Pa.if2 (a := yw.toInt) (b := 0) (t := 14) (by rfl) (by rfl) (rfl) (by decide) (fun h1 => ?_) (fun h2 => ?_)
  · have h1 : yw.toInt < 0 := h1
    refine Pa.ic (x := 0) (pc' := 15) (by rfl) (by rfl) (by decide) ?_
    refine Pa.iret (by rfl) ?_
    show Pa N 149 7 [(0, .int yw)] [.int 0] yA _
    refine Pa.if1k true (by rfl) (by rfl) (by decide) ?_
    show Pa N 149 22 [(0, .int yw)] [] yA _
    refine Pa.ic (x := 0) (pc' := 23) (by rfl) (by rfl) (by decide) ?_
    refine Pa.iret (by rfl) ?_
    show Pa N 119 4 [(0, .ref 0), (1, .int yw), (2, .int yf)] [.int 0] yA _
    refine Pa.if1k true (by rfl) (by rfl) (by decide) ?_
    show Pa N 119 14 [(0, .ref 0), (1, .int yw), (2, .int yf)] [] yA _
    refine Pa.ic (x := (-1)) (pc' := 15) (by rfl) (by rfl) (by decide) ?_
    refine Pa.iret (by rfl) ?_
    exact l1 h1
  · have h2 : 0 ≤ yw.toInt := h2
    refine Pa.mp 2 (pc' := 7) (l' := [(0, .int yw), (1, .int 0), (2, .int 59)]) (st' := [.int 59, .int yw]) (by rfl) ?_
    refine Pa.if2 (a := yw.toInt) (b := 59) (t := 14) (by rfl) (by rfl) (rfl) (by decide) (fun h3 => ?_) (fun h4 => ?_)
    · have h3 : 59 < yw.toInt := h3
      refine Pa.ic (x := 0) (pc' := 15) (by rfl) (by rfl) (by decide) ?_
      refine Pa.iret (by rfl) ?_
      show Pa N 149 7 [(0, .int yw)] [.int 0] yA _
      refine Pa.if1k true (by rfl) (by rfl) (by decide) ?_
      show Pa N 149 22 [(0, .int yw)] [] yA _
      refine Pa.ic (x := 0) (pc' := 23) (by rfl) (by rfl) (by decide) ?_
      refine Pa.iret (by rfl) ?_
      show Pa N 119 4 [(0, .ref 0), (1, .int yw), (2, .int yf)] [.int 0] yA _
      refine Pa.if1k true (by rfl) (by rfl) (by decide) ?_
      show Pa N 119 14 [(0, .ref 0), (1, .int yw), (2, .int yf)] [] yA _
      refine Pa.ic (x := (-1)) (pc' := 15) (by rfl) (by rfl) (by decide) ?_
      refine Pa.iret (by rfl) ?_
      exact l2 h2 h3
    · have h4 : yw.toInt ≤ 59 := h4
      refine Pa.ic (x := 1) (pc' := 11) (by rfl) (by rfl) (by decide) ?_
      refine Pa.mp 1 (pc' := 15) (l' := [(0, .int yw), (1, .int 0), (2, .int 59)]) (st' := [.int 1]) (by rfl) ?_
      refine Pa.iret (by rfl) ?_
      show Pa N 149 7 [(0, .int yw)] [.int 1] yA _
      refine Pa.if1k false (by rfl) (by rfl) (by decide) ?_
      show Pa N 149 10 [(0, .int yw)] [] yA _
      refine Pa.mp 1 (pc' := 11) (l' := [(0, .int yw)]) (st' := [.int yw]) (by rfl) ?_
      refine Pa.ic (x := 10) (pc' := 13) (by rfl) (by rfl) (by decide) ?_
      refine Pa.irem (by rfl) ?_
      refine Pa.ic (x := 4) (pc' := 15) (by rfl) (by rfl) (by decide) ?_
      refine Pa.if2 (a := (yw - yw / 10 * 10).toInt) (b := 4) (t := 22) (by rfl) (by rfl) (rfl) (by decide) (fun h5 => ?_) (fun h6 => ?_)
      · have h5 : 4 < (yw - yw / 10 * 10).toInt := h5
        refine Pa.ic (x := 0) (pc' := 23) (by rfl) (by rfl) (by decide) ?_
        refine Pa.iret (by rfl) ?_
        show Pa N 119 4 [(0, .ref 0), (1, .int yw), (2, .int yf)] [.int 0] yA _
        refine Pa.if1k true (by rfl) (by rfl) (by decide) ?_
        show Pa N 119 14 [(0, .ref 0), (1, .int yw), (2, .int yf)] [] yA _
        refine Pa.ic (x := (-1)) (pc' := 15) (by rfl) (by rfl) (by decide) ?_
        refine Pa.iret (by rfl) ?_
        exact l3 h2 h4 h5
      · have h6 : (yw - yw / 10 * 10).toInt ≤ 4 := h6
        refine Pa.ic (x := 1) (pc' := 19) (by rfl) (by rfl) (by decide) ?_
        refine Pa.mp 1 (pc' := 23) (l' := [(0, .int yw)]) (st' := [.int 1]) (by rfl) ?_
        refine Pa.iret (by rfl) ?_
        show Pa N 119 4 [(0, .ref 0), (1, .int yw), (2, .int yf)] [.int 1] yA _
        refine Pa.if1k false (by rfl) (by rfl) (by decide) ?_
        show Pa N 119 7 [(0, .ref 0), (1, .int yw), (2, .int yf)] [] yA _
        refine Pa.mp 1 (pc' := 8) (l' := [(0, .ref 0), (1, .int yw), (2, .int yf)]) (st' := [.int yf]) (by rfl) ?_
        refine Pa.ist (by rfl) (by rfl) (.inl rfl) (by rfl) (by rfl) ?_
        show Pa N 148 0 [(0, .int yf)] [] yA _
        refine Pa.mp 1 (pc' := 1) (l' := [(0, .int yf)]) (st' := [.int yf]) (by rfl) ?_
        refine Pa.ic (x := 0) (pc' := 2) (by rfl) (by rfl) (by decide) ?_
        refine Pa.ic (x := 3599) (pc' := 5) (by rfl) (by rfl) (by decide) ?_
        refine Pa.ist (by rfl) (by rfl) (.inl rfl) (by rfl) (by rfl) ?_
        show Pa N 146 0 [(0, .int yf), (1, .int 0), (2, .int 3599)] [] yA _
        refine Pa.mp 2 (pc' := 2) (l' := [(0, .int yf), (1, .int 0), (2, .int 3599)]) (st' := [.int 0, .int yf]) (by rfl) ?_
        refine Pa.if2 (a := yf.toInt) (b := 0) (t := 14) (by rfl) (by rfl) (rfl) (by decide) (fun h7 => ?_) (fun h8 => ?_)
        · have h7 : yf.toInt < 0 := h7
          refine Pa.ic (x := 0) (pc' := 15) (by rfl) (by rfl) (by decide) ?_
          refine Pa.iret (by rfl) ?_
          show Pa N 148 8 [(0, .int yf)] [.int 0] yA _
          refine Pa.iret (by rfl) ?_
          show Pa N 119 11 [(0, .ref 0), (1, .int yw), (2, .int yf)] [.int 0] yA _
          refine Pa.if1k false (by rfl) (by rfl) (by decide) ?_
          show Pa N 119 14 [(0, .ref 0), (1, .int yw), (2, .int yf)] [] yA _
          refine Pa.ic (x := (-1)) (pc' := 15) (by rfl) (by rfl) (by decide) ?_
          refine Pa.iret (by rfl) ?_
          exact l4 h2 h4 h6 h7
        · have h8 : 0 ≤ yf.toInt := h8
          refine Pa.mp 2 (pc' := 7) (l' := [(0, .int yf), (1, .int 0), (2, .int 3599)]) (st' := [.int 3599, .int yf]) (by rfl) ?_
          refine Pa.if2 (a := yf.toInt) (b := 3599) (t := 14) (by rfl) (by rfl) (rfl) (by decide) (fun h9 => ?_) (fun h10 => ?_)
          · have h9 : 3599 < yf.toInt := h9
            refine Pa.ic (x := 0) (pc' := 15) (by rfl) (by rfl) (by decide) ?_
            refine Pa.iret (by rfl) ?_
            show Pa N 148 8 [(0, .int yf)] [.int 0] yA _
            refine Pa.iret (by rfl) ?_
            show Pa N 119 11 [(0, .ref 0), (1, .int yw), (2, .int yf)] [.int 0] yA _
            refine Pa.if1k false (by rfl) (by rfl) (by decide) ?_
            show Pa N 119 14 [(0, .ref 0), (1, .int yw), (2, .int yf)] [] yA _
            refine Pa.ic (x := (-1)) (pc' := 15) (by rfl) (by rfl) (by decide) ?_
            refine Pa.iret (by rfl) ?_
            exact l5 h2 h4 h6 h8 h9
          · have h10 : yf.toInt ≤ 3599 := h10
            refine Pa.ic (x := 1) (pc' := 11) (by rfl) (by rfl) (by decide) ?_
            refine Pa.mp 1 (pc' := 15) (l' := [(0, .int yf), (1, .int 0), (2, .int 3599)]) (st' := [.int 1]) (by rfl) ?_
            refine Pa.iret (by rfl) ?_
            show Pa N 148 8 [(0, .int yf)] [.int 1] yA _
            refine Pa.iret (by rfl) ?_
            show Pa N 119 11 [(0, .ref 0), (1, .int yw), (2, .int yf)] [.int 1] yA _
            refine Pa.if1k true (by rfl) (by rfl) (by decide) ?_
            show Pa N 119 16 [(0, .ref 0), (1, .int yw), (2, .int yf)] [] yA _
            refine Pa.mp 1 (pc' := 17) (l' := [(0, .ref 0), (1, .int yw), (2, .int yf)]) (st' := [.ref 0]) (by rfl) ?_
            refine Pa.gfR (by rfl) (by rfl) (.inl rfl) (by rfl) ?_
            show Pa N 119 20 [(0, .ref 0), (1, .int yw), (2, .int yf)] [.ref 38] yA _
            refine Pa.gfI (v := yA.1 38 7) (by rfl) (by rfl) (.inr rfl) (by rfl) (by rfl) ?_
            refine Pa.ic (x := 20) (pc' := 25) (by rfl) (by rfl) (by decide) ?_
            refine Pa.if2 (a := (yA.1 38 7).toInt) (b := 20) (t := 31) (by rfl) (by rfl) (rfl) (by decide) (fun h11 => ?_) (fun h12 => ?_)
            · have h11 : (yA.1 38 7).toInt < 20 := h11
              refine Pa.mp 1 (pc' := 32) (l' := [(0, .ref 0), (1, .int yw), (2, .int yf)]) (st' := [.ref 0]) (by rfl) ?_
              refine Pa.gfR (by rfl) (by rfl) (.inl rfl) (by rfl) ?_
              show Pa N 119 35 [(0, .ref 0), (1, .int yw), (2, .int yf)] [.ref 35] yA _
              refine Pa.inv (by rfl) (by rfl) (.inr rfl) (by rfl) ?_
              exact l6 h2 h4 h6 h8 h10 h11
            · have h12 : 20 ≤ (yA.1 38 7).toInt := h12
              refine Pa.ic (x := (-2)) (pc' := 30) (by rfl) (by rfl) (by decide) ?_
              refine Pa.iret (by rfl) ?_
              exact l7 h2 h4 h6 h8 h10 h12

theorem bx_tx1 {N : Nat} {yA : AW} {yQ : Option Value → AW → Prop} (yw yf yx : Int32)
    (l1 : yx.toInt < 0 → Pa N 2 0 [(0, .ref 38), (1, .int yw), (2, .int (yA.1 0 10)), (3, .int yf), (4, .ref 35)] [] (uI yA 35 2 0) (fun yu A1 => Pa N 119 73 [(0, .ref 0), (1, .int yw), (2, .int yf), (3, .int yx)] (yu.toList ++ []) A1 yQ))
    (l2 : 0 ≤ yx.toInt → yQ (some (.int ((-100) - yx))) (uI yA 35 2 0)) :
    Pa N 119 38 [(0, .ref 0), (1, .int yw), (2, .int yf)] [.int yx] yA yQ := by
  refine Pa.mp 2 (pc' := 40) (l' := [(3, .int yx), (0, .ref 0), (1, .int yw), (2, .int yf)]) (st' := [.ref 0]) (by rfl) ?_
  refine Pa.gfR (by rfl) (by rfl) (.inl rfl) (by rfl) ?_
  show Pa N 119 43 [(3, .int yx), (0, .ref 0), (1, .int yw), (2, .int yf)] [.ref 35] yA _
  refine Pa.ic (x := 0) (pc' := 44) (by rfl) (by rfl) (by decide) ?_
  refine Pa.pfI (by rfl) (by rfl) (.inr rfl) (by rfl) ?_
  show Pa N 119 47 [(3, .int yx), (0, .ref 0), (1, .int yw), (2, .int yf)] [] (uI yA 35 2 0) _
  refine Pa.mp 1 (pc' := 48) (l' := [(3, .int yx), (0, .ref 0), (1, .int yw), (2, .int yf)]) (st' := [.int yx]) (by rfl) ?_
  refine Pa.if1 (a := yx.toInt) (t := 56) (by rfl) (by rfl) (rfl) (fun h1 => ?_) (fun h2 => ?_)
  · have h1 : yx.toInt < 0 := h1
    refine Pa.mp 1 (pc' := 57) (l' := [(3, .int yx), (0, .ref 0), (1, .int yw), (2, .int yf)]) (st' := [.ref 0]) (by rfl) ?_
    refine Pa.gfR (by rfl) (by rfl) (.inl rfl) (by rfl) ?_
    show Pa N 119 60 [(3, .int yx), (0, .ref 0), (1, .int yw), (2, .int yf)] [.ref 38] (uI yA 35 2 0) _
    refine Pa.mp 2 (pc' := 62) (l' := [(3, .int yx), (0, .ref 0), (1, .int yw), (2, .int yf)]) (st' := [.ref 0, .int yw, .ref 38]) (by rfl) ?_
    refine Pa.gfI (v := yA.1 0 10) (by rfl) (by rfl) (.inl rfl) (by rfl) (by show (uI yA 35 2 0).1 0 10 = yA.1 0 10; rw [uI_c (by decide)]) ?_
    refine Pa.mp 2 (pc' := 67) (l' := [(3, .int yx), (0, .ref 0), (1, .int yw), (2, .int yf)]) (st' := [.ref 0, .int yf, .int (yA.1 0 10), .int yw, .ref 38]) (by rfl) ?_
    refine Pa.gfR (by rfl) (by rfl) (.inl rfl) (by rfl) ?_
    show Pa N 119 70 [(3, .int yx), (0, .ref 0), (1, .int yw), (2, .int yf)] [.ref 35, .int yf, .int (yA.1 0 10), .int yw, .ref 38] (uI yA 35 2 0) _
    refine Pa.lv (l' := [(0, .ref 0), (1, .int yw), (2, .int yf), (3, .int yx)]) (lvS_c rfl (lvS_c rfl (lvS_c rfl (lvS_c rfl (lvS_nil))))) rfl ?_
    refine Pa.inv (by rfl) (by rfl) (.inr rfl) (by rfl) ?_
    exact l1 h1
  · have h2 : 0 ≤ yx.toInt := h2
    refine Pa.ic (x := (-100)) (pc' := 53) (by rfl) (by rfl) (by decide) ?_
    refine Pa.mp 2 (pc' := 55) (l' := [(3, .int yx), (0, .ref 0), (1, .int yw), (2, .int yf)]) (st' := [.int ((-100) - yx)]) (by rfl) ?_
    refine Pa.iret (by rfl) ?_
    exact l2 h2

theorem bx_ad0 {N : Nat} {yA : AW} {yQ : Option Value → AW → Prop} (yw yd yf : Int32)
    (l1 : 0 ≤ (yA.1 38 7).toInt → (yA.1 38 7).toInt < 20 → Pa N 273 0 [(0, .ref 37), (1, .int (yA.1 35 3))] [] (uI (uI (uI yA 40 ((yA.1 38 7).toInt.toNat) yw) 41 ((yA.1 38 7).toInt.toNat) yd) 42 ((yA.1 38 7).toInt.toNat) yf) (fun yu A1 => Pa N 2 51 [(0, .ref 38), (1, .int yw), (2, .int yd), (3, .int yf), (4, .ref 35)] (yu.toList ++ [.int (yA.1 38 7), .ref 39]) A1 yQ)) :
    Pa N 2 0 [(0, .ref 38), (1, .int yw), (2, .int yd), (3, .int yf), (4, .ref 35)] [] yA yQ := by
  refine Pa.mp 1 (pc' := 1) (l' := [(0, .ref 38), (1, .int yw), (2, .int yd), (3, .int yf), (4, .ref 35)]) (st' := [.ref 38]) (by rfl) ?_
  refine Pa.gfR (by rfl) (by rfl) (.inl rfl) (by rfl) ?_
  show Pa N 2 4 [(0, .ref 38), (1, .int yw), (2, .int yd), (3, .int yf), (4, .ref 35)] [.ref 40] yA _
  refine Pa.mp 1 (pc' := 5) (l' := [(0, .ref 38), (1, .int yw), (2, .int yd), (3, .int yf), (4, .ref 35)]) (st' := [.ref 38, .ref 40]) (by rfl) ?_
  refine Pa.gfI (v := yA.1 38 7) (by rfl) (by rfl) (.inl rfl) (by rfl) (by rfl) ?_
  refine Pa.mp 1 (pc' := 9) (l' := [(0, .ref 38), (1, .int yw), (2, .int yd), (3, .int yf), (4, .ref 35)]) (st' := [.int yw, .int (yA.1 38 7), .ref 40]) (by rfl) ?_
  refine Pa.asts (j' := ((yA.1 38 7).toInt.toNat)) (by rfl) (by rfl) (by rfl) (fun h1 h2 => ?_)
  have h1 : 0 ≤ (yA.1 38 7).toInt := h1
  have h2 : (yA.1 38 7).toInt < 20 := h2
  show Pa N 2 10 [(0, .ref 38), (1, .int yw), (2, .int yd), (3, .int yf), (4, .ref 35)] [] (uI yA 40 ((yA.1 38 7).toInt.toNat) yw) _
  refine Pa.mp 1 (pc' := 11) (l' := [(0, .ref 38), (1, .int yw), (2, .int yd), (3, .int yf), (4, .ref 35)]) (st' := [.ref 38]) (by rfl) ?_
  refine Pa.gfR (by rfl) (by rfl) (.inl rfl) (by rfl) ?_
  show Pa N 2 14 [(0, .ref 38), (1, .int yw), (2, .int yd), (3, .int yf), (4, .ref 35)] [.ref 41] (uI yA 40 ((yA.1 38 7).toInt.toNat) yw) _
  refine Pa.mp 1 (pc' := 15) (l' := [(0, .ref 38), (1, .int yw), (2, .int yd), (3, .int yf), (4, .ref 35)]) (st' := [.ref 38, .ref 41]) (by rfl) ?_
  refine Pa.gfI (v := yA.1 38 7) (by rfl) (by rfl) (.inl rfl) (by rfl) (by show (uI yA 40 ((yA.1 38 7).toInt.toNat) yw).1 38 7 = yA.1 38 7; rw [uI_c (by decide)]) ?_
  refine Pa.mp 1 (pc' := 19) (l' := [(0, .ref 38), (1, .int yw), (2, .int yd), (3, .int yf), (4, .ref 35)]) (st' := [.int yd, .int (yA.1 38 7), .ref 41]) (by rfl) ?_
  refine Pa.asts (j' := ((yA.1 38 7).toInt.toNat)) (by rfl) (by rfl) (by rfl) (fun h3 h4 => ?_)
  have h3 : 0 ≤ (yA.1 38 7).toInt := h3
  have h4 : (yA.1 38 7).toInt < 20 := h4
  show Pa N 2 20 [(0, .ref 38), (1, .int yw), (2, .int yd), (3, .int yf), (4, .ref 35)] [] (uI (uI yA 40 ((yA.1 38 7).toInt.toNat) yw) 41 ((yA.1 38 7).toInt.toNat) yd) _
  refine Pa.mp 1 (pc' := 21) (l' := [(0, .ref 38), (1, .int yw), (2, .int yd), (3, .int yf), (4, .ref 35)]) (st' := [.ref 38]) (by rfl) ?_
  refine Pa.gfR (by rfl) (by rfl) (.inl rfl) (by rfl) ?_
  show Pa N 2 24 [(0, .ref 38), (1, .int yw), (2, .int yd), (3, .int yf), (4, .ref 35)] [.ref 42] (uI (uI yA 40 ((yA.1 38 7).toInt.toNat) yw) 41 ((yA.1 38 7).toInt.toNat) yd) _
  refine Pa.mp 1 (pc' := 25) (l' := [(0, .ref 38), (1, .int yw), (2, .int yd), (3, .int yf), (4, .ref 35)]) (st' := [.ref 38, .ref 42]) (by rfl) ?_
  refine Pa.gfI (v := yA.1 38 7) (by rfl) (by rfl) (.inl rfl) (by rfl) (by show (uI (uI yA 40 ((yA.1 38 7).toInt.toNat) yw) 41 ((yA.1 38 7).toInt.toNat) yd).1 38 7 = yA.1 38 7; rw [uI_c (by decide), uI_c (by decide)]) ?_
  refine Pa.mp 1 (pc' := 29) (l' := [(0, .ref 38), (1, .int yw), (2, .int yd), (3, .int yf), (4, .ref 35)]) (st' := [.int yf, .int (yA.1 38 7), .ref 42]) (by rfl) ?_
  refine Pa.asts (j' := ((yA.1 38 7).toInt.toNat)) (by rfl) (by rfl) (by rfl) (fun h5 h6 => ?_)
  have h5 : 0 ≤ (yA.1 38 7).toInt := h5
  have h6 : (yA.1 38 7).toInt < 20 := h6
  show Pa N 2 30 [(0, .ref 38), (1, .int yw), (2, .int yd), (3, .int yf), (4, .ref 35)] [] (uI (uI (uI yA 40 ((yA.1 38 7).toInt.toNat) yw) 41 ((yA.1 38 7).toInt.toNat) yd) 42 ((yA.1 38 7).toInt.toNat) yf) _
  refine Pa.mp 1 (pc' := 31) (l' := [(0, .ref 38), (1, .int yw), (2, .int yd), (3, .int yf), (4, .ref 35)]) (st' := [.ref 38]) (by rfl) ?_
  refine Pa.gfR (by rfl) (by rfl) (.inl rfl) (by rfl) ?_
  show Pa N 2 34 [(0, .ref 38), (1, .int yw), (2, .int yd), (3, .int yf), (4, .ref 35)] [.ref 39] (uI (uI (uI yA 40 ((yA.1 38 7).toInt.toNat) yw) 41 ((yA.1 38 7).toInt.toNat) yd) 42 ((yA.1 38 7).toInt.toNat) yf) _
  refine Pa.mp 1 (pc' := 35) (l' := [(0, .ref 38), (1, .int yw), (2, .int yd), (3, .int yf), (4, .ref 35)]) (st' := [.ref 38, .ref 39]) (by rfl) ?_
  refine Pa.gfI (v := yA.1 38 7) (by rfl) (by rfl) (.inl rfl) (by rfl) (by show (uI (uI (uI yA 40 ((yA.1 38 7).toInt.toNat) yw) 41 ((yA.1 38 7).toInt.toNat) yd) 42 ((yA.1 38 7).toInt.toNat) yf).1 38 7 = yA.1 38 7; rw [uI_c (by decide), uI_c (by decide), uI_c (by decide)]) ?_
  refine Pa.mp 1 (pc' := 40) (l' := [(0, .ref 38), (1, .int yw), (2, .int yd), (3, .int yf), (4, .ref 35)]) (st' := [.ref 35, .int (yA.1 38 7), .ref 39]) (by rfl) ?_
  refine Pa.gfR (by rfl) (by rfl) (.inr rfl) (by rfl) ?_
  show Pa N 2 43 [(0, .ref 38), (1, .int yw), (2, .int yd), (3, .int yf), (4, .ref 35)] [.ref 37, .int (yA.1 38 7), .ref 39] (uI (uI (uI yA 40 ((yA.1 38 7).toInt.toNat) yw) 41 ((yA.1 38 7).toInt.toNat) yd) 42 ((yA.1 38 7).toInt.toNat) yf) _
  refine Pa.mp 1 (pc' := 45) (l' := [(0, .ref 38), (1, .int yw), (2, .int yd), (3, .int yf), (4, .ref 35)]) (st' := [.ref 35, .ref 37, .int (yA.1 38 7), .ref 39]) (by rfl) ?_
  refine Pa.gfI (v := yA.1 35 3) (by rfl) (by rfl) (.inr rfl) (by rfl) (by show (uI (uI (uI yA 40 ((yA.1 38 7).toInt.toNat) yw) 41 ((yA.1 38 7).toInt.toNat) yd) 42 ((yA.1 38 7).toInt.toNat) yf).1 35 3 = yA.1 35 3; rw [uI_c (by decide), uI_c (by decide), uI_c (by decide)]) ?_
  refine Pa.ist (by rfl) (by rfl) (.inl rfl) (by rfl) (by rfl) ?_
  exact l1 h1 h2

theorem bx_ad1 {N : Nat} {yA : AW} {yQ : Option Value → AW → Prop} (ya : Nat) (yw yd yf yi : Int32) (yha : 129 ≤ ya)
    (l1 : 0 ≤ yi.toInt → yi.toInt < 20 → Pa N 2 55 [(0, .ref 38), (1, .int yw), (2, .int yd), (3, .int yf), (4, .ref 35), (5, .int 0)] [] (uO yA 39 yi.toInt.toNat (some ya)) yQ) :
    Pa N 2 51 [(0, .ref 38), (1, .int yw), (2, .int yd), (3, .int yf), (4, .ref 35)] [.ref ya, .int yi, .ref 39] yA yQ := by
  refine Pa.osts39 (by omega) (j' := yi.toInt.toNat) (by rfl) (by rfl) (fun h1 h2 => ?_)
  have h1 : 0 ≤ yi.toInt := h1
  have h2 : yi.toInt < 20 := h2
  show Pa N 2 52 [(0, .ref 38), (1, .int yw), (2, .int yd), (3, .int yf), (4, .ref 35)] [] (uO yA 39 yi.toInt.toNat (some ya)) _
  refine Pa.ic (x := 0) (pc' := 53) (by rfl) (by rfl) (by decide) ?_
  refine Pa.mp 1 (pc' := 55) (l' := [(5, .int 0), (0, .ref 38), (1, .int yw), (2, .int yd), (3, .int yf), (4, .ref 35)]) (st' := []) (by rfl) ?_
  refine Pa.lv (l' := [(0, .ref 38), (1, .int yw), (2, .int yd), (3, .int yf), (4, .ref 35), (5, .int 0)]) (lvS_c rfl (lvS_c rfl (lvS_c rfl (lvS_c rfl (lvS_c rfl (lvS_c rfl (lvS_nil))))))) rfl ?_
  exact l1 h1 h2

theorem bx_ad2 {N : Nat} {yA : AW} {yQ : Option Value → AW → Prop} (yw yd yf yi : Int32)
    (l1 : (yA.1 35 3).toInt ≤ yi.toInt → yQ (some (.int (((yA.1 38 7) + 1) - 1))) (uI yA 38 7 ((yA.1 38 7) + 1)))
    (l2 : yi.toInt < (yA.1 35 3).toInt → 0 ≤ yi.toInt → yi.toInt < 161 → (yA.1 37 yi.toInt.toNat).toInt ≠ (-5) → Pa N 2 55 [(0, .ref 38), (1, .int yw), (2, .int yd), (3, .int yf), (4, .ref 35), (5, .int (yi + 1))] [] yA yQ)
    (l3 : yi.toInt < (yA.1 35 3).toInt → 0 ≤ yi.toInt → yi.toInt < 161 → (yA.1 37 yi.toInt.toNat).toInt = (-5) → 0 ≤ (yA.1 38 7).toInt → (yA.1 38 7).toInt < 20 → Pa N 2 55 [(0, .ref 38), (1, .int yw), (2, .int yd), (3, .int yf), (4, .ref 35), (5, .int (yi + 1))] [] (uI yA 43 ((yA.1 38 7).toInt.toNat) (vp_nar .boolean 1)) yQ) :
    Pa (N + 1) 2 55 [(0, .ref 38), (1, .int yw), (2, .int yd), (3, .int yf), (4, .ref 35), (5, .int yi)] [] yA yQ := by
  refine Pa.mp1 1 (pc' := 59) (l' := [(0, .ref 38), (1, .int yw), (2, .int yd), (3, .int yf), (4, .ref 35), (5, .int yi)]) (st' := [.ref 35, .int yi]) (by rfl) ?_
  refine Pa.gfI (v := yA.1 35 3) (by rfl) (by rfl) (.inr rfl) (by rfl) (by rfl) ?_
  refine Pa.if2 (a := yi.toInt) (b := (yA.1 35 3).toInt) (t := 94) (by rfl) (by rfl) (rfl) (rfl) (fun h1 => ?_) (fun h2 => ?_)
  · have h1 : (yA.1 35 3).toInt ≤ yi.toInt := h1
    refine Pa.mp 2 (pc' := 96) (l' := [(0, .ref 38), (1, .int yw), (2, .int yd), (3, .int yf), (4, .ref 35), (5, .int yi)]) (st' := [.ref 38, .ref 38]) (by rfl) ?_
    refine Pa.gfI (v := yA.1 38 7) (by rfl) (by rfl) (.inl rfl) (by rfl) (by rfl) ?_
    refine Pa.ic (x := 1) (pc' := 100) (by rfl) (by rfl) (by decide) ?_
    refine Pa.mp 1 (pc' := 101) (l' := [(0, .ref 38), (1, .int yw), (2, .int yd), (3, .int yf), (4, .ref 35), (5, .int yi)]) (st' := [.int ((yA.1 38 7) + 1), .ref 38]) (by rfl) ?_
    refine Pa.pfI (by rfl) (by rfl) (.inl rfl) (by rfl) ?_
    show Pa N 2 104 [(0, .ref 38), (1, .int yw), (2, .int yd), (3, .int yf), (4, .ref 35), (5, .int yi)] [] (uI yA 38 7 ((yA.1 38 7) + 1)) _
    refine Pa.mp 1 (pc' := 105) (l' := [(0, .ref 38), (1, .int yw), (2, .int yd), (3, .int yf), (4, .ref 35), (5, .int yi)]) (st' := [.ref 38]) (by rfl) ?_
    refine Pa.gfI (v := (yA.1 38 7) + 1) (by rfl) (by rfl) (.inl rfl) (by rfl) (by show (uI yA 38 7 ((yA.1 38 7) + 1)).1 38 7 = (yA.1 38 7) + 1; rw [uI_h]) ?_
    refine Pa.ic (x := 1) (pc' := 109) (by rfl) (by rfl) (by decide) ?_
    refine Pa.mp 1 (pc' := 110) (l' := [(0, .ref 38), (1, .int yw), (2, .int yd), (3, .int yf), (4, .ref 35), (5, .int yi)]) (st' := [.int (((yA.1 38 7) + 1) - 1)]) (by rfl) ?_
    refine Pa.iret (by rfl) ?_
    exact l1 h1
  · have h2 : yi.toInt < (yA.1 35 3).toInt := h2
    refine Pa.mp 1 (pc' := 67) (l' := [(0, .ref 38), (1, .int yw), (2, .int yd), (3, .int yf), (4, .ref 35), (5, .int yi)]) (st' := [.ref 35]) (by rfl) ?_
    refine Pa.gfR (by rfl) (by rfl) (.inr rfl) (by rfl) ?_
    show Pa N 2 70 [(0, .ref 38), (1, .int yw), (2, .int yd), (3, .int yf), (4, .ref 35), (5, .int yi)] [.ref 37] yA _
    refine Pa.mp 1 (pc' := 72) (l' := [(0, .ref 38), (1, .int yw), (2, .int yd), (3, .int yf), (4, .ref 35), (5, .int yi)]) (st' := [.int yi, .ref 37]) (by rfl) ?_
    refine Pa.alds (v := yA.1 37 yi.toInt.toNat) (by rfl) (by rfl) (by rfl) (fun h3 h4 => ?_)
    have h3 : 0 ≤ yi.toInt := h3
    have h4 : yi.toInt < 161 := h4
    refine Pa.ic (x := (-5)) (pc' := 75) (by rfl) (by rfl) (by decide) ?_
    refine Pa.if2 (a := (yA.1 37 yi.toInt.toNat).toInt) (b := (-5)) (t := 88) (by rfl) (by rfl) (rfl) (by decide) (fun h5 => ?_) (fun h6 => ?_)
    · have h5 : (yA.1 37 yi.toInt.toNat).toInt ≠ (-5) := h5
      refine Pa.iinc (x := yi) (c := 1) (v := (yi + 1)) (l' := [(5, .int (yi + 1)), (0, .ref 38), (1, .int yw), (2, .int yd), (3, .int yf), (4, .ref 35)]) (by rfl) (by rfl) (by decide) (by rfl) (by rfl) ?_
      refine Pa.mp 1 (pc' := 55) (l' := [(5, .int (yi + 1)), (0, .ref 38), (1, .int yw), (2, .int yd), (3, .int yf), (4, .ref 35)]) (st' := []) (by rfl) ?_
      refine Pa.lv (l' := [(0, .ref 38), (1, .int yw), (2, .int yd), (3, .int yf), (4, .ref 35), (5, .int (yi + 1))]) (lvS_c rfl (lvS_c rfl (lvS_c rfl (lvS_c rfl (lvS_c rfl (lvS_c rfl (lvS_nil))))))) rfl ?_
      exact l2 h2 h3 h4 h5
    · have h6 : (yA.1 37 yi.toInt.toNat).toInt = (-5) := h6
      refine Pa.mp 1 (pc' := 79) (l' := [(0, .ref 38), (1, .int yw), (2, .int yd), (3, .int yf), (4, .ref 35), (5, .int yi)]) (st' := [.ref 38]) (by rfl) ?_
      refine Pa.gfR (by rfl) (by rfl) (.inl rfl) (by rfl) ?_
      show Pa N 2 82 [(0, .ref 38), (1, .int yw), (2, .int yd), (3, .int yf), (4, .ref 35), (5, .int yi)] [.ref 43] yA _
      refine Pa.mp 1 (pc' := 83) (l' := [(0, .ref 38), (1, .int yw), (2, .int yd), (3, .int yf), (4, .ref 35), (5, .int yi)]) (st' := [.ref 38, .ref 43]) (by rfl) ?_
      refine Pa.gfI (v := yA.1 38 7) (by rfl) (by rfl) (.inl rfl) (by rfl) (by rfl) ?_
      refine Pa.ic (x := 1) (pc' := 87) (by rfl) (by rfl) (by decide) ?_
      refine Pa.bsts (j' := ((yA.1 38 7).toInt.toNat)) (by rfl) (by rfl) (by rfl) (fun h7 h8 => ?_)
      have h7 : 0 ≤ (yA.1 38 7).toInt := h7
      have h8 : (yA.1 38 7).toInt < 20 := h8
      show Pa N 2 88 [(0, .ref 38), (1, .int yw), (2, .int yd), (3, .int yf), (4, .ref 35), (5, .int yi)] [] (uI yA 43 ((yA.1 38 7).toInt.toNat) (vp_nar .boolean 1)) _
      refine Pa.iinc (x := yi) (c := 1) (v := (yi + 1)) (l' := [(5, .int (yi + 1)), (0, .ref 38), (1, .int yw), (2, .int yd), (3, .int yf), (4, .ref 35)]) (by rfl) (by rfl) (by decide) (by rfl) (by rfl) ?_
      refine Pa.mp 1 (pc' := 55) (l' := [(5, .int (yi + 1)), (0, .ref 38), (1, .int yw), (2, .int yd), (3, .int yf), (4, .ref 35)]) (st' := []) (by rfl) ?_
      refine Pa.lv (l' := [(0, .ref 38), (1, .int yw), (2, .int yd), (3, .int yf), (4, .ref 35), (5, .int (yi + 1))]) (lvS_c rfl (lvS_c rfl (lvS_c rfl (lvS_c rfl (lvS_c rfl (lvS_c rfl (lvS_nil))))))) rfl ?_
      exact l3 h2 h3 h4 h6 h7 h8

theorem bm_tx0 {N : Nat} {yA : AW} {yQ : Option Value → AW → Prop} (yw yf : Int32)
    (l1 : yw.toInt < 0 → yQ (some (.int (-1))) yA)
    (l2 : 0 ≤ yw.toInt → 6 ≤ (yw / 10).toInt → yQ (some (.int (-1))) yA)
    (l3 : 0 ≤ yw.toInt → (yw / 10).toInt < 6 → 4 < (yw - yw / 10 * 10).toInt → yQ (some (.int (-1))) yA)
    (l4 : 0 ≤ yw.toInt → (yw / 10).toInt < 6 → (yw - yw / 10 * 10).toInt ≤ 4 → yf.toInt < 0 → yQ (some (.int (-1))) yA)
    (l5 : 0 ≤ yw.toInt → (yw / 10).toInt < 6 → (yw - yw / 10 * 10).toInt ≤ 4 → 0 ≤ yf.toInt → 3599 < yf.toInt → yQ (some (.int (-1))) yA)
    (l6 : 0 ≤ yw.toInt → (yw / 10).toInt < 6 → (yw - yw / 10 * 10).toInt ≤ 4 → 0 ≤ yf.toInt → yf.toInt ≤ 3599 → (yA.1 69 45).toInt ≠ 20 → Pa N 202 0 [(0, .ref 69), (1, .int (-1)), (2, .int (yA.1 69 39))] [] (uI yA 69 66 (-1)) (fun yu A1 => Pa N 204 42 [(0, .ref 69), (1, .int yw), (2, .int yf)] (yu.toList ++ []) A1 yQ))
    (l7 : 0 ≤ yw.toInt → (yw / 10).toInt < 6 → (yw - yw / 10 * 10).toInt ≤ 4 → 0 ≤ yf.toInt → yf.toInt ≤ 3599 → (yA.1 69 45).toInt = 20 → yQ (some (.int (-2))) yA) :
    Pa N 204 0 [(0, .ref 69), (1, .int yw), (2, .int yf)] [] yA yQ := by
  refine Pa.mp 1 (pc' := 1) (l' := [(0, .ref 69), (1, .int yw), (2, .int yf)]) (st' := [.int yw]) (by rfl) ?_
  refine Pa.ist (by rfl) (by rfl) (.inl rfl) (by rfl) (by rfl) ?_
  show Pa N 203 0 [(0, .int yw)] [] yA _
  refine Pa.mp 1 (pc' := 1) (l' := [(0, .int yw)]) (st' := [.int yw]) (by rfl) ?_
  refine Pa.if1 (a := yw.toInt) (t := 25) (by rfl) (by rfl) (rfl) (fun h1 => ?_) (fun h2 => ?_)
  · have h1 : yw.toInt < 0 := h1
    refine Pa.ic (x := 0) (pc' := 26) (by rfl) (by rfl) (by decide) ?_
    refine Pa.iret (by rfl) ?_
    show Pa N 204 4 [(0, .ref 69), (1, .int yw), (2, .int yf)] [.int 0] yA _
    refine Pa.if1k true (by rfl) (by rfl) (by decide) ?_
    show Pa N 204 14 [(0, .ref 69), (1, .int yw), (2, .int yf)] [] yA _
    refine Pa.ic (x := (-1)) (pc' := 15) (by rfl) (by rfl) (by decide) ?_
    refine Pa.iret (by rfl) ?_
    exact l1 h1
  · have h2 : 0 ≤ yw.toInt := h2
    refine Pa.mp 1 (pc' := 5) (l' := [(0, .int yw)]) (st' := [.int yw]) (by rfl) ?_
    refine Pa.ic (x := 10) (pc' := 7) (by rfl) (by rfl) (by decide) ?_
    refine Pa.idiv (by rfl) ?_
    refine Pa.ic (x := 6) (pc' := 10) (by rfl) (by rfl) (by decide) ?_
    refine Pa.if2 (a := (yw / 10).toInt) (b := 6) (t := 25) (by rfl) (by rfl) (rfl) (by decide) (fun h3 => ?_) (fun h4 => ?_)
    · have h3 : 6 ≤ (yw / 10).toInt := h3
      refine Pa.ic (x := 0) (pc' := 26) (by rfl) (by rfl) (by decide) ?_
      refine Pa.iret (by rfl) ?_
      show Pa N 204 4 [(0, .ref 69), (1, .int yw), (2, .int yf)] [.int 0] yA _
      refine Pa.if1k true (by rfl) (by rfl) (by decide) ?_
      show Pa N 204 14 [(0, .ref 69), (1, .int yw), (2, .int yf)] [] yA _
      refine Pa.ic (x := (-1)) (pc' := 15) (by rfl) (by rfl) (by decide) ?_
      refine Pa.iret (by rfl) ?_
      exact l2 h2 h3
    · have h4 : (yw / 10).toInt < 6 := h4
      refine Pa.mp 1 (pc' := 14) (l' := [(0, .int yw)]) (st' := [.int yw]) (by rfl) ?_
      refine Pa.ic (x := 10) (pc' := 16) (by rfl) (by rfl) (by decide) ?_
      refine Pa.irem (by rfl) ?_
      refine Pa.ic (x := 4) (pc' := 18) (by rfl) (by rfl) (by decide) ?_
      refine Pa.if2 (a := (yw - yw / 10 * 10).toInt) (b := 4) (t := 25) (by rfl) (by rfl) (rfl) (by decide) (fun h5 => ?_) (fun h6 => ?_)
      · have h5 : 4 < (yw - yw / 10 * 10).toInt := h5
        refine Pa.ic (x := 0) (pc' := 26) (by rfl) (by rfl) (by decide) ?_
        refine Pa.iret (by rfl) ?_
        show Pa N 204 4 [(0, .ref 69), (1, .int yw), (2, .int yf)] [.int 0] yA _
        refine Pa.if1k true (by rfl) (by rfl) (by decide) ?_
        show Pa N 204 14 [(0, .ref 69), (1, .int yw), (2, .int yf)] [] yA _
        refine Pa.ic (x := (-1)) (pc' := 15) (by rfl) (by rfl) (by decide) ?_
        refine Pa.iret (by rfl) ?_
        exact l3 h2 h4 h5
      · have h6 : (yw - yw / 10 * 10).toInt ≤ 4 := h6
        refine Pa.ic (x := 1) (pc' := 22) (by rfl) (by rfl) (by decide) ?_
        refine Pa.mp 1 (pc' := 26) (l' := [(0, .int yw)]) (st' := [.int 1]) (by rfl) ?_
        refine Pa.iret (by rfl) ?_
        show Pa N 204 4 [(0, .ref 69), (1, .int yw), (2, .int yf)] [.int 1] yA _
        refine Pa.if1k false (by rfl) (by rfl) (by decide) ?_
        show Pa N 204 7 [(0, .ref 69), (1, .int yw), (2, .int yf)] [] yA _
        refine Pa.mp 1 (pc' := 8) (l' := [(0, .ref 69), (1, .int yw), (2, .int yf)]) (st' := [.int yf]) (by rfl) ?_
        refine Pa.ist (by rfl) (by rfl) (.inl rfl) (by rfl) (by rfl) ?_
        show Pa N 153 0 [(0, .int yf)] [] yA _
        refine Pa.mp 1 (pc' := 1) (l' := [(0, .int yf)]) (st' := [.int yf]) (by rfl) ?_
        refine Pa.ic (x := 0) (pc' := 2) (by rfl) (by rfl) (by decide) ?_
        refine Pa.ic (x := 3599) (pc' := 5) (by rfl) (by rfl) (by decide) ?_
        refine Pa.ist (by rfl) (by rfl) (.inl rfl) (by rfl) (by rfl) ?_
        show Pa N 152 0 [(0, .int yf), (1, .int 0), (2, .int 3599)] [] yA _
        refine Pa.mp 2 (pc' := 2) (l' := [(0, .int yf), (1, .int 0), (2, .int 3599)]) (st' := [.int 0, .int yf]) (by rfl) ?_
        refine Pa.if2 (a := yf.toInt) (b := 0) (t := 14) (by rfl) (by rfl) (rfl) (by decide) (fun h7 => ?_) (fun h8 => ?_)
        · have h7 : yf.toInt < 0 := h7
          refine Pa.ic (x := 0) (pc' := 15) (by rfl) (by rfl) (by decide) ?_
          refine Pa.iret (by rfl) ?_
          show Pa N 153 8 [(0, .int yf)] [.int 0] yA _
          refine Pa.iret (by rfl) ?_
          show Pa N 204 11 [(0, .ref 69), (1, .int yw), (2, .int yf)] [.int 0] yA _
          refine Pa.if1k false (by rfl) (by rfl) (by decide) ?_
          show Pa N 204 14 [(0, .ref 69), (1, .int yw), (2, .int yf)] [] yA _
          refine Pa.ic (x := (-1)) (pc' := 15) (by rfl) (by rfl) (by decide) ?_
          refine Pa.iret (by rfl) ?_
          exact l4 h2 h4 h6 h7
        · have h8 : 0 ≤ yf.toInt := h8
          refine Pa.mp 2 (pc' := 7) (l' := [(0, .int yf), (1, .int 0), (2, .int 3599)]) (st' := [.int 3599, .int yf]) (by rfl) ?_
          refine Pa.if2 (a := yf.toInt) (b := 3599) (t := 14) (by rfl) (by rfl) (rfl) (by decide) (fun h9 => ?_) (fun h10 => ?_)
          · have h9 : 3599 < yf.toInt := h9
            refine Pa.ic (x := 0) (pc' := 15) (by rfl) (by rfl) (by decide) ?_
            refine Pa.iret (by rfl) ?_
            show Pa N 153 8 [(0, .int yf)] [.int 0] yA _
            refine Pa.iret (by rfl) ?_
            show Pa N 204 11 [(0, .ref 69), (1, .int yw), (2, .int yf)] [.int 0] yA _
            refine Pa.if1k false (by rfl) (by rfl) (by decide) ?_
            show Pa N 204 14 [(0, .ref 69), (1, .int yw), (2, .int yf)] [] yA _
            refine Pa.ic (x := (-1)) (pc' := 15) (by rfl) (by rfl) (by decide) ?_
            refine Pa.iret (by rfl) ?_
            exact l5 h2 h4 h6 h8 h9
          · have h10 : yf.toInt ≤ 3599 := h10
            refine Pa.ic (x := 1) (pc' := 11) (by rfl) (by rfl) (by decide) ?_
            refine Pa.mp 1 (pc' := 15) (l' := [(0, .int yf), (1, .int 0), (2, .int 3599)]) (st' := [.int 1]) (by rfl) ?_
            refine Pa.iret (by rfl) ?_
            show Pa N 153 8 [(0, .int yf)] [.int 1] yA _
            refine Pa.iret (by rfl) ?_
            show Pa N 204 11 [(0, .ref 69), (1, .int yw), (2, .int yf)] [.int 1] yA _
            refine Pa.if1k true (by rfl) (by rfl) (by decide) ?_
            show Pa N 204 16 [(0, .ref 69), (1, .int yw), (2, .int yf)] [] yA _
            refine Pa.mp 1 (pc' := 17) (l' := [(0, .ref 69), (1, .int yw), (2, .int yf)]) (st' := [.ref 69]) (by rfl) ?_
            refine Pa.gfI (v := yA.1 69 45) (by rfl) (by rfl) (.inl rfl) (by rfl) (by rfl) ?_
            refine Pa.ic (x := 20) (pc' := 22) (by rfl) (by rfl) (by decide) ?_
            refine Pa.if2 (a := (yA.1 69 45).toInt) (b := 20) (t := 28) (by rfl) (by rfl) (rfl) (by decide) (fun h11 => ?_) (fun h12 => ?_)
            · have h11 : (yA.1 69 45).toInt ≠ 20 := h11
              refine Pa.mp 1 (pc' := 29) (l' := [(0, .ref 69), (1, .int yw), (2, .int yf)]) (st' := [.ref 69]) (by rfl) ?_
              refine Pa.ic (x := (-1)) (pc' := 30) (by rfl) (by rfl) (by decide) ?_
              refine Pa.pfI (by rfl) (by rfl) (.inl rfl) (by rfl) ?_
              show Pa N 204 33 [(0, .ref 69), (1, .int yw), (2, .int yf)] [] (uI yA 69 66 (-1)) _
              refine Pa.mp 1 (pc' := 34) (l' := [(0, .ref 69), (1, .int yw), (2, .int yf)]) (st' := [.ref 69]) (by rfl) ?_
              refine Pa.ic (x := (-1)) (pc' := 35) (by rfl) (by rfl) (by decide) ?_
              refine Pa.mp 1 (pc' := 36) (l' := [(0, .ref 69), (1, .int yw), (2, .int yf)]) (st' := [.ref 69, .int (-1), .ref 69]) (by rfl) ?_
              refine Pa.gfI (v := yA.1 69 39) (by rfl) (by rfl) (.inl rfl) (by rfl) (by show (uI yA 69 66 (-1)).1 69 39 = yA.1 69 39; rw [uI_k (by decide)]) ?_
              refine Pa.inv (by rfl) (by rfl) (.inl rfl) (by rfl) ?_
              exact l6 h2 h4 h6 h8 h10 h11
            · have h12 : (yA.1 69 45).toInt = 20 := h12
              refine Pa.ic (x := (-2)) (pc' := 27) (by rfl) (by rfl) (by decide) ?_
              refine Pa.iret (by rfl) ?_
              exact l7 h2 h4 h6 h8 h10 h12

theorem bm_tx1 {N : Nat} {yA : AW} {yQ : Option Value → AW → Prop} (yw yf yx : Int32)
    (l1 : (yA.1 69 63).toInt < 0 → Pa N 204 72 [(0, .ref 69), (1, .int yw), (2, .int yf), (3, .int yx), (4, .int (yA.1 69 39)), (5, .int 0)] [] (uI yA 69 39 0) yQ)
    (l2 : 0 ≤ (yA.1 69 63).toInt → yQ (some (.int ((-100) - (yA.1 69 63)))) (uI yA 69 39 0)) :
    Pa N 204 42 [(0, .ref 69), (1, .int yw), (2, .int yf)] [.int yx] yA yQ := by
  refine Pa.mp 2 (pc' := 44) (l' := [(3, .int yx), (0, .ref 69), (1, .int yw), (2, .int yf)]) (st' := [.ref 69]) (by rfl) ?_
  refine Pa.gfI (v := yA.1 69 39) (by rfl) (by rfl) (.inl rfl) (by rfl) (by rfl) ?_
  refine Pa.mp 2 (pc' := 50) (l' := [(4, .int (yA.1 69 39)), (3, .int yx), (0, .ref 69), (1, .int yw), (2, .int yf)]) (st' := [.ref 69]) (by rfl) ?_
  refine Pa.ic (x := 0) (pc' := 51) (by rfl) (by rfl) (by decide) ?_
  refine Pa.pfI (by rfl) (by rfl) (.inl rfl) (by rfl) ?_
  show Pa N 204 54 [(4, .int (yA.1 69 39)), (3, .int yx), (0, .ref 69), (1, .int yw), (2, .int yf)] [] (uI yA 69 39 0) _
  refine Pa.mp 1 (pc' := 55) (l' := [(4, .int (yA.1 69 39)), (3, .int yx), (0, .ref 69), (1, .int yw), (2, .int yf)]) (st' := [.ref 69]) (by rfl) ?_
  refine Pa.gfI (v := yA.1 69 63) (by rfl) (by rfl) (.inl rfl) (by rfl) (by show (uI yA 69 39 0).1 69 63 = yA.1 69 63; rw [uI_k (by decide)]) ?_
  refine Pa.if1 (a := (yA.1 69 63).toInt) (t := 69) (by rfl) (by rfl) (rfl) (fun h1 => ?_) (fun h2 => ?_)
  · have h1 : (yA.1 69 63).toInt < 0 := h1
    refine Pa.ic (x := 0) (pc' := 70) (by rfl) (by rfl) (by decide) ?_
    refine Pa.mp 1 (pc' := 72) (l' := [(5, .int 0), (4, .int (yA.1 69 39)), (3, .int yx), (0, .ref 69), (1, .int yw), (2, .int yf)]) (st' := []) (by rfl) ?_
    refine Pa.lv (l' := [(0, .ref 69), (1, .int yw), (2, .int yf), (3, .int yx), (4, .int (yA.1 69 39)), (5, .int 0)]) (lvS_c rfl (lvS_c rfl (lvS_c rfl (lvS_c rfl (lvS_c rfl (lvS_c rfl (lvS_nil))))))) rfl ?_
    exact l1 h1
  · have h2 : 0 ≤ (yA.1 69 63).toInt := h2
    refine Pa.ic (x := (-100)) (pc' := 63) (by rfl) (by rfl) (by decide) ?_
    refine Pa.mp 1 (pc' := 64) (l' := [(4, .int (yA.1 69 39)), (3, .int yx), (0, .ref 69), (1, .int yw), (2, .int yf)]) (st' := [.ref 69, .int (-100)]) (by rfl) ?_
    refine Pa.gfI (v := yA.1 69 63) (by rfl) (by rfl) (.inl rfl) (by rfl) (by show (uI yA 69 39 0).1 69 63 = yA.1 69 63; rw [uI_k (by decide)]) ?_
    refine Pa.mp 1 (pc' := 68) (l' := [(4, .int (yA.1 69 39)), (3, .int yx), (0, .ref 69), (1, .int yw), (2, .int yf)]) (st' := [.int ((-100) - (yA.1 69 63))]) (by rfl) ?_
    refine Pa.iret (by rfl) ?_
    exact l2 h2

theorem bm_txl {N : Nat} {yA : AW} {yQ : Option Value → AW → Prop} (yw yf yx yn yi : Int32)
    (l1 : yn.toInt ≤ yi.toInt → 0 ≤ (yA.1 69 45).toInt → (yA.1 69 45).toInt < 20 → yQ (some (.int (((yA.1 69 45) + 1) - 1))) (uI (uI (uI (uI (uI yA 101 ((yA.1 69 45).toInt.toNat) yn) 102 ((yA.1 69 45).toInt.toNat) yw) 103 ((yA.1 69 45).toInt.toNat) (yA.1 69 0)) 104 ((yA.1 69 45).toInt.toNat) yf) 69 45 ((yA.1 69 45) + 1)))
    (l2 : yi.toInt < yn.toInt → 0 ≤ yi.toInt → yi.toInt < 160 → 0 ≤ ((160 * (yA.1 69 45)) + yi).toInt → ((160 * (yA.1 69 45)) + yi).toInt < 3200 → Pa N 204 72 [(0, .ref 69), (1, .int yw), (2, .int yf), (3, .int yx), (4, .int yn), (5, .int (yi + 1))] [] (uI yA 100 (((160 * (yA.1 69 45)) + yi).toInt.toNat) (yA.1 99 yi.toInt.toNat)) yQ) :
    Pa (N + 1) 204 72 [(0, .ref 69), (1, .int yw), (2, .int yf), (3, .int yx), (4, .int yn), (5, .int yi)] [] yA yQ := by
  refine Pa.mp1 1 (pc' := 76) (l' := [(0, .ref 69), (1, .int yw), (2, .int yf), (3, .int yx), (4, .int yn), (5, .int yi)]) (st' := [.int yn, .int yi]) (by rfl) ?_
  refine Pa.if2 (a := yi.toInt) (b := yn.toInt) (t := 108) (by rfl) (by rfl) (rfl) (rfl) (fun h1 => ?_) (fun h2 => ?_)
  · have h1 : yn.toInt ≤ yi.toInt := h1
    refine Pa.mp 1 (pc' := 109) (l' := [(0, .ref 69), (1, .int yw), (2, .int yf), (3, .int yx), (4, .int yn), (5, .int yi)]) (st' := [.ref 69]) (by rfl) ?_
    refine Pa.gfR (by rfl) (by rfl) (.inl rfl) (by rfl) ?_
    show Pa N 204 112 [(0, .ref 69), (1, .int yw), (2, .int yf), (3, .int yx), (4, .int yn), (5, .int yi)] [.ref 101] yA _
    refine Pa.mp 1 (pc' := 113) (l' := [(0, .ref 69), (1, .int yw), (2, .int yf), (3, .int yx), (4, .int yn), (5, .int yi)]) (st' := [.ref 69, .ref 101]) (by rfl) ?_
    refine Pa.gfI (v := yA.1 69 45) (by rfl) (by rfl) (.inl rfl) (by rfl) (by rfl) ?_
    refine Pa.mp 1 (pc' := 118) (l' := [(0, .ref 69), (1, .int yw), (2, .int yf), (3, .int yx), (4, .int yn), (5, .int yi)]) (st' := [.int yn, .int (yA.1 69 45), .ref 101]) (by rfl) ?_
    refine Pa.asts (j' := ((yA.1 69 45).toInt.toNat)) (by rfl) (by rfl) (by rfl) (fun h3 h4 => ?_)
    have h3 : 0 ≤ (yA.1 69 45).toInt := h3
    have h4 : (yA.1 69 45).toInt < 20 := h4
    show Pa N 204 119 [(0, .ref 69), (1, .int yw), (2, .int yf), (3, .int yx), (4, .int yn), (5, .int yi)] [] (uI yA 101 ((yA.1 69 45).toInt.toNat) yn) _
    refine Pa.mp 1 (pc' := 120) (l' := [(0, .ref 69), (1, .int yw), (2, .int yf), (3, .int yx), (4, .int yn), (5, .int yi)]) (st' := [.ref 69]) (by rfl) ?_
    refine Pa.gfR (by rfl) (by rfl) (.inl rfl) (by rfl) ?_
    show Pa N 204 123 [(0, .ref 69), (1, .int yw), (2, .int yf), (3, .int yx), (4, .int yn), (5, .int yi)] [.ref 102] (uI yA 101 ((yA.1 69 45).toInt.toNat) yn) _
    refine Pa.mp 1 (pc' := 124) (l' := [(0, .ref 69), (1, .int yw), (2, .int yf), (3, .int yx), (4, .int yn), (5, .int yi)]) (st' := [.ref 69, .ref 102]) (by rfl) ?_
    refine Pa.gfI (v := yA.1 69 45) (by rfl) (by rfl) (.inl rfl) (by rfl) (by show (uI yA 101 ((yA.1 69 45).toInt.toNat) yn).1 69 45 = yA.1 69 45; rw [uI_c (by decide)]) ?_
    refine Pa.mp 1 (pc' := 128) (l' := [(0, .ref 69), (1, .int yw), (2, .int yf), (3, .int yx), (4, .int yn), (5, .int yi)]) (st' := [.int yw, .int (yA.1 69 45), .ref 102]) (by rfl) ?_
    refine Pa.asts (j' := ((yA.1 69 45).toInt.toNat)) (by rfl) (by rfl) (by rfl) (fun h5 h6 => ?_)
    have h5 : 0 ≤ (yA.1 69 45).toInt := h5
    have h6 : (yA.1 69 45).toInt < 20 := h6
    show Pa N 204 129 [(0, .ref 69), (1, .int yw), (2, .int yf), (3, .int yx), (4, .int yn), (5, .int yi)] [] (uI (uI yA 101 ((yA.1 69 45).toInt.toNat) yn) 102 ((yA.1 69 45).toInt.toNat) yw) _
    refine Pa.mp 1 (pc' := 130) (l' := [(0, .ref 69), (1, .int yw), (2, .int yf), (3, .int yx), (4, .int yn), (5, .int yi)]) (st' := [.ref 69]) (by rfl) ?_
    refine Pa.gfR (by rfl) (by rfl) (.inl rfl) (by rfl) ?_
    show Pa N 204 133 [(0, .ref 69), (1, .int yw), (2, .int yf), (3, .int yx), (4, .int yn), (5, .int yi)] [.ref 103] (uI (uI yA 101 ((yA.1 69 45).toInt.toNat) yn) 102 ((yA.1 69 45).toInt.toNat) yw) _
    refine Pa.mp 1 (pc' := 134) (l' := [(0, .ref 69), (1, .int yw), (2, .int yf), (3, .int yx), (4, .int yn), (5, .int yi)]) (st' := [.ref 69, .ref 103]) (by rfl) ?_
    refine Pa.gfI (v := yA.1 69 45) (by rfl) (by rfl) (.inl rfl) (by rfl) (by show (uI (uI yA 101 ((yA.1 69 45).toInt.toNat) yn) 102 ((yA.1 69 45).toInt.toNat) yw).1 69 45 = yA.1 69 45; rw [uI_c (by decide), uI_c (by decide)]) ?_
    refine Pa.mp 1 (pc' := 138) (l' := [(0, .ref 69), (1, .int yw), (2, .int yf), (3, .int yx), (4, .int yn), (5, .int yi)]) (st' := [.ref 69, .int (yA.1 69 45), .ref 103]) (by rfl) ?_
    refine Pa.gfI (v := yA.1 69 0) (by rfl) (by rfl) (.inl rfl) (by rfl) (by show (uI (uI yA 101 ((yA.1 69 45).toInt.toNat) yn) 102 ((yA.1 69 45).toInt.toNat) yw).1 69 0 = yA.1 69 0; rw [uI_c (by decide), uI_c (by decide)]) ?_
    refine Pa.asts (j' := ((yA.1 69 45).toInt.toNat)) (by rfl) (by rfl) (by rfl) (fun h7 h8 => ?_)
    have h7 : 0 ≤ (yA.1 69 45).toInt := h7
    have h8 : (yA.1 69 45).toInt < 20 := h8
    show Pa N 204 142 [(0, .ref 69), (1, .int yw), (2, .int yf), (3, .int yx), (4, .int yn), (5, .int yi)] [] (uI (uI (uI yA 101 ((yA.1 69 45).toInt.toNat) yn) 102 ((yA.1 69 45).toInt.toNat) yw) 103 ((yA.1 69 45).toInt.toNat) (yA.1 69 0)) _
    refine Pa.mp 1 (pc' := 143) (l' := [(0, .ref 69), (1, .int yw), (2, .int yf), (3, .int yx), (4, .int yn), (5, .int yi)]) (st' := [.ref 69]) (by rfl) ?_
    refine Pa.gfR (by rfl) (by rfl) (.inl rfl) (by rfl) ?_
    show Pa N 204 146 [(0, .ref 69), (1, .int yw), (2, .int yf), (3, .int yx), (4, .int yn), (5, .int yi)] [.ref 104] (uI (uI (uI yA 101 ((yA.1 69 45).toInt.toNat) yn) 102 ((yA.1 69 45).toInt.toNat) yw) 103 ((yA.1 69 45).toInt.toNat) (yA.1 69 0)) _
    refine Pa.mp 1 (pc' := 147) (l' := [(0, .ref 69), (1, .int yw), (2, .int yf), (3, .int yx), (4, .int yn), (5, .int yi)]) (st' := [.ref 69, .ref 104]) (by rfl) ?_
    refine Pa.gfI (v := yA.1 69 45) (by rfl) (by rfl) (.inl rfl) (by rfl) (by show (uI (uI (uI yA 101 ((yA.1 69 45).toInt.toNat) yn) 102 ((yA.1 69 45).toInt.toNat) yw) 103 ((yA.1 69 45).toInt.toNat) (yA.1 69 0)).1 69 45 = yA.1 69 45; rw [uI_c (by decide), uI_c (by decide), uI_c (by decide)]) ?_
    refine Pa.mp 1 (pc' := 151) (l' := [(0, .ref 69), (1, .int yw), (2, .int yf), (3, .int yx), (4, .int yn), (5, .int yi)]) (st' := [.int yf, .int (yA.1 69 45), .ref 104]) (by rfl) ?_
    refine Pa.asts (j' := ((yA.1 69 45).toInt.toNat)) (by rfl) (by rfl) (by rfl) (fun h9 h10 => ?_)
    have h9 : 0 ≤ (yA.1 69 45).toInt := h9
    have h10 : (yA.1 69 45).toInt < 20 := h10
    show Pa N 204 152 [(0, .ref 69), (1, .int yw), (2, .int yf), (3, .int yx), (4, .int yn), (5, .int yi)] [] (uI (uI (uI (uI yA 101 ((yA.1 69 45).toInt.toNat) yn) 102 ((yA.1 69 45).toInt.toNat) yw) 103 ((yA.1 69 45).toInt.toNat) (yA.1 69 0)) 104 ((yA.1 69 45).toInt.toNat) yf) _
    refine Pa.mp 2 (pc' := 154) (l' := [(0, .ref 69), (1, .int yw), (2, .int yf), (3, .int yx), (4, .int yn), (5, .int yi)]) (st' := [.ref 69, .ref 69]) (by rfl) ?_
    refine Pa.gfI (v := yA.1 69 45) (by rfl) (by rfl) (.inl rfl) (by rfl) (by show (uI (uI (uI (uI yA 101 ((yA.1 69 45).toInt.toNat) yn) 102 ((yA.1 69 45).toInt.toNat) yw) 103 ((yA.1 69 45).toInt.toNat) (yA.1 69 0)) 104 ((yA.1 69 45).toInt.toNat) yf).1 69 45 = yA.1 69 45; rw [uI_c (by decide), uI_c (by decide), uI_c (by decide), uI_c (by decide)]) ?_
    refine Pa.ic (x := 1) (pc' := 158) (by rfl) (by rfl) (by decide) ?_
    refine Pa.mp 1 (pc' := 159) (l' := [(0, .ref 69), (1, .int yw), (2, .int yf), (3, .int yx), (4, .int yn), (5, .int yi)]) (st' := [.int ((yA.1 69 45) + 1), .ref 69]) (by rfl) ?_
    refine Pa.pfI (by rfl) (by rfl) (.inl rfl) (by rfl) ?_
    show Pa N 204 162 [(0, .ref 69), (1, .int yw), (2, .int yf), (3, .int yx), (4, .int yn), (5, .int yi)] [] (uI (uI (uI (uI (uI yA 101 ((yA.1 69 45).toInt.toNat) yn) 102 ((yA.1 69 45).toInt.toNat) yw) 103 ((yA.1 69 45).toInt.toNat) (yA.1 69 0)) 104 ((yA.1 69 45).toInt.toNat) yf) 69 45 ((yA.1 69 45) + 1)) _
    refine Pa.mp 1 (pc' := 163) (l' := [(0, .ref 69), (1, .int yw), (2, .int yf), (3, .int yx), (4, .int yn), (5, .int yi)]) (st' := [.ref 69]) (by rfl) ?_
    refine Pa.gfI (v := (yA.1 69 45) + 1) (by rfl) (by rfl) (.inl rfl) (by rfl) (by show (uI (uI (uI (uI (uI yA 101 ((yA.1 69 45).toInt.toNat) yn) 102 ((yA.1 69 45).toInt.toNat) yw) 103 ((yA.1 69 45).toInt.toNat) (yA.1 69 0)) 104 ((yA.1 69 45).toInt.toNat) yf) 69 45 ((yA.1 69 45) + 1)).1 69 45 = (yA.1 69 45) + 1; rw [uI_h]) ?_
    refine Pa.ic (x := 1) (pc' := 167) (by rfl) (by rfl) (by decide) ?_
    refine Pa.mp 1 (pc' := 168) (l' := [(0, .ref 69), (1, .int yw), (2, .int yf), (3, .int yx), (4, .int yn), (5, .int yi)]) (st' := [.int (((yA.1 69 45) + 1) - 1)]) (by rfl) ?_
    refine Pa.iret (by rfl) ?_
    exact l1 h1 h3 h4
  · have h2 : yi.toInt < yn.toInt := h2
    refine Pa.mp 1 (pc' := 80) (l' := [(0, .ref 69), (1, .int yw), (2, .int yf), (3, .int yx), (4, .int yn), (5, .int yi)]) (st' := [.ref 69]) (by rfl) ?_
    refine Pa.gfR (by rfl) (by rfl) (.inl rfl) (by rfl) ?_
    show Pa N 204 83 [(0, .ref 69), (1, .int yw), (2, .int yf), (3, .int yx), (4, .int yn), (5, .int yi)] [.ref 100] yA _
    refine Pa.ic (x := 160) (pc' := 86) (by rfl) (by rfl) (by decide) ?_
    refine Pa.mp 1 (pc' := 87) (l' := [(0, .ref 69), (1, .int yw), (2, .int yf), (3, .int yx), (4, .int yn), (5, .int yi)]) (st' := [.ref 69, .int 160, .ref 100]) (by rfl) ?_
    refine Pa.gfI (v := yA.1 69 45) (by rfl) (by rfl) (.inl rfl) (by rfl) (by rfl) ?_
    refine Pa.mp 4 (pc' := 95) (l' := [(0, .ref 69), (1, .int yw), (2, .int yf), (3, .int yx), (4, .int yn), (5, .int yi)]) (st' := [.ref 69, .int ((160 * (yA.1 69 45)) + yi), .ref 100]) (by rfl) ?_
    refine Pa.gfR (by rfl) (by rfl) (.inl rfl) (by rfl) ?_
    show Pa N 204 98 [(0, .ref 69), (1, .int yw), (2, .int yf), (3, .int yx), (4, .int yn), (5, .int yi)] [.ref 99, .int ((160 * (yA.1 69 45)) + yi), .ref 100] yA _
    refine Pa.mp 1 (pc' := 100) (l' := [(0, .ref 69), (1, .int yw), (2, .int yf), (3, .int yx), (4, .int yn), (5, .int yi)]) (st' := [.int yi, .ref 99, .int ((160 * (yA.1 69 45)) + yi), .ref 100]) (by rfl) ?_
    refine Pa.alds (v := yA.1 99 yi.toInt.toNat) (by rfl) (by rfl) (by rfl) (fun h11 h12 => ?_)
    have h11 : 0 ≤ yi.toInt := h11
    have h12 : yi.toInt < 160 := h12
    refine Pa.asts (j' := (((160 * (yA.1 69 45)) + yi).toInt.toNat)) (by rfl) (by rfl) (by rfl) (fun h13 h14 => ?_)
    have h13 : 0 ≤ ((160 * (yA.1 69 45)) + yi).toInt := h13
    have h14 : ((160 * (yA.1 69 45)) + yi).toInt < 3200 := h14
    show Pa N 204 102 [(0, .ref 69), (1, .int yw), (2, .int yf), (3, .int yx), (4, .int yn), (5, .int yi)] [] (uI yA 100 (((160 * (yA.1 69 45)) + yi).toInt.toNat) (yA.1 99 yi.toInt.toNat)) _
    refine Pa.iinc (x := yi) (c := 1) (v := (yi + 1)) (l' := [(5, .int (yi + 1)), (0, .ref 69), (1, .int yw), (2, .int yf), (3, .int yx), (4, .int yn)]) (by rfl) (by rfl) (by decide) (by rfl) (by rfl) ?_
    refine Pa.mp 1 (pc' := 72) (l' := [(5, .int (yi + 1)), (0, .ref 69), (1, .int yw), (2, .int yf), (3, .int yx), (4, .int yn)]) (st' := []) (by rfl) ?_
    refine Pa.lv (l' := [(0, .ref 69), (1, .int yw), (2, .int yf), (3, .int yx), (4, .int yn), (5, .int (yi + 1))]) (lvS_c rfl (lvS_c rfl (lvS_c rfl (lvS_c rfl (lvS_c rfl (lvS_c rfl (lvS_nil))))))) rfl ?_
    exact l2 h2 h11 h12 h13 h14

/-- ya text's number and day can stand -/
def okW (yw yf : Int32) : Prop := 0 ≤ yw.toInt ∧ yw.toInt ≤ 59 ∧ (yw - yw / 10 * 10).toInt ≤ 4 ∧ 0 ≤ yf.toInt ∧ yf.toInt ≤ 3599
/-- the world of ya ytext yput in -/
def tx0 (yA : AW) (yi : Nat) (yw yd yf : Int32) : AW := uI (uI (uI yA 40 yi yw) 41 yi yd) 42 yi yf
def tx1 (yA : AW) (yi yk : Nat) (yw yd yf yv ys : Int32) (yg : Nat → Int32) : AW := uI (uI (uO (uA (tx0 yA yi yw yd yf) yk yg) 39 yi (some yA.2.2.2.2)) 43 yi yv) 38 7 ys
theorem ad_loop (yk yi : Nat) (hk : yk ≤ 161) (yhi : yi < 20) (yw yd yf : Int32) : ∀ (N yj : Nat) (yA : AW), yj ≤ yk → yA.1 35 3 = Int32.ofNat yk → yA.1 38 7 = Int32.ofNat yi → ((∃ yq, yq < yj ∧ yA.1 37 yq = -5) → yA.1 43 yi ≠ 0) → Pa N 2 55 [(0, .ref 38), (1, .int yw), (2, .int yd), (3, .int yf), (4, .ref 35), (5, .int (Int32.ofNat yj))] [] yA (fun yu A1 => ∃ yv, yu = some (.int (Int32.ofNat yi)) ∧ A1 = uI (uI yA 43 yi yv) 38 7 (Int32.ofNat (yi + 1)) ∧ ((∃ yq, yq < yk ∧ yA.1 37 yq = -5) → yv ≠ 0)) := by
  intro N
  induction N with
  | zero => intros; exact Pa.zero
  | succ N yih =>
    intro yj yA hj hk3 hi7 hh
    have ek : (Int32.ofNat yk).toInt = (yk : Int) := i32_nat (by omega)
    have ej : (Int32.ofNat yj).toInt = (yj : Int) := i32_nat (by omega)
    have ei : (Int32.ofNat yi).toInt = (yi : Int) := i32_nat (by omega)
    refine bx_ad2 yw yd yf _ (fun h1 => ?_) (fun h1 h2 h3 h4 => ?_) (fun h1 h2 h3 h4 h5 h6 => ?_)
    · rw [hk3, ek, ej] at h1
      refine ⟨yA.1 43 yi, by rw [hi7, Int32.add_sub_cancel], ?_, fun yq => hh ?_⟩
      · have hself : uI yA 43 yi (yA.1 43 yi) = yA := by
          refine Prod.ext ?_ rfl
          funext c' k'
          show (if c' = 43 ∧ k' = yi then yA.1 43 yi else yA.1 c' k') = yA.1 c' k'
          by_cases ye : c' = 43 ∧ k' = yi
          · rw [if_pos ye, ye.1, ye.2]
          · rw [if_neg ye]
        rw [hself, hi7, ← on_succ yi]
      · obtain ⟨yq, yq1, yq2⟩ := yq
        exact ⟨yq, by omega, yq2⟩
    · rw [hk3, ek, ej] at h1
      rw [ej, Int.toNat_natCast] at h4
      rw [← on_succ yj]
      refine yih (yj + 1) yA (by omega) hk3 hi7 (fun ⟨yq, yq1, yq2⟩ => ?_)
      by_cases ye : yq = yj
      · rw [ye] at yq2
        rw [yq2] at h4
        exact absurd (by decide) h4
      · exact hh ⟨yq, by omega, yq2⟩
    · rw [hk3, ek, ej] at h1
      rw [← on_succ yj]
      rw [hi7, ei, Int.toNat_natCast]
      refine Pa.mono (yih (yj + 1) (uI yA 43 yi (vp_nar .boolean 1)) (by omega) (by rw [uI_c (by decide)]; exact hk3) (by rw [uI_c (by decide)]; exact hi7) (fun _ => by rw [uI_h]; decide)) (fun yu A1 hu => ?_)
      obtain ⟨yv, rfl, rfl, h7⟩ := hu
      refine ⟨yv, rfl, ?_, fun yq => h7 ?_⟩
      · refine Prod.ext ?_ rfl
        funext c' k'
        simp only [uI]
        repeat' split
        all_goals first
          | rfl
          | (exfalso; omega)
      · obtain ⟨yq, yq1, yq2⟩ := yq
        exact ⟨yq, yq1, by rw [uI_c (by decide)]; exact yq2⟩
theorem c_addT (N : Nat) (yA : AW) (yk yi : Nat) (yw yd yf : Int32) (hk : yk ≤ 161) (yhi : yi < 20) (hk3 : yA.1 35 3 = Int32.ofNat yk) (hi7 : yA.1 38 7 = Int32.ofNat yi) : Pa N 2 0 [(0, .ref 38), (1, .int yw), (2, .int yd), (3, .int yf), (4, .ref 35)] [] yA (fun yu A1 => ∃ yv yg, 129 ≤ yA.2.2.2.2 ∧ yu = some (.int (Int32.ofNat yi)) ∧ A1 = tx1 yA yi yk yw yd yf yv (Int32.ofNat (yi + 1)) yg ∧ (∀ yj, yj < yk → yg yj = yA.1 37 yj) ∧ ((∃ yq, yq < yk ∧ yA.1 37 yq = -5) → yv ≠ 0)) := by
  have ei : (Int32.ofNat yi).toInt = (yi : Int) := i32_nat (by omega)
  refine bx_ad0 yw yd yf (fun h1 h2 => ?_)
  rw [hi7, ei, Int.toNat_natCast, hk3]
  refine Pa.mono (c_copyOf N (tx0 yA yi yw yd yf) yk hk) (fun yu A1 hu => ?_)
  obtain ⟨yg, h9, rfl, rfl, hg⟩ := hu
  have hn : (tx0 yA yi yw yd yf).2.2.2.2 = yA.2.2.2.2 := rfl
  rw [hn] at h9 ⊢
  have a37 : ∀ yj, (tx0 yA yi yw yd yf).1 37 yj = yA.1 37 yj := fun yj => by
    unfold tx0
    rw [uI_c (by decide), uI_c (by decide), uI_c (by decide)]
  refine bx_ad1 _ yw yd yf _ h9 (fun _ _ => ?_)
  rw [ei, Int.toNat_natCast]
  have yrd : ∀ yc yj, yc < 129 → yc ≠ 40 → yc ≠ 41 → yc ≠ 42 → (uO (uA (tx0 yA yi yw yd yf) yk yg) 39 yi (some yA.2.2.2.2)).1 yc yj = yA.1 yc yj := fun yc yj yp1 yp2 yp3 yp4 => by
    rw [uO_I, uA_c (by rw [hn]; omega)]
    unfold tx0
    rw [uI_c yp4, uI_c yp3, uI_c yp2]
  refine Pa.mono (ad_loop yk yi hk yhi yw yd yf N 0 _ (Nat.zero_le _) (by rw [yrd 35 3 (by decide) (by decide) (by decide) (by decide)]; exact hk3) (by rw [yrd 38 7 (by decide) (by decide) (by decide) (by decide)]; exact hi7) (fun ⟨yq, yq1, _⟩ => absurd yq1 (Nat.not_lt_zero yq))) (fun yu A1 hu => ?_)
  obtain ⟨yv, rfl, rfl, h7⟩ := hu
  refine ⟨yv, yg, h9, rfl, rfl, fun yj hj => ?_, fun ⟨yq, yq1, yq2⟩ => h7 ⟨yq, yq1, ?_⟩⟩
  · rw [hg yj (by omega) hj, a37]
  · rw [yrd 37 yq (by decide) (by decide) (by decide) (by decide)]
    exact yq2
/-- the class: what ytext leaves -/
def dTx (yw yf : Int32) (yA : AW) (yu : Option Value) (A1 : AW) : Prop := (¬ okW yw yf ∧ yu = some (.int (-1)) ∧ A1 = yA) ∨ (okW yw yf ∧ 20 ≤ (yA.1 38 7).toInt ∧ yu = some (.int (-2)) ∧ A1 = yA) ∨ (okW yw yf ∧ (yA.1 38 7).toInt < 20 ∧ ∃ yd s' q' c', RT (yA.1 36) (yA.1 35 2).toInt.toNat 0 (yd, none) ∧ yd ≤ 160 ∧ yu = some (.int (-100 - Int32.ofNat yd)) ∧ A1 = uI (rW yA (Int32.ofNat yd) s' q' c') 35 2 0) ∨ (okW yw yf ∧ (yA.1 38 7).toInt < 20 ∧ ∃ yd ds yv yg, RT (yA.1 36) (yA.1 35 2).toInt.toNat 0 (yd, some ds) ∧ ds.length ≤ 161 ∧ 129 ≤ yA.2.2.2.2 ∧ yu = some (.int (yA.1 38 7)) ∧ A1 = tx1 (uI (rW yA (Int32.ofNat yd) (Int32.ofNat ds.length) 1 (apd (yA.1 37) 0 ds)) 35 2 0) (yA.1 38 7).toInt.toNat ds.length yw (yA.1 0 10) yf yv (Int32.ofNat ((yA.1 38 7).toInt.toNat + 1)) yg ∧ (∀ yj, yj < ds.length → yg yj = ds.getD yj 0) ∧ ((∃ yq, yq < ds.length ∧ ds.getD yq 0 = -5) → yv ≠ 0))
theorem d_text (N : Nat) (yA : AW) (yw yf : Int32) (h0 : 0 ≤ (yA.1 35 2).toInt) (h1 : (yA.1 35 2).toInt ≤ 160) (h2 : 0 ≤ (yA.1 38 7).toInt) (yhb : ∀ yj, yj < 160 → 0 ≤ (yA.1 36 yj).toInt ∧ (yA.1 36 yj).toInt ≤ 255) : Pa N 119 0 [(0, .ref 0), (1, .int yw), (2, .int yf)] [] yA (dTx yw yf yA) := by
  obtain ⟨yn, hn⟩ : ∃ yn, (yA.1 35 2).toInt.toNat = yn := ⟨_, rfl⟩
  unfold dTx
  rw [hn]
  refine bx_tx0 yw yf (fun yq1 => ?_) (fun yq1 yq2 => ?_) (fun yq1 yq2 yq3 => ?_) (fun yq1 yq2 yq3 yq4 => ?_) (fun yq1 yq2 yq3 yq4 yq5 => ?_) (fun yq1 yq2 yq3 yq4 yq5 yq6 => ?_) (fun yq1 yq2 yq3 yq4 yq5 yq6 => ?_)
  · exact .inl ⟨fun yz => by unfold okW at yz; omega, rfl, rfl⟩
  · exact .inl ⟨fun yz => by unfold okW at yz; omega, rfl, rfl⟩
  · exact .inl ⟨fun yz => by unfold okW at yz; omega, rfl, rfl⟩
  · exact .inl ⟨fun yz => by unfold okW at yz; omega, rfl, rfl⟩
  · exact .inl ⟨fun yz => by unfold okW at yz; omega, rfl, rfl⟩
  · have ho : okW yw yf := ⟨yq1, yq2, yq3, yq4, yq5⟩
    refine Pa.mono (c_comp (yn := yn) (by omega) (by omega) yhb N) (fun yu A1 hu => ?_)
    rcases hu with ⟨yd, ds, ye1, ye2, rfl, rfl⟩ | ⟨yd, s', q', c', ye1, ye2, rfl, rfl⟩
    · refine bx_tx1 yw yf (-1) (fun _ => ?_) (fun yz => absurd yz wo_m1)
      have yrd : ∀ yc yj, yc ≠ 35 → yc ≠ 37 → (uI (rW yA (Int32.ofNat yd) (Int32.ofNat ds.length) 1 (apd (yA.1 37) 0 ds)) 35 2 0).1 yc yj = yA.1 yc yj := fun yc yj yp1 yp2 => by
        unfold rW
        rw [uI_c yp1, uF_c yp2, uI_c yp1, uI_c yp1, uI_c yp1]
      rw [show (rW yA (Int32.ofNat yd) (Int32.ofNat ds.length) 1 (apd (yA.1 37) 0 ds)).1 0 10 = yA.1 0 10 from by unfold rW; rw [uF_c (by decide), uI_c (by decide), uI_c (by decide), uI_c (by decide)]]
      refine Pa.mono (c_addT N _ ds.length (yA.1 38 7).toInt.toNat yw (yA.1 0 10) yf (by omega) (by omega) (by unfold rW; rw [uI_k (by decide), uF_c (by decide), uI_k (by decide), uI_h]) (by rw [yrd 38 7 (by decide) (by decide)]; exact (i32_of h2).symm)) (fun yu A1 hu => ?_)
      obtain ⟨yv, yg, ye3, rfl, rfl, ye4, ye5⟩ := hu
      refine Pa.iret (by rfl) ?_
      have a37 : ∀ yj, (uI (rW yA (Int32.ofNat yd) (Int32.ofNat ds.length) 1 (apd (yA.1 37) 0 ds)) 35 2 0).1 37 yj = apd (yA.1 37) 0 ds yj := fun yj => by
        unfold rW
        rw [uI_c (by decide), uF_h]
      have ap : ∀ yj, yj < ds.length → apd (yA.1 37) 0 ds yj = ds.getD yj 0 := fun yj hj => by
        unfold apd
        rw [if_pos ⟨Nat.zero_le _, by omega⟩, Nat.sub_zero]
      refine .inr (.inr (.inr ⟨ho, yq6, yd, ds, yv, yg, ye1, by omega, ye3, by rw [i32_of h2], rfl, fun yj hj => ?_, fun ⟨yq, z1, z2⟩ => ye5 ⟨yq, z1, ?_⟩⟩))
      · rw [ye4 yj hj, a37, ap yj hj]
      · rw [a37, ap yq z1]
        exact z2
    · refine bx_tx1 yw yf (Int32.ofNat yd) (fun yz => absurd yz (on_nn yd (by omega))) (fun _ => ?_)
      exact .inr (.inr (.inl ⟨ho, yq6, yd, s', q', c', ye1, by omega, rfl, rfl⟩))
  · exact .inr (.inl ⟨⟨yq1, yq2, yq3, yq4, yq5⟩, yq6, rfl, rfl⟩)
/-! the reference -/
theorem tx_loop (yn yi : Nat) (hn : yn ≤ 160) (yhi : yi < 20) (yw yf yx : Int32) : ∀ (N yj : Nat) (yA : AW) (yc : Nat → Int32), yj ≤ yn → yA.1 69 45 = Int32.ofNat yi → (∀ yk, yc yk = if 160 * yi ≤ yk ∧ yk < 160 * yi + yn then yA.1 99 (yk - 160 * yi) else yA.1 100 yk) → (∀ yk, yk < yj → yA.1 100 (160 * yi + yk) = yA.1 99 yk) → Pa N 204 72 [(0, .ref 69), (1, .int yw), (2, .int yf), (3, .int yx), (4, .int (Int32.ofNat yn)), (5, .int (Int32.ofNat yj))] [] yA (fun yu A1 => yu = some (.int (Int32.ofNat yi)) ∧ A1 = uI (uI (uI (uI (uI (uF yA 100 yc) 101 yi (Int32.ofNat yn)) 102 yi yw) 103 yi (yA.1 69 0)) 104 yi yf) 69 45 (Int32.ofNat (yi + 1))) := by
  intro N
  induction N with
  | zero => intros; exact Pa.zero
  | succ N yih =>
    intro yj yA yc hj hi7 yhc hh
    have en : (Int32.ofNat yn).toInt = (yn : Int) := i32_nat (by omega)
    have ej : (Int32.ofNat yj).toInt = (yj : Int) := i32_nat (by omega)
    have ei : (Int32.ofNat yi).toInt = (yi : Int) := i32_nat (by omega)
    refine bm_txl yw yf yx _ _ (fun h1 h2 h3 => ?_) (fun h1 h2 h3 h4 h5 => ?_)
    · rw [en, ej] at h1
      rw [hi7, ei, Int.toNat_natCast, ← on_succ yi]
      refine ⟨by rw [on_succ yi, Int32.add_sub_cancel], ?_⟩
      have hcc : yc = yA.1 100 := by
        funext yk
        rw [yhc yk]
        by_cases ye : 160 * yi ≤ yk ∧ yk < 160 * yi + yn
        · rw [if_pos ye, ← hh (yk - 160 * yi) (by omega), show 160 * yi + (yk - 160 * yi) = yk from by omega]
        · rw [if_neg ye]
      rw [hcc, uG_self]
    · rw [en, ej] at h1
      have em : ((160 : Int32) * yA.1 69 45).toInt = 160 * (yi : Int) := by
        rw [hi7, Int32.toInt_mul, ei, show (160 : Int32).toInt = 160 from by decide]
        exact z_bm0 ⟨by show (-2147483648 : Int) ≤ _; omega, by show _ ≤ (2147483647 : Int); omega⟩
      have ea : ((160 : Int32) * yA.1 69 45 + Int32.ofNat yj).toInt = 160 * (yi : Int) + (yj : Int) := i_addx (by rw [em, ej]) (by omega) (by omega)
      rw [ea, show (160 * (yi : Int) + (yj : Int)).toNat = 160 * yi + yj from by omega, ej, Int.toNat_natCast, ← on_succ yj]
      refine Pa.mono (yih (yj + 1) (uI yA 100 (160 * yi + yj) (yA.1 99 yj)) yc (by omega) (by rw [uI_c (by decide)]; exact hi7) (fun yk => ?_) (fun yk hk => ?_)) (fun yu A1 hu => ?_)
      · rw [yhc yk, uI_c (c' := 99) (by decide)]
        by_cases ye : 160 * yi ≤ yk ∧ yk < 160 * yi + yn
        · rw [if_pos ye, if_pos ye]
        · rw [if_neg ye, if_neg ye, uI_k (by omega)]
      · rw [uI_c (c' := 99) (by decide)]
        by_cases ye : yk = yj
        · rw [ye, uI_h]
        · rw [uI_k (by omega)]
          exact hh yk (by omega)
      · obtain ⟨rfl, rfl⟩ := hu
        refine ⟨rfl, ?_⟩
        rw [uI_c (c' := 69) (by decide)]
        refine Prod.ext ?_ rfl
        funext c' k'
        simp only [uI, uF]
        repeat' split
        all_goals first
          | rfl
          | (exfalso; omega)
/-- the reference: what ytext leaves -/
def txV (yA : AW) (yn : Nat) (at' ft yop lv bl yn3 : Int32) (wh : Nat → Int32) : AW := uI (mW (woB (uI yA 69 66 (-1)) (-1) (Int32.ofNat yn)) at' ft yop lv bl yn3 wh) 69 39 0
def eTx (yw yf : Int32) (yA : AW) (yu : Option Value) (A1 : AW) : Prop := (¬ okW yw yf ∧ yu = some (.int (-1)) ∧ A1 = yA) ∨ (okW yw yf ∧ (yA.1 69 45).toInt = 20 ∧ yu = some (.int (-2)) ∧ A1 = yA) ∨ (okW yw yf ∧ (yA.1 69 45).toInt ≠ 20 ∧ ∃ yd at' ft yop lv bl yn3 wh, RT (yA.1 99) (yA.1 69 39).toInt.toNat 0 (yd, none) ∧ yd ≤ 160 ∧ yu = some (.int (-100 - Int32.ofNat yd)) ∧ A1 = txV yA (yA.1 69 39).toInt.toNat at' ft yop lv bl yn3 wh) ∨ (okW yw yf ∧ (yA.1 69 45).toInt ≠ 20 ∧ ∃ yd ds at' ft yop lv bl yn3 wh yc, RT (yA.1 99) (yA.1 69 39).toInt.toNat 0 (yd, some ds) ∧ yu = some (.int (yA.1 69 45)) ∧ (∀ yk, yc yk = if 160 * (yA.1 69 45).toInt.toNat ≤ yk ∧ yk < 160 * (yA.1 69 45).toInt.toNat + (yA.1 69 39).toInt.toNat then yA.1 99 (yk - 160 * (yA.1 69 45).toInt.toNat) else yA.1 100 yk) ∧ A1 = uI (uI (uI (uI (uI (uF (txV yA (yA.1 69 39).toInt.toNat at' ft yop lv bl yn3 wh) 100 yc) 101 (yA.1 69 45).toInt.toNat (yA.1 69 39)) 102 (yA.1 69 45).toInt.toNat yw) 103 (yA.1 69 45).toInt.toNat (yA.1 69 0)) 104 (yA.1 69 45).toInt.toNat yf) 69 45 (Int32.ofNat ((yA.1 69 45).toInt.toNat + 1)))
theorem txV_c {yA : AW} {yn : Nat} {at' ft yop lv bl yn3 : Int32} {wh : Nat → Int32} {yc yj : Nat} (h1 : yc ≠ 69) (h2 : yc ≠ 115) (h3 : yc ≠ 117) : (txV yA yn at' ft yop lv bl yn3 wh).1 yc yj = yA.1 yc yj := by
  unfold txV mW woB
  rw [uI_c h1, uF_c h2, uI_c h3, uI_c h1, uI_c h1, uI_c h1, uI_c h1, uI_c h1, uI_c h1, uI_c h1, uI_c h1]
theorem txV_69 {yA : AW} {yn : Nat} {at' ft yop lv bl yn3 : Int32} {wh : Nat → Int32} {yj : Nat} (yh : yj ≠ 39 ∧ yj ≠ 60 ∧ yj ≠ 61 ∧ yj ≠ 62 ∧ yj ≠ 63 ∧ yj ≠ 64 ∧ yj ≠ 66 ∧ yj ≠ 68) : (txV yA yn at' ft yop lv bl yn3 wh).1 69 yj = yA.1 69 yj := by
  obtain ⟨h0, h1, h2, h3, h4, h5, h6, h7⟩ := yh
  unfold txV mW woB
  rw [uI_k h0, uF_c (by decide), uI_c (by decide), uI_k h7, uI_k h6, uI_k h5, uI_k h4, uI_k h2, uI_k h3, uI_k h1, uI_k h6]
theorem e_text (N : Nat) (yA : AW) (yw yf : Int32) (h0 : 0 ≤ (yA.1 69 39).toInt) (h1 : (yA.1 69 39).toInt ≤ 160) (h2 : 0 ≤ (yA.1 69 45).toInt) (h3 : (yA.1 69 45).toInt ≤ 20) : Pa N 204 0 [(0, .ref 69), (1, .int yw), (2, .int yf)] [] yA (eTx yw yf yA) := by
  obtain ⟨yn, hn⟩ : ∃ yn, (yA.1 69 39).toInt.toNat = yn := ⟨_, rfl⟩
  have en : yA.1 69 39 = Int32.ofNat yn := by rw [← hn]; exact (i32_of h0).symm
  unfold eTx
  rw [hn]
  refine bm_tx0 yw yf (fun yq1 => ?_) (fun yq1 yq2 => ?_) (fun yq1 yq2 yq3 => ?_) (fun yq1 yq2 yq3 yq4 => ?_) (fun yq1 yq2 yq3 yq4 yq5 => ?_) (fun yq1 yq2 yq3 yq4 yq5 yq6 => ?_) (fun yq1 yq2 yq3 yq4 yq5 yq6 => ?_)
  · exact .inl ⟨fun yz => by unfold okW at yz; omega, rfl, rfl⟩
  · rw [i_div10 yq1] at yq2
    exact .inl ⟨fun yz => by unfold okW at yz; omega, rfl, rfl⟩
  · exact .inl ⟨fun yz => by unfold okW at yz; omega, rfl, rfl⟩
  · exact .inl ⟨fun yz => by unfold okW at yz; omega, rfl, rfl⟩
  · exact .inl ⟨fun yz => by unfold okW at yz; omega, rfl, rfl⟩
  · rw [i_div10 yq1] at yq2
    have ho : okW yw yf := ⟨yq1, by omega, yq3, yq4, yq5⟩
    rw [en]
    have yhm : mT (woB (uI yA 69 66 (-1)) (-1) (Int32.ofNat yn)) = yA.1 99 := by
      funext yj
      unfold mT woB
      rw [uI_k (by decide), uI_h, if_pos (by decide), uI_c (by decide), uI_c (by decide), uI_c (by decide)]
    have hl : mLoc (woB (uI yA 69 66 (-1)) (-1) (Int32.ofNat yn)) ((uI yA 69 66 (-1)).1 69 66) ((uI yA 69 66 (-1)).1 117 3) ((uI yA 69 66 (-1)).1 117 3) := ⟨fun _ => rfl, fun yz => by
      rw [uI_h] at yz
      exact absurd yz wo_m1⟩
    refine Pa.mono (m_work (yA := uI yA 69 66 (-1)) (yn := yn) (yf := -1) (by omega) (by decide) hl N) (fun yu A1 hu => ?_)
    obtain ⟨yx, at', ft, yop, lv, bl, yn3, wh, rfl, rfl, ye3, hu⟩ := hu
    have e63 : (mW (woB (uI yA 69 66 (-1)) (-1) (Int32.ofNat yn)) at' ft yop lv bl yn3 wh).1 69 63 = ft := mW_63
    have e39 : (mW (woB (uI yA 69 66 (-1)) (-1) (Int32.ofNat yn)) at' ft yop lv bl yn3 wh).1 69 39 = Int32.ofNat yn := by
      unfold mW woB
      rw [uF_c (by decide), uI_c (by decide), uI_k (by decide), uI_k (by decide), uI_k (by decide), uI_k (by decide), uI_k (by decide), uI_k (by decide), uI_k (by decide), uI_k (by decide)]
      exact en
    rw [yhm] at hu
    rcases hu with ⟨yd, ds, yp1, yp2, -⟩ | ⟨yd, yp1, yp2, yp3⟩
    · refine bm_tx1 yw yf yx (fun _ => ?_) (fun yz => by
        rw [e63, yp2] at yz
        exact absurd yz wo_m1)
      rw [e39]
      have v69 : ∀ yj, (yj ≠ 39 ∧ yj ≠ 60 ∧ yj ≠ 61 ∧ yj ≠ 62 ∧ yj ≠ 63 ∧ yj ≠ 64 ∧ yj ≠ 66 ∧ yj ≠ 68) → (txV yA yn at' ft yop lv bl yn3 wh).1 69 yj = yA.1 69 yj := fun yj => txV_69
      have v99 : ∀ yj, (txV yA yn at' ft yop lv bl yn3 wh).1 99 yj = yA.1 99 yj := fun yj => txV_c (by decide) (by decide) (by decide)
      have v100 : ∀ yj, (txV yA yn at' ft yop lv bl yn3 wh).1 100 yj = yA.1 100 yj := fun yj => txV_c (by decide) (by decide) (by decide)
      have yh := tx_loop yn (yA.1 69 45).toInt.toNat (by omega) (by omega) yw yf yx N 0 (txV yA yn at' ft yop lv bl yn3 wh) (fun yk => if 160 * (yA.1 69 45).toInt.toNat ≤ yk ∧ yk < 160 * (yA.1 69 45).toInt.toNat + yn then yA.1 99 (yk - 160 * (yA.1 69 45).toInt.toNat) else yA.1 100 yk) (Nat.zero_le _) (by rw [v69 45 (by decide)]; exact (i32_of h2).symm) (fun yk => by rw [v99, v100]) (fun yk hk => absurd hk (Nat.not_lt_zero yk))
      rw [v69 0 (by decide)] at yh
      refine Pa.mono yh (fun yu A1 hu => ?_)
      obtain ⟨rfl, rfl⟩ := hu
      exact .inr (.inr (.inr ⟨ho, yq6, yd, ds, at', ft, yop, lv, bl, yn3, wh, _, yp1, by rw [i32_of h2], fun _ => rfl, rfl⟩))
    · refine bm_tx1 yw yf yx (fun yz => ?_) (fun _ => ?_)
      · rw [e63, yp3] at yz
        exact absurd yz (on_nn yd (by omega))
      · rw [e63, yp3]
        exact .inr (.inr (.inl ⟨ho, yq6, yd, at', _, yop, lv, bl, yn3, wh, yp1, by omega, rfl, rfl⟩))
  · rw [i_div10 yq1] at yq2
    exact .inr (.inl ⟨⟨yq1, by omega, yq3, yq4, yq5⟩, yq6, rfl, rfl⟩)
/-! what the worlds behind hold -/
section TX1
variable {yA : AW} {yi yk : Nat} {yw yd yf yv ys : Int32} {yg : Nat → Int32}
theorem tx1_c {yc yj : Nat} (yh : yc < yA.2.2.2.2) (h1 : yc ≠ 38) (h2 : yc ≠ 40) (h3 : yc ≠ 41) (h4 : yc ≠ 42) (h5 : yc ≠ 43) : (tx1 yA yi yk yw yd yf yv ys yg).1 yc yj = yA.1 yc yj := by
  unfold tx1
  rw [uI_c h1, uI_c h5, uO_I, uA_c (by exact yh)]
  unfold tx0
  rw [uI_c h4, uI_c h3, uI_c h2]
theorem tx1_7 : (tx1 yA yi yk yw yd yf yv ys yg).1 38 7 = ys := by
  unfold tx1
  rw [uI_h]
theorem tx1_r {yc yj : Nat} (hn : 129 ≤ yA.2.2.2.2) (yhc : yc = 40 ∨ yc = 41 ∨ yc = 42) : (tx1 yA yi yk yw yd yf yv ys yg).1 yc yj = if yj = yi then (if yc = 40 then yw else if yc = 41 then yd else yf) else yA.1 yc yj := by
  unfold tx1
  rw [uI_c (by omega), uI_c (by omega), uO_I, uA_c (by show yc < yA.2.2.2.2; omega)]
  unfold tx0
  rcases yhc with ye | ye | ye <;> subst ye
  · rw [uI_c (by decide), uI_c (by decide), uI_row, if_pos (show (40 : Nat) = 40 from rfl)]
  · rw [uI_c (by decide), uI_row, if_neg (show ¬ (41 : Nat) = 40 by decide), if_pos (show (41 : Nat) = 41 from rfl)]
    by_cases ye : yj = yi
    · rw [if_pos ye, if_pos ye]
    · rw [if_neg ye, if_neg ye, uI_c (by decide)]
  · rw [uI_row, if_neg (show ¬ (42 : Nat) = 40 by decide), if_neg (show ¬ (42 : Nat) = 41 by decide)]
    by_cases ye : yj = yi
    · rw [if_pos ye, if_pos ye]
    · rw [if_neg ye, if_neg ye, uI_c (by decide), uI_c (by decide)]
theorem tx1_43 {yj : Nat} (hn : 129 ≤ yA.2.2.2.2) : (tx1 yA yi yk yw yd yf yv ys yg).1 43 yj = if yj = yi then yv else yA.1 43 yj := by
  unfold tx1
  rw [uI_c (by decide), uI_row]
  by_cases ye : yj = yi
  · rw [if_pos ye, if_pos ye]
  · rw [if_neg ye, if_neg ye, uO_I, uA_c (by show 43 < yA.2.2.2.2; omega)]
    unfold tx0
    rw [uI_c (by decide), uI_c (by decide), uI_c (by decide)]
theorem tx1_n {yj : Nat} (hn : 129 ≤ yA.2.2.2.2) : (tx1 yA yi yk yw yd yf yv ys yg).1 yA.2.2.2.2 yj = yg yj := by
  unfold tx1
  rw [uI_c (by omega), uI_c (by omega), uO_I]
  exact uA_h
theorem tx1_O {yj : Nat} : (tx1 yA yi yk yw yd yf yv ys yg).2.2.1 39 yj = if yj = yi then some yA.2.2.2.2 else yA.2.2.1 39 yj := by
  show (if 39 = 39 ∧ yj = yi then some yA.2.2.2.2 else yA.2.2.1 39 yj) = _
  by_cases ye : yj = yi
  · rw [if_pos ⟨rfl, ye⟩, if_pos ye]
  · rw [if_neg (fun yq => ye yq.2), if_neg ye]
theorem tx1_N {yc : Nat} : (tx1 yA yi yk yw yd yf yv ys yg).2.2.2.1 yc = if yc = yA.2.2.2.2 then yk else yA.2.2.2.1 yc := rfl
theorem tx1_L : (tx1 yA yi yk yw yd yf yv ys yg).2.2.2.2 = yA.2.2.2.2 + 1 := rfl
end TX1
/-- the world of ya tape read -/
def txW (yA : AW) (ya ys yq : Int32) (yc : Nat → Int32) : AW := uI (rW yA ya ys yq yc) 35 2 0
theorem txW_c {yA : AW} {ya ys yq : Int32} {yc : Nat → Int32} {yb yj : Nat} (h1 : yb ≠ 35) (h2 : yb ≠ 37) : (txW yA ya ys yq yc).1 yb yj = yA.1 yb yj := by
  unfold txW rW
  rw [uI_c h1, uF_c h2, uI_c h1, uI_c h1, uI_c h1]
theorem txW_2 {yA : AW} {ya ys yq : Int32} {yc : Nat → Int32} : (txW yA ya ys yq yc).1 35 2 = 0 := uI_h
/-- the reference's world behind ya ytext yput in -/
def tx9 (yB : AW) (yi : Nat) (yn yw yd yf ys : Int32) (yc : Nat → Int32) : AW := uI (uI (uI (uI (uI (uF yB 100 yc) 101 yi yn) 102 yi yw) 103 yi yd) 104 yi yf) 69 45 ys
section TX9
variable {yB : AW} {yi : Nat} {yn yw yd yf ys : Int32} {yc : Nat → Int32}
theorem tx9_c {yb yj : Nat} (h0 : yb ≠ 69) (h1 : yb ≠ 100) (h2 : yb ≠ 101) (h3 : yb ≠ 102) (h4 : yb ≠ 103) (h5 : yb ≠ 104) : (tx9 yB yi yn yw yd yf ys yc).1 yb yj = yB.1 yb yj := by
  unfold tx9
  rw [uI_c h0, uI_c h5, uI_c h4, uI_c h3, uI_c h2, uF_c h1]
theorem tx9_69 {yj : Nat} (yh : yj ≠ 45) : (tx9 yB yi yn yw yd yf ys yc).1 69 yj = yB.1 69 yj := by
  unfold tx9
  rw [uI_k yh, uI_c (by decide), uI_c (by decide), uI_c (by decide), uI_c (by decide), uF_c (by decide)]
theorem tx9_45 : (tx9 yB yi yn yw yd yf ys yc).1 69 45 = ys := uI_h
theorem tx9_100 {yj : Nat} : (tx9 yB yi yn yw yd yf ys yc).1 100 yj = yc yj := by
  unfold tx9
  rw [uI_c (by decide), uI_c (by decide), uI_c (by decide), uI_c (by decide), uI_c (by decide), uF_h]
theorem tx9_r {yb yj : Nat} (yhb : yb = 101 ∨ yb = 102 ∨ yb = 103 ∨ yb = 104) : (tx9 yB yi yn yw yd yf ys yc).1 yb yj = if yj = yi then (if yb = 101 then yn else if yb = 102 then yw else if yb = 103 then yd else yf) else yB.1 yb yj := by
  unfold tx9
  rw [uI_c (by omega)]
  rcases yhb with ye | ye | ye | ye <;> subst ye
  · rw [uI_c (by decide), uI_c (by decide), uI_c (by decide), uI_row, if_pos (show (101 : Nat) = 101 from rfl), uF_c (by decide)]
  · rw [uI_c (by decide), uI_c (by decide), uI_row, if_neg (show ¬ (102 : Nat) = 101 by decide), if_pos (show (102 : Nat) = 102 from rfl)]
    by_cases ye : yj = yi
    · rw [if_pos ye, if_pos ye]
    · rw [if_neg ye, if_neg ye, uI_c (by decide), uF_c (by decide)]
  · rw [uI_c (by decide), uI_row, if_neg (show ¬ (103 : Nat) = 101 by decide), if_neg (show ¬ (103 : Nat) = 102 by decide), if_pos (show (103 : Nat) = 103 from rfl)]
    by_cases ye : yj = yi
    · rw [if_pos ye, if_pos ye]
    · rw [if_neg ye, if_neg ye, uI_c (by decide), uI_c (by decide), uF_c (by decide)]
  · rw [uI_row, if_neg (show ¬ (104 : Nat) = 101 by decide), if_neg (show ¬ (104 : Nat) = 102 by decide), if_neg (show ¬ (104 : Nat) = 103 by decide)]
    by_cases ye : yj = yi
    · rw [if_pos ye, if_pos ye]
    · rw [if_neg ye, if_neg ye, uI_c (by decide), uI_c (by decide), uI_c (by decide), uF_c (by decide)]
end TX9
theorem txV_39 {yA : AW} {yn : Nat} {at' ft yop lv bl yn3 : Int32} {wh : Nat → Int32} : (txV yA yn at' ft yop lv bl yn3 wh).1 69 39 = 0 := uI_h
/-- where the tape alone is gone -/
theorem tx_gone {yA yB : AW} (hF : eqF Ft yA) (hR : eqRs Art yA) (hX : RXt yA) (h1 : ∀ yc yj, yc ≠ 35 → yc ≠ 37 → yc ≠ 69 → yc ≠ 115 → yc ≠ 117 → yB.1 yc yj = yA.1 yc yj) (h2 : yB.1 35 2 = 0) (h3 : yB.1 69 39 = 0) (h4 : yB.1 69 45 = yA.1 69 45) (h5 : yB.1 69 0 = yA.1 69 0) (h6 : yB.2 = yA.2) : eqF Ft yB ∧ eqRs Art yB ∧ RXt yB := by
  refine ⟨?_, ?_, fun yj hj => ?_, fun yi yhi => ?_⟩
  · intro yq hq
    have hq0 := hF yq hq
    simp only [Ft, List.mem_cons, List.not_mem_nil, or_false] at hq
    rcases hq with rfl | rfl | rfl
    · show yB.1 38 7 = yB.1 69 45
      rw [h1 38 7 (by decide) (by decide) (by decide) (by decide) (by decide), h4]
      exact hq0
    · show yB.1 35 2 = yB.1 69 39
      rw [h2, h3]
    · show yB.1 0 10 = yB.1 69 0
      rw [h1 0 10 (by decide) (by decide) (by decide) (by decide) (by decide), h5]
      exact hq0
  · intro yq hq yk hk yj hj
    have hq0 := hR yq hq yk hk yj hj
    simp only [Art, List.mem_cons, List.not_mem_nil, or_false] at hq
    rcases hq with rfl | rfl | rfl | rfl
    · show yB.1 40 yj = yB.1 102 yj
      rw [h1 40 yj (by decide) (by decide) (by decide) (by decide) (by decide), h1 102 yj (by decide) (by decide) (by decide) (by decide) (by decide)]
      exact hq0
    · show yB.1 41 yj = yB.1 103 yj
      rw [h1 41 yj (by decide) (by decide) (by decide) (by decide) (by decide), h1 103 yj (by decide) (by decide) (by decide) (by decide) (by decide)]
      exact hq0
    · show yB.1 42 yj = yB.1 104 yj
      rw [h1 42 yj (by decide) (by decide) (by decide) (by decide) (by decide), h1 104 yj (by decide) (by decide) (by decide) (by decide) (by decide)]
      exact hq0
    · show yB.1 36 yj = yB.1 99 yj
      rw [h1 36 yj (by decide) (by decide) (by decide) (by decide) (by decide), h1 99 yj (by decide) (by decide) (by decide) (by decide) (by decide)]
      exact hq0
  · rw [h1 36 yj (by decide) (by decide) (by decide) (by decide) (by decide)]
    exact hX.1 yj hj
  · have yhT : tT yB = tT yA := by unfold tT; rw [h4]
    rw [yhT] at yhi
    obtain ⟨ya, n', yd, ds, yr1, r2, r3, r4, yr5, r6, r7, r8, r9, r10⟩ := hX.2 yi yhi
    refine ⟨ya, n', yd, ds, by rw [h6]; exact yr1, r2, by rw [h6]; exact r3, by rw [h1 101 yi (by decide) (by decide) (by decide) (by decide) (by decide)]; exact r4, yr5, RT_cg (fun yj _ => ?_) r6, r7, by rw [h6]; exact r8, fun yj hj => ?_, fun yq => ?_⟩
    · exact (h1 100 _ (by decide) (by decide) (by decide) (by decide) (by decide)).symm
    · rw [h1 ya yj (by omega) (by omega) (by omega) (by omega) (by omega)]
      exact r9 yj hj
    · rw [h1 43 yi (by decide) (by decide) (by decide) (by decide) (by decide)]
      exact r10 yq
theorem k_text {yA A1 A2 : AW} {yw yf yx yy : Int32} (hA : okA yA) (hF : eqF Ft yA) (hR : eqRs Art yA) (hX : RXt yA) (ys1 : dTx yw yf yA (some (.int yx)) A1) (ys2 : eTx yw yf A1 (some (.int yy)) A2) : eqF Ft A2 ∧ eqRs Art A2 ∧ RXt A2 ∧ yx = yy := by
  have yf1 : yA.1 38 7 = yA.1 69 45 := hF ((38, 7), (69, 45)) (by simp [Ft])
  have yf2 : yA.1 35 2 = yA.1 69 39 := hF ((35, 2), (69, 39)) (by simp [Ft])
  have yf3 : yA.1 0 10 = yA.1 69 0 := hF ((0, 10), (69, 0)) (by simp [Ft])
  have g1 := hA.fld (i := 69) (k := 45) (lo := 0) (hi := 20) (by decide +kernel)
  have g2 := hA.fld (i := 69) (k := 39) (lo := 0) (hi := 160) (by decide +kernel)
  have r99 : ∀ yj, yj < (yA.1 69 39).toInt.toNat → yA.1 99 yj = yA.1 36 yj := fun yj hj => (hR (36, 99) (by simp [Art]) 160 (by decide +kernel) yj (by omega)).symm
  unfold dTx at ys1
  rw [yf1, yf2] at ys1
  rcases ys1 with ⟨ya1, a2, rfl⟩ | ⟨ya1, a2, a3, rfl⟩ | ⟨ya1, a2, yd, s', q', c', a3, a4, a5, a6⟩ | ⟨ya1, a2, yd, ds, yv, yg, a3, a4, a5, a6, a7, a8, a9⟩
  · rcases ys2 with ⟨b1, b2, rfl⟩ | ⟨b1, b2, b3, rfl⟩ | ⟨b1, -⟩ | ⟨b1, -⟩
    · exact ⟨hF, hR, hX, by rw [some_int a2, some_int b2]⟩
    · exact absurd b1 ya1
    · exact absurd b1 ya1
    · exact absurd b1 ya1
  · rcases ys2 with ⟨b1, b2, rfl⟩ | ⟨b1, b2, b3, rfl⟩ | ⟨b1, b2, -⟩ | ⟨b1, b2, -⟩
    · exact absurd ya1 b1
    · exact ⟨hF, hR, hX, by rw [some_int a3, some_int b3]⟩
    · omega
    · omega
  · have ye1 : A1 = txW yA (Int32.ofNat yd) s' q' c' := a6
    have ylo : ∀ yc yj, yc ≠ 35 → yc ≠ 37 → A1.1 yc yj = yA.1 yc yj := fun yc yj yp1 yp2 => by rw [ye1]; exact txW_c yp1 yp2
    have ye2 : A1.2 = yA.2 := by rw [ye1]; rfl
    have e35 : A1.1 35 2 = 0 := by rw [ye1]; exact txW_2
    have l99 : A1.1 99 = yA.1 99 := funext fun yj => ylo 99 yj (by decide) (by decide)
    unfold eTx at ys2
    rw [ylo 69 45 (by decide) (by decide), ylo 69 39 (by decide) (by decide), l99] at ys2
    rcases ys2 with ⟨b1, -⟩ | ⟨b1, b2, -⟩ | ⟨b1, b2, yd2, at', ft, yop, lv, bl, yn3, wh, b3, b4, b5, rfl⟩ | ⟨b1, b2, yd2, ds, at', ft, yop, lv, bl, yn3, wh, yc, b3, -⟩
    · exact absurd ya1 b1
    · omega
    · have yhd := RT.one a3 (RT_cg r99 b3)
      obtain ⟨yq1, yq2, yq3⟩ := tx_gone (yB := txV A1 (yA.1 69 39).toInt.toNat at' ft yop lv bl yn3 wh) hF hR hX (fun yc yj yp1 yp2 yp3 yp4 yp5 => by rw [txV_c yp3 yp4 yp5, ylo yc yj yp1 yp2]) (by rw [txV_c (by decide) (by decide) (by decide)]; exact e35) txV_39 (by rw [txV_69 (by decide), ylo 69 45 (by decide) (by decide)]) (by rw [txV_69 (by decide), ylo 69 0 (by decide) (by decide)]) ye2
      refine ⟨yq1, yq2, yq3, ?_⟩
      have := (Prod.mk.inj yhd).1
      rw [some_int a5, some_int b5, this]
    · have yhd := RT.one a3 (RT_cg r99 b3)
      exact absurd (Prod.mk.inj yhd).2 (by intro yq; cases yq)
  · have hn : (txW yA (Int32.ofNat yd) (Int32.ofNat ds.length) 1 (apd (yA.1 37) 0 ds)).2.2.2.2 = yA.2.2.2.2 := rfl
    obtain ⟨yi, yhi⟩ : ∃ yi, (yA.1 69 45).toInt.toNat = yi := ⟨_, rfl⟩
    obtain ⟨yn, yhnn⟩ : ∃ yn, (yA.1 69 39).toInt.toNat = yn := ⟨_, rfl⟩
    have en : yA.1 69 39 = Int32.ofNat yn := by rw [← yhnn]; exact (i32_of g2.1).symm
    rw [yhi] at a7
    have ye1 : A1 = tx1 (txW yA (Int32.ofNat yd) (Int32.ofNat ds.length) 1 (apd (yA.1 37) 0 ds)) yi ds.length yw (yA.1 0 10) yf yv (Int32.ofNat (yi + 1)) yg := a7
    have ylo : ∀ yc yj, yc < yA.2.2.2.2 → yc ≠ 35 → yc ≠ 37 → yc ≠ 38 → yc ≠ 40 → yc ≠ 41 → yc ≠ 42 → yc ≠ 43 → A1.1 yc yj = yA.1 yc yj := fun yc yj yp0 yp1 yp2 yp3 yp4 yp5 yp6 yp7 => by
      rw [ye1, tx1_c (by exact yp0) yp3 yp4 yp5 yp6 yp7]
      exact txW_c yp1 yp2
    have x7 : A1.1 38 7 = Int32.ofNat (yi + 1) := by rw [ye1]; exact tx1_7
    have x35 : A1.1 35 2 = 0 := by
      rw [ye1, tx1_c (by show 35 < yA.2.2.2.2; omega) (by decide) (by decide) (by decide) (by decide) (by decide)]
      exact txW_2
    have xr : ∀ yc yj, (yc = 40 ∨ yc = 41 ∨ yc = 42) → A1.1 yc yj = if yj = yi then (if yc = 40 then yw else if yc = 41 then yA.1 0 10 else yf) else yA.1 yc yj := fun yc yj yhc => by
      rw [ye1, tx1_r (by exact a5) yhc, txW_c (by omega) (by omega)]
    have x43 : ∀ yj, A1.1 43 yj = if yj = yi then yv else yA.1 43 yj := fun yj => by
      rw [ye1, tx1_43 (by exact a5), txW_c (by decide) (by decide)]
    have xn : ∀ yj, A1.1 yA.2.2.2.2 yj = yg yj := fun yj => by
      rw [ye1]
      exact tx1_n (yA := txW yA (Int32.ofNat yd) (Int32.ofNat ds.length) 1 (apd (yA.1 37) 0 ds)) a5
    have xO : ∀ yj, A1.2.2.1 39 yj = if yj = yi then some yA.2.2.2.2 else yA.2.2.1 39 yj := fun yj => by
      rw [ye1]
      exact tx1_O
    have yxN : ∀ yc, A1.2.2.2.1 yc = if yc = yA.2.2.2.2 then ds.length else yA.2.2.2.1 yc := fun yc => by
      rw [ye1]
      exact tx1_N
    have xL : A1.2.2.2.2 = yA.2.2.2.2 + 1 := by
      rw [ye1]
      exact tx1_L
    have lo9 : ∀ yc yj, 69 ≤ yc → yc < 129 → A1.1 yc yj = yA.1 yc yj := fun yc yj yp0 yp1 => ylo yc yj (by omega) (by omega) (by omega) (by omega) (by omega) (by omega) (by omega) (by omega)
    have l99 : A1.1 99 = yA.1 99 := funext fun yj => lo9 99 yj (by decide) (by decide)
    have l100 : A1.1 100 = yA.1 100 := funext fun yj => lo9 100 yj (by decide) (by decide)
    unfold eTx at ys2
    rw [lo9 69 45 (by decide) (by decide), lo9 69 39 (by decide) (by decide), lo9 69 0 (by decide) (by decide), l99, l100, yhi, yhnn] at ys2
    rw [yhnn] at a3 r99
    clear ye1 a7 hn
    rcases ys2 with ⟨b1, -⟩ | ⟨b1, b2, -⟩ | ⟨b1, b2, yd2, at', ft, yop, lv, bl, yn3, wh, b3, -⟩ | ⟨b1, b2, yd2, ds2, at', ft, yop, lv, bl, yn3, wh, yc, b3, b5, b4, b6⟩
    · exact absurd ya1 b1
    · omega
    · have yhd := RT.one a3 (RT_cg r99 b3)
      exact absurd (Prod.mk.inj yhd).2 (by intro yq; cases yq)
    · have eB : A2 = tx9 (txV A1 yn at' ft yop lv bl yn3 wh) yi (yA.1 69 39) yw (yA.1 69 0) yf (Int32.ofNat (yi + 1)) yc := b6
      have z0 : ∀ yb yj, yb ≠ 69 → yb ≠ 100 → yb ≠ 101 → yb ≠ 102 → yb ≠ 103 → yb ≠ 104 → yb ≠ 115 → yb ≠ 117 → A2.1 yb yj = A1.1 yb yj := fun yb yj yp0 yp1 yp2 yp3 yp4 yp5 yp6 yp7 => by
        rw [eB, tx9_c yp0 yp1 yp2 yp3 yp4 yp5]
        exact txV_c yp0 yp6 yp7
      have yz45 : A2.1 69 45 = Int32.ofNat (yi + 1) := by rw [eB]; exact tx9_45
      have z39 : A2.1 69 39 = 0 := by rw [eB, tx9_69 (by decide)]; exact txV_39
      have z00 : A2.1 69 0 = yA.1 69 0 := by rw [eB, tx9_69 (by decide), txV_69 (by decide)]; exact lo9 69 0 (by decide) (by decide)
      have z100 : ∀ yj, A2.1 100 yj = yc yj := fun yj => by rw [eB]; exact tx9_100
      have zr : ∀ yb yj, (yb = 101 ∨ yb = 102 ∨ yb = 103 ∨ yb = 104) → A2.1 yb yj = if yj = yi then (if yb = 101 then yA.1 69 39 else if yb = 102 then yw else if yb = 103 then yA.1 69 0 else yf) else yA.1 yb yj := fun yb yj yhb => by
        rw [eB, tx9_r yhb, txV_c (by omega) (by omega) (by omega), lo9 yb yj (by omega) (by omega)]
      have z2 : A2.2 = A1.2 := by rw [eB]; rfl
      clear eB b6
      have hi20 : yi < 20 := by omega
      refine ⟨?_, ?_, ⟨fun yj hj => ?_, fun i' hi' => ?_⟩, by rw [some_int a6, some_int b5]⟩
      · intro yq hq
        simp only [Ft, List.mem_cons, List.not_mem_nil, or_false] at hq
        rcases hq with rfl | rfl | rfl
        · show A2.1 38 7 = A2.1 69 45
          rw [z0 38 7 (by decide) (by decide) (by decide) (by decide) (by decide) (by decide) (by decide) (by decide), x7, yz45]
        · show A2.1 35 2 = A2.1 69 39
          rw [z0 35 2 (by decide) (by decide) (by decide) (by decide) (by decide) (by decide) (by decide) (by decide), x35, z39]
        · show A2.1 0 10 = A2.1 69 0
          rw [z0 0 10 (by decide) (by decide) (by decide) (by decide) (by decide) (by decide) (by decide) (by decide), ylo 0 10 (by omega) (by decide) (by decide) (by decide) (by decide) (by decide) (by decide) (by decide), z00]
          exact yf3
      · intro yq hq yk hk yj hj
        have hq0 := hR yq hq yk hk yj hj
        simp only [Art, List.mem_cons, List.not_mem_nil, or_false] at hq
        rcases hq with rfl | rfl | rfl | rfl
        · show A2.1 40 yj = A2.1 102 yj
          rw [z0 40 yj (by decide) (by decide) (by decide) (by decide) (by decide) (by decide) (by decide) (by decide), xr 40 yj (by decide), zr 102 yj (by decide), if_pos (show (40 : Nat) = 40 from rfl), if_neg (show ¬ (102 : Nat) = 101 by decide), if_pos (show (102 : Nat) = 102 from rfl), show yA.1 40 yj = yA.1 102 yj from hq0]
        · show A2.1 41 yj = A2.1 103 yj
          rw [z0 41 yj (by decide) (by decide) (by decide) (by decide) (by decide) (by decide) (by decide) (by decide), xr 41 yj (by decide), zr 103 yj (by decide), if_neg (show ¬ (41 : Nat) = 40 by decide), if_pos (show (41 : Nat) = 41 from rfl), if_neg (show ¬ (103 : Nat) = 101 by decide), if_neg (show ¬ (103 : Nat) = 102 by decide), if_pos (show (103 : Nat) = 103 from rfl), yf3, show yA.1 41 yj = yA.1 103 yj from hq0]
        · show A2.1 42 yj = A2.1 104 yj
          rw [z0 42 yj (by decide) (by decide) (by decide) (by decide) (by decide) (by decide) (by decide) (by decide), xr 42 yj (by decide), zr 104 yj (by decide), if_neg (show ¬ (42 : Nat) = 40 by decide), if_neg (show ¬ (42 : Nat) = 41 by decide), if_neg (show ¬ (104 : Nat) = 101 by decide), if_neg (show ¬ (104 : Nat) = 102 by decide), if_neg (show ¬ (104 : Nat) = 103 by decide), show yA.1 42 yj = yA.1 104 yj from hq0]
        · show A2.1 36 yj = A2.1 99 yj
          rw [z0 36 yj (by decide) (by decide) (by decide) (by decide) (by decide) (by decide) (by decide) (by decide), ylo 36 yj (by omega) (by decide) (by decide) (by decide) (by decide) (by decide) (by decide) (by decide), z0 99 yj (by decide) (by decide) (by decide) (by decide) (by decide) (by decide) (by decide) (by decide), lo9 99 yj (by decide) (by decide)]
          exact hq0
      · rw [z0 36 yj (by decide) (by decide) (by decide) (by decide) (by decide) (by decide) (by decide) (by decide), ylo 36 yj (by omega) (by decide) (by decide) (by decide) (by decide) (by decide) (by decide) (by decide)]
        exact hX.1 yj hj
      · have yhT : tT A2 = yi + 1 := by
          unfold tT
          rw [yz45, i32_nat (by omega)]
          omega
        rw [yhT] at hi'
        have yz43 : ∀ yj, A2.1 43 yj = if yj = yi then yv else yA.1 43 yj := fun yj => by
          rw [z0 43 yj (by decide) (by decide) (by decide) (by decide) (by decide) (by decide) (by decide) (by decide)]
          exact x43 yj
        by_cases ye : i' = yi
        · subst ye
          have yhd := RT.one a3 (RT_cg r99 b3)
          have hds : ds = ds2 := by
            have := (Prod.mk.inj yhd).2
            injection this
          refine ⟨yA.2.2.2.2, yn, yd, ds, by rw [z2, xO, if_pos rfl], a5, by rw [z2, xL]; omega, by rw [zr 101 i' (by decide), if_pos (show i' = i' from rfl), if_pos (show (101 : Nat) = 101 from rfl)]; exact en, by omega, RT_cg (fun yj hj => ?_) a3, a4, by rw [z2, yxN, if_pos rfl], fun yj hj => ?_, fun yq => ?_⟩
          · rw [z100, b4, if_pos (by omega), show 160 * i' + yj - 160 * i' = yj from by omega]
            exact (r99 yj hj).symm
          · rw [z0 _ yj (by omega) (by omega) (by omega) (by omega) (by omega) (by omega) (by omega) (by omega), xn]
            exact a8 yj hj
          · rw [yz43, if_pos rfl]
            exact a9 yq
        · obtain ⟨ya, n', d', es, yr1, r2, r3, r4, yr5, r6, r7, r8, r9, r10⟩ := hX.2 i' (by unfold tT; omega)
          refine ⟨ya, n', d', es, by rw [z2, xO, if_neg ye]; exact yr1, r2, by rw [z2, xL]; omega, by rw [zr 101 i' (by decide), if_neg ye]; exact r4, yr5, RT_cg (fun yj hj => ?_) r6, r7, by rw [z2, yxN, if_neg (by omega)]; exact r8, fun yj hj => ?_, fun yq => ?_⟩
          · show yA.1 100 (160 * i' + yj) = A2.1 100 (160 * i' + yj)
            rw [z100, b4, if_neg (by omega)]
          · rw [z0 ya yj (by omega) (by omega) (by omega) (by omega) (by omega) (by omega) (by omega) (by omega), ylo ya yj (by omega) (by omega) (by omega) (by omega) (by omega) (by omega) (by omega) (by omega)]
            exact r9 yj hj
          · rw [yz43, if_neg ye]
            exact r10 yq
theorem h_text {yp : zPr} (hp : yp.1 = 119 ∧ yp.2.1 = 204 ∧ yp.2.2.1 = 2) (yhc : c_rm yp = true) : PairOK (RR Ft Art RXt) yp := by
  obtain ⟨yp1, yp2, yp3⟩ := hp
  refine pairK2 (D := on2 dTx) (E := on2 eTx) (by decide +kernel) (by decide +kernel) yhc (fun N yA yas o hF _ hX hl => ?_) (fun N yA A1 yas yx o o1 hF _ hX hl ys1 => ?_) (fun yA A1 A2 yas yx yy o _ _ hF hR hX hl ys1 ys2 => ?_)
  · rw [yp3] at hl
    obtain ⟨ya, yb, rfl⟩ := as2 hl
    have yg := o.fld (i := 35) (k := 2) (lo := 0) (hi := 160) (by decide +kernel)
    have g2 := o.fld (i := 38) (k := 7) (lo := 0) (hi := 20) (by decide +kernel)
    rw [yp1]
    exact d_text N yA ya yb yg.1 yg.2 g2.1 hX.1
  · rw [yp3] at hl
    obtain ⟨ya, yb, rfl⟩ := as2 hl
    have yg := o1.fld (i := 69) (k := 39) (lo := 0) (hi := 160) (by decide +kernel)
    have g2 := o1.fld (i := 69) (k := 45) (lo := 0) (hi := 20) (by decide +kernel)
    rw [yp2]
    exact e_text N A1 ya yb yg.1 yg.2 g2.1 g2.2
  · rw [yp3] at hl
    obtain ⟨ya, yb, rfl⟩ := as2 hl
    obtain ⟨yq1, yq2, yq3, yq4⟩ := k_text o hF hR hX ys1 ys2
    exact ⟨yq1, yq2, yq3, fun _ => yq4⟩
