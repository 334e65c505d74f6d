/-! COIN, COINON -/
theorem bx_cof0 {N : Nat} {yA : AW} {yQ : Option Value → AW → Prop} (l yd : Int32)
    (l1 : l.toInt < 0 → Pa N 62 36 [(0, .ref 20), (1, .int l), (2, .int yd), (3, .int 1000), (4, .int (-1)), (5, .int (l * 20)), (6, .int 0), (7, .int (l * 20))] [] yA yQ)
    (l2 : 0 ≤ l.toInt → 5 < l.toInt → Pa N 62 36 [(0, .ref 20), (1, .int l), (2, .int yd), (3, .int 1000), (4, .int (-1)), (5, .int (l * 20)), (6, .int 0), (7, .int (l * 20))] [] yA yQ)
    (l3 : 0 ≤ l.toInt → l.toInt ≤ 5 → l.toInt < 6 → Pa N 62 36 [(0, .ref 20), (1, .int l), (2, .int yd), (3, .int 1000), (4, .int (-1)), (5, .int (l * 20)), (6, .int (yA.1 23 l.toInt.toNat)), (7, .int (l * 20))] [] yA yQ) :
    Pa N 62 0 [(0, .ref 20), (1, .int l), (2, .int yd)] [] yA yQ := by
  refine Pa.ic (x := 1000) (pc' := 3) (by rfl) (by rfl) (by decide) ?_
  refine Pa.mp 1 (pc' := 4) (l' := [(3, .int 1000), (0, .ref 20), (1, .int l), (2, .int yd)]) (st' := []) (by rfl) ?_
  refine Pa.ic (x := (-1)) (pc' := 5) (by rfl) (by rfl) (by decide) ?_
  refine Pa.mp 2 (pc' := 8) (l' := [(4, .int (-1)), (3, .int 1000), (0, .ref 20), (1, .int l), (2, .int yd)]) (st' := [.int l]) (by rfl) ?_
  refine Pa.ic (x := 20) (pc' := 10) (by rfl) (by rfl) (by decide) ?_
  refine Pa.mp 3 (pc' := 14) (l' := [(5, .int (l * 20)), (4, .int (-1)), (3, .int 1000), (0, .ref 20), (1, .int l), (2, .int yd)]) (st' := [.int l]) (by rfl) ?_
  refine Pa.ist (by rfl) (by rfl) (.inr rfl) (by rfl) (by rfl) ?_
  show Pa N 147 0 [(0, .int l)] [] yA _
  refine Pa.mp 1 (pc' := 1) (l' := [(0, .int l)]) (st' := [.int l]) (by rfl) ?_
  refine Pa.ic (x := 0) (pc' := 2) (by rfl) (by rfl) (by decide) ?_
  refine Pa.ic (x := 5) (pc' := 3) (by rfl) (by rfl) (by decide) ?_
  refine Pa.ist (by rfl) (by rfl) (.inl rfl) (by rfl) (by rfl) ?_
  show Pa N 146 0 [(0, .int l), (1, .int 0), (2, .int 5)] [] yA _
  refine Pa.mp 2 (pc' := 2) (l' := [(0, .int l), (1, .int 0), (2, .int 5)]) (st' := [.int 0, .int l]) (by rfl) ?_
  refine Pa.if2 (a := l.toInt) (b := 0) (t := 14) (by rfl) (by rfl) (rfl) (by decide) (fun h1 => ?_) (fun h2 => ?_)
  · have h1 : l.toInt < 0 := h1
    refine Pa.ic (x := 0) (pc' := 15) (by rfl) (by rfl) (by decide) ?_
    refine Pa.iret (by rfl) ?_
    show Pa N 147 6 [(0, .int l)] [.int 0] yA _
    refine Pa.iret (by rfl) ?_
    show Pa N 62 17 [(5, .int (l * 20)), (4, .int (-1)), (3, .int 1000), (0, .ref 20), (1, .int l), (2, .int yd)] [.int 0] yA _
    refine Pa.if1k true (by rfl) (by rfl) (by decide) ?_
    show Pa N 62 29 [(5, .int (l * 20)), (4, .int (-1)), (3, .int 1000), (0, .ref 20), (1, .int l), (2, .int yd)] [] yA _
    refine Pa.ic (x := 0) (pc' := 30) (by rfl) (by rfl) (by decide) ?_
    refine Pa.mp 3 (pc' := 36) (l' := [(7, .int (l * 20)), (6, .int 0), (5, .int (l * 20)), (4, .int (-1)), (3, .int 1000), (0, .ref 20), (1, .int l), (2, .int yd)]) (st' := []) (by rfl) ?_
    refine Pa.lv (l' := [(0, .ref 20), (1, .int l), (2, .int yd), (3, .int 1000), (4, .int (-1)), (5, .int (l * 20)), (6, .int 0), (7, .int (l * 20))]) (lvS_c rfl (lvS_c rfl (lvS_c rfl (lvS_c rfl (lvS_c rfl (lvS_c rfl (lvS_c rfl (lvS_c rfl (lvS_nil))))))))) rfl ?_
    exact l1 h1
  · have h2 : 0 ≤ l.toInt := h2
    refine Pa.mp 2 (pc' := 7) (l' := [(0, .int l), (1, .int 0), (2, .int 5)]) (st' := [.int 5, .int l]) (by rfl) ?_
    refine Pa.if2 (a := l.toInt) (b := 5) (t := 14) (by rfl) (by rfl) (rfl) (by decide) (fun h3 => ?_) (fun h4 => ?_)
    · have h3 : 5 < l.toInt := h3
      refine Pa.ic (x := 0) (pc' := 15) (by rfl) (by rfl) (by decide) ?_
      refine Pa.iret (by rfl) ?_
      show Pa N 147 6 [(0, .int l)] [.int 0] yA _
      refine Pa.iret (by rfl) ?_
      show Pa N 62 17 [(5, .int (l * 20)), (4, .int (-1)), (3, .int 1000), (0, .ref 20), (1, .int l), (2, .int yd)] [.int 0] yA _
      refine Pa.if1k true (by rfl) (by rfl) (by decide) ?_
      show Pa N 62 29 [(5, .int (l * 20)), (4, .int (-1)), (3, .int 1000), (0, .ref 20), (1, .int l), (2, .int yd)] [] yA _
      refine Pa.ic (x := 0) (pc' := 30) (by rfl) (by rfl) (by decide) ?_
      refine Pa.mp 3 (pc' := 36) (l' := [(7, .int (l * 20)), (6, .int 0), (5, .int (l * 20)), (4, .int (-1)), (3, .int 1000), (0, .ref 20), (1, .int l), (2, .int yd)]) (st' := []) (by rfl) ?_
      refine Pa.lv (l' := [(0, .ref 20), (1, .int l), (2, .int yd), (3, .int 1000), (4, .int (-1)), (5, .int (l * 20)), (6, .int 0), (7, .int (l * 20))]) (lvS_c rfl (lvS_c rfl (lvS_c rfl (lvS_c rfl (lvS_c rfl (lvS_c rfl (lvS_c rfl (lvS_c rfl (lvS_nil))))))))) rfl ?_
      exact l2 h2 h3
    · have h4 : l.toInt ≤ 5 := h4
      refine Pa.ic (x := 1) (pc' := 11) (by rfl) (by rfl) (by decide) ?_
      refine Pa.mp 1 (pc' := 15) (l' := [(0, .int l), (1, .int 0), (2, .int 5)]) (st' := [.int 1]) (by rfl) ?_
      refine Pa.iret (by rfl) ?_
      show Pa N 147 6 [(0, .int l)] [.int 1] yA _
      refine Pa.iret (by rfl) ?_
      show Pa N 62 17 [(5, .int (l * 20)), (4, .int (-1)), (3, .int 1000), (0, .ref 20), (1, .int l), (2, .int yd)] [.int 1] yA _
      refine Pa.if1k false (by rfl) (by rfl) (by decide) ?_
      show Pa N 62 20 [(5, .int (l * 20)), (4, .int (-1)), (3, .int 1000), (0, .ref 20), (1, .int l), (2, .int yd)] [] yA _
      refine Pa.mp 1 (pc' := 21) (l' := [(5, .int (l * 20)), (4, .int (-1)), (3, .int 1000), (0, .ref 20), (1, .int l), (2, .int yd)]) (st' := [.ref 20]) (by rfl) ?_
      refine Pa.gfR (by rfl) (by rfl) (.inl rfl) (by rfl) ?_
      show Pa N 62 24 [(5, .int (l * 20)), (4, .int (-1)), (3, .int 1000), (0, .ref 20), (1, .int l), (2, .int yd)] [.ref 23] yA _
      refine Pa.mp 1 (pc' := 25) (l' := [(5, .int (l * 20)), (4, .int (-1)), (3, .int 1000), (0, .ref 20), (1, .int l), (2, .int yd)]) (st' := [.int l, .ref 23]) (by rfl) ?_
      refine Pa.alds (v := yA.1 23 l.toInt.toNat) (by rfl) (by rfl) (by rfl) (fun h5 h6 => ?_)
      have h5 : 0 ≤ l.toInt := h5
      have h6 : l.toInt < 6 := h6
      refine Pa.mp 4 (pc' := 36) (l' := [(7, .int (l * 20)), (6, .int (yA.1 23 l.toInt.toNat)), (5, .int (l * 20)), (4, .int (-1)), (3, .int 1000), (0, .ref 20), (1, .int l), (2, .int yd)]) (st' := []) (by rfl) ?_
      refine Pa.lv (l' := [(0, .ref 20), (1, .int l), (2, .int yd), (3, .int 1000), (4, .int (-1)), (5, .int (l * 20)), (6, .int (yA.1 23 l.toInt.toNat)), (7, .int (l * 20))]) (lvS_c rfl (lvS_c rfl (lvS_c rfl (lvS_c rfl (lvS_c rfl (lvS_c rfl (lvS_c rfl (lvS_c rfl (lvS_nil))))))))) rfl ?_
      exact l3 h2 h4 h6
theorem bx_cof {N : Nat} {yA : AW} {yQ : Option Value → AW → Prop} (l yd yw yt ys ym yi : Int32)
    (l1 : (ys + ym).toInt ≤ yi.toInt → yQ (some (.int yw)) yA)
    (l2 : yi.toInt < (ys + ym).toInt → 0 ≤ yi.toInt → yi.toInt < 120 → yd.toInt < (yA.1 21 yi.toInt.toNat).toInt → Pa N 62 36 [(0, .ref 20), (1, .int l), (2, .int yd), (3, .int yw), (4, .int yt), (5, .int ys), (6, .int ym), (7, .int (yi + 1))] [] yA yQ)
    (l3 : yi.toInt < (ys + ym).toInt → 0 ≤ yi.toInt → yi.toInt < 120 → (yA.1 21 yi.toInt.toNat).toInt ≤ yd.toInt → (yA.1 21 yi.toInt.toNat).toInt < yt.toInt → Pa N 62 36 [(0, .ref 20), (1, .int l), (2, .int yd), (3, .int yw), (4, .int yt), (5, .int ys), (6, .int ym), (7, .int (yi + 1))] [] yA yQ)
    (l4 : yi.toInt < (ys + ym).toInt → 0 ≤ yi.toInt → yi.toInt < 120 → (yA.1 21 yi.toInt.toNat).toInt ≤ yd.toInt → yt.toInt ≤ (yA.1 21 yi.toInt.toNat).toInt → Pa N 62 36 [(0, .ref 20), (1, .int l), (2, .int yd), (3, .int (yA.1 22 yi.toInt.toNat)), (4, .int (yA.1 21 yi.toInt.toNat)), (5, .int ys), (6, .int ym), (7, .int (yi + 1))] [] yA yQ) :
    Pa (N + 1) 62 36 [(0, .ref 20), (1, .int l), (2, .int yd), (3, .int yw), (4, .int yt), (5, .int ys), (6, .int ym), (7, .int yi)] [] yA yQ := by
  refine Pa.mp1 3 (pc' := 43) (l' := [(0, .ref 20), (1, .int l), (2, .int yd), (3, .int yw), (4, .int yt), (5, .int ys), (6, .int ym), (7, .int yi)]) (st' := [.int (ys + ym), .int yi]) (by rfl) ?_
  refine Pa.if2 (a := yi.toInt) (b := (ys + ym).toInt) (t := 92) (by rfl) (by rfl) (rfl) (rfl) (fun h1 => ?_) (fun h2 => ?_)
  · have h1 : (ys + ym).toInt ≤ yi.toInt := h1
    refine Pa.mp 1 (pc' := 93) (l' := [(0, .ref 20), (1, .int l), (2, .int yd), (3, .int yw), (4, .int yt), (5, .int ys), (6, .int ym), (7, .int yi)]) (st' := [.int yw]) (by rfl) ?_
    refine Pa.iret (by rfl) ?_
    exact l1 h1
  · have h2 : yi.toInt < (ys + ym).toInt := h2
    refine Pa.mp 1 (pc' := 47) (l' := [(0, .ref 20), (1, .int l), (2, .int yd), (3, .int yw), (4, .int yt), (5, .int ys), (6, .int ym), (7, .int yi)]) (st' := [.ref 20]) (by rfl) ?_
    refine Pa.gfR (by rfl) (by rfl) (.inl rfl) (by rfl) ?_
    show Pa N 62 50 [(0, .ref 20), (1, .int l), (2, .int yd), (3, .int yw), (4, .int yt), (5, .int ys), (6, .int ym), (7, .int yi)] [.ref 21] yA _
    refine Pa.mp 1 (pc' := 52) (l' := [(0, .ref 20), (1, .int l), (2, .int yd), (3, .int yw), (4, .int yt), (5, .int ys), (6, .int ym), (7, .int yi)]) (st' := [.int yi, .ref 21]) (by rfl) ?_
    refine Pa.alds (v := yA.1 21 yi.toInt.toNat) (by rfl) (by rfl) (by rfl) (fun h3 h4 => ?_)
    have h3 : 0 ≤ yi.toInt := h3
    have h4 : yi.toInt < 120 := h4
    refine Pa.mp 1 (pc' := 54) (l' := [(0, .ref 20), (1, .int l), (2, .int yd), (3, .int yw), (4, .int yt), (5, .int ys), (6, .int ym), (7, .int yi)]) (st' := [.int yd, .int (yA.1 21 yi.toInt.toNat)]) (by rfl) ?_
    refine Pa.if2 (a := (yA.1 21 yi.toInt.toNat).toInt) (b := yd.toInt) (t := 86) (by rfl) (by rfl) (rfl) (rfl) (fun h5 => ?_) (fun h6 => ?_)
    · have h5 : yd.toInt < (yA.1 21 yi.toInt.toNat).toInt := h5
      refine Pa.iinc (x := yi) (c := 1) (v := (yi + 1)) (l' := [(7, .int (yi + 1)), (0, .ref 20), (1, .int l), (2, .int yd), (3, .int yw), (4, .int yt), (5, .int ys), (6, .int ym)]) (by rfl) (by rfl) (by decide) (by rfl) (by rfl) ?_
      refine Pa.mp 1 (pc' := 36) (l' := [(7, .int (yi + 1)), (0, .ref 20), (1, .int l), (2, .int yd), (3, .int yw), (4, .int yt), (5, .int ys), (6, .int ym)]) (st' := []) (by rfl) ?_
      refine Pa.lv (l' := [(0, .ref 20), (1, .int l), (2, .int yd), (3, .int yw), (4, .int yt), (5, .int ys), (6, .int ym), (7, .int (yi + 1))]) (lvS_c rfl (lvS_c rfl (lvS_c rfl (lvS_c rfl (lvS_c rfl (lvS_c rfl (lvS_c rfl (lvS_c rfl (lvS_nil))))))))) rfl ?_
      exact l2 h2 h3 h4 h5
    · have h6 : (yA.1 21 yi.toInt.toNat).toInt ≤ yd.toInt := h6
      refine Pa.mp 1 (pc' := 58) (l' := [(0, .ref 20), (1, .int l), (2, .int yd), (3, .int yw), (4, .int yt), (5, .int ys), (6, .int ym), (7, .int yi)]) (st' := [.ref 20]) (by rfl) ?_
      refine Pa.gfR (by rfl) (by rfl) (.inl rfl) (by rfl) ?_
      show Pa N 62 61 [(0, .ref 20), (1, .int l), (2, .int yd), (3, .int yw), (4, .int yt), (5, .int ys), (6, .int ym), (7, .int yi)] [.ref 21] yA _
      refine Pa.mp 1 (pc' := 63) (l' := [(0, .ref 20), (1, .int l), (2, .int yd), (3, .int yw), (4, .int yt), (5, .int ys), (6, .int ym), (7, .int yi)]) (st' := [.int yi, .ref 21]) (by rfl) ?_
      refine Pa.alds (v := yA.1 21 yi.toInt.toNat) (by rfl) (by rfl) (by rfl) (fun h7 h8 => ?_)
      have h7 : 0 ≤ yi.toInt := h7
      have h8 : yi.toInt < 120 := h8
      refine Pa.mp 1 (pc' := 66) (l' := [(0, .ref 20), (1, .int l), (2, .int yd), (3, .int yw), (4, .int yt), (5, .int ys), (6, .int ym), (7, .int yi)]) (st' := [.int yt, .int (yA.1 21 yi.toInt.toNat)]) (by rfl) ?_
      refine Pa.if2 (a := (yA.1 21 yi.toInt.toNat).toInt) (b := yt.toInt) (t := 86) (by rfl) (by rfl) (rfl) (rfl) (fun h9 => ?_) (fun h10 => ?_)
      · have h9 : (yA.1 21 yi.toInt.toNat).toInt < yt.toInt := h9
        refine Pa.iinc (x := yi) (c := 1) (v := (yi + 1)) (l' := [(7, .int (yi + 1)), (0, .ref 20), (1, .int l), (2, .int yd), (3, .int yw), (4, .int yt), (5, .int ys), (6, .int ym)]) (by rfl) (by rfl) (by decide) (by rfl) (by rfl) ?_
        refine Pa.mp 1 (pc' := 36) (l' := [(7, .int (yi + 1)), (0, .ref 20), (1, .int l), (2, .int yd), (3, .int yw), (4, .int yt), (5, .int ys), (6, .int ym)]) (st' := []) (by rfl) ?_
        refine Pa.lv (l' := [(0, .ref 20), (1, .int l), (2, .int yd), (3, .int yw), (4, .int yt), (5, .int ys), (6, .int ym), (7, .int (yi + 1))]) (lvS_c rfl (lvS_c rfl (lvS_c rfl (lvS_c rfl (lvS_c rfl (lvS_c rfl (lvS_c rfl (lvS_c rfl (lvS_nil))))))))) rfl ?_
        exact l3 h2 h3 h4 h6 h9
      · have h10 : yt.toInt ≤ (yA.1 21 yi.toInt.toNat).toInt := h10
        refine Pa.mp 1 (pc' := 70) (l' := [(0, .ref 20), (1, .int l), (2, .int yd), (3, .int yw), (4, .int yt), (5, .int ys), (6, .int ym), (7, .int yi)]) (st' := [.ref 20]) (by rfl) ?_
        refine Pa.gfR (by rfl) (by rfl) (.inl rfl) (by rfl) ?_
        show Pa N 62 73 [(0, .ref 20), (1, .int l), (2, .int yd), (3, .int yw), (4, .int yt), (5, .int ys), (6, .int ym), (7, .int yi)] [.ref 21] yA _
        refine Pa.mp 1 (pc' := 75) (l' := [(0, .ref 20), (1, .int l), (2, .int yd), (3, .int yw), (4, .int yt), (5, .int ys), (6, .int ym), (7, .int yi)]) (st' := [.int yi, .ref 21]) (by rfl) ?_
        refine Pa.alds (v := yA.1 21 yi.toInt.toNat) (by rfl) (by rfl) (by rfl) (fun h11 h12 => ?_)
        have h11 : 0 ≤ yi.toInt := h11
        have h12 : yi.toInt < 120 := h12
        refine Pa.mp 2 (pc' := 79) (l' := [(4, .int (yA.1 21 yi.toInt.toNat)), (0, .ref 20), (1, .int l), (2, .int yd), (3, .int yw), (5, .int ys), (6, .int ym), (7, .int yi)]) (st' := [.ref 20]) (by rfl) ?_
        refine Pa.gfR (by rfl) (by rfl) (.inl rfl) (by rfl) ?_
        show Pa N 62 82 [(4, .int (yA.1 21 yi.toInt.toNat)), (0, .ref 20), (1, .int l), (2, .int yd), (3, .int yw), (5, .int ys), (6, .int ym), (7, .int yi)] [.ref 22] yA _
        refine Pa.mp 1 (pc' := 84) (l' := [(4, .int (yA.1 21 yi.toInt.toNat)), (0, .ref 20), (1, .int l), (2, .int yd), (3, .int yw), (5, .int ys), (6, .int ym), (7, .int yi)]) (st' := [.int yi, .ref 22]) (by rfl) ?_
        refine Pa.alds (v := yA.1 22 yi.toInt.toNat) (by rfl) (by rfl) (by rfl) (fun h13 h14 => ?_)
        have h13 : 0 ≤ yi.toInt := h13
        have h14 : yi.toInt < 120 := h14
        refine Pa.mp 1 (pc' := 86) (l' := [(3, .int (yA.1 22 yi.toInt.toNat)), (4, .int (yA.1 21 yi.toInt.toNat)), (0, .ref 20), (1, .int l), (2, .int yd), (5, .int ys), (6, .int ym), (7, .int yi)]) (st' := []) (by rfl) ?_
        refine Pa.iinc (x := yi) (c := 1) (v := (yi + 1)) (l' := [(7, .int (yi + 1)), (3, .int (yA.1 22 yi.toInt.toNat)), (4, .int (yA.1 21 yi.toInt.toNat)), (0, .ref 20), (1, .int l), (2, .int yd), (5, .int ys), (6, .int ym)]) (by rfl) (by rfl) (by decide) (by rfl) (by rfl) ?_
        refine Pa.mp 1 (pc' := 36) (l' := [(7, .int (yi + 1)), (3, .int (yA.1 22 yi.toInt.toNat)), (4, .int (yA.1 21 yi.toInt.toNat)), (0, .ref 20), (1, .int l), (2, .int yd), (5, .int ys), (6, .int ym)]) (st' := []) (by rfl) ?_
        refine Pa.lv (l' := [(0, .ref 20), (1, .int l), (2, .int yd), (3, .int (yA.1 22 yi.toInt.toNat)), (4, .int (yA.1 21 yi.toInt.toNat)), (5, .int ys), (6, .int ym), (7, .int (yi + 1))]) (lvS_c rfl (lvS_c rfl (lvS_c rfl (lvS_c rfl (lvS_c rfl (lvS_c rfl (lvS_c rfl (lvS_c rfl (lvS_nil))))))))) rfl ?_
        exact l4 h2 h3 h4 h6 h10
theorem bm_cat0 {N : Nat} {yA : AW} {yQ : Option Value → AW → Prop} (l yd : Int32)
    (l1 : Pa N 162 8 [(0, .ref 69), (1, .int l), (2, .int yd), (3, .int (-1)), (4, .int (20 * l))] [] yA yQ) :
    Pa N 162 0 [(0, .ref 69), (1, .int l), (2, .int yd)] [] yA yQ := by
  refine Pa.ic (x := (-1)) (pc' := 1) (by rfl) (by rfl) (by decide) ?_
  refine Pa.mp 1 (pc' := 2) (l' := [(3, .int (-1)), (0, .ref 69), (1, .int l), (2, .int yd)]) (st' := []) (by rfl) ?_
  refine Pa.ic (x := 20) (pc' := 4) (by rfl) (by rfl) (by decide) ?_
  refine Pa.mp 3 (pc' := 8) (l' := [(4, .int (20 * l)), (3, .int (-1)), (0, .ref 69), (1, .int l), (2, .int yd)]) (st' := []) (by rfl) ?_
  refine Pa.lv (l' := [(0, .ref 69), (1, .int l), (2, .int yd), (3, .int (-1)), (4, .int (20 * l))]) (lvS_c rfl (lvS_c rfl (lvS_c rfl (lvS_c rfl (lvS_c rfl (lvS_nil)))))) rfl ?_
  exact l1
theorem bm_cat {N : Nat} {yA : AW} {yQ : Option Value → AW → Prop} (l yd yb yi : Int32)
    (l1 : 0 ≤ l.toInt → l.toInt < 6 → ((20 * l) + (yA.1 72 l.toInt.toNat)).toInt ≤ yi.toInt → 0 ≤ yb.toInt → yb.toInt < 120 → yQ (some (.int (yA.1 71 yb.toInt.toNat))) yA)
    (l2 : 0 ≤ l.toInt → l.toInt < 6 → ((20 * l) + (yA.1 72 l.toInt.toNat)).toInt ≤ yi.toInt → yb.toInt < 0 → yQ (some (.int 1000)) yA)
    (l3 : 0 ≤ l.toInt → l.toInt < 6 → yi.toInt < ((20 * l) + (yA.1 72 l.toInt.toNat)).toInt → 0 ≤ yi.toInt → yi.toInt < 120 → yd.toInt < (yA.1 70 yi.toInt.toNat).toInt → Pa N 162 8 [(0, .ref 69), (1, .int l), (2, .int yd), (3, .int yb), (4, .int (yi + 1))] [] yA yQ)
    (l4 : 0 ≤ l.toInt → l.toInt < 6 → yi.toInt < ((20 * l) + (yA.1 72 l.toInt.toNat)).toInt → 0 ≤ yi.toInt → yi.toInt < 120 → (yA.1 70 yi.toInt.toNat).toInt ≤ yd.toInt → yb.toInt < 0 → Pa N 162 8 [(0, .ref 69), (1, .int l), (2, .int yd), (3, .int yi), (4, .int (yi + 1))] [] yA yQ)
    (l5 : 0 ≤ l.toInt → l.toInt < 6 → yi.toInt < ((20 * l) + (yA.1 72 l.toInt.toNat)).toInt → 0 ≤ yi.toInt → yi.toInt < 120 → (yA.1 70 yi.toInt.toNat).toInt ≤ yd.toInt → 0 ≤ yb.toInt → yb.toInt < 120 → (yA.1 70 yi.toInt.toNat).toInt < (yA.1 70 yb.toInt.toNat).toInt → Pa N 162 8 [(0, .ref 69), (1, .int l), (2, .int yd), (3, .int yb), (4, .int (yi + 1))] [] yA yQ)
    (l6 : 0 ≤ l.toInt → l.toInt < 6 → yi.toInt < ((20 * l) + (yA.1 72 l.toInt.toNat)).toInt → 0 ≤ yi.toInt → yi.toInt < 120 → (yA.1 70 yi.toInt.toNat).toInt ≤ yd.toInt → 0 ≤ yb.toInt → yb.toInt < 120 → (yA.1 70 yb.toInt.toNat).toInt ≤ (yA.1 70 yi.toInt.toNat).toInt → Pa N 162 8 [(0, .ref 69), (1, .int l), (2, .int yd), (3, .int yi), (4, .int (yi + 1))] [] yA yQ) :
    Pa (N + 1) 162 8 [(0, .ref 69), (1, .int l), (2, .int yd), (3, .int yb), (4, .int yi)] [] yA yQ := by
  refine Pa.mp1 0 (pc' := 10) (l' := [(0, .ref 69), (1, .int l), (2, .int yd), (3, .int yb), (4, .int yi)]) (st' := [.int yi]) (by rfl) ?_
  refine Pa.ic (x := 20) (pc' := 12) (by rfl) (by rfl) (by decide) ?_
  refine Pa.mp 3 (pc' := 15) (l' := [(0, .ref 69), (1, .int l), (2, .int yd), (3, .int yb), (4, .int yi)]) (st' := [.ref 69, .int (20 * l), .int yi]) (by rfl) ?_
  refine Pa.gfR (by rfl) (by rfl) (.inl rfl) (by rfl) ?_
  show Pa N 162 18 [(0, .ref 69), (1, .int l), (2, .int yd), (3, .int yb), (4, .int yi)] [.ref 72, .int (20 * l), .int yi] yA _
  refine Pa.mp 1 (pc' := 19) (l' := [(0, .ref 69), (1, .int l), (2, .int yd), (3, .int yb), (4, .int yi)]) (st' := [.int l, .ref 72, .int (20 * l), .int yi]) (by rfl) ?_
  refine Pa.alds (v := yA.1 72 l.toInt.toNat) (by rfl) (by rfl) (by rfl) (fun h1 h2 => ?_)
  have h1 : 0 ≤ l.toInt := h1
  have h2 : l.toInt < 6 := h2
  refine Pa.mp 1 (pc' := 21) (l' := [(0, .ref 69), (1, .int l), (2, .int yd), (3, .int yb), (4, .int yi)]) (st' := [.int ((20 * l) + (yA.1 72 l.toInt.toNat)), .int yi]) (by rfl) ?_
  refine Pa.if2 (a := yi.toInt) (b := ((20 * l) + (yA.1 72 l.toInt.toNat)).toInt) (t := 68) (by rfl) (by rfl) (rfl) (rfl) (fun h3 => ?_) (fun h4 => ?_)
  · have h3 : ((20 * l) + (yA.1 72 l.toInt.toNat)).toInt ≤ yi.toInt := h3
    refine Pa.mp 1 (pc' := 69) (l' := [(0, .ref 69), (1, .int l), (2, .int yd), (3, .int yb), (4, .int yi)]) (st' := [.int yb]) (by rfl) ?_
    refine Pa.if1 (a := yb.toInt) (t := 78) (by rfl) (by rfl) (rfl) (fun h5 => ?_) (fun h6 => ?_)
    · have h5 : 0 ≤ yb.toInt := h5
      refine Pa.mp 1 (pc' := 79) (l' := [(0, .ref 69), (1, .int l), (2, .int yd), (3, .int yb), (4, .int yi)]) (st' := [.ref 69]) (by rfl) ?_
      refine Pa.gfR (by rfl) (by rfl) (.inl rfl) (by rfl) ?_
      show Pa N 162 82 [(0, .ref 69), (1, .int l), (2, .int yd), (3, .int yb), (4, .int yi)] [.ref 71] yA _
      refine Pa.mp 1 (pc' := 83) (l' := [(0, .ref 69), (1, .int l), (2, .int yd), (3, .int yb), (4, .int yi)]) (st' := [.int yb, .ref 71]) (by rfl) ?_
      refine Pa.alds (v := yA.1 71 yb.toInt.toNat) (by rfl) (by rfl) (by rfl) (fun h7 h8 => ?_)
      have h7 : 0 ≤ yb.toInt := h7
      have h8 : yb.toInt < 120 := h8
      refine Pa.iret (by rfl) ?_
      exact l1 h1 h2 h3 h5 h8
    · have h6 : yb.toInt < 0 := h6
      refine Pa.ic (x := 1000) (pc' := 75) (by rfl) (by rfl) (by decide) ?_
      refine Pa.mp 1 (pc' := 84) (l' := [(0, .ref 69), (1, .int l), (2, .int yd), (3, .int yb), (4, .int yi)]) (st' := [.int 1000]) (by rfl) ?_
      refine Pa.iret (by rfl) ?_
      exact l2 h1 h2 h3 h6
  · have h4 : yi.toInt < ((20 * l) + (yA.1 72 l.toInt.toNat)).toInt := h4
    refine Pa.mp 1 (pc' := 25) (l' := [(0, .ref 69), (1, .int l), (2, .int yd), (3, .int yb), (4, .int yi)]) (st' := [.ref 69]) (by rfl) ?_
    refine Pa.gfR (by rfl) (by rfl) (.inl rfl) (by rfl) ?_
    show Pa N 162 28 [(0, .ref 69), (1, .int l), (2, .int yd), (3, .int yb), (4, .int yi)] [.ref 70] yA _
    refine Pa.mp 1 (pc' := 30) (l' := [(0, .ref 69), (1, .int l), (2, .int yd), (3, .int yb), (4, .int yi)]) (st' := [.int yi, .ref 70]) (by rfl) ?_
    refine Pa.alds (v := yA.1 70 yi.toInt.toNat) (by rfl) (by rfl) (by rfl) (fun h9 h10 => ?_)
    have h9 : 0 ≤ yi.toInt := h9
    have h10 : yi.toInt < 120 := h10
    refine Pa.mp 1 (pc' := 32) (l' := [(0, .ref 69), (1, .int l), (2, .int yd), (3, .int yb), (4, .int yi)]) (st' := [.int yd, .int (yA.1 70 yi.toInt.toNat)]) (by rfl) ?_
    refine Pa.if2 (a := (yA.1 70 yi.toInt.toNat).toInt) (b := yd.toInt) (t := 60) (by rfl) (by rfl) (rfl) (rfl) (fun h11 => ?_) (fun h12 => ?_)
    · have h11 : yd.toInt < (yA.1 70 yi.toInt.toNat).toInt := h11
      refine Pa.mp 2 (pc' := 62) (l' := [(3, .int yb), (0, .ref 69), (1, .int l), (2, .int yd), (4, .int yi)]) (st' := []) (by rfl) ?_
      refine Pa.iinc (x := yi) (c := 1) (v := (yi + 1)) (l' := [(4, .int (yi + 1)), (3, .int yb), (0, .ref 69), (1, .int l), (2, .int yd)]) (by rfl) (by rfl) (by decide) (by rfl) (by rfl) ?_
      refine Pa.mp 1 (pc' := 8) (l' := [(4, .int (yi + 1)), (3, .int yb), (0, .ref 69), (1, .int l), (2, .int yd)]) (st' := []) (by rfl) ?_
      refine Pa.lv (l' := [(0, .ref 69), (1, .int l), (2, .int yd), (3, .int yb), (4, .int (yi + 1))]) (lvS_c rfl (lvS_c rfl (lvS_c rfl (lvS_c rfl (lvS_c rfl (lvS_nil)))))) rfl ?_
      exact l3 h1 h2 h4 h9 h10 h11
    · have h12 : (yA.1 70 yi.toInt.toNat).toInt ≤ yd.toInt := h12
      refine Pa.mp 1 (pc' := 36) (l' := [(0, .ref 69), (1, .int l), (2, .int yd), (3, .int yb), (4, .int yi)]) (st' := [.int yb]) (by rfl) ?_
      refine Pa.if1 (a := yb.toInt) (t := 55) (by rfl) (by rfl) (rfl) (fun h13 => ?_) (fun h14 => ?_)
      · have h13 : yb.toInt < 0 := h13
        refine Pa.mp 3 (pc' := 62) (l' := [(3, .int yi), (0, .ref 69), (1, .int l), (2, .int yd), (4, .int yi)]) (st' := []) (by rfl) ?_
        refine Pa.iinc (x := yi) (c := 1) (v := (yi + 1)) (l' := [(4, .int (yi + 1)), (3, .int yi), (0, .ref 69), (1, .int l), (2, .int yd)]) (by rfl) (by rfl) (by decide) (by rfl) (by rfl) ?_
        refine Pa.mp 1 (pc' := 8) (l' := [(4, .int (yi + 1)), (3, .int yi), (0, .ref 69), (1, .int l), (2, .int yd)]) (st' := []) (by rfl) ?_
        refine Pa.lv (l' := [(0, .ref 69), (1, .int l), (2, .int yd), (3, .int yi), (4, .int (yi + 1))]) (lvS_c rfl (lvS_c rfl (lvS_c rfl (lvS_c rfl (lvS_c rfl (lvS_nil)))))) rfl ?_
        exact l4 h1 h2 h4 h9 h10 h12 h13
      · have h14 : 0 ≤ yb.toInt := h14
        refine Pa.mp 1 (pc' := 40) (l' := [(0, .ref 69), (1, .int l), (2, .int yd), (3, .int yb), (4, .int yi)]) (st' := [.ref 69]) (by rfl) ?_
        refine Pa.gfR (by rfl) (by rfl) (.inl rfl) (by rfl) ?_
        show Pa N 162 43 [(0, .ref 69), (1, .int l), (2, .int yd), (3, .int yb), (4, .int yi)] [.ref 70] yA _
        refine Pa.mp 1 (pc' := 45) (l' := [(0, .ref 69), (1, .int l), (2, .int yd), (3, .int yb), (4, .int yi)]) (st' := [.int yi, .ref 70]) (by rfl) ?_
        refine Pa.alds (v := yA.1 70 yi.toInt.toNat) (by rfl) (by rfl) (by rfl) (fun h15 yh16 => ?_)
        have h15 : 0 ≤ yi.toInt := h15
        have yh16 : yi.toInt < 120 := yh16
        refine Pa.mp 1 (pc' := 47) (l' := [(0, .ref 69), (1, .int l), (2, .int yd), (3, .int yb), (4, .int yi)]) (st' := [.ref 69, .int (yA.1 70 yi.toInt.toNat)]) (by rfl) ?_
        refine Pa.gfR (by rfl) (by rfl) (.inl rfl) (by rfl) ?_
        show Pa N 162 50 [(0, .ref 69), (1, .int l), (2, .int yd), (3, .int yb), (4, .int yi)] [.ref 70, .int (yA.1 70 yi.toInt.toNat)] yA _
        refine Pa.mp 1 (pc' := 51) (l' := [(0, .ref 69), (1, .int l), (2, .int yd), (3, .int yb), (4, .int yi)]) (st' := [.int yb, .ref 70, .int (yA.1 70 yi.toInt.toNat)]) (by rfl) ?_
        refine Pa.alds (v := yA.1 70 yb.toInt.toNat) (by rfl) (by rfl) (by rfl) (fun h17 h18 => ?_)
        have h17 : 0 ≤ yb.toInt := h17
        have h18 : yb.toInt < 120 := h18
        refine Pa.if2 (a := (yA.1 70 yi.toInt.toNat).toInt) (b := (yA.1 70 yb.toInt.toNat).toInt) (t := 60) (by rfl) (by rfl) (rfl) (rfl) (fun h19 => ?_) (fun h20 => ?_)
        · have h19 : (yA.1 70 yi.toInt.toNat).toInt < (yA.1 70 yb.toInt.toNat).toInt := h19
          refine Pa.mp 2 (pc' := 62) (l' := [(3, .int yb), (0, .ref 69), (1, .int l), (2, .int yd), (4, .int yi)]) (st' := []) (by rfl) ?_
          refine Pa.iinc (x := yi) (c := 1) (v := (yi + 1)) (l' := [(4, .int (yi + 1)), (3, .int yb), (0, .ref 69), (1, .int l), (2, .int yd)]) (by rfl) (by rfl) (by decide) (by rfl) (by rfl) ?_
          refine Pa.mp 1 (pc' := 8) (l' := [(4, .int (yi + 1)), (3, .int yb), (0, .ref 69), (1, .int l), (2, .int yd)]) (st' := []) (by rfl) ?_
          refine Pa.lv (l' := [(0, .ref 69), (1, .int l), (2, .int yd), (3, .int yb), (4, .int (yi + 1))]) (lvS_c rfl (lvS_c rfl (lvS_c rfl (lvS_c rfl (lvS_c rfl (lvS_nil)))))) rfl ?_
          exact l5 h1 h2 h4 h9 h10 h12 h14 h18 h19
        · have h20 : (yA.1 70 yb.toInt.toNat).toInt ≤ (yA.1 70 yi.toInt.toNat).toInt := h20
          refine Pa.mp 3 (pc' := 62) (l' := [(3, .int yi), (0, .ref 69), (1, .int l), (2, .int yd), (4, .int yi)]) (st' := []) (by rfl) ?_
          refine Pa.iinc (x := yi) (c := 1) (v := (yi + 1)) (l' := [(4, .int (yi + 1)), (3, .int yi), (0, .ref 69), (1, .int l), (2, .int yd)]) (by rfl) (by rfl) (by decide) (by rfl) (by rfl) ?_
          refine Pa.mp 1 (pc' := 8) (l' := [(4, .int (yi + 1)), (3, .int yi), (0, .ref 69), (1, .int l), (2, .int yd)]) (st' := []) (by rfl) ?_
          refine Pa.lv (l' := [(0, .ref 69), (1, .int l), (2, .int yd), (3, .int yi), (4, .int (yi + 1))]) (lvS_c rfl (lvS_c rfl (lvS_c rfl (lvS_c rfl (lvS_c rfl (lvS_nil)))))) rfl ?_
          exact l6 h1 h2 h4 h9 h10 h12 h14 h18 h20
/-- the last of the greatest that are yd at most -/
def bst (yF : Nat → Int32) (yd : Int32) : Nat → Option Nat
  | 0 => none
  | yn + 1 => (match bst yF yd yn with
    | none => if (yF yn).toInt ≤ yd.toInt then some yn else none
    | some yq => if (yF yn).toInt ≤ yd.toInt ∧ (yF yq).toInt ≤ (yF yn).toInt then some yn else some yq)
def wor (yW : Nat → Int32) : Option Nat → Int32
  | none => 1000
  | some yq => yW yq
def lat (yF : Nat → Int32) : Option Nat → Int32
  | none => -1
  | some yq => yF yq
def bix (ys : Nat) : Option Nat → Int32
  | none => -1
  | some yq => Int32.ofNat (ys + yq)
theorem bst_lt {yF : Nat → Int32} {yd : Int32} : ∀ {yn yq : Nat}, bst yF yd yn = some yq → yq < yn
  | 0, yq, yh => by cases yh
  | yn + 1, yq, yh => by
    unfold bst at yh
    split at yh
    next h1 =>
      split at yh
      next => cases yh; omega
      next => cases yh
    next yr h1 =>
      have := bst_lt h1
      split at yh
      next => cases yh; omega
      next => cases yh; omega
def cnF (yA : AW) (yc yL yj : Nat) : Int32 := yA.1 yc (20 * yL + yj)
def cofX (yA : AW) (l yd : Int32) : Int32 := wor (cnF yA 22 l.toInt.toNat) (bst (cnF yA 21 l.toInt.toNat) yd (yA.1 23 l.toInt.toNat).toInt.toNat)
def cofM (yA : AW) (l yd : Int32) : Int32 := wor (cnF yA 71 l.toInt.toNat) (bst (cnF yA 70 l.toInt.toNat) yd (yA.1 72 l.toInt.toNat).toInt.toNat)
def cR4 (yA : AW) : Prop := ∀ yL, yL < 6 → (0 ≤ (yA.1 23 yL).toInt ∧ (yA.1 23 yL).toInt ≤ 20) ∧ (0 ≤ (yA.1 72 yL).toInt ∧ (yA.1 72 yL).toInt ≤ 20) ∧ ∀ yj, yj < (yA.1 23 yL).toInt.toNat → 0 ≤ (cnF yA 21 yL yj).toInt
theorem i20 {l : Int32} (h0 : 0 ≤ l.toInt) (h1 : l.toInt ≤ 5) : (20 * l).toInt = 20 * l.toInt := by
  rw [Int32.toInt_mul, show (20 : Int32).toInt = 20 from rfl]
  exact z_bm0 ⟨by show (-2147483648 : Int) ≤ _; omega, by show _ ≤ (2147483647 : Int); omega⟩
theorem i20a {l yc : Int32} (h0 : 0 ≤ l.toInt) (h1 : l.toInt ≤ 5) (h2 : 0 ≤ yc.toInt) (h3 : yc.toInt ≤ 20) : (20 * l + yc).toInt = 20 * l.toInt + yc.toInt := by
  rw [Int32.toInt_add, i20 h0 h1]
  exact z_bm0 ⟨by show (-2147483648 : Int) ≤ _; omega, by show _ ≤ (2147483647 : Int); omega⟩
theorem c_cof (N : Nat) (yA : AW) (l yd : Int32) (hR : cR4 yA) (h0 : 0 ≤ l.toInt) (h5 : l.toInt ≤ 5) : Pa N 62 0 [(0, .ref 20), (1, .int l), (2, .int yd)] [] yA (fun yu A1 => yu = some (.int (cofX yA l yd)) ∧ A1 = yA) := by
  obtain ⟨yL, hL⟩ : ∃ yL, l.toInt.toNat = yL := ⟨_, rfl⟩
  obtain ⟨⟨yc0, yc1⟩, -, yhnn⟩ := hR yL (by omega)
  have hsm : (l * 20 + yA.1 23 yL).toInt = 20 * (yL : Int) + (yA.1 23 yL).toInt := by
    rw [Int32.mul_comm, i20a h0 h5 yc0 yc1]; omega
  have ykey : ∀ N yn, yn ≤ (yA.1 23 yL).toInt.toNat → Pa N 62 36 [(0, .ref 20), (1, .int l), (2, .int yd), (3, .int (wor (cnF yA 22 yL) (bst (cnF yA 21 yL) yd yn))), (4, .int (lat (cnF yA 21 yL) (bst (cnF yA 21 yL) yd yn))), (5, .int (l * 20)), (6, .int (yA.1 23 yL)), (7, .int (Int32.ofNat (20 * yL + yn)))] [] yA (fun yu A1 => yu = some (.int (cofX yA l yd)) ∧ A1 = yA) := by
    intro N
    induction N with
    | zero => intro yn _; exact Pa.zero
    | succ N yih =>
      intro yn hn
      have ye1 : (Int32.ofNat (20 * yL + yn)).toInt = ((20 * yL + yn : Nat) : Int) := i32_nat (by omega)
      refine bx_cof l yd _ _ _ _ _ ?_ ?_ ?_ ?_ <;> rw [ye1, hsm] <;> (try rw [Int.toNat_natCast])
      · intro h1
        refine ⟨?_, rfl⟩
        unfold cofX
        rw [hL, show (yA.1 23 yL).toInt.toNat = yn by omega]
      · intro h1 h2 h3 h4
        have yh := yih (yn + 1) (by omega)
        have yhb : bst (cnF yA 21 yL) yd (yn + 1) = bst (cnF yA 21 yL) yd yn := by
          show (match bst (cnF yA 21 yL) yd yn with | none => _ | some yq => _) = _
          have h4' : yd.toInt < (cnF yA 21 yL yn).toInt := h4
          split
          next ye => rw [if_neg (by omega), ye]
          next yq ye => rw [if_neg (by omega), ye]
        rw [yhb, ← Nat.add_assoc, on_succ] at yh
        exact yh
      · intro h1 h2 h3 h4 h5
        have yh := yih (yn + 1) (by omega)
        have yhb : bst (cnF yA 21 yL) yd (yn + 1) = bst (cnF yA 21 yL) yd yn := by
          show (match bst (cnF yA 21 yL) yd yn with | none => _ | some yq => _) = _
          have h5' : (cnF yA 21 yL yn).toInt < (lat (cnF yA 21 yL) (bst (cnF yA 21 yL) yd yn)).toInt := h5
          split
          next ye =>
            rw [ye] at h5'
            have hz := yhnn yn (by omega)
            have yhm : (lat (cnF yA 21 yL) none).toInt = -1 := rfl
            omega
          next yq ye =>
            rw [ye] at h5'
            have yhm : lat (cnF yA 21 yL) (some yq) = cnF yA 21 yL yq := rfl
            rw [yhm] at h5'
            rw [if_neg (by omega), ye]
        rw [yhb, ← Nat.add_assoc, on_succ] at yh
        exact yh
      · intro h1 h2 h3 h4 h5
        have yh := yih (yn + 1) (by omega)
        have yhb : bst (cnF yA 21 yL) yd (yn + 1) = some yn := by
          show (match bst (cnF yA 21 yL) yd yn with | none => _ | some yq => _) = _
          have h4' : (cnF yA 21 yL yn).toInt ≤ yd.toInt := h4
          have h5' : (lat (cnF yA 21 yL) (bst (cnF yA 21 yL) yd yn)).toInt ≤ (cnF yA 21 yL yn).toInt := h5
          split
          next ye => rw [if_pos h4']
          next yq ye =>
            rw [ye] at h5'
            have yhm : lat (cnF yA 21 yL) (some yq) = cnF yA 21 yL yq := rfl
            rw [yhm] at h5'
            rw [if_pos ⟨h4', h5'⟩]
        rw [yhb, ← Nat.add_assoc, on_succ] at yh
        exact yh
  refine bx_cof0 l yd ?_ ?_ ?_
  · intro yh; omega
  · intro h1 h2; omega
  · intro h1 h2 h3
    have yh := ykey N 0 (Nat.zero_le _)
    have hl : l * 20 = Int32.ofNat (20 * yL + 0) := by
      apply i32_ext
      rw [i32_nat (by omega), Int32.mul_comm, i20 h0 h5]
      omega
    rw [← hl] at yh
    rw [hL]
    exact yh
theorem c_cat (N : Nat) (yA : AW) (l yd : Int32) (hR : cR4 yA) (h0 : 0 ≤ l.toInt) (h5 : l.toInt ≤ 5) : Pa N 162 0 [(0, .ref 69), (1, .int l), (2, .int yd)] [] yA (fun yu A1 => yu = some (.int (cofM yA l yd)) ∧ A1 = yA) := by
  obtain ⟨yL, hL⟩ : ∃ yL, l.toInt.toNat = yL := ⟨_, rfl⟩
  obtain ⟨-, ⟨yc0, yc1⟩, -⟩ := hR yL (by omega)
  have hsm : (20 * l + yA.1 72 yL).toInt = 20 * (yL : Int) + (yA.1 72 yL).toInt := by
    rw [i20a h0 h5 yc0 yc1]; omega
  have ykey : ∀ N yn, yn ≤ (yA.1 72 yL).toInt.toNat → Pa N 162 8 [(0, .ref 69), (1, .int l), (2, .int yd), (3, .int (bix (20 * yL) (bst (cnF yA 70 yL) yd yn))), (4, .int (Int32.ofNat (20 * yL + yn)))] [] yA (fun yu A1 => yu = some (.int (cofM yA l yd)) ∧ A1 = yA) := by
    intro N
    induction N with
    | zero => intro yn _; exact Pa.zero
    | succ N yih =>
      intro yn hn
      have ye1 : (Int32.ofNat (20 * yL + yn)).toInt = ((20 * yL + yn : Nat) : Int) := i32_nat (by omega)
      have hm1 : (-1 : Int32).toInt = -1 := rfl
      cases hb0 : bst (cnF yA 70 yL) yd yn with
      | none =>
        have hbx : bix (20 * yL) none = -1 := rfl
        rw [hbx]
        refine bm_cat l yd _ _ ?_ ?_ ?_ ?_ ?_ ?_ <;> rw [ye1, hL, hsm] <;> (try rw [hm1]) <;> (try rw [Int.toNat_natCast])
        · intro h1 h2 h3 h4; omega
        · intro h1 h2 h3 h4
          refine ⟨?_, rfl⟩
          unfold cofM
          rw [hL, show (yA.1 72 yL).toInt.toNat = yn by omega, hb0]
          rfl
        · intro h1 h2 h3 h4 h5 h6
          have yh := yih (yn + 1) (by omega)
          have h6' : yd.toInt < (cnF yA 70 yL yn).toInt := h6
          have yhb : bst (cnF yA 70 yL) yd (yn + 1) = none := by
            show (match bst (cnF yA 70 yL) yd yn with | none => _ | some yq => _) = _
            rw [hb0]
            exact if_neg (by omega)
          rw [yhb, ← Nat.add_assoc, on_succ] at yh
          exact yh
        · intro h1 h2 h3 h4 h5 h6 h7
          have yh := yih (yn + 1) (by omega)
          have h6' : (cnF yA 70 yL yn).toInt ≤ yd.toInt := h6
          have yhb : bst (cnF yA 70 yL) yd (yn + 1) = some yn := by
            show (match bst (cnF yA 70 yL) yd yn with | none => _ | some yq => _) = _
            rw [hb0]
            exact if_pos h6'
          rw [yhb, ← Nat.add_assoc, on_succ] at yh
          exact yh
        · intro h1 h2 h3 h4 h5 h6 h7; omega
        · intro h1 h2 h3 h4 h5 h6 h7; omega
      | some yq =>
        have hq := bst_lt hb0
        have hbx : bix (20 * yL) (some yq) = Int32.ofNat (20 * yL + yq) := rfl
        rw [hbx]
        have ye2 : (Int32.ofNat (20 * yL + yq)).toInt = ((20 * yL + yq : Nat) : Int) := i32_nat (by omega)
        refine bm_cat l yd _ _ ?_ ?_ ?_ ?_ ?_ ?_ <;> rw [ye1, hL, hsm] <;> (try rw [ye2]) <;> (try rw [Int.toNat_natCast]) <;> (try rw [Int.toNat_natCast])
        · intro h1 h2 h3 h4 h5
          refine ⟨?_, rfl⟩
          unfold cofM
          rw [hL, show (yA.1 72 yL).toInt.toNat = yn by omega, hb0]
          rfl
        · intro h1 h2 h3 h4; omega
        · intro h1 h2 h3 h4 h5 h6
          have yh := yih (yn + 1) (by omega)
          have h6' : yd.toInt < (cnF yA 70 yL yn).toInt := h6
          have yhb : bst (cnF yA 70 yL) yd (yn + 1) = some yq := by
            show (match bst (cnF yA 70 yL) yd yn with | none => _ | some yq => _) = _
            rw [hb0]
            exact if_neg (by omega)
          rw [yhb, ← Nat.add_assoc, on_succ] at yh
          exact yh
        · intro h1 h2 h3 h4 h5 h6 h7; omega
        · intro h1 h2 h3 h4 h5 h6 h7 h8 h9
          have yh := yih (yn + 1) (by omega)
          have h9' : (cnF yA 70 yL yn).toInt < (cnF yA 70 yL yq).toInt := h9
          have yhb : bst (cnF yA 70 yL) yd (yn + 1) = some yq := by
            show (match bst (cnF yA 70 yL) yd yn with | none => _ | some yq => _) = _
            rw [hb0]
            exact if_neg (by omega)
          rw [yhb, ← Nat.add_assoc, on_succ] at yh
          exact yh
        · intro h1 h2 h3 h4 h5 h6 h7 h8 h9
          have yh := yih (yn + 1) (by omega)
          have h6' : (cnF yA 70 yL yn).toInt ≤ yd.toInt := h6
          have h9' : (cnF yA 70 yL yq).toInt ≤ (cnF yA 70 yL yn).toInt := h9
          have yhb : bst (cnF yA 70 yL) yd (yn + 1) = some yn := by
            show (match bst (cnF yA 70 yL) yd yn with | none => _ | some yq => _) = _
            rw [hb0]
            exact if_pos ⟨h6', h9'⟩
          rw [yhb, ← Nat.add_assoc, on_succ] at yh
          exact yh
  refine bm_cat0 l yd ?_
  have yh := ykey N 0 (Nat.zero_le _)
  have hl : 20 * l = Int32.ofNat (20 * yL + 0) := by
    apply i32_ext
    rw [i32_nat (by omega), i20 h0 h5]
    omega
  rw [← hl] at yh
  exact yh
theorem bx_coin {N : Nat} {yA : AW} {yQ : Option Value → AW → Prop} (l yd yv : Int32)
    (l1 : l.toInt < 0 → yQ (some (.int (-1))) yA)
    (l2 : 0 ≤ l.toInt → 5 < l.toInt → yQ (some (.int (-1))) yA)
    (l3 : 0 ≤ l.toInt → l.toInt ≤ 5 → yd.toInt < 0 → yQ (some (.int (-1))) yA)
    (l4 : 0 ≤ l.toInt → l.toInt ≤ 5 → 0 ≤ yd.toInt → 3599 < yd.toInt → yQ (some (.int (-1))) yA)
    (l5 : 0 ≤ l.toInt → l.toInt ≤ 5 → 0 ≤ yd.toInt → yd.toInt ≤ 3599 → yv.toInt < 1 → yQ (some (.int (-1))) yA)
    (l6 : 0 ≤ l.toInt → l.toInt ≤ 5 → 0 ≤ yd.toInt → yd.toInt ≤ 3599 → 1 ≤ yv.toInt → 99999 < yv.toInt → yQ (some (.int (-1))) yA)
    (l7 : 0 ≤ l.toInt → l.toInt ≤ 5 → 0 ≤ yd.toInt → yd.toInt ≤ 3599 → 1 ≤ yv.toInt → yv.toInt ≤ 99999 → l.toInt < 6 → (yA.1 23 l.toInt.toNat).toInt < 20 → 0 ≤ ((l * 20) + (yA.1 23 l.toInt.toNat)).toInt → ((l * 20) + (yA.1 23 l.toInt.toNat)).toInt < 120 → yQ (some (.int ((yA.1 23 l.toInt.toNat) + 1))) (uI (uI (uI yA 21 (((l * 20) + (yA.1 23 l.toInt.toNat)).toInt.toNat) yd) 22 (((l * 20) + (yA.1 23 l.toInt.toNat)).toInt.toNat) yv) 23 l.toInt.toNat ((yA.1 23 l.toInt.toNat) + 1)))
    (l8 : 0 ≤ l.toInt → l.toInt ≤ 5 → 0 ≤ yd.toInt → yd.toInt ≤ 3599 → 1 ≤ yv.toInt → yv.toInt ≤ 99999 → l.toInt < 6 → 20 ≤ (yA.1 23 l.toInt.toNat).toInt → yQ (some (.int (-2))) yA) :
    Pa N 99 0 [(0, .ref 0), (1, .int l), (2, .int yd), (3, .int yv)] [] yA yQ := by
  refine Pa.mp 1 (pc' := 1) (l' := [(0, .ref 0), (1, .int l), (2, .int yd), (3, .int yv)]) (st' := [.int l]) (by rfl) ?_
  refine Pa.ist (by rfl) (by rfl) (.inl rfl) (by rfl) (by rfl) ?_
  show Pa N 147 0 [(0, .int l)] [] yA _
  refine Pa.mp 1 (pc' := 1) (l' := [(0, .int l)]) (st' := [.int l]) (by rfl) ?_
  refine Pa.ic (x := 0) (pc' := 2) (by rfl) (by rfl) (by decide) ?_
  refine Pa.ic (x := 5) (pc' := 3) (by rfl) (by rfl) (by decide) ?_
  refine Pa.ist (by rfl) (by rfl) (.inl rfl) (by rfl) (by rfl) ?_
  show Pa N 146 0 [(0, .int l), (1, .int 0), (2, .int 5)] [] yA _
  refine Pa.mp 2 (pc' := 2) (l' := [(0, .int l), (1, .int 0), (2, .int 5)]) (st' := [.int 0, .int l]) (by rfl) ?_
  refine Pa.if2 (a := l.toInt) (b := 0) (t := 14) (by rfl) (by rfl) (rfl) (by decide) (fun h1 => ?_) (fun h2 => ?_)
  · have h1 : l.toInt < 0 := h1
    refine Pa.ic (x := 0) (pc' := 15) (by rfl) (by rfl) (by decide) ?_
    refine Pa.iret (by rfl) ?_
    show Pa N 147 6 [(0, .int l)] [.int 0] yA _
    refine Pa.iret (by rfl) ?_
    show Pa N 99 4 [(0, .ref 0), (1, .int l), (2, .int yd), (3, .int yv)] [.int 0] yA _
    refine Pa.if1k true (by rfl) (by rfl) (by decide) ?_
    show Pa N 99 24 [(0, .ref 0), (1, .int l), (2, .int yd), (3, .int yv)] [] yA _
    refine Pa.ic (x := (-1)) (pc' := 25) (by rfl) (by rfl) (by decide) ?_
    refine Pa.iret (by rfl) ?_
    exact l1 h1
  · have h2 : 0 ≤ l.toInt := h2
    refine Pa.mp 2 (pc' := 7) (l' := [(0, .int l), (1, .int 0), (2, .int 5)]) (st' := [.int 5, .int l]) (by rfl) ?_
    refine Pa.if2 (a := l.toInt) (b := 5) (t := 14) (by rfl) (by rfl) (rfl) (by decide) (fun h3 => ?_) (fun h4 => ?_)
    · have h3 : 5 < l.toInt := h3
      refine Pa.ic (x := 0) (pc' := 15) (by rfl) (by rfl) (by decide) ?_
      refine Pa.iret (by rfl) ?_
      show Pa N 147 6 [(0, .int l)] [.int 0] yA _
      refine Pa.iret (by rfl) ?_
      show Pa N 99 4 [(0, .ref 0), (1, .int l), (2, .int yd), (3, .int yv)] [.int 0] yA _
      refine Pa.if1k true (by rfl) (by rfl) (by decide) ?_
      show Pa N 99 24 [(0, .ref 0), (1, .int l), (2, .int yd), (3, .int yv)] [] yA _
      refine Pa.ic (x := (-1)) (pc' := 25) (by rfl) (by rfl) (by decide) ?_
      refine Pa.iret (by rfl) ?_
      exact l2 h2 h3
    · have h4 : l.toInt ≤ 5 := h4
      refine Pa.ic (x := 1) (pc' := 11) (by rfl) (by rfl) (by decide) ?_
      refine Pa.mp 1 (pc' := 15) (l' := [(0, .int l), (1, .int 0), (2, .int 5)]) (st' := [.int 1]) (by rfl) ?_
      refine Pa.iret (by rfl) ?_
      show Pa N 147 6 [(0, .int l)] [.int 1] yA _
      refine Pa.iret (by rfl) ?_
      show Pa N 99 4 [(0, .ref 0), (1, .int l), (2, .int yd), (3, .int yv)] [.int 1] yA _
      refine Pa.if1k false (by rfl) (by rfl) (by decide) ?_
      show Pa N 99 7 [(0, .ref 0), (1, .int l), (2, .int yd), (3, .int yv)] [] yA _
      refine Pa.mp 1 (pc' := 8) (l' := [(0, .ref 0), (1, .int l), (2, .int yd), (3, .int yv)]) (st' := [.int yd]) (by rfl) ?_
      refine Pa.ist (by rfl) (by rfl) (.inl rfl) (by rfl) (by rfl) ?_
      show Pa N 148 0 [(0, .int yd)] [] yA _
      refine Pa.mp 1 (pc' := 1) (l' := [(0, .int yd)]) (st' := [.int yd]) (by rfl) ?_
      refine Pa.ic (x := 0) (pc' := 2) (by rfl) (by rfl) (by decide) ?_
      refine Pa.ic (x := 3599) (pc' := 5) (by rfl) (by rfl) (by decide) ?_
      refine Pa.ist (by rfl) (by rfl) (.inl rfl) (by rfl) (by rfl) ?_
      show Pa N 146 0 [(0, .int yd), (1, .int 0), (2, .int 3599)] [] yA _
      refine Pa.mp 2 (pc' := 2) (l' := [(0, .int yd), (1, .int 0), (2, .int 3599)]) (st' := [.int 0, .int yd]) (by rfl) ?_
      refine Pa.if2 (a := yd.toInt) (b := 0) (t := 14) (by rfl) (by rfl) (rfl) (by decide) (fun h5 => ?_) (fun h6 => ?_)
      · have h5 : yd.toInt < 0 := h5
        refine Pa.ic (x := 0) (pc' := 15) (by rfl) (by rfl) (by decide) ?_
        refine Pa.iret (by rfl) ?_
        show Pa N 148 8 [(0, .int yd)] [.int 0] yA _
        refine Pa.iret (by rfl) ?_
        show Pa N 99 11 [(0, .ref 0), (1, .int l), (2, .int yd), (3, .int yv)] [.int 0] yA _
        refine Pa.if1k true (by rfl) (by rfl) (by decide) ?_
        show Pa N 99 24 [(0, .ref 0), (1, .int l), (2, .int yd), (3, .int yv)] [] yA _
        refine Pa.ic (x := (-1)) (pc' := 25) (by rfl) (by rfl) (by decide) ?_
        refine Pa.iret (by rfl) ?_
        exact l3 h2 h4 h5
      · have h6 : 0 ≤ yd.toInt := h6
        refine Pa.mp 2 (pc' := 7) (l' := [(0, .int yd), (1, .int 0), (2, .int 3599)]) (st' := [.int 3599, .int yd]) (by rfl) ?_
        refine Pa.if2 (a := yd.toInt) (b := 3599) (t := 14) (by rfl) (by rfl) (rfl) (by decide) (fun h7 => ?_) (fun h8 => ?_)
        · have h7 : 3599 < yd.toInt := h7
          refine Pa.ic (x := 0) (pc' := 15) (by rfl) (by rfl) (by decide) ?_
          refine Pa.iret (by rfl) ?_
          show Pa N 148 8 [(0, .int yd)] [.int 0] yA _
          refine Pa.iret (by rfl) ?_
          show Pa N 99 11 [(0, .ref 0), (1, .int l), (2, .int yd), (3, .int yv)] [.int 0] yA _
          refine Pa.if1k true (by rfl) (by rfl) (by decide) ?_
          show Pa N 99 24 [(0, .ref 0), (1, .int l), (2, .int yd), (3, .int yv)] [] yA _
          refine Pa.ic (x := (-1)) (pc' := 25) (by rfl) (by rfl) (by decide) ?_
          refine Pa.iret (by rfl) ?_
          exact l4 h2 h4 h6 h7
        · have h8 : yd.toInt ≤ 3599 := h8
          refine Pa.ic (x := 1) (pc' := 11) (by rfl) (by rfl) (by decide) ?_
          refine Pa.mp 1 (pc' := 15) (l' := [(0, .int yd), (1, .int 0), (2, .int 3599)]) (st' := [.int 1]) (by rfl) ?_
          refine Pa.iret (by rfl) ?_
          show Pa N 148 8 [(0, .int yd)] [.int 1] yA _
          refine Pa.iret (by rfl) ?_
          show Pa N 99 11 [(0, .ref 0), (1, .int l), (2, .int yd), (3, .int yv)] [.int 1] yA _
          refine Pa.if1k false (by rfl) (by rfl) (by decide) ?_
          show Pa N 99 14 [(0, .ref 0), (1, .int l), (2, .int yd), (3, .int yv)] [] yA _
          refine Pa.mp 1 (pc' := 15) (l' := [(0, .ref 0), (1, .int l), (2, .int yd), (3, .int yv)]) (st' := [.int yv]) (by rfl) ?_
          refine Pa.ic (x := 1) (pc' := 16) (by rfl) (by rfl) (by decide) ?_
          refine Pa.icl (x := 99999) (pc' := 18) (by rfl) (fun _ _ _ => by rfl) (by decide) ?_
          refine Pa.ist (by rfl) (by rfl) (.inl rfl) (by rfl) (by rfl) ?_
          show Pa N 146 0 [(0, .int yv), (1, .int 1), (2, .int 99999)] [] yA _
          refine Pa.mp 2 (pc' := 2) (l' := [(0, .int yv), (1, .int 1), (2, .int 99999)]) (st' := [.int 1, .int yv]) (by rfl) ?_
          refine Pa.if2 (a := yv.toInt) (b := 1) (t := 14) (by rfl) (by rfl) (rfl) (by decide) (fun h9 => ?_) (fun h10 => ?_)
          · have h9 : yv.toInt < 1 := h9
            refine Pa.ic (x := 0) (pc' := 15) (by rfl) (by rfl) (by decide) ?_
            refine Pa.iret (by rfl) ?_
            show Pa N 99 21 [(0, .ref 0), (1, .int l), (2, .int yd), (3, .int yv)] [.int 0] yA _
            refine Pa.if1k false (by rfl) (by rfl) (by decide) ?_
            show Pa N 99 24 [(0, .ref 0), (1, .int l), (2, .int yd), (3, .int yv)] [] yA _
            refine Pa.ic (x := (-1)) (pc' := 25) (by rfl) (by rfl) (by decide) ?_
            refine Pa.iret (by rfl) ?_
            exact l5 h2 h4 h6 h8 h9
          · have h10 : 1 ≤ yv.toInt := h10
            refine Pa.mp 2 (pc' := 7) (l' := [(0, .int yv), (1, .int 1), (2, .int 99999)]) (st' := [.int 99999, .int yv]) (by rfl) ?_
            refine Pa.if2 (a := yv.toInt) (b := 99999) (t := 14) (by rfl) (by rfl) (rfl) (by decide) (fun h11 => ?_) (fun h12 => ?_)
            · have h11 : 99999 < yv.toInt := h11
              refine Pa.ic (x := 0) (pc' := 15) (by rfl) (by rfl) (by decide) ?_
              refine Pa.iret (by rfl) ?_
              show Pa N 99 21 [(0, .ref 0), (1, .int l), (2, .int yd), (3, .int yv)] [.int 0] yA _
              refine Pa.if1k false (by rfl) (by rfl) (by decide) ?_
              show Pa N 99 24 [(0, .ref 0), (1, .int l), (2, .int yd), (3, .int yv)] [] yA _
              refine Pa.ic (x := (-1)) (pc' := 25) (by rfl) (by rfl) (by decide) ?_
              refine Pa.iret (by rfl) ?_
              exact l6 h2 h4 h6 h8 h10 h11
            · have h12 : yv.toInt ≤ 99999 := h12
              refine Pa.ic (x := 1) (pc' := 11) (by rfl) (by rfl) (by decide) ?_
              refine Pa.mp 1 (pc' := 15) (l' := [(0, .int yv), (1, .int 1), (2, .int 99999)]) (st' := [.int 1]) (by rfl) ?_
              refine Pa.iret (by rfl) ?_
              show Pa N 99 21 [(0, .ref 0), (1, .int l), (2, .int yd), (3, .int yv)] [.int 1] yA _
              refine Pa.if1k true (by rfl) (by rfl) (by decide) ?_
              show Pa N 99 26 [(0, .ref 0), (1, .int l), (2, .int yd), (3, .int yv)] [] yA _
              refine Pa.mp 1 (pc' := 27) (l' := [(0, .ref 0), (1, .int l), (2, .int yd), (3, .int yv)]) (st' := [.ref 0]) (by rfl) ?_
              refine Pa.gfR (by rfl) (by rfl) (.inl rfl) (by rfl) ?_
              show Pa N 99 30 [(0, .ref 0), (1, .int l), (2, .int yd), (3, .int yv)] [.ref 20] yA _
              refine Pa.mp 3 (pc' := 33) (l' := [(0, .ref 0), (1, .int l), (2, .int yd), (3, .int yv)]) (st' := [.int yv, .int yd, .int l, .ref 20]) (by rfl) ?_
              refine Pa.inv (by rfl) (by rfl) (.inr rfl) (by rfl) ?_
              show Pa N 61 0 [(0, .ref 20), (1, .int l), (2, .int yd), (3, .int yv)] [] yA _
              refine Pa.mp 1 (pc' := 1) (l' := [(0, .ref 20), (1, .int l), (2, .int yd), (3, .int yv)]) (st' := [.ref 20]) (by rfl) ?_
              refine Pa.gfR (by rfl) (by rfl) (.inl rfl) (by rfl) ?_
              show Pa N 61 4 [(0, .ref 20), (1, .int l), (2, .int yd), (3, .int yv)] [.ref 23] yA _
              refine Pa.mp 1 (pc' := 5) (l' := [(0, .ref 20), (1, .int l), (2, .int yd), (3, .int yv)]) (st' := [.int l, .ref 23]) (by rfl) ?_
              refine Pa.alds (v := yA.1 23 l.toInt.toNat) (by rfl) (by rfl) (by rfl) (fun h13 h14 => ?_)
              have h13 : 0 ≤ l.toInt := h13
              have h14 : l.toInt < 6 := h14
              refine Pa.mp 2 (pc' := 10) (l' := [(4, .int (yA.1 23 l.toInt.toNat)), (0, .ref 20), (1, .int l), (2, .int yd), (3, .int yv)]) (st' := [.int (yA.1 23 l.toInt.toNat)]) (by rfl) ?_
              refine Pa.ic (x := 20) (pc' := 12) (by rfl) (by rfl) (by decide) ?_
              refine Pa.if2 (a := (yA.1 23 l.toInt.toNat).toInt) (b := 20) (t := 18) (by rfl) (by rfl) (rfl) (by decide) (fun h15 => ?_) (fun yh16 => ?_)
              · have h15 : (yA.1 23 l.toInt.toNat).toInt < 20 := h15
                refine Pa.mp 1 (pc' := 19) (l' := [(4, .int (yA.1 23 l.toInt.toNat)), (0, .ref 20), (1, .int l), (2, .int yd), (3, .int yv)]) (st' := [.ref 20]) (by rfl) ?_
                refine Pa.gfR (by rfl) (by rfl) (.inl rfl) (by rfl) ?_
                show Pa N 61 22 [(4, .int (yA.1 23 l.toInt.toNat)), (0, .ref 20), (1, .int l), (2, .int yd), (3, .int yv)] [.ref 21] yA _
                refine Pa.mp 1 (pc' := 23) (l' := [(4, .int (yA.1 23 l.toInt.toNat)), (0, .ref 20), (1, .int l), (2, .int yd), (3, .int yv)]) (st' := [.int l, .ref 21]) (by rfl) ?_
                refine Pa.ic (x := 20) (pc' := 25) (by rfl) (by rfl) (by decide) ?_
                refine Pa.mp 4 (pc' := 30) (l' := [(4, .int (yA.1 23 l.toInt.toNat)), (0, .ref 20), (1, .int l), (2, .int yd), (3, .int yv)]) (st' := [.int yd, .int ((l * 20) + (yA.1 23 l.toInt.toNat)), .ref 21]) (by rfl) ?_
                refine Pa.asts (j' := (((l * 20) + (yA.1 23 l.toInt.toNat)).toInt.toNat)) (by rfl) (by rfl) (by rfl) (fun h17 h18 => ?_)
                have h17 : 0 ≤ ((l * 20) + (yA.1 23 l.toInt.toNat)).toInt := h17
                have h18 : ((l * 20) + (yA.1 23 l.toInt.toNat)).toInt < 120 := h18
                show Pa N 61 31 [(4, .int (yA.1 23 l.toInt.toNat)), (0, .ref 20), (1, .int l), (2, .int yd), (3, .int yv)] [] (uI yA 21 (((l * 20) + (yA.1 23 l.toInt.toNat)).toInt.toNat) yd) _
                refine Pa.mp 1 (pc' := 32) (l' := [(4, .int (yA.1 23 l.toInt.toNat)), (0, .ref 20), (1, .int l), (2, .int yd), (3, .int yv)]) (st' := [.ref 20]) (by rfl) ?_
                refine Pa.gfR (by rfl) (by rfl) (.inl rfl) (by rfl) ?_
                show Pa N 61 35 [(4, .int (yA.1 23 l.toInt.toNat)), (0, .ref 20), (1, .int l), (2, .int yd), (3, .int yv)] [.ref 22] (uI yA 21 (((l * 20) + (yA.1 23 l.toInt.toNat)).toInt.toNat) yd) _
                refine Pa.mp 1 (pc' := 36) (l' := [(4, .int (yA.1 23 l.toInt.toNat)), (0, .ref 20), (1, .int l), (2, .int yd), (3, .int yv)]) (st' := [.int l, .ref 22]) (by rfl) ?_
                refine Pa.ic (x := 20) (pc' := 38) (by rfl) (by rfl) (by decide) ?_
                refine Pa.mp 4 (pc' := 43) (l' := [(4, .int (yA.1 23 l.toInt.toNat)), (0, .ref 20), (1, .int l), (2, .int yd), (3, .int yv)]) (st' := [.int yv, .int ((l * 20) + (yA.1 23 l.toInt.toNat)), .ref 22]) (by rfl) ?_
                refine Pa.asts (j' := (((l * 20) + (yA.1 23 l.toInt.toNat)).toInt.toNat)) (by rfl) (by rfl) (by rfl) (fun h19 h20 => ?_)
                have h19 : 0 ≤ ((l * 20) + (yA.1 23 l.toInt.toNat)).toInt := h19
                have h20 : ((l * 20) + (yA.1 23 l.toInt.toNat)).toInt < 120 := h20
                show Pa N 61 44 [(4, .int (yA.1 23 l.toInt.toNat)), (0, .ref 20), (1, .int l), (2, .int yd), (3, .int yv)] [] (uI (uI yA 21 (((l * 20) + (yA.1 23 l.toInt.toNat)).toInt.toNat) yd) 22 (((l * 20) + (yA.1 23 l.toInt.toNat)).toInt.toNat) yv) _
                refine Pa.mp 1 (pc' := 45) (l' := [(4, .int (yA.1 23 l.toInt.toNat)), (0, .ref 20), (1, .int l), (2, .int yd), (3, .int yv)]) (st' := [.ref 20]) (by rfl) ?_
                refine Pa.gfR (by rfl) (by rfl) (.inl rfl) (by rfl) ?_
                show Pa N 61 48 [(4, .int (yA.1 23 l.toInt.toNat)), (0, .ref 20), (1, .int l), (2, .int yd), (3, .int yv)] [.ref 23] (uI (uI yA 21 (((l * 20) + (yA.1 23 l.toInt.toNat)).toInt.toNat) yd) 22 (((l * 20) + (yA.1 23 l.toInt.toNat)).toInt.toNat) yv) _
                refine Pa.mp 2 (pc' := 51) (l' := [(4, .int (yA.1 23 l.toInt.toNat)), (0, .ref 20), (1, .int l), (2, .int yd), (3, .int yv)]) (st' := [.int (yA.1 23 l.toInt.toNat), .int l, .ref 23]) (by rfl) ?_
                refine Pa.ic (x := 1) (pc' := 52) (by rfl) (by rfl) (by decide) ?_
                refine Pa.mp 1 (pc' := 53) (l' := [(4, .int (yA.1 23 l.toInt.toNat)), (0, .ref 20), (1, .int l), (2, .int yd), (3, .int yv)]) (st' := [.int ((yA.1 23 l.toInt.toNat) + 1), .int l, .ref 23]) (by rfl) ?_
                refine Pa.asts (j' := l.toInt.toNat) (by rfl) (by rfl) (by rfl) (fun h21 h22 => ?_)
                have h21 : 0 ≤ l.toInt := h21
                have h22 : l.toInt < 6 := h22
                show Pa N 61 54 [(4, .int (yA.1 23 l.toInt.toNat)), (0, .ref 20), (1, .int l), (2, .int yd), (3, .int yv)] [] (uI (uI (uI yA 21 (((l * 20) + (yA.1 23 l.toInt.toNat)).toInt.toNat) yd) 22 (((l * 20) + (yA.1 23 l.toInt.toNat)).toInt.toNat) yv) 23 l.toInt.toNat ((yA.1 23 l.toInt.toNat) + 1)) _
                refine Pa.mp 1 (pc' := 56) (l' := [(4, .int (yA.1 23 l.toInt.toNat)), (0, .ref 20), (1, .int l), (2, .int yd), (3, .int yv)]) (st' := [.int (yA.1 23 l.toInt.toNat)]) (by rfl) ?_
                refine Pa.ic (x := 1) (pc' := 57) (by rfl) (by rfl) (by decide) ?_
                refine Pa.mp 1 (pc' := 58) (l' := [(4, .int (yA.1 23 l.toInt.toNat)), (0, .ref 20), (1, .int l), (2, .int yd), (3, .int yv)]) (st' := [.int ((yA.1 23 l.toInt.toNat) + 1)]) (by rfl) ?_
                refine Pa.iret (by rfl) ?_
                show Pa N 99 36 [(0, .ref 0), (1, .int l), (2, .int yd), (3, .int yv)] [.int ((yA.1 23 l.toInt.toNat) + 1)] (uI (uI (uI yA 21 (((l * 20) + (yA.1 23 l.toInt.toNat)).toInt.toNat) yd) 22 (((l * 20) + (yA.1 23 l.toInt.toNat)).toInt.toNat) yv) 23 l.toInt.toNat ((yA.1 23 l.toInt.toNat) + 1)) _
                refine Pa.iret (by rfl) ?_
                exact l7 h2 h4 h6 h8 h10 h12 h14 h15 h17 h18
              · have yh16 : 20 ≤ (yA.1 23 l.toInt.toNat).toInt := yh16
                refine Pa.ic (x := (-2)) (pc' := 17) (by rfl) (by rfl) (by decide) ?_
                refine Pa.iret (by rfl) ?_
                show Pa N 99 36 [(0, .ref 0), (1, .int l), (2, .int yd), (3, .int yv)] [.int (-2)] yA _
                refine Pa.iret (by rfl) ?_
                exact l8 h2 h4 h6 h8 h10 h12 h14 yh16
theorem bm_coin {N : Nat} {yA : AW} {yQ : Option Value → AW → Prop} (l yd yv : Int32)
    (l1 : l.toInt < 0 → yQ (some (.int (-1))) yA)
    (l2 : 0 ≤ l.toInt → 5 < l.toInt → yQ (some (.int (-1))) yA)
    (l3 : 0 ≤ l.toInt → l.toInt ≤ 5 → yd.toInt < 0 → yQ (some (.int (-1))) yA)
    (l4 : 0 ≤ l.toInt → l.toInt ≤ 5 → 0 ≤ yd.toInt → 3599 < yd.toInt → yQ (some (.int (-1))) yA)
    (l5 : 0 ≤ l.toInt → l.toInt ≤ 5 → 0 ≤ yd.toInt → yd.toInt ≤ 3599 → yv.toInt < 1 → yQ (some (.int (-1))) yA)
    (l6 : 0 ≤ l.toInt → l.toInt ≤ 5 → 0 ≤ yd.toInt → yd.toInt ≤ 3599 → 1 ≤ yv.toInt → 99999 < yv.toInt → yQ (some (.int (-1))) yA)
    (l7 : 0 ≤ l.toInt → l.toInt ≤ 5 → 0 ≤ yd.toInt → yd.toInt ≤ 3599 → 1 ≤ yv.toInt → yv.toInt ≤ 99999 → l.toInt < 6 → (yA.1 72 l.toInt.toNat).toInt ≠ 20 → 0 ≤ ((20 * l) + (yA.1 72 l.toInt.toNat)).toInt → ((20 * l) + (yA.1 72 l.toInt.toNat)).toInt < 120 → yQ (some (.int ((yA.1 72 l.toInt.toNat) + 1))) (uI (uI (uI yA 70 (((20 * l) + (yA.1 72 l.toInt.toNat)).toInt.toNat) yd) 71 (((20 * l) + (yA.1 72 l.toInt.toNat)).toInt.toNat) yv) 72 l.toInt.toNat ((yA.1 72 l.toInt.toNat) + 1)))
    (l8 : 0 ≤ l.toInt → l.toInt ≤ 5 → 0 ≤ yd.toInt → yd.toInt ≤ 3599 → 1 ≤ yv.toInt → yv.toInt ≤ 99999 → l.toInt < 6 → (yA.1 72 l.toInt.toNat).toInt = 20 → yQ (some (.int (-2))) yA) :
    Pa N 161 0 [(0, .ref 69), (1, .int l), (2, .int yd), (3, .int yv)] [] yA yQ := by
  refine Pa.mp 1 (pc' := 1) (l' := [(0, .ref 69), (1, .int l), (2, .int yd), (3, .int yv)]) (st' := [.int l]) (by rfl) ?_
  refine Pa.ist (by rfl) (by rfl) (.inl rfl) (by rfl) (by rfl) ?_
  show Pa N 154 0 [(0, .int l)] [] yA _
  refine Pa.mp 1 (pc' := 1) (l' := [(0, .int l)]) (st' := [.int l]) (by rfl) ?_
  refine Pa.ic (x := 0) (pc' := 2) (by rfl) (by rfl) (by decide) ?_
  refine Pa.ic (x := 5) (pc' := 3) (by rfl) (by rfl) (by decide) ?_
  refine Pa.ist (by rfl) (by rfl) (.inl rfl) (by rfl) (by rfl) ?_
  show Pa N 152 0 [(0, .int l), (1, .int 0), (2, .int 5)] [] yA _
  refine Pa.mp 2 (pc' := 2) (l' := [(0, .int l), (1, .int 0), (2, .int 5)]) (st' := [.int 0, .int l]) (by rfl) ?_
  refine Pa.if2 (a := l.toInt) (b := 0) (t := 14) (by rfl) (by rfl) (rfl) (by decide) (fun h1 => ?_) (fun h2 => ?_)
  · have h1 : l.toInt < 0 := h1
    refine Pa.ic (x := 0) (pc' := 15) (by rfl) (by rfl) (by decide) ?_
    refine Pa.iret (by rfl) ?_
    show Pa N 154 6 [(0, .int l)] [.int 0] yA _
    refine Pa.iret (by rfl) ?_
    show Pa N 161 4 [(0, .ref 69), (1, .int l), (2, .int yd), (3, .int yv)] [.int 0] yA _
    refine Pa.if1k true (by rfl) (by rfl) (by decide) ?_
    show Pa N 161 24 [(0, .ref 69), (1, .int l), (2, .int yd), (3, .int yv)] [] yA _
    refine Pa.ic (x := (-1)) (pc' := 25) (by rfl) (by rfl) (by decide) ?_
    refine Pa.iret (by rfl) ?_
    exact l1 h1
  · have h2 : 0 ≤ l.toInt := h2
    refine Pa.mp 2 (pc' := 7) (l' := [(0, .int l), (1, .int 0), (2, .int 5)]) (st' := [.int 5, .int l]) (by rfl) ?_
    refine Pa.if2 (a := l.toInt) (b := 5) (t := 14) (by rfl) (by rfl) (rfl) (by decide) (fun h3 => ?_) (fun h4 => ?_)
    · have h3 : 5 < l.toInt := h3
      refine Pa.ic (x := 0) (pc' := 15) (by rfl) (by rfl) (by decide) ?_
      refine Pa.iret (by rfl) ?_
      show Pa N 154 6 [(0, .int l)] [.int 0] yA _
      refine Pa.iret (by rfl) ?_
      show Pa N 161 4 [(0, .ref 69), (1, .int l), (2, .int yd), (3, .int yv)] [.int 0] yA _
      refine Pa.if1k true (by rfl) (by rfl) (by decide) ?_
      show Pa N 161 24 [(0, .ref 69), (1, .int l), (2, .int yd), (3, .int yv)] [] yA _
      refine Pa.ic (x := (-1)) (pc' := 25) (by rfl) (by rfl) (by decide) ?_
      refine Pa.iret (by rfl) ?_
      exact l2 h2 h3
    · have h4 : l.toInt ≤ 5 := h4
      refine Pa.ic (x := 1) (pc' := 11) (by rfl) (by rfl) (by decide) ?_
      refine Pa.mp 1 (pc' := 15) (l' := [(0, .int l), (1, .int 0), (2, .int 5)]) (st' := [.int 1]) (by rfl) ?_
      refine Pa.iret (by rfl) ?_
      show Pa N 154 6 [(0, .int l)] [.int 1] yA _
      refine Pa.iret (by rfl) ?_
      show Pa N 161 4 [(0, .ref 69), (1, .int l), (2, .int yd), (3, .int yv)] [.int 1] yA _
      refine Pa.if1k false (by rfl) (by rfl) (by decide) ?_
      show Pa N 161 7 [(0, .ref 69), (1, .int l), (2, .int yd), (3, .int yv)] [] yA _
      refine Pa.mp 1 (pc' := 8) (l' := [(0, .ref 69), (1, .int l), (2, .int yd), (3, .int yv)]) (st' := [.int yd]) (by rfl) ?_
      refine Pa.ist (by rfl) (by rfl) (.inl rfl) (by rfl) (by rfl) ?_
      show Pa N 153 0 [(0, .int yd)] [] yA _
      refine Pa.mp 1 (pc' := 1) (l' := [(0, .int yd)]) (st' := [.int yd]) (by rfl) ?_
      refine Pa.ic (x := 0) (pc' := 2) (by rfl) (by rfl) (by decide) ?_
      refine Pa.ic (x := 3599) (pc' := 5) (by rfl) (by rfl) (by decide) ?_
      refine Pa.ist (by rfl) (by rfl) (.inl rfl) (by rfl) (by rfl) ?_
      show Pa N 152 0 [(0, .int yd), (1, .int 0), (2, .int 3599)] [] yA _
      refine Pa.mp 2 (pc' := 2) (l' := [(0, .int yd), (1, .int 0), (2, .int 3599)]) (st' := [.int 0, .int yd]) (by rfl) ?_
      refine Pa.if2 (a := yd.toInt) (b := 0) (t := 14) (by rfl) (by rfl) (rfl) (by decide) (fun h5 => ?_) (fun h6 => ?_)
      · have h5 : yd.toInt < 0 := h5
        refine Pa.ic (x := 0) (pc' := 15) (by rfl) (by rfl) (by decide) ?_
        refine Pa.iret (by rfl) ?_
        show Pa N 153 8 [(0, .int yd)] [.int 0] yA _
        refine Pa.iret (by rfl) ?_
        show Pa N 161 11 [(0, .ref 69), (1, .int l), (2, .int yd), (3, .int yv)] [.int 0] yA _
        refine Pa.if1k true (by rfl) (by rfl) (by decide) ?_
        show Pa N 161 24 [(0, .ref 69), (1, .int l), (2, .int yd), (3, .int yv)] [] yA _
        refine Pa.ic (x := (-1)) (pc' := 25) (by rfl) (by rfl) (by decide) ?_
        refine Pa.iret (by rfl) ?_
        exact l3 h2 h4 h5
      · have h6 : 0 ≤ yd.toInt := h6
        refine Pa.mp 2 (pc' := 7) (l' := [(0, .int yd), (1, .int 0), (2, .int 3599)]) (st' := [.int 3599, .int yd]) (by rfl) ?_
        refine Pa.if2 (a := yd.toInt) (b := 3599) (t := 14) (by rfl) (by rfl) (rfl) (by decide) (fun h7 => ?_) (fun h8 => ?_)
        · have h7 : 3599 < yd.toInt := h7
          refine Pa.ic (x := 0) (pc' := 15) (by rfl) (by rfl) (by decide) ?_
          refine Pa.iret (by rfl) ?_
          show Pa N 153 8 [(0, .int yd)] [.int 0] yA _
          refine Pa.iret (by rfl) ?_
          show Pa N 161 11 [(0, .ref 69), (1, .int l), (2, .int yd), (3, .int yv)] [.int 0] yA _
          refine Pa.if1k true (by rfl) (by rfl) (by decide) ?_
          show Pa N 161 24 [(0, .ref 69), (1, .int l), (2, .int yd), (3, .int yv)] [] yA _
          refine Pa.ic (x := (-1)) (pc' := 25) (by rfl) (by rfl) (by decide) ?_
          refine Pa.iret (by rfl) ?_
          exact l4 h2 h4 h6 h7
        · have h8 : yd.toInt ≤ 3599 := h8
          refine Pa.ic (x := 1) (pc' := 11) (by rfl) (by rfl) (by decide) ?_
          refine Pa.mp 1 (pc' := 15) (l' := [(0, .int yd), (1, .int 0), (2, .int 3599)]) (st' := [.int 1]) (by rfl) ?_
          refine Pa.iret (by rfl) ?_
          show Pa N 153 8 [(0, .int yd)] [.int 1] yA _
          refine Pa.iret (by rfl) ?_
          show Pa N 161 11 [(0, .ref 69), (1, .int l), (2, .int yd), (3, .int yv)] [.int 1] yA _
          refine Pa.if1k false (by rfl) (by rfl) (by decide) ?_
          show Pa N 161 14 [(0, .ref 69), (1, .int l), (2, .int yd), (3, .int yv)] [] yA _
          refine Pa.mp 1 (pc' := 15) (l' := [(0, .ref 69), (1, .int l), (2, .int yd), (3, .int yv)]) (st' := [.int yv]) (by rfl) ?_
          refine Pa.ic (x := 1) (pc' := 16) (by rfl) (by rfl) (by decide) ?_
          refine Pa.icl (x := 99999) (pc' := 18) (by rfl) (fun _ _ _ => by rfl) (by decide) ?_
          refine Pa.ist (by rfl) (by rfl) (.inl rfl) (by rfl) (by rfl) ?_
          show Pa N 152 0 [(0, .int yv), (1, .int 1), (2, .int 99999)] [] yA _
          refine Pa.mp 2 (pc' := 2) (l' := [(0, .int yv), (1, .int 1), (2, .int 99999)]) (st' := [.int 1, .int yv]) (by rfl) ?_
          refine Pa.if2 (a := yv.toInt) (b := 1) (t := 14) (by rfl) (by rfl) (rfl) (by decide) (fun h9 => ?_) (fun h10 => ?_)
          · have h9 : yv.toInt < 1 := h9
            refine Pa.ic (x := 0) (pc' := 15) (by rfl) (by rfl) (by decide) ?_
            refine Pa.iret (by rfl) ?_
            show Pa N 161 21 [(0, .ref 69), (1, .int l), (2, .int yd), (3, .int yv)] [.int 0] yA _
            refine Pa.if1k false (by rfl) (by rfl) (by decide) ?_
            show Pa N 161 24 [(0, .ref 69), (1, .int l), (2, .int yd), (3, .int yv)] [] yA _
            refine Pa.ic (x := (-1)) (pc' := 25) (by rfl) (by rfl) (by decide) ?_
            refine Pa.iret (by rfl) ?_
            exact l5 h2 h4 h6 h8 h9
          · have h10 : 1 ≤ yv.toInt := h10
            refine Pa.mp 2 (pc' := 7) (l' := [(0, .int yv), (1, .int 1), (2, .int 99999)]) (st' := [.int 99999, .int yv]) (by rfl) ?_
            refine Pa.if2 (a := yv.toInt) (b := 99999) (t := 14) (by rfl) (by rfl) (rfl) (by decide) (fun h11 => ?_) (fun h12 => ?_)
            · have h11 : 99999 < yv.toInt := h11
              refine Pa.ic (x := 0) (pc' := 15) (by rfl) (by rfl) (by decide) ?_
              refine Pa.iret (by rfl) ?_
              show Pa N 161 21 [(0, .ref 69), (1, .int l), (2, .int yd), (3, .int yv)] [.int 0] yA _
              refine Pa.if1k false (by rfl) (by rfl) (by decide) ?_
              show Pa N 161 24 [(0, .ref 69), (1, .int l), (2, .int yd), (3, .int yv)] [] yA _
              refine Pa.ic (x := (-1)) (pc' := 25) (by rfl) (by rfl) (by decide) ?_
              refine Pa.iret (by rfl) ?_
              exact l6 h2 h4 h6 h8 h10 h11
            · have h12 : yv.toInt ≤ 99999 := h12
              refine Pa.ic (x := 1) (pc' := 11) (by rfl) (by rfl) (by decide) ?_
              refine Pa.mp 1 (pc' := 15) (l' := [(0, .int yv), (1, .int 1), (2, .int 99999)]) (st' := [.int 1]) (by rfl) ?_
              refine Pa.iret (by rfl) ?_
              show Pa N 161 21 [(0, .ref 69), (1, .int l), (2, .int yd), (3, .int yv)] [.int 1] yA _
              refine Pa.if1k true (by rfl) (by rfl) (by decide) ?_
              show Pa N 161 26 [(0, .ref 69), (1, .int l), (2, .int yd), (3, .int yv)] [] yA _
              refine Pa.mp 1 (pc' := 27) (l' := [(0, .ref 69), (1, .int l), (2, .int yd), (3, .int yv)]) (st' := [.ref 69]) (by rfl) ?_
              refine Pa.gfR (by rfl) (by rfl) (.inl rfl) (by rfl) ?_
              show Pa N 161 30 [(0, .ref 69), (1, .int l), (2, .int yd), (3, .int yv)] [.ref 72] yA _
              refine Pa.mp 1 (pc' := 31) (l' := [(0, .ref 69), (1, .int l), (2, .int yd), (3, .int yv)]) (st' := [.int l, .ref 72]) (by rfl) ?_
              refine Pa.alds (v := yA.1 72 l.toInt.toNat) (by rfl) (by rfl) (by rfl) (fun h13 h14 => ?_)
              have h13 : 0 ≤ l.toInt := h13
              have h14 : l.toInt < 6 := h14
              refine Pa.ic (x := 20) (pc' := 34) (by rfl) (by rfl) (by decide) ?_
              refine Pa.if2 (a := (yA.1 72 l.toInt.toNat).toInt) (b := 20) (t := 40) (by rfl) (by rfl) (rfl) (by decide) (fun h15 => ?_) (fun yh16 => ?_)
              · have h15 : (yA.1 72 l.toInt.toNat).toInt ≠ 20 := h15
                refine Pa.mp 1 (pc' := 41) (l' := [(0, .ref 69), (1, .int l), (2, .int yd), (3, .int yv)]) (st' := [.ref 69]) (by rfl) ?_
                refine Pa.gfR (by rfl) (by rfl) (.inl rfl) (by rfl) ?_
                show Pa N 161 44 [(0, .ref 69), (1, .int l), (2, .int yd), (3, .int yv)] [.ref 70] yA _
                refine Pa.ic (x := 20) (pc' := 46) (by rfl) (by rfl) (by decide) ?_
                refine Pa.mp 3 (pc' := 49) (l' := [(0, .ref 69), (1, .int l), (2, .int yd), (3, .int yv)]) (st' := [.ref 69, .int (20 * l), .ref 70]) (by rfl) ?_
                refine Pa.gfR (by rfl) (by rfl) (.inl rfl) (by rfl) ?_
                show Pa N 161 52 [(0, .ref 69), (1, .int l), (2, .int yd), (3, .int yv)] [.ref 72, .int (20 * l), .ref 70] yA _
                refine Pa.mp 1 (pc' := 53) (l' := [(0, .ref 69), (1, .int l), (2, .int yd), (3, .int yv)]) (st' := [.int l, .ref 72, .int (20 * l), .ref 70]) (by rfl) ?_
                refine Pa.alds (v := yA.1 72 l.toInt.toNat) (by rfl) (by rfl) (by rfl) (fun h17 h18 => ?_)
                have h17 : 0 ≤ l.toInt := h17
                have h18 : l.toInt < 6 := h18
                refine Pa.mp 2 (pc' := 56) (l' := [(0, .ref 69), (1, .int l), (2, .int yd), (3, .int yv)]) (st' := [.int yd, .int ((20 * l) + (yA.1 72 l.toInt.toNat)), .ref 70]) (by rfl) ?_
                refine Pa.asts (j' := (((20 * l) + (yA.1 72 l.toInt.toNat)).toInt.toNat)) (by rfl) (by rfl) (by rfl) (fun h19 h20 => ?_)
                have h19 : 0 ≤ ((20 * l) + (yA.1 72 l.toInt.toNat)).toInt := h19
                have h20 : ((20 * l) + (yA.1 72 l.toInt.toNat)).toInt < 120 := h20
                show Pa N 161 57 [(0, .ref 69), (1, .int l), (2, .int yd), (3, .int yv)] [] (uI yA 70 (((20 * l) + (yA.1 72 l.toInt.toNat)).toInt.toNat) yd) _
                refine Pa.mp 1 (pc' := 58) (l' := [(0, .ref 69), (1, .int l), (2, .int yd), (3, .int yv)]) (st' := [.ref 69]) (by rfl) ?_
                refine Pa.gfR (by rfl) (by rfl) (.inl rfl) (by rfl) ?_
                show Pa N 161 61 [(0, .ref 69), (1, .int l), (2, .int yd), (3, .int yv)] [.ref 71] (uI yA 70 (((20 * l) + (yA.1 72 l.toInt.toNat)).toInt.toNat) yd) _
                refine Pa.ic (x := 20) (pc' := 63) (by rfl) (by rfl) (by decide) ?_
                refine Pa.mp 3 (pc' := 66) (l' := [(0, .ref 69), (1, .int l), (2, .int yd), (3, .int yv)]) (st' := [.ref 69, .int (20 * l), .ref 71]) (by rfl) ?_
                refine Pa.gfR (by rfl) (by rfl) (.inl rfl) (by rfl) ?_
                show Pa N 161 69 [(0, .ref 69), (1, .int l), (2, .int yd), (3, .int yv)] [.ref 72, .int (20 * l), .ref 71] (uI yA 70 (((20 * l) + (yA.1 72 l.toInt.toNat)).toInt.toNat) yd) _
                refine Pa.mp 1 (pc' := 70) (l' := [(0, .ref 69), (1, .int l), (2, .int yd), (3, .int yv)]) (st' := [.int l, .ref 72, .int (20 * l), .ref 71]) (by rfl) ?_
                refine Pa.alds (v := yA.1 72 l.toInt.toNat) (by rfl) (by rfl) (by show (uI yA 70 (((20 * l) + (yA.1 72 l.toInt.toNat)).toInt.toNat) yd).1 72 l.toInt.toNat = yA.1 72 l.toInt.toNat; rw [uI_c (by decide)]) (fun h21 h22 => ?_)
                have h21 : 0 ≤ l.toInt := h21
                have h22 : l.toInt < 6 := h22
                refine Pa.mp 2 (pc' := 73) (l' := [(0, .ref 69), (1, .int l), (2, .int yd), (3, .int yv)]) (st' := [.int yv, .int ((20 * l) + (yA.1 72 l.toInt.toNat)), .ref 71]) (by rfl) ?_
                refine Pa.asts (j' := (((20 * l) + (yA.1 72 l.toInt.toNat)).toInt.toNat)) (by rfl) (by rfl) (by rfl) (fun h23 h24 => ?_)
                have h23 : 0 ≤ ((20 * l) + (yA.1 72 l.toInt.toNat)).toInt := h23
                have h24 : ((20 * l) + (yA.1 72 l.toInt.toNat)).toInt < 120 := h24
                show Pa N 161 74 [(0, .ref 69), (1, .int l), (2, .int yd), (3, .int yv)] [] (uI (uI yA 70 (((20 * l) + (yA.1 72 l.toInt.toNat)).toInt.toNat) yd) 71 (((20 * l) + (yA.1 72 l.toInt.toNat)).toInt.toNat) yv) _
                refine Pa.mp 1 (pc' := 75) (l' := [(0, .ref 69), (1, .int l), (2, .int yd), (3, .int yv)]) (st' := [.ref 69]) (by rfl) ?_
                refine Pa.gfR (by rfl) (by rfl) (.inl rfl) (by rfl) ?_
                show Pa N 161 78 [(0, .ref 69), (1, .int l), (2, .int yd), (3, .int yv)] [.ref 72] (uI (uI yA 70 (((20 * l) + (yA.1 72 l.toInt.toNat)).toInt.toNat) yd) 71 (((20 * l) + (yA.1 72 l.toInt.toNat)).toInt.toNat) yv) _
                refine Pa.mp 2 (pc' := 80) (l' := [(0, .ref 69), (1, .int l), (2, .int yd), (3, .int yv)]) (st' := [.int l, .ref 72, .int l, .ref 72]) (by rfl) ?_
                refine Pa.alds (v := yA.1 72 l.toInt.toNat) (by rfl) (by rfl) (by show (uI (uI yA 70 (((20 * l) + (yA.1 72 l.toInt.toNat)).toInt.toNat) yd) 71 (((20 * l) + (yA.1 72 l.toInt.toNat)).toInt.toNat) yv).1 72 l.toInt.toNat = yA.1 72 l.toInt.toNat; rw [uI_c (by decide), uI_c (by decide)]) (fun h25 h26 => ?_)
                have h25 : 0 ≤ l.toInt := h25
                have h26 : l.toInt < 6 := h26
                refine Pa.ic (x := 1) (pc' := 82) (by rfl) (by rfl) (by decide) ?_
                refine Pa.mp 1 (pc' := 83) (l' := [(0, .ref 69), (1, .int l), (2, .int yd), (3, .int yv)]) (st' := [.int ((yA.1 72 l.toInt.toNat) + 1), .int l, .ref 72]) (by rfl) ?_
                refine Pa.asts (j' := l.toInt.toNat) (by rfl) (by rfl) (by rfl) (fun h27 h28 => ?_)
                have h27 : 0 ≤ l.toInt := h27
                have h28 : l.toInt < 6 := h28
                show Pa N 161 84 [(0, .ref 69), (1, .int l), (2, .int yd), (3, .int yv)] [] (uI (uI (uI yA 70 (((20 * l) + (yA.1 72 l.toInt.toNat)).toInt.toNat) yd) 71 (((20 * l) + (yA.1 72 l.toInt.toNat)).toInt.toNat) yv) 72 l.toInt.toNat ((yA.1 72 l.toInt.toNat) + 1)) _
                refine Pa.mp 1 (pc' := 85) (l' := [(0, .ref 69), (1, .int l), (2, .int yd), (3, .int yv)]) (st' := [.ref 69]) (by rfl) ?_
                refine Pa.gfR (by rfl) (by rfl) (.inl rfl) (by rfl) ?_
                show Pa N 161 88 [(0, .ref 69), (1, .int l), (2, .int yd), (3, .int yv)] [.ref 72] (uI (uI (uI yA 70 (((20 * l) + (yA.1 72 l.toInt.toNat)).toInt.toNat) yd) 71 (((20 * l) + (yA.1 72 l.toInt.toNat)).toInt.toNat) yv) 72 l.toInt.toNat ((yA.1 72 l.toInt.toNat) + 1)) _
                refine Pa.mp 1 (pc' := 89) (l' := [(0, .ref 69), (1, .int l), (2, .int yd), (3, .int yv)]) (st' := [.int l, .ref 72]) (by rfl) ?_
                refine Pa.alds (v := (yA.1 72 l.toInt.toNat) + 1) (by rfl) (by rfl) (by show (uI (uI (uI yA 70 (((20 * l) + (yA.1 72 l.toInt.toNat)).toInt.toNat) yd) 71 (((20 * l) + (yA.1 72 l.toInt.toNat)).toInt.toNat) yv) 72 l.toInt.toNat ((yA.1 72 l.toInt.toNat) + 1)).1 72 l.toInt.toNat = (yA.1 72 l.toInt.toNat) + 1; rw [uI_h]) (fun h29 h30 => ?_)
                have h29 : 0 ≤ l.toInt := h29
                have h30 : l.toInt < 6 := h30
                refine Pa.iret (by rfl) ?_
                exact l7 h2 h4 h6 h8 h10 h12 h14 h15 h19 h20
              · have yh16 : (yA.1 72 l.toInt.toNat).toInt = 20 := yh16
                refine Pa.ic (x := (-2)) (pc' := 39) (by rfl) (by rfl) (by decide) ?_
                refine Pa.iret (by rfl) ?_
                exact l8 h2 h4 h6 h8 h10 h12 h14 yh16
def cnOk (l yd : Int32) : Prop := 0 ≤ l.toInt ∧ l.toInt ≤ 5 ∧ 0 ≤ yd.toInt ∧ yd.toInt ≤ 3599
def dCoinOn (l yd : Int32) (yA : AW) (yu : Option Value) (A1 : AW) : Prop := A1 = yA ∧ ((¬ cnOk l yd ∧ yu = some (.int (-1))) ∨ (cnOk l yd ∧ yu = some (.int (cofX yA l yd))))
def eCoinOn (l yd : Int32) (yA : AW) (yu : Option Value) (A1 : AW) : Prop := A1 = yA ∧ ((¬ cnOk l yd ∧ yu = some (.int (-1))) ∨ (cnOk l yd ∧ yu = some (.int (cofM yA l yd))))
def ciOk (l yd yv : Int32) : Prop := 0 ≤ l.toInt ∧ l.toInt ≤ 5 ∧ 0 ≤ yd.toInt ∧ yd.toInt ≤ 3599 ∧ 1 ≤ yv.toInt ∧ yv.toInt ≤ 99999
def coinX (yA : AW) (l yd yv : Int32) : AW := uI (uI (uI yA 21 (l * 20 + yA.1 23 l.toInt.toNat).toInt.toNat yd) 22 (l * 20 + yA.1 23 l.toInt.toNat).toInt.toNat yv) 23 l.toInt.toNat (yA.1 23 l.toInt.toNat + 1)
def coinM (yA : AW) (l yd yv : Int32) : AW := uI (uI (uI yA 70 (20 * l + yA.1 72 l.toInt.toNat).toInt.toNat yd) 71 (20 * l + yA.1 72 l.toInt.toNat).toInt.toNat yv) 72 l.toInt.toNat (yA.1 72 l.toInt.toNat + 1)
def dCoin (l yd yv : Int32) (yA : AW) (yu : Option Value) (A1 : AW) : Prop := (¬ ciOk l yd yv ∧ yu = some (.int (-1)) ∧ A1 = yA) ∨ (ciOk l yd yv ∧ 20 ≤ (yA.1 23 l.toInt.toNat).toInt ∧ yu = some (.int (-2)) ∧ A1 = yA) ∨ (ciOk l yd yv ∧ (yA.1 23 l.toInt.toNat).toInt < 20 ∧ yu = some (.int (yA.1 23 l.toInt.toNat + 1)) ∧ A1 = coinX yA l yd yv)
theorem d_coin (N : Nat) (yA : AW) (l yd yv : Int32) : Pa N 99 0 [(0, .ref 0), (1, .int l), (2, .int yd), (3, .int yv)] [] yA (dCoin l yd yv yA) := by
  refine bx_coin l yd yv ?_ ?_ ?_ ?_ ?_ ?_ ?_ ?_
  all_goals
    intros
    unfold dCoin ciOk
    first
      | exact .inl ⟨by omega, rfl, rfl⟩
      | exact .inr (.inl ⟨by omega, by omega, rfl, rfl⟩)
      | exact .inr (.inr ⟨by omega, by omega, rfl, rfl⟩)
def eCoin (l yd yv : Int32) (yA : AW) (yu : Option Value) (A1 : AW) : Prop := (¬ ciOk l yd yv ∧ yu = some (.int (-1)) ∧ A1 = yA) ∨ (ciOk l yd yv ∧ (yA.1 72 l.toInt.toNat).toInt = 20 ∧ yu = some (.int (-2)) ∧ A1 = yA) ∨ (ciOk l yd yv ∧ (yA.1 72 l.toInt.toNat).toInt ≠ 20 ∧ yu = some (.int (yA.1 72 l.toInt.toNat + 1)) ∧ A1 = coinM yA l yd yv)
theorem e_coin (N : Nat) (yA : AW) (l yd yv : Int32) : Pa N 161 0 [(0, .ref 69), (1, .int l), (2, .int yd), (3, .int yv)] [] yA (eCoin l yd yv yA) := by
  refine bm_coin l yd yv ?_ ?_ ?_ ?_ ?_ ?_ ?_ ?_
  all_goals
    intros
    unfold eCoin ciOk
    first
      | exact .inl ⟨by omega, rfl, rfl⟩
      | exact .inr (.inl ⟨by omega, by omega, rfl, rfl⟩)
      | exact .inr (.inr ⟨by omega, by omega, rfl, rfl⟩)
/-! what is equal of coins -/
def Ar4 : zRA := [(21, 70), (22, 71), (23, 72)]
def RX4c (yA : AW) : Prop := ∀ yL, yL < 6 → ∀ yj, yj < (yA.1 72 yL).toInt.toNat → 0 ≤ (yA.1 70 (20 * yL + yj)).toInt
theorem cR4_of {yA : AW} (hA : okA yA) (hR : eqRs Ar4 yA) (hX : RX4c yA) : cR4 yA := by
  have yr1 : eqR 120 (21, 70) yA := hR (21, 70) (by simp [Ar4]) 120 (by decide +kernel)
  have r3 : eqR 6 (23, 72) yA := hR (23, 72) (by simp [Ar4]) 6 (by decide +kernel)
  intro yL hL
  have g1 := hA.arr (i := 23) (t := 0) (n := 6) (j := yL) (lo := 0) (hi := 20) (by rfl) hL
  have g2 := hA.arr (i := 72) (t := 0) (n := 6) (j := yL) (lo := 0) (hi := 20) (by rfl) hL
  refine ⟨g1, g2, fun yj hj => ?_⟩
  have ye : yA.1 23 yL = yA.1 72 yL := r3 yL hL
  rw [ye] at hj
  have ye2 : yA.1 21 (20 * yL + yj) = yA.1 70 (20 * yL + yj) := yr1 _ (by omega)
  show 0 ≤ (yA.1 21 (20 * yL + yj)).toInt
  rw [ye2]
  exact hX yL hL yj hj
theorem bst_congr {yF yG : Nat → Int32} {yd : Int32} : ∀ {yn : Nat}, (∀ yj, yj < yn → yF yj = yG yj) → bst yF yd yn = bst yG yd yn
  | 0, _ => rfl
  | yn + 1, yh => by
    have yih := bst_congr (yd := yd) (yn := yn) (fun yj hj => yh yj (by omega))
    unfold bst
    rw [yih, yh yn (by omega)]
    split
    next => rfl
    next yq ye =>
      have := bst_lt ye
      rw [yh yq (by omega)]
theorem k_coinOn {yA A1 A2 : AW} {l yd yx yy : Int32} (hA : okA yA) (hR : eqRs Ar4 yA) (hX : RX4c yA) (ys1 : dCoinOn l yd yA (some (.int yx)) A1) (ys2 : eCoinOn l yd A1 (some (.int yy)) A2) : eqRs Ar4 A2 ∧ RX4c A2 ∧ yx = yy := by
  obtain ⟨rfl, ys1⟩ := ys1
  obtain ⟨rfl, ys2⟩ := ys2
  refine ⟨hR, hX, ?_⟩
  rcases ys1 with ⟨ya1, a2⟩ | ⟨ya1, a2⟩
  · rcases ys2 with ⟨b1, b2⟩ | ⟨b1, b2⟩
    · rw [some_int a2, some_int b2]
    · exact absurd b1 ya1
  · rcases ys2 with ⟨b1, b2⟩ | ⟨b1, b2⟩
    · exact absurd ya1 b1
    · rw [some_int a2, some_int b2]
      have yr1 : eqR 120 (21, 70) A2 := hR (21, 70) (by simp [Ar4]) 120 (by decide +kernel)
      have r2 : eqR 120 (22, 71) A2 := hR (22, 71) (by simp [Ar4]) 120 (by decide +kernel)
      have r3 : eqR 6 (23, 72) A2 := hR (23, 72) (by simp [Ar4]) 6 (by decide +kernel)
      have hL : l.toInt.toNat < 6 := by have := ya1.2.1; have := ya1.1; omega
      have g2 := hA.arr (i := 72) (t := 0) (n := 6) (j := l.toInt.toNat) (lo := 0) (hi := 20) (by rfl) hL
      have ye3 : A2.1 23 l.toInt.toNat = A2.1 72 l.toInt.toNat := r3 _ hL
      unfold cofX cofM
      rw [ye3, bst_congr (yF := cnF A2 21 l.toInt.toNat) (yG := cnF A2 70 l.toInt.toNat) (fun yj hj => yr1 _ (by omega))]
      cases yhb : bst (cnF A2 70 l.toInt.toNat) yd (A2.1 72 l.toInt.toNat).toInt.toNat with
      | none => rfl
      | some yq =>
        have := bst_lt yhb
        exact r2 _ (by omega)
theorem k_coin {yA A1 A2 : AW} {l yd yv yx yy : Int32} (hA : okA yA) (hR : eqRs Ar4 yA) (hX : RX4c yA) (ys1 : dCoin l yd yv yA (some (.int yx)) A1) (ys2 : eCoin l yd yv A1 (some (.int yy)) A2) : eqRs Ar4 A2 ∧ RX4c A2 ∧ yx = yy := by
  have yr1 : eqR 120 (21, 70) yA := hR (21, 70) (by simp [Ar4]) 120 (by decide +kernel)
  have r2 : eqR 120 (22, 71) yA := hR (22, 71) (by simp [Ar4]) 120 (by decide +kernel)
  have r3 : eqR 6 (23, 72) yA := hR (23, 72) (by simp [Ar4]) 6 (by decide +kernel)
  rcases ys1 with ⟨ya1, a2, rfl⟩ | ⟨ya1, a2, a3, rfl⟩ | ⟨ya1, a2, a3, rfl⟩
  · rcases ys2 with ⟨b1, b2, rfl⟩ | ⟨b1, b2, b3, rfl⟩ | ⟨b1, b2, b3, rfl⟩
    · exact ⟨hR, hX, by rw [some_int a2, some_int b2]⟩
    · exact absurd b1 ya1
    · exact absurd b1 ya1
  · have hL : l.toInt.toNat < 6 := by have := ya1.2.1; have := ya1.1; omega
    have ye3 : A1.1 23 l.toInt.toNat = A1.1 72 l.toInt.toNat := r3 _ hL
    have g2 := hA.arr (i := 72) (t := 0) (n := 6) (j := l.toInt.toNat) (lo := 0) (hi := 20) (by rfl) hL
    rcases ys2 with ⟨b1, b2, rfl⟩ | ⟨b1, b2, b3, rfl⟩ | ⟨b1, b2, b3, rfl⟩
    · exact absurd ya1 b1
    · exact ⟨hR, hX, by rw [some_int a3, some_int b3]⟩
    · rw [ye3] at a2; omega
  · obtain ⟨yL, hLl⟩ : ∃ yL, l.toInt.toNat = yL := ⟨_, rfl⟩
    have hL : yL < 6 := by have := ya1.2.1; have := ya1.1; omega
    have ye3 : yA.1 23 yL = yA.1 72 yL := r3 _ hL
    have g2 := hA.arr (i := 72) (t := 0) (n := 6) (j := yL) (lo := 0) (hi := 20) (by rfl) hL
    rw [hLl, ye3] at a2 a3
    obtain ⟨yc, yhc⟩ : ∃ yc, (yA.1 72 yL).toInt.toNat = yc := ⟨_, rfl⟩
    have ix : (20 * l + yA.1 72 yL).toInt.toNat = 20 * yL + yc := by
      rw [i20a ya1.1 ya1.2.1 g2.1 g2.2]
      have := ya1.1
      omega
    have hX1 : coinX yA l yd yv = uI (uI (uI yA 21 (20 * yL + yc) yd) 22 (20 * yL + yc) yv) 23 yL (yA.1 72 yL + 1) := by
      unfold coinX
      rw [hLl, ye3, Int32.mul_comm l 20, ix]
    have ye72 : (coinX yA l yd yv).1 72 yL = yA.1 72 yL := by rw [hX1]; simp [uI]
    have hM1 : coinM (coinX yA l yd yv) l yd yv = uI (uI (uI (coinX yA l yd yv) 70 (20 * yL + yc) yd) 71 (20 * yL + yc) yv) 72 yL (yA.1 72 yL + 1) := by
      unfold coinM
      rw [hLl, ye72, ix]
    unfold eCoin at ys2
    rw [hLl, ye72] at ys2
    rcases ys2 with ⟨b1, b2, rfl⟩ | ⟨b1, b2, b3, rfl⟩ | ⟨b1, b2, b3, rfl⟩
    · exact absurd ya1 b1
    · omega
    · have hT1 : (yA.1 72 yL + 1).toInt = (yA.1 72 yL).toInt + 1 := i32_add1 (by omega)
      rw [hM1, hX1]
      refine ⟨?_, ?_, by rw [some_int a3, some_int b3]⟩
      · intro yq hqq ym yhm yj hj
        have hq0 := hR yq hqq ym yhm yj hj
        simp only [Ar4, List.mem_cons, List.not_mem_nil, or_false] at hqq
        rcases hqq with rfl | rfl | rfl
        · simp only at hq0
          simp [uI]
          split
          · rfl
          · exact hq0
        · simp only at hq0
          simp [uI]
          split
          · rfl
          · exact hq0
        · simp only at hq0
          simp [uI]
          split
          · rfl
          · exact hq0
      · intro yK yhK yj hj
        have gK := hA.arr (i := 72) (t := 0) (n := 6) (j := yK) (lo := 0) (hi := 20) (by rfl) yhK
        rw [uI_row] at hj
        rw [uI_c (by decide), uI_c (by decide), uI_row]
        by_cases ye : yK = yL
        · rw [if_pos ye, hT1] at hj
          by_cases ye2 : 20 * yK + yj = 20 * yL + yc
          · rw [if_pos ye2]
            exact ya1.2.2.1
          · rw [if_neg ye2, uI_c (by decide), uI_c (by decide), uI_c (by decide)]
            exact hX yK yhK yj (by rw [ye] at ye2 ⊢; omega)
        · rw [if_neg ye, uI_c (by decide), uI_c (by decide), uI_c (by decide), uI_c (by decide), uI_c (by decide)] at hj
          rw [if_neg (by omega), uI_c (by decide), uI_c (by decide), uI_c (by decide)]
          exact hX yK yhK yj hj
