/-! RELATE -/
theorem bx_relate {N : Nat} {yA : AW} {yQ : Option Value → AW → Prop} (ya yb : Int32)
    (l1 : ya.toInt < 0 → yQ (some (.int (-1))) yA)
    (l2 : 0 ≤ ya.toInt → (yA.1 1 3).toInt ≤ ya.toInt → yQ (some (.int (-1))) yA)
    (l3 : 0 ≤ ya.toInt → ya.toInt < (yA.1 1 3).toInt → yb.toInt < 0 → yQ (some (.int (-1))) yA)
    (l4 : 0 ≤ ya.toInt → ya.toInt < (yA.1 1 3).toInt → 0 ≤ yb.toInt → (yA.1 1 3).toInt ≤ yb.toInt → yQ (some (.int (-1))) yA)
    (l5 : 0 ≤ ya.toInt → ya.toInt < (yA.1 1 3).toInt → 0 ≤ yb.toInt → yb.toInt < (yA.1 1 3).toInt → ya.toInt ≠ yb.toInt → ((ya * 20) + yb).toInt < 0 → 0 ≤ ((ya * 20) + yb).toInt → ((ya * 20) + yb).toInt < 400 → 0 ≤ ((yb * 20) + ya).toInt → ((yb * 20) + ya).toInt < 400 → yQ (some (.int 1)) (uI (uI yA 4 (((ya * 20) + yb).toInt.toNat) (yA.1 0 10)) 4 (((yb * 20) + ya).toInt.toNat) (yA.1 0 10)))
    (l6 : 0 ≤ ya.toInt → ya.toInt < (yA.1 1 3).toInt → 0 ≤ yb.toInt → yb.toInt < (yA.1 1 3).toInt → ya.toInt ≠ yb.toInt → 0 ≤ ((ya * 20) + yb).toInt → 400 ≤ ((ya * 20) + yb).toInt → ((ya * 20) + yb).toInt < 400 → 0 ≤ ((yb * 20) + ya).toInt → ((yb * 20) + ya).toInt < 400 → yQ (some (.int 1)) (uI (uI yA 4 (((ya * 20) + yb).toInt.toNat) (yA.1 0 10)) 4 (((yb * 20) + ya).toInt.toNat) (yA.1 0 10)))
    (l7 : 0 ≤ ya.toInt → ya.toInt < (yA.1 1 3).toInt → 0 ≤ yb.toInt → yb.toInt < (yA.1 1 3).toInt → ya.toInt ≠ yb.toInt → 0 ≤ ((ya * 20) + yb).toInt → ((ya * 20) + yb).toInt < 400 → 3599 < (yA.1 4 (((ya * 20) + yb).toInt.toNat)).toInt → 0 ≤ ((yb * 20) + ya).toInt → ((yb * 20) + ya).toInt < 400 → yQ (some (.int 1)) (uI (uI yA 4 (((ya * 20) + yb).toInt.toNat) (yA.1 0 10)) 4 (((yb * 20) + ya).toInt.toNat) (yA.1 0 10)))
    (l8 : 0 ≤ ya.toInt → ya.toInt < (yA.1 1 3).toInt → 0 ≤ yb.toInt → yb.toInt < (yA.1 1 3).toInt → ya.toInt ≠ yb.toInt → 0 ≤ ((ya * 20) + yb).toInt → ((ya * 20) + yb).toInt < 400 → (yA.1 4 (((ya * 20) + yb).toInt.toNat)).toInt ≤ 3599 → yQ (some (.int (-3))) yA)
    (l9 : 0 ≤ ya.toInt → ya.toInt < (yA.1 1 3).toInt → 0 ≤ yb.toInt → yb.toInt < (yA.1 1 3).toInt → ya.toInt = yb.toInt → yQ (some (.int (-1))) yA) :
    Pa N 102 0 [(0, .ref 0), (1, .int ya), (2, .int yb)] [] yA yQ := by
  refine Pa.mp 1 (pc' := 1) (l' := [(0, .ref 0), (1, .int ya), (2, .int yb)]) (st' := [.ref 0]) (by rfl) ?_
  refine Pa.gfR (by rfl) (by rfl) (.inl rfl) (by rfl) ?_
  show Pa N 102 4 [(0, .ref 0), (1, .int ya), (2, .int yb)] [.ref 1] yA _
  refine Pa.mp 1 (pc' := 5) (l' := [(0, .ref 0), (1, .int ya), (2, .int yb)]) (st' := [.int ya, .ref 1]) (by rfl) ?_
  refine Pa.inv (by rfl) (by rfl) (.inr rfl) (by rfl) ?_
  show Pa N 48 0 [(0, .ref 1), (1, .int ya)] [] yA _
  refine Pa.mp 1 (pc' := 1) (l' := [(0, .ref 1), (1, .int ya)]) (st' := [.int ya]) (by rfl) ?_
  refine Pa.if1 (a := ya.toInt) (t := 16) (by rfl) (by rfl) (rfl) (fun h1 => ?_) (fun h2 => ?_)
  · have h1 : ya.toInt < 0 := h1
    refine Pa.ic (x := 0) (pc' := 17) (by rfl) (by rfl) (by decide) ?_
    refine Pa.iret (by rfl) ?_
    show Pa N 102 8 [(0, .ref 0), (1, .int ya), (2, .int yb)] [.int 0] yA _
    refine Pa.if1k true (by rfl) (by rfl) (by decide) ?_
    show Pa N 102 27 [(0, .ref 0), (1, .int ya), (2, .int yb)] [] yA _
    refine Pa.ic (x := (-1)) (pc' := 28) (by rfl) (by rfl) (by decide) ?_
    refine Pa.iret (by rfl) ?_
    exact l1 h1
  · have h2 : 0 ≤ ya.toInt := h2
    refine Pa.mp 2 (pc' := 6) (l' := [(0, .ref 1), (1, .int ya)]) (st' := [.ref 1, .int ya]) (by rfl) ?_
    refine Pa.gfI (v := yA.1 1 3) (by rfl) (by rfl) (.inl rfl) (by rfl) (by rfl) ?_
    refine Pa.if2 (a := ya.toInt) (b := (yA.1 1 3).toInt) (t := 16) (by rfl) (by rfl) (rfl) (rfl) (fun h3 => ?_) (fun h4 => ?_)
    · have h3 : (yA.1 1 3).toInt ≤ ya.toInt := h3
      refine Pa.ic (x := 0) (pc' := 17) (by rfl) (by rfl) (by decide) ?_
      refine Pa.iret (by rfl) ?_
      show Pa N 102 8 [(0, .ref 0), (1, .int ya), (2, .int yb)] [.int 0] yA _
      refine Pa.if1k true (by rfl) (by rfl) (by decide) ?_
      show Pa N 102 27 [(0, .ref 0), (1, .int ya), (2, .int yb)] [] yA _
      refine Pa.ic (x := (-1)) (pc' := 28) (by rfl) (by rfl) (by decide) ?_
      refine Pa.iret (by rfl) ?_
      exact l2 h2 h3
    · have h4 : ya.toInt < (yA.1 1 3).toInt := h4
      refine Pa.ic (x := 1) (pc' := 13) (by rfl) (by rfl) (by decide) ?_
      refine Pa.mp 1 (pc' := 17) (l' := [(0, .ref 1), (1, .int ya)]) (st' := [.int 1]) (by rfl) ?_
      refine Pa.iret (by rfl) ?_
      show Pa N 102 8 [(0, .ref 0), (1, .int ya), (2, .int yb)] [.int 1] yA _
      refine Pa.if1k false (by rfl) (by rfl) (by decide) ?_
      show Pa N 102 11 [(0, .ref 0), (1, .int ya), (2, .int yb)] [] yA _
      refine Pa.mp 1 (pc' := 12) (l' := [(0, .ref 0), (1, .int ya), (2, .int yb)]) (st' := [.ref 0]) (by rfl) ?_
      refine Pa.gfR (by rfl) (by rfl) (.inl rfl) (by rfl) ?_
      show Pa N 102 15 [(0, .ref 0), (1, .int ya), (2, .int yb)] [.ref 1] yA _
      refine Pa.mp 1 (pc' := 16) (l' := [(0, .ref 0), (1, .int ya), (2, .int yb)]) (st' := [.int yb, .ref 1]) (by rfl) ?_
      refine Pa.inv (by rfl) (by rfl) (.inr rfl) (by rfl) ?_
      show Pa N 48 0 [(0, .ref 1), (1, .int yb)] [] yA _
      refine Pa.mp 1 (pc' := 1) (l' := [(0, .ref 1), (1, .int yb)]) (st' := [.int yb]) (by rfl) ?_
      refine Pa.if1 (a := yb.toInt) (t := 16) (by rfl) (by rfl) (rfl) (fun h5 => ?_) (fun h6 => ?_)
      · have h5 : yb.toInt < 0 := h5
        refine Pa.ic (x := 0) (pc' := 17) (by rfl) (by rfl) (by decide) ?_
        refine Pa.iret (by rfl) ?_
        show Pa N 102 19 [(0, .ref 0), (1, .int ya), (2, .int yb)] [.int 0] yA _
        refine Pa.if1k true (by rfl) (by rfl) (by decide) ?_
        show Pa N 102 27 [(0, .ref 0), (1, .int ya), (2, .int yb)] [] yA _
        refine Pa.ic (x := (-1)) (pc' := 28) (by rfl) (by rfl) (by decide) ?_
        refine Pa.iret (by rfl) ?_
        exact l3 h2 h4 h5
      · have h6 : 0 ≤ yb.toInt := h6
        refine Pa.mp 2 (pc' := 6) (l' := [(0, .ref 1), (1, .int yb)]) (st' := [.ref 1, .int yb]) (by rfl) ?_
        refine Pa.gfI (v := yA.1 1 3) (by rfl) (by rfl) (.inl rfl) (by rfl) (by rfl) ?_
        refine Pa.if2 (a := yb.toInt) (b := (yA.1 1 3).toInt) (t := 16) (by rfl) (by rfl) (rfl) (rfl) (fun h7 => ?_) (fun h8 => ?_)
        · have h7 : (yA.1 1 3).toInt ≤ yb.toInt := h7
          refine Pa.ic (x := 0) (pc' := 17) (by rfl) (by rfl) (by decide) ?_
          refine Pa.iret (by rfl) ?_
          show Pa N 102 19 [(0, .ref 0), (1, .int ya), (2, .int yb)] [.int 0] yA _
          refine Pa.if1k true (by rfl) (by rfl) (by decide) ?_
          show Pa N 102 27 [(0, .ref 0), (1, .int ya), (2, .int yb)] [] yA _
          refine Pa.ic (x := (-1)) (pc' := 28) (by rfl) (by rfl) (by decide) ?_
          refine Pa.iret (by rfl) ?_
          exact l4 h2 h4 h6 h7
        · have h8 : yb.toInt < (yA.1 1 3).toInt := h8
          refine Pa.ic (x := 1) (pc' := 13) (by rfl) (by rfl) (by decide) ?_
          refine Pa.mp 1 (pc' := 17) (l' := [(0, .ref 1), (1, .int yb)]) (st' := [.int 1]) (by rfl) ?_
          refine Pa.iret (by rfl) ?_
          show Pa N 102 19 [(0, .ref 0), (1, .int ya), (2, .int yb)] [.int 1] yA _
          refine Pa.if1k false (by rfl) (by rfl) (by decide) ?_
          show Pa N 102 22 [(0, .ref 0), (1, .int ya), (2, .int yb)] [] yA _
          refine Pa.mp 2 (pc' := 24) (l' := [(0, .ref 0), (1, .int ya), (2, .int yb)]) (st' := [.int yb, .int ya]) (by rfl) ?_
          refine Pa.if2 (a := ya.toInt) (b := yb.toInt) (t := 29) (by rfl) (by rfl) (rfl) (rfl) (fun h9 => ?_) (fun h10 => ?_)
          · have h9 : ya.toInt ≠ yb.toInt := h9
            refine Pa.mp 1 (pc' := 30) (l' := [(0, .ref 0), (1, .int ya), (2, .int yb)]) (st' := [.ref 0]) (by rfl) ?_
            refine Pa.gfR (by rfl) (by rfl) (.inl rfl) (by rfl) ?_
            show Pa N 102 33 [(0, .ref 0), (1, .int ya), (2, .int yb)] [.ref 1] yA _
            refine Pa.mp 3 (pc' := 36) (l' := [(0, .ref 0), (1, .int ya), (2, .int yb)]) (st' := [.ref 0, .int yb, .int ya, .ref 1]) (by rfl) ?_
            refine Pa.gfI (v := yA.1 0 10) (by rfl) (by rfl) (.inl rfl) (by rfl) (by rfl) ?_
            refine Pa.inv (by rfl) (by rfl) (.inr rfl) (by rfl) ?_
            show Pa N 52 0 [(0, .ref 1), (1, .int ya), (2, .int yb), (3, .int (yA.1 0 10))] [] yA _
            refine Pa.mp 3 (pc' := 3) (l' := [(0, .ref 1), (1, .int ya), (2, .int yb), (3, .int (yA.1 0 10))]) (st' := [.int yb, .int ya, .ref 1]) (by rfl) ?_
            refine Pa.ic (x := 3599) (pc' := 6) (by rfl) (by rfl) (by decide) ?_
            refine Pa.inv (by rfl) (by rfl) (.inl rfl) (by rfl) ?_
            show Pa N 51 0 [(0, .ref 1), (1, .int ya), (2, .int yb), (3, .int 3599)] [] yA _
            refine Pa.mp 1 (pc' := 1) (l' := [(0, .ref 1), (1, .int ya), (2, .int yb), (3, .int 3599)]) (st' := [.int ya]) (by rfl) ?_
            refine Pa.ic (x := 20) (pc' := 3) (by rfl) (by rfl) (by decide) ?_
            refine Pa.mp 5 (pc' := 10) (l' := [(4, .int ((ya * 20) + yb)), (0, .ref 1), (1, .int ya), (2, .int yb), (3, .int 3599)]) (st' := [.int ((ya * 20) + yb)]) (by rfl) ?_
            refine Pa.if1 (a := ((ya * 20) + yb).toInt) (t := 38) (by rfl) (by rfl) (rfl) (fun h11 => ?_) (fun h12 => ?_)
            · have h11 : ((ya * 20) + yb).toInt < 0 := h11
              refine Pa.ic (x := 0) (pc' := 39) (by rfl) (by rfl) (by decide) ?_
              refine Pa.iret (by rfl) ?_
              show Pa N 52 9 [(0, .ref 1), (1, .int ya), (2, .int yb), (3, .int (yA.1 0 10))] [.int 0] yA _
              refine Pa.if1k true (by rfl) (by rfl) (by decide) ?_
              show Pa N 52 15 [(0, .ref 1), (1, .int ya), (2, .int yb), (3, .int (yA.1 0 10))] [] yA _
              refine Pa.mp 1 (pc' := 16) (l' := [(0, .ref 1), (1, .int ya), (2, .int yb), (3, .int (yA.1 0 10))]) (st' := [.ref 1]) (by rfl) ?_
              refine Pa.gfR (by rfl) (by rfl) (.inl rfl) (by rfl) ?_
              show Pa N 52 19 [(0, .ref 1), (1, .int ya), (2, .int yb), (3, .int (yA.1 0 10))] [.ref 4] yA _
              refine Pa.mp 1 (pc' := 20) (l' := [(0, .ref 1), (1, .int ya), (2, .int yb), (3, .int (yA.1 0 10))]) (st' := [.int ya, .ref 4]) (by rfl) ?_
              refine Pa.ic (x := 20) (pc' := 22) (by rfl) (by rfl) (by decide) ?_
              refine Pa.mp 4 (pc' := 26) (l' := [(0, .ref 1), (1, .int ya), (2, .int yb), (3, .int (yA.1 0 10))]) (st' := [.int (yA.1 0 10), .int ((ya * 20) + yb), .ref 4]) (by rfl) ?_
              refine Pa.asts (j' := (((ya * 20) + yb).toInt.toNat)) (by rfl) (by rfl) (by rfl) (fun h13 h14 => ?_)
              have h13 : 0 ≤ ((ya * 20) + yb).toInt := h13
              have h14 : ((ya * 20) + yb).toInt < 400 := h14
              show Pa N 52 27 [(0, .ref 1), (1, .int ya), (2, .int yb), (3, .int (yA.1 0 10))] [] (uI yA 4 (((ya * 20) + yb).toInt.toNat) (yA.1 0 10)) _
              refine Pa.mp 1 (pc' := 28) (l' := [(0, .ref 1), (1, .int ya), (2, .int yb), (3, .int (yA.1 0 10))]) (st' := [.ref 1]) (by rfl) ?_
              refine Pa.gfR (by rfl) (by rfl) (.inl rfl) (by rfl) ?_
              show Pa N 52 31 [(0, .ref 1), (1, .int ya), (2, .int yb), (3, .int (yA.1 0 10))] [.ref 4] (uI yA 4 (((ya * 20) + yb).toInt.toNat) (yA.1 0 10)) _
              refine Pa.mp 1 (pc' := 32) (l' := [(0, .ref 1), (1, .int ya), (2, .int yb), (3, .int (yA.1 0 10))]) (st' := [.int yb, .ref 4]) (by rfl) ?_
              refine Pa.ic (x := 20) (pc' := 34) (by rfl) (by rfl) (by decide) ?_
              refine Pa.mp 4 (pc' := 38) (l' := [(0, .ref 1), (1, .int ya), (2, .int yb), (3, .int (yA.1 0 10))]) (st' := [.int (yA.1 0 10), .int ((yb * 20) + ya), .ref 4]) (by rfl) ?_
              refine Pa.asts (j' := (((yb * 20) + ya).toInt.toNat)) (by rfl) (by rfl) (by rfl) (fun h15 yh16 => ?_)
              have h15 : 0 ≤ ((yb * 20) + ya).toInt := h15
              have yh16 : ((yb * 20) + ya).toInt < 400 := yh16
              show Pa N 52 39 [(0, .ref 1), (1, .int ya), (2, .int yb), (3, .int (yA.1 0 10))] [] (uI (uI yA 4 (((ya * 20) + yb).toInt.toNat) (yA.1 0 10)) 4 (((yb * 20) + ya).toInt.toNat) (yA.1 0 10)) _
              refine Pa.ic (x := 1) (pc' := 40) (by rfl) (by rfl) (by decide) ?_
              refine Pa.iret (by rfl) ?_
              show Pa N 102 42 [(0, .ref 0), (1, .int ya), (2, .int yb)] [.int 1] (uI (uI yA 4 (((ya * 20) + yb).toInt.toNat) (yA.1 0 10)) 4 (((yb * 20) + ya).toInt.toNat) (yA.1 0 10)) _
              refine Pa.iret (by rfl) ?_
              exact l5 h2 h4 h6 h8 h9 h11 h13 h14 h15 yh16
            · have h12 : 0 ≤ ((ya * 20) + yb).toInt := h12
              refine Pa.mp 2 (pc' := 16) (l' := [(4, .int ((ya * 20) + yb)), (0, .ref 1), (1, .int ya), (2, .int yb), (3, .int 3599)]) (st' := [.ref 1, .int ((ya * 20) + yb)]) (by rfl) ?_
              refine Pa.gfR (by rfl) (by rfl) (.inl rfl) (by rfl) ?_
              show Pa N 51 19 [(4, .int ((ya * 20) + yb)), (0, .ref 1), (1, .int ya), (2, .int yb), (3, .int 3599)] [.ref 4, .int ((ya * 20) + yb)] yA _
              refine Pa.lens (x := 400) (by rfl) (by rfl) (by decide) ?_
              refine Pa.if2 (a := ((ya * 20) + yb).toInt) (b := 400) (t := 38) (by rfl) (by rfl) (rfl) (by decide) (fun h17 => ?_) (fun h18 => ?_)
              · have h17 : 400 ≤ ((ya * 20) + yb).toInt := h17
                refine Pa.ic (x := 0) (pc' := 39) (by rfl) (by rfl) (by decide) ?_
                refine Pa.iret (by rfl) ?_
                show Pa N 52 9 [(0, .ref 1), (1, .int ya), (2, .int yb), (3, .int (yA.1 0 10))] [.int 0] yA _
                refine Pa.if1k true (by rfl) (by rfl) (by decide) ?_
                show Pa N 52 15 [(0, .ref 1), (1, .int ya), (2, .int yb), (3, .int (yA.1 0 10))] [] yA _
                refine Pa.mp 1 (pc' := 16) (l' := [(0, .ref 1), (1, .int ya), (2, .int yb), (3, .int (yA.1 0 10))]) (st' := [.ref 1]) (by rfl) ?_
                refine Pa.gfR (by rfl) (by rfl) (.inl rfl) (by rfl) ?_
                show Pa N 52 19 [(0, .ref 1), (1, .int ya), (2, .int yb), (3, .int (yA.1 0 10))] [.ref 4] yA _
                refine Pa.mp 1 (pc' := 20) (l' := [(0, .ref 1), (1, .int ya), (2, .int yb), (3, .int (yA.1 0 10))]) (st' := [.int ya, .ref 4]) (by rfl) ?_
                refine Pa.ic (x := 20) (pc' := 22) (by rfl) (by rfl) (by decide) ?_
                refine Pa.mp 4 (pc' := 26) (l' := [(0, .ref 1), (1, .int ya), (2, .int yb), (3, .int (yA.1 0 10))]) (st' := [.int (yA.1 0 10), .int ((ya * 20) + yb), .ref 4]) (by rfl) ?_
                refine Pa.asts (j' := (((ya * 20) + yb).toInt.toNat)) (by rfl) (by rfl) (by rfl) (fun h19 h20 => ?_)
                have h19 : 0 ≤ ((ya * 20) + yb).toInt := h19
                have h20 : ((ya * 20) + yb).toInt < 400 := h20
                show Pa N 52 27 [(0, .ref 1), (1, .int ya), (2, .int yb), (3, .int (yA.1 0 10))] [] (uI yA 4 (((ya * 20) + yb).toInt.toNat) (yA.1 0 10)) _
                refine Pa.mp 1 (pc' := 28) (l' := [(0, .ref 1), (1, .int ya), (2, .int yb), (3, .int (yA.1 0 10))]) (st' := [.ref 1]) (by rfl) ?_
                refine Pa.gfR (by rfl) (by rfl) (.inl rfl) (by rfl) ?_
                show Pa N 52 31 [(0, .ref 1), (1, .int ya), (2, .int yb), (3, .int (yA.1 0 10))] [.ref 4] (uI yA 4 (((ya * 20) + yb).toInt.toNat) (yA.1 0 10)) _
                refine Pa.mp 1 (pc' := 32) (l' := [(0, .ref 1), (1, .int ya), (2, .int yb), (3, .int (yA.1 0 10))]) (st' := [.int yb, .ref 4]) (by rfl) ?_
                refine Pa.ic (x := 20) (pc' := 34) (by rfl) (by rfl) (by decide) ?_
                refine Pa.mp 4 (pc' := 38) (l' := [(0, .ref 1), (1, .int ya), (2, .int yb), (3, .int (yA.1 0 10))]) (st' := [.int (yA.1 0 10), .int ((yb * 20) + ya), .ref 4]) (by rfl) ?_
                refine Pa.asts (j' := (((yb * 20) + ya).toInt.toNat)) (by rfl) (by rfl) (by rfl) (fun h21 h22 => ?_)
                have h21 : 0 ≤ ((yb * 20) + ya).toInt := h21
                have h22 : ((yb * 20) + ya).toInt < 400 := h22
                show Pa N 52 39 [(0, .ref 1), (1, .int ya), (2, .int yb), (3, .int (yA.1 0 10))] [] (uI (uI yA 4 (((ya * 20) + yb).toInt.toNat) (yA.1 0 10)) 4 (((yb * 20) + ya).toInt.toNat) (yA.1 0 10)) _
                refine Pa.ic (x := 1) (pc' := 40) (by rfl) (by rfl) (by decide) ?_
                refine Pa.iret (by rfl) ?_
                show Pa N 102 42 [(0, .ref 0), (1, .int ya), (2, .int yb)] [.int 1] (uI (uI yA 4 (((ya * 20) + yb).toInt.toNat) (yA.1 0 10)) 4 (((yb * 20) + ya).toInt.toNat) (yA.1 0 10)) _
                refine Pa.iret (by rfl) ?_
                exact l6 h2 h4 h6 h8 h9 h12 h17 h20 h21 h22
              · have h18 : ((ya * 20) + yb).toInt < 400 := h18
                refine Pa.mp 1 (pc' := 24) (l' := [(4, .int ((ya * 20) + yb)), (0, .ref 1), (1, .int ya), (2, .int yb), (3, .int 3599)]) (st' := [.ref 1]) (by rfl) ?_
                refine Pa.gfR (by rfl) (by rfl) (.inl rfl) (by rfl) ?_
                show Pa N 51 27 [(4, .int ((ya * 20) + yb)), (0, .ref 1), (1, .int ya), (2, .int yb), (3, .int 3599)] [.ref 4] yA _
                refine Pa.mp 1 (pc' := 29) (l' := [(4, .int ((ya * 20) + yb)), (0, .ref 1), (1, .int ya), (2, .int yb), (3, .int 3599)]) (st' := [.int ((ya * 20) + yb), .ref 4]) (by rfl) ?_
                refine Pa.alds (v := yA.1 4 (((ya * 20) + yb).toInt.toNat)) (by rfl) (by rfl) (by rfl) (fun h23 h24 => ?_)
                have h23 : 0 ≤ ((ya * 20) + yb).toInt := h23
                have h24 : ((ya * 20) + yb).toInt < 400 := h24
                refine Pa.mp 1 (pc' := 31) (l' := [(4, .int ((ya * 20) + yb)), (0, .ref 1), (1, .int ya), (2, .int yb), (3, .int 3599)]) (st' := [.int 3599, .int (yA.1 4 (((ya * 20) + yb).toInt.toNat))]) (by rfl) ?_
                refine Pa.if2 (a := (yA.1 4 (((ya * 20) + yb).toInt.toNat)).toInt) (b := 3599) (t := 38) (by rfl) (by rfl) (rfl) (by decide) (fun h25 => ?_) (fun h26 => ?_)
                · have h25 : 3599 < (yA.1 4 (((ya * 20) + yb).toInt.toNat)).toInt := h25
                  refine Pa.ic (x := 0) (pc' := 39) (by rfl) (by rfl) (by decide) ?_
                  refine Pa.iret (by rfl) ?_
                  show Pa N 52 9 [(0, .ref 1), (1, .int ya), (2, .int yb), (3, .int (yA.1 0 10))] [.int 0] yA _
                  refine Pa.if1k true (by rfl) (by rfl) (by decide) ?_
                  show Pa N 52 15 [(0, .ref 1), (1, .int ya), (2, .int yb), (3, .int (yA.1 0 10))] [] yA _
                  refine Pa.mp 1 (pc' := 16) (l' := [(0, .ref 1), (1, .int ya), (2, .int yb), (3, .int (yA.1 0 10))]) (st' := [.ref 1]) (by rfl) ?_
                  refine Pa.gfR (by rfl) (by rfl) (.inl rfl) (by rfl) ?_
                  show Pa N 52 19 [(0, .ref 1), (1, .int ya), (2, .int yb), (3, .int (yA.1 0 10))] [.ref 4] yA _
                  refine Pa.mp 1 (pc' := 20) (l' := [(0, .ref 1), (1, .int ya), (2, .int yb), (3, .int (yA.1 0 10))]) (st' := [.int ya, .ref 4]) (by rfl) ?_
                  refine Pa.ic (x := 20) (pc' := 22) (by rfl) (by rfl) (by decide) ?_
                  refine Pa.mp 4 (pc' := 26) (l' := [(0, .ref 1), (1, .int ya), (2, .int yb), (3, .int (yA.1 0 10))]) (st' := [.int (yA.1 0 10), .int ((ya * 20) + yb), .ref 4]) (by rfl) ?_
                  refine Pa.asts (j' := (((ya * 20) + yb).toInt.toNat)) (by rfl) (by rfl) (by rfl) (fun h27 h28 => ?_)
                  have h27 : 0 ≤ ((ya * 20) + yb).toInt := h27
                  have h28 : ((ya * 20) + yb).toInt < 400 := h28
                  show Pa N 52 27 [(0, .ref 1), (1, .int ya), (2, .int yb), (3, .int (yA.1 0 10))] [] (uI yA 4 (((ya * 20) + yb).toInt.toNat) (yA.1 0 10)) _
                  refine Pa.mp 1 (pc' := 28) (l' := [(0, .ref 1), (1, .int ya), (2, .int yb), (3, .int (yA.1 0 10))]) (st' := [.ref 1]) (by rfl) ?_
                  refine Pa.gfR (by rfl) (by rfl) (.inl rfl) (by rfl) ?_
                  show Pa N 52 31 [(0, .ref 1), (1, .int ya), (2, .int yb), (3, .int (yA.1 0 10))] [.ref 4] (uI yA 4 (((ya * 20) + yb).toInt.toNat) (yA.1 0 10)) _
                  refine Pa.mp 1 (pc' := 32) (l' := [(0, .ref 1), (1, .int ya), (2, .int yb), (3, .int (yA.1 0 10))]) (st' := [.int yb, .ref 4]) (by rfl) ?_
                  refine Pa.ic (x := 20) (pc' := 34) (by rfl) (by rfl) (by decide) ?_
                  refine Pa.mp 4 (pc' := 38) (l' := [(0, .ref 1), (1, .int ya), (2, .int yb), (3, .int (yA.1 0 10))]) (st' := [.int (yA.1 0 10), .int ((yb * 20) + ya), .ref 4]) (by rfl) ?_
                  refine Pa.asts (j' := (((yb * 20) + ya).toInt.toNat)) (by rfl) (by rfl) (by rfl) (fun h29 h30 => ?_)
                  have h29 : 0 ≤ ((yb * 20) + ya).toInt := h29
                  have h30 : ((yb * 20) + ya).toInt < 400 := h30
                  show Pa N 52 39 [(0, .ref 1), (1, .int ya), (2, .int yb), (3, .int (yA.1 0 10))] [] (uI (uI yA 4 (((ya * 20) + yb).toInt.toNat) (yA.1 0 10)) 4 (((yb * 20) + ya).toInt.toNat) (yA.1 0 10)) _
                  refine Pa.ic (x := 1) (pc' := 40) (by rfl) (by rfl) (by decide) ?_
                  refine Pa.iret (by rfl) ?_
                  show Pa N 102 42 [(0, .ref 0), (1, .int ya), (2, .int yb)] [.int 1] (uI (uI yA 4 (((ya * 20) + yb).toInt.toNat) (yA.1 0 10)) 4 (((yb * 20) + ya).toInt.toNat) (yA.1 0 10)) _
                  refine Pa.iret (by rfl) ?_
                  exact l7 h2 h4 h6 h8 h9 h12 h18 h25 h29 h30
                · have h26 : (yA.1 4 (((ya * 20) + yb).toInt.toNat)).toInt ≤ 3599 := h26
                  refine Pa.ic (x := 1) (pc' := 35) (by rfl) (by rfl) (by decide) ?_
                  refine Pa.mp 1 (pc' := 39) (l' := [(4, .int ((ya * 20) + yb)), (0, .ref 1), (1, .int ya), (2, .int yb), (3, .int 3599)]) (st' := [.int 1]) (by rfl) ?_
                  refine Pa.iret (by rfl) ?_
                  show Pa N 52 9 [(0, .ref 1), (1, .int ya), (2, .int yb), (3, .int (yA.1 0 10))] [.int 1] yA _
                  refine Pa.if1k false (by rfl) (by rfl) (by decide) ?_
                  show Pa N 52 12 [(0, .ref 1), (1, .int ya), (2, .int yb), (3, .int (yA.1 0 10))] [] yA _
                  refine Pa.ic (x := (-3)) (pc' := 14) (by rfl) (by rfl) (by decide) ?_
                  refine Pa.iret (by rfl) ?_
                  show Pa N 102 42 [(0, .ref 0), (1, .int ya), (2, .int yb)] [.int (-3)] yA _
                  refine Pa.iret (by rfl) ?_
                  exact l8 h2 h4 h6 h8 h9 h12 h18 h26
          · have h10 : ya.toInt = yb.toInt := h10
            refine Pa.ic (x := (-1)) (pc' := 28) (by rfl) (by rfl) (by decide) ?_
            refine Pa.iret (by rfl) ?_
            exact l9 h2 h4 h6 h8 h10
theorem bm_relate {N : Nat} {yA : AW} {yQ : Option Value → AW → Prop} (ya yb : Int32)
    (l1 : ya.toInt < 0 → yQ (some (.int (-1))) yA)
    (l2 : 0 ≤ ya.toInt → (yA.1 69 7).toInt ≤ ya.toInt → yQ (some (.int (-1))) yA)
    (l3 : 0 ≤ ya.toInt → ya.toInt < (yA.1 69 7).toInt → yb.toInt < 0 → yQ (some (.int (-1))) yA)
    (l4 : 0 ≤ ya.toInt → ya.toInt < (yA.1 69 7).toInt → 0 ≤ yb.toInt → (yA.1 69 7).toInt ≤ yb.toInt → yQ (some (.int (-1))) yA)
    (l5 : 0 ≤ ya.toInt → ya.toInt < (yA.1 69 7).toInt → 0 ≤ yb.toInt → yb.toInt < (yA.1 69 7).toInt → ya.toInt ≠ yb.toInt → 0 ≤ ((20 * ya) + yb).toInt → ((20 * ya) + yb).toInt < 400 → (yA.1 75 (((20 * ya) + yb).toInt.toNat)).toInt ≤ 0 → 0 ≤ ((20 * yb) + ya).toInt → ((20 * yb) + ya).toInt < 400 → yQ (some (.int 1)) (uI (uI yA 75 (((20 * ya) + yb).toInt.toNat) ((yA.1 69 0) + 1)) 75 (((20 * yb) + ya).toInt.toNat) ((yA.1 69 0) + 1)))
    (l6 : 0 ≤ ya.toInt → ya.toInt < (yA.1 69 7).toInt → 0 ≤ yb.toInt → yb.toInt < (yA.1 69 7).toInt → ya.toInt ≠ yb.toInt → 0 ≤ ((20 * ya) + yb).toInt → ((20 * ya) + yb).toInt < 400 → 0 < (yA.1 75 (((20 * ya) + yb).toInt.toNat)).toInt → yQ (some (.int (-3))) yA)
    (l7 : 0 ≤ ya.toInt → ya.toInt < (yA.1 69 7).toInt → 0 ≤ yb.toInt → yb.toInt < (yA.1 69 7).toInt → ya.toInt = yb.toInt → yQ (some (.int (-1))) yA) :
    Pa N 165 0 [(0, .ref 69), (1, .int ya), (2, .int yb)] [] yA yQ := by
  refine Pa.mp 2 (pc' := 2) (l' := [(0, .ref 69), (1, .int ya), (2, .int yb)]) (st' := [.int ya, .ref 69]) (by rfl) ?_
  refine Pa.inv (by rfl) (by rfl) (.inl rfl) (by rfl) ?_
  show Pa N 156 0 [(0, .ref 69), (1, .int ya)] [] yA _
  refine Pa.mp 1 (pc' := 1) (l' := [(0, .ref 69), (1, .int ya)]) (st' := [.int ya]) (by rfl) ?_
  refine Pa.if1 (a := ya.toInt) (t := 16) (by rfl) (by rfl) (rfl) (fun h1 => ?_) (fun h2 => ?_)
  · have h1 : ya.toInt < 0 := h1
    refine Pa.ic (x := 0) (pc' := 17) (by rfl) (by rfl) (by decide) ?_
    refine Pa.iret (by rfl) ?_
    show Pa N 165 5 [(0, .ref 69), (1, .int ya), (2, .int yb)] [.int 0] yA _
    refine Pa.if1k true (by rfl) (by rfl) (by decide) ?_
    show Pa N 165 21 [(0, .ref 69), (1, .int ya), (2, .int yb)] [] yA _
    refine Pa.ic (x := (-1)) (pc' := 22) (by rfl) (by rfl) (by decide) ?_
    refine Pa.iret (by rfl) ?_
    exact l1 h1
  · have h2 : 0 ≤ ya.toInt := h2
    refine Pa.mp 2 (pc' := 6) (l' := [(0, .ref 69), (1, .int ya)]) (st' := [.ref 69, .int ya]) (by rfl) ?_
    refine Pa.gfI (v := yA.1 69 7) (by rfl) (by rfl) (.inl rfl) (by rfl) (by rfl) ?_
    refine Pa.if2 (a := ya.toInt) (b := (yA.1 69 7).toInt) (t := 16) (by rfl) (by rfl) (rfl) (rfl) (fun h3 => ?_) (fun h4 => ?_)
    · have h3 : (yA.1 69 7).toInt ≤ ya.toInt := h3
      refine Pa.ic (x := 0) (pc' := 17) (by rfl) (by rfl) (by decide) ?_
      refine Pa.iret (by rfl) ?_
      show Pa N 165 5 [(0, .ref 69), (1, .int ya), (2, .int yb)] [.int 0] yA _
      refine Pa.if1k true (by rfl) (by rfl) (by decide) ?_
      show Pa N 165 21 [(0, .ref 69), (1, .int ya), (2, .int yb)] [] yA _
      refine Pa.ic (x := (-1)) (pc' := 22) (by rfl) (by rfl) (by decide) ?_
      refine Pa.iret (by rfl) ?_
      exact l2 h2 h3
    · have h4 : ya.toInt < (yA.1 69 7).toInt := h4
      refine Pa.ic (x := 1) (pc' := 13) (by rfl) (by rfl) (by decide) ?_
      refine Pa.mp 1 (pc' := 17) (l' := [(0, .ref 69), (1, .int ya)]) (st' := [.int 1]) (by rfl) ?_
      refine Pa.iret (by rfl) ?_
      show Pa N 165 5 [(0, .ref 69), (1, .int ya), (2, .int yb)] [.int 1] yA _
      refine Pa.if1k false (by rfl) (by rfl) (by decide) ?_
      show Pa N 165 8 [(0, .ref 69), (1, .int ya), (2, .int yb)] [] yA _
      refine Pa.mp 2 (pc' := 10) (l' := [(0, .ref 69), (1, .int ya), (2, .int yb)]) (st' := [.int yb, .ref 69]) (by rfl) ?_
      refine Pa.inv (by rfl) (by rfl) (.inl rfl) (by rfl) ?_
      show Pa N 156 0 [(0, .ref 69), (1, .int yb)] [] yA _
      refine Pa.mp 1 (pc' := 1) (l' := [(0, .ref 69), (1, .int yb)]) (st' := [.int yb]) (by rfl) ?_
      refine Pa.if1 (a := yb.toInt) (t := 16) (by rfl) (by rfl) (rfl) (fun h5 => ?_) (fun h6 => ?_)
      · have h5 : yb.toInt < 0 := h5
        refine Pa.ic (x := 0) (pc' := 17) (by rfl) (by rfl) (by decide) ?_
        refine Pa.iret (by rfl) ?_
        show Pa N 165 13 [(0, .ref 69), (1, .int ya), (2, .int yb)] [.int 0] yA _
        refine Pa.if1k true (by rfl) (by rfl) (by decide) ?_
        show Pa N 165 21 [(0, .ref 69), (1, .int ya), (2, .int yb)] [] yA _
        refine Pa.ic (x := (-1)) (pc' := 22) (by rfl) (by rfl) (by decide) ?_
        refine Pa.iret (by rfl) ?_
        exact l3 h2 h4 h5
      · have h6 : 0 ≤ yb.toInt := h6
        refine Pa.mp 2 (pc' := 6) (l' := [(0, .ref 69), (1, .int yb)]) (st' := [.ref 69, .int yb]) (by rfl) ?_
        refine Pa.gfI (v := yA.1 69 7) (by rfl) (by rfl) (.inl rfl) (by rfl) (by rfl) ?_
        refine Pa.if2 (a := yb.toInt) (b := (yA.1 69 7).toInt) (t := 16) (by rfl) (by rfl) (rfl) (rfl) (fun h7 => ?_) (fun h8 => ?_)
        · have h7 : (yA.1 69 7).toInt ≤ yb.toInt := h7
          refine Pa.ic (x := 0) (pc' := 17) (by rfl) (by rfl) (by decide) ?_
          refine Pa.iret (by rfl) ?_
          show Pa N 165 13 [(0, .ref 69), (1, .int ya), (2, .int yb)] [.int 0] yA _
          refine Pa.if1k true (by rfl) (by rfl) (by decide) ?_
          show Pa N 165 21 [(0, .ref 69), (1, .int ya), (2, .int yb)] [] yA _
          refine Pa.ic (x := (-1)) (pc' := 22) (by rfl) (by rfl) (by decide) ?_
          refine Pa.iret (by rfl) ?_
          exact l4 h2 h4 h6 h7
        · have h8 : yb.toInt < (yA.1 69 7).toInt := h8
          refine Pa.ic (x := 1) (pc' := 13) (by rfl) (by rfl) (by decide) ?_
          refine Pa.mp 1 (pc' := 17) (l' := [(0, .ref 69), (1, .int yb)]) (st' := [.int 1]) (by rfl) ?_
          refine Pa.iret (by rfl) ?_
          show Pa N 165 13 [(0, .ref 69), (1, .int ya), (2, .int yb)] [.int 1] yA _
          refine Pa.if1k false (by rfl) (by rfl) (by decide) ?_
          show Pa N 165 16 [(0, .ref 69), (1, .int ya), (2, .int yb)] [] yA _
          refine Pa.mp 2 (pc' := 18) (l' := [(0, .ref 69), (1, .int ya), (2, .int yb)]) (st' := [.int yb, .int ya]) (by rfl) ?_
          refine Pa.if2 (a := ya.toInt) (b := yb.toInt) (t := 23) (by rfl) (by rfl) (rfl) (rfl) (fun h9 => ?_) (fun h10 => ?_)
          · have h9 : ya.toInt ≠ yb.toInt := h9
            refine Pa.mp 1 (pc' := 24) (l' := [(0, .ref 69), (1, .int ya), (2, .int yb)]) (st' := [.ref 69]) (by rfl) ?_
            refine Pa.gfR (by rfl) (by rfl) (.inl rfl) (by rfl) ?_
            show Pa N 165 27 [(0, .ref 69), (1, .int ya), (2, .int yb)] [.ref 75] yA _
            refine Pa.ic (x := 20) (pc' := 29) (by rfl) (by rfl) (by decide) ?_
            refine Pa.mp 4 (pc' := 33) (l' := [(0, .ref 69), (1, .int ya), (2, .int yb)]) (st' := [.int ((20 * ya) + yb), .ref 75]) (by rfl) ?_
            refine Pa.alds (v := yA.1 75 (((20 * ya) + yb).toInt.toNat)) (by rfl) (by rfl) (by rfl) (fun h11 h12 => ?_)
            have h11 : 0 ≤ ((20 * ya) + yb).toInt := h11
            have h12 : ((20 * ya) + yb).toInt < 400 := h12
            refine Pa.if1 (a := (yA.1 75 (((20 * ya) + yb).toInt.toNat)).toInt) (t := 40) (by rfl) (by rfl) (rfl) (fun h13 => ?_) (fun h14 => ?_)
            · have h13 : (yA.1 75 (((20 * ya) + yb).toInt.toNat)).toInt ≤ 0 := h13
              refine Pa.mp 1 (pc' := 41) (l' := [(0, .ref 69), (1, .int ya), (2, .int yb)]) (st' := [.ref 69]) (by rfl) ?_
              refine Pa.gfR (by rfl) (by rfl) (.inl rfl) (by rfl) ?_
              show Pa N 165 44 [(0, .ref 69), (1, .int ya), (2, .int yb)] [.ref 75] yA _
              refine Pa.ic (x := 20) (pc' := 46) (by rfl) (by rfl) (by decide) ?_
              refine Pa.mp 5 (pc' := 51) (l' := [(0, .ref 69), (1, .int ya), (2, .int yb)]) (st' := [.ref 69, .int ((20 * ya) + yb), .ref 75]) (by rfl) ?_
              refine Pa.gfI (v := yA.1 69 0) (by rfl) (by rfl) (.inl rfl) (by rfl) (by rfl) ?_
              refine Pa.ic (x := 1) (pc' := 55) (by rfl) (by rfl) (by decide) ?_
              refine Pa.mp 1 (pc' := 56) (l' := [(0, .ref 69), (1, .int ya), (2, .int yb)]) (st' := [.int ((yA.1 69 0) + 1), .int ((20 * ya) + yb), .ref 75]) (by rfl) ?_
              refine Pa.asts (j' := (((20 * ya) + yb).toInt.toNat)) (by rfl) (by rfl) (by rfl) (fun h15 yh16 => ?_)
              have h15 : 0 ≤ ((20 * ya) + yb).toInt := h15
              have yh16 : ((20 * ya) + yb).toInt < 400 := yh16
              show Pa N 165 57 [(0, .ref 69), (1, .int ya), (2, .int yb)] [] (uI yA 75 (((20 * ya) + yb).toInt.toNat) ((yA.1 69 0) + 1)) _
              refine Pa.mp 1 (pc' := 58) (l' := [(0, .ref 69), (1, .int ya), (2, .int yb)]) (st' := [.ref 69]) (by rfl) ?_
              refine Pa.gfR (by rfl) (by rfl) (.inl rfl) (by rfl) ?_
              show Pa N 165 61 [(0, .ref 69), (1, .int ya), (2, .int yb)] [.ref 75] (uI yA 75 (((20 * ya) + yb).toInt.toNat) ((yA.1 69 0) + 1)) _
              refine Pa.ic (x := 20) (pc' := 63) (by rfl) (by rfl) (by decide) ?_
              refine Pa.mp 5 (pc' := 68) (l' := [(0, .ref 69), (1, .int ya), (2, .int yb)]) (st' := [.ref 69, .int ((20 * yb) + ya), .ref 75]) (by rfl) ?_
              refine Pa.gfI (v := yA.1 69 0) (by rfl) (by rfl) (.inl rfl) (by rfl) (by show (uI yA 75 (((20 * ya) + yb).toInt.toNat) ((yA.1 69 0) + 1)).1 69 0 = yA.1 69 0; rw [uI_c (by decide)]) ?_
              refine Pa.ic (x := 1) (pc' := 72) (by rfl) (by rfl) (by decide) ?_
              refine Pa.mp 1 (pc' := 73) (l' := [(0, .ref 69), (1, .int ya), (2, .int yb)]) (st' := [.int ((yA.1 69 0) + 1), .int ((20 * yb) + ya), .ref 75]) (by rfl) ?_
              refine Pa.asts (j' := (((20 * yb) + ya).toInt.toNat)) (by rfl) (by rfl) (by rfl) (fun h17 h18 => ?_)
              have h17 : 0 ≤ ((20 * yb) + ya).toInt := h17
              have h18 : ((20 * yb) + ya).toInt < 400 := h18
              show Pa N 165 74 [(0, .ref 69), (1, .int ya), (2, .int yb)] [] (uI (uI yA 75 (((20 * ya) + yb).toInt.toNat) ((yA.1 69 0) + 1)) 75 (((20 * yb) + ya).toInt.toNat) ((yA.1 69 0) + 1)) _
              refine Pa.ic (x := 1) (pc' := 75) (by rfl) (by rfl) (by decide) ?_
              refine Pa.iret (by rfl) ?_
              exact l5 h2 h4 h6 h8 h9 h11 h12 h13 h17 h18
            · have h14 : 0 < (yA.1 75 (((20 * ya) + yb).toInt.toNat)).toInt := h14
              refine Pa.ic (x := (-3)) (pc' := 39) (by rfl) (by rfl) (by decide) ?_
              refine Pa.iret (by rfl) ?_
              exact l6 h2 h4 h6 h8 h9 h11 h12 h14
          · have h10 : ya.toInt = yb.toInt := h10
            refine Pa.ic (x := (-1)) (pc' := 22) (by rfl) (by rfl) (by decide) ?_
            refine Pa.iret (by rfl) ?_
            exact l7 h2 h4 h6 h8 h10
def rlOk (yH : Int32) (ya yb : Int32) : Prop := 0 ≤ ya.toInt ∧ ya.toInt < yH.toInt ∧ 0 ≤ yb.toInt ∧ yb.toInt < yH.toInt ∧ ya.toInt ≠ yb.toInt
def dRelate (ya yb : Int32) (yA : AW) (yu : Option Value) (A1 : AW) : Prop := (¬ rlOk (yA.1 1 3) ya yb ∧ yu = some (.int (-1)) ∧ A1 = yA) ∨ (rlOk (yA.1 1 3) ya yb ∧ 0 ≤ (ya * 20 + yb).toInt ∧ (ya * 20 + yb).toInt < 400 ∧ (yA.1 4 (ya * 20 + yb).toInt.toNat).toInt ≤ 3599 ∧ yu = some (.int (-3)) ∧ A1 = yA) ∨ (rlOk (yA.1 1 3) ya yb ∧ 0 ≤ (ya * 20 + yb).toInt ∧ (ya * 20 + yb).toInt < 400 ∧ 0 ≤ (yb * 20 + ya).toInt ∧ (yb * 20 + ya).toInt < 400 ∧ 3599 < (yA.1 4 (ya * 20 + yb).toInt.toNat).toInt ∧ yu = some (.int 1) ∧ A1 = uI (uI yA 4 (ya * 20 + yb).toInt.toNat (yA.1 0 10)) 4 (yb * 20 + ya).toInt.toNat (yA.1 0 10))
theorem d_relate (N : Nat) (yA : AW) (ya yb : Int32) : Pa N 102 0 [(0, .ref 0), (1, .int ya), (2, .int yb)] [] yA (dRelate ya yb yA) := by
  refine bx_relate ya yb ?_ ?_ ?_ ?_ ?_ ?_ ?_ ?_ ?_
  all_goals
    intros
    unfold dRelate rlOk
    first
      | exact .inl ⟨by omega, rfl, rfl⟩
      | exact .inr (.inl ⟨by omega, by assumption, by assumption, by assumption, rfl, rfl⟩)
      | exact .inr (.inr ⟨by omega, by assumption, by assumption, by assumption, by assumption, by assumption, rfl, rfl⟩)
      | (exfalso; omega)
def eRelate (ya yb : Int32) (yA : AW) (yu : Option Value) (A1 : AW) : Prop := (¬ rlOk (yA.1 69 7) ya yb ∧ yu = some (.int (-1)) ∧ A1 = yA) ∨ (rlOk (yA.1 69 7) ya yb ∧ 0 < (yA.1 75 (20 * ya + yb).toInt.toNat).toInt ∧ yu = some (.int (-3)) ∧ A1 = yA) ∨ (rlOk (yA.1 69 7) ya yb ∧ (yA.1 75 (20 * ya + yb).toInt.toNat).toInt ≤ 0 ∧ yu = some (.int 1) ∧ A1 = uI (uI yA 75 (20 * ya + yb).toInt.toNat (yA.1 69 0 + 1)) 75 (20 * yb + ya).toInt.toNat (yA.1 69 0 + 1))
theorem e_relate (N : Nat) (yA : AW) (ya yb : Int32) : Pa N 165 0 [(0, .ref 69), (1, .int ya), (2, .int yb)] [] yA (eRelate ya yb yA) := by
  refine bm_relate ya yb ?_ ?_ ?_ ?_ ?_ ?_ ?_
  all_goals
    intros
    unfold eRelate rlOk
    first
      | exact .inl ⟨by omega, rfl, rfl⟩
      | exact .inr (.inl ⟨by omega, by assumption, rfl, rfl⟩)
      | exact .inr (.inr ⟨by omega, by assumption, rfl, rfl⟩)
/-! what is equal of relations -/
def F6 : zRF := [((1, 3), (69, 7)), ((0, 10), (69, 0))]
def rlR (yx yy : Int32) : Prop := (yy.toInt = 0 ∧ yx.toInt = 3600) ∨ (1 ≤ yy.toInt ∧ yy.toInt ≤ 3600 ∧ yx.toInt = yy.toInt - 1)
def Rz6 (yA : AW) : Prop := ∀ yj, yj < 400 → rlR (yA.1 4 yj) (yA.1 75 yj)
def S6 : zSu := ([], [4, 75])
theorem Rz6_s (yA yB : AW) (yh : AgS S6 yA yB) (hA : Rz6 yA) : Rz6 yB := by
  have a4 := (yh.2 4 (by simp [S6])).1
  have a75 := (yh.2 75 (by simp [S6])).1
  unfold Rz6 at hA ⊢
  rw [← a4, ← a75]
  exact hA
theorem k_relate (yA A1 A2 : AW) (ya yb yx yy : Int32) (hA : okA yA) (hF : eqF F6 yA) (hX : Rz6 yA) (ys1 : dRelate ya yb yA (some (.int yx)) A1) (ys2 : eRelate ya yb A1 (some (.int yy)) A2) : eqF F6 A2 ∧ Rz6 A2 ∧ yx = yy := by
  have yf1 := hF ((1, 3), (69, 7)) (by simp [F6])
  have yf2 := hF ((0, 10), (69, 0)) (by simp [F6])
  simp only at yf1 yf2
  have g1 := hA.fld (i := 69) (k := 0) (lo := 0) (hi := 3599) (by decide +kernel)
  have ye1 : A1.1 69 7 = yA.1 69 7 := by
    rcases ys1 with ⟨-, -, ye⟩ | ⟨-, -, -, -, -, ye⟩ | ⟨-, -, -, -, -, -, -, ye⟩ <;> rw [ye] <;> simp [uI]
  have ye2 : A1.1 69 0 = yA.1 69 0 := by
    rcases ys1 with ⟨-, -, ye⟩ | ⟨-, -, -, -, -, ye⟩ | ⟨-, -, -, -, -, -, -, ye⟩ <;> rw [ye] <;> simp [uI]
  have ye3 : A1.1 75 = yA.1 75 := by
    rcases ys1 with ⟨-, -, ye⟩ | ⟨-, -, -, -, -, ye⟩ | ⟨-, -, -, -, -, -, -, ye⟩ <;> rw [ye] <;> simp [uI]
  unfold eRelate at ys2
  rw [ye1, ye2, ye3, ← yf1, Int32.mul_comm 20 ya, Int32.mul_comm 20 yb] at ys2
  unfold dRelate at ys1
  generalize yhi : (ya * 20 + yb).toInt = yi at ys1 ys2
  generalize hj : (yb * 20 + ya).toInt = yj at ys1 ys2
  have hv : 0 ≤ yi → yi < 400 → rlR (yA.1 4 yi.toNat) (yA.1 75 yi.toNat) := fun h1 h2 => hX _ (by omega)
  unfold rlR at hv
  rcases ys1 with ⟨ya1, a2, a3⟩ | ⟨ya1, a2, a3, a4, a5, a6⟩ | ⟨ya1, a2, a3, a4, a5, a6, a7, a8⟩
  · rcases ys2 with ⟨b1, b2, b3⟩ | ⟨b1, b2, b3, b4⟩ | ⟨b1, b2, b3, b4⟩
    · rw [b3, a3, some_int a2, some_int b2]
      exact ⟨hF, hX, rfl⟩
    · exact absurd b1 ya1
    · exact absurd b1 ya1
  · have hv := hv a2 a3
    rcases ys2 with ⟨b1, b2, b3⟩ | ⟨b1, b2, b3, b4⟩ | ⟨b1, b2, b3, b4⟩
    · exact absurd ya1 b1
    · rw [b4, a6, some_int a5, some_int b3]
      exact ⟨hF, hX, rfl⟩
    · omega
  · have hv := hv a2 a3
    rcases ys2 with ⟨b1, b2, b3⟩ | ⟨b1, b2, b3, b4⟩ | ⟨b1, b2, b3, b4⟩
    · exact absurd ya1 b1
    · omega
    · rw [b4, a8, some_int a7, some_int b3]
      refine ⟨?_, ?_, rfl⟩
      · intro yq hq
        simp only [F6, List.mem_cons, List.not_mem_nil, or_false] at hq
        rcases hq with rfl | rfl <;> simp [uI, yf1, yf2]
      · intro yq hq
        have yhd : (yA.1 69 0 + 1).toInt = (yA.1 69 0).toInt + 1 := i32_add1 (by omega)
        have hn : rlR (yA.1 0 10) (yA.1 69 0 + 1) := .inr ⟨by omega, by omega, by rw [yf2]; omega⟩
        simp [uI]
        by_cases yc1 : yq = yj.toNat
        · simp only [if_pos yc1]; exact hn
        · simp only [if_neg yc1]
          by_cases yc2 : yq = yi.toNat
          · simp only [if_pos yc2]; exact hn
          · simp only [if_neg yc2]; exact hX yq hq
theorem h_relate {yp : zPr} (hp : yp.1 = 102 ∧ yp.2.1 = 165 ∧ yp.2.2.1 = 2) (yhc : c_rm yp = true) : PairOK (RR F6 [] Rz6) yp := by
  obtain ⟨yp1, yp2, yp3⟩ := hp
  refine pairK (D := on2 dRelate) (E := on2 eRelate) (by decide +kernel) (by decide +kernel) yhc (fun N yA yas _ hl => ?_) (fun N yA yas _ hl => ?_) (fun yA A1 A2 yas yx yy o1 _ _ hF _ hX hl ys1 ys2 => ?_)
  · rw [yp3] at hl
    obtain ⟨ya, yb, rfl⟩ := as2 hl
    rw [yp1]
    exact d_relate N yA ya yb
  · rw [yp3] at hl
    obtain ⟨ya, yb, rfl⟩ := as2 hl
    rw [yp2]
    exact e_relate N yA ya yb
  · rw [yp3] at hl
    obtain ⟨ya, yb, rfl⟩ := as2 hl
    obtain ⟨yr1, r2, r3⟩ := k_relate yA A1 A2 ya yb yx yy o1 hF hX ys1 ys2
    exact ⟨yr1, fun yq hq => (by cases hq), r2, fun _ => r3⟩
