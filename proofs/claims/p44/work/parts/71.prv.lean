/-! POINT AND PROVE; what is equal of points -/
theorem bx_point {N : Nat} {yA : AW} {yQ : Option Value → AW → Prop} (yf l yn : Int32)
    (l1 : yf.toInt < 0 → yQ (some (.int (-1))) yA)
    (l2 : 0 ≤ yf.toInt → (yA.1 5 6).toInt ≤ yf.toInt → yQ (some (.int (-1))) yA)
    (l3 : 0 ≤ yf.toInt → yf.toInt < (yA.1 5 6).toInt → l.toInt < 0 → yQ (some (.int (-1))) yA)
    (l4 : 0 ≤ yf.toInt → yf.toInt < (yA.1 5 6).toInt → 0 ≤ l.toInt → 5 < l.toInt → yQ (some (.int (-1))) yA)
    (l5 : 0 ≤ yf.toInt → yf.toInt < (yA.1 5 6).toInt → 0 ≤ l.toInt → l.toInt ≤ 5 → yn.toInt < 1 → yQ (some (.int (-1))) yA)
    (l6 : 0 ≤ yf.toInt → yf.toInt < (yA.1 5 6).toInt → 0 ≤ l.toInt → l.toInt ≤ 5 → 1 ≤ yn.toInt → 20 < yn.toInt → yQ (some (.int (-1))) yA)
    (l7 : 0 ≤ yf.toInt → yf.toInt < (yA.1 5 6).toInt → 0 ≤ l.toInt → l.toInt ≤ 5 → 1 ≤ yn.toInt → yn.toInt ≤ 20 → (yA.1 5 7).toInt < 100 → 0 ≤ (yA.1 5 7).toInt → yQ (some (.int (((yA.1 5 7) + 1) - 1))) (uI (uI (uI (uI (uI yA 8 ((yA.1 5 7).toInt.toNat) yf) 9 ((yA.1 5 7).toInt.toNat) l) 10 ((yA.1 5 7).toInt.toNat) yn) 11 ((yA.1 5 7).toInt.toNat) 3600) 5 7 ((yA.1 5 7) + 1)))
    (l8 : 0 ≤ yf.toInt → yf.toInt < (yA.1 5 6).toInt → 0 ≤ l.toInt → l.toInt ≤ 5 → 1 ≤ yn.toInt → yn.toInt ≤ 20 → 100 ≤ (yA.1 5 7).toInt → yQ (some (.int (-2))) yA) :
    Pa N 108 0 [(0, .ref 0), (1, .int yf), (2, .int l), (3, .int yn)] [] yA yQ := by
  refine Pa.mp 1 (pc' := 1) (l' := [(0, .ref 0), (1, .int yf), (2, .int l), (3, .int yn)]) (st' := [.ref 0]) (by rfl) ?_
  refine Pa.gfR (by rfl) (by rfl) (.inl rfl) (by rfl) ?_
  show Pa N 108 4 [(0, .ref 0), (1, .int yf), (2, .int l), (3, .int yn)] [.ref 5] yA _
  refine Pa.mp 1 (pc' := 5) (l' := [(0, .ref 0), (1, .int yf), (2, .int l), (3, .int yn)]) (st' := [.int yf, .ref 5]) (by rfl) ?_
  refine Pa.inv (by rfl) (by rfl) (.inr rfl) (by rfl) ?_
  show Pa N 41 0 [(0, .ref 5), (1, .int yf)] [] yA _
  refine Pa.mp 1 (pc' := 1) (l' := [(0, .ref 5), (1, .int yf)]) (st' := [.int yf]) (by rfl) ?_
  refine Pa.if1 (a := yf.toInt) (t := 16) (by rfl) (by rfl) (rfl) (fun h1 => ?_) (fun h2 => ?_)
  · skip
    refine Pa.ic (x := 0) (pc' := 17) (by rfl) (by rfl) (by decide) ?_
    refine Pa.iret (by rfl) ?_
    show Pa N 108 8 [(0, .ref 0), (1, .int yf), (2, .int l), (3, .int yn)] [.int 0] yA _
    refine Pa.if1k true (by rfl) (by rfl) (by decide) ?_
    show Pa N 108 28 [(0, .ref 0), (1, .int yf), (2, .int l), (3, .int yn)] [] yA _
    refine Pa.ic (x := (-1)) (pc' := 29) (by rfl) (by rfl) (by decide) ?_
    refine Pa.iret (by rfl) ?_
    exact l1 h1
  · skip
    refine Pa.mp 2 (pc' := 6) (l' := [(0, .ref 5), (1, .int yf)]) (st' := [.ref 5, .int yf]) (by rfl) ?_
    refine Pa.gfI (v := yA.1 5 6) (by rfl) (by rfl) (.inl rfl) (by rfl) (by rfl) ?_
    refine Pa.if2 (a := yf.toInt) (b := (yA.1 5 6).toInt) (t := 16) (by rfl) (by rfl) (rfl) (rfl) (fun h3 => ?_) (fun h4 => ?_)
    · skip
      refine Pa.ic (x := 0) (pc' := 17) (by rfl) (by rfl) (by decide) ?_
      refine Pa.iret (by rfl) ?_
      show Pa N 108 8 [(0, .ref 0), (1, .int yf), (2, .int l), (3, .int yn)] [.int 0] yA _
      refine Pa.if1k true (by rfl) (by rfl) (by decide) ?_
      show Pa N 108 28 [(0, .ref 0), (1, .int yf), (2, .int l), (3, .int yn)] [] yA _
      refine Pa.ic (x := (-1)) (pc' := 29) (by rfl) (by rfl) (by decide) ?_
      refine Pa.iret (by rfl) ?_
      exact l2 h2 h3
    · skip
      refine Pa.ic (x := 1) (pc' := 13) (by rfl) (by rfl) (by decide) ?_
      refine Pa.mp 1 (pc' := 17) (l' := [(0, .ref 5), (1, .int yf)]) (st' := [.int 1]) (by rfl) ?_
      refine Pa.iret (by rfl) ?_
      show Pa N 108 8 [(0, .ref 0), (1, .int yf), (2, .int l), (3, .int yn)] [.int 1] yA _
      refine Pa.if1k false (by rfl) (by rfl) (by decide) ?_
      show Pa N 108 11 [(0, .ref 0), (1, .int yf), (2, .int l), (3, .int yn)] [] yA _
      refine Pa.mp 1 (pc' := 12) (l' := [(0, .ref 0), (1, .int yf), (2, .int l), (3, .int yn)]) (st' := [.int l]) (by rfl) ?_
      refine Pa.ist (by rfl) (by rfl) (.inl rfl) (by rfl) (by rfl) ?_
      show Pa N 147 0 [(0, .int l)] [] yA _
      refine Pa.mp 1 (pc' := 1) (l' := [(0, .int l)]) (st' := [.int l]) (by rfl) ?_
      refine Pa.ic (x := 0) (pc' := 2) (by rfl) (by rfl) (by decide) ?_
      refine Pa.ic (x := 5) (pc' := 3) (by rfl) (by rfl) (by decide) ?_
      refine Pa.ist (by rfl) (by rfl) (.inl rfl) (by rfl) (by rfl) ?_
      show Pa N 146 0 [(0, .int l), (1, .int 0), (2, .int 5)] [] yA _
      refine Pa.mp 2 (pc' := 2) (l' := [(0, .int l), (1, .int 0), (2, .int 5)]) (st' := [.int 0, .int l]) (by rfl) ?_
      refine Pa.if2 (a := l.toInt) (b := 0) (t := 14) (by rfl) (by rfl) (rfl) (by decide) (fun h5 => ?_) (fun h6 => ?_)
      · skip
        refine Pa.ic (x := 0) (pc' := 15) (by rfl) (by rfl) (by decide) ?_
        refine Pa.iret (by rfl) ?_
        show Pa N 147 6 [(0, .int l)] [.int 0] yA _
        refine Pa.iret (by rfl) ?_
        show Pa N 108 15 [(0, .ref 0), (1, .int yf), (2, .int l), (3, .int yn)] [.int 0] yA _
        refine Pa.if1k true (by rfl) (by rfl) (by decide) ?_
        show Pa N 108 28 [(0, .ref 0), (1, .int yf), (2, .int l), (3, .int yn)] [] yA _
        refine Pa.ic (x := (-1)) (pc' := 29) (by rfl) (by rfl) (by decide) ?_
        refine Pa.iret (by rfl) ?_
        exact l3 h2 h4 h5
      · skip
        refine Pa.mp 2 (pc' := 7) (l' := [(0, .int l), (1, .int 0), (2, .int 5)]) (st' := [.int 5, .int l]) (by rfl) ?_
        refine Pa.if2 (a := l.toInt) (b := 5) (t := 14) (by rfl) (by rfl) (rfl) (by decide) (fun h7 => ?_) (fun h8 => ?_)
        · skip
          refine Pa.ic (x := 0) (pc' := 15) (by rfl) (by rfl) (by decide) ?_
          refine Pa.iret (by rfl) ?_
          show Pa N 147 6 [(0, .int l)] [.int 0] yA _
          refine Pa.iret (by rfl) ?_
          show Pa N 108 15 [(0, .ref 0), (1, .int yf), (2, .int l), (3, .int yn)] [.int 0] yA _
          refine Pa.if1k true (by rfl) (by rfl) (by decide) ?_
          show Pa N 108 28 [(0, .ref 0), (1, .int yf), (2, .int l), (3, .int yn)] [] yA _
          refine Pa.ic (x := (-1)) (pc' := 29) (by rfl) (by rfl) (by decide) ?_
          refine Pa.iret (by rfl) ?_
          exact l4 h2 h4 h6 h7
        · skip
          refine Pa.ic (x := 1) (pc' := 11) (by rfl) (by rfl) (by decide) ?_
          refine Pa.mp 1 (pc' := 15) (l' := [(0, .int l), (1, .int 0), (2, .int 5)]) (st' := [.int 1]) (by rfl) ?_
          refine Pa.iret (by rfl) ?_
          show Pa N 147 6 [(0, .int l)] [.int 1] yA _
          refine Pa.iret (by rfl) ?_
          show Pa N 108 15 [(0, .ref 0), (1, .int yf), (2, .int l), (3, .int yn)] [.int 1] yA _
          refine Pa.if1k false (by rfl) (by rfl) (by decide) ?_
          show Pa N 108 18 [(0, .ref 0), (1, .int yf), (2, .int l), (3, .int yn)] [] yA _
          refine Pa.mp 1 (pc' := 19) (l' := [(0, .ref 0), (1, .int yf), (2, .int l), (3, .int yn)]) (st' := [.int yn]) (by rfl) ?_
          refine Pa.ic (x := 1) (pc' := 20) (by rfl) (by rfl) (by decide) ?_
          refine Pa.ic (x := 20) (pc' := 22) (by rfl) (by rfl) (by decide) ?_
          refine Pa.ist (by rfl) (by rfl) (.inl rfl) (by rfl) (by rfl) ?_
          show Pa N 146 0 [(0, .int yn), (1, .int 1), (2, .int 20)] [] yA _
          refine Pa.mp 2 (pc' := 2) (l' := [(0, .int yn), (1, .int 1), (2, .int 20)]) (st' := [.int 1, .int yn]) (by rfl) ?_
          refine Pa.if2 (a := yn.toInt) (b := 1) (t := 14) (by rfl) (by rfl) (rfl) (by decide) (fun h9 => ?_) (fun h10 => ?_)
          · skip
            refine Pa.ic (x := 0) (pc' := 15) (by rfl) (by rfl) (by decide) ?_
            refine Pa.iret (by rfl) ?_
            show Pa N 108 25 [(0, .ref 0), (1, .int yf), (2, .int l), (3, .int yn)] [.int 0] yA _
            refine Pa.if1k false (by rfl) (by rfl) (by decide) ?_
            show Pa N 108 28 [(0, .ref 0), (1, .int yf), (2, .int l), (3, .int yn)] [] yA _
            refine Pa.ic (x := (-1)) (pc' := 29) (by rfl) (by rfl) (by decide) ?_
            refine Pa.iret (by rfl) ?_
            exact l5 h2 h4 h6 h8 h9
          · skip
            refine Pa.mp 2 (pc' := 7) (l' := [(0, .int yn), (1, .int 1), (2, .int 20)]) (st' := [.int 20, .int yn]) (by rfl) ?_
            refine Pa.if2 (a := yn.toInt) (b := 20) (t := 14) (by rfl) (by rfl) (rfl) (by decide) (fun h11 => ?_) (fun h12 => ?_)
            · skip
              refine Pa.ic (x := 0) (pc' := 15) (by rfl) (by rfl) (by decide) ?_
              refine Pa.iret (by rfl) ?_
              show Pa N 108 25 [(0, .ref 0), (1, .int yf), (2, .int l), (3, .int yn)] [.int 0] yA _
              refine Pa.if1k false (by rfl) (by rfl) (by decide) ?_
              show Pa N 108 28 [(0, .ref 0), (1, .int yf), (2, .int l), (3, .int yn)] [] yA _
              refine Pa.ic (x := (-1)) (pc' := 29) (by rfl) (by rfl) (by decide) ?_
              refine Pa.iret (by rfl) ?_
              exact l6 h2 h4 h6 h8 h10 h11
            · skip
              refine Pa.ic (x := 1) (pc' := 11) (by rfl) (by rfl) (by decide) ?_
              refine Pa.mp 1 (pc' := 15) (l' := [(0, .int yn), (1, .int 1), (2, .int 20)]) (st' := [.int 1]) (by rfl) ?_
              refine Pa.iret (by rfl) ?_
              show Pa N 108 25 [(0, .ref 0), (1, .int yf), (2, .int l), (3, .int yn)] [.int 1] yA _
              refine Pa.if1k true (by rfl) (by rfl) (by decide) ?_
              show Pa N 108 30 [(0, .ref 0), (1, .int yf), (2, .int l), (3, .int yn)] [] yA _
              refine Pa.mp 1 (pc' := 31) (l' := [(0, .ref 0), (1, .int yf), (2, .int l), (3, .int yn)]) (st' := [.ref 0]) (by rfl) ?_
              refine Pa.gfR (by rfl) (by rfl) (.inl rfl) (by rfl) ?_
              show Pa N 108 34 [(0, .ref 0), (1, .int yf), (2, .int l), (3, .int yn)] [.ref 5] yA _
              refine Pa.mp 3 (pc' := 37) (l' := [(0, .ref 0), (1, .int yf), (2, .int l), (3, .int yn)]) (st' := [.int yn, .int l, .int yf, .ref 5]) (by rfl) ?_
              refine Pa.inv (by rfl) (by rfl) (.inr rfl) (by rfl) ?_
              show Pa N 44 0 [(0, .ref 5), (1, .int yf), (2, .int l), (3, .int yn)] [] yA _
              refine Pa.mp 1 (pc' := 1) (l' := [(0, .ref 5), (1, .int yf), (2, .int l), (3, .int yn)]) (st' := [.ref 5]) (by rfl) ?_
              refine Pa.gfI (v := yA.1 5 7) (by rfl) (by rfl) (.inl rfl) (by rfl) (by rfl) ?_
              refine Pa.ic (x := 100) (pc' := 6) (by rfl) (by rfl) (by decide) ?_
              refine Pa.if2 (a := (yA.1 5 7).toInt) (b := 100) (t := 12) (by rfl) (by rfl) (rfl) (by decide) (fun h13 => ?_) (fun h14 => ?_)
              · skip
                refine Pa.mp 1 (pc' := 13) (l' := [(0, .ref 5), (1, .int yf), (2, .int l), (3, .int yn)]) (st' := [.ref 5]) (by rfl) ?_
                refine Pa.gfR (by rfl) (by rfl) (.inl rfl) (by rfl) ?_
                show Pa N 44 16 [(0, .ref 5), (1, .int yf), (2, .int l), (3, .int yn)] [.ref 8] yA _
                refine Pa.mp 1 (pc' := 17) (l' := [(0, .ref 5), (1, .int yf), (2, .int l), (3, .int yn)]) (st' := [.ref 5, .ref 8]) (by rfl) ?_
                refine Pa.gfI (v := yA.1 5 7) (by rfl) (by rfl) (.inl rfl) (by rfl) (by rfl) ?_
                refine Pa.mp 1 (pc' := 21) (l' := [(0, .ref 5), (1, .int yf), (2, .int l), (3, .int yn)]) (st' := [.int yf, .int (yA.1 5 7), .ref 8]) (by rfl) ?_
                refine Pa.asts (j' := ((yA.1 5 7).toInt.toNat)) (by rfl) (by rfl) (by rfl) (fun h15 yh16 => ?_)
                show Pa N 44 22 [(0, .ref 5), (1, .int yf), (2, .int l), (3, .int yn)] [] (uI yA 8 ((yA.1 5 7).toInt.toNat) yf) _
                refine Pa.mp 1 (pc' := 23) (l' := [(0, .ref 5), (1, .int yf), (2, .int l), (3, .int yn)]) (st' := [.ref 5]) (by rfl) ?_
                refine Pa.gfR (by rfl) (by rfl) (.inl rfl) (by rfl) ?_
                show Pa N 44 26 [(0, .ref 5), (1, .int yf), (2, .int l), (3, .int yn)] [.ref 9] (uI yA 8 ((yA.1 5 7).toInt.toNat) yf) _
                refine Pa.mp 1 (pc' := 27) (l' := [(0, .ref 5), (1, .int yf), (2, .int l), (3, .int yn)]) (st' := [.ref 5, .ref 9]) (by rfl) ?_
                refine Pa.gfI (v := yA.1 5 7) (by rfl) (by rfl) (.inl rfl) (by rfl) (by show (uI yA 8 ((yA.1 5 7).toInt.toNat) yf).1 5 7 = yA.1 5 7; rw [uI_c (by decide)]) ?_
                refine Pa.mp 1 (pc' := 31) (l' := [(0, .ref 5), (1, .int yf), (2, .int l), (3, .int yn)]) (st' := [.int l, .int (yA.1 5 7), .ref 9]) (by rfl) ?_
                refine Pa.asts (j' := ((yA.1 5 7).toInt.toNat)) (by rfl) (by rfl) (by rfl) (fun h17 h18 => ?_)
                show Pa N 44 32 [(0, .ref 5), (1, .int yf), (2, .int l), (3, .int yn)] [] (uI (uI yA 8 ((yA.1 5 7).toInt.toNat) yf) 9 ((yA.1 5 7).toInt.toNat) l) _
                refine Pa.mp 1 (pc' := 33) (l' := [(0, .ref 5), (1, .int yf), (2, .int l), (3, .int yn)]) (st' := [.ref 5]) (by rfl) ?_
                refine Pa.gfR (by rfl) (by rfl) (.inl rfl) (by rfl) ?_
                show Pa N 44 36 [(0, .ref 5), (1, .int yf), (2, .int l), (3, .int yn)] [.ref 10] (uI (uI yA 8 ((yA.1 5 7).toInt.toNat) yf) 9 ((yA.1 5 7).toInt.toNat) l) _
                refine Pa.mp 1 (pc' := 37) (l' := [(0, .ref 5), (1, .int yf), (2, .int l), (3, .int yn)]) (st' := [.ref 5, .ref 10]) (by rfl) ?_
                refine Pa.gfI (v := yA.1 5 7) (by rfl) (by rfl) (.inl rfl) (by rfl) (by show (uI (uI yA 8 ((yA.1 5 7).toInt.toNat) yf) 9 ((yA.1 5 7).toInt.toNat) l).1 5 7 = yA.1 5 7; rw [uI_c (by decide), uI_c (by decide)]) ?_
                refine Pa.mp 1 (pc' := 41) (l' := [(0, .ref 5), (1, .int yf), (2, .int l), (3, .int yn)]) (st' := [.int yn, .int (yA.1 5 7), .ref 10]) (by rfl) ?_
                refine Pa.asts (j' := ((yA.1 5 7).toInt.toNat)) (by rfl) (by rfl) (by rfl) (fun h19 h20 => ?_)
                show Pa N 44 42 [(0, .ref 5), (1, .int yf), (2, .int l), (3, .int yn)] [] (uI (uI (uI yA 8 ((yA.1 5 7).toInt.toNat) yf) 9 ((yA.1 5 7).toInt.toNat) l) 10 ((yA.1 5 7).toInt.toNat) yn) _
                refine Pa.mp 1 (pc' := 43) (l' := [(0, .ref 5), (1, .int yf), (2, .int l), (3, .int yn)]) (st' := [.ref 5]) (by rfl) ?_
                refine Pa.gfR (by rfl) (by rfl) (.inl rfl) (by rfl) ?_
                show Pa N 44 46 [(0, .ref 5), (1, .int yf), (2, .int l), (3, .int yn)] [.ref 11] (uI (uI (uI yA 8 ((yA.1 5 7).toInt.toNat) yf) 9 ((yA.1 5 7).toInt.toNat) l) 10 ((yA.1 5 7).toInt.toNat) yn) _
                refine Pa.mp 1 (pc' := 47) (l' := [(0, .ref 5), (1, .int yf), (2, .int l), (3, .int yn)]) (st' := [.ref 5, .ref 11]) (by rfl) ?_
                refine Pa.gfI (v := yA.1 5 7) (by rfl) (by rfl) (.inl rfl) (by rfl) (by show (uI (uI (uI yA 8 ((yA.1 5 7).toInt.toNat) yf) 9 ((yA.1 5 7).toInt.toNat) l) 10 ((yA.1 5 7).toInt.toNat) yn).1 5 7 = yA.1 5 7; rw [uI_c (by decide), uI_c (by decide), uI_c (by decide)]) ?_
                refine Pa.ic (x := 3600) (pc' := 53) (by rfl) (by rfl) (by decide) ?_
                refine Pa.asts (j' := ((yA.1 5 7).toInt.toNat)) (by rfl) (by rfl) (by rfl) (fun h21 h22 => ?_)
                show Pa N 44 54 [(0, .ref 5), (1, .int yf), (2, .int l), (3, .int yn)] [] (uI (uI (uI (uI yA 8 ((yA.1 5 7).toInt.toNat) yf) 9 ((yA.1 5 7).toInt.toNat) l) 10 ((yA.1 5 7).toInt.toNat) yn) 11 ((yA.1 5 7).toInt.toNat) 3600) _
                refine Pa.mp 2 (pc' := 56) (l' := [(0, .ref 5), (1, .int yf), (2, .int l), (3, .int yn)]) (st' := [.ref 5, .ref 5]) (by rfl) ?_
                refine Pa.gfI (v := yA.1 5 7) (by rfl) (by rfl) (.inl rfl) (by rfl) (by show (uI (uI (uI (uI yA 8 ((yA.1 5 7).toInt.toNat) yf) 9 ((yA.1 5 7).toInt.toNat) l) 10 ((yA.1 5 7).toInt.toNat) yn) 11 ((yA.1 5 7).toInt.toNat) 3600).1 5 7 = yA.1 5 7; rw [uI_c (by decide), uI_c (by decide), uI_c (by decide), uI_c (by decide)]) ?_
                refine Pa.ic (x := 1) (pc' := 60) (by rfl) (by rfl) (by decide) ?_
                refine Pa.mp 1 (pc' := 61) (l' := [(0, .ref 5), (1, .int yf), (2, .int l), (3, .int yn)]) (st' := [.int ((yA.1 5 7) + 1), .ref 5]) (by rfl) ?_
                refine Pa.pfI (by rfl) (by rfl) (.inl rfl) (by rfl) ?_
                show Pa N 44 64 [(0, .ref 5), (1, .int yf), (2, .int l), (3, .int yn)] [] (uI (uI (uI (uI (uI yA 8 ((yA.1 5 7).toInt.toNat) yf) 9 ((yA.1 5 7).toInt.toNat) l) 10 ((yA.1 5 7).toInt.toNat) yn) 11 ((yA.1 5 7).toInt.toNat) 3600) 5 7 ((yA.1 5 7) + 1)) _
                refine Pa.mp 1 (pc' := 65) (l' := [(0, .ref 5), (1, .int yf), (2, .int l), (3, .int yn)]) (st' := [.ref 5]) (by rfl) ?_
                refine Pa.gfI (v := (yA.1 5 7) + 1) (by rfl) (by rfl) (.inl rfl) (by rfl) (by show (uI (uI (uI (uI (uI yA 8 ((yA.1 5 7).toInt.toNat) yf) 9 ((yA.1 5 7).toInt.toNat) l) 10 ((yA.1 5 7).toInt.toNat) yn) 11 ((yA.1 5 7).toInt.toNat) 3600) 5 7 ((yA.1 5 7) + 1)).1 5 7 = (yA.1 5 7) + 1; rw [uI_h]) ?_
                refine Pa.ic (x := 1) (pc' := 69) (by rfl) (by rfl) (by decide) ?_
                refine Pa.mp 1 (pc' := 70) (l' := [(0, .ref 5), (1, .int yf), (2, .int l), (3, .int yn)]) (st' := [.int (((yA.1 5 7) + 1) - 1)]) (by rfl) ?_
                refine Pa.iret (by rfl) ?_
                show Pa N 108 40 [(0, .ref 0), (1, .int yf), (2, .int l), (3, .int yn)] [.int (((yA.1 5 7) + 1) - 1)] (uI (uI (uI (uI (uI yA 8 ((yA.1 5 7).toInt.toNat) yf) 9 ((yA.1 5 7).toInt.toNat) l) 10 ((yA.1 5 7).toInt.toNat) yn) 11 ((yA.1 5 7).toInt.toNat) 3600) 5 7 ((yA.1 5 7) + 1)) _
                refine Pa.iret (by rfl) ?_
                exact l7 h2 h4 h6 h8 h10 h12 h13 h15
              · skip
                refine Pa.ic (x := (-2)) (pc' := 11) (by rfl) (by rfl) (by decide) ?_
                refine Pa.iret (by rfl) ?_
                show Pa N 108 40 [(0, .ref 0), (1, .int yf), (2, .int l), (3, .int yn)] [.int (-2)] yA _
                refine Pa.iret (by rfl) ?_
                exact l8 h2 h4 h6 h8 h10 h12 h14
theorem bm_point {N : Nat} {yA : AW} {yQ : Option Value → AW → Prop} (yf l yn : Int32)
    (l1 : yf.toInt < 0 → yQ (some (.int (-1))) yA)
    (l2 : 0 ≤ yf.toInt → (yA.1 69 11).toInt ≤ yf.toInt → yQ (some (.int (-1))) yA)
    (l3 : 0 ≤ yf.toInt → yf.toInt < (yA.1 69 11).toInt → l.toInt < 0 → yQ (some (.int (-1))) yA)
    (l4 : 0 ≤ yf.toInt → yf.toInt < (yA.1 69 11).toInt → 0 ≤ l.toInt → 5 < l.toInt → yQ (some (.int (-1))) yA)
    (l5 : 0 ≤ yf.toInt → yf.toInt < (yA.1 69 11).toInt → 0 ≤ l.toInt → l.toInt ≤ 5 → yn.toInt < 1 → yQ (some (.int (-1))) yA)
    (l6 : 0 ≤ yf.toInt → yf.toInt < (yA.1 69 11).toInt → 0 ≤ l.toInt → l.toInt ≤ 5 → 1 ≤ yn.toInt → 20 < yn.toInt → yQ (some (.int (-1))) yA)
    (l7 : 0 ≤ yf.toInt → yf.toInt < (yA.1 69 11).toInt → 0 ≤ l.toInt → l.toInt ≤ 5 → 1 ≤ yn.toInt → yn.toInt ≤ 20 → (yA.1 69 24).toInt ≠ 100 → 0 ≤ (yA.1 69 24).toInt → (yA.1 69 24).toInt < 100 → yQ (some (.int (((yA.1 69 24) + 1) - 1))) (uI (uI (uI (uI (uI yA 84 ((yA.1 69 24).toInt.toNat) yf) 85 ((yA.1 69 24).toInt.toNat) l) 86 ((yA.1 69 24).toInt.toNat) yn) 87 ((yA.1 69 24).toInt.toNat) (-1)) 69 24 ((yA.1 69 24) + 1)))
    (l8 : 0 ≤ yf.toInt → yf.toInt < (yA.1 69 11).toInt → 0 ≤ l.toInt → l.toInt ≤ 5 → 1 ≤ yn.toInt → yn.toInt ≤ 20 → (yA.1 69 24).toInt = 100 → yQ (some (.int (-2))) yA) :
    Pa N 173 0 [(0, .ref 69), (1, .int yf), (2, .int l), (3, .int yn)] [] yA yQ := by
  refine Pa.mp 2 (pc' := 2) (l' := [(0, .ref 69), (1, .int yf), (2, .int l), (3, .int yn)]) (st' := [.int yf, .ref 69]) (by rfl) ?_
  refine Pa.inv (by rfl) (by rfl) (.inl rfl) (by rfl) ?_
  show Pa N 157 0 [(0, .ref 69), (1, .int yf)] [] yA _
  refine Pa.mp 1 (pc' := 1) (l' := [(0, .ref 69), (1, .int yf)]) (st' := [.int yf]) (by rfl) ?_
  refine Pa.if1 (a := yf.toInt) (t := 16) (by rfl) (by rfl) (rfl) (fun h1 => ?_) (fun h2 => ?_)
  · skip
    refine Pa.ic (x := 0) (pc' := 17) (by rfl) (by rfl) (by decide) ?_
    refine Pa.iret (by rfl) ?_
    show Pa N 173 5 [(0, .ref 69), (1, .int yf), (2, .int l), (3, .int yn)] [.int 0] yA _
    refine Pa.if1k true (by rfl) (by rfl) (by decide) ?_
    show Pa N 173 25 [(0, .ref 69), (1, .int yf), (2, .int l), (3, .int yn)] [] yA _
    refine Pa.ic (x := (-1)) (pc' := 26) (by rfl) (by rfl) (by decide) ?_
    refine Pa.iret (by rfl) ?_
    exact l1 h1
  · skip
    refine Pa.mp 2 (pc' := 6) (l' := [(0, .ref 69), (1, .int yf)]) (st' := [.ref 69, .int yf]) (by rfl) ?_
    refine Pa.gfI (v := yA.1 69 11) (by rfl) (by rfl) (.inl rfl) (by rfl) (by rfl) ?_
    refine Pa.if2 (a := yf.toInt) (b := (yA.1 69 11).toInt) (t := 16) (by rfl) (by rfl) (rfl) (rfl) (fun h3 => ?_) (fun h4 => ?_)
    · skip
      refine Pa.ic (x := 0) (pc' := 17) (by rfl) (by rfl) (by decide) ?_
      refine Pa.iret (by rfl) ?_
      show Pa N 173 5 [(0, .ref 69), (1, .int yf), (2, .int l), (3, .int yn)] [.int 0] yA _
      refine Pa.if1k true (by rfl) (by rfl) (by decide) ?_
      show Pa N 173 25 [(0, .ref 69), (1, .int yf), (2, .int l), (3, .int yn)] [] yA _
      refine Pa.ic (x := (-1)) (pc' := 26) (by rfl) (by rfl) (by decide) ?_
      refine Pa.iret (by rfl) ?_
      exact l2 h2 h3
    · skip
      refine Pa.ic (x := 1) (pc' := 13) (by rfl) (by rfl) (by decide) ?_
      refine Pa.mp 1 (pc' := 17) (l' := [(0, .ref 69), (1, .int yf)]) (st' := [.int 1]) (by rfl) ?_
      refine Pa.iret (by rfl) ?_
      show Pa N 173 5 [(0, .ref 69), (1, .int yf), (2, .int l), (3, .int yn)] [.int 1] yA _
      refine Pa.if1k false (by rfl) (by rfl) (by decide) ?_
      show Pa N 173 8 [(0, .ref 69), (1, .int yf), (2, .int l), (3, .int yn)] [] yA _
      refine Pa.mp 1 (pc' := 9) (l' := [(0, .ref 69), (1, .int yf), (2, .int l), (3, .int yn)]) (st' := [.int l]) (by rfl) ?_
      refine Pa.ist (by rfl) (by rfl) (.inl rfl) (by rfl) (by rfl) ?_
      show Pa N 154 0 [(0, .int l)] [] yA _
      refine Pa.mp 1 (pc' := 1) (l' := [(0, .int l)]) (st' := [.int l]) (by rfl) ?_
      refine Pa.ic (x := 0) (pc' := 2) (by rfl) (by rfl) (by decide) ?_
      refine Pa.ic (x := 5) (pc' := 3) (by rfl) (by rfl) (by decide) ?_
      refine Pa.ist (by rfl) (by rfl) (.inl rfl) (by rfl) (by rfl) ?_
      show Pa N 152 0 [(0, .int l), (1, .int 0), (2, .int 5)] [] yA _
      refine Pa.mp 2 (pc' := 2) (l' := [(0, .int l), (1, .int 0), (2, .int 5)]) (st' := [.int 0, .int l]) (by rfl) ?_
      refine Pa.if2 (a := l.toInt) (b := 0) (t := 14) (by rfl) (by rfl) (rfl) (by decide) (fun h5 => ?_) (fun h6 => ?_)
      · skip
        refine Pa.ic (x := 0) (pc' := 15) (by rfl) (by rfl) (by decide) ?_
        refine Pa.iret (by rfl) ?_
        show Pa N 154 6 [(0, .int l)] [.int 0] yA _
        refine Pa.iret (by rfl) ?_
        show Pa N 173 12 [(0, .ref 69), (1, .int yf), (2, .int l), (3, .int yn)] [.int 0] yA _
        refine Pa.if1k true (by rfl) (by rfl) (by decide) ?_
        show Pa N 173 25 [(0, .ref 69), (1, .int yf), (2, .int l), (3, .int yn)] [] yA _
        refine Pa.ic (x := (-1)) (pc' := 26) (by rfl) (by rfl) (by decide) ?_
        refine Pa.iret (by rfl) ?_
        exact l3 h2 h4 h5
      · skip
        refine Pa.mp 2 (pc' := 7) (l' := [(0, .int l), (1, .int 0), (2, .int 5)]) (st' := [.int 5, .int l]) (by rfl) ?_
        refine Pa.if2 (a := l.toInt) (b := 5) (t := 14) (by rfl) (by rfl) (rfl) (by decide) (fun h7 => ?_) (fun h8 => ?_)
        · skip
          refine Pa.ic (x := 0) (pc' := 15) (by rfl) (by rfl) (by decide) ?_
          refine Pa.iret (by rfl) ?_
          show Pa N 154 6 [(0, .int l)] [.int 0] yA _
          refine Pa.iret (by rfl) ?_
          show Pa N 173 12 [(0, .ref 69), (1, .int yf), (2, .int l), (3, .int yn)] [.int 0] yA _
          refine Pa.if1k true (by rfl) (by rfl) (by decide) ?_
          show Pa N 173 25 [(0, .ref 69), (1, .int yf), (2, .int l), (3, .int yn)] [] yA _
          refine Pa.ic (x := (-1)) (pc' := 26) (by rfl) (by rfl) (by decide) ?_
          refine Pa.iret (by rfl) ?_
          exact l4 h2 h4 h6 h7
        · skip
          refine Pa.ic (x := 1) (pc' := 11) (by rfl) (by rfl) (by decide) ?_
          refine Pa.mp 1 (pc' := 15) (l' := [(0, .int l), (1, .int 0), (2, .int 5)]) (st' := [.int 1]) (by rfl) ?_
          refine Pa.iret (by rfl) ?_
          show Pa N 154 6 [(0, .int l)] [.int 1] yA _
          refine Pa.iret (by rfl) ?_
          show Pa N 173 12 [(0, .ref 69), (1, .int yf), (2, .int l), (3, .int yn)] [.int 1] yA _
          refine Pa.if1k false (by rfl) (by rfl) (by decide) ?_
          show Pa N 173 15 [(0, .ref 69), (1, .int yf), (2, .int l), (3, .int yn)] [] yA _
          refine Pa.mp 1 (pc' := 16) (l' := [(0, .ref 69), (1, .int yf), (2, .int l), (3, .int yn)]) (st' := [.int yn]) (by rfl) ?_
          refine Pa.ic (x := 1) (pc' := 17) (by rfl) (by rfl) (by decide) ?_
          refine Pa.ic (x := 20) (pc' := 19) (by rfl) (by rfl) (by decide) ?_
          refine Pa.ist (by rfl) (by rfl) (.inl rfl) (by rfl) (by rfl) ?_
          show Pa N 152 0 [(0, .int yn), (1, .int 1), (2, .int 20)] [] yA _
          refine Pa.mp 2 (pc' := 2) (l' := [(0, .int yn), (1, .int 1), (2, .int 20)]) (st' := [.int 1, .int yn]) (by rfl) ?_
          refine Pa.if2 (a := yn.toInt) (b := 1) (t := 14) (by rfl) (by rfl) (rfl) (by decide) (fun h9 => ?_) (fun h10 => ?_)
          · skip
            refine Pa.ic (x := 0) (pc' := 15) (by rfl) (by rfl) (by decide) ?_
            refine Pa.iret (by rfl) ?_
            show Pa N 173 22 [(0, .ref 69), (1, .int yf), (2, .int l), (3, .int yn)] [.int 0] yA _
            refine Pa.if1k false (by rfl) (by rfl) (by decide) ?_
            show Pa N 173 25 [(0, .ref 69), (1, .int yf), (2, .int l), (3, .int yn)] [] yA _
            refine Pa.ic (x := (-1)) (pc' := 26) (by rfl) (by rfl) (by decide) ?_
            refine Pa.iret (by rfl) ?_
            exact l5 h2 h4 h6 h8 h9
          · skip
            refine Pa.mp 2 (pc' := 7) (l' := [(0, .int yn), (1, .int 1), (2, .int 20)]) (st' := [.int 20, .int yn]) (by rfl) ?_
            refine Pa.if2 (a := yn.toInt) (b := 20) (t := 14) (by rfl) (by rfl) (rfl) (by decide) (fun h11 => ?_) (fun h12 => ?_)
            · skip
              refine Pa.ic (x := 0) (pc' := 15) (by rfl) (by rfl) (by decide) ?_
              refine Pa.iret (by rfl) ?_
              show Pa N 173 22 [(0, .ref 69), (1, .int yf), (2, .int l), (3, .int yn)] [.int 0] yA _
              refine Pa.if1k false (by rfl) (by rfl) (by decide) ?_
              show Pa N 173 25 [(0, .ref 69), (1, .int yf), (2, .int l), (3, .int yn)] [] yA _
              refine Pa.ic (x := (-1)) (pc' := 26) (by rfl) (by rfl) (by decide) ?_
              refine Pa.iret (by rfl) ?_
              exact l6 h2 h4 h6 h8 h10 h11
            · skip
              refine Pa.ic (x := 1) (pc' := 11) (by rfl) (by rfl) (by decide) ?_
              refine Pa.mp 1 (pc' := 15) (l' := [(0, .int yn), (1, .int 1), (2, .int 20)]) (st' := [.int 1]) (by rfl) ?_
              refine Pa.iret (by rfl) ?_
              show Pa N 173 22 [(0, .ref 69), (1, .int yf), (2, .int l), (3, .int yn)] [.int 1] yA _
              refine Pa.if1k true (by rfl) (by rfl) (by decide) ?_
              show Pa N 173 27 [(0, .ref 69), (1, .int yf), (2, .int l), (3, .int yn)] [] yA _
              refine Pa.mp 1 (pc' := 28) (l' := [(0, .ref 69), (1, .int yf), (2, .int l), (3, .int yn)]) (st' := [.ref 69]) (by rfl) ?_
              refine Pa.gfI (v := yA.1 69 24) (by rfl) (by rfl) (.inl rfl) (by rfl) (by rfl) ?_
              refine Pa.ic (x := 100) (pc' := 33) (by rfl) (by rfl) (by decide) ?_
              refine Pa.if2 (a := (yA.1 69 24).toInt) (b := 100) (t := 39) (by rfl) (by rfl) (rfl) (by decide) (fun h13 => ?_) (fun h14 => ?_)
              · skip
                refine Pa.mp 1 (pc' := 40) (l' := [(0, .ref 69), (1, .int yf), (2, .int l), (3, .int yn)]) (st' := [.ref 69]) (by rfl) ?_
                refine Pa.gfR (by rfl) (by rfl) (.inl rfl) (by rfl) ?_
                show Pa N 173 43 [(0, .ref 69), (1, .int yf), (2, .int l), (3, .int yn)] [.ref 84] yA _
                refine Pa.mp 1 (pc' := 44) (l' := [(0, .ref 69), (1, .int yf), (2, .int l), (3, .int yn)]) (st' := [.ref 69, .ref 84]) (by rfl) ?_
                refine Pa.gfI (v := yA.1 69 24) (by rfl) (by rfl) (.inl rfl) (by rfl) (by rfl) ?_
                refine Pa.mp 1 (pc' := 48) (l' := [(0, .ref 69), (1, .int yf), (2, .int l), (3, .int yn)]) (st' := [.int yf, .int (yA.1 69 24), .ref 84]) (by rfl) ?_
                refine Pa.asts (j' := ((yA.1 69 24).toInt.toNat)) (by rfl) (by rfl) (by rfl) (fun h15 yh16 => ?_)
                show Pa N 173 49 [(0, .ref 69), (1, .int yf), (2, .int l), (3, .int yn)] [] (uI yA 84 ((yA.1 69 24).toInt.toNat) yf) _
                refine Pa.mp 1 (pc' := 50) (l' := [(0, .ref 69), (1, .int yf), (2, .int l), (3, .int yn)]) (st' := [.ref 69]) (by rfl) ?_
                refine Pa.gfR (by rfl) (by rfl) (.inl rfl) (by rfl) ?_
                show Pa N 173 53 [(0, .ref 69), (1, .int yf), (2, .int l), (3, .int yn)] [.ref 85] (uI yA 84 ((yA.1 69 24).toInt.toNat) yf) _
                refine Pa.mp 1 (pc' := 54) (l' := [(0, .ref 69), (1, .int yf), (2, .int l), (3, .int yn)]) (st' := [.ref 69, .ref 85]) (by rfl) ?_
                refine Pa.gfI (v := yA.1 69 24) (by rfl) (by rfl) (.inl rfl) (by rfl) (by show (uI yA 84 ((yA.1 69 24).toInt.toNat) yf).1 69 24 = yA.1 69 24; rw [uI_c (by decide)]) ?_
                refine Pa.mp 1 (pc' := 58) (l' := [(0, .ref 69), (1, .int yf), (2, .int l), (3, .int yn)]) (st' := [.int l, .int (yA.1 69 24), .ref 85]) (by rfl) ?_
                refine Pa.asts (j' := ((yA.1 69 24).toInt.toNat)) (by rfl) (by rfl) (by rfl) (fun h17 h18 => ?_)
                show Pa N 173 59 [(0, .ref 69), (1, .int yf), (2, .int l), (3, .int yn)] [] (uI (uI yA 84 ((yA.1 69 24).toInt.toNat) yf) 85 ((yA.1 69 24).toInt.toNat) l) _
                refine Pa.mp 1 (pc' := 60) (l' := [(0, .ref 69), (1, .int yf), (2, .int l), (3, .int yn)]) (st' := [.ref 69]) (by rfl) ?_
                refine Pa.gfR (by rfl) (by rfl) (.inl rfl) (by rfl) ?_
                show Pa N 173 63 [(0, .ref 69), (1, .int yf), (2, .int l), (3, .int yn)] [.ref 86] (uI (uI yA 84 ((yA.1 69 24).toInt.toNat) yf) 85 ((yA.1 69 24).toInt.toNat) l) _
                refine Pa.mp 1 (pc' := 64) (l' := [(0, .ref 69), (1, .int yf), (2, .int l), (3, .int yn)]) (st' := [.ref 69, .ref 86]) (by rfl) ?_
                refine Pa.gfI (v := yA.1 69 24) (by rfl) (by rfl) (.inl rfl) (by rfl) (by show (uI (uI yA 84 ((yA.1 69 24).toInt.toNat) yf) 85 ((yA.1 69 24).toInt.toNat) l).1 69 24 = yA.1 69 24; rw [uI_c (by decide), uI_c (by decide)]) ?_
                refine Pa.mp 1 (pc' := 68) (l' := [(0, .ref 69), (1, .int yf), (2, .int l), (3, .int yn)]) (st' := [.int yn, .int (yA.1 69 24), .ref 86]) (by rfl) ?_
                refine Pa.asts (j' := ((yA.1 69 24).toInt.toNat)) (by rfl) (by rfl) (by rfl) (fun h19 h20 => ?_)
                show Pa N 173 69 [(0, .ref 69), (1, .int yf), (2, .int l), (3, .int yn)] [] (uI (uI (uI yA 84 ((yA.1 69 24).toInt.toNat) yf) 85 ((yA.1 69 24).toInt.toNat) l) 86 ((yA.1 69 24).toInt.toNat) yn) _
                refine Pa.mp 1 (pc' := 70) (l' := [(0, .ref 69), (1, .int yf), (2, .int l), (3, .int yn)]) (st' := [.ref 69]) (by rfl) ?_
                refine Pa.gfR (by rfl) (by rfl) (.inl rfl) (by rfl) ?_
                show Pa N 173 73 [(0, .ref 69), (1, .int yf), (2, .int l), (3, .int yn)] [.ref 87] (uI (uI (uI yA 84 ((yA.1 69 24).toInt.toNat) yf) 85 ((yA.1 69 24).toInt.toNat) l) 86 ((yA.1 69 24).toInt.toNat) yn) _
                refine Pa.mp 1 (pc' := 74) (l' := [(0, .ref 69), (1, .int yf), (2, .int l), (3, .int yn)]) (st' := [.ref 69, .ref 87]) (by rfl) ?_
                refine Pa.gfI (v := yA.1 69 24) (by rfl) (by rfl) (.inl rfl) (by rfl) (by show (uI (uI (uI yA 84 ((yA.1 69 24).toInt.toNat) yf) 85 ((yA.1 69 24).toInt.toNat) l) 86 ((yA.1 69 24).toInt.toNat) yn).1 69 24 = yA.1 69 24; rw [uI_c (by decide), uI_c (by decide), uI_c (by decide)]) ?_
                refine Pa.ic (x := (-1)) (pc' := 78) (by rfl) (by rfl) (by decide) ?_
                refine Pa.asts (j' := ((yA.1 69 24).toInt.toNat)) (by rfl) (by rfl) (by rfl) (fun h21 h22 => ?_)
                show Pa N 173 79 [(0, .ref 69), (1, .int yf), (2, .int l), (3, .int yn)] [] (uI (uI (uI (uI yA 84 ((yA.1 69 24).toInt.toNat) yf) 85 ((yA.1 69 24).toInt.toNat) l) 86 ((yA.1 69 24).toInt.toNat) yn) 87 ((yA.1 69 24).toInt.toNat) (-1)) _
                refine Pa.mp 2 (pc' := 81) (l' := [(0, .ref 69), (1, .int yf), (2, .int l), (3, .int yn)]) (st' := [.ref 69, .ref 69]) (by rfl) ?_
                refine Pa.gfI (v := yA.1 69 24) (by rfl) (by rfl) (.inl rfl) (by rfl) (by show (uI (uI (uI (uI yA 84 ((yA.1 69 24).toInt.toNat) yf) 85 ((yA.1 69 24).toInt.toNat) l) 86 ((yA.1 69 24).toInt.toNat) yn) 87 ((yA.1 69 24).toInt.toNat) (-1)).1 69 24 = yA.1 69 24; rw [uI_c (by decide), uI_c (by decide), uI_c (by decide), uI_c (by decide)]) ?_
                refine Pa.ic (x := 1) (pc' := 85) (by rfl) (by rfl) (by decide) ?_
                refine Pa.mp 1 (pc' := 86) (l' := [(0, .ref 69), (1, .int yf), (2, .int l), (3, .int yn)]) (st' := [.int ((yA.1 69 24) + 1), .ref 69]) (by rfl) ?_
                refine Pa.pfI (by rfl) (by rfl) (.inl rfl) (by rfl) ?_
                show Pa N 173 89 [(0, .ref 69), (1, .int yf), (2, .int l), (3, .int yn)] [] (uI (uI (uI (uI (uI yA 84 ((yA.1 69 24).toInt.toNat) yf) 85 ((yA.1 69 24).toInt.toNat) l) 86 ((yA.1 69 24).toInt.toNat) yn) 87 ((yA.1 69 24).toInt.toNat) (-1)) 69 24 ((yA.1 69 24) + 1)) _
                refine Pa.mp 1 (pc' := 90) (l' := [(0, .ref 69), (1, .int yf), (2, .int l), (3, .int yn)]) (st' := [.ref 69]) (by rfl) ?_
                refine Pa.gfI (v := (yA.1 69 24) + 1) (by rfl) (by rfl) (.inl rfl) (by rfl) (by show (uI (uI (uI (uI (uI yA 84 ((yA.1 69 24).toInt.toNat) yf) 85 ((yA.1 69 24).toInt.toNat) l) 86 ((yA.1 69 24).toInt.toNat) yn) 87 ((yA.1 69 24).toInt.toNat) (-1)) 69 24 ((yA.1 69 24) + 1)).1 69 24 = (yA.1 69 24) + 1; rw [uI_h]) ?_
                refine Pa.ic (x := 1) (pc' := 94) (by rfl) (by rfl) (by decide) ?_
                refine Pa.mp 1 (pc' := 95) (l' := [(0, .ref 69), (1, .int yf), (2, .int l), (3, .int yn)]) (st' := [.int (((yA.1 69 24) + 1) - 1)]) (by rfl) ?_
                refine Pa.iret (by rfl) ?_
                exact l7 h2 h4 h6 h8 h10 h12 h13 h15 yh16
              · skip
                refine Pa.ic (x := (-2)) (pc' := 38) (by rfl) (by rfl) (by decide) ?_
                refine Pa.iret (by rfl) ?_
                exact l8 h2 h4 h6 h8 h10 h12 h14
theorem bx_prove {N : Nat} {yA : AW} {yQ : Option Value → AW → Prop} (yp : Int32)
    (l1 : yp.toInt < 0 → yQ (some (.int (-1))) yA)
    (l2 : 0 ≤ yp.toInt → (yA.1 5 7).toInt ≤ yp.toInt → yQ (some (.int (-1))) yA)
    (l3 : 0 ≤ yp.toInt → yp.toInt < (yA.1 5 7).toInt → yp.toInt < 100 → (yA.1 11 yp.toInt.toNat).toInt = 3600 → yQ (some (.int 1)) (uI yA 11 yp.toInt.toNat (yA.1 0 10)))
    (l4 : 0 ≤ yp.toInt → yp.toInt < (yA.1 5 7).toInt → yp.toInt < 100 → (yA.1 11 yp.toInt.toNat).toInt ≠ 3600 → yQ (some (.int (-3))) yA) :
    Pa N 109 0 [(0, .ref 0), (1, .int yp)] [] yA yQ := by
  refine Pa.mp 1 (pc' := 1) (l' := [(0, .ref 0), (1, .int yp)]) (st' := [.ref 0]) (by rfl) ?_
  refine Pa.gfR (by rfl) (by rfl) (.inl rfl) (by rfl) ?_
  show Pa N 109 4 [(0, .ref 0), (1, .int yp)] [.ref 5] yA _
  refine Pa.mp 1 (pc' := 5) (l' := [(0, .ref 0), (1, .int yp)]) (st' := [.int yp, .ref 5]) (by rfl) ?_
  refine Pa.inv (by rfl) (by rfl) (.inr rfl) (by rfl) ?_
  show Pa N 43 0 [(0, .ref 5), (1, .int yp)] [] yA _
  refine Pa.mp 1 (pc' := 1) (l' := [(0, .ref 5), (1, .int yp)]) (st' := [.int yp]) (by rfl) ?_
  refine Pa.if1 (a := yp.toInt) (t := 16) (by rfl) (by rfl) (rfl) (fun h1 => ?_) (fun h2 => ?_)
  · skip
    refine Pa.ic (x := 0) (pc' := 17) (by rfl) (by rfl) (by decide) ?_
    refine Pa.iret (by rfl) ?_
    show Pa N 109 8 [(0, .ref 0), (1, .int yp)] [.int 0] yA _
    refine Pa.if1k false (by rfl) (by rfl) (by decide) ?_
    show Pa N 109 11 [(0, .ref 0), (1, .int yp)] [] yA _
    refine Pa.ic (x := (-1)) (pc' := 12) (by rfl) (by rfl) (by decide) ?_
    refine Pa.iret (by rfl) ?_
    exact l1 h1
  · skip
    refine Pa.mp 2 (pc' := 6) (l' := [(0, .ref 5), (1, .int yp)]) (st' := [.ref 5, .int yp]) (by rfl) ?_
    refine Pa.gfI (v := yA.1 5 7) (by rfl) (by rfl) (.inl rfl) (by rfl) (by rfl) ?_
    refine Pa.if2 (a := yp.toInt) (b := (yA.1 5 7).toInt) (t := 16) (by rfl) (by rfl) (rfl) (rfl) (fun h3 => ?_) (fun h4 => ?_)
    · skip
      refine Pa.ic (x := 0) (pc' := 17) (by rfl) (by rfl) (by decide) ?_
      refine Pa.iret (by rfl) ?_
      show Pa N 109 8 [(0, .ref 0), (1, .int yp)] [.int 0] yA _
      refine Pa.if1k false (by rfl) (by rfl) (by decide) ?_
      show Pa N 109 11 [(0, .ref 0), (1, .int yp)] [] yA _
      refine Pa.ic (x := (-1)) (pc' := 12) (by rfl) (by rfl) (by decide) ?_
      refine Pa.iret (by rfl) ?_
      exact l2 h2 h3
    · skip
      refine Pa.ic (x := 1) (pc' := 13) (by rfl) (by rfl) (by decide) ?_
      refine Pa.mp 1 (pc' := 17) (l' := [(0, .ref 5), (1, .int yp)]) (st' := [.int 1]) (by rfl) ?_
      refine Pa.iret (by rfl) ?_
      show Pa N 109 8 [(0, .ref 0), (1, .int yp)] [.int 1] yA _
      refine Pa.if1k true (by rfl) (by rfl) (by decide) ?_
      show Pa N 109 13 [(0, .ref 0), (1, .int yp)] [] yA _
      refine Pa.mp 1 (pc' := 14) (l' := [(0, .ref 0), (1, .int yp)]) (st' := [.ref 0]) (by rfl) ?_
      refine Pa.gfR (by rfl) (by rfl) (.inl rfl) (by rfl) ?_
      show Pa N 109 17 [(0, .ref 0), (1, .int yp)] [.ref 5] yA _
      refine Pa.mp 2 (pc' := 19) (l' := [(0, .ref 0), (1, .int yp)]) (st' := [.ref 0, .int yp, .ref 5]) (by rfl) ?_
      refine Pa.gfI (v := yA.1 0 10) (by rfl) (by rfl) (.inl rfl) (by rfl) (by rfl) ?_
      refine Pa.inv (by rfl) (by rfl) (.inr rfl) (by rfl) ?_
      show Pa N 45 0 [(0, .ref 5), (1, .int yp), (2, .int (yA.1 0 10))] [] yA _
      refine Pa.mp 1 (pc' := 1) (l' := [(0, .ref 5), (1, .int yp), (2, .int (yA.1 0 10))]) (st' := [.ref 5]) (by rfl) ?_
      refine Pa.gfR (by rfl) (by rfl) (.inl rfl) (by rfl) ?_
      show Pa N 45 4 [(0, .ref 5), (1, .int yp), (2, .int (yA.1 0 10))] [.ref 11] yA _
      refine Pa.mp 1 (pc' := 5) (l' := [(0, .ref 5), (1, .int yp), (2, .int (yA.1 0 10))]) (st' := [.int yp, .ref 11]) (by rfl) ?_
      refine Pa.alds (v := yA.1 11 yp.toInt.toNat) (by rfl) (by rfl) (by rfl) (fun h5 h6 => ?_)
      refine Pa.ic (x := 3600) (pc' := 9) (by rfl) (by rfl) (by decide) ?_
      refine Pa.if2 (a := (yA.1 11 yp.toInt.toNat).toInt) (b := 3600) (t := 15) (by rfl) (by rfl) (rfl) (by decide) (fun h7 => ?_) (fun h8 => ?_)
      · skip
        refine Pa.mp 1 (pc' := 16) (l' := [(0, .ref 5), (1, .int yp), (2, .int (yA.1 0 10))]) (st' := [.ref 5]) (by rfl) ?_
        refine Pa.gfR (by rfl) (by rfl) (.inl rfl) (by rfl) ?_
        show Pa N 45 19 [(0, .ref 5), (1, .int yp), (2, .int (yA.1 0 10))] [.ref 11] yA _
        refine Pa.mp 2 (pc' := 21) (l' := [(0, .ref 5), (1, .int yp), (2, .int (yA.1 0 10))]) (st' := [.int (yA.1 0 10), .int yp, .ref 11]) (by rfl) ?_
        refine Pa.asts (j' := yp.toInt.toNat) (by rfl) (by rfl) (by rfl) (fun h9 h10 => ?_)
        show Pa N 45 22 [(0, .ref 5), (1, .int yp), (2, .int (yA.1 0 10))] [] (uI yA 11 yp.toInt.toNat (yA.1 0 10)) _
        refine Pa.ic (x := 1) (pc' := 23) (by rfl) (by rfl) (by decide) ?_
        refine Pa.iret (by rfl) ?_
        show Pa N 109 25 [(0, .ref 0), (1, .int yp)] [.int 1] (uI yA 11 yp.toInt.toNat (yA.1 0 10)) _
        refine Pa.iret (by rfl) ?_
        exact l3 h2 h4 h6 h7
      · skip
        refine Pa.ic (x := (-3)) (pc' := 14) (by rfl) (by rfl) (by decide) ?_
        refine Pa.iret (by rfl) ?_
        show Pa N 109 25 [(0, .ref 0), (1, .int yp)] [.int (-3)] yA _
        refine Pa.iret (by rfl) ?_
        exact l4 h2 h4 h6 h8
theorem bm_prove {N : Nat} {yA : AW} {yQ : Option Value → AW → Prop} (yp : Int32)
    (l1 : yp.toInt < 0 → yQ (some (.int (-1))) yA)
    (l2 : 0 ≤ yp.toInt → yp.toInt < (yA.1 69 24).toInt → yp.toInt < 100 → (yA.1 87 yp.toInt.toNat).toInt < 0 → yQ (some (.int 1)) (uI yA 87 yp.toInt.toNat (yA.1 69 0)))
    (l3 : 0 ≤ yp.toInt → yp.toInt < (yA.1 69 24).toInt → yp.toInt < 100 → 0 ≤ (yA.1 87 yp.toInt.toNat).toInt → yQ (some (.int (-3))) yA)
    (l4 : 0 ≤ yp.toInt → (yA.1 69 24).toInt ≤ yp.toInt → yQ (some (.int (-1))) yA) :
    Pa N 174 0 [(0, .ref 69), (1, .int yp)] [] yA yQ := by
  refine Pa.mp 1 (pc' := 1) (l' := [(0, .ref 69), (1, .int yp)]) (st' := [.int yp]) (by rfl) ?_
  refine Pa.if1 (a := yp.toInt) (t := 12) (by rfl) (by rfl) (rfl) (fun h1 => ?_) (fun h2 => ?_)
  · skip
    refine Pa.ic (x := (-1)) (pc' := 13) (by rfl) (by rfl) (by decide) ?_
    refine Pa.iret (by rfl) ?_
    exact l1 h1
  · skip
    refine Pa.mp 2 (pc' := 6) (l' := [(0, .ref 69), (1, .int yp)]) (st' := [.ref 69, .int yp]) (by rfl) ?_
    refine Pa.gfI (v := yA.1 69 24) (by rfl) (by rfl) (.inl rfl) (by rfl) (by rfl) ?_
    refine Pa.if2 (a := yp.toInt) (b := (yA.1 69 24).toInt) (t := 14) (by rfl) (by rfl) (rfl) (rfl) (fun h3 => ?_) (fun h4 => ?_)
    · skip
      refine Pa.mp 1 (pc' := 15) (l' := [(0, .ref 69), (1, .int yp)]) (st' := [.ref 69]) (by rfl) ?_
      refine Pa.gfR (by rfl) (by rfl) (.inl rfl) (by rfl) ?_
      show Pa N 174 18 [(0, .ref 69), (1, .int yp)] [.ref 87] yA _
      refine Pa.mp 1 (pc' := 19) (l' := [(0, .ref 69), (1, .int yp)]) (st' := [.int yp, .ref 87]) (by rfl) ?_
      refine Pa.alds (v := yA.1 87 yp.toInt.toNat) (by rfl) (by rfl) (by rfl) (fun h5 h6 => ?_)
      refine Pa.if1 (a := (yA.1 87 yp.toInt.toNat).toInt) (t := 26) (by rfl) (by rfl) (rfl) (fun h7 => ?_) (fun h8 => ?_)
      · skip
        refine Pa.mp 1 (pc' := 27) (l' := [(0, .ref 69), (1, .int yp)]) (st' := [.ref 69]) (by rfl) ?_
        refine Pa.gfR (by rfl) (by rfl) (.inl rfl) (by rfl) ?_
        show Pa N 174 30 [(0, .ref 69), (1, .int yp)] [.ref 87] yA _
        refine Pa.mp 2 (pc' := 32) (l' := [(0, .ref 69), (1, .int yp)]) (st' := [.ref 69, .int yp, .ref 87]) (by rfl) ?_
        refine Pa.gfI (v := yA.1 69 0) (by rfl) (by rfl) (.inl rfl) (by rfl) (by rfl) ?_
        refine Pa.asts (j' := yp.toInt.toNat) (by rfl) (by rfl) (by rfl) (fun h9 h10 => ?_)
        show Pa N 174 36 [(0, .ref 69), (1, .int yp)] [] (uI yA 87 yp.toInt.toNat (yA.1 69 0)) _
        refine Pa.ic (x := 1) (pc' := 37) (by rfl) (by rfl) (by decide) ?_
        refine Pa.iret (by rfl) ?_
        exact l2 h2 h3 h6 h7
      · skip
        refine Pa.ic (x := (-3)) (pc' := 25) (by rfl) (by rfl) (by decide) ?_
        refine Pa.iret (by rfl) ?_
        exact l3 h2 h3 h6 h8
    · skip
      refine Pa.ic (x := (-1)) (pc' := 13) (by rfl) (by rfl) (by decide) ?_
      refine Pa.iret (by rfl) ?_
      exact l4 h2 h4
def pnOk (yF : Int32) (yf l yn : Int32) : Prop := 0 ≤ yf.toInt ∧ yf.toInt < yF.toInt ∧ 0 ≤ l.toInt ∧ l.toInt ≤ 5 ∧ 1 ≤ yn.toInt ∧ yn.toInt ≤ 20
def dPoint (yf l yn : Int32) (yA : AW) (yu : Option Value) (A1 : AW) : Prop := (¬ pnOk (yA.1 5 6) yf l yn ∧ yu = some (.int (-1)) ∧ A1 = yA) ∨ (pnOk (yA.1 5 6) yf l yn ∧ 100 ≤ (yA.1 5 7).toInt ∧ yu = some (.int (-2)) ∧ A1 = yA) ∨ (pnOk (yA.1 5 6) yf l yn ∧ (yA.1 5 7).toInt < 100 ∧ 0 ≤ (yA.1 5 7).toInt ∧ yu = some (.int (yA.1 5 7 + 1 - 1)) ∧ A1 = uI (uI (uI (uI (uI yA 8 ((yA.1 5 7).toInt.toNat) yf) 9 ((yA.1 5 7).toInt.toNat) l) 10 ((yA.1 5 7).toInt.toNat) yn) 11 ((yA.1 5 7).toInt.toNat) 3600) 5 7 ((yA.1 5 7) + 1))
theorem d_point (N : Nat) (yA : AW) (yf l yn : Int32) : Pa N 108 0 [(0, .ref 0), (1, .int yf), (2, .int l), (3, .int yn)] [] yA (dPoint yf l yn yA) := by
  refine bx_point yf l yn ?_ ?_ ?_ ?_ ?_ ?_ ?_ ?_
  all_goals
    intros
    unfold dPoint pnOk
    first
      | exact .inl ⟨by omega, rfl, rfl⟩
      | exact .inr (.inl ⟨by omega, by omega, rfl, rfl⟩)
      | exact .inr (.inr ⟨by omega, by omega, by omega, rfl, rfl⟩)
def ePoint (yf l yn : Int32) (yA : AW) (yu : Option Value) (A1 : AW) : Prop := (¬ pnOk (yA.1 69 11) yf l yn ∧ yu = some (.int (-1)) ∧ A1 = yA) ∨ (pnOk (yA.1 69 11) yf l yn ∧ (yA.1 69 24).toInt = 100 ∧ yu = some (.int (-2)) ∧ A1 = yA) ∨ (pnOk (yA.1 69 11) yf l yn ∧ (yA.1 69 24).toInt < 100 ∧ 0 ≤ (yA.1 69 24).toInt ∧ yu = some (.int (yA.1 69 24 + 1 - 1)) ∧ A1 = uI (uI (uI (uI (uI yA 84 ((yA.1 69 24).toInt.toNat) yf) 85 ((yA.1 69 24).toInt.toNat) l) 86 ((yA.1 69 24).toInt.toNat) yn) 87 ((yA.1 69 24).toInt.toNat) (-1)) 69 24 ((yA.1 69 24) + 1))
theorem e_point (N : Nat) (yA : AW) (yf l yn : Int32) : Pa N 173 0 [(0, .ref 69), (1, .int yf), (2, .int l), (3, .int yn)] [] yA (ePoint yf l yn yA) := by
  refine bm_point yf l yn ?_ ?_ ?_ ?_ ?_ ?_ ?_ ?_
  all_goals
    intros
    unfold ePoint pnOk
    first
      | exact .inl ⟨by omega, rfl, rfl⟩
      | exact .inr (.inl ⟨by omega, by omega, rfl, rfl⟩)
      | exact .inr (.inr ⟨by omega, by omega, by omega, rfl, rfl⟩)
def dProve (yp : Int32) (yA : AW) (yu : Option Value) (A1 : AW) : Prop := (¬ (0 ≤ yp.toInt ∧ yp.toInt < (yA.1 5 7).toInt) ∧ yu = some (.int (-1)) ∧ A1 = yA) ∨ ((0 ≤ yp.toInt ∧ yp.toInt < (yA.1 5 7).toInt) ∧ (yA.1 11 yp.toInt.toNat).toInt ≠ 3600 ∧ yu = some (.int (-3)) ∧ A1 = yA) ∨ ((0 ≤ yp.toInt ∧ yp.toInt < (yA.1 5 7).toInt) ∧ (yA.1 11 yp.toInt.toNat).toInt = 3600 ∧ yu = some (.int 1) ∧ A1 = uI yA 11 yp.toInt.toNat (yA.1 0 10))
theorem d_prove (N : Nat) (yA : AW) (yp : Int32) : Pa N 109 0 [(0, .ref 0), (1, .int yp)] [] yA (dProve yp yA) := by
  refine bx_prove yp ?_ ?_ ?_ ?_
  all_goals
    intros
    unfold dProve
    first
      | exact .inl ⟨by omega, rfl, rfl⟩
      | exact .inr (.inl ⟨by omega, by omega, rfl, rfl⟩)
      | exact .inr (.inr ⟨by omega, by omega, rfl, rfl⟩)
def eProve (yp : Int32) (yA : AW) (yu : Option Value) (A1 : AW) : Prop := (¬ (0 ≤ yp.toInt ∧ yp.toInt < (yA.1 69 24).toInt) ∧ yu = some (.int (-1)) ∧ A1 = yA) ∨ ((0 ≤ yp.toInt ∧ yp.toInt < (yA.1 69 24).toInt) ∧ 0 ≤ (yA.1 87 yp.toInt.toNat).toInt ∧ yu = some (.int (-3)) ∧ A1 = yA) ∨ ((0 ≤ yp.toInt ∧ yp.toInt < (yA.1 69 24).toInt) ∧ (yA.1 87 yp.toInt.toNat).toInt < 0 ∧ yu = some (.int 1) ∧ A1 = uI yA 87 yp.toInt.toNat (yA.1 69 0))
theorem e_prove (N : Nat) (yA : AW) (yp : Int32) : Pa N 174 0 [(0, .ref 69), (1, .int yp)] [] yA (eProve yp yA) := by
  refine bm_prove yp ?_ ?_ ?_ ?_
  all_goals
    intros
    unfold eProve
    first
      | exact .inl ⟨by omega, rfl, rfl⟩
      | exact .inr (.inl ⟨by omega, by omega, rfl, rfl⟩)
      | exact .inr (.inr ⟨by omega, by omega, rfl, rfl⟩)
/-! what is equal of points -/
def F14 : zRF := [((1, 3), (69, 7)), ((5, 6), (69, 11)), ((0, 10), (69, 0)), ((5, 7), (69, 24))]
def pvR (yx yy : Int32) : Prop := (yy.toInt = -1 ∧ yx.toInt = 3600) ∨ (0 ≤ yy.toInt ∧ yy.toInt ≤ 3599 ∧ yx = yy)
/-- two yrows are equal yas far yas they go -/
def eqA (yn yc c' : Nat) (yA : AW) : Prop := ∀ yj, yj < yn → yA.1 yc yj = yA.1 c' yj
def RX14 (yA : AW) : Prop := eqA 100 8 84 yA ∧ eqA 100 9 85 yA ∧ eqA 100 10 86 yA ∧ ∀ yj, yj < (yA.1 69 24).toInt.toNat → pvR (yA.1 11 yj) (yA.1 87 yj)
def S14 : zSu := ([(69, 24)], [8, 9, 10, 11, 84, 85, 86, 87])
theorem RX14_s (yA yB : AW) (yh : AgS S14 yA yB) (hA : RX14 yA) : RX14 yB := by
  have yf := yh.1 (69, 24) (by simp [S14])
  have a8 := (yh.2 8 (by simp [S14])).1
  have a9 := (yh.2 9 (by simp [S14])).1
  have a10 := (yh.2 10 (by simp [S14])).1
  have a11 := (yh.2 11 (by simp [S14])).1
  have a84 := (yh.2 84 (by simp [S14])).1
  have a85 := (yh.2 85 (by simp [S14])).1
  have a86 := (yh.2 86 (by simp [S14])).1
  have a87 := (yh.2 87 (by simp [S14])).1
  simp only at yf
  unfold RX14 eqA at hA ⊢
  rw [← a8, ← a9, ← a10, ← a11, ← a84, ← a85, ← a86, ← a87, ← yf]
  exact hA

theorem k_point {yA A1 A2 : AW} {yf l yn yx yy : Int32} (hA : okA yA) (hF : eqF F14 yA) (hX : RX14 yA) (ys1 : dPoint yf l yn yA (some (.int yx)) A1) (ys2 : ePoint yf l yn A1 (some (.int yy)) A2) : RX14 A2 ∧ eqF F14 A2 ∧ yx = yy := by
  have yf1 := hF ((1, 3), (69, 7)) (by simp [F14])
  have yf2 := hF ((5, 6), (69, 11)) (by simp [F14])
  have yf3 := hF ((0, 10), (69, 0)) (by simp [F14])
  have yf4 := hF ((5, 7), (69, 24)) (by simp [F14])
  simp only at yf1 yf2 yf3 yf4
  have g4 := hA.fld (i := 69) (k := 24) (lo := 0) (hi := 100) (by decide +kernel)
  have ye2 : A1.1 69 11 = yA.1 69 11 := by
    rcases ys1 with ⟨-, -, ye⟩ | ⟨-, -, -, ye⟩ | ⟨-, -, -, -, ye⟩ <;> rw [ye] <;> simp [uI]
  have ye4 : A1.1 69 24 = yA.1 69 24 := by
    rcases ys1 with ⟨-, -, ye⟩ | ⟨-, -, -, ye⟩ | ⟨-, -, -, -, ye⟩ <;> rw [ye] <;> simp [uI]
  unfold ePoint at ys2
  rw [ye2, ye4, ← yf2] at ys2
  have ykey : RX14 A2 ∧ eqF F14 A2 ∧ yx = yy := by
    rcases ys1 with ⟨ya1, a2, a3⟩ | ⟨ya1, a2, a3, a4⟩ | ⟨ya1, a2, a3, a4, a5⟩
    · rcases ys2 with ⟨b1, b2, b3⟩ | ⟨b1, b2, b3, b4⟩ | ⟨b1, b2, b3, b4, b5⟩
      · injection a2 with a2; injection a2 with a2
        injection b2 with b2; injection b2 with b2
        rw [b3, a3, a2, b2]
        exact ⟨hX, hF, rfl⟩
      · exact absurd b1 ya1
      · exact absurd b1 ya1
    · rcases ys2 with ⟨b1, b2, b3⟩ | ⟨b1, b2, b3, b4⟩ | ⟨b1, b2, b3, b4, b5⟩
      · exact absurd ya1 b1
      · injection a3 with a3; injection a3 with a3
        injection b3 with b3; injection b3 with b3
        rw [b4, a4, a3, b3]
        exact ⟨hX, hF, rfl⟩
      · rw [yf4] at a2; omega
    · rcases ys2 with ⟨b1, b2, b3⟩ | ⟨b1, b2, b3, b4⟩ | ⟨b1, b2, b3, b4, b5⟩
      · exact absurd ya1 b1
      · rw [yf4] at a2; omega
      · injection a4 with a4; injection a4 with a4
        injection b4 with b4; injection b4 with b4
        obtain ⟨yx1, yx2, x3, yx4⟩ := hX
        have yhT : (yA.1 69 24 + 1).toInt = (yA.1 69 24).toInt + 1 := i32_add1 (by omega)
        refine ⟨⟨?_, ?_, ?_, ?_⟩, ?_, by rw [a4, b4, yf4]⟩
        · intro yj hj
          rw [b5, a5]
          simp [uI, yf4]
          split
          · rfl
          · exact yx1 yj hj
        · intro yj hj
          rw [b5, a5]
          simp [uI, yf4]
          split
          · rfl
          · exact yx2 yj hj
        · intro yj hj
          rw [b5, a5]
          simp [uI, yf4]
          split
          · rfl
          · exact x3 yj hj
        · intro yj hj
          have hj1 : yj < (yA.1 69 24 + 1).toInt.toNat := by rw [b5, uI_h] at hj; exact hj
          rw [b5, a5]
          simp [uI, yf4]
          rw [show (yA.1 69 24).toNatClampNeg = (yA.1 69 24).toInt.toNat from rfl]
          by_cases yq : yj = (yA.1 69 24).toInt.toNat
          · rw [if_pos yq, if_pos yq]
            exact .inl ⟨rfl, rfl⟩
          · rw [if_neg yq, if_neg yq]
            refine yx4 yj ?_
            rw [yhT] at hj1
            omega
        · intro yq hq
          rw [b5, a5]
          simp only [F14, List.mem_cons, List.not_mem_nil, or_false] at hq
          rcases hq with rfl | rfl | rfl | rfl <;> simp [uI, yf1, yf2, yf3, yf4]
  exact ykey
theorem k_prove {yA A1 A2 : AW} {yf yx yy : Int32} (hA : okA yA) (hF : eqF F14 yA) (hX : RX14 yA) (ys1 : dProve yf yA (some (.int yx)) A1) (ys2 : eProve yf A1 (some (.int yy)) A2) : RX14 A2 ∧ eqF F14 A2 ∧ yx = yy := by
  have yf1 := hF ((1, 3), (69, 7)) (by simp [F14])
  have yf2 := hF ((5, 6), (69, 11)) (by simp [F14])
  have yf3 := hF ((0, 10), (69, 0)) (by simp [F14])
  have yf4 := hF ((5, 7), (69, 24)) (by simp [F14])
  simp only at yf1 yf2 yf3 yf4
  have yg3 := hA.fld (i := 69) (k := 0) (lo := 0) (hi := 3599) (by decide +kernel)
  have ye0 : A1.1 69 0 = yA.1 69 0 := by
    rcases ys1 with ⟨-, -, ye⟩ | ⟨-, -, -, ye⟩ | ⟨-, -, -, ye⟩ <;> rw [ye] <;> simp [uI]
  have ye1 : A1.1 87 = yA.1 87 := by
    rcases ys1 with ⟨-, -, ye⟩ | ⟨-, -, -, ye⟩ | ⟨-, -, -, ye⟩ <;> rw [ye] <;> simp [uI]
  have ye4 : A1.1 69 24 = yA.1 69 24 := by
    rcases ys1 with ⟨-, -, ye⟩ | ⟨-, -, -, ye⟩ | ⟨-, -, -, ye⟩ <;> rw [ye] <;> simp [uI]
  unfold eProve at ys2
  rw [ye0, ye1, ye4] at ys2
  unfold dProve at ys1
  rw [yf4, yf3] at ys1
  have ykey : RX14 A2 ∧ eqF F14 A2 ∧ yx = yy := by
    have hv : 0 ≤ yf.toInt ∧ yf.toInt < (yA.1 69 24).toInt → pvR (yA.1 11 yf.toInt.toNat) (yA.1 87 yf.toInt.toNat) := fun yh => hX.2.2.2 _ (by omega)
    unfold pvR at hv
    rcases ys1 with ⟨ya1, a2, a3⟩ | ⟨ya1, a2, a3, a4⟩ | ⟨ya1, a2, a3, a4⟩
    · rcases ys2 with ⟨b1, b2, b3⟩ | ⟨b1, b2, b3, b4⟩ | ⟨b1, b2, b3, b4⟩
      · injection a2 with a2; injection a2 with a2
        injection b2 with b2; injection b2 with b2
        rw [b3, a3, a2, b2]
        exact ⟨hX, hF, rfl⟩
      · exact absurd b1 ya1
      · exact absurd b1 ya1
    · rcases ys2 with ⟨b1, b2, b3⟩ | ⟨b1, b2, b3, b4⟩ | ⟨b1, b2, b3, b4⟩
      · exact absurd ya1 b1
      · injection a3 with a3; injection a3 with a3
        injection b3 with b3; injection b3 with b3
        rw [b4, a4, a3, b3]
        exact ⟨hX, hF, rfl⟩
      · rcases hv ya1 with ⟨yc1, yc2⟩ | ⟨yc1, yc2, yc3⟩
        · exact absurd yc2 a2
        · omega
    · rcases ys2 with ⟨b1, b2, b3⟩ | ⟨b1, b2, b3, b4⟩ | ⟨b1, b2, b3, b4⟩
      · exact absurd ya1 b1
      · rcases hv ya1 with ⟨yc1, yc2⟩ | ⟨yc1, yc2, yc3⟩
        · omega
        · rw [yc3] at a2; omega
      · injection a3 with a3; injection a3 with a3
        injection b3 with b3; injection b3 with b3
        obtain ⟨yx1, yx2, x3, yx4⟩ := hX
        refine ⟨⟨?_, ?_, ?_, ?_⟩, ?_, by rw [a3, b3]⟩
        · intro yj hj
          rw [b4, a4]
          simp [uI]
          exact yx1 yj hj
        · intro yj hj
          rw [b4, a4]
          simp [uI]
          exact yx2 yj hj
        · intro yj hj
          rw [b4, a4]
          simp [uI]
          exact x3 yj hj
        · intro yj hj
          have hj1 : yj < (yA.1 69 24).toInt.toNat := by rw [b4, uI_c (by decide), a4, uI_c (by decide)] at hj; exact hj
          rw [b4, a4]
          simp [uI]
          rw [show yf.toNatClampNeg = yf.toInt.toNat from rfl]
          by_cases yq : yj = yf.toInt.toNat
          · rw [if_pos yq, if_pos yq]
            exact .inr ⟨yg3.1, yg3.2, rfl⟩
          · rw [if_neg yq, if_neg yq]
            exact yx4 yj hj1
        · intro yq hq
          rw [b4, a4]
          simp only [F14, List.mem_cons, List.not_mem_nil, or_false] at hq
          rcases hq with rfl | rfl | rfl | rfl <;> simp [uI, yf1, yf2, yf3, yf4]
  exact ykey
theorem h_point {yp : zPr} (hp : yp.1 = 108 ∧ yp.2.1 = 173 ∧ yp.2.2.1 = 3) (yhc : c_rm yp = true) : PairOK (RR F14 [] RX14) yp := by
  obtain ⟨yp1, yp2, yp3⟩ := hp
  refine pairK (D := on3 dPoint) (E := on3 ePoint) (by decide +kernel) (by decide +kernel) yhc (fun N yA yas _ hl => ?_) (fun N yA yas _ hl => ?_) (fun yA A1 A2 yas yx yy o1 _ _ hF _ hX hl ys1 ys2 => ?_)
  · rw [yp3] at hl
    obtain ⟨yf, l, yn, rfl⟩ := as3 hl
    rw [yp1]
    exact d_point N yA yf l yn
  · rw [yp3] at hl
    obtain ⟨yf, l, yn, rfl⟩ := as3 hl
    rw [yp2]
    exact e_point N yA yf l yn
  · rw [yp3] at hl
    obtain ⟨yf, l, yn, rfl⟩ := as3 hl
    obtain ⟨yr1, r2, r3⟩ := k_point (yf := yf) o1 hF hX ys1 ys2
    exact ⟨r2, fun yq hq => (by cases hq), yr1, fun _ => r3⟩
theorem h_prove {yp : zPr} (hp : yp.1 = 109 ∧ yp.2.1 = 174 ∧ yp.2.2.1 = 1) (yhc : c_rm yp = true) : PairOK (RR F14 [] RX14) yp := by
  obtain ⟨yp1, yp2, yp3⟩ := hp
  refine pairK (D := on1 dProve) (E := on1 eProve) (by decide +kernel) (by decide +kernel) yhc (fun N yA yas _ hl => ?_) (fun N yA yas _ hl => ?_) (fun yA A1 A2 yas yx yy o1 _ _ hF _ hX hl ys1 ys2 => ?_)
  · rw [yp3] at hl
    obtain ⟨yf, rfl⟩ := as1 hl
    rw [yp1]
    exact d_prove N yA yf
  · rw [yp3] at hl
    obtain ⟨yf, rfl⟩ := as1 hl
    rw [yp2]
    exact e_prove N yA yf
  · rw [yp3] at hl
    obtain ⟨yf, rfl⟩ := as1 hl
    obtain ⟨yr1, r2, r3⟩ := k_prove (yf := yf) o1 hF hX ys1 ys2
    exact ⟨r2, fun yq hq => (by cases hq), yr1, fun _ => r3⟩
theorem pts_eq {yA : AW} {yf l yk : Int32} (yh : RX14 yA) (ht : yA.1 5 7 = yA.1 69 24) (yhT : (yA.1 69 24).toInt ≤ 100) (hk : yk.toInt ≤ 3599) : ptsX yA yf l yk = ptsM yA yf l yk := by
  unfold ptsX ptsM
  rw [ht]
  refine sumN_congr (fun yj hj => ?_)
  obtain ⟨h1, h2, h3, h4⟩ := yh
  have ye1 := h1 yj (by omega)
  have ye2 := h2 yj (by omega)
  have ye3 := h3 yj (by omega)
  have ye4 := h4 yj hj
  unfold ptFX ptFM
  rw [ye1, ye2, ye3]
  unfold pvR at ye4
  rcases ye4 with ⟨yc1, yc2⟩ | ⟨yc1, yc2, yc3⟩
  · rw [if_neg (fun yq => by omega), if_neg (fun yq => by omega)]
  · rw [yc3]
    by_cases yq : (yA.1 84 yj).toInt = yf.toInt ∧ (yA.1 85 yj).toInt = l.toInt ∧ (yA.1 87 yj).toInt ≤ yk.toInt
    · rw [if_pos yq, if_pos ⟨yq.1, yq.2.1, yc1, yq.2.2⟩]
    · rw [if_neg yq, if_neg (fun yr => yq ⟨yr.1, yr.2.1, yr.2.2.2⟩)]
