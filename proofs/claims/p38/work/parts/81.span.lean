/-! SPAN: the likes of ya day, sorted -/
theorem bx_like {N : Nat} {yA : AW} {yQ : Option Value → AW → Prop} (ys l yd yv : Int32)
    (l1 : ys.toInt < 0 → yQ (some (.int (-1))) yA)
    (l2 : 0 ≤ ys.toInt → 19 < ys.toInt → yQ (some (.int (-1))) yA)
    (l3 : 0 ≤ ys.toInt → ys.toInt ≤ 19 → l.toInt < 0 → yQ (some (.int (-1))) yA)
    (l4 : 0 ≤ ys.toInt → ys.toInt ≤ 19 → 0 ≤ l.toInt → 5 < l.toInt → yQ (some (.int (-1))) yA)
    (l5 : 0 ≤ ys.toInt → ys.toInt ≤ 19 → 0 ≤ l.toInt → l.toInt ≤ 5 → yd.toInt < 0 → yQ (some (.int (-1))) yA)
    (l6 : 0 ≤ ys.toInt → ys.toInt ≤ 19 → 0 ≤ l.toInt → l.toInt ≤ 5 → 0 ≤ yd.toInt → (yA.1 0 10).toInt < yd.toInt → yQ (some (.int (-1))) yA)
    (l7 : 0 ≤ ys.toInt → ys.toInt ≤ 19 → 0 ≤ l.toInt → l.toInt ≤ 5 → 0 ≤ yd.toInt → yd.toInt ≤ (yA.1 0 10).toInt → yv.toInt < 1 → yQ (some (.int (-1))) yA)
    (l8 : 0 ≤ ys.toInt → ys.toInt ≤ 19 → 0 ≤ l.toInt → l.toInt ≤ 5 → 0 ≤ yd.toInt → yd.toInt ≤ (yA.1 0 10).toInt → 1 ≤ yv.toInt → 99999 < yv.toInt → yQ (some (.int (-1))) yA)
    (l9 : 0 ≤ ys.toInt → ys.toInt ≤ 19 → 0 ≤ l.toInt → l.toInt ≤ 5 → 0 ≤ yd.toInt → yd.toInt ≤ (yA.1 0 10).toInt → 1 ≤ yv.toInt → yv.toInt ≤ 99999 → (yA.1 20 9).toInt < 120 → 0 ≤ (yA.1 20 9).toInt → yQ (some (.int ((yA.1 20 9) + 1))) (uI (uI (uI (uI (uI (uI yA 24 ((yA.1 20 9).toInt.toNat) ys) 25 ((yA.1 20 9).toInt.toNat) l) 26 ((yA.1 20 9).toInt.toNat) yd) 27 ((yA.1 20 9).toInt.toNat) yv) 28 ((yA.1 20 9).toInt.toNat) (yA.1 0 10)) 20 9 ((yA.1 20 9) + 1)))
    (l10 : 0 ≤ ys.toInt → ys.toInt ≤ 19 → 0 ≤ l.toInt → l.toInt ≤ 5 → 0 ≤ yd.toInt → yd.toInt ≤ (yA.1 0 10).toInt → 1 ≤ yv.toInt → yv.toInt ≤ 99999 → 120 ≤ (yA.1 20 9).toInt → yQ (some (.int (-2))) yA) :
    Pa N 114 0 [(0, .ref 0), (1, .int ys), (2, .int l), (3, .int yd), (4, .int yv)] [] yA yQ := by
  refine Pa.mp 1 (pc' := 1) (l' := [(0, .ref 0), (1, .int ys), (2, .int l), (3, .int yd), (4, .int yv)]) (st' := [.int ys]) (by rfl) ?_
  refine Pa.ic (x := 0) (pc' := 2) (by rfl) (by rfl) (by decide) ?_
  refine Pa.ic (x := 19) (pc' := 4) (by rfl) (by rfl) (by decide) ?_
  refine Pa.ist (by rfl) (by rfl) (.inl rfl) (by rfl) (by rfl) ?_
  show Pa N 146 0 [(0, .int ys), (1, .int 0), (2, .int 19)] [] yA _
  refine Pa.mp 2 (pc' := 2) (l' := [(0, .int ys), (1, .int 0), (2, .int 19)]) (st' := [.int 0, .int ys]) (by rfl) ?_
  refine Pa.if2 (a := ys.toInt) (b := 0) (t := 14) (by rfl) (by rfl) (rfl) (by decide) (fun h1 => ?_) (fun h2 => ?_)
  · have h1 : ys.toInt < 0 := h1
    refine Pa.ic (x := 0) (pc' := 15) (by rfl) (by rfl) (by decide) ?_
    refine Pa.iret (by rfl) ?_
    show Pa N 114 7 [(0, .ref 0), (1, .int ys), (2, .int l), (3, .int yd), (4, .int yv)] [.int 0] yA _
    refine Pa.if1k true (by rfl) (by rfl) (by decide) ?_
    show Pa N 114 40 [(0, .ref 0), (1, .int ys), (2, .int l), (3, .int yd), (4, .int yv)] [] yA _
    refine Pa.ic (x := (-1)) (pc' := 41) (by rfl) (by rfl) (by decide) ?_
    refine Pa.iret (by rfl) ?_
    exact l1 h1
  · have h2 : 0 ≤ ys.toInt := h2
    refine Pa.mp 2 (pc' := 7) (l' := [(0, .int ys), (1, .int 0), (2, .int 19)]) (st' := [.int 19, .int ys]) (by rfl) ?_
    refine Pa.if2 (a := ys.toInt) (b := 19) (t := 14) (by rfl) (by rfl) (rfl) (by decide) (fun h3 => ?_) (fun h4 => ?_)
    · have h3 : 19 < ys.toInt := h3
      refine Pa.ic (x := 0) (pc' := 15) (by rfl) (by rfl) (by decide) ?_
      refine Pa.iret (by rfl) ?_
      show Pa N 114 7 [(0, .ref 0), (1, .int ys), (2, .int l), (3, .int yd), (4, .int yv)] [.int 0] yA _
      refine Pa.if1k true (by rfl) (by rfl) (by decide) ?_
      show Pa N 114 40 [(0, .ref 0), (1, .int ys), (2, .int l), (3, .int yd), (4, .int yv)] [] yA _
      refine Pa.ic (x := (-1)) (pc' := 41) (by rfl) (by rfl) (by decide) ?_
      refine Pa.iret (by rfl) ?_
      exact l2 h2 h3
    · have h4 : ys.toInt ≤ 19 := h4
      refine Pa.ic (x := 1) (pc' := 11) (by rfl) (by rfl) (by decide) ?_
      refine Pa.mp 1 (pc' := 15) (l' := [(0, .int ys), (1, .int 0), (2, .int 19)]) (st' := [.int 1]) (by rfl) ?_
      refine Pa.iret (by rfl) ?_
      show Pa N 114 7 [(0, .ref 0), (1, .int ys), (2, .int l), (3, .int yd), (4, .int yv)] [.int 1] yA _
      refine Pa.if1k false (by rfl) (by rfl) (by decide) ?_
      show Pa N 114 10 [(0, .ref 0), (1, .int ys), (2, .int l), (3, .int yd), (4, .int yv)] [] yA _
      refine Pa.mp 1 (pc' := 11) (l' := [(0, .ref 0), (1, .int ys), (2, .int l), (3, .int yd), (4, .int yv)]) (st' := [.int l]) (by rfl) ?_
      refine Pa.ist (by rfl) (by rfl) (.inl rfl) (by rfl) (by rfl) ?_
      show Pa N 147 0 [(0, .int l)] [] yA _
      refine Pa.mp 1 (pc' := 1) (l' := [(0, .int l)]) (st' := [.int l]) (by rfl) ?_
      refine Pa.ic (x := 0) (pc' := 2) (by rfl) (by rfl) (by decide) ?_
      refine Pa.ic (x := 5) (pc' := 3) (by rfl) (by rfl) (by decide) ?_
      refine Pa.ist (by rfl) (by rfl) (.inl rfl) (by rfl) (by rfl) ?_
      show Pa N 146 0 [(0, .int l), (1, .int 0), (2, .int 5)] [] yA _
      refine Pa.mp 2 (pc' := 2) (l' := [(0, .int l), (1, .int 0), (2, .int 5)]) (st' := [.int 0, .int l]) (by rfl) ?_
      refine Pa.if2 (a := l.toInt) (b := 0) (t := 14) (by rfl) (by rfl) (rfl) (by decide) (fun h5 => ?_) (fun h6 => ?_)
      · have h5 : l.toInt < 0 := h5
        refine Pa.ic (x := 0) (pc' := 15) (by rfl) (by rfl) (by decide) ?_
        refine Pa.iret (by rfl) ?_
        show Pa N 147 6 [(0, .int l)] [.int 0] yA _
        refine Pa.iret (by rfl) ?_
        show Pa N 114 14 [(0, .ref 0), (1, .int ys), (2, .int l), (3, .int yd), (4, .int yv)] [.int 0] yA _
        refine Pa.if1k true (by rfl) (by rfl) (by decide) ?_
        show Pa N 114 40 [(0, .ref 0), (1, .int ys), (2, .int l), (3, .int yd), (4, .int yv)] [] yA _
        refine Pa.ic (x := (-1)) (pc' := 41) (by rfl) (by rfl) (by decide) ?_
        refine Pa.iret (by rfl) ?_
        exact l3 h2 h4 h5
      · have h6 : 0 ≤ l.toInt := h6
        refine Pa.mp 2 (pc' := 7) (l' := [(0, .int l), (1, .int 0), (2, .int 5)]) (st' := [.int 5, .int l]) (by rfl) ?_
        refine Pa.if2 (a := l.toInt) (b := 5) (t := 14) (by rfl) (by rfl) (rfl) (by decide) (fun h7 => ?_) (fun h8 => ?_)
        · have h7 : 5 < l.toInt := h7
          refine Pa.ic (x := 0) (pc' := 15) (by rfl) (by rfl) (by decide) ?_
          refine Pa.iret (by rfl) ?_
          show Pa N 147 6 [(0, .int l)] [.int 0] yA _
          refine Pa.iret (by rfl) ?_
          show Pa N 114 14 [(0, .ref 0), (1, .int ys), (2, .int l), (3, .int yd), (4, .int yv)] [.int 0] yA _
          refine Pa.if1k true (by rfl) (by rfl) (by decide) ?_
          show Pa N 114 40 [(0, .ref 0), (1, .int ys), (2, .int l), (3, .int yd), (4, .int yv)] [] yA _
          refine Pa.ic (x := (-1)) (pc' := 41) (by rfl) (by rfl) (by decide) ?_
          refine Pa.iret (by rfl) ?_
          exact l4 h2 h4 h6 h7
        · have h8 : l.toInt ≤ 5 := h8
          refine Pa.ic (x := 1) (pc' := 11) (by rfl) (by rfl) (by decide) ?_
          refine Pa.mp 1 (pc' := 15) (l' := [(0, .int l), (1, .int 0), (2, .int 5)]) (st' := [.int 1]) (by rfl) ?_
          refine Pa.iret (by rfl) ?_
          show Pa N 147 6 [(0, .int l)] [.int 1] yA _
          refine Pa.iret (by rfl) ?_
          show Pa N 114 14 [(0, .ref 0), (1, .int ys), (2, .int l), (3, .int yd), (4, .int yv)] [.int 1] yA _
          refine Pa.if1k false (by rfl) (by rfl) (by decide) ?_
          show Pa N 114 17 [(0, .ref 0), (1, .int ys), (2, .int l), (3, .int yd), (4, .int yv)] [] yA _
          refine Pa.mp 1 (pc' := 18) (l' := [(0, .ref 0), (1, .int ys), (2, .int l), (3, .int yd), (4, .int yv)]) (st' := [.int yd]) (by rfl) ?_
          refine Pa.ic (x := 0) (pc' := 19) (by rfl) (by rfl) (by decide) ?_
          refine Pa.mp 1 (pc' := 20) (l' := [(0, .ref 0), (1, .int ys), (2, .int l), (3, .int yd), (4, .int yv)]) (st' := [.ref 0, .int 0, .int yd]) (by rfl) ?_
          refine Pa.gfI (v := yA.1 0 10) (by rfl) (by rfl) (.inl rfl) (by rfl) (by rfl) ?_
          refine Pa.ist (by rfl) (by rfl) (.inl rfl) (by rfl) (by rfl) ?_
          show Pa N 146 0 [(0, .int yd), (1, .int 0), (2, .int (yA.1 0 10))] [] yA _
          refine Pa.mp 2 (pc' := 2) (l' := [(0, .int yd), (1, .int 0), (2, .int (yA.1 0 10))]) (st' := [.int 0, .int yd]) (by rfl) ?_
          refine Pa.if2 (a := yd.toInt) (b := 0) (t := 14) (by rfl) (by rfl) (rfl) (by decide) (fun h9 => ?_) (fun h10 => ?_)
          · have h9 : yd.toInt < 0 := h9
            refine Pa.ic (x := 0) (pc' := 15) (by rfl) (by rfl) (by decide) ?_
            refine Pa.iret (by rfl) ?_
            show Pa N 114 26 [(0, .ref 0), (1, .int ys), (2, .int l), (3, .int yd), (4, .int yv)] [.int 0] yA _
            refine Pa.if1k true (by rfl) (by rfl) (by decide) ?_
            show Pa N 114 40 [(0, .ref 0), (1, .int ys), (2, .int l), (3, .int yd), (4, .int yv)] [] yA _
            refine Pa.ic (x := (-1)) (pc' := 41) (by rfl) (by rfl) (by decide) ?_
            refine Pa.iret (by rfl) ?_
            exact l5 h2 h4 h6 h8 h9
          · have h10 : 0 ≤ yd.toInt := h10
            refine Pa.mp 2 (pc' := 7) (l' := [(0, .int yd), (1, .int 0), (2, .int (yA.1 0 10))]) (st' := [.int (yA.1 0 10), .int yd]) (by rfl) ?_
            refine Pa.if2 (a := yd.toInt) (b := (yA.1 0 10).toInt) (t := 14) (by rfl) (by rfl) (rfl) (rfl) (fun h11 => ?_) (fun h12 => ?_)
            · have h11 : (yA.1 0 10).toInt < yd.toInt := h11
              refine Pa.ic (x := 0) (pc' := 15) (by rfl) (by rfl) (by decide) ?_
              refine Pa.iret (by rfl) ?_
              show Pa N 114 26 [(0, .ref 0), (1, .int ys), (2, .int l), (3, .int yd), (4, .int yv)] [.int 0] yA _
              refine Pa.if1k true (by rfl) (by rfl) (by decide) ?_
              show Pa N 114 40 [(0, .ref 0), (1, .int ys), (2, .int l), (3, .int yd), (4, .int yv)] [] yA _
              refine Pa.ic (x := (-1)) (pc' := 41) (by rfl) (by rfl) (by decide) ?_
              refine Pa.iret (by rfl) ?_
              exact l6 h2 h4 h6 h8 h10 h11
            · have h12 : yd.toInt ≤ (yA.1 0 10).toInt := h12
              refine Pa.ic (x := 1) (pc' := 11) (by rfl) (by rfl) (by decide) ?_
              refine Pa.mp 1 (pc' := 15) (l' := [(0, .int yd), (1, .int 0), (2, .int (yA.1 0 10))]) (st' := [.int 1]) (by rfl) ?_
              refine Pa.iret (by rfl) ?_
              show Pa N 114 26 [(0, .ref 0), (1, .int ys), (2, .int l), (3, .int yd), (4, .int yv)] [.int 1] yA _
              refine Pa.if1k false (by rfl) (by rfl) (by decide) ?_
              show Pa N 114 29 [(0, .ref 0), (1, .int ys), (2, .int l), (3, .int yd), (4, .int yv)] [] yA _
              refine Pa.mp 1 (pc' := 31) (l' := [(0, .ref 0), (1, .int ys), (2, .int l), (3, .int yd), (4, .int yv)]) (st' := [.int yv]) (by rfl) ?_
              refine Pa.ic (x := 1) (pc' := 32) (by rfl) (by rfl) (by decide) ?_
              refine Pa.icl (x := 99999) (pc' := 34) (by rfl) (fun _ _ _ => by rfl) (by decide) ?_
              refine Pa.ist (by rfl) (by rfl) (.inl rfl) (by rfl) (by rfl) ?_
              show Pa N 146 0 [(0, .int yv), (1, .int 1), (2, .int 99999)] [] yA _
              refine Pa.mp 2 (pc' := 2) (l' := [(0, .int yv), (1, .int 1), (2, .int 99999)]) (st' := [.int 1, .int yv]) (by rfl) ?_
              refine Pa.if2 (a := yv.toInt) (b := 1) (t := 14) (by rfl) (by rfl) (rfl) (by decide) (fun h13 => ?_) (fun h14 => ?_)
              · have h13 : yv.toInt < 1 := h13
                refine Pa.ic (x := 0) (pc' := 15) (by rfl) (by rfl) (by decide) ?_
                refine Pa.iret (by rfl) ?_
                show Pa N 114 37 [(0, .ref 0), (1, .int ys), (2, .int l), (3, .int yd), (4, .int yv)] [.int 0] yA _
                refine Pa.if1k false (by rfl) (by rfl) (by decide) ?_
                show Pa N 114 40 [(0, .ref 0), (1, .int ys), (2, .int l), (3, .int yd), (4, .int yv)] [] yA _
                refine Pa.ic (x := (-1)) (pc' := 41) (by rfl) (by rfl) (by decide) ?_
                refine Pa.iret (by rfl) ?_
                exact l7 h2 h4 h6 h8 h10 h12 h13
              · have h14 : 1 ≤ yv.toInt := h14
                refine Pa.mp 2 (pc' := 7) (l' := [(0, .int yv), (1, .int 1), (2, .int 99999)]) (st' := [.int 99999, .int yv]) (by rfl) ?_
                refine Pa.if2 (a := yv.toInt) (b := 99999) (t := 14) (by rfl) (by rfl) (rfl) (by decide) (fun h15 => ?_) (fun yh16 => ?_)
                · have h15 : 99999 < yv.toInt := h15
                  refine Pa.ic (x := 0) (pc' := 15) (by rfl) (by rfl) (by decide) ?_
                  refine Pa.iret (by rfl) ?_
                  show Pa N 114 37 [(0, .ref 0), (1, .int ys), (2, .int l), (3, .int yd), (4, .int yv)] [.int 0] yA _
                  refine Pa.if1k false (by rfl) (by rfl) (by decide) ?_
                  show Pa N 114 40 [(0, .ref 0), (1, .int ys), (2, .int l), (3, .int yd), (4, .int yv)] [] yA _
                  refine Pa.ic (x := (-1)) (pc' := 41) (by rfl) (by rfl) (by decide) ?_
                  refine Pa.iret (by rfl) ?_
                  exact l8 h2 h4 h6 h8 h10 h12 h14 h15
                · have yh16 : yv.toInt ≤ 99999 := yh16
                  refine Pa.ic (x := 1) (pc' := 11) (by rfl) (by rfl) (by decide) ?_
                  refine Pa.mp 1 (pc' := 15) (l' := [(0, .int yv), (1, .int 1), (2, .int 99999)]) (st' := [.int 1]) (by rfl) ?_
                  refine Pa.iret (by rfl) ?_
                  show Pa N 114 37 [(0, .ref 0), (1, .int ys), (2, .int l), (3, .int yd), (4, .int yv)] [.int 1] yA _
                  refine Pa.if1k true (by rfl) (by rfl) (by decide) ?_
                  show Pa N 114 42 [(0, .ref 0), (1, .int ys), (2, .int l), (3, .int yd), (4, .int yv)] [] yA _
                  refine Pa.mp 1 (pc' := 43) (l' := [(0, .ref 0), (1, .int ys), (2, .int l), (3, .int yd), (4, .int yv)]) (st' := [.ref 0]) (by rfl) ?_
                  refine Pa.gfR (by rfl) (by rfl) (.inl rfl) (by rfl) ?_
                  show Pa N 114 46 [(0, .ref 0), (1, .int ys), (2, .int l), (3, .int yd), (4, .int yv)] [.ref 20] yA _
                  refine Pa.mp 5 (pc' := 52) (l' := [(0, .ref 0), (1, .int ys), (2, .int l), (3, .int yd), (4, .int yv)]) (st' := [.ref 0, .int yv, .int yd, .int l, .int ys, .ref 20]) (by rfl) ?_
                  refine Pa.gfI (v := yA.1 0 10) (by rfl) (by rfl) (.inl rfl) (by rfl) (by rfl) ?_
                  refine Pa.inv (by rfl) (by rfl) (.inr rfl) (by rfl) ?_
                  show Pa N 63 0 [(0, .ref 20), (1, .int ys), (2, .int l), (3, .int yd), (4, .int yv), (5, .int (yA.1 0 10))] [] yA _
                  refine Pa.mp 1 (pc' := 1) (l' := [(0, .ref 20), (1, .int ys), (2, .int l), (3, .int yd), (4, .int yv), (5, .int (yA.1 0 10))]) (st' := [.ref 20]) (by rfl) ?_
                  refine Pa.gfI (v := yA.1 20 9) (by rfl) (by rfl) (.inl rfl) (by rfl) (by rfl) ?_
                  refine Pa.ic (x := 120) (pc' := 6) (by rfl) (by rfl) (by decide) ?_
                  refine Pa.if2 (a := (yA.1 20 9).toInt) (b := 120) (t := 12) (by rfl) (by rfl) (rfl) (by decide) (fun h17 => ?_) (fun h18 => ?_)
                  · have h17 : (yA.1 20 9).toInt < 120 := h17
                    refine Pa.mp 1 (pc' := 13) (l' := [(0, .ref 20), (1, .int ys), (2, .int l), (3, .int yd), (4, .int yv), (5, .int (yA.1 0 10))]) (st' := [.ref 20]) (by rfl) ?_
                    refine Pa.gfR (by rfl) (by rfl) (.inl rfl) (by rfl) ?_
                    show Pa N 63 16 [(0, .ref 20), (1, .int ys), (2, .int l), (3, .int yd), (4, .int yv), (5, .int (yA.1 0 10))] [.ref 24] yA _
                    refine Pa.mp 1 (pc' := 17) (l' := [(0, .ref 20), (1, .int ys), (2, .int l), (3, .int yd), (4, .int yv), (5, .int (yA.1 0 10))]) (st' := [.ref 20, .ref 24]) (by rfl) ?_
                    refine Pa.gfI (v := yA.1 20 9) (by rfl) (by rfl) (.inl rfl) (by rfl) (by rfl) ?_
                    refine Pa.mp 1 (pc' := 21) (l' := [(0, .ref 20), (1, .int ys), (2, .int l), (3, .int yd), (4, .int yv), (5, .int (yA.1 0 10))]) (st' := [.int ys, .int (yA.1 20 9), .ref 24]) (by rfl) ?_
                    refine Pa.asts (j' := ((yA.1 20 9).toInt.toNat)) (by rfl) (by rfl) (by rfl) (fun h19 h20 => ?_)
                    have h19 : 0 ≤ (yA.1 20 9).toInt := h19
                    have h20 : (yA.1 20 9).toInt < 120 := h20
                    show Pa N 63 22 [(0, .ref 20), (1, .int ys), (2, .int l), (3, .int yd), (4, .int yv), (5, .int (yA.1 0 10))] [] (uI yA 24 ((yA.1 20 9).toInt.toNat) ys) _
                    refine Pa.mp 1 (pc' := 23) (l' := [(0, .ref 20), (1, .int ys), (2, .int l), (3, .int yd), (4, .int yv), (5, .int (yA.1 0 10))]) (st' := [.ref 20]) (by rfl) ?_
                    refine Pa.gfR (by rfl) (by rfl) (.inl rfl) (by rfl) ?_
                    show Pa N 63 26 [(0, .ref 20), (1, .int ys), (2, .int l), (3, .int yd), (4, .int yv), (5, .int (yA.1 0 10))] [.ref 25] (uI yA 24 ((yA.1 20 9).toInt.toNat) ys) _
                    refine Pa.mp 1 (pc' := 27) (l' := [(0, .ref 20), (1, .int ys), (2, .int l), (3, .int yd), (4, .int yv), (5, .int (yA.1 0 10))]) (st' := [.ref 20, .ref 25]) (by rfl) ?_
                    refine Pa.gfI (v := yA.1 20 9) (by rfl) (by rfl) (.inl rfl) (by rfl) (by show (uI yA 24 ((yA.1 20 9).toInt.toNat) ys).1 20 9 = yA.1 20 9; rw [uI_c (by decide)]) ?_
                    refine Pa.mp 1 (pc' := 31) (l' := [(0, .ref 20), (1, .int ys), (2, .int l), (3, .int yd), (4, .int yv), (5, .int (yA.1 0 10))]) (st' := [.int l, .int (yA.1 20 9), .ref 25]) (by rfl) ?_
                    refine Pa.asts (j' := ((yA.1 20 9).toInt.toNat)) (by rfl) (by rfl) (by rfl) (fun h21 h22 => ?_)
                    have h21 : 0 ≤ (yA.1 20 9).toInt := h21
                    have h22 : (yA.1 20 9).toInt < 120 := h22
                    show Pa N 63 32 [(0, .ref 20), (1, .int ys), (2, .int l), (3, .int yd), (4, .int yv), (5, .int (yA.1 0 10))] [] (uI (uI yA 24 ((yA.1 20 9).toInt.toNat) ys) 25 ((yA.1 20 9).toInt.toNat) l) _
                    refine Pa.mp 1 (pc' := 33) (l' := [(0, .ref 20), (1, .int ys), (2, .int l), (3, .int yd), (4, .int yv), (5, .int (yA.1 0 10))]) (st' := [.ref 20]) (by rfl) ?_
                    refine Pa.gfR (by rfl) (by rfl) (.inl rfl) (by rfl) ?_
                    show Pa N 63 36 [(0, .ref 20), (1, .int ys), (2, .int l), (3, .int yd), (4, .int yv), (5, .int (yA.1 0 10))] [.ref 26] (uI (uI yA 24 ((yA.1 20 9).toInt.toNat) ys) 25 ((yA.1 20 9).toInt.toNat) l) _
                    refine Pa.mp 1 (pc' := 37) (l' := [(0, .ref 20), (1, .int ys), (2, .int l), (3, .int yd), (4, .int yv), (5, .int (yA.1 0 10))]) (st' := [.ref 20, .ref 26]) (by rfl) ?_
                    refine Pa.gfI (v := yA.1 20 9) (by rfl) (by rfl) (.inl rfl) (by rfl) (by show (uI (uI yA 24 ((yA.1 20 9).toInt.toNat) ys) 25 ((yA.1 20 9).toInt.toNat) l).1 20 9 = yA.1 20 9; rw [uI_c (by decide), uI_c (by decide)]) ?_
                    refine Pa.mp 1 (pc' := 41) (l' := [(0, .ref 20), (1, .int ys), (2, .int l), (3, .int yd), (4, .int yv), (5, .int (yA.1 0 10))]) (st' := [.int yd, .int (yA.1 20 9), .ref 26]) (by rfl) ?_
                    refine Pa.asts (j' := ((yA.1 20 9).toInt.toNat)) (by rfl) (by rfl) (by rfl) (fun h23 h24 => ?_)
                    have h23 : 0 ≤ (yA.1 20 9).toInt := h23
                    have h24 : (yA.1 20 9).toInt < 120 := h24
                    show Pa N 63 42 [(0, .ref 20), (1, .int ys), (2, .int l), (3, .int yd), (4, .int yv), (5, .int (yA.1 0 10))] [] (uI (uI (uI yA 24 ((yA.1 20 9).toInt.toNat) ys) 25 ((yA.1 20 9).toInt.toNat) l) 26 ((yA.1 20 9).toInt.toNat) yd) _
                    refine Pa.mp 1 (pc' := 43) (l' := [(0, .ref 20), (1, .int ys), (2, .int l), (3, .int yd), (4, .int yv), (5, .int (yA.1 0 10))]) (st' := [.ref 20]) (by rfl) ?_
                    refine Pa.gfR (by rfl) (by rfl) (.inl rfl) (by rfl) ?_
                    show Pa N 63 46 [(0, .ref 20), (1, .int ys), (2, .int l), (3, .int yd), (4, .int yv), (5, .int (yA.1 0 10))] [.ref 27] (uI (uI (uI yA 24 ((yA.1 20 9).toInt.toNat) ys) 25 ((yA.1 20 9).toInt.toNat) l) 26 ((yA.1 20 9).toInt.toNat) yd) _
                    refine Pa.mp 1 (pc' := 47) (l' := [(0, .ref 20), (1, .int ys), (2, .int l), (3, .int yd), (4, .int yv), (5, .int (yA.1 0 10))]) (st' := [.ref 20, .ref 27]) (by rfl) ?_
                    refine Pa.gfI (v := yA.1 20 9) (by rfl) (by rfl) (.inl rfl) (by rfl) (by show (uI (uI (uI yA 24 ((yA.1 20 9).toInt.toNat) ys) 25 ((yA.1 20 9).toInt.toNat) l) 26 ((yA.1 20 9).toInt.toNat) yd).1 20 9 = yA.1 20 9; rw [uI_c (by decide), uI_c (by decide), uI_c (by decide)]) ?_
                    refine Pa.mp 1 (pc' := 52) (l' := [(0, .ref 20), (1, .int ys), (2, .int l), (3, .int yd), (4, .int yv), (5, .int (yA.1 0 10))]) (st' := [.int yv, .int (yA.1 20 9), .ref 27]) (by rfl) ?_
                    refine Pa.asts (j' := ((yA.1 20 9).toInt.toNat)) (by rfl) (by rfl) (by rfl) (fun h25 h26 => ?_)
                    have h25 : 0 ≤ (yA.1 20 9).toInt := h25
                    have h26 : (yA.1 20 9).toInt < 120 := h26
                    show Pa N 63 53 [(0, .ref 20), (1, .int ys), (2, .int l), (3, .int yd), (4, .int yv), (5, .int (yA.1 0 10))] [] (uI (uI (uI (uI yA 24 ((yA.1 20 9).toInt.toNat) ys) 25 ((yA.1 20 9).toInt.toNat) l) 26 ((yA.1 20 9).toInt.toNat) yd) 27 ((yA.1 20 9).toInt.toNat) yv) _
                    refine Pa.mp 1 (pc' := 54) (l' := [(0, .ref 20), (1, .int ys), (2, .int l), (3, .int yd), (4, .int yv), (5, .int (yA.1 0 10))]) (st' := [.ref 20]) (by rfl) ?_
                    refine Pa.gfR (by rfl) (by rfl) (.inl rfl) (by rfl) ?_
                    show Pa N 63 57 [(0, .ref 20), (1, .int ys), (2, .int l), (3, .int yd), (4, .int yv), (5, .int (yA.1 0 10))] [.ref 28] (uI (uI (uI (uI yA 24 ((yA.1 20 9).toInt.toNat) ys) 25 ((yA.1 20 9).toInt.toNat) l) 26 ((yA.1 20 9).toInt.toNat) yd) 27 ((yA.1 20 9).toInt.toNat) yv) _
                    refine Pa.mp 1 (pc' := 58) (l' := [(0, .ref 20), (1, .int ys), (2, .int l), (3, .int yd), (4, .int yv), (5, .int (yA.1 0 10))]) (st' := [.ref 20, .ref 28]) (by rfl) ?_
                    refine Pa.gfI (v := yA.1 20 9) (by rfl) (by rfl) (.inl rfl) (by rfl) (by show (uI (uI (uI (uI yA 24 ((yA.1 20 9).toInt.toNat) ys) 25 ((yA.1 20 9).toInt.toNat) l) 26 ((yA.1 20 9).toInt.toNat) yd) 27 ((yA.1 20 9).toInt.toNat) yv).1 20 9 = yA.1 20 9; rw [uI_c (by decide), uI_c (by decide), uI_c (by decide), uI_c (by decide)]) ?_
                    refine Pa.mp 1 (pc' := 63) (l' := [(0, .ref 20), (1, .int ys), (2, .int l), (3, .int yd), (4, .int yv), (5, .int (yA.1 0 10))]) (st' := [.int (yA.1 0 10), .int (yA.1 20 9), .ref 28]) (by rfl) ?_
                    refine Pa.asts (j' := ((yA.1 20 9).toInt.toNat)) (by rfl) (by rfl) (by rfl) (fun h27 h28 => ?_)
                    have h27 : 0 ≤ (yA.1 20 9).toInt := h27
                    have h28 : (yA.1 20 9).toInt < 120 := h28
                    show Pa N 63 64 [(0, .ref 20), (1, .int ys), (2, .int l), (3, .int yd), (4, .int yv), (5, .int (yA.1 0 10))] [] (uI (uI (uI (uI (uI yA 24 ((yA.1 20 9).toInt.toNat) ys) 25 ((yA.1 20 9).toInt.toNat) l) 26 ((yA.1 20 9).toInt.toNat) yd) 27 ((yA.1 20 9).toInt.toNat) yv) 28 ((yA.1 20 9).toInt.toNat) (yA.1 0 10)) _
                    refine Pa.mp 2 (pc' := 66) (l' := [(0, .ref 20), (1, .int ys), (2, .int l), (3, .int yd), (4, .int yv), (5, .int (yA.1 0 10))]) (st' := [.ref 20, .ref 20]) (by rfl) ?_
                    refine Pa.gfI (v := yA.1 20 9) (by rfl) (by rfl) (.inl rfl) (by rfl) (by show (uI (uI (uI (uI (uI yA 24 ((yA.1 20 9).toInt.toNat) ys) 25 ((yA.1 20 9).toInt.toNat) l) 26 ((yA.1 20 9).toInt.toNat) yd) 27 ((yA.1 20 9).toInt.toNat) yv) 28 ((yA.1 20 9).toInt.toNat) (yA.1 0 10)).1 20 9 = yA.1 20 9; rw [uI_c (by decide), uI_c (by decide), uI_c (by decide), uI_c (by decide), uI_c (by decide)]) ?_
                    refine Pa.ic (x := 1) (pc' := 70) (by rfl) (by rfl) (by decide) ?_
                    refine Pa.mp 1 (pc' := 71) (l' := [(0, .ref 20), (1, .int ys), (2, .int l), (3, .int yd), (4, .int yv), (5, .int (yA.1 0 10))]) (st' := [.int ((yA.1 20 9) + 1), .ref 20]) (by rfl) ?_
                    refine Pa.pfI (by rfl) (by rfl) (.inl rfl) (by rfl) ?_
                    show Pa N 63 74 [(0, .ref 20), (1, .int ys), (2, .int l), (3, .int yd), (4, .int yv), (5, .int (yA.1 0 10))] [] (uI (uI (uI (uI (uI (uI yA 24 ((yA.1 20 9).toInt.toNat) ys) 25 ((yA.1 20 9).toInt.toNat) l) 26 ((yA.1 20 9).toInt.toNat) yd) 27 ((yA.1 20 9).toInt.toNat) yv) 28 ((yA.1 20 9).toInt.toNat) (yA.1 0 10)) 20 9 ((yA.1 20 9) + 1)) _
                    refine Pa.mp 1 (pc' := 75) (l' := [(0, .ref 20), (1, .int ys), (2, .int l), (3, .int yd), (4, .int yv), (5, .int (yA.1 0 10))]) (st' := [.ref 20]) (by rfl) ?_
                    refine Pa.gfI (v := (yA.1 20 9) + 1) (by rfl) (by rfl) (.inl rfl) (by rfl) (by show (uI (uI (uI (uI (uI (uI yA 24 ((yA.1 20 9).toInt.toNat) ys) 25 ((yA.1 20 9).toInt.toNat) l) 26 ((yA.1 20 9).toInt.toNat) yd) 27 ((yA.1 20 9).toInt.toNat) yv) 28 ((yA.1 20 9).toInt.toNat) (yA.1 0 10)) 20 9 ((yA.1 20 9) + 1)).1 20 9 = (yA.1 20 9) + 1; rw [uI_h]) ?_
                    refine Pa.iret (by rfl) ?_
                    show Pa N 114 58 [(0, .ref 0), (1, .int ys), (2, .int l), (3, .int yd), (4, .int yv)] [.int ((yA.1 20 9) + 1)] (uI (uI (uI (uI (uI (uI yA 24 ((yA.1 20 9).toInt.toNat) ys) 25 ((yA.1 20 9).toInt.toNat) l) 26 ((yA.1 20 9).toInt.toNat) yd) 27 ((yA.1 20 9).toInt.toNat) yv) 28 ((yA.1 20 9).toInt.toNat) (yA.1 0 10)) 20 9 ((yA.1 20 9) + 1)) _
                    refine Pa.iret (by rfl) ?_
                    exact l9 h2 h4 h6 h8 h10 h12 h14 yh16 h17 h19
                  · have h18 : 120 ≤ (yA.1 20 9).toInt := h18
                    refine Pa.ic (x := (-2)) (pc' := 11) (by rfl) (by rfl) (by decide) ?_
                    refine Pa.iret (by rfl) ?_
                    show Pa N 114 58 [(0, .ref 0), (1, .int ys), (2, .int l), (3, .int yd), (4, .int yv)] [.int (-2)] yA _
                    refine Pa.iret (by rfl) ?_
                    exact l10 h2 h4 h6 h8 h10 h12 h14 yh16 h18
theorem bm_like {N : Nat} {yA : AW} {yQ : Option Value → AW → Prop} (ys l yd yv : Int32)
    (l1 : ys.toInt < 0 → yQ (some (.int (-1))) yA)
    (l2 : 0 ≤ ys.toInt → 19 < ys.toInt → yQ (some (.int (-1))) yA)
    (l3 : 0 ≤ ys.toInt → ys.toInt ≤ 19 → l.toInt < 0 → yQ (some (.int (-1))) yA)
    (l4 : 0 ≤ ys.toInt → ys.toInt ≤ 19 → 0 ≤ l.toInt → 5 < l.toInt → yQ (some (.int (-1))) yA)
    (l5 : 0 ≤ ys.toInt → ys.toInt ≤ 19 → 0 ≤ l.toInt → l.toInt ≤ 5 → yd.toInt < 0 → yQ (some (.int (-1))) yA)
    (l6 : 0 ≤ ys.toInt → ys.toInt ≤ 19 → 0 ≤ l.toInt → l.toInt ≤ 5 → 0 ≤ yd.toInt → (yA.1 69 0).toInt < yd.toInt → yQ (some (.int (-1))) yA)
    (l7 : 0 ≤ ys.toInt → ys.toInt ≤ 19 → 0 ≤ l.toInt → l.toInt ≤ 5 → 0 ≤ yd.toInt → yd.toInt ≤ (yA.1 69 0).toInt → yv.toInt < 1 → yQ (some (.int (-1))) yA)
    (l8 : 0 ≤ ys.toInt → ys.toInt ≤ 19 → 0 ≤ l.toInt → l.toInt ≤ 5 → 0 ≤ yd.toInt → yd.toInt ≤ (yA.1 69 0).toInt → 1 ≤ yv.toInt → 99999 < yv.toInt → yQ (some (.int (-1))) yA)
    (l9 : 0 ≤ ys.toInt → ys.toInt ≤ 19 → 0 ≤ l.toInt → l.toInt ≤ 5 → 0 ≤ yd.toInt → yd.toInt ≤ (yA.1 69 0).toInt → 1 ≤ yv.toInt → yv.toInt ≤ 99999 → (yA.1 69 37).toInt ≠ 120 → 0 ≤ (yA.1 69 37).toInt → (yA.1 69 37).toInt < 120 → yQ (some (.int ((yA.1 69 37) + 1))) (uI (uI (uI (uI (uI (uI yA 94 ((yA.1 69 37).toInt.toNat) ys) 95 ((yA.1 69 37).toInt.toNat) l) 96 ((yA.1 69 37).toInt.toNat) yd) 97 ((yA.1 69 37).toInt.toNat) yv) 98 ((yA.1 69 37).toInt.toNat) (yA.1 69 0)) 69 37 ((yA.1 69 37) + 1)))
    (l10 : 0 ≤ ys.toInt → ys.toInt ≤ 19 → 0 ≤ l.toInt → l.toInt ≤ 5 → 0 ≤ yd.toInt → yd.toInt ≤ (yA.1 69 0).toInt → 1 ≤ yv.toInt → yv.toInt ≤ 99999 → (yA.1 69 37).toInt = 120 → yQ (some (.int (-2))) yA) :
    Pa N 183 0 [(0, .ref 69), (1, .int ys), (2, .int l), (3, .int yd), (4, .int yv)] [] yA yQ := by
  refine Pa.mp 1 (pc' := 1) (l' := [(0, .ref 69), (1, .int ys), (2, .int l), (3, .int yd), (4, .int yv)]) (st' := [.int ys]) (by rfl) ?_
  refine Pa.ic (x := 0) (pc' := 2) (by rfl) (by rfl) (by decide) ?_
  refine Pa.ic (x := 19) (pc' := 4) (by rfl) (by rfl) (by decide) ?_
  refine Pa.ist (by rfl) (by rfl) (.inl rfl) (by rfl) (by rfl) ?_
  show Pa N 152 0 [(0, .int ys), (1, .int 0), (2, .int 19)] [] yA _
  refine Pa.mp 2 (pc' := 2) (l' := [(0, .int ys), (1, .int 0), (2, .int 19)]) (st' := [.int 0, .int ys]) (by rfl) ?_
  refine Pa.if2 (a := ys.toInt) (b := 0) (t := 14) (by rfl) (by rfl) (rfl) (by decide) (fun h1 => ?_) (fun h2 => ?_)
  · have h1 : ys.toInt < 0 := h1
    refine Pa.ic (x := 0) (pc' := 15) (by rfl) (by rfl) (by decide) ?_
    refine Pa.iret (by rfl) ?_
    show Pa N 183 7 [(0, .ref 69), (1, .int ys), (2, .int l), (3, .int yd), (4, .int yv)] [.int 0] yA _
    refine Pa.if1k true (by rfl) (by rfl) (by decide) ?_
    show Pa N 183 40 [(0, .ref 69), (1, .int ys), (2, .int l), (3, .int yd), (4, .int yv)] [] yA _
    refine Pa.ic (x := (-1)) (pc' := 41) (by rfl) (by rfl) (by decide) ?_
    refine Pa.iret (by rfl) ?_
    exact l1 h1
  · have h2 : 0 ≤ ys.toInt := h2
    refine Pa.mp 2 (pc' := 7) (l' := [(0, .int ys), (1, .int 0), (2, .int 19)]) (st' := [.int 19, .int ys]) (by rfl) ?_
    refine Pa.if2 (a := ys.toInt) (b := 19) (t := 14) (by rfl) (by rfl) (rfl) (by decide) (fun h3 => ?_) (fun h4 => ?_)
    · have h3 : 19 < ys.toInt := h3
      refine Pa.ic (x := 0) (pc' := 15) (by rfl) (by rfl) (by decide) ?_
      refine Pa.iret (by rfl) ?_
      show Pa N 183 7 [(0, .ref 69), (1, .int ys), (2, .int l), (3, .int yd), (4, .int yv)] [.int 0] yA _
      refine Pa.if1k true (by rfl) (by rfl) (by decide) ?_
      show Pa N 183 40 [(0, .ref 69), (1, .int ys), (2, .int l), (3, .int yd), (4, .int yv)] [] yA _
      refine Pa.ic (x := (-1)) (pc' := 41) (by rfl) (by rfl) (by decide) ?_
      refine Pa.iret (by rfl) ?_
      exact l2 h2 h3
    · have h4 : ys.toInt ≤ 19 := h4
      refine Pa.ic (x := 1) (pc' := 11) (by rfl) (by rfl) (by decide) ?_
      refine Pa.mp 1 (pc' := 15) (l' := [(0, .int ys), (1, .int 0), (2, .int 19)]) (st' := [.int 1]) (by rfl) ?_
      refine Pa.iret (by rfl) ?_
      show Pa N 183 7 [(0, .ref 69), (1, .int ys), (2, .int l), (3, .int yd), (4, .int yv)] [.int 1] yA _
      refine Pa.if1k false (by rfl) (by rfl) (by decide) ?_
      show Pa N 183 10 [(0, .ref 69), (1, .int ys), (2, .int l), (3, .int yd), (4, .int yv)] [] yA _
      refine Pa.mp 1 (pc' := 11) (l' := [(0, .ref 69), (1, .int ys), (2, .int l), (3, .int yd), (4, .int yv)]) (st' := [.int l]) (by rfl) ?_
      refine Pa.ist (by rfl) (by rfl) (.inl rfl) (by rfl) (by rfl) ?_
      show Pa N 154 0 [(0, .int l)] [] yA _
      refine Pa.mp 1 (pc' := 1) (l' := [(0, .int l)]) (st' := [.int l]) (by rfl) ?_
      refine Pa.ic (x := 0) (pc' := 2) (by rfl) (by rfl) (by decide) ?_
      refine Pa.ic (x := 5) (pc' := 3) (by rfl) (by rfl) (by decide) ?_
      refine Pa.ist (by rfl) (by rfl) (.inl rfl) (by rfl) (by rfl) ?_
      show Pa N 152 0 [(0, .int l), (1, .int 0), (2, .int 5)] [] yA _
      refine Pa.mp 2 (pc' := 2) (l' := [(0, .int l), (1, .int 0), (2, .int 5)]) (st' := [.int 0, .int l]) (by rfl) ?_
      refine Pa.if2 (a := l.toInt) (b := 0) (t := 14) (by rfl) (by rfl) (rfl) (by decide) (fun h5 => ?_) (fun h6 => ?_)
      · have h5 : l.toInt < 0 := h5
        refine Pa.ic (x := 0) (pc' := 15) (by rfl) (by rfl) (by decide) ?_
        refine Pa.iret (by rfl) ?_
        show Pa N 154 6 [(0, .int l)] [.int 0] yA _
        refine Pa.iret (by rfl) ?_
        show Pa N 183 14 [(0, .ref 69), (1, .int ys), (2, .int l), (3, .int yd), (4, .int yv)] [.int 0] yA _
        refine Pa.if1k true (by rfl) (by rfl) (by decide) ?_
        show Pa N 183 40 [(0, .ref 69), (1, .int ys), (2, .int l), (3, .int yd), (4, .int yv)] [] yA _
        refine Pa.ic (x := (-1)) (pc' := 41) (by rfl) (by rfl) (by decide) ?_
        refine Pa.iret (by rfl) ?_
        exact l3 h2 h4 h5
      · have h6 : 0 ≤ l.toInt := h6
        refine Pa.mp 2 (pc' := 7) (l' := [(0, .int l), (1, .int 0), (2, .int 5)]) (st' := [.int 5, .int l]) (by rfl) ?_
        refine Pa.if2 (a := l.toInt) (b := 5) (t := 14) (by rfl) (by rfl) (rfl) (by decide) (fun h7 => ?_) (fun h8 => ?_)
        · have h7 : 5 < l.toInt := h7
          refine Pa.ic (x := 0) (pc' := 15) (by rfl) (by rfl) (by decide) ?_
          refine Pa.iret (by rfl) ?_
          show Pa N 154 6 [(0, .int l)] [.int 0] yA _
          refine Pa.iret (by rfl) ?_
          show Pa N 183 14 [(0, .ref 69), (1, .int ys), (2, .int l), (3, .int yd), (4, .int yv)] [.int 0] yA _
          refine Pa.if1k true (by rfl) (by rfl) (by decide) ?_
          show Pa N 183 40 [(0, .ref 69), (1, .int ys), (2, .int l), (3, .int yd), (4, .int yv)] [] yA _
          refine Pa.ic (x := (-1)) (pc' := 41) (by rfl) (by rfl) (by decide) ?_
          refine Pa.iret (by rfl) ?_
          exact l4 h2 h4 h6 h7
        · have h8 : l.toInt ≤ 5 := h8
          refine Pa.ic (x := 1) (pc' := 11) (by rfl) (by rfl) (by decide) ?_
          refine Pa.mp 1 (pc' := 15) (l' := [(0, .int l), (1, .int 0), (2, .int 5)]) (st' := [.int 1]) (by rfl) ?_
          refine Pa.iret (by rfl) ?_
          show Pa N 154 6 [(0, .int l)] [.int 1] yA _
          refine Pa.iret (by rfl) ?_
          show Pa N 183 14 [(0, .ref 69), (1, .int ys), (2, .int l), (3, .int yd), (4, .int yv)] [.int 1] yA _
          refine Pa.if1k false (by rfl) (by rfl) (by decide) ?_
          show Pa N 183 17 [(0, .ref 69), (1, .int ys), (2, .int l), (3, .int yd), (4, .int yv)] [] yA _
          refine Pa.mp 1 (pc' := 18) (l' := [(0, .ref 69), (1, .int ys), (2, .int l), (3, .int yd), (4, .int yv)]) (st' := [.int yd]) (by rfl) ?_
          refine Pa.ic (x := 0) (pc' := 19) (by rfl) (by rfl) (by decide) ?_
          refine Pa.mp 1 (pc' := 20) (l' := [(0, .ref 69), (1, .int ys), (2, .int l), (3, .int yd), (4, .int yv)]) (st' := [.ref 69, .int 0, .int yd]) (by rfl) ?_
          refine Pa.gfI (v := yA.1 69 0) (by rfl) (by rfl) (.inl rfl) (by rfl) (by rfl) ?_
          refine Pa.ist (by rfl) (by rfl) (.inl rfl) (by rfl) (by rfl) ?_
          show Pa N 152 0 [(0, .int yd), (1, .int 0), (2, .int (yA.1 69 0))] [] yA _
          refine Pa.mp 2 (pc' := 2) (l' := [(0, .int yd), (1, .int 0), (2, .int (yA.1 69 0))]) (st' := [.int 0, .int yd]) (by rfl) ?_
          refine Pa.if2 (a := yd.toInt) (b := 0) (t := 14) (by rfl) (by rfl) (rfl) (by decide) (fun h9 => ?_) (fun h10 => ?_)
          · have h9 : yd.toInt < 0 := h9
            refine Pa.ic (x := 0) (pc' := 15) (by rfl) (by rfl) (by decide) ?_
            refine Pa.iret (by rfl) ?_
            show Pa N 183 26 [(0, .ref 69), (1, .int ys), (2, .int l), (3, .int yd), (4, .int yv)] [.int 0] yA _
            refine Pa.if1k true (by rfl) (by rfl) (by decide) ?_
            show Pa N 183 40 [(0, .ref 69), (1, .int ys), (2, .int l), (3, .int yd), (4, .int yv)] [] yA _
            refine Pa.ic (x := (-1)) (pc' := 41) (by rfl) (by rfl) (by decide) ?_
            refine Pa.iret (by rfl) ?_
            exact l5 h2 h4 h6 h8 h9
          · have h10 : 0 ≤ yd.toInt := h10
            refine Pa.mp 2 (pc' := 7) (l' := [(0, .int yd), (1, .int 0), (2, .int (yA.1 69 0))]) (st' := [.int (yA.1 69 0), .int yd]) (by rfl) ?_
            refine Pa.if2 (a := yd.toInt) (b := (yA.1 69 0).toInt) (t := 14) (by rfl) (by rfl) (rfl) (rfl) (fun h11 => ?_) (fun h12 => ?_)
            · have h11 : (yA.1 69 0).toInt < yd.toInt := h11
              refine Pa.ic (x := 0) (pc' := 15) (by rfl) (by rfl) (by decide) ?_
              refine Pa.iret (by rfl) ?_
              show Pa N 183 26 [(0, .ref 69), (1, .int ys), (2, .int l), (3, .int yd), (4, .int yv)] [.int 0] yA _
              refine Pa.if1k true (by rfl) (by rfl) (by decide) ?_
              show Pa N 183 40 [(0, .ref 69), (1, .int ys), (2, .int l), (3, .int yd), (4, .int yv)] [] yA _
              refine Pa.ic (x := (-1)) (pc' := 41) (by rfl) (by rfl) (by decide) ?_
              refine Pa.iret (by rfl) ?_
              exact l6 h2 h4 h6 h8 h10 h11
            · have h12 : yd.toInt ≤ (yA.1 69 0).toInt := h12
              refine Pa.ic (x := 1) (pc' := 11) (by rfl) (by rfl) (by decide) ?_
              refine Pa.mp 1 (pc' := 15) (l' := [(0, .int yd), (1, .int 0), (2, .int (yA.1 69 0))]) (st' := [.int 1]) (by rfl) ?_
              refine Pa.iret (by rfl) ?_
              show Pa N 183 26 [(0, .ref 69), (1, .int ys), (2, .int l), (3, .int yd), (4, .int yv)] [.int 1] yA _
              refine Pa.if1k false (by rfl) (by rfl) (by decide) ?_
              show Pa N 183 29 [(0, .ref 69), (1, .int ys), (2, .int l), (3, .int yd), (4, .int yv)] [] yA _
              refine Pa.mp 1 (pc' := 31) (l' := [(0, .ref 69), (1, .int ys), (2, .int l), (3, .int yd), (4, .int yv)]) (st' := [.int yv]) (by rfl) ?_
              refine Pa.ic (x := 1) (pc' := 32) (by rfl) (by rfl) (by decide) ?_
              refine Pa.icl (x := 99999) (pc' := 34) (by rfl) (fun _ _ _ => by rfl) (by decide) ?_
              refine Pa.ist (by rfl) (by rfl) (.inl rfl) (by rfl) (by rfl) ?_
              show Pa N 152 0 [(0, .int yv), (1, .int 1), (2, .int 99999)] [] yA _
              refine Pa.mp 2 (pc' := 2) (l' := [(0, .int yv), (1, .int 1), (2, .int 99999)]) (st' := [.int 1, .int yv]) (by rfl) ?_
              refine Pa.if2 (a := yv.toInt) (b := 1) (t := 14) (by rfl) (by rfl) (rfl) (by decide) (fun h13 => ?_) (fun h14 => ?_)
              · have h13 : yv.toInt < 1 := h13
                refine Pa.ic (x := 0) (pc' := 15) (by rfl) (by rfl) (by decide) ?_
                refine Pa.iret (by rfl) ?_
                show Pa N 183 37 [(0, .ref 69), (1, .int ys), (2, .int l), (3, .int yd), (4, .int yv)] [.int 0] yA _
                refine Pa.if1k false (by rfl) (by rfl) (by decide) ?_
                show Pa N 183 40 [(0, .ref 69), (1, .int ys), (2, .int l), (3, .int yd), (4, .int yv)] [] yA _
                refine Pa.ic (x := (-1)) (pc' := 41) (by rfl) (by rfl) (by decide) ?_
                refine Pa.iret (by rfl) ?_
                exact l7 h2 h4 h6 h8 h10 h12 h13
              · have h14 : 1 ≤ yv.toInt := h14
                refine Pa.mp 2 (pc' := 7) (l' := [(0, .int yv), (1, .int 1), (2, .int 99999)]) (st' := [.int 99999, .int yv]) (by rfl) ?_
                refine Pa.if2 (a := yv.toInt) (b := 99999) (t := 14) (by rfl) (by rfl) (rfl) (by decide) (fun h15 => ?_) (fun yh16 => ?_)
                · have h15 : 99999 < yv.toInt := h15
                  refine Pa.ic (x := 0) (pc' := 15) (by rfl) (by rfl) (by decide) ?_
                  refine Pa.iret (by rfl) ?_
                  show Pa N 183 37 [(0, .ref 69), (1, .int ys), (2, .int l), (3, .int yd), (4, .int yv)] [.int 0] yA _
                  refine Pa.if1k false (by rfl) (by rfl) (by decide) ?_
                  show Pa N 183 40 [(0, .ref 69), (1, .int ys), (2, .int l), (3, .int yd), (4, .int yv)] [] yA _
                  refine Pa.ic (x := (-1)) (pc' := 41) (by rfl) (by rfl) (by decide) ?_
                  refine Pa.iret (by rfl) ?_
                  exact l8 h2 h4 h6 h8 h10 h12 h14 h15
                · have yh16 : yv.toInt ≤ 99999 := yh16
                  refine Pa.ic (x := 1) (pc' := 11) (by rfl) (by rfl) (by decide) ?_
                  refine Pa.mp 1 (pc' := 15) (l' := [(0, .int yv), (1, .int 1), (2, .int 99999)]) (st' := [.int 1]) (by rfl) ?_
                  refine Pa.iret (by rfl) ?_
                  show Pa N 183 37 [(0, .ref 69), (1, .int ys), (2, .int l), (3, .int yd), (4, .int yv)] [.int 1] yA _
                  refine Pa.if1k true (by rfl) (by rfl) (by decide) ?_
                  show Pa N 183 42 [(0, .ref 69), (1, .int ys), (2, .int l), (3, .int yd), (4, .int yv)] [] yA _
                  refine Pa.mp 1 (pc' := 43) (l' := [(0, .ref 69), (1, .int ys), (2, .int l), (3, .int yd), (4, .int yv)]) (st' := [.ref 69]) (by rfl) ?_
                  refine Pa.gfI (v := yA.1 69 37) (by rfl) (by rfl) (.inl rfl) (by rfl) (by rfl) ?_
                  refine Pa.ic (x := 120) (pc' := 48) (by rfl) (by rfl) (by decide) ?_
                  refine Pa.if2 (a := (yA.1 69 37).toInt) (b := 120) (t := 54) (by rfl) (by rfl) (rfl) (by decide) (fun h17 => ?_) (fun h18 => ?_)
                  · have h17 : (yA.1 69 37).toInt ≠ 120 := h17
                    refine Pa.mp 1 (pc' := 55) (l' := [(0, .ref 69), (1, .int ys), (2, .int l), (3, .int yd), (4, .int yv)]) (st' := [.ref 69]) (by rfl) ?_
                    refine Pa.gfR (by rfl) (by rfl) (.inl rfl) (by rfl) ?_
                    show Pa N 183 58 [(0, .ref 69), (1, .int ys), (2, .int l), (3, .int yd), (4, .int yv)] [.ref 94] yA _
                    refine Pa.mp 1 (pc' := 59) (l' := [(0, .ref 69), (1, .int ys), (2, .int l), (3, .int yd), (4, .int yv)]) (st' := [.ref 69, .ref 94]) (by rfl) ?_
                    refine Pa.gfI (v := yA.1 69 37) (by rfl) (by rfl) (.inl rfl) (by rfl) (by rfl) ?_
                    refine Pa.mp 1 (pc' := 63) (l' := [(0, .ref 69), (1, .int ys), (2, .int l), (3, .int yd), (4, .int yv)]) (st' := [.int ys, .int (yA.1 69 37), .ref 94]) (by rfl) ?_
                    refine Pa.asts (j' := ((yA.1 69 37).toInt.toNat)) (by rfl) (by rfl) (by rfl) (fun h19 h20 => ?_)
                    have h19 : 0 ≤ (yA.1 69 37).toInt := h19
                    have h20 : (yA.1 69 37).toInt < 120 := h20
                    show Pa N 183 64 [(0, .ref 69), (1, .int ys), (2, .int l), (3, .int yd), (4, .int yv)] [] (uI yA 94 ((yA.1 69 37).toInt.toNat) ys) _
                    refine Pa.mp 1 (pc' := 65) (l' := [(0, .ref 69), (1, .int ys), (2, .int l), (3, .int yd), (4, .int yv)]) (st' := [.ref 69]) (by rfl) ?_
                    refine Pa.gfR (by rfl) (by rfl) (.inl rfl) (by rfl) ?_
                    show Pa N 183 68 [(0, .ref 69), (1, .int ys), (2, .int l), (3, .int yd), (4, .int yv)] [.ref 95] (uI yA 94 ((yA.1 69 37).toInt.toNat) ys) _
                    refine Pa.mp 1 (pc' := 69) (l' := [(0, .ref 69), (1, .int ys), (2, .int l), (3, .int yd), (4, .int yv)]) (st' := [.ref 69, .ref 95]) (by rfl) ?_
                    refine Pa.gfI (v := yA.1 69 37) (by rfl) (by rfl) (.inl rfl) (by rfl) (by show (uI yA 94 ((yA.1 69 37).toInt.toNat) ys).1 69 37 = yA.1 69 37; rw [uI_c (by decide)]) ?_
                    refine Pa.mp 1 (pc' := 73) (l' := [(0, .ref 69), (1, .int ys), (2, .int l), (3, .int yd), (4, .int yv)]) (st' := [.int l, .int (yA.1 69 37), .ref 95]) (by rfl) ?_
                    refine Pa.asts (j' := ((yA.1 69 37).toInt.toNat)) (by rfl) (by rfl) (by rfl) (fun h21 h22 => ?_)
                    have h21 : 0 ≤ (yA.1 69 37).toInt := h21
                    have h22 : (yA.1 69 37).toInt < 120 := h22
                    show Pa N 183 74 [(0, .ref 69), (1, .int ys), (2, .int l), (3, .int yd), (4, .int yv)] [] (uI (uI yA 94 ((yA.1 69 37).toInt.toNat) ys) 95 ((yA.1 69 37).toInt.toNat) l) _
                    refine Pa.mp 1 (pc' := 75) (l' := [(0, .ref 69), (1, .int ys), (2, .int l), (3, .int yd), (4, .int yv)]) (st' := [.ref 69]) (by rfl) ?_
                    refine Pa.gfR (by rfl) (by rfl) (.inl rfl) (by rfl) ?_
                    show Pa N 183 78 [(0, .ref 69), (1, .int ys), (2, .int l), (3, .int yd), (4, .int yv)] [.ref 96] (uI (uI yA 94 ((yA.1 69 37).toInt.toNat) ys) 95 ((yA.1 69 37).toInt.toNat) l) _
                    refine Pa.mp 1 (pc' := 79) (l' := [(0, .ref 69), (1, .int ys), (2, .int l), (3, .int yd), (4, .int yv)]) (st' := [.ref 69, .ref 96]) (by rfl) ?_
                    refine Pa.gfI (v := yA.1 69 37) (by rfl) (by rfl) (.inl rfl) (by rfl) (by show (uI (uI yA 94 ((yA.1 69 37).toInt.toNat) ys) 95 ((yA.1 69 37).toInt.toNat) l).1 69 37 = yA.1 69 37; rw [uI_c (by decide), uI_c (by decide)]) ?_
                    refine Pa.mp 1 (pc' := 83) (l' := [(0, .ref 69), (1, .int ys), (2, .int l), (3, .int yd), (4, .int yv)]) (st' := [.int yd, .int (yA.1 69 37), .ref 96]) (by rfl) ?_
                    refine Pa.asts (j' := ((yA.1 69 37).toInt.toNat)) (by rfl) (by rfl) (by rfl) (fun h23 h24 => ?_)
                    have h23 : 0 ≤ (yA.1 69 37).toInt := h23
                    have h24 : (yA.1 69 37).toInt < 120 := h24
                    show Pa N 183 84 [(0, .ref 69), (1, .int ys), (2, .int l), (3, .int yd), (4, .int yv)] [] (uI (uI (uI yA 94 ((yA.1 69 37).toInt.toNat) ys) 95 ((yA.1 69 37).toInt.toNat) l) 96 ((yA.1 69 37).toInt.toNat) yd) _
                    refine Pa.mp 1 (pc' := 85) (l' := [(0, .ref 69), (1, .int ys), (2, .int l), (3, .int yd), (4, .int yv)]) (st' := [.ref 69]) (by rfl) ?_
                    refine Pa.gfR (by rfl) (by rfl) (.inl rfl) (by rfl) ?_
                    show Pa N 183 88 [(0, .ref 69), (1, .int ys), (2, .int l), (3, .int yd), (4, .int yv)] [.ref 97] (uI (uI (uI yA 94 ((yA.1 69 37).toInt.toNat) ys) 95 ((yA.1 69 37).toInt.toNat) l) 96 ((yA.1 69 37).toInt.toNat) yd) _
                    refine Pa.mp 1 (pc' := 89) (l' := [(0, .ref 69), (1, .int ys), (2, .int l), (3, .int yd), (4, .int yv)]) (st' := [.ref 69, .ref 97]) (by rfl) ?_
                    refine Pa.gfI (v := yA.1 69 37) (by rfl) (by rfl) (.inl rfl) (by rfl) (by show (uI (uI (uI yA 94 ((yA.1 69 37).toInt.toNat) ys) 95 ((yA.1 69 37).toInt.toNat) l) 96 ((yA.1 69 37).toInt.toNat) yd).1 69 37 = yA.1 69 37; rw [uI_c (by decide), uI_c (by decide), uI_c (by decide)]) ?_
                    refine Pa.mp 1 (pc' := 94) (l' := [(0, .ref 69), (1, .int ys), (2, .int l), (3, .int yd), (4, .int yv)]) (st' := [.int yv, .int (yA.1 69 37), .ref 97]) (by rfl) ?_
                    refine Pa.asts (j' := ((yA.1 69 37).toInt.toNat)) (by rfl) (by rfl) (by rfl) (fun h25 h26 => ?_)
                    have h25 : 0 ≤ (yA.1 69 37).toInt := h25
                    have h26 : (yA.1 69 37).toInt < 120 := h26
                    show Pa N 183 95 [(0, .ref 69), (1, .int ys), (2, .int l), (3, .int yd), (4, .int yv)] [] (uI (uI (uI (uI yA 94 ((yA.1 69 37).toInt.toNat) ys) 95 ((yA.1 69 37).toInt.toNat) l) 96 ((yA.1 69 37).toInt.toNat) yd) 97 ((yA.1 69 37).toInt.toNat) yv) _
                    refine Pa.mp 1 (pc' := 96) (l' := [(0, .ref 69), (1, .int ys), (2, .int l), (3, .int yd), (4, .int yv)]) (st' := [.ref 69]) (by rfl) ?_
                    refine Pa.gfR (by rfl) (by rfl) (.inl rfl) (by rfl) ?_
                    show Pa N 183 99 [(0, .ref 69), (1, .int ys), (2, .int l), (3, .int yd), (4, .int yv)] [.ref 98] (uI (uI (uI (uI yA 94 ((yA.1 69 37).toInt.toNat) ys) 95 ((yA.1 69 37).toInt.toNat) l) 96 ((yA.1 69 37).toInt.toNat) yd) 97 ((yA.1 69 37).toInt.toNat) yv) _
                    refine Pa.mp 1 (pc' := 100) (l' := [(0, .ref 69), (1, .int ys), (2, .int l), (3, .int yd), (4, .int yv)]) (st' := [.ref 69, .ref 98]) (by rfl) ?_
                    refine Pa.gfI (v := yA.1 69 37) (by rfl) (by rfl) (.inl rfl) (by rfl) (by show (uI (uI (uI (uI yA 94 ((yA.1 69 37).toInt.toNat) ys) 95 ((yA.1 69 37).toInt.toNat) l) 96 ((yA.1 69 37).toInt.toNat) yd) 97 ((yA.1 69 37).toInt.toNat) yv).1 69 37 = yA.1 69 37; rw [uI_c (by decide), uI_c (by decide), uI_c (by decide), uI_c (by decide)]) ?_
                    refine Pa.mp 1 (pc' := 104) (l' := [(0, .ref 69), (1, .int ys), (2, .int l), (3, .int yd), (4, .int yv)]) (st' := [.ref 69, .int (yA.1 69 37), .ref 98]) (by rfl) ?_
                    refine Pa.gfI (v := yA.1 69 0) (by rfl) (by rfl) (.inl rfl) (by rfl) (by show (uI (uI (uI (uI yA 94 ((yA.1 69 37).toInt.toNat) ys) 95 ((yA.1 69 37).toInt.toNat) l) 96 ((yA.1 69 37).toInt.toNat) yd) 97 ((yA.1 69 37).toInt.toNat) yv).1 69 0 = yA.1 69 0; rw [uI_c (by decide), uI_c (by decide), uI_c (by decide), uI_c (by decide)]) ?_
                    refine Pa.asts (j' := ((yA.1 69 37).toInt.toNat)) (by rfl) (by rfl) (by rfl) (fun h27 h28 => ?_)
                    have h27 : 0 ≤ (yA.1 69 37).toInt := h27
                    have h28 : (yA.1 69 37).toInt < 120 := h28
                    show Pa N 183 108 [(0, .ref 69), (1, .int ys), (2, .int l), (3, .int yd), (4, .int yv)] [] (uI (uI (uI (uI (uI yA 94 ((yA.1 69 37).toInt.toNat) ys) 95 ((yA.1 69 37).toInt.toNat) l) 96 ((yA.1 69 37).toInt.toNat) yd) 97 ((yA.1 69 37).toInt.toNat) yv) 98 ((yA.1 69 37).toInt.toNat) (yA.1 69 0)) _
                    refine Pa.mp 2 (pc' := 110) (l' := [(0, .ref 69), (1, .int ys), (2, .int l), (3, .int yd), (4, .int yv)]) (st' := [.ref 69, .ref 69]) (by rfl) ?_
                    refine Pa.gfI (v := yA.1 69 37) (by rfl) (by rfl) (.inl rfl) (by rfl) (by show (uI (uI (uI (uI (uI yA 94 ((yA.1 69 37).toInt.toNat) ys) 95 ((yA.1 69 37).toInt.toNat) l) 96 ((yA.1 69 37).toInt.toNat) yd) 97 ((yA.1 69 37).toInt.toNat) yv) 98 ((yA.1 69 37).toInt.toNat) (yA.1 69 0)).1 69 37 = yA.1 69 37; rw [uI_c (by decide), uI_c (by decide), uI_c (by decide), uI_c (by decide), uI_c (by decide)]) ?_
                    refine Pa.ic (x := 1) (pc' := 114) (by rfl) (by rfl) (by decide) ?_
                    refine Pa.mp 1 (pc' := 115) (l' := [(0, .ref 69), (1, .int ys), (2, .int l), (3, .int yd), (4, .int yv)]) (st' := [.int ((yA.1 69 37) + 1), .ref 69]) (by rfl) ?_
                    refine Pa.pfI (by rfl) (by rfl) (.inl rfl) (by rfl) ?_
                    show Pa N 183 118 [(0, .ref 69), (1, .int ys), (2, .int l), (3, .int yd), (4, .int yv)] [] (uI (uI (uI (uI (uI (uI yA 94 ((yA.1 69 37).toInt.toNat) ys) 95 ((yA.1 69 37).toInt.toNat) l) 96 ((yA.1 69 37).toInt.toNat) yd) 97 ((yA.1 69 37).toInt.toNat) yv) 98 ((yA.1 69 37).toInt.toNat) (yA.1 69 0)) 69 37 ((yA.1 69 37) + 1)) _
                    refine Pa.mp 1 (pc' := 119) (l' := [(0, .ref 69), (1, .int ys), (2, .int l), (3, .int yd), (4, .int yv)]) (st' := [.ref 69]) (by rfl) ?_
                    refine Pa.gfI (v := (yA.1 69 37) + 1) (by rfl) (by rfl) (.inl rfl) (by rfl) (by show (uI (uI (uI (uI (uI (uI yA 94 ((yA.1 69 37).toInt.toNat) ys) 95 ((yA.1 69 37).toInt.toNat) l) 96 ((yA.1 69 37).toInt.toNat) yd) 97 ((yA.1 69 37).toInt.toNat) yv) 98 ((yA.1 69 37).toInt.toNat) (yA.1 69 0)) 69 37 ((yA.1 69 37) + 1)).1 69 37 = (yA.1 69 37) + 1; rw [uI_h]) ?_
                    refine Pa.iret (by rfl) ?_
                    exact l9 h2 h4 h6 h8 h10 h12 h14 yh16 h17 h19 h20
                  · have h18 : (yA.1 69 37).toInt = 120 := h18
                    refine Pa.ic (x := (-2)) (pc' := 53) (by rfl) (by rfl) (by decide) ?_
                    refine Pa.iret (by rfl) ?_
                    exact l10 h2 h4 h6 h8 h10 h12 h14 yh16 h18
def updF (yg : Nat → Int32) (yn : Nat) (yv : Int32) : Nat → Int32 := fun yj => if yj = yn then yv else yg yj
def F19 : zRF := [((0, 10), (69, 0)), ((20, 9), (69, 37))]
def Ar19 : zRA := [(24, 94), (25, 95), (26, 96), (27, 97), (28, 98)]
/-- the days of the likes are days -/
def RX19 (yA : AW) : Prop := ∀ yj, yj < 120 → 0 ≤ (yA.1 96 yj).toInt ∧ (yA.1 96 yj).toInt ≤ 3599
def S19 : zSu := ([], [96])
theorem RX19_s (yA yB : AW) (yh : AgS S19 yA yB) (hX : RX19 yA) : RX19 yB := fun yj hj => by
  have ye := (yh.2 96 (by simp [S19])).1
  rw [← ye]
  exact hX yj hj
def lkOk (yD ys l yd yv : Int32) : Prop := 0 ≤ ys.toInt ∧ ys.toInt ≤ 19 ∧ 0 ≤ l.toInt ∧ l.toInt ≤ 5 ∧ 0 ≤ yd.toInt ∧ yd.toInt ≤ yD.toInt ∧ 1 ≤ yv.toInt ∧ yv.toInt ≤ 99999
def likX (yA : AW) (ys l yd yv : Int32) : AW := uI (uI (uI (uI (uI (uI yA 24 ((yA.1 20 9).toInt.toNat) ys) 25 ((yA.1 20 9).toInt.toNat) l) 26 ((yA.1 20 9).toInt.toNat) yd) 27 ((yA.1 20 9).toInt.toNat) yv) 28 ((yA.1 20 9).toInt.toNat) (yA.1 0 10)) 20 9 ((yA.1 20 9) + 1)
def likM (yA : AW) (ys l yd yv : Int32) : AW := uI (uI (uI (uI (uI (uI yA 94 ((yA.1 69 37).toInt.toNat) ys) 95 ((yA.1 69 37).toInt.toNat) l) 96 ((yA.1 69 37).toInt.toNat) yd) 97 ((yA.1 69 37).toInt.toNat) yv) 98 ((yA.1 69 37).toInt.toNat) (yA.1 69 0)) 69 37 ((yA.1 69 37) + 1)
def dLike (ys l yd yv : Int32) (yA : AW) (yu : Option Value) (A1 : AW) : Prop := (¬ lkOk (yA.1 0 10) ys l yd yv ∧ yu = some (.int (-1)) ∧ A1 = yA) ∨ (lkOk (yA.1 0 10) ys l yd yv ∧ 120 ≤ (yA.1 20 9).toInt ∧ yu = some (.int (-2)) ∧ A1 = yA) ∨ (lkOk (yA.1 0 10) ys l yd yv ∧ (yA.1 20 9).toInt < 120 ∧ 0 ≤ (yA.1 20 9).toInt ∧ yu = some (.int (yA.1 20 9 + 1)) ∧ A1 = likX yA ys l yd yv)
theorem d_like (N : Nat) (yA : AW) (ys l yd yv : Int32) : Pa N 114 0 [(0, .ref 0), (1, .int ys), (2, .int l), (3, .int yd), (4, .int yv)] [] yA (dLike ys l yd yv yA) := by
  refine bx_like ys l yd yv ?_ ?_ ?_ ?_ ?_ ?_ ?_ ?_ ?_ ?_
  all_goals
    intros
    unfold dLike lkOk
    first
      | exact .inl ⟨by omega, rfl, rfl⟩
      | exact .inr (.inl ⟨by omega, by omega, rfl, rfl⟩)
      | exact .inr (.inr ⟨by omega, by omega, by omega, rfl, rfl⟩)
def eLike (ys l yd yv : Int32) (yA : AW) (yu : Option Value) (A1 : AW) : Prop := (¬ lkOk (yA.1 69 0) ys l yd yv ∧ yu = some (.int (-1)) ∧ A1 = yA) ∨ (lkOk (yA.1 69 0) ys l yd yv ∧ (yA.1 69 37).toInt = 120 ∧ yu = some (.int (-2)) ∧ A1 = yA) ∨ (lkOk (yA.1 69 0) ys l yd yv ∧ (yA.1 69 37).toInt < 120 ∧ 0 ≤ (yA.1 69 37).toInt ∧ yu = some (.int (yA.1 69 37 + 1)) ∧ A1 = likM yA ys l yd yv)
theorem e_like (N : Nat) (yA : AW) (ys l yd yv : Int32) : Pa N 183 0 [(0, .ref 69), (1, .int ys), (2, .int l), (3, .int yd), (4, .int yv)] [] yA (eLike ys l yd yv yA) := by
  refine bm_like ys l yd yv ?_ ?_ ?_ ?_ ?_ ?_ ?_ ?_ ?_ ?_
  all_goals
    intros
    unfold eLike lkOk
    first
      | exact .inl ⟨by omega, rfl, rfl⟩
      | exact .inr (.inl ⟨by omega, by omega, rfl, rfl⟩)
      | exact .inr (.inr ⟨by omega, by omega, by omega, rfl, rfl⟩)
theorem lX_low {yA : AW} {ys l yd yv : Int32} {yc : Nat} (h0 : yc ≠ 20) (h4 : yc ≠ 24) (h5 : yc ≠ 25) (h6 : yc ≠ 26) (h7 : yc ≠ 27) (h8 : yc ≠ 28) (yj : Nat) : (likX yA ys l yd yv).1 yc yj = yA.1 yc yj := by
  unfold likX
  rw [uI_c h0, uI_c h8, uI_c h7, uI_c h6, uI_c h5, uI_c h4]
theorem lM_low {yA : AW} {ys l yd yv : Int32} {yc : Nat} (h0 : yc ≠ 69) (h4 : yc ≠ 94) (h5 : yc ≠ 95) (h6 : yc ≠ 96) (h7 : yc ≠ 97) (h8 : yc ≠ 98) (yj : Nat) : (likM yA ys l yd yv).1 yc yj = yA.1 yc yj := by
  unfold likM
  rw [uI_c h0, uI_c h8, uI_c h7, uI_c h6, uI_c h5, uI_c h4]
theorem lX_24 {yA : AW} {ys l yd yv : Int32} {yj : Nat} : (likX yA ys l yd yv).1 24 yj = if yj = (yA.1 20 9).toInt.toNat then ys else yA.1 24 yj := by
  unfold likX
  rw [uI_c (by decide), uI_c (by decide), uI_c (by decide), uI_c (by decide), uI_c (by decide), uI_row]
theorem lX_25 {yA : AW} {ys l yd yv : Int32} {yj : Nat} : (likX yA ys l yd yv).1 25 yj = if yj = (yA.1 20 9).toInt.toNat then l else yA.1 25 yj := by
  unfold likX
  rw [uI_c (by decide), uI_c (by decide), uI_c (by decide), uI_c (by decide), uI_row, uI_c (by decide)]
theorem lX_26 {yA : AW} {ys l yd yv : Int32} {yj : Nat} : (likX yA ys l yd yv).1 26 yj = if yj = (yA.1 20 9).toInt.toNat then yd else yA.1 26 yj := by
  unfold likX
  rw [uI_c (by decide), uI_c (by decide), uI_c (by decide), uI_row, uI_c (by decide), uI_c (by decide)]
theorem lX_27 {yA : AW} {ys l yd yv : Int32} {yj : Nat} : (likX yA ys l yd yv).1 27 yj = if yj = (yA.1 20 9).toInt.toNat then yv else yA.1 27 yj := by
  unfold likX
  rw [uI_c (by decide), uI_c (by decide), uI_row, uI_c (by decide), uI_c (by decide), uI_c (by decide)]
theorem lX_28 {yA : AW} {ys l yd yv : Int32} {yj : Nat} : (likX yA ys l yd yv).1 28 yj = if yj = (yA.1 20 9).toInt.toNat then yA.1 0 10 else yA.1 28 yj := by
  unfold likX
  rw [uI_c (by decide), uI_row, uI_c (by decide), uI_c (by decide), uI_c (by decide), uI_c (by decide)]
theorem lX_20 {yA : AW} {ys l yd yv : Int32} : (likX yA ys l yd yv).1 20 9 = yA.1 20 9 + 1 := by
  unfold likX
  rw [uI_h]
theorem lM_94 {yA : AW} {ys l yd yv : Int32} {yj : Nat} : (likM yA ys l yd yv).1 94 yj = if yj = (yA.1 69 37).toInt.toNat then ys else yA.1 94 yj := by
  unfold likM
  rw [uI_c (by decide), uI_c (by decide), uI_c (by decide), uI_c (by decide), uI_c (by decide), uI_row]
theorem lM_95 {yA : AW} {ys l yd yv : Int32} {yj : Nat} : (likM yA ys l yd yv).1 95 yj = if yj = (yA.1 69 37).toInt.toNat then l else yA.1 95 yj := by
  unfold likM
  rw [uI_c (by decide), uI_c (by decide), uI_c (by decide), uI_c (by decide), uI_row, uI_c (by decide)]
theorem lM_96 {yA : AW} {ys l yd yv : Int32} {yj : Nat} : (likM yA ys l yd yv).1 96 yj = if yj = (yA.1 69 37).toInt.toNat then yd else yA.1 96 yj := by
  unfold likM
  rw [uI_c (by decide), uI_c (by decide), uI_c (by decide), uI_row, uI_c (by decide), uI_c (by decide)]
theorem lM_97 {yA : AW} {ys l yd yv : Int32} {yj : Nat} : (likM yA ys l yd yv).1 97 yj = if yj = (yA.1 69 37).toInt.toNat then yv else yA.1 97 yj := by
  unfold likM
  rw [uI_c (by decide), uI_c (by decide), uI_row, uI_c (by decide), uI_c (by decide), uI_c (by decide)]
theorem lM_98 {yA : AW} {ys l yd yv : Int32} {yj : Nat} : (likM yA ys l yd yv).1 98 yj = if yj = (yA.1 69 37).toInt.toNat then yA.1 69 0 else yA.1 98 yj := by
  unfold likM
  rw [uI_c (by decide), uI_row, uI_c (by decide), uI_c (by decide), uI_c (by decide), uI_c (by decide)]
theorem lM_37 {yA : AW} {ys l yd yv : Int32} : (likM yA ys l yd yv).1 69 37 = yA.1 69 37 + 1 := by
  unfold likM
  rw [uI_h]
theorem lM_0 {yA : AW} {ys l yd yv : Int32} : (likM yA ys l yd yv).1 69 0 = yA.1 69 0 := by
  unfold likM
  rw [uI_k (by decide), uI_c (by decide), uI_c (by decide), uI_c (by decide), uI_c (by decide), uI_c (by decide)]
theorem ite2 {yp yq : Prop} [Decidable yp] [Decidable yq] {yx yy ya yb : Int32} (yh : yp ↔ yq) (h1 : yx = yy) (h2 : ya = yb) : (if yp then yx else ya) = (if yq then yy else yb) := by
  by_cases ye : yp
  · rw [if_pos ye, if_pos (yh.mp ye)]
    exact h1
  · rw [if_neg ye, if_neg (fun yr => ye (yh.mpr yr))]
    exact h2
theorem k_like {yA A1 A2 : AW} {ys l yd yv yx yy : Int32} (hA : okA yA) (hF : eqF F19 yA) (hR : eqRs Ar19 yA) (hX : RX19 yA) (ys1 : dLike ys l yd yv yA (some (.int yx)) A1) (ys2 : eLike ys l yd yv A1 (some (.int yy)) A2) : eqF F19 A2 ∧ eqRs Ar19 A2 ∧ RX19 A2 ∧ yx = yy := by
  have yf0 : yA.1 0 10 = yA.1 69 0 := hF ((0, 10), (69, 0)) (by simp [F19])
  have yf9 : yA.1 20 9 = yA.1 69 37 := hF ((20, 9), (69, 37)) (by simp [F19])
  have g0 := hA.fld (i := 69) (k := 0) (lo := 0) (hi := 3599) (by decide +kernel)
  have gT := hA.fld (i := 69) (k := 37) (lo := 0) (hi := 120) (by decide +kernel)
  rcases ys1 with ⟨ya1, a2, rfl⟩ | ⟨ya1, a2, a3, rfl⟩ | ⟨ya1, a2, a3, a4, rfl⟩
  · rw [yf0] at ya1
    rcases ys2 with ⟨b1, b2, rfl⟩ | ⟨b1, b2, b3, rfl⟩ | ⟨b1, b2, b3, b4, rfl⟩
    · exact ⟨hF, hR, hX, by rw [some_int a2, some_int b2]⟩
    · exact absurd b1 ya1
    · exact absurd b1 ya1
  · rw [yf0] at ya1
    rw [yf9] at a2
    rcases ys2 with ⟨b1, b2, rfl⟩ | ⟨b1, b2, b3, rfl⟩ | ⟨b1, b2, b3, b4, rfl⟩
    · exact absurd ya1 b1
    · exact ⟨hF, hR, hX, by rw [some_int a3, some_int b3]⟩
    · omega
  · rw [yf0] at ya1
    have l0 : (likX yA ys l yd yv).1 69 0 = yA.1 69 0 := lX_low (by decide) (by decide) (by decide) (by decide) (by decide) (by decide) 0
    have l37 : (likX yA ys l yd yv).1 69 37 = yA.1 69 37 := lX_low (by decide) (by decide) (by decide) (by decide) (by decide) (by decide) 37
    rcases ys2 with ⟨b1, b2, rfl⟩ | ⟨b1, b2, b3, rfl⟩ | ⟨b1, b2, b3, b4, rfl⟩
    · rw [l0] at b1
      exact absurd ya1 b1
    · rw [l37] at b2
      rw [yf9] at a2
      omega
    · have yex : ∀ yj, (yj = (yA.1 20 9).toInt.toNat ↔ yj = ((likX yA ys l yd yv).1 69 37).toInt.toNat) := fun yj => by rw [l37, yf9]
      refine ⟨?_, ?_, ?_, ?_⟩
      · intro yq hq
        simp only [F19, List.mem_cons, List.not_mem_nil, or_false] at hq
        rcases hq with rfl | rfl
        · show (likM (likX yA ys l yd yv) ys l yd yv).1 0 10 = (likM (likX yA ys l yd yv) ys l yd yv).1 69 0
          rw [lM_low (by decide) (by decide) (by decide) (by decide) (by decide) (by decide), lM_0, l0, lX_low (by decide) (by decide) (by decide) (by decide) (by decide) (by decide)]
          exact yf0
        · show (likM (likX yA ys l yd yv) ys l yd yv).1 20 9 = (likM (likX yA ys l yd yv) ys l yd yv).1 69 37
          rw [lM_low (by decide) (by decide) (by decide) (by decide) (by decide) (by decide), lM_37, l37, lX_20, yf9]
      · intro yq hq ym yhm yj hj
        have hq0 := hR yq hq ym yhm yj hj
        simp only [Ar19, List.mem_cons, List.not_mem_nil, or_false] at hq
        rcases hq with rfl | rfl | rfl | rfl | rfl
        · show (likM (likX yA ys l yd yv) ys l yd yv).1 24 yj = (likM (likX yA ys l yd yv) ys l yd yv).1 94 yj
          rw [lM_low (by decide) (by decide) (by decide) (by decide) (by decide) (by decide), lX_24, lM_94, lX_low (yc := 94) (by decide) (by decide) (by decide) (by decide) (by decide) (by decide)]
          exact ite2 (yex yj) rfl hq0
        · show (likM (likX yA ys l yd yv) ys l yd yv).1 25 yj = (likM (likX yA ys l yd yv) ys l yd yv).1 95 yj
          rw [lM_low (by decide) (by decide) (by decide) (by decide) (by decide) (by decide), lX_25, lM_95, lX_low (yc := 95) (by decide) (by decide) (by decide) (by decide) (by decide) (by decide)]
          exact ite2 (yex yj) rfl hq0
        · show (likM (likX yA ys l yd yv) ys l yd yv).1 26 yj = (likM (likX yA ys l yd yv) ys l yd yv).1 96 yj
          rw [lM_low (by decide) (by decide) (by decide) (by decide) (by decide) (by decide), lX_26, lM_96, lX_low (yc := 96) (by decide) (by decide) (by decide) (by decide) (by decide) (by decide)]
          exact ite2 (yex yj) rfl hq0
        · show (likM (likX yA ys l yd yv) ys l yd yv).1 27 yj = (likM (likX yA ys l yd yv) ys l yd yv).1 97 yj
          rw [lM_low (by decide) (by decide) (by decide) (by decide) (by decide) (by decide), lX_27, lM_97, lX_low (yc := 97) (by decide) (by decide) (by decide) (by decide) (by decide) (by decide)]
          exact ite2 (yex yj) rfl hq0
        · show (likM (likX yA ys l yd yv) ys l yd yv).1 28 yj = (likM (likX yA ys l yd yv) ys l yd yv).1 98 yj
          rw [lM_low (by decide) (by decide) (by decide) (by decide) (by decide) (by decide), lX_28, lM_98, l0, lX_low (yc := 98) (by decide) (by decide) (by decide) (by decide) (by decide) (by decide)]
          exact ite2 (yex yj) yf0 hq0
      · intro yj hj
        rw [lM_96, lX_low (yc := 96) (by decide) (by decide) (by decide) (by decide) (by decide) (by decide)]
        unfold lkOk at ya1
        by_cases ye : yj = ((likX yA ys l yd yv).1 69 37).toInt.toNat
        · rw [if_pos ye]
          omega
        · rw [if_neg ye]
          exact hX yj hj
      · rw [some_int a4, some_int b4, l37, yf9]
theorem h_like0 {yp : zPr} (hp : yp.1 = 114 ∧ yp.2.1 = 183 ∧ yp.2.2.1 = 4) (yhc : c_rm yp = true) : PairOK (RR F19 Ar19 RX19) yp := by
  obtain ⟨yp1, yp2, yp3⟩ := hp
  refine pairK (D := on4 dLike) (E := on4 eLike) (by decide +kernel) (by decide +kernel) yhc (fun N yA yas _ hl => ?_) (fun N yA yas _ hl => ?_) (fun yA A1 A2 yas yx yy o1 _ _ hF hR hX hl ys1 ys2 => ?_)
  · rw [yp3] at hl
    obtain ⟨ya, yb, yc, yd, rfl⟩ := as4 hl
    rw [yp1]
    exact d_like N yA ya yb yc yd
  · rw [yp3] at hl
    obtain ⟨ya, yb, yc, yd, rfl⟩ := as4 hl
    rw [yp2]
    exact e_like N yA ya yb yc yd
  · rw [yp3] at hl
    obtain ⟨ya, yb, yc, yd, rfl⟩ := as4 hl
    obtain ⟨yr1, r2, r3, r4⟩ := k_like (ys := ya) (l := yb) (yd := yc) (yv := yd) o1 hF hR hX ys1 ys2
    exact ⟨yr1, r2, r3, fun _ => r4⟩
