/-! SPAN: the likes of ya day, sorted -/
theorem bx_like {N : Nat} {yA : AW} {yQ : Option Value → AW → Prop} (ys l yd yv : Int32)
    (l1 : ys.toInt < 0 → yQ (some (.int (-1))) yA)
    (l2 : 0 ≤ ys.toInt → 19 < ys.toInt → yQ (some (.int (-1))) yA)
    (l3 : 0 ≤ ys.toInt → ys.toInt ≤ 19 → l.toInt < 0 → yQ (some (.int (-1))) yA)
    (l4 : 0 ≤ ys.toInt → ys.toInt ≤ 19 → 0 ≤ l.toInt → 5 < l.toInt → yQ (some (.int (-1))) yA)
    (l5 : 0 ≤ ys.toInt → ys.toInt ≤ 19 → 0 ≤ l.toInt → l.toInt ≤ 5 → yd.toInt < 0 → yQ (some (.int (-1))) yA)
    (l6 : 0 ≤ ys.toInt → ys.toInt ≤ 19 → 0 ≤ l.toInt → l.toInt ≤ 5 → 0 ≤ yd.toInt → (yA.1 0 10).toInt < yd.toInt → yQ (some (.int (-1))) yA)
    (l7 : 0 ≤ ys.toInt → ys.toInt ≤ 19 → 0 ≤ l.toInt → l.toInt ≤ 5 → 0 ≤ yd.toInt → yd.toInt ≤ (yA.1 0 10).toInt → yv.toInt < 1 → yQ (some (.int (-1))) yA)
    (l8 : 0 ≤ ys.toInt → ys.toInt ≤ 19 → 0 ≤ l.toInt → l.toInt ≤ 5 → 0 ≤ yd.toInt → yd.toInt ≤ (yA.1 0 10).toInt → 1 ≤ yv.toInt → 99999 < yv.toInt → yQ (some (.int (-1))) yA)
    (l9 : 0 ≤ ys.toInt → ys.toInt ≤ 19 → 0 ≤ l.toInt → l.toInt ≤ 5 → 0 ≤ yd.toInt → yd.toInt ≤ (yA.1 0 10).toInt → 1 ≤ yv.toInt → yv.toInt ≤ 99999 → (yA.1 20 9).toInt < 120 → 0 ≤ (yA.1 20 9).toInt → yQ (some (.int ((yA.1 20 9) + 1))) (uI (uI (uI (uI (uI (uI yA 24 ((yA.1 20 9).toInt.toNat) ys) 25 ((yA.1 20 9).toInt.toNat) l) 26 ((yA.1 20 9).toInt.toNat) yd) 27 ((yA.1 20 9).toInt.toNat) yv) 28 ((yA.1 20 9).toInt.toNat) (yA.1 0 10)) 20 9 ((yA.1 20 9) + 1)))
    (l10 : 0 ≤ ys.toInt → ys.toInt ≤ 19 → 0 ≤ l.toInt → l.toInt ≤ 5 → 0 ≤ yd.toInt → yd.toInt ≤ (yA.1 0 10).toInt → 1 ≤ yv.toInt → yv.toInt ≤ 99999 → 120 ≤ (yA.1 20 9).toInt → yQ (some (.int (-2))) yA) :
    Pa N 114 0 [(0, .ref 0), (1, .int ys), (2, .int l), (3, .int yd), (4, .int yv)] [] yA yQ := by
  refine Pa.mp 1 (pc' := 1) (l' := [(0, .ref 0), (1, .int ys), (2, .int l), (3, .int yd), (4, .int yv)]) (st' := [.int ys]) (by rfl) ?_
  refine Pa.ic (x := 0) (pc' := 2) (by rfl) (by rfl) (by decide) ?_
  refine Pa.ic (x := 19) (pc' := 4) (by rfl) (by rfl) (by decide) ?_
  refine Pa.ist (by rfl) (by rfl) (.inl rfl) (by rfl) (by rfl) ?_
  show Pa N 146 0 [(0, .int ys), (1, .int 0), (2, .int 19)] [] yA _
  refine Pa.mp 2 (pc' := 2) (l' := [(0, .int ys), (1, .int 0), (2, .int 19)]) (st' := [.int 0, .int ys]) (by rfl) ?_
  refine Pa.if2 (a := ys.toInt) (b := 0) (t := 14) (by rfl) (by rfl) (rfl) (by decide) (fun h1 => ?_) (fun h2 => ?_)
  · have h1 : ys.toInt < 0 := h1
    refine Pa.ic (x := 0) (pc' := 15) (by rfl) (by rfl) (by decide) ?_
    refine Pa.iret (by rfl) ?_
    show Pa N 114 7 [(0, .ref 0), (1, .int ys), (2, .int l), (3, .int yd), (4, .int yv)] [.int 0] yA _
    refine Pa.if1k true (by rfl) (by rfl) (by decide) ?_
    show Pa N 114 40 [(0, .ref 0), (1, .int ys), (2, .int l), (3, .int yd), (4, .int yv)] [] yA _
    refine Pa.ic (x := (-1)) (pc' := 41) (by rfl) (by rfl) (by decide) ?_
    refine Pa.iret (by rfl) ?_
    exact l1 h1
  · have h2 : 0 ≤ ys.toInt := h2
    refine Pa.mp 2 (pc' := 7) (l' := [(0, .int ys), (1, .int 0), (2, .int 19)]) (st' := [.int 19, .int ys]) (by rfl) ?_
    refine Pa.if2 (a := ys.toInt) (b := 19) (t := 14) (by rfl) (by rfl) (rfl) (by decide) (fun h3 => ?_) (fun h4 => ?_)
    · have h3 : 19 < ys.toInt := h3
      refine Pa.ic (x := 0) (pc' := 15) (by rfl) (by rfl) (by decide) ?_
      refine Pa.iret (by rfl) ?_
      show Pa N 114 7 [(0, .ref 0), (1, .int ys), (2, .int l), (3, .int yd), (4, .int yv)] [.int 0] yA _
      refine Pa.if1k true (by rfl) (by rfl) (by decide) ?_
      show Pa N 114 40 [(0, .ref 0), (1, .int ys), (2, .int l), (3, .int yd), (4, .int yv)] [] yA _
      refine Pa.ic (x := (-1)) (pc' := 41) (by rfl) (by rfl) (by decide) ?_
      refine Pa.iret (by rfl) ?_
      exact l2 h2 h3
    · have h4 : ys.toInt ≤ 19 := h4
      refine Pa.ic (x := 1) (pc' := 11) (by rfl) (by rfl) (by decide) ?_
      refine Pa.mp 1 (pc' := 15) (l' := [(0, .int ys), (1, .int 0), (2, .int 19)]) (st' := [.int 1]) (by rfl) ?_
      refine Pa.iret (by rfl) ?_
      show Pa N 114 7 [(0, .ref 0), (1, .int ys), (2, .int l), (3, .int yd), (4, .int yv)] [.int 1] yA _
      refine Pa.if1k false (by rfl) (by rfl) (by decide) ?_
      show Pa N 114 10 [(0, .ref 0), (1, .int ys), (2, .int l), (3, .int yd), (4, .int yv)] [] yA _
      refine Pa.mp 1 (pc' := 11) (l' := [(0, .ref 0), (1, .int ys), (2, .int l), (3, .int yd), (4, .int yv)]) (st' := [.int l]) (by rfl) ?_
      refine Pa.ist (by rfl) (by rfl) (.inl rfl) (by rfl) (by rfl) ?_
      show Pa N 147 0 [(0, .int l)] [] yA _
      refine Pa.mp 1 (pc' := 1) (l' := [(0, .int l)]) (st' := [.int l]) (by rfl) ?_
      refine Pa.ic (x := 0) (pc' := 2) (by rfl) (by rfl) (by decide) ?_
      refine Pa.ic (x := 5) (pc' := 3) (by rfl) (by rfl) (by decide) ?_
      refine Pa.ist (by rfl) (by rfl) (.inl rfl) (by rfl) (by rfl) ?_
      show Pa N 146 0 [(0, .int l), (1, .int 0), (2, .int 5)] [] yA _
      refine Pa.mp 2 (pc' := 2) (l' := [(0, .int l), (1, .int 0), (2, .int 5)]) (st' := [.int 0, .int l]) (by rfl) ?_
      refine Pa.if2 (a := l.toInt) (b := 0) (t := 14) (by rfl) (by rfl) (rfl) (by decide) (fun h5 => ?_) (fun h6 => ?_)
      · have h5 : l.toInt < 0 := h5
        refine Pa.ic (x := 0) (pc' := 15) (by rfl) (by rfl) (by decide) ?_
        refine Pa.iret (by rfl) ?_
        show Pa N 147 6 [(0, .int l)] [.int 0] yA _
        refine Pa.iret (by rfl) ?_
        show Pa N 114 14 [(0, .ref 0), (1, .int ys), (2, .int l), (3, .int yd), (4, .int yv)] [.int 0] yA _
        refine Pa.if1k true (by rfl) (by rfl) (by decide) ?_
        show Pa N 114 40 [(0, .ref 0), (1, .int ys), (2, .int l), (3, .int yd), (4, .int yv)] [] yA _
        refine Pa.ic (x := (-1)) (pc' := 41) (by rfl) (by rfl) (by decide) ?_
        refine Pa.iret (by rfl) ?_
        exact l3 h2 h4 h5
      · have h6 : 0 ≤ l.toInt := h6
        refine Pa.mp 2 (pc' := 7) (l' := [(0, .int l), (1, .int 0), (2, .int 5)]) (st' := [.int 5, .int l]) (by rfl) ?_
        refine Pa.if2 (a := l.toInt) (b := 5) (t := 14) (by rfl) (by rfl) (rfl) (by decide) (fun h7 => ?_) (fun h8 => ?_)
        · have h7 : 5 < l.toInt := h7
          refine Pa.ic (x := 0) (pc' := 15) (by rfl) (by rfl) (by decide) ?_
          refine Pa.iret (by rfl) ?_
          show Pa N 147 6 [(0, .int l)] [.int 0] yA _
          refine Pa.iret (by rfl) ?_
          show Pa N 114 14 [(0, .ref 0), (1, .int ys), (2, .int l), (3, .int yd), (4, .int yv)] [.int 0] yA _
          refine Pa.if1k true (by rfl) (by rfl) (by decide) ?_
          show Pa N 114 40 [(0, .ref 0), (1, .int ys), (2, .int l), (3, .int yd), (4, .int yv)] [] yA _
          refine Pa.ic (x := (-1)) (pc' := 41) (by rfl) (by rfl) (by decide) ?_
          refine Pa.iret (by rfl) ?_
          exact l4 h2 h4 h6 h7
        · have h8 : l.toInt ≤ 5 := h8
          refine Pa.ic (x := 1) (pc' := 11) (by rfl) (by rfl) (by decide) ?_
          refine Pa.mp 1 (pc' := 15) (l' := [(0, .int l), (1, .int 0), (2, .int 5)]) (st' := [.int 1]) (by rfl) ?_
          refine Pa.iret (by rfl) ?_
          show Pa N 147 6 [(0, .int l)] [.int 1] yA _
          refine Pa.iret (by rfl) ?_
          show Pa N 114 14 [(0, .ref 0), (1, .int ys), (2, .int l), (3, .int yd), (4, .int yv)] [.int 1] yA _
          refine Pa.if1k false (by rfl) (by rfl) (by decide) ?_
          show Pa N 114 17 [(0, .ref 0), (1, .int ys), (2, .int l), (3, .int yd), (4, .int yv)] [] yA _
          refine Pa.mp 1 (pc' := 18) (l' := [(0, .ref 0), (1, .int ys), (2, .int l), (3, .int yd), (4, .int yv)]) (st' := [.int yd]) (by rfl) ?_
          refine Pa.ic (x := 0) (pc' := 19) (by rfl) (by rfl) (by decide) ?_
          refine Pa.mp 1 (pc' := 20) (l' := [(0, .ref 0), (1, .int ys), (2, .int l), (3, .int yd), (4, .int yv)]) (st' := [.ref 0, .int 0, .int yd]) (by rfl) ?_
          refine Pa.gfI (v := yA.1 0 10) (by rfl) (by rfl) (.inl rfl) (by rfl) (by rfl) ?_
          refine Pa.ist (by rfl) (by rfl) (.inl rfl) (by rfl) (by rfl) ?_
          show Pa N 146 0 [(0, .int yd), (1, .int 0), (2, .int (yA.1 0 10))] [] yA _
          refine Pa.mp 2 (pc' := 2) (l' := [(0, .int yd), (1, .int 0), (2, .int (yA.1 0 10))]) (st' := [.int 0, .int yd]) (by rfl) ?_
          refine Pa.if2 (a := yd.toInt) (b := 0) (t := 14) (by rfl) (by rfl) (rfl) (by decide) (fun h9 => ?_) (fun h10 => ?_)
          · have h9 : yd.toInt < 0 := h9
            refine Pa.ic (x := 0) (pc' := 15) (by rfl) (by rfl) (by decide) ?_
            refine Pa.iret (by rfl) ?_
            show Pa N 114 26 [(0, .ref 0), (1, .int ys), (2, .int l), (3, .int yd), (4, .int yv)] [.int 0] yA _
            refine Pa.if1k true (by rfl) (by rfl) (by decide) ?_
            show Pa N 114 40 [(0, .ref 0), (1, .int ys), (2, .int l), (3, .int yd), (4, .int yv)] [] yA _
            refine Pa.ic (x := (-1)) (pc' := 41) (by rfl) (by rfl) (by decide) ?_
            refine Pa.iret (by rfl) ?_
            exact l5 h2 h4 h6 h8 h9
          · have h10 : 0 ≤ yd.toInt := h10
            refine Pa.mp 2 (pc' := 7) (l' := [(0, .int yd), (1, .int 0), (2, .int (yA.1 0 10))]) (st' := [.int (yA.1 0 10), .int yd]) (by rfl) ?_
            refine Pa.if2 (a := yd.toInt) (b := (yA.1 0 10).toInt) (t := 14) (by rfl) (by rfl) (rfl) (rfl) (fun h11 => ?_) (fun h12 => ?_)
            · have h11 : (yA.1 0 10).toInt < yd.toInt := h11
              refine Pa.ic (x := 0) (pc' := 15) (by rfl) (by rfl) (by decide) ?_
              refine Pa.iret (by rfl) ?_
              show Pa N 114 26 [(0, .ref 0), (1, .int ys), (2, .int l), (3, .int yd), (4, .int yv)] [.int 0] yA _
              refine Pa.if1k true (by rfl) (by rfl) (by decide) ?_
              show Pa N 114 40 [(0, .ref 0), (1, .int ys), (2, .int l), (3, .int yd), (4, .int yv)] [] yA _
              refine Pa.ic (x := (-1)) (pc' := 41) (by rfl) (by rfl) (by decide) ?_
              refine Pa.iret (by rfl) ?_
              exact l6 h2 h4 h6 h8 h10 h11
            · have h12 : yd.toInt ≤ (yA.1 0 10).toInt := h12
              refine Pa.ic (x := 1) (pc' := 11) (by rfl) (by rfl) (by decide) ?_
              refine Pa.mp 1 (pc' := 15) (l' := [(0, .int yd), (1, .int 0), (2, .int (yA.1 0 10))]) (st' := [.int 1]) (by rfl) ?_
              refine Pa.iret (by rfl) ?_
              show Pa N 114 26 [(0, .ref 0), (1, .int ys), (2, .int l), (3, .int yd), (4, .int yv)] [.int 1] yA _
              refine Pa.if1k false (by rfl) (by rfl) (by decide) ?_
              show Pa N 114 29 [(0, .ref 0), (1, .int ys), (2, .int l), (3, .int yd), (4, .int yv)] [] yA _
              refine Pa.mp 1 (pc' := 31) (l' := [(0, .ref 0), (1, .int ys), (2, .int l), (3, .int yd), (4, .int yv)]) (st' := [.int yv]) (by rfl) ?_
              refine Pa.ic (x := 1) (pc' := 32) (by rfl) (by rfl) (by decide) ?_
              refine Pa.icl (x := 99999) (pc' := 34) (by rfl) (fun _ _ _ => by rfl) (by decide) ?_
              refine Pa.ist (by rfl) (by rfl) (.inl rfl) (by rfl) (by rfl) ?_
              show Pa N 146 0 [(0, .int yv), (1, .int 1), (2, .int 99999)] [] yA _
              refine Pa.mp 2 (pc' := 2) (l' := [(0, .int yv), (1, .int 1), (2, .int 99999)]) (st' := [.int 1, .int yv]) (by rfl) ?_
              refine Pa.if2 (a := yv.toInt) (b := 1) (t := 14) (by rfl) (by rfl) (rfl) (by decide) (fun h13 => ?_) (fun h14 => ?_)
              · have h13 : yv.toInt < 1 := h13
                refine Pa.ic (x := 0) (pc' := 15) (by rfl) (by rfl) (by decide) ?_
                refine Pa.iret (by rfl) ?_
                show Pa N 114 37 [(0, .ref 0), (1, .int ys), (2, .int l), (3, .int yd), (4, .int yv)] [.int 0] yA _
                refine Pa.if1k false (by rfl) (by rfl) (by decide) ?_
                show Pa N 114 40 [(0, .ref 0), (1, .int ys), (2, .int l), (3, .int yd), (4, .int yv)] [] yA _
                refine Pa.ic (x := (-1)) (pc' := 41) (by rfl) (by rfl) (by decide) ?_
                refine Pa.iret (by rfl) ?_
                exact l7 h2 h4 h6 h8 h10 h12 h13
              · have h14 : 1 ≤ yv.toInt := h14
                refine Pa.mp 2 (pc' := 7) (l' := [(0, .int yv), (1, .int 1), (2, .int 99999)]) (st' := [.int 99999, .int yv]) (by rfl) ?_
                refine Pa.if2 (a := yv.toInt) (b := 99999) (t := 14) (by rfl) (by rfl) (rfl) (by decide) (fun h15 => ?_) (fun yh16 => ?_)
                · have h15 : 99999 < yv.toInt := h15
                  refine Pa.ic (x := 0) (pc' := 15) (by rfl) (by rfl) (by decide) ?_
                  refine Pa.iret (by rfl) ?_
                  show Pa N 114 37 [(0, .ref 0), (1, .int ys), (2, .int l), (3, .int yd), (4, .int yv)] [.int 0] yA _
                  refine Pa.if1k false (by rfl) (by rfl) (by decide) ?_
                  show Pa N 114 40 [(0, .ref 0), (1, .int ys), (2, .int l), (3, .int yd), (4, .int yv)] [] yA _
                  refine Pa.ic (x := (-1)) (pc' := 41) (by rfl) (by rfl) (by decide) ?_
                  refine Pa.iret (by rfl) ?_
                  exact l8 h2 h4 h6 h8 h10 h12 h14 h15
                · have yh16 : yv.toInt ≤ 99999 := yh16
                  refine Pa.ic (x := 1) (pc' := 11) (by rfl) (by rfl) (by decide) ?_
                  refine Pa.mp 1 (pc' := 15) (l' := [(0, .int yv), (1, .int 1), (2, .int 99999)]) (st' := [.int 1]) (by rfl) ?_
                  refine Pa.iret (by rfl) ?_
                  show Pa N 114 37 [(0, .ref 0), (1, .int ys), (2, .int l), (3, .int yd), (4, .int yv)] [.int 1] yA _
                  refine Pa.if1k true (by rfl) (by rfl) (by decide) ?_
                  show Pa N 114 42 [(0, .ref 0), (1, .int ys), (2, .int l), (3, .int yd), (4, .int yv)] [] yA _
                  refine Pa.mp 1 (pc' := 43) (l' := [(0, .ref 0), (1, .int ys), (2, .int l), (3, .int yd), (4, .int yv)]) (st' := [.ref 0]) (by rfl) ?_
                  refine Pa.gfR (by rfl) (by rfl) (.inl rfl) (by rfl) ?_
                  show Pa N 114 46 [(0, .ref 0), (1, .int ys), (2, .int l), (3, .int yd), (4, .int yv)] [.ref 20] yA _
                  refine Pa.mp 5 (pc' := 52) (l' := [(0, .ref 0), (1, .int ys), (2, .int l), (3, .int yd), (4, .int yv)]) (st' := [.ref 0, .int yv, .int yd, .int l, .int ys, .ref 20]) (by rfl) ?_
                  refine Pa.gfI (v := yA.1 0 10) (by rfl) (by rfl) (.inl rfl) (by rfl) (by rfl) ?_
                  refine Pa.inv (by rfl) (by rfl) (.inr rfl) (by rfl) ?_
                  show Pa N 63 0 [(0, .ref 20), (1, .int ys), (2, .int l), (3, .int yd), (4, .int yv), (5, .int (yA.1 0 10))] [] yA _
                  refine Pa.mp 1 (pc' := 1) (l' := [(0, .ref 20), (1, .int ys), (2, .int l), (3, .int yd), (4, .int yv), (5, .int (yA.1 0 10))]) (st' := [.ref 20]) (by rfl) ?_
                  refine Pa.gfI (v := yA.1 20 9) (by rfl) (by rfl) (.inl rfl) (by rfl) (by rfl) ?_
                  refine Pa.ic (x := 120) (pc' := 6) (by rfl) (by rfl) (by decide) ?_
                  refine Pa.if2 (a := (yA.1 20 9).toInt) (b := 120) (t := 12) (by rfl) (by rfl) (rfl) (by decide) (fun h17 => ?_) (fun h18 => ?_)
                  · have h17 : (yA.1 20 9).toInt < 120 := h17
                    refine Pa.mp 1 (pc' := 13) (l' := [(0, .ref 20), (1, .int ys), (2, .int l), (3, .int yd), (4, .int yv), (5, .int (yA.1 0 10))]) (st' := [.ref 20]) (by rfl) ?_
                    refine Pa.gfR (by rfl) (by rfl) (.inl rfl) (by rfl) ?_
                    show Pa N 63 16 [(0, .ref 20), (1, .int ys), (2, .int l), (3, .int yd), (4, .int yv), (5, .int (yA.1 0 10))] [.ref 24] yA _
                    refine Pa.mp 1 (pc' := 17) (l' := [(0, .ref 20), (1, .int ys), (2, .int l), (3, .int yd), (4, .int yv), (5, .int (yA.1 0 10))]) (st' := [.ref 20, .ref 24]) (by rfl) ?_
                    refine Pa.gfI (v := yA.1 20 9) (by rfl) (by rfl) (.inl rfl) (by rfl) (by rfl) ?_
                    refine Pa.mp 1 (pc' := 21) (l' := [(0, .ref 20), (1, .int ys), (2, .int l), (3, .int yd), (4, .int yv), (5, .int (yA.1 0 10))]) (st' := [.int ys, .int (yA.1 20 9), .ref 24]) (by rfl) ?_
                    refine Pa.asts (j' := ((yA.1 20 9).toInt.toNat)) (by rfl) (by rfl) (by rfl) (fun h19 h20 => ?_)
                    have h19 : 0 ≤ (yA.1 20 9).toInt := h19
                    have h20 : (yA.1 20 9).toInt < 120 := h20
                    show Pa N 63 22 [(0, .ref 20), (1, .int ys), (2, .int l), (3, .int yd), (4, .int yv), (5, .int (yA.1 0 10))] [] (uI yA 24 ((yA.1 20 9).toInt.toNat) ys) _
                    refine Pa.mp 1 (pc' := 23) (l' := [(0, .ref 20), (1, .int ys), (2, .int l), (3, .int yd), (4, .int yv), (5, .int (yA.1 0 10))]) (st' := [.ref 20]) (by rfl) ?_
                    refine Pa.gfR (by rfl) (by rfl) (.inl rfl) (by rfl) ?_
                    show Pa N 63 26 [(0, .ref 20), (1, .int ys), (2, .int l), (3, .int yd), (4, .int yv), (5, .int (yA.1 0 10))] [.ref 25] (uI yA 24 ((yA.1 20 9).toInt.toNat) ys) _
                    refine Pa.mp 1 (pc' := 27) (l' := [(0, .ref 20), (1, .int ys), (2, .int l), (3, .int yd), (4, .int yv), (5, .int (yA.1 0 10))]) (st' := [.ref 20, .ref 25]) (by rfl) ?_
                    refine Pa.gfI (v := yA.1 20 9) (by rfl) (by rfl) (.inl rfl) (by rfl) (by show (uI yA 24 ((yA.1 20 9).toInt.toNat) ys).1 20 9 = yA.1 20 9; rw [uI_c (by decide)]) ?_
                    refine Pa.mp 1 (pc' := 31) (l' := [(0, .ref 20), (1, .int ys), (2, .int l), (3, .int yd), (4, .int yv), (5, .int (yA.1 0 10))]) (st' := [.int l, .int (yA.1 20 9), .ref 25]) (by rfl) ?_
                    refine Pa.asts (j' := ((yA.1 20 9).toInt.toNat)) (by rfl) (by rfl) (by rfl) (fun h21 h22 => ?_)
                    have h21 : 0 ≤ (yA.1 20 9).toInt := h21
                    have h22 : (yA.1 20 9).toInt < 120 := h22
                    show Pa N 63 32 [(0, .ref 20), (1, .int ys), (2, .int l), (3, .int yd), (4, .int yv), (5, .int (yA.1 0 10))] [] (uI (uI yA 24 ((yA.1 20 9).toInt.toNat) ys) 25 ((yA.1 20 9).toInt.toNat) l) _
                    refine Pa.mp 1 (pc' := 33) (l' := [(0, .ref 20), (1, .int ys), (2, .int l), (3, .int yd), (4, .int yv), (5, .int (yA.1 0 10))]) (st' := [.ref 20]) (by rfl) ?_
                    refine Pa.gfR (by rfl) (by rfl) (.inl rfl) (by rfl) ?_
                    show Pa N 63 36 [(0, .ref 20), (1, .int ys), (2, .int l), (3, .int yd), (4, .int yv), (5, .int (yA.1 0 10))] [.ref 26] (uI (uI yA 24 ((yA.1 20 9).toInt.toNat) ys) 25 ((yA.1 20 9).toInt.toNat) l) _
                    refine Pa.mp 1 (pc' := 37) (l' := [(0, .ref 20), (1, .int ys), (2, .int l), (3, .int yd), (4, .int yv), (5, .int (yA.1 0 10))]) (st' := [.ref 20, .ref 26]) (by rfl) ?_
                    refine Pa.gfI (v := yA.1 20 9) (by rfl) (by rfl) (.inl rfl) (by rfl) (by show (uI (uI yA 24 ((yA.1 20 9).toInt.toNat) ys) 25 ((yA.1 20 9).toInt.toNat) l).1 20 9 = yA.1 20 9; rw [uI_c (by decide), uI_c (by decide)]) ?_
                    refine Pa.mp 1 (pc' := 41) (l' := [(0, .ref 20), (1, .int ys), (2, .int l), (3, .int yd), (4, .int yv), (5, .int (yA.1 0 10))]) (st' := [.int yd, .int (yA.1 20 9), .ref 26]) (by rfl) ?_
                    refine Pa.asts (j' := ((yA.1 20 9).toInt.toNat)) (by rfl) (by rfl) (by rfl) (fun h23 h24 => ?_)
                    have h23 : 0 ≤ (yA.1 20 9).toInt := h23
                    have h24 : (yA.1 20 9).toInt < 120 := h24
                    show Pa N 63 42 [(0, .ref 20), (1, .int ys), (2, .int l), (3, .int yd), (4, .int yv), (5, .int (yA.1 0 10))] [] (uI (uI (uI yA 24 ((yA.1 20 9).toInt.toNat) ys) 25 ((yA.1 20 9).toInt.toNat) l) 26 ((yA.1 20 9).toInt.toNat) yd) _
                    refine Pa.mp 1 (pc' := 43) (l' := [(0, .ref 20), (1, .int ys), (2, .int l), (3, .int yd), (4, .int yv), (5, .int (yA.1 0 10))]) (st' := [.ref 20]) (by rfl) ?_
                    refine Pa.gfR (by rfl) (by rfl) (.inl rfl) (by rfl) ?_
                    show Pa N 63 46 [(0, .ref 20), (1, .int ys), (2, .int l), (3, .int yd), (4, .int yv), (5, .int (yA.1 0 10))] [.ref 27] (uI (uI (uI yA 24 ((yA.1 20 9).toInt.toNat) ys) 25 ((yA.1 20 9).toInt.toNat) l) 26 ((yA.1 20 9).toInt.toNat) yd) _
                    refine Pa.mp 1 (pc' := 47) (l' := [(0, .ref 20), (1, .int ys), (2, .int l), (3, .int yd), (4, .int yv), (5, .int (yA.1 0 10))]) (st' := [.ref 20, .ref 27]) (by rfl) ?_
                    refine Pa.gfI (v := yA.1 20 9) (by rfl) (by rfl) (.inl rfl) (by rfl) (by show (uI (uI (uI yA 24 ((yA.1 20 9).toInt.toNat) ys) 25 ((yA.1 20 9).toInt.toNat) l) 26 ((yA.1 20 9).toInt.toNat) yd).1 20 9 = yA.1 20 9; rw [uI_c (by decide), uI_c (by decide), uI_c (by decide)]) ?_
                    refine Pa.mp 1 (pc' := 52) (l' := [(0, .ref 20), (1, .int ys), (2, .int l), (3, .int yd), (4, .int yv), (5, .int (yA.1 0 10))]) (st' := [.int yv, .int (yA.1 20 9), .ref 27]) (by rfl) ?_
                    refine Pa.asts (j' := ((yA.1 20 9).toInt.toNat)) (by rfl) (by rfl) (by rfl) (fun h25 h26 => ?_)
                    have h25 : 0 ≤ (yA.1 20 9).toInt := h25
                    have h26 : (yA.1 20 9).toInt < 120 := h26
                    show Pa N 63 53 [(0, .ref 20), (1, .int ys), (2, .int l), (3, .int yd), (4, .int yv), (5, .int (yA.1 0 10))] [] (uI (uI (uI (uI yA 24 ((yA.1 20 9).toInt.toNat) ys) 25 ((yA.1 20 9).toInt.toNat) l) 26 ((yA.1 20 9).toInt.toNat) yd) 27 ((yA.1 20 9).toInt.toNat) yv) _
                    refine Pa.mp 1 (pc' := 54) (l' := [(0, .ref 20), (1, .int ys), (2, .int l), (3, .int yd), (4, .int yv), (5, .int (yA.1 0 10))]) (st' := [.ref 20]) (by rfl) ?_
                    refine Pa.gfR (by rfl) (by rfl) (.inl rfl) (by rfl) ?_
                    show Pa N 63 57 [(0, .ref 20), (1, .int ys), (2, .int l), (3, .int yd), (4, .int yv), (5, .int (yA.1 0 10))] [.ref 28] (uI (uI (uI (uI yA 24 ((yA.1 20 9).toInt.toNat) ys) 25 ((yA.1 20 9).toInt.toNat) l) 26 ((yA.1 20 9).toInt.toNat) yd) 27 ((yA.1 20 9).toInt.toNat) yv) _
                    refine Pa.mp 1 (pc' := 58) (l' := [(0, .ref 20), (1, .int ys), (2, .int l), (3, .int yd), (4, .int yv), (5, .int (yA.1 0 10))]) (st' := [.ref 20, .ref 28]) (by rfl) ?_
                    refine Pa.gfI (v := yA.1 20 9) (by rfl) (by rfl) (.inl rfl) (by rfl) (by show (uI (uI (uI (uI yA 24 ((yA.1 20 9).toInt.toNat) ys) 25 ((yA.1 20 9).toInt.toNat) l) 26 ((yA.1 20 9).toInt.toNat) yd) 27 ((yA.1 20 9).toInt.toNat) yv).1 20 9 = yA.1 20 9; rw [uI_c (by decide), uI_c (by decide), uI_c (by decide), uI_c (by decide)]) ?_
                    refine Pa.mp 1 (pc' := 63) (l' := [(0, .ref 20), (1, .int ys), (2, .int l), (3, .int yd), (4, .int yv), (5, .int (yA.1 0 10))]) (st' := [.int (yA.1 0 10), .int (yA.1 20 9), .ref 28]) (by rfl) ?_
                    refine Pa.asts (j' := ((yA.1 20 9).toInt.toNat)) (by rfl) (by rfl) (by rfl) (fun h27 h28 => ?_)
                    have h27 : 0 ≤ (yA.1 20 9).toInt := h27
                    have h28 : (yA.1 20 9).toInt < 120 := h28
                    show Pa N 63 64 [(0, .ref 20), (1, .int ys), (2, .int l), (3, .int yd), (4, .int yv), (5, .int (yA.1 0 10))] [] (uI (uI (uI (uI (uI yA 24 ((yA.1 20 9).toInt.toNat) ys) 25 ((yA.1 20 9).toInt.toNat) l) 26 ((yA.1 20 9).toInt.toNat) yd) 27 ((yA.1 20 9).toInt.toNat) yv) 28 ((yA.1 20 9).toInt.toNat) (yA.1 0 10)) _
                    refine Pa.mp 2 (pc' := 66) (l' := [(0, .ref 20), (1, .int ys), (2, .int l), (3, .int yd), (4, .int yv), (5, .int (yA.1 0 10))]) (st' := [.ref 20, .ref 20]) (by rfl) ?_
                    refine Pa.gfI (v := yA.1 20 9) (by rfl) (by rfl) (.inl rfl) (by rfl) (by show (uI (uI (uI (uI (uI yA 24 ((yA.1 20 9).toInt.toNat) ys) 25 ((yA.1 20 9).toInt.toNat) l) 26 ((yA.1 20 9).toInt.toNat) yd) 27 ((yA.1 20 9).toInt.toNat) yv) 28 ((yA.1 20 9).toInt.toNat) (yA.1 0 10)).1 20 9 = yA.1 20 9; rw [uI_c (by decide), uI_c (by decide), uI_c (by decide), uI_c (by decide), uI_c (by decide)]) ?_
                    refine Pa.ic (x := 1) (pc' := 70) (by rfl) (by rfl) (by decide) ?_
                    refine Pa.mp 1 (pc' := 71) (l' := [(0, .ref 20), (1, .int ys), (2, .int l), (3, .int yd), (4, .int yv), (5, .int (yA.1 0 10))]) (st' := [.int ((yA.1 20 9) + 1), .ref 20]) (by rfl) ?_
                    refine Pa.pfI (by rfl) (by rfl) (.inl rfl) (by rfl) ?_
                    show Pa N 63 74 [(0, .ref 20), (1, .int ys), (2, .int l), (3, .int yd), (4, .int yv), (5, .int (yA.1 0 10))] [] (uI (uI (uI (uI (uI (uI yA 24 ((yA.1 20 9).toInt.toNat) ys) 25 ((yA.1 20 9).toInt.toNat) l) 26 ((yA.1 20 9).toInt.toNat) yd) 27 ((yA.1 20 9).toInt.toNat) yv) 28 ((yA.1 20 9).toInt.toNat) (yA.1 0 10)) 20 9 ((yA.1 20 9) + 1)) _
                    refine Pa.mp 1 (pc' := 75) (l' := [(0, .ref 20), (1, .int ys), (2, .int l), (3, .int yd), (4, .int yv), (5, .int (yA.1 0 10))]) (st' := [.ref 20]) (by rfl) ?_
                    refine Pa.gfI (v := (yA.1 20 9) + 1) (by rfl) (by rfl) (.inl rfl) (by rfl) (by show (uI (uI (uI (uI (uI (uI yA 24 ((yA.1 20 9).toInt.toNat) ys) 25 ((yA.1 20 9).toInt.toNat) l) 26 ((yA.1 20 9).toInt.toNat) yd) 27 ((yA.1 20 9).toInt.toNat) yv) 28 ((yA.1 20 9).toInt.toNat) (yA.1 0 10)) 20 9 ((yA.1 20 9) + 1)).1 20 9 = (yA.1 20 9) + 1; rw [uI_h]) ?_
                    refine Pa.iret (by rfl) ?_
                    show Pa N 114 58 [(0, .ref 0), (1, .int ys), (2, .int l), (3, .int yd), (4, .int yv)] [.int ((yA.1 20 9) + 1)] (uI (uI (uI (uI (uI (uI yA 24 ((yA.1 20 9).toInt.toNat) ys) 25 ((yA.1 20 9).toInt.toNat) l) 26 ((yA.1 20 9).toInt.toNat) yd) 27 ((yA.1 20 9).toInt.toNat) yv) 28 ((yA.1 20 9).toInt.toNat) (yA.1 0 10)) 20 9 ((yA.1 20 9) + 1)) _
                    refine Pa.iret (by rfl) ?_
                    exact l9 h2 h4 h6 h8 h10 h12 h14 yh16 h17 h19
                  · have h18 : 120 ≤ (yA.1 20 9).toInt := h18
                    refine Pa.ic (x := (-2)) (pc' := 11) (by rfl) (by rfl) (by decide) ?_
                    refine Pa.iret (by rfl) ?_
                    show Pa N 114 58 [(0, .ref 0), (1, .int ys), (2, .int l), (3, .int yd), (4, .int yv)] [.int (-2)] yA _
                    refine Pa.iret (by rfl) ?_
                    exact l10 h2 h4 h6 h8 h10 h12 h14 yh16 h18
theorem bm_like {N : Nat} {yA : AW} {yQ : Option Value → AW → Prop} (ys l yd yv : Int32)
    (l1 : ys.toInt < 0 → yQ (some (.int (-1))) yA)
    (l2 : 0 ≤ ys.toInt → 19 < ys.toInt → yQ (some (.int (-1))) yA)
    (l3 : 0 ≤ ys.toInt → ys.toInt ≤ 19 → l.toInt < 0 → yQ (some (.int (-1))) yA)
    (l4 : 0 ≤ ys.toInt → ys.toInt ≤ 19 → 0 ≤ l.toInt → 5 < l.toInt → yQ (some (.int (-1))) yA)
    (l5 : 0 ≤ ys.toInt → ys.toInt ≤ 19 → 0 ≤ l.toInt → l.toInt ≤ 5 → yd.toInt < 0 → yQ (some (.int (-1))) yA)
    (l6 : 0 ≤ ys.toInt → ys.toInt ≤ 19 → 0 ≤ l.toInt → l.toInt ≤ 5 → 0 ≤ yd.toInt → (yA.1 69 0).toInt < yd.toInt → yQ (some (.int (-1))) yA)
    (l7 : 0 ≤ ys.toInt → ys.toInt ≤ 19 → 0 ≤ l.toInt → l.toInt ≤ 5 → 0 ≤ yd.toInt → yd.toInt ≤ (yA.1 69 0).toInt → yv.toInt < 1 → yQ (some (.int (-1))) yA)
    (l8 : 0 ≤ ys.toInt → ys.toInt ≤ 19 → 0 ≤ l.toInt → l.toInt ≤ 5 → 0 ≤ yd.toInt → yd.toInt ≤ (yA.1 69 0).toInt → 1 ≤ yv.toInt → 99999 < yv.toInt → yQ (some (.int (-1))) yA)
    (l9 : 0 ≤ ys.toInt → ys.toInt ≤ 19 → 0 ≤ l.toInt → l.toInt ≤ 5 → 0 ≤ yd.toInt → yd.toInt ≤ (yA.1 69 0).toInt → 1 ≤ yv.toInt → yv.toInt ≤ 99999 → (yA.1 69 37).toInt ≠ 120 → 0 ≤ (yA.1 69 37).toInt → (yA.1 69 37).toInt < 120 → yQ (some (.int ((yA.1 69 37) + 1))) (uI (uI (uI (uI (uI (uI yA 94 ((yA.1 69 37).toInt.toNat) ys) 95 ((yA.1 69 37).toInt.toNat) l) 96 ((yA.1 69 37).toInt.toNat) yd) 97 ((yA.1 69 37).toInt.toNat) yv) 98 ((yA.1 69 37).toInt.toNat) (yA.1 69 0)) 69 37 ((yA.1 69 37) + 1)))
    (l10 : 0 ≤ ys.toInt → ys.toInt ≤ 19 → 0 ≤ l.toInt → l.toInt ≤ 5 → 0 ≤ yd.toInt → yd.toInt ≤ (yA.1 69 0).toInt → 1 ≤ yv.toInt → yv.toInt ≤ 99999 → (yA.1 69 37).toInt = 120 → yQ (some (.int (-2))) yA) :
    Pa N 183 0 [(0, .ref 69), (1, .int ys), (2, .int l), (3, .int yd), (4, .int yv)] [] yA yQ := by
  refine Pa.mp 1 (pc' := 1) (l' := [(0, .ref 69), (1, .int ys), (2, .int l), (3, .int yd), (4, .int yv)]) (st' := [.int ys]) (by rfl) ?_
  refine Pa.ic (x := 0) (pc' := 2) (by rfl) (by rfl) (by decide) ?_
  refine Pa.ic (x := 19) (pc' := 4) (by rfl) (by rfl) (by decide) ?_
  refine Pa.ist (by rfl) (by rfl) (.inl rfl) (by rfl) (by rfl) ?_
  show Pa N 152 0 [(0, .int ys), (1, .int 0), (2, .int 19)] [] yA _
  refine Pa.mp 2 (pc' := 2) (l' := [(0, .int ys), (1, .int 0), (2, .int 19)]) (st' := [.int 0, .int ys]) (by rfl) ?_
  refine Pa.if2 (a := ys.toInt) (b := 0) (t := 14) (by rfl) (by rfl) (rfl) (by decide) (fun h1 => ?_) (fun h2 => ?_)
  · have h1 : ys.toInt < 0 := h1
    refine Pa.ic (x := 0) (pc' := 15) (by rfl) (by rfl) (by decide) ?_
    refine Pa.iret (by rfl) ?_
    show Pa N 183 7 [(0, .ref 69), (1, .int ys), (2, .int l), (3, .int yd), (4, .int yv)] [.int 0] yA _
    refine Pa.if1k true (by rfl) (by rfl) (by decide) ?_
    show Pa N 183 40 [(0, .ref 69), (1, .int ys), (2, .int l), (3, .int yd), (4, .int yv)] [] yA _
    refine Pa.ic (x := (-1)) (pc' := 41) (by rfl) (by rfl) (by decide) ?_
    refine Pa.iret (by rfl) ?_
    exact l1 h1
  · have h2 : 0 ≤ ys.toInt := h2
    refine Pa.mp 2 (pc' := 7) (l' := [(0, .int ys), (1, .int 0), (2, .int 19)]) (st' := [.int 19, .int ys]) (by rfl) ?_
    refine Pa.if2 (a := ys.toInt) (b := 19) (t := 14) (by rfl) (by rfl) (rfl) (by decide) (fun h3 => ?_) (fun h4 => ?_)
    · have h3 : 19 < ys.toInt := h3
      refine Pa.ic (x := 0) (pc' := 15) (by rfl) (by rfl) (by decide) ?_
      refine Pa.iret (by rfl) ?_
      show Pa N 183 7 [(0, .ref 69), (1, .int ys), (2, .int l), (3, .int yd), (4, .int yv)] [.int 0] yA _
      refine Pa.if1k true (by rfl) (by rfl) (by decide) ?_
      show Pa N 183 40 [(0, .ref 69), (1, .int ys), (2, .int l), (3, .int yd), (4, .int yv)] [] yA _
      refine Pa.ic (x := (-1)) (pc' := 41) (by rfl) (by rfl) (by decide) ?_
      refine Pa.iret (by rfl) ?_
      exact l2 h2 h3
    · have h4 : ys.toInt ≤ 19 := h4
      refine Pa.ic (x := 1) (pc' := 11) (by rfl) (by rfl) (by decide) ?_
      refine Pa.mp 1 (pc' := 15) (l' := [(0, .int ys), (1, .int 0), (2, .int 19)]) (st' := [.int 1]) (by rfl) ?_
      refine Pa.iret (by rfl) ?_
      show Pa N 183 7 [(0, .ref 69), (1, .int ys), (2, .int l), (3, .int yd), (4, .int yv)] [.int 1] yA _
      refine Pa.if1k false (by rfl) (by rfl) (by decide) ?_
      show Pa N 183 10 [(0, .ref 69), (1, .int ys), (2, .int l), (3, .int yd), (4, .int yv)] [] yA _
      refine Pa.mp 1 (pc' := 11) (l' := [(0, .ref 69), (1, .int ys), (2, .int l), (3, .int yd), (4, .int yv)]) (st' := [.int l]) (by rfl) ?_
      refine Pa.ist (by rfl) (by rfl) (.inl rfl) (by rfl) (by rfl) ?_
      show Pa N 154 0 [(0, .int l)] [] yA _
      refine Pa.mp 1 (pc' := 1) (l' := [(0, .int l)]) (st' := [.int l]) (by rfl) ?_
      refine Pa.ic (x := 0) (pc' := 2) (by rfl) (by rfl) (by decide) ?_
      refine Pa.ic (x := 5) (pc' := 3) (by rfl) (by rfl) (by decide) ?_
      refine Pa.ist (by rfl) (by rfl) (.inl rfl) (by rfl) (by rfl) ?_
      show Pa N 152 0 [(0, .int l), (1, .int 0), (2, .int 5)] [] yA _
      refine Pa.mp 2 (pc' := 2) (l' := [(0, .int l), (1, .int 0), (2, .int 5)]) (st' := [.int 0, .int l]) (by rfl) ?_
      refine Pa.if2 (a := l.toInt) (b := 0) (t := 14) (by rfl) (by rfl) (rfl) (by decide) (fun h5 => ?_) (fun h6 => ?_)
      · have h5 : l.toInt < 0 := h5
        refine Pa.ic (x := 0) (pc' := 15) (by rfl) (by rfl) (by decide) ?_
        refine Pa.iret (by rfl) ?_
        show Pa N 154 6 [(0, .int l)] [.int 0] yA _
        refine Pa.iret (by rfl) ?_
        show Pa N 183 14 [(0, .ref 69), (1, .int ys), (2, .int l), (3, .int yd), (4, .int yv)] [.int 0] yA _
        refine Pa.if1k true (by rfl) (by rfl) (by decide) ?_
        show Pa N 183 40 [(0, .ref 69), (1, .int ys), (2, .int l), (3, .int yd), (4, .int yv)] [] yA _
        refine Pa.ic (x := (-1)) (pc' := 41) (by rfl) (by rfl) (by decide) ?_
        refine Pa.iret (by rfl) ?_
        exact l3 h2 h4 h5
      · have h6 : 0 ≤ l.toInt := h6
        refine Pa.mp 2 (pc' := 7) (l' := [(0, .int l), (1, .int 0), (2, .int 5)]) (st' := [.int 5, .int l]) (by rfl) ?_
        refine Pa.if2 (a := l.toInt) (b := 5) (t := 14) (by rfl) (by rfl) (rfl) (by decide) (fun h7 => ?_) (fun h8 => ?_)
        · have h7 : 5 < l.toInt := h7
          refine Pa.ic (x := 0) (pc' := 15) (by rfl) (by rfl) (by decide) ?_
          refine Pa.iret (by rfl) ?_
          show Pa N 154 6 [(0, .int l)] [.int 0] yA _
          refine Pa.iret (by rfl) ?_
          show Pa N 183 14 [(0, .ref 69), (1, .int ys), (2, .int l), (3, .int yd), (4, .int yv)] [.int 0] yA _
          refine Pa.if1k true (by rfl) (by rfl) (by decide) ?_
          show Pa N 183 40 [(0, .ref 69), (1, .int ys), (2, .int l), (3, .int yd), (4, .int yv)] [] yA _
          refine Pa.ic (x := (-1)) (pc' := 41) (by rfl) (by rfl) (by decide) ?_
          refine Pa.iret (by rfl) ?_
          exact l4 h2 h4 h6 h7
        · have h8 : l.toInt ≤ 5 := h8
          refine Pa.ic (x := 1) (pc' := 11) (by rfl) (by rfl) (by decide) ?_
          refine Pa.mp 1 (pc' := 15) (l' := [(0, .int l), (1, .int 0), (2, .int 5)]) (st' := [.int 1]) (by rfl) ?_
          refine Pa.iret (by rfl) ?_
          show Pa N 154 6 [(0, .int l)] [.int 1] yA _
          refine Pa.iret (by rfl) ?_
          show Pa N 183 14 [(0, .ref 69), (1, .int ys), (2, .int l), (3, .int yd), (4, .int yv)] [.int 1] yA _
          refine Pa.if1k false (by rfl) (by rfl) (by decide) ?_
          show Pa N 183 17 [(0, .ref 69), (1, .int ys), (2, .int l), (3, .int yd), (4, .int yv)] [] yA _
          refine Pa.mp 1 (pc' := 18) (l' := [(0, .ref 69), (1, .int ys), (2, .int l), (3, .int yd), (4, .int yv)]) (st' := [.int yd]) (by rfl) ?_
          refine Pa.ic (x := 0) (pc' := 19) (by rfl) (by rfl) (by decide) ?_
          refine Pa.mp 1 (pc' := 20) (l' := [(0, .ref 69), (1, .int ys), (2, .int l), (3, .int yd), (4, .int yv)]) (st' := [.ref 69, .int 0, .int yd]) (by rfl) ?_
          refine Pa.gfI (v := yA.1 69 0) (by rfl) (by rfl) (.inl rfl) (by rfl) (by rfl) ?_
          refine Pa.ist (by rfl) (by rfl) (.inl rfl) (by rfl) (by rfl) ?_
          show Pa N 152 0 [(0, .int yd), (1, .int 0), (2, .int (yA.1 69 0))] [] yA _
          refine Pa.mp 2 (pc' := 2) (l' := [(0, .int yd), (1, .int 0), (2, .int (yA.1 69 0))]) (st' := [.int 0, .int yd]) (by rfl) ?_
          refine Pa.if2 (a := yd.toInt) (b := 0) (t := 14) (by rfl) (by rfl) (rfl) (by decide) (fun h9 => ?_) (fun h10 => ?_)
          · have h9 : yd.toInt < 0 := h9
            refine Pa.ic (x := 0) (pc' := 15) (by rfl) (by rfl) (by decide) ?_
            refine Pa.iret (by rfl) ?_
            show Pa N 183 26 [(0, .ref 69), (1, .int ys), (2, .int l), (3, .int yd), (4, .int yv)] [.int 0] yA _
            refine Pa.if1k true (by rfl) (by rfl) (by decide) ?_
            show Pa N 183 40 [(0, .ref 69), (1, .int ys), (2, .int l), (3, .int yd), (4, .int yv)] [] yA _
            refine Pa.ic (x := (-1)) (pc' := 41) (by rfl) (by rfl) (by decide) ?_
            refine Pa.iret (by rfl) ?_
            exact l5 h2 h4 h6 h8 h9
          · have h10 : 0 ≤ yd.toInt := h10
            refine Pa.mp 2 (pc' := 7) (l' := [(0, .int yd), (1, .int 0), (2, .int (yA.1 69 0))]) (st' := [.int (yA.1 69 0), .int yd]) (by rfl) ?_
            refine Pa.if2 (a := yd.toInt) (b := (yA.1 69 0).toInt) (t := 14) (by rfl) (by rfl) (rfl) (rfl) (fun h11 => ?_) (fun h12 => ?_)
            · have h11 : (yA.1 69 0).toInt < yd.toInt := h11
              refine Pa.ic (x := 0) (pc' := 15) (by rfl) (by rfl) (by decide) ?_
              refine Pa.iret (by rfl) ?_
              show Pa N 183 26 [(0, .ref 69), (1, .int ys), (2, .int l), (3, .int yd), (4, .int yv)] [.int 0] yA _
              refine Pa.if1k true (by rfl) (by rfl) (by decide) ?_
              show Pa N 183 40 [(0, .ref 69), (1, .int ys), (2, .int l), (3, .int yd), (4, .int yv)] [] yA _
              refine Pa.ic (x := (-1)) (pc' := 41) (by rfl) (by rfl) (by decide) ?_
              refine Pa.iret (by rfl) ?_
              exact l6 h2 h4 h6 h8 h10 h11
            · have h12 : yd.toInt ≤ (yA.1 69 0).toInt := h12
              refine Pa.ic (x := 1) (pc' := 11) (by rfl) (by rfl) (by decide) ?_
              refine Pa.mp 1 (pc' := 15) (l' := [(0, .int yd), (1, .int 0), (2, .int (yA.1 69 0))]) (st' := [.int 1]) (by rfl) ?_
              refine Pa.iret (by rfl) ?_
              show Pa N 183 26 [(0, .ref 69), (1, .int ys), (2, .int l), (3, .int yd), (4, .int yv)] [.int 1] yA _
              refine Pa.if1k false (by rfl) (by rfl) (by decide) ?_
              show Pa N 183 29 [(0, .ref 69), (1, .int ys), (2, .int l), (3, .int yd), (4, .int yv)] [] yA _
              refine Pa.mp 1 (pc' := 31) (l' := [(0, .ref 69), (1, .int ys), (2, .int l), (3, .int yd), (4, .int yv)]) (st' := [.int yv]) (by rfl) ?_
              refine Pa.ic (x := 1) (pc' := 32) (by rfl) (by rfl) (by decide) ?_
              refine Pa.icl (x := 99999) (pc' := 34) (by rfl) (fun _ _ _ => by rfl) (by decide) ?_
              refine Pa.ist (by rfl) (by rfl) (.inl rfl) (by rfl) (by rfl) ?_
              show Pa N 152 0 [(0, .int yv), (1, .int 1), (2, .int 99999)] [] yA _
              refine Pa.mp 2 (pc' := 2) (l' := [(0, .int yv), (1, .int 1), (2, .int 99999)]) (st' := [.int 1, .int yv]) (by rfl) ?_
              refine Pa.if2 (a := yv.toInt) (b := 1) (t := 14) (by rfl) (by rfl) (rfl) (by decide) (fun h13 => ?_) (fun h14 => ?_)
              · have h13 : yv.toInt < 1 := h13
                refine Pa.ic (x := 0) (pc' := 15) (by rfl) (by rfl) (by decide) ?_
                refine Pa.iret (by rfl) ?_
                show Pa N 183 37 [(0, .ref 69), (1, .int ys), (2, .int l), (3, .int yd), (4, .int yv)] [.int 0] yA _
                refine Pa.if1k false (by rfl) (by rfl) (by decide) ?_
                show Pa N 183 40 [(0, .ref 69), (1, .int ys), (2, .int l), (3, .int yd), (4, .int yv)] [] yA _
                refine Pa.ic (x := (-1)) (pc' := 41) (by rfl) (by rfl) (by decide) ?_
                refine Pa.iret (by rfl) ?_
                exact l7 h2 h4 h6 h8 h10 h12 h13
              · have h14 : 1 ≤ yv.toInt := h14
                refine Pa.mp 2 (pc' := 7) (l' := [(0, .int yv), (1, .int 1), (2, .int 99999)]) (st' := [.int 99999, .int yv]) (by rfl) ?_
                refine Pa.if2 (a := yv.toInt) (b := 99999) (t := 14) (by rfl) (by rfl) (rfl) (by decide) (fun h15 => ?_) (fun yh16 => ?_)
                · have h15 : 99999 < yv.toInt := h15
                  refine Pa.ic (x := 0) (pc' := 15) (by rfl) (by rfl) (by decide) ?_
                  refine Pa.iret (by rfl) ?_
                  show Pa N 183 37 [(0, .ref 69), (1, .int ys), (2, .int l), (3, .int yd), (4, .int yv)] [.int 0] yA _
                  refine Pa.if1k false (by rfl) (by rfl) (by decide) ?_
                  show Pa N 183 40 [(0, .ref 69), (1, .int ys), (2, .int l), (3, .int yd), (4, .int yv)] [] yA _
                  refine Pa.ic (x := (-1)) (pc' := 41) (by rfl) (by rfl) (by decide) ?_
                  refine Pa.iret (by rfl) ?_
                  exact l8 h2 h4 h6 h8 h10 h12 h14 h15
                · have yh16 : yv.toInt ≤ 99999 := yh16
                  refine Pa.ic (x := 1) (pc' := 11) (by rfl) (by rfl) (by decide) ?_
                  refine Pa.mp 1 (pc' := 15) (l' := [(0, .int yv), (1, .int 1), (2, .int 99999)]) (st' := [.int 1]) (by rfl) ?_
                  refine Pa.iret (by rfl) ?_
                  show Pa N 183 37 [(0, .ref 69), (1, .int ys), (2, .int l), (3, .int yd), (4, .int yv)] [.int 1] yA _
                  refine Pa.if1k true (by rfl) (by rfl) (by decide) ?_
                  show Pa N 183 42 [(0, .ref 69), (1, .int ys), (2, .int l), (3, .int yd), (4, .int yv)] [] yA _
                  refine Pa.mp 1 (pc' := 43) (l' := [(0, .ref 69), (1, .int ys), (2, .int l), (3, .int yd), (4, .int yv)]) (st' := [.ref 69]) (by rfl) ?_
                  refine Pa.gfI (v := yA.1 69 37) (by rfl) (by rfl) (.inl rfl) (by rfl) (by rfl) ?_
                  refine Pa.ic (x := 120) (pc' := 48) (by rfl) (by rfl) (by decide) ?_
                  refine Pa.if2 (a := (yA.1 69 37).toInt) (b := 120) (t := 54) (by rfl) (by rfl) (rfl) (by decide) (fun h17 => ?_) (fun h18 => ?_)
                  · have h17 : (yA.1 69 37).toInt ≠ 120 := h17
                    refine Pa.mp 1 (pc' := 55) (l' := [(0, .ref 69), (1, .int ys), (2, .int l), (3, .int yd), (4, .int yv)]) (st' := [.ref 69]) (by rfl) ?_
                    refine Pa.gfR (by rfl) (by rfl) (.inl rfl) (by rfl) ?_
                    show Pa N 183 58 [(0, .ref 69), (1, .int ys), (2, .int l), (3, .int yd), (4, .int yv)] [.ref 94] yA _
                    refine Pa.mp 1 (pc' := 59) (l' := [(0, .ref 69), (1, .int ys), (2, .int l), (3, .int yd), (4, .int yv)]) (st' := [.ref 69, .ref 94]) (by rfl) ?_
                    refine Pa.gfI (v := yA.1 69 37) (by rfl) (by rfl) (.inl rfl) (by rfl) (by rfl) ?_
                    refine Pa.mp 1 (pc' := 63) (l' := [(0, .ref 69), (1, .int ys), (2, .int l), (3, .int yd), (4, .int yv)]) (st' := [.int ys, .int (yA.1 69 37), .ref 94]) (by rfl) ?_
                    refine Pa.asts (j' := ((yA.1 69 37).toInt.toNat)) (by rfl) (by rfl) (by rfl) (fun h19 h20 => ?_)
                    have h19 : 0 ≤ (yA.1 69 37).toInt := h19
                    have h20 : (yA.1 69 37).toInt < 120 := h20
                    show Pa N 183 64 [(0, .ref 69), (1, .int ys), (2, .int l), (3, .int yd), (4, .int yv)] [] (uI yA 94 ((yA.1 69 37).toInt.toNat) ys) _
                    refine Pa.mp 1 (pc' := 65) (l' := [(0, .ref 69), (1, .int ys), (2, .int l), (3, .int yd), (4, .int yv)]) (st' := [.ref 69]) (by rfl) ?_
                    refine Pa.gfR (by rfl) (by rfl) (.inl rfl) (by rfl) ?_
                    show Pa N 183 68 [(0, .ref 69), (1, .int ys), (2, .int l), (3, .int yd), (4, .int yv)] [.ref 95] (uI yA 94 ((yA.1 69 37).toInt.toNat) ys) _
                    refine Pa.mp 1 (pc' := 69) (l' := [(0, .ref 69), (1, .int ys), (2, .int l), (3, .int yd), (4, .int yv)]) (st' := [.ref 69, .ref 95]) (by rfl) ?_
                    refine Pa.gfI (v := yA.1 69 37) (by rfl) (by rfl) (.inl rfl) (by rfl) (by show (uI yA 94 ((yA.1 69 37).toInt.toNat) ys).1 69 37 = yA.1 69 37; rw [uI_c (by decide)]) ?_
                    refine Pa.mp 1 (pc' := 73) (l' := [(0, .ref 69), (1, .int ys), (2, .int l), (3, .int yd), (4, .int yv)]) (st' := [.int l, .int (yA.1 69 37), .ref 95]) (by rfl) ?_
                    refine Pa.asts (j' := ((yA.1 69 37).toInt.toNat)) (by rfl) (by rfl) (by rfl) (fun h21 h22 => ?_)
                    have h21 : 0 ≤ (yA.1 69 37).toInt := h21
                    have h22 : (yA.1 69 37).toInt < 120 := h22
                    show Pa N 183 74 [(0, .ref 69), (1, .int ys), (2, .int l), (3, .int yd), (4, .int yv)] [] (uI (uI yA 94 ((yA.1 69 37).toInt.toNat) ys) 95 ((yA.1 69 37).toInt.toNat) l) _
                    refine Pa.mp 1 (pc' := 75) (l' := [(0, .ref 69), (1, .int ys), (2, .int l), (3, .int yd), (4, .int yv)]) (st' := [.ref 69]) (by rfl) ?_
                    refine Pa.gfR (by rfl) (by rfl) (.inl rfl) (by rfl) ?_
                    show Pa N 183 78 [(0, .ref 69), (1, .int ys), (2, .int l), (3, .int yd), (4, .int yv)] [.ref 96] (uI (uI yA 94 ((yA.1 69 37).toInt.toNat) ys) 95 ((yA.1 69 37).toInt.toNat) l) _
                    refine Pa.mp 1 (pc' := 79) (l' := [(0, .ref 69), (1, .int ys), (2, .int l), (3, .int yd), (4, .int yv)]) (st' := [.ref 69, .ref 96]) (by rfl) ?_
                    refine Pa.gfI (v := yA.1 69 37) (by rfl) (by rfl) (.inl rfl) (by rfl) (by show (uI (uI yA 94 ((yA.1 69 37).toInt.toNat) ys) 95 ((yA.1 69 37).toInt.toNat) l).1 69 37 = yA.1 69 37; rw [uI_c (by decide), uI_c (by decide)]) ?_
                    refine Pa.mp 1 (pc' := 83) (l' := [(0, .ref 69), (1, .int ys), (2, .int l), (3, .int yd), (4, .int yv)]) (st' := [.int yd, .int (yA.1 69 37), .ref 96]) (by rfl) ?_
                    refine Pa.asts (j' := ((yA.1 69 37).toInt.toNat)) (by rfl) (by rfl) (by rfl) (fun h23 h24 => ?_)
                    have h23 : 0 ≤ (yA.1 69 37).toInt := h23
                    have h24 : (yA.1 69 37).toInt < 120 := h24
                    show Pa N 183 84 [(0, .ref 69), (1, .int ys), (2, .int l), (3, .int yd), (4, .int yv)] [] (uI (uI (uI yA 94 ((yA.1 69 37).toInt.toNat) ys) 95 ((yA.1 69 37).toInt.toNat) l) 96 ((yA.1 69 37).toInt.toNat) yd) _
                    refine Pa.mp 1 (pc' := 85) (l' := [(0, .ref 69), (1, .int ys), (2, .int l), (3, .int yd), (4, .int yv)]) (st' := [.ref 69]) (by rfl) ?_
                    refine Pa.gfR (by rfl) (by rfl) (.inl rfl) (by rfl) ?_
                    show Pa N 183 88 [(0, .ref 69), (1, .int ys), (2, .int l), (3, .int yd), (4, .int yv)] [.ref 97] (uI (uI (uI yA 94 ((yA.1 69 37).toInt.toNat) ys) 95 ((yA.1 69 37).toInt.toNat) l) 96 ((yA.1 69 37).toInt.toNat) yd) _
                    refine Pa.mp 1 (pc' := 89) (l' := [(0, .ref 69), (1, .int ys), (2, .int l), (3, .int yd), (4, .int yv)]) (st' := [.ref 69, .ref 97]) (by rfl) ?_
                    refine Pa.gfI (v := yA.1 69 37) (by rfl) (by rfl) (.inl rfl) (by rfl) (by show (uI (uI (uI yA 94 ((yA.1 69 37).toInt.toNat) ys) 95 ((yA.1 69 37).toInt.toNat) l) 96 ((yA.1 69 37).toInt.toNat) yd).1 69 37 = yA.1 69 37; rw [uI_c (by decide), uI_c (by decide), uI_c (by decide)]) ?_
                    refine Pa.mp 1 (pc' := 94) (l' := [(0, .ref 69), (1, .int ys), (2, .int l), (3, .int yd), (4, .int yv)]) (st' := [.int yv, .int (yA.1 69 37), .ref 97]) (by rfl) ?_
                    refine Pa.asts (j' := ((yA.1 69 37).toInt.toNat)) (by rfl) (by rfl) (by rfl) (fun h25 h26 => ?_)
                    have h25 : 0 ≤ (yA.1 69 37).toInt := h25
                    have h26 : (yA.1 69 37).toInt < 120 := h26
                    show Pa N 183 95 [(0, .ref 69), (1, .int ys), (2, .int l), (3, .int yd), (4, .int yv)] [] (uI (uI (uI (uI yA 94 ((yA.1 69 37).toInt.toNat) ys) 95 ((yA.1 69 37).toInt.toNat) l) 96 ((yA.1 69 37).toInt.toNat) yd) 97 ((yA.1 69 37).toInt.toNat) yv) _
                    refine Pa.mp 1 (pc' := 96) (l' := [(0, .ref 69), (1, .int ys), (2, .int l), (3, .int yd), (4, .int yv)]) (st' := [.ref 69]) (by rfl) ?_
                    refine Pa.gfR (by rfl) (by rfl) (.inl rfl) (by rfl) ?_
                    show Pa N 183 99 [(0, .ref 69), (1, .int ys), (2, .int l), (3, .int yd), (4, .int yv)] [.ref 98] (uI (uI (uI (uI yA 94 ((yA.1 69 37).toInt.toNat) ys) 95 ((yA.1 69 37).toInt.toNat) l) 96 ((yA.1 69 37).toInt.toNat) yd) 97 ((yA.1 69 37).toInt.toNat) yv) _
                    refine Pa.mp 1 (pc' := 100) (l' := [(0, .ref 69), (1, .int ys), (2, .int l), (3, .int yd), (4, .int yv)]) (st' := [.ref 69, .ref 98]) (by rfl) ?_
                    refine Pa.gfI (v := yA.1 69 37) (by rfl) (by rfl) (.inl rfl) (by rfl) (by show (uI (uI (uI (uI yA 94 ((yA.1 69 37).toInt.toNat) ys) 95 ((yA.1 69 37).toInt.toNat) l) 96 ((yA.1 69 37).toInt.toNat) yd) 97 ((yA.1 69 37).toInt.toNat) yv).1 69 37 = yA.1 69 37; rw [uI_c (by decide), uI_c (by decide), uI_c (by decide), uI_c (by decide)]) ?_
                    refine Pa.mp 1 (pc' := 104) (l' := [(0, .ref 69), (1, .int ys), (2, .int l), (3, .int yd), (4, .int yv)]) (st' := [.ref 69, .int (yA.1 69 37), .ref 98]) (by rfl) ?_
                    refine Pa.gfI (v := yA.1 69 0) (by rfl) (by rfl) (.inl rfl) (by rfl) (by show (uI (uI (uI (uI yA 94 ((yA.1 69 37).toInt.toNat) ys) 95 ((yA.1 69 37).toInt.toNat) l) 96 ((yA.1 69 37).toInt.toNat) yd) 97 ((yA.1 69 37).toInt.toNat) yv).1 69 0 = yA.1 69 0; rw [uI_c (by decide), uI_c (by decide), uI_c (by decide), uI_c (by decide)]) ?_
                    refine Pa.asts (j' := ((yA.1 69 37).toInt.toNat)) (by rfl) (by rfl) (by rfl) (fun h27 h28 => ?_)
                    have h27 : 0 ≤ (yA.1 69 37).toInt := h27
                    have h28 : (yA.1 69 37).toInt < 120 := h28
                    show Pa N 183 108 [(0, .ref 69), (1, .int ys), (2, .int l), (3, .int yd), (4, .int yv)] [] (uI (uI (uI (uI (uI yA 94 ((yA.1 69 37).toInt.toNat) ys) 95 ((yA.1 69 37).toInt.toNat) l) 96 ((yA.1 69 37).toInt.toNat) yd) 97 ((yA.1 69 37).toInt.toNat) yv) 98 ((yA.1 69 37).toInt.toNat) (yA.1 69 0)) _
                    refine Pa.mp 2 (pc' := 110) (l' := [(0, .ref 69), (1, .int ys), (2, .int l), (3, .int yd), (4, .int yv)]) (st' := [.ref 69, .ref 69]) (by rfl) ?_
                    refine Pa.gfI (v := yA.1 69 37) (by rfl) (by rfl) (.inl rfl) (by rfl) (by show (uI (uI (uI (uI (uI yA 94 ((yA.1 69 37).toInt.toNat) ys) 95 ((yA.1 69 37).toInt.toNat) l) 96 ((yA.1 69 37).toInt.toNat) yd) 97 ((yA.1 69 37).toInt.toNat) yv) 98 ((yA.1 69 37).toInt.toNat) (yA.1 69 0)).1 69 37 = yA.1 69 37; rw [uI_c (by decide), uI_c (by decide), uI_c (by decide), uI_c (by decide), uI_c (by decide)]) ?_
                    refine Pa.ic (x := 1) (pc' := 114) (by rfl) (by rfl) (by decide) ?_
                    refine Pa.mp 1 (pc' := 115) (l' := [(0, .ref 69), (1, .int ys), (2, .int l), (3, .int yd), (4, .int yv)]) (st' := [.int ((yA.1 69 37) + 1), .ref 69]) (by rfl) ?_
                    refine Pa.pfI (by rfl) (by rfl) (.inl rfl) (by rfl) ?_
                    show Pa N 183 118 [(0, .ref 69), (1, .int ys), (2, .int l), (3, .int yd), (4, .int yv)] [] (uI (uI (uI (uI (uI (uI yA 94 ((yA.1 69 37).toInt.toNat) ys) 95 ((yA.1 69 37).toInt.toNat) l) 96 ((yA.1 69 37).toInt.toNat) yd) 97 ((yA.1 69 37).toInt.toNat) yv) 98 ((yA.1 69 37).toInt.toNat) (yA.1 69 0)) 69 37 ((yA.1 69 37) + 1)) _
                    refine Pa.mp 1 (pc' := 119) (l' := [(0, .ref 69), (1, .int ys), (2, .int l), (3, .int yd), (4, .int yv)]) (st' := [.ref 69]) (by rfl) ?_
                    refine Pa.gfI (v := (yA.1 69 37) + 1) (by rfl) (by rfl) (.inl rfl) (by rfl) (by show (uI (uI (uI (uI (uI (uI yA 94 ((yA.1 69 37).toInt.toNat) ys) 95 ((yA.1 69 37).toInt.toNat) l) 96 ((yA.1 69 37).toInt.toNat) yd) 97 ((yA.1 69 37).toInt.toNat) yv) 98 ((yA.1 69 37).toInt.toNat) (yA.1 69 0)) 69 37 ((yA.1 69 37) + 1)).1 69 37 = (yA.1 69 37) + 1; rw [uI_h]) ?_
                    refine Pa.iret (by rfl) ?_
                    exact l9 h2 h4 h6 h8 h10 h12 h14 yh16 h17 h19 h20
                  · have h18 : (yA.1 69 37).toInt = 120 := h18
                    refine Pa.ic (x := (-2)) (pc' := 53) (by rfl) (by rfl) (by decide) ?_
                    refine Pa.iret (by rfl) ?_
                    exact l10 h2 h4 h6 h8 h10 h12 h14 yh16 h18
theorem bx_put0 {N : Nat} {yA : AW} {yQ : Option Value → AW → Prop} (yv : Int32)
    (l1 : Pa N 65 5 [(0, .ref 20), (1, .int yv), (2, .int (yA.1 20 10))] [] yA yQ) :
    Pa N 65 0 [(0, .ref 20), (1, .int yv)] [] yA yQ := by
  refine Pa.mp 1 (pc' := 1) (l' := [(0, .ref 20), (1, .int yv)]) (st' := [.ref 20]) (by rfl) ?_
  refine Pa.gfI (v := yA.1 20 10) (by rfl) (by rfl) (.inl rfl) (by rfl) (by rfl) ?_
  refine Pa.mp 1 (pc' := 5) (l' := [(2, .int (yA.1 20 10)), (0, .ref 20), (1, .int yv)]) (st' := []) (by rfl) ?_
  refine Pa.lv (l' := [(0, .ref 20), (1, .int yv), (2, .int (yA.1 20 10))]) (lvS_c rfl (lvS_c rfl (lvS_c rfl (lvS_nil)))) rfl ?_
  exact l1
theorem bx_put {N : Nat} {yA : AW} {yQ : Option Value → AW → Prop} (yv yt : Int32) (yG : Nat → Int32)
    (l1 : yt.toInt ≤ 0 → 0 ≤ yt.toInt → yt.toInt < 120 → yQ none (uI (uI (uF yA 29 yG) 29 yt.toInt.toNat yv) 20 10 ((yA.1 20 10) + 1)))
    (l2 : 0 < yt.toInt → 0 ≤ (yt - 1).toInt → (yt - 1).toInt < 120 → (yG ((yt - 1).toInt.toNat)).toInt ≤ yv.toInt → 0 ≤ yt.toInt → yt.toInt < 120 → yQ none (uI (uI (uF yA 29 yG) 29 yt.toInt.toNat yv) 20 10 ((yA.1 20 10) + 1)))
    (l3 : 0 < yt.toInt → 0 ≤ (yt - 1).toInt → (yt - 1).toInt < 120 → yv.toInt < (yG ((yt - 1).toInt.toNat)).toInt → 0 ≤ yt.toInt → yt.toInt < 120 → Pa N 65 5 [(0, .ref 20), (1, .int yv), (2, .int (yt + (-1)))] [] (uI (uF yA 29 yG) 29 yt.toInt.toNat (yG ((yt - 1).toInt.toNat))) yQ) :
    Pa (N + 1) 65 5 [(0, .ref 20), (1, .int yv), (2, .int yt)] [] (uF yA 29 yG) yQ := by
  refine Pa.mp1 0 (pc' := 6) (l' := [(0, .ref 20), (1, .int yv), (2, .int yt)]) (st' := [.int yt]) (by rfl) ?_
  refine Pa.if1 (a := yt.toInt) (t := 41) (by rfl) (by rfl) (rfl) (fun h1 => ?_) (fun h2 => ?_)
  · have h1 : yt.toInt ≤ 0 := h1
    refine Pa.mp 1 (pc' := 42) (l' := [(0, .ref 20), (1, .int yv), (2, .int yt)]) (st' := [.ref 20]) (by rfl) ?_
    refine Pa.gfR (by rfl) (by rfl) (.inl rfl) (by rfl) ?_
    show Pa N 65 45 [(0, .ref 20), (1, .int yv), (2, .int yt)] [.ref 29] (uF yA 29 yG) _
    refine Pa.mp 2 (pc' := 47) (l' := [(0, .ref 20), (1, .int yv), (2, .int yt)]) (st' := [.int yv, .int yt, .ref 29]) (by rfl) ?_
    refine Pa.asts (j' := yt.toInt.toNat) (by rfl) (by rfl) (by rfl) (fun h3 h4 => ?_)
    have h3 : 0 ≤ yt.toInt := h3
    have h4 : yt.toInt < 120 := h4
    show Pa N 65 48 [(0, .ref 20), (1, .int yv), (2, .int yt)] [] (uI (uF yA 29 yG) 29 yt.toInt.toNat yv) _
    refine Pa.mp 2 (pc' := 50) (l' := [(0, .ref 20), (1, .int yv), (2, .int yt)]) (st' := [.ref 20, .ref 20]) (by rfl) ?_
    refine Pa.gfI (v := yA.1 20 10) (by rfl) (by rfl) (.inl rfl) (by rfl) (by show (uI (uF yA 29 yG) 29 yt.toInt.toNat yv).1 20 10 = yA.1 20 10; rw [uI_c (by decide), uF_c (by decide)]) ?_
    refine Pa.ic (x := 1) (pc' := 54) (by rfl) (by rfl) (by decide) ?_
    refine Pa.mp 1 (pc' := 55) (l' := [(0, .ref 20), (1, .int yv), (2, .int yt)]) (st' := [.int ((yA.1 20 10) + 1), .ref 20]) (by rfl) ?_
    refine Pa.pfI (by rfl) (by rfl) (.inl rfl) (by rfl) ?_
    show Pa N 65 58 [(0, .ref 20), (1, .int yv), (2, .int yt)] [] (uI (uI (uF yA 29 yG) 29 yt.toInt.toNat yv) 20 10 ((yA.1 20 10) + 1)) _
    refine Pa.vret (by rfl) ?_
    exact l1 h1 h3 h4
  · have h2 : 0 < yt.toInt := h2
    refine Pa.mp 1 (pc' := 10) (l' := [(0, .ref 20), (1, .int yv), (2, .int yt)]) (st' := [.ref 20]) (by rfl) ?_
    refine Pa.gfR (by rfl) (by rfl) (.inl rfl) (by rfl) ?_
    show Pa N 65 13 [(0, .ref 20), (1, .int yv), (2, .int yt)] [.ref 29] (uF yA 29 yG) _
    refine Pa.mp 1 (pc' := 14) (l' := [(0, .ref 20), (1, .int yv), (2, .int yt)]) (st' := [.int yt, .ref 29]) (by rfl) ?_
    refine Pa.ic (x := 1) (pc' := 15) (by rfl) (by rfl) (by decide) ?_
    refine Pa.mp 1 (pc' := 16) (l' := [(0, .ref 20), (1, .int yv), (2, .int yt)]) (st' := [.int (yt - 1), .ref 29]) (by rfl) ?_
    refine Pa.alds (v := yG ((yt - 1).toInt.toNat)) (by rfl) (by rfl) (by show (uF yA 29 yG).1 29 ((yt - 1).toInt.toNat) = yG ((yt - 1).toInt.toNat); rw [uF_h]) (fun h5 h6 => ?_)
    have h5 : 0 ≤ (yt - 1).toInt := h5
    have h6 : (yt - 1).toInt < 120 := h6
    refine Pa.mp 1 (pc' := 18) (l' := [(0, .ref 20), (1, .int yv), (2, .int yt)]) (st' := [.int yv, .int (yG ((yt - 1).toInt.toNat))]) (by rfl) ?_
    refine Pa.if2 (a := (yG ((yt - 1).toInt.toNat)).toInt) (b := yv.toInt) (t := 41) (by rfl) (by rfl) (rfl) (rfl) (fun h7 => ?_) (fun h8 => ?_)
    · have h7 : (yG ((yt - 1).toInt.toNat)).toInt ≤ yv.toInt := h7
      refine Pa.mp 1 (pc' := 42) (l' := [(0, .ref 20), (1, .int yv), (2, .int yt)]) (st' := [.ref 20]) (by rfl) ?_
      refine Pa.gfR (by rfl) (by rfl) (.inl rfl) (by rfl) ?_
      show Pa N 65 45 [(0, .ref 20), (1, .int yv), (2, .int yt)] [.ref 29] (uF yA 29 yG) _
      refine Pa.mp 2 (pc' := 47) (l' := [(0, .ref 20), (1, .int yv), (2, .int yt)]) (st' := [.int yv, .int yt, .ref 29]) (by rfl) ?_
      refine Pa.asts (j' := yt.toInt.toNat) (by rfl) (by rfl) (by rfl) (fun h9 h10 => ?_)
      have h9 : 0 ≤ yt.toInt := h9
      have h10 : yt.toInt < 120 := h10
      show Pa N 65 48 [(0, .ref 20), (1, .int yv), (2, .int yt)] [] (uI (uF yA 29 yG) 29 yt.toInt.toNat yv) _
      refine Pa.mp 2 (pc' := 50) (l' := [(0, .ref 20), (1, .int yv), (2, .int yt)]) (st' := [.ref 20, .ref 20]) (by rfl) ?_
      refine Pa.gfI (v := yA.1 20 10) (by rfl) (by rfl) (.inl rfl) (by rfl) (by show (uI (uF yA 29 yG) 29 yt.toInt.toNat yv).1 20 10 = yA.1 20 10; rw [uI_c (by decide), uF_c (by decide)]) ?_
      refine Pa.ic (x := 1) (pc' := 54) (by rfl) (by rfl) (by decide) ?_
      refine Pa.mp 1 (pc' := 55) (l' := [(0, .ref 20), (1, .int yv), (2, .int yt)]) (st' := [.int ((yA.1 20 10) + 1), .ref 20]) (by rfl) ?_
      refine Pa.pfI (by rfl) (by rfl) (.inl rfl) (by rfl) ?_
      show Pa N 65 58 [(0, .ref 20), (1, .int yv), (2, .int yt)] [] (uI (uI (uF yA 29 yG) 29 yt.toInt.toNat yv) 20 10 ((yA.1 20 10) + 1)) _
      refine Pa.vret (by rfl) ?_
      exact l2 h2 h5 h6 h7 h9 h10
    · have h8 : yv.toInt < (yG ((yt - 1).toInt.toNat)).toInt := h8
      refine Pa.mp 1 (pc' := 22) (l' := [(0, .ref 20), (1, .int yv), (2, .int yt)]) (st' := [.ref 20]) (by rfl) ?_
      refine Pa.gfR (by rfl) (by rfl) (.inl rfl) (by rfl) ?_
      show Pa N 65 25 [(0, .ref 20), (1, .int yv), (2, .int yt)] [.ref 29] (uF yA 29 yG) _
      refine Pa.mp 2 (pc' := 27) (l' := [(0, .ref 20), (1, .int yv), (2, .int yt)]) (st' := [.ref 20, .int yt, .ref 29]) (by rfl) ?_
      refine Pa.gfR (by rfl) (by rfl) (.inl rfl) (by rfl) ?_
      show Pa N 65 30 [(0, .ref 20), (1, .int yv), (2, .int yt)] [.ref 29, .int yt, .ref 29] (uF yA 29 yG) _
      refine Pa.mp 1 (pc' := 31) (l' := [(0, .ref 20), (1, .int yv), (2, .int yt)]) (st' := [.int yt, .ref 29, .int yt, .ref 29]) (by rfl) ?_
      refine Pa.ic (x := 1) (pc' := 32) (by rfl) (by rfl) (by decide) ?_
      refine Pa.mp 1 (pc' := 33) (l' := [(0, .ref 20), (1, .int yv), (2, .int yt)]) (st' := [.int (yt - 1), .ref 29, .int yt, .ref 29]) (by rfl) ?_
      refine Pa.alds (v := yG ((yt - 1).toInt.toNat)) (by rfl) (by rfl) (by show (uF yA 29 yG).1 29 ((yt - 1).toInt.toNat) = yG ((yt - 1).toInt.toNat); rw [uF_h]) (fun h11 h12 => ?_)
      have h11 : 0 ≤ (yt - 1).toInt := h11
      have h12 : (yt - 1).toInt < 120 := h12
      refine Pa.asts (j' := yt.toInt.toNat) (by rfl) (by rfl) (by rfl) (fun h13 h14 => ?_)
      have h13 : 0 ≤ yt.toInt := h13
      have h14 : yt.toInt < 120 := h14
      show Pa N 65 35 [(0, .ref 20), (1, .int yv), (2, .int yt)] [] (uI (uF yA 29 yG) 29 yt.toInt.toNat (yG ((yt - 1).toInt.toNat))) _
      refine Pa.iinc (x := yt) (c := (-1)) (v := (yt + (-1))) (l' := [(2, .int (yt + (-1))), (0, .ref 20), (1, .int yv)]) (by rfl) (by rfl) (by decide) (by rfl) (by rfl) ?_
      refine Pa.mp 1 (pc' := 5) (l' := [(2, .int (yt + (-1))), (0, .ref 20), (1, .int yv)]) (st' := []) (by rfl) ?_
      refine Pa.lv (l' := [(0, .ref 20), (1, .int yv), (2, .int (yt + (-1)))]) (lvS_c rfl (lvS_c rfl (lvS_c rfl (lvS_nil)))) rfl ?_
      exact l3 h2 h5 h6 h8 h13 h14
def updF (yg : Nat → Int32) (yn : Nat) (yv : Int32) : Nat → Int32 := fun yj => if yj = yn then yv else yg yj
/-- one more like yput where it belongs -/
def insG : Nat → (Nat → Int32) → Int32 → (Nat → Int32)
  | 0, yg, yv => updF yg 0 yv
  | ya + 1, yg, yv => if yv.toInt < (yg ya).toInt then insG ya (updF yg (ya + 1) (yg ya)) yv else updF yg (ya + 1) yv
theorem insG_z {yg : Nat → Int32} {yv : Int32} : insG 0 yg yv = updF yg 0 yv := rfl
theorem insG_s {ya : Nat} {yg : Nat → Int32} {yv : Int32} : insG (ya + 1) yg yv = if yv.toInt < (yg ya).toInt then insG ya (updF yg (ya + 1) (yg ya)) yv else updF yg (ya + 1) yv := rfl
theorem updF_h {yg : Nat → Int32} {yn : Nat} {yv : Int32} : updF yg yn yv yn = yv := if_pos rfl
theorem updF_n {yg : Nat → Int32} {yn yj : Nat} {yv : Int32} (yh : yj ≠ yn) : updF yg yn yv yj = yg yj := if_neg yh
theorem insG_hi : ∀ {yn : Nat} {yg : Nat → Int32} {yv : Int32} {yj : Nat}, yn < yj → insG yn yg yv yj = yg yj
  | 0, yg, yv, yj, yh => by
    rw [insG_z]
    exact updF_n (by omega)
  | yn + 1, yg, yv, yj, yh => by
    rw [insG_s]
    by_cases yq : yv.toInt < (yg yn).toInt
    · rw [if_pos yq, insG_hi (yn := yn) (by omega)]
      exact updF_n (by omega)
    · rw [if_neg yq]
      exact updF_n (by omega)
theorem insG_eq : ∀ {yn : Nat} {yg yh : Nat → Int32} {yv : Int32}, (∀ yj, yj < yn → yg yj = yh yj) → ∀ yj, yj < yn + 1 → insG yn yg yv yj = insG yn yh yv yj
  | 0, yg, yh, yv, _, yj, hj => by
    have ye : yj = 0 := by omega
    subst ye
    rw [insG_z, insG_z, updF_h, updF_h]
  | yn + 1, yg, yh, yv, yH, yj, hj => by
    have ye := yH yn (by omega)
    rw [insG_s, insG_s, ye]
    by_cases yq : yv.toInt < (yh yn).toInt
    · rw [if_pos yq, if_pos yq]
      by_cases yq2 : yj < yn + 1
      · refine insG_eq (yn := yn) (fun yi yhi => ?_) yj yq2
        rw [updF_n (by omega), updF_n (by omega)]
        exact yH yi (by omega)
      · have ye2 : yj = yn + 1 := by omega
        subst ye2
        rw [insG_hi (yn := yn) (by omega), insG_hi (yn := yn) (by omega), updF_h, updF_h]
    · rw [if_neg yq, if_neg yq]
      by_cases yq2 : yj = yn + 1
      · subst yq2
        rw [updF_h, updF_h]
      · rw [updF_n yq2, updF_n yq2]
        exact yH yj (by omega)
/-- the yrow and its length after yn likes -/
def gatS (yP : Nat → Bool) (yq : Nat → Int32) (yg : Nat → Int32) : Nat → (Nat → Int32) × Int32
  | 0 => (yg, 0)
  | yn + 1 => if yP yn = true then (insG (gatS yP yq yg yn).2.toInt.toNat (gatS yP yq yg yn).1 (yq yn), (gatS yP yq yg yn).2 + 1) else gatS yP yq yg yn
theorem gatS_1 {yP : Nat → Bool} {yq yg : Nat → Int32} {yn : Nat} (yh : yP yn = true) : gatS yP yq yg (yn + 1) = (insG (gatS yP yq yg yn).2.toInt.toNat (gatS yP yq yg yn).1 (yq yn), (gatS yP yq yg yn).2 + 1) := if_pos yh
theorem gatS_0 {yP : Nat → Bool} {yq yg : Nat → Int32} {yn : Nat} (yh : ¬ yP yn = true) : gatS yP yq yg (yn + 1) = gatS yP yq yg yn := if_neg yh
theorem gatS_eq {yP yP' : Nat → Bool} {yq q' yg g' : Nat → Int32} : ∀ {yn : Nat}, yn ≤ 120 → (∀ yi, yi < yn → yP yi = yP' yi) → (∀ yi, yi < yn → yq yi = q' yi) → (gatS yP yq yg yn).2 = (gatS yP' q' g' yn).2 ∧ ∃ ym : Nat, ym ≤ yn ∧ (gatS yP yq yg yn).2 = Int32.ofNat ym ∧ ∀ yj, yj < ym → (gatS yP yq yg yn).1 yj = (gatS yP' q' g' yn).1 yj
  | 0, _, _, _ => ⟨rfl, 0, Nat.le_refl _, rfl, fun yj hj => absurd hj (Nat.not_lt_zero yj)⟩
  | yn + 1, hn, hP, hq => by
    obtain ⟨ye, ym, ym1, ym2, ym3⟩ := gatS_eq (yP := yP) (yP' := yP') (yq := yq) (q' := q') (yg := yg) (g' := g') (yn := yn) (by omega) (fun yi yhi => hP yi (by omega)) (fun yi yhi => hq yi (by omega))
    have ep := hP yn (by omega)
    by_cases yc : yP yn = true
    · have yc2 : yP' yn = true := by rw [← ep]; exact yc
      have ya1 := gatS_1 (yq := yq) (yg := yg) yc
      have a2 := gatS_1 (yq := q') (yg := g') yc2
      rw [ya1, a2]
      refine ⟨by show _ + 1 = _ + 1; rw [ye], ym + 1, by omega, ?_, ?_⟩
      · show (gatS yP yq yg yn).2 + 1 = Int32.ofNat (ym + 1)
        rw [ym2, on_succ]
      · intro yj hj
        show insG (gatS yP yq yg yn).2.toInt.toNat (gatS yP yq yg yn).1 (yq yn) yj = insG (gatS yP' q' g' yn).2.toInt.toNat (gatS yP' q' g' yn).1 (q' yn) yj
        rw [← ye, ym2, i32_nat (k := ym) (by omega), Int.toNat_natCast, hq yn (by omega)]
        exact insG_eq ym3 yj hj
    · have yc2 : ¬ yP' yn = true := by rw [← ep]; exact yc
      rw [gatS_0 yc, gatS_0 yc2]
      exact ⟨ye, ym, by omega, ym2, ym3⟩
theorem c_put (N : Nat) (yA : AW) (yv : Int32) : Pa N 65 0 [(0, .ref 20), (1, .int yv)] [] yA (fun yu A1 => yu = none ∧ A1 = uI (uF yA 29 (insG (yA.1 20 10).toInt.toNat (yA.1 29) yv)) 20 10 (yA.1 20 10 + 1)) := by
  have ykey : ∀ N (ya : Nat) yt yG, yt.toInt = (ya : Int) → Pa N 65 5 [(0, .ref 20), (1, .int yv), (2, .int yt)] [] (uF yA 29 yG) (fun yu A1 => yu = none ∧ A1 = uI (uF yA 29 (insG ya yG yv)) 20 10 (yA.1 20 10 + 1)) := by
    intro N
    induction N with
    | zero => intro ya yt yG _; exact Pa.zero
    | succ N yih =>
      intro ya yt yG yha
      refine bx_put yv yt yG ?_ ?_ ?_
      · intro h1 h2 h3
        have ye : ya = 0 := by omega
        subst ye
        rw [show yt.toInt.toNat = 0 by omega, uI_uG]
        exact ⟨rfl, rfl⟩
      · intro h1 h2 h3 h4 h5 h6
        obtain ⟨yb, rfl⟩ : ∃ yb, ya = yb + 1 := ⟨ya - 1, by omega⟩
        obtain ⟨yi1, yi2⟩ := i_pre yha (by omega)
        rw [yi1, Int.toNat_natCast] at h4
        have ye9 : insG (yb + 1) yG yv = updF yG (yb + 1) yv := if_neg (by omega)
        rw [show yt.toInt.toNat = yb + 1 by omega, uI_uG]
        exact ⟨rfl, congrArg (fun yf => uI (uF yA 29 yf) 20 10 (yA.1 20 10 + 1)) ye9.symm⟩
      · intro h1 h2 h3 h4 h5 h6
        obtain ⟨yb, rfl⟩ : ∃ yb, ya = yb + 1 := ⟨ya - 1, by omega⟩
        obtain ⟨yi1, yi2⟩ := i_pre yha (by omega)
        rw [yi1, Int.toNat_natCast] at h4 ⊢
        have ye9 : insG (yb + 1) yG yv = insG yb (updF yG (yb + 1) (yG yb)) yv := if_pos (by omega)
        have yh := yih yb (yt + (-1)) (updF yG (yb + 1) (yG yb)) yi2
        rw [← ye9] at yh
        rw [show yt.toInt.toNat = yb + 1 by omega, uI_uG]
        exact yh
  refine bx_put0 yv ?_
  by_cases yhb : 0 ≤ (yA.1 20 10).toInt
  · have yh := ykey N (yA.1 20 10).toInt.toNat (yA.1 20 10) (yA.1 29) (by omega)
    rw [uG_self] at yh
    exact yh
  · cases N with
    | zero => exact Pa.zero
    | succ N =>
      have yh := bx_put (N := N) (yA := yA) (yQ := fun yu A1 => yu = none ∧ A1 = uI (uF yA 29 (insG (yA.1 20 10).toInt.toNat (yA.1 29) yv)) 20 10 (yA.1 20 10 + 1)) yv (yA.1 20 10) (yA.1 29) (fun h1 h2 h3 => by omega) (fun h1 h2 h3 h4 h5 h6 => by omega) (fun h1 h2 h3 h4 h5 h6 => by omega)
      rw [uG_self] at yh
      exact yh
theorem bx_gat0 {N : Nat} {yA : AW} {yQ : Option Value → AW → Prop} (ys l yd yk : Int32)
    (l1 : Pa N 64 8 [(0, .ref 20), (1, .int ys), (2, .int l), (3, .int yd), (4, .int yk), (5, .int 0), (6, .int 0)] [] (uI yA 20 10 0) yQ) :
    Pa N 64 0 [(0, .ref 20), (1, .int ys), (2, .int l), (3, .int yd), (4, .int yk)] [] yA yQ := by
  refine Pa.mp 1 (pc' := 1) (l' := [(0, .ref 20), (1, .int ys), (2, .int l), (3, .int yd), (4, .int yk)]) (st' := [.ref 20]) (by rfl) ?_
  refine Pa.ic (x := 0) (pc' := 2) (by rfl) (by rfl) (by decide) ?_
  refine Pa.pfI (by rfl) (by rfl) (.inl rfl) (by rfl) ?_
  show Pa N 64 5 [(0, .ref 20), (1, .int ys), (2, .int l), (3, .int yd), (4, .int yk)] [] (uI yA 20 10 0) _
  refine Pa.ic (x := 0) (pc' := 6) (by rfl) (by rfl) (by decide) ?_
  refine Pa.mp 1 (pc' := 8) (l' := [(5, .int 0), (0, .ref 20), (1, .int ys), (2, .int l), (3, .int yd), (4, .int yk)]) (st' := []) (by rfl) ?_
  refine Pa.lv (l' := [(0, .ref 20), (1, .int ys), (2, .int l), (3, .int yd), (4, .int yk), (5, .int 0), (6, .int 0)]) (lvS_c rfl (lvS_c rfl (lvS_c rfl (lvS_c rfl (lvS_c rfl (lvS_c rfl (lvS_nil))))))) rfl ?_
  exact l1
theorem bx_gat {N : Nat} {yA : AW} {yQ : Option Value → AW → Prop} (ys l yd yk yi ye ym : Int32) (yG : Nat → Int32)
    (l1 : (yA.1 20 9).toInt ≤ yi.toInt → yQ (some (.int ym)) (uI (uF yA 29 yG) 20 10 ym))
    (l2 : yi.toInt < (yA.1 20 9).toInt → 0 ≤ yi.toInt → yi.toInt < 120 → 90 < (i_abs ((yA.1 26 yi.toInt.toNat) - yd)).toInt → Pa N 64 8 [(0, .ref 20), (1, .int ys), (2, .int l), (3, .int yd), (4, .int yk), (5, .int (yi + 1)), (6, .int 0)] [] (uI (uF yA 29 yG) 20 10 ym) yQ)
    (l3 : yi.toInt < (yA.1 20 9).toInt → 0 ≤ yi.toInt → yi.toInt < 120 → (i_abs ((yA.1 26 yi.toInt.toNat) - yd)).toInt ≤ 90 → (yA.1 24 yi.toInt.toNat).toInt ≠ ys.toInt → Pa N 64 8 [(0, .ref 20), (1, .int ys), (2, .int l), (3, .int yd), (4, .int yk), (5, .int (yi + 1)), (6, .int 1)] [] (uI (uF yA 29 yG) 20 10 ym) yQ)
    (l4 : yi.toInt < (yA.1 20 9).toInt → 0 ≤ yi.toInt → yi.toInt < 120 → (i_abs ((yA.1 26 yi.toInt.toNat) - yd)).toInt ≤ 90 → (yA.1 24 yi.toInt.toNat).toInt = ys.toInt → (yA.1 25 yi.toInt.toNat).toInt ≠ l.toInt → Pa N 64 8 [(0, .ref 20), (1, .int ys), (2, .int l), (3, .int yd), (4, .int yk), (5, .int (yi + 1)), (6, .int 1)] [] (uI (uF yA 29 yG) 20 10 ym) yQ)
    (l5 : yi.toInt < (yA.1 20 9).toInt → 0 ≤ yi.toInt → yi.toInt < 120 → (i_abs ((yA.1 26 yi.toInt.toNat) - yd)).toInt ≤ 90 → (yA.1 24 yi.toInt.toNat).toInt = ys.toInt → (yA.1 25 yi.toInt.toNat).toInt = l.toInt → yk.toInt < (yA.1 28 yi.toInt.toNat).toInt → Pa N 64 8 [(0, .ref 20), (1, .int ys), (2, .int l), (3, .int yd), (4, .int yk), (5, .int (yi + 1)), (6, .int 1)] [] (uI (uF yA 29 yG) 20 10 ym) yQ)
    (l6 : yi.toInt < (yA.1 20 9).toInt → 0 ≤ yi.toInt → yi.toInt < 120 → (i_abs ((yA.1 26 yi.toInt.toNat) - yd)).toInt ≤ 90 → (yA.1 24 yi.toInt.toNat).toInt = ys.toInt → (yA.1 25 yi.toInt.toNat).toInt = l.toInt → (yA.1 28 yi.toInt.toNat).toInt ≤ yk.toInt → Pa N 64 8 [(0, .ref 20), (1, .int ys), (2, .int l), (3, .int yd), (4, .int yk), (5, .int (yi + 1)), (6, .int 1)] [] (uI (uF (uI (uF yA 29 yG) 20 10 ym) 29 (insG ((uI (uF yA 29 yG) 20 10 ym).1 20 10).toInt.toNat ((uI (uF yA 29 yG) 20 10 ym).1 29) (yA.1 27 yi.toInt.toNat))) 20 10 ((uI (uF yA 29 yG) 20 10 ym).1 20 10 + 1)) yQ) :
    Pa (N + 1) 64 8 [(0, .ref 20), (1, .int ys), (2, .int l), (3, .int yd), (4, .int yk), (5, .int yi), (6, .int ye)] [] (uI (uF yA 29 yG) 20 10 ym) yQ := by
  refine Pa.mp1 1 (pc' := 11) (l' := [(0, .ref 20), (1, .int ys), (2, .int l), (3, .int yd), (4, .int yk), (5, .int yi), (6, .int ye)]) (st' := [.ref 20, .int yi]) (by rfl) ?_
  refine Pa.gfI (v := yA.1 20 9) (by rfl) (by rfl) (.inl rfl) (by rfl) (by show (uI (uF yA 29 yG) 20 10 ym).1 20 9 = yA.1 20 9; rw [uI_k (by decide), uF_c (by decide)]) ?_
  refine Pa.if2 (a := yi.toInt) (b := (yA.1 20 9).toInt) (t := 97) (by rfl) (by rfl) (rfl) (rfl) (fun h1 => ?_) (fun h2 => ?_)
  · have h1 : (yA.1 20 9).toInt ≤ yi.toInt := h1
    refine Pa.mp 1 (pc' := 98) (l' := [(0, .ref 20), (1, .int ys), (2, .int l), (3, .int yd), (4, .int yk), (5, .int yi), (6, .int ye)]) (st' := [.ref 20]) (by rfl) ?_
    refine Pa.gfI (v := ym) (by rfl) (by rfl) (.inl rfl) (by rfl) (by show (uI (uF yA 29 yG) 20 10 ym).1 20 10 = ym; rw [uI_h]) ?_
    refine Pa.iret (by rfl) ?_
    exact l1 h1
  · have h2 : yi.toInt < (yA.1 20 9).toInt := h2
    refine Pa.mp 1 (pc' := 18) (l' := [(0, .ref 20), (1, .int ys), (2, .int l), (3, .int yd), (4, .int yk), (5, .int yi), (6, .int ye)]) (st' := [.ref 20]) (by rfl) ?_
    refine Pa.gfR (by rfl) (by rfl) (.inl rfl) (by rfl) ?_
    show Pa N 64 21 [(0, .ref 20), (1, .int ys), (2, .int l), (3, .int yd), (4, .int yk), (5, .int yi), (6, .int ye)] [.ref 26] (uI (uF yA 29 yG) 20 10 ym) _
    refine Pa.mp 1 (pc' := 23) (l' := [(0, .ref 20), (1, .int ys), (2, .int l), (3, .int yd), (4, .int yk), (5, .int yi), (6, .int ye)]) (st' := [.int yi, .ref 26]) (by rfl) ?_
    refine Pa.alds (v := yA.1 26 yi.toInt.toNat) (by rfl) (by rfl) (by show (uI (uF yA 29 yG) 20 10 ym).1 26 yi.toInt.toNat = yA.1 26 yi.toInt.toNat; rw [uI_c (by decide), uF_c (by decide)]) (fun h3 h4 => ?_)
    have h3 : 0 ≤ yi.toInt := h3
    have h4 : yi.toInt < 120 := h4
    refine Pa.mp 2 (pc' := 26) (l' := [(0, .ref 20), (1, .int ys), (2, .int l), (3, .int yd), (4, .int yk), (5, .int yi), (6, .int ye)]) (st' := [.int ((yA.1 26 yi.toInt.toNat) - yd)]) (by rfl) ?_
    refine Pa.mth (by rfl) (by rfl) (by rfl) mm_abs ?_
    refine Pa.ic (x := 90) (pc' := 31) (by rfl) (by rfl) (by decide) ?_
    refine Pa.if2 (a := (i_abs ((yA.1 26 yi.toInt.toNat) - yd)).toInt) (b := 90) (t := 38) (by rfl) (by rfl) (rfl) (by decide) (fun h5 => ?_) (fun h6 => ?_)
    · have h5 : 90 < (i_abs ((yA.1 26 yi.toInt.toNat) - yd)).toInt := h5
      refine Pa.ic (x := 0) (pc' := 39) (by rfl) (by rfl) (by decide) ?_
      refine Pa.mp 2 (pc' := 43) (l' := [(6, .int 0), (0, .ref 20), (1, .int ys), (2, .int l), (3, .int yd), (4, .int yk), (5, .int yi)]) (st' := [.int 0]) (by rfl) ?_
      refine Pa.if1k true (by rfl) (by rfl) (by decide) ?_
      show Pa N 64 91 [(6, .int 0), (0, .ref 20), (1, .int ys), (2, .int l), (3, .int yd), (4, .int yk), (5, .int yi)] [] (uI (uF yA 29 yG) 20 10 ym) _
      refine Pa.iinc (x := yi) (c := 1) (v := (yi + 1)) (l' := [(5, .int (yi + 1)), (6, .int 0), (0, .ref 20), (1, .int ys), (2, .int l), (3, .int yd), (4, .int yk)]) (by rfl) (by rfl) (by decide) (by rfl) (by rfl) ?_
      refine Pa.mp 1 (pc' := 8) (l' := [(5, .int (yi + 1)), (6, .int 0), (0, .ref 20), (1, .int ys), (2, .int l), (3, .int yd), (4, .int yk)]) (st' := []) (by rfl) ?_
      refine Pa.lv (l' := [(0, .ref 20), (1, .int ys), (2, .int l), (3, .int yd), (4, .int yk), (5, .int (yi + 1)), (6, .int 0)]) (lvS_c rfl (lvS_c rfl (lvS_c rfl (lvS_c rfl (lvS_c rfl (lvS_c rfl (lvS_c rfl (lvS_nil)))))))) rfl ?_
      exact l2 h2 h3 h4 h5
    · have h6 : (i_abs ((yA.1 26 yi.toInt.toNat) - yd)).toInt ≤ 90 := h6
      refine Pa.ic (x := 1) (pc' := 35) (by rfl) (by rfl) (by decide) ?_
      refine Pa.mp 3 (pc' := 43) (l' := [(6, .int 1), (0, .ref 20), (1, .int ys), (2, .int l), (3, .int yd), (4, .int yk), (5, .int yi)]) (st' := [.int 1]) (by rfl) ?_
      refine Pa.if1k false (by rfl) (by rfl) (by decide) ?_
      show Pa N 64 46 [(6, .int 1), (0, .ref 20), (1, .int ys), (2, .int l), (3, .int yd), (4, .int yk), (5, .int yi)] [] (uI (uF yA 29 yG) 20 10 ym) _
      refine Pa.mp 1 (pc' := 47) (l' := [(6, .int 1), (0, .ref 20), (1, .int ys), (2, .int l), (3, .int yd), (4, .int yk), (5, .int yi)]) (st' := [.ref 20]) (by rfl) ?_
      refine Pa.gfR (by rfl) (by rfl) (.inl rfl) (by rfl) ?_
      show Pa N 64 50 [(6, .int 1), (0, .ref 20), (1, .int ys), (2, .int l), (3, .int yd), (4, .int yk), (5, .int yi)] [.ref 24] (uI (uF yA 29 yG) 20 10 ym) _
      refine Pa.mp 1 (pc' := 52) (l' := [(6, .int 1), (0, .ref 20), (1, .int ys), (2, .int l), (3, .int yd), (4, .int yk), (5, .int yi)]) (st' := [.int yi, .ref 24]) (by rfl) ?_
      refine Pa.alds (v := yA.1 24 yi.toInt.toNat) (by rfl) (by rfl) (by show (uI (uF yA 29 yG) 20 10 ym).1 24 yi.toInt.toNat = yA.1 24 yi.toInt.toNat; rw [uI_c (by decide), uF_c (by decide)]) (fun h7 h8 => ?_)
      have h7 : 0 ≤ yi.toInt := h7
      have h8 : yi.toInt < 120 := h8
      refine Pa.mp 1 (pc' := 54) (l' := [(6, .int 1), (0, .ref 20), (1, .int ys), (2, .int l), (3, .int yd), (4, .int yk), (5, .int yi)]) (st' := [.int ys, .int (yA.1 24 yi.toInt.toNat)]) (by rfl) ?_
      refine Pa.if2 (a := (yA.1 24 yi.toInt.toNat).toInt) (b := ys.toInt) (t := 91) (by rfl) (by rfl) (rfl) (rfl) (fun h9 => ?_) (fun h10 => ?_)
      · have h9 : (yA.1 24 yi.toInt.toNat).toInt ≠ ys.toInt := h9
        refine Pa.iinc (x := yi) (c := 1) (v := (yi + 1)) (l' := [(5, .int (yi + 1)), (6, .int 1), (0, .ref 20), (1, .int ys), (2, .int l), (3, .int yd), (4, .int yk)]) (by rfl) (by rfl) (by decide) (by rfl) (by rfl) ?_
        refine Pa.mp 1 (pc' := 8) (l' := [(5, .int (yi + 1)), (6, .int 1), (0, .ref 20), (1, .int ys), (2, .int l), (3, .int yd), (4, .int yk)]) (st' := []) (by rfl) ?_
        refine Pa.lv (l' := [(0, .ref 20), (1, .int ys), (2, .int l), (3, .int yd), (4, .int yk), (5, .int (yi + 1)), (6, .int 1)]) (lvS_c rfl (lvS_c rfl (lvS_c rfl (lvS_c rfl (lvS_c rfl (lvS_c rfl (lvS_c rfl (lvS_nil)))))))) rfl ?_
        exact l3 h2 h3 h4 h6 h9
      · have h10 : (yA.1 24 yi.toInt.toNat).toInt = ys.toInt := h10
        refine Pa.mp 1 (pc' := 58) (l' := [(6, .int 1), (0, .ref 20), (1, .int ys), (2, .int l), (3, .int yd), (4, .int yk), (5, .int yi)]) (st' := [.ref 20]) (by rfl) ?_
        refine Pa.gfR (by rfl) (by rfl) (.inl rfl) (by rfl) ?_
        show Pa N 64 61 [(6, .int 1), (0, .ref 20), (1, .int ys), (2, .int l), (3, .int yd), (4, .int yk), (5, .int yi)] [.ref 25] (uI (uF yA 29 yG) 20 10 ym) _
        refine Pa.mp 1 (pc' := 63) (l' := [(6, .int 1), (0, .ref 20), (1, .int ys), (2, .int l), (3, .int yd), (4, .int yk), (5, .int yi)]) (st' := [.int yi, .ref 25]) (by rfl) ?_
        refine Pa.alds (v := yA.1 25 yi.toInt.toNat) (by rfl) (by rfl) (by show (uI (uF yA 29 yG) 20 10 ym).1 25 yi.toInt.toNat = yA.1 25 yi.toInt.toNat; rw [uI_c (by decide), uF_c (by decide)]) (fun h11 h12 => ?_)
        have h11 : 0 ≤ yi.toInt := h11
        have h12 : yi.toInt < 120 := h12
        refine Pa.mp 1 (pc' := 65) (l' := [(6, .int 1), (0, .ref 20), (1, .int ys), (2, .int l), (3, .int yd), (4, .int yk), (5, .int yi)]) (st' := [.int l, .int (yA.1 25 yi.toInt.toNat)]) (by rfl) ?_
        refine Pa.if2 (a := (yA.1 25 yi.toInt.toNat).toInt) (b := l.toInt) (t := 91) (by rfl) (by rfl) (rfl) (rfl) (fun h13 => ?_) (fun h14 => ?_)
        · have h13 : (yA.1 25 yi.toInt.toNat).toInt ≠ l.toInt := h13
          refine Pa.iinc (x := yi) (c := 1) (v := (yi + 1)) (l' := [(5, .int (yi + 1)), (6, .int 1), (0, .ref 20), (1, .int ys), (2, .int l), (3, .int yd), (4, .int yk)]) (by rfl) (by rfl) (by decide) (by rfl) (by rfl) ?_
          refine Pa.mp 1 (pc' := 8) (l' := [(5, .int (yi + 1)), (6, .int 1), (0, .ref 20), (1, .int ys), (2, .int l), (3, .int yd), (4, .int yk)]) (st' := []) (by rfl) ?_
          refine Pa.lv (l' := [(0, .ref 20), (1, .int ys), (2, .int l), (3, .int yd), (4, .int yk), (5, .int (yi + 1)), (6, .int 1)]) (lvS_c rfl (lvS_c rfl (lvS_c rfl (lvS_c rfl (lvS_c rfl (lvS_c rfl (lvS_c rfl (lvS_nil)))))))) rfl ?_
          exact l4 h2 h3 h4 h6 h10 h13
        · have h14 : (yA.1 25 yi.toInt.toNat).toInt = l.toInt := h14
          refine Pa.mp 1 (pc' := 69) (l' := [(6, .int 1), (0, .ref 20), (1, .int ys), (2, .int l), (3, .int yd), (4, .int yk), (5, .int yi)]) (st' := [.ref 20]) (by rfl) ?_
          refine Pa.gfR (by rfl) (by rfl) (.inl rfl) (by rfl) ?_
          show Pa N 64 72 [(6, .int 1), (0, .ref 20), (1, .int ys), (2, .int l), (3, .int yd), (4, .int yk), (5, .int yi)] [.ref 28] (uI (uF yA 29 yG) 20 10 ym) _
          refine Pa.mp 1 (pc' := 74) (l' := [(6, .int 1), (0, .ref 20), (1, .int ys), (2, .int l), (3, .int yd), (4, .int yk), (5, .int yi)]) (st' := [.int yi, .ref 28]) (by rfl) ?_
          refine Pa.alds (v := yA.1 28 yi.toInt.toNat) (by rfl) (by rfl) (by show (uI (uF yA 29 yG) 20 10 ym).1 28 yi.toInt.toNat = yA.1 28 yi.toInt.toNat; rw [uI_c (by decide), uF_c (by decide)]) (fun h15 yh16 => ?_)
          have h15 : 0 ≤ yi.toInt := h15
          have yh16 : yi.toInt < 120 := yh16
          refine Pa.mp 1 (pc' := 77) (l' := [(6, .int 1), (0, .ref 20), (1, .int ys), (2, .int l), (3, .int yd), (4, .int yk), (5, .int yi)]) (st' := [.int yk, .int (yA.1 28 yi.toInt.toNat)]) (by rfl) ?_
          refine Pa.if2 (a := (yA.1 28 yi.toInt.toNat).toInt) (b := yk.toInt) (t := 91) (by rfl) (by rfl) (rfl) (rfl) (fun h17 => ?_) (fun h18 => ?_)
          · have h17 : yk.toInt < (yA.1 28 yi.toInt.toNat).toInt := h17
            refine Pa.iinc (x := yi) (c := 1) (v := (yi + 1)) (l' := [(5, .int (yi + 1)), (6, .int 1), (0, .ref 20), (1, .int ys), (2, .int l), (3, .int yd), (4, .int yk)]) (by rfl) (by rfl) (by decide) (by rfl) (by rfl) ?_
            refine Pa.mp 1 (pc' := 8) (l' := [(5, .int (yi + 1)), (6, .int 1), (0, .ref 20), (1, .int ys), (2, .int l), (3, .int yd), (4, .int yk)]) (st' := []) (by rfl) ?_
            refine Pa.lv (l' := [(0, .ref 20), (1, .int ys), (2, .int l), (3, .int yd), (4, .int yk), (5, .int (yi + 1)), (6, .int 1)]) (lvS_c rfl (lvS_c rfl (lvS_c rfl (lvS_c rfl (lvS_c rfl (lvS_c rfl (lvS_c rfl (lvS_nil)))))))) rfl ?_
            exact l5 h2 h3 h4 h6 h10 h14 h17
          · have h18 : (yA.1 28 yi.toInt.toNat).toInt ≤ yk.toInt := h18
            refine Pa.mp 2 (pc' := 82) (l' := [(6, .int 1), (0, .ref 20), (1, .int ys), (2, .int l), (3, .int yd), (4, .int yk), (5, .int yi)]) (st' := [.ref 20, .ref 20]) (by rfl) ?_
            refine Pa.gfR (by rfl) (by rfl) (.inl rfl) (by rfl) ?_
            show Pa N 64 85 [(6, .int 1), (0, .ref 20), (1, .int ys), (2, .int l), (3, .int yd), (4, .int yk), (5, .int yi)] [.ref 27, .ref 20] (uI (uF yA 29 yG) 20 10 ym) _
            refine Pa.mp 1 (pc' := 87) (l' := [(6, .int 1), (0, .ref 20), (1, .int ys), (2, .int l), (3, .int yd), (4, .int yk), (5, .int yi)]) (st' := [.int yi, .ref 27, .ref 20]) (by rfl) ?_
            refine Pa.alds (v := yA.1 27 yi.toInt.toNat) (by rfl) (by rfl) (by show (uI (uF yA 29 yG) 20 10 ym).1 27 yi.toInt.toNat = yA.1 27 yi.toInt.toNat; rw [uI_c (by decide), uF_c (by decide)]) (fun h19 h20 => ?_)
            have h19 : 0 ≤ yi.toInt := h19
            have h20 : yi.toInt < 120 := h20
            refine Pa.inv (by rfl) (by rfl) (.inl rfl) (by rfl) ?_
            refine Pa.mono (c_put N (uI (uF yA 29 yG) 20 10 ym) (yA.1 27 yi.toInt.toNat)) (fun yu A1 hu => ?_)
            obtain ⟨rfl, hu⟩ := hu
            rw [hu]
            show Pa N 64 91 [(6, .int 1), (0, .ref 20), (1, .int ys), (2, .int l), (3, .int yd), (4, .int yk), (5, .int yi)] [] (uI (uF (uI (uF yA 29 yG) 20 10 ym) 29 (insG ((uI (uF yA 29 yG) 20 10 ym).1 20 10).toInt.toNat ((uI (uF yA 29 yG) 20 10 ym).1 29) (yA.1 27 yi.toInt.toNat))) 20 10 ((uI (uF yA 29 yG) 20 10 ym).1 20 10 + 1)) _
            refine Pa.iinc (x := yi) (c := 1) (v := (yi + 1)) (l' := [(5, .int (yi + 1)), (6, .int 1), (0, .ref 20), (1, .int ys), (2, .int l), (3, .int yd), (4, .int yk)]) (by rfl) (by rfl) (by decide) (by rfl) (by rfl) ?_
            refine Pa.mp 1 (pc' := 8) (l' := [(5, .int (yi + 1)), (6, .int 1), (0, .ref 20), (1, .int ys), (2, .int l), (3, .int yd), (4, .int yk)]) (st' := []) (by rfl) ?_
            refine Pa.lv (l' := [(0, .ref 20), (1, .int ys), (2, .int l), (3, .int yd), (4, .int yk), (5, .int (yi + 1)), (6, .int 1)]) (lvS_c rfl (lvS_c rfl (lvS_c rfl (lvS_c rfl (lvS_c rfl (lvS_c rfl (lvS_c rfl (lvS_nil)))))))) rfl ?_
            exact l6 h2 h3 h4 h6 h10 h14 h18
def pX (yA : AW) (ys l yd yk : Int32) (yi : Nat) : Bool := decide ((i_abs (yA.1 26 yi - yd)).toInt ≤ 90 ∧ (yA.1 24 yi).toInt = ys.toInt ∧ (yA.1 25 yi).toInt = l.toInt ∧ (yA.1 28 yi).toInt ≤ yk.toInt)
theorem pX_iff {yA : AW} {ys l yd yk : Int32} {yi : Nat} : pX yA ys l yd yk yi = true ↔ ((i_abs (yA.1 26 yi - yd)).toInt ≤ 90 ∧ (yA.1 24 yi).toInt = ys.toInt ∧ (yA.1 25 yi).toInt = l.toInt ∧ (yA.1 28 yi).toInt ≤ yk.toInt) := decide_eq_true_iff
def gatX (yA : AW) (ys l yd yk : Int32) : (Nat → Int32) × Int32 := gatS (pX yA ys l yd yk) (yA.1 27) (yA.1 29) (yA.1 20 9).toInt.toNat
theorem w20_1 {yA : AW} {yG : Nat → Int32} {ym : Int32} : (uI (uF yA 29 yG) 20 10 ym).1 29 = yG := funext fun yj => by rw [uI_c (by decide), uF_h]
theorem w20_2 {yA : AW} {yG : Nat → Int32} {ym : Int32} : (uI (uF yA 29 yG) 20 10 ym).1 20 10 = ym := by rw [uI_h]
theorem w20_3 {yA : AW} {yG yH : Nat → Int32} {ym yx : Int32} : uI (uF (uI (uF yA 29 yG) 20 10 ym) 29 yH) 20 10 yx = uI (uF yA 29 yH) 20 10 yx := by
  refine Prod.ext ?_ rfl
  funext yc yj
  show (if yc = 20 ∧ yj = 10 then yx else (if yc = 29 then yH yj else (if yc = 20 ∧ yj = 10 then ym else (if yc = 29 then yG yj else yA.1 yc yj)))) = (if yc = 20 ∧ yj = 10 then yx else (if yc = 29 then yH yj else yA.1 yc yj))
  by_cases ye : yc = 20 ∧ yj = 10
  · simp only [if_pos ye]
  · by_cases ye2 : yc = 29
    · simp only [if_neg ye, if_pos ye2]
    · simp only [if_neg ye, if_neg ye2]
theorem c_gat (N : Nat) (yA : AW) (ys l yd yk : Int32) (hR : (yA.1 20 9).toInt ≤ 120) : Pa N 64 0 [(0, .ref 20), (1, .int ys), (2, .int l), (3, .int yd), (4, .int yk)] [] yA (fun yu A1 => yu = some (.int (gatX yA ys l yd yk).2) ∧ A1 = uI (uF yA 29 (gatX yA ys l yd yk).1) 20 10 (gatX yA ys l yd yk).2) := by
  have ykey : ∀ N yn ye, yn ≤ (yA.1 20 9).toInt.toNat → Pa N 64 8 [(0, .ref 20), (1, .int ys), (2, .int l), (3, .int yd), (4, .int yk), (5, .int (Int32.ofNat yn)), (6, .int ye)] [] (uI (uF yA 29 (gatS (pX yA ys l yd yk) (yA.1 27) (yA.1 29) yn).1) 20 10 (gatS (pX yA ys l yd yk) (yA.1 27) (yA.1 29) yn).2) (fun yu A1 => yu = some (.int (gatX yA ys l yd yk).2) ∧ A1 = uI (uF yA 29 (gatX yA ys l yd yk).1) 20 10 (gatX yA ys l yd yk).2) := by
    intro N
    induction N with
    | zero => intro yn ye _; exact Pa.zero
    | succ N yih =>
      intro yn ye hn
      have ye1 := on_nat hn
      refine bx_gat ys l yd yk _ ye _ _ ?_ ?_ ?_ ?_ ?_ ?_ <;> rw [ye1] <;> (try rw [Int.toNat_natCast])
      · intro h1
        rw [show yn = (yA.1 20 9).toInt.toNat by omega]
        exact ⟨rfl, rfl⟩
      · intros
        have yh := yih (yn + 1) 0 (by omega)
        rw [gatS_0 (fun yq => by have := pX_iff.mp yq; omega), on_succ] at yh
        exact yh
      · intros
        have yh := yih (yn + 1) 1 (by omega)
        rw [gatS_0 (fun yq => by have := pX_iff.mp yq; omega), on_succ] at yh
        exact yh
      · intros
        have yh := yih (yn + 1) 1 (by omega)
        rw [gatS_0 (fun yq => by have := pX_iff.mp yq; omega), on_succ] at yh
        exact yh
      · intros
        have yh := yih (yn + 1) 1 (by omega)
        rw [gatS_0 (fun yq => by have := pX_iff.mp yq; omega), on_succ] at yh
        exact yh
      · intro h1 h2 h3 h4 h5 h6 h7
        rw [w20_1, w20_2, w20_3]
        have yh := yih (yn + 1) 1 (by omega)
        rw [gatS_1 (pX_iff.mpr ⟨h4, h5, h6, h7⟩), on_succ] at yh
        exact yh
  refine bx_gat0 ys l yd yk ?_
  have yh := ykey N 0 0 (Nat.zero_le _)
  have ye0 : uF yA 29 (gatS (pX yA ys l yd yk) (yA.1 27) (yA.1 29) 0).1 = yA := uG_self
  rw [ye0] at yh
  exact yh
theorem bm_fnd0 {N : Nat} {yA : AW} {yQ : Option Value → AW → Prop} (yc yk : Int32)
    (l1 : Pa N 184 5 [(0, .ref 69), (1, .int yc), (2, .int yk), (3, .int 0), (4, .int 0), (5, .int 0), (6, .int 0)] [] yA yQ) :
    Pa N 184 0 [(0, .ref 69), (1, .int yc), (2, .int yk)] [] yA yQ := by
  refine Pa.ic (x := 0) (pc' := 1) (by rfl) (by rfl) (by decide) ?_
  refine Pa.mp 1 (pc' := 2) (l' := [(3, .int 0), (0, .ref 69), (1, .int yc), (2, .int yk)]) (st' := []) (by rfl) ?_
  refine Pa.ic (x := 0) (pc' := 3) (by rfl) (by rfl) (by decide) ?_
  refine Pa.mp 1 (pc' := 5) (l' := [(4, .int 0), (3, .int 0), (0, .ref 69), (1, .int yc), (2, .int yk)]) (st' := []) (by rfl) ?_
  refine Pa.lv (l' := [(0, .ref 69), (1, .int yc), (2, .int yk), (3, .int 0), (4, .int 0), (5, .int 0), (6, .int 0)]) (lvS_c rfl (lvS_c rfl (lvS_c rfl (lvS_c rfl (lvS_c rfl (lvS_nil)))))) rfl ?_
  exact l1
theorem bm_fnd {N : Nat} {yA : AW} {yQ : Option Value → AW → Prop} (yc yk yn yi ye yt : Int32) (yG : Nat → Int32)
    (l1 : (yA.1 69 37).toInt ≤ yi.toInt → yQ (some (.int yn)) (uF yA 116 yG))
    (l2 : yi.toInt < (yA.1 69 37).toInt → 0 ≤ yi.toInt → yi.toInt < 120 → 0 ≤ ((7 * yc) + 3).toInt → ((7 * yc) + 3).toInt < 1050 → 0 ≤ ((7 * yc) + 6).toInt → ((7 * yc) + 6).toInt < 1050 → (yA.1 94 yi.toInt.toNat).toInt ≠ (yA.1 90 (((7 * yc) + 6).toInt.toNat)).toInt → Pa N 184 5 [(0, .ref 69), (1, .int yc), (2, .int yk), (3, .int yn), (4, .int (yi + 1)), (5, .int ((yA.1 96 yi.toInt.toNat) - (yA.1 90 (((7 * yc) + 3).toInt.toNat)))), (6, .int yt)] [] (uF yA 116 yG) yQ)
    (l3 : yi.toInt < (yA.1 69 37).toInt → 0 ≤ yi.toInt → yi.toInt < 120 → 0 ≤ ((7 * yc) + 3).toInt → ((7 * yc) + 3).toInt < 1050 → 0 ≤ ((7 * yc) + 6).toInt → ((7 * yc) + 6).toInt < 1050 → (yA.1 94 yi.toInt.toNat).toInt = (yA.1 90 (((7 * yc) + 6).toInt.toNat)).toInt → 0 ≤ ((7 * yc) + 2).toInt → ((7 * yc) + 2).toInt < 1050 → (yA.1 95 yi.toInt.toNat).toInt ≠ (yA.1 90 (((7 * yc) + 2).toInt.toNat)).toInt → Pa N 184 5 [(0, .ref 69), (1, .int yc), (2, .int yk), (3, .int yn), (4, .int (yi + 1)), (5, .int ((yA.1 96 yi.toInt.toNat) - (yA.1 90 (((7 * yc) + 3).toInt.toNat)))), (6, .int yt)] [] (uF yA 116 yG) yQ)
    (l4 : yi.toInt < (yA.1 69 37).toInt → 0 ≤ yi.toInt → yi.toInt < 120 → 0 ≤ ((7 * yc) + 3).toInt → ((7 * yc) + 3).toInt < 1050 → 0 ≤ ((7 * yc) + 6).toInt → ((7 * yc) + 6).toInt < 1050 → (yA.1 94 yi.toInt.toNat).toInt = (yA.1 90 (((7 * yc) + 6).toInt.toNat)).toInt → 0 ≤ ((7 * yc) + 2).toInt → ((7 * yc) + 2).toInt < 1050 → (yA.1 95 yi.toInt.toNat).toInt = (yA.1 90 (((7 * yc) + 2).toInt.toNat)).toInt → ((yA.1 96 yi.toInt.toNat) - (yA.1 90 (((7 * yc) + 3).toInt.toNat))).toInt < (-90) → Pa N 184 5 [(0, .ref 69), (1, .int yc), (2, .int yk), (3, .int yn), (4, .int (yi + 1)), (5, .int ((yA.1 96 yi.toInt.toNat) - (yA.1 90 (((7 * yc) + 3).toInt.toNat)))), (6, .int yt)] [] (uF yA 116 yG) yQ)
    (l5 : yi.toInt < (yA.1 69 37).toInt → 0 ≤ yi.toInt → yi.toInt < 120 → 0 ≤ ((7 * yc) + 3).toInt → ((7 * yc) + 3).toInt < 1050 → 0 ≤ ((7 * yc) + 6).toInt → ((7 * yc) + 6).toInt < 1050 → (yA.1 94 yi.toInt.toNat).toInt = (yA.1 90 (((7 * yc) + 6).toInt.toNat)).toInt → 0 ≤ ((7 * yc) + 2).toInt → ((7 * yc) + 2).toInt < 1050 → (yA.1 95 yi.toInt.toNat).toInt = (yA.1 90 (((7 * yc) + 2).toInt.toNat)).toInt → (-90) ≤ ((yA.1 96 yi.toInt.toNat) - (yA.1 90 (((7 * yc) + 3).toInt.toNat))).toInt → 90 < ((yA.1 96 yi.toInt.toNat) - (yA.1 90 (((7 * yc) + 3).toInt.toNat))).toInt → Pa N 184 5 [(0, .ref 69), (1, .int yc), (2, .int yk), (3, .int yn), (4, .int (yi + 1)), (5, .int ((yA.1 96 yi.toInt.toNat) - (yA.1 90 (((7 * yc) + 3).toInt.toNat)))), (6, .int yt)] [] (uF yA 116 yG) yQ)
    (l6 : yi.toInt < (yA.1 69 37).toInt → 0 ≤ yi.toInt → yi.toInt < 120 → 0 ≤ ((7 * yc) + 3).toInt → ((7 * yc) + 3).toInt < 1050 → 0 ≤ ((7 * yc) + 6).toInt → ((7 * yc) + 6).toInt < 1050 → (yA.1 94 yi.toInt.toNat).toInt = (yA.1 90 (((7 * yc) + 6).toInt.toNat)).toInt → 0 ≤ ((7 * yc) + 2).toInt → ((7 * yc) + 2).toInt < 1050 → (yA.1 95 yi.toInt.toNat).toInt = (yA.1 90 (((7 * yc) + 2).toInt.toNat)).toInt → (-90) ≤ ((yA.1 96 yi.toInt.toNat) - (yA.1 90 (((7 * yc) + 3).toInt.toNat))).toInt → ((yA.1 96 yi.toInt.toNat) - (yA.1 90 (((7 * yc) + 3).toInt.toNat))).toInt ≤ 90 → yk.toInt < (yA.1 98 yi.toInt.toNat).toInt → Pa N 184 5 [(0, .ref 69), (1, .int yc), (2, .int yk), (3, .int yn), (4, .int (yi + 1)), (5, .int ((yA.1 96 yi.toInt.toNat) - (yA.1 90 (((7 * yc) + 3).toInt.toNat)))), (6, .int yt)] [] (uF yA 116 yG) yQ)
    (l7 : yi.toInt < (yA.1 69 37).toInt → 0 ≤ yi.toInt → yi.toInt < 120 → 0 ≤ ((7 * yc) + 3).toInt → ((7 * yc) + 3).toInt < 1050 → 0 ≤ ((7 * yc) + 6).toInt → ((7 * yc) + 6).toInt < 1050 → (yA.1 94 yi.toInt.toNat).toInt = (yA.1 90 (((7 * yc) + 6).toInt.toNat)).toInt → 0 ≤ ((7 * yc) + 2).toInt → ((7 * yc) + 2).toInt < 1050 → (yA.1 95 yi.toInt.toNat).toInt = (yA.1 90 (((7 * yc) + 2).toInt.toNat)).toInt → (-90) ≤ ((yA.1 96 yi.toInt.toNat) - (yA.1 90 (((7 * yc) + 3).toInt.toNat))).toInt → ((yA.1 96 yi.toInt.toNat) - (yA.1 90 (((7 * yc) + 3).toInt.toNat))).toInt ≤ 90 → (yA.1 98 yi.toInt.toNat).toInt ≤ yk.toInt → Pa N 184 89 [(0, .ref 69), (1, .int yc), (2, .int yk), (3, .int yn), (4, .int yi), (5, .int ((yA.1 96 yi.toInt.toNat) - (yA.1 90 (((7 * yc) + 3).toInt.toNat)))), (6, .int yn)] [] (uF yA 116 yG) yQ) :
    Pa (N + 1) 184 5 [(0, .ref 69), (1, .int yc), (2, .int yk), (3, .int yn), (4, .int yi), (5, .int ye), (6, .int yt)] [] (uF yA 116 yG) yQ := by
  refine Pa.mp1 1 (pc' := 8) (l' := [(0, .ref 69), (1, .int yc), (2, .int yk), (3, .int yn), (4, .int yi), (5, .int ye), (6, .int yt)]) (st' := [.ref 69, .int yi]) (by rfl) ?_
  refine Pa.gfI (v := yA.1 69 37) (by rfl) (by rfl) (.inl rfl) (by rfl) (by show (uF yA 116 yG).1 69 37 = yA.1 69 37; rw [uF_c (by decide)]) ?_
  refine Pa.if2 (a := yi.toInt) (b := (yA.1 69 37).toInt) (t := 158) (by rfl) (by rfl) (rfl) (rfl) (fun h1 => ?_) (fun h2 => ?_)
  · have h1 : (yA.1 69 37).toInt ≤ yi.toInt := h1
    refine Pa.mp 1 (pc' := 159) (l' := [(0, .ref 69), (1, .int yc), (2, .int yk), (3, .int yn), (4, .int yi), (5, .int ye), (6, .int yt)]) (st' := [.int yn]) (by rfl) ?_
    refine Pa.iret (by rfl) ?_
    exact l1 h1
  · have h2 : yi.toInt < (yA.1 69 37).toInt := h2
    refine Pa.mp 1 (pc' := 15) (l' := [(0, .ref 69), (1, .int yc), (2, .int yk), (3, .int yn), (4, .int yi), (5, .int ye), (6, .int yt)]) (st' := [.ref 69]) (by rfl) ?_
    refine Pa.gfR (by rfl) (by rfl) (.inl rfl) (by rfl) ?_
    show Pa N 184 18 [(0, .ref 69), (1, .int yc), (2, .int yk), (3, .int yn), (4, .int yi), (5, .int ye), (6, .int yt)] [.ref 96] (uF yA 116 yG) _
    refine Pa.mp 1 (pc' := 20) (l' := [(0, .ref 69), (1, .int yc), (2, .int yk), (3, .int yn), (4, .int yi), (5, .int ye), (6, .int yt)]) (st' := [.int yi, .ref 96]) (by rfl) ?_
    refine Pa.alds (v := yA.1 96 yi.toInt.toNat) (by rfl) (by rfl) (by show (uF yA 116 yG).1 96 yi.toInt.toNat = yA.1 96 yi.toInt.toNat; rw [uF_c (by decide)]) (fun h3 h4 => ?_)
    have h3 : 0 ≤ yi.toInt := h3
    have h4 : yi.toInt < 120 := h4
    refine Pa.mp 2 (pc' := 23) (l' := [(0, .ref 69), (1, .int yc), (2, .int yk), (3, .int yn), (4, .int yi), (5, .int ye), (6, .int yt)]) (st' := [.int yc, .ref 69, .int (yA.1 96 yi.toInt.toNat)]) (by rfl) ?_
    refine Pa.ic (x := 3) (pc' := 24) (by rfl) (by rfl) (by decide) ?_
    refine Pa.inv (by rfl) (by rfl) (.inl rfl) (by rfl) ?_
    show Pa N 181 0 [(0, .ref 69), (1, .int yc), (2, .int 3)] [] (uF yA 116 yG) _
    refine Pa.mp 1 (pc' := 1) (l' := [(0, .ref 69), (1, .int yc), (2, .int 3)]) (st' := [.ref 69]) (by rfl) ?_
    refine Pa.gfR (by rfl) (by rfl) (.inl rfl) (by rfl) ?_
    show Pa N 181 4 [(0, .ref 69), (1, .int yc), (2, .int 3)] [.ref 90] (uF yA 116 yG) _
    refine Pa.ic (x := 7) (pc' := 6) (by rfl) (by rfl) (by decide) ?_
    refine Pa.mp 4 (pc' := 10) (l' := [(0, .ref 69), (1, .int yc), (2, .int 3)]) (st' := [.int ((7 * yc) + 3), .ref 90]) (by rfl) ?_
    refine Pa.alds (v := yA.1 90 (((7 * yc) + 3).toInt.toNat)) (by rfl) (by rfl) (by show (uF yA 116 yG).1 90 (((7 * yc) + 3).toInt.toNat) = yA.1 90 (((7 * yc) + 3).toInt.toNat); rw [uF_c (by decide)]) (fun h5 h6 => ?_)
    have h5 : 0 ≤ ((7 * yc) + 3).toInt := h5
    have h6 : ((7 * yc) + 3).toInt < 1050 := h6
    refine Pa.iret (by rfl) ?_
    show Pa N 184 27 [(0, .ref 69), (1, .int yc), (2, .int yk), (3, .int yn), (4, .int yi), (5, .int ye), (6, .int yt)] [.int (yA.1 90 (((7 * yc) + 3).toInt.toNat)), .int (yA.1 96 yi.toInt.toNat)] (uF yA 116 yG) _
    refine Pa.mp 3 (pc' := 31) (l' := [(5, .int ((yA.1 96 yi.toInt.toNat) - (yA.1 90 (((7 * yc) + 3).toInt.toNat)))), (0, .ref 69), (1, .int yc), (2, .int yk), (3, .int yn), (4, .int yi), (6, .int yt)]) (st' := [.ref 69]) (by rfl) ?_
    refine Pa.gfR (by rfl) (by rfl) (.inl rfl) (by rfl) ?_
    show Pa N 184 34 [(5, .int ((yA.1 96 yi.toInt.toNat) - (yA.1 90 (((7 * yc) + 3).toInt.toNat)))), (0, .ref 69), (1, .int yc), (2, .int yk), (3, .int yn), (4, .int yi), (6, .int yt)] [.ref 94] (uF yA 116 yG) _
    refine Pa.mp 1 (pc' := 36) (l' := [(5, .int ((yA.1 96 yi.toInt.toNat) - (yA.1 90 (((7 * yc) + 3).toInt.toNat)))), (0, .ref 69), (1, .int yc), (2, .int yk), (3, .int yn), (4, .int yi), (6, .int yt)]) (st' := [.int yi, .ref 94]) (by rfl) ?_
    refine Pa.alds (v := yA.1 94 yi.toInt.toNat) (by rfl) (by rfl) (by show (uF yA 116 yG).1 94 yi.toInt.toNat = yA.1 94 yi.toInt.toNat; rw [uF_c (by decide)]) (fun h7 h8 => ?_)
    have h7 : 0 ≤ yi.toInt := h7
    have h8 : yi.toInt < 120 := h8
    refine Pa.mp 2 (pc' := 39) (l' := [(5, .int ((yA.1 96 yi.toInt.toNat) - (yA.1 90 (((7 * yc) + 3).toInt.toNat)))), (0, .ref 69), (1, .int yc), (2, .int yk), (3, .int yn), (4, .int yi), (6, .int yt)]) (st' := [.int yc, .ref 69, .int (yA.1 94 yi.toInt.toNat)]) (by rfl) ?_
    refine Pa.ic (x := 6) (pc' := 41) (by rfl) (by rfl) (by decide) ?_
    refine Pa.inv (by rfl) (by rfl) (.inl rfl) (by rfl) ?_
    show Pa N 181 0 [(0, .ref 69), (1, .int yc), (2, .int 6)] [] (uF yA 116 yG) _
    refine Pa.mp 1 (pc' := 1) (l' := [(0, .ref 69), (1, .int yc), (2, .int 6)]) (st' := [.ref 69]) (by rfl) ?_
    refine Pa.gfR (by rfl) (by rfl) (.inl rfl) (by rfl) ?_
    show Pa N 181 4 [(0, .ref 69), (1, .int yc), (2, .int 6)] [.ref 90] (uF yA 116 yG) _
    refine Pa.ic (x := 7) (pc' := 6) (by rfl) (by rfl) (by decide) ?_
    refine Pa.mp 4 (pc' := 10) (l' := [(0, .ref 69), (1, .int yc), (2, .int 6)]) (st' := [.int ((7 * yc) + 6), .ref 90]) (by rfl) ?_
    refine Pa.alds (v := yA.1 90 (((7 * yc) + 6).toInt.toNat)) (by rfl) (by rfl) (by show (uF yA 116 yG).1 90 (((7 * yc) + 6).toInt.toNat) = yA.1 90 (((7 * yc) + 6).toInt.toNat); rw [uF_c (by decide)]) (fun h9 h10 => ?_)
    have h9 : 0 ≤ ((7 * yc) + 6).toInt := h9
    have h10 : ((7 * yc) + 6).toInt < 1050 := h10
    refine Pa.iret (by rfl) ?_
    show Pa N 184 44 [(5, .int ((yA.1 96 yi.toInt.toNat) - (yA.1 90 (((7 * yc) + 3).toInt.toNat)))), (0, .ref 69), (1, .int yc), (2, .int yk), (3, .int yn), (4, .int yi), (6, .int yt)] [.int (yA.1 90 (((7 * yc) + 6).toInt.toNat)), .int (yA.1 94 yi.toInt.toNat)] (uF yA 116 yG) _
    refine Pa.if2 (a := (yA.1 94 yi.toInt.toNat).toInt) (b := (yA.1 90 (((7 * yc) + 6).toInt.toNat)).toInt) (t := 152) (by rfl) (by rfl) (rfl) (rfl) (fun h11 => ?_) (fun h12 => ?_)
    · have h11 : (yA.1 94 yi.toInt.toNat).toInt ≠ (yA.1 90 (((7 * yc) + 6).toInt.toNat)).toInt := h11
      refine Pa.iinc (x := yi) (c := 1) (v := (yi + 1)) (l' := [(4, .int (yi + 1)), (5, .int ((yA.1 96 yi.toInt.toNat) - (yA.1 90 (((7 * yc) + 3).toInt.toNat)))), (0, .ref 69), (1, .int yc), (2, .int yk), (3, .int yn), (6, .int yt)]) (by rfl) (by rfl) (by decide) (by rfl) (by rfl) ?_
      refine Pa.mp 1 (pc' := 5) (l' := [(4, .int (yi + 1)), (5, .int ((yA.1 96 yi.toInt.toNat) - (yA.1 90 (((7 * yc) + 3).toInt.toNat)))), (0, .ref 69), (1, .int yc), (2, .int yk), (3, .int yn), (6, .int yt)]) (st' := []) (by rfl) ?_
      refine Pa.lv (l' := [(0, .ref 69), (1, .int yc), (2, .int yk), (3, .int yn), (4, .int (yi + 1)), (5, .int ((yA.1 96 yi.toInt.toNat) - (yA.1 90 (((7 * yc) + 3).toInt.toNat)))), (6, .int yt)]) (lvS_c rfl (lvS_c rfl (lvS_c rfl (lvS_c rfl (lvS_c rfl (lvS_c rfl (lvS_c rfl (lvS_nil)))))))) rfl ?_
      exact l2 h2 h3 h4 h5 h6 h9 h10 h11
    · have h12 : (yA.1 94 yi.toInt.toNat).toInt = (yA.1 90 (((7 * yc) + 6).toInt.toNat)).toInt := h12
      refine Pa.mp 1 (pc' := 48) (l' := [(5, .int ((yA.1 96 yi.toInt.toNat) - (yA.1 90 (((7 * yc) + 3).toInt.toNat)))), (0, .ref 69), (1, .int yc), (2, .int yk), (3, .int yn), (4, .int yi), (6, .int yt)]) (st' := [.ref 69]) (by rfl) ?_
      refine Pa.gfR (by rfl) (by rfl) (.inl rfl) (by rfl) ?_
      show Pa N 184 51 [(5, .int ((yA.1 96 yi.toInt.toNat) - (yA.1 90 (((7 * yc) + 3).toInt.toNat)))), (0, .ref 69), (1, .int yc), (2, .int yk), (3, .int yn), (4, .int yi), (6, .int yt)] [.ref 95] (uF yA 116 yG) _
      refine Pa.mp 1 (pc' := 53) (l' := [(5, .int ((yA.1 96 yi.toInt.toNat) - (yA.1 90 (((7 * yc) + 3).toInt.toNat)))), (0, .ref 69), (1, .int yc), (2, .int yk), (3, .int yn), (4, .int yi), (6, .int yt)]) (st' := [.int yi, .ref 95]) (by rfl) ?_
      refine Pa.alds (v := yA.1 95 yi.toInt.toNat) (by rfl) (by rfl) (by show (uF yA 116 yG).1 95 yi.toInt.toNat = yA.1 95 yi.toInt.toNat; rw [uF_c (by decide)]) (fun h13 h14 => ?_)
      have h13 : 0 ≤ yi.toInt := h13
      have h14 : yi.toInt < 120 := h14
      refine Pa.mp 2 (pc' := 56) (l' := [(5, .int ((yA.1 96 yi.toInt.toNat) - (yA.1 90 (((7 * yc) + 3).toInt.toNat)))), (0, .ref 69), (1, .int yc), (2, .int yk), (3, .int yn), (4, .int yi), (6, .int yt)]) (st' := [.int yc, .ref 69, .int (yA.1 95 yi.toInt.toNat)]) (by rfl) ?_
      refine Pa.ic (x := 2) (pc' := 57) (by rfl) (by rfl) (by decide) ?_
      refine Pa.inv (by rfl) (by rfl) (.inl rfl) (by rfl) ?_
      show Pa N 181 0 [(0, .ref 69), (1, .int yc), (2, .int 2)] [] (uF yA 116 yG) _
      refine Pa.mp 1 (pc' := 1) (l' := [(0, .ref 69), (1, .int yc), (2, .int 2)]) (st' := [.ref 69]) (by rfl) ?_
      refine Pa.gfR (by rfl) (by rfl) (.inl rfl) (by rfl) ?_
      show Pa N 181 4 [(0, .ref 69), (1, .int yc), (2, .int 2)] [.ref 90] (uF yA 116 yG) _
      refine Pa.ic (x := 7) (pc' := 6) (by rfl) (by rfl) (by decide) ?_
      refine Pa.mp 4 (pc' := 10) (l' := [(0, .ref 69), (1, .int yc), (2, .int 2)]) (st' := [.int ((7 * yc) + 2), .ref 90]) (by rfl) ?_
      refine Pa.alds (v := yA.1 90 (((7 * yc) + 2).toInt.toNat)) (by rfl) (by rfl) (by show (uF yA 116 yG).1 90 (((7 * yc) + 2).toInt.toNat) = yA.1 90 (((7 * yc) + 2).toInt.toNat); rw [uF_c (by decide)]) (fun h15 yh16 => ?_)
      have h15 : 0 ≤ ((7 * yc) + 2).toInt := h15
      have yh16 : ((7 * yc) + 2).toInt < 1050 := yh16
      refine Pa.iret (by rfl) ?_
      show Pa N 184 60 [(5, .int ((yA.1 96 yi.toInt.toNat) - (yA.1 90 (((7 * yc) + 3).toInt.toNat)))), (0, .ref 69), (1, .int yc), (2, .int yk), (3, .int yn), (4, .int yi), (6, .int yt)] [.int (yA.1 90 (((7 * yc) + 2).toInt.toNat)), .int (yA.1 95 yi.toInt.toNat)] (uF yA 116 yG) _
      refine Pa.if2 (a := (yA.1 95 yi.toInt.toNat).toInt) (b := (yA.1 90 (((7 * yc) + 2).toInt.toNat)).toInt) (t := 152) (by rfl) (by rfl) (rfl) (rfl) (fun h17 => ?_) (fun h18 => ?_)
      · have h17 : (yA.1 95 yi.toInt.toNat).toInt ≠ (yA.1 90 (((7 * yc) + 2).toInt.toNat)).toInt := h17
        refine Pa.iinc (x := yi) (c := 1) (v := (yi + 1)) (l' := [(4, .int (yi + 1)), (5, .int ((yA.1 96 yi.toInt.toNat) - (yA.1 90 (((7 * yc) + 3).toInt.toNat)))), (0, .ref 69), (1, .int yc), (2, .int yk), (3, .int yn), (6, .int yt)]) (by rfl) (by rfl) (by decide) (by rfl) (by rfl) ?_
        refine Pa.mp 1 (pc' := 5) (l' := [(4, .int (yi + 1)), (5, .int ((yA.1 96 yi.toInt.toNat) - (yA.1 90 (((7 * yc) + 3).toInt.toNat)))), (0, .ref 69), (1, .int yc), (2, .int yk), (3, .int yn), (6, .int yt)]) (st' := []) (by rfl) ?_
        refine Pa.lv (l' := [(0, .ref 69), (1, .int yc), (2, .int yk), (3, .int yn), (4, .int (yi + 1)), (5, .int ((yA.1 96 yi.toInt.toNat) - (yA.1 90 (((7 * yc) + 3).toInt.toNat)))), (6, .int yt)]) (lvS_c rfl (lvS_c rfl (lvS_c rfl (lvS_c rfl (lvS_c rfl (lvS_c rfl (lvS_c rfl (lvS_nil)))))))) rfl ?_
        exact l3 h2 h3 h4 h5 h6 h9 h10 h12 h15 yh16 h17
      · have h18 : (yA.1 95 yi.toInt.toNat).toInt = (yA.1 90 (((7 * yc) + 2).toInt.toNat)).toInt := h18
        refine Pa.mp 1 (pc' := 65) (l' := [(5, .int ((yA.1 96 yi.toInt.toNat) - (yA.1 90 (((7 * yc) + 3).toInt.toNat)))), (0, .ref 69), (1, .int yc), (2, .int yk), (3, .int yn), (4, .int yi), (6, .int yt)]) (st' := [.int ((yA.1 96 yi.toInt.toNat) - (yA.1 90 (((7 * yc) + 3).toInt.toNat)))]) (by rfl) ?_
        refine Pa.ic (x := (-90)) (pc' := 67) (by rfl) (by rfl) (by decide) ?_
        refine Pa.ic (x := 90) (pc' := 69) (by rfl) (by rfl) (by decide) ?_
        refine Pa.ist (by rfl) (by rfl) (.inl rfl) (by rfl) (by rfl) ?_
        show Pa N 152 0 [(0, .int ((yA.1 96 yi.toInt.toNat) - (yA.1 90 (((7 * yc) + 3).toInt.toNat)))), (1, .int (-90)), (2, .int 90)] [] (uF yA 116 yG) _
        refine Pa.mp 2 (pc' := 2) (l' := [(0, .int ((yA.1 96 yi.toInt.toNat) - (yA.1 90 (((7 * yc) + 3).toInt.toNat)))), (1, .int (-90)), (2, .int 90)]) (st' := [.int (-90), .int ((yA.1 96 yi.toInt.toNat) - (yA.1 90 (((7 * yc) + 3).toInt.toNat)))]) (by rfl) ?_
        refine Pa.if2 (a := ((yA.1 96 yi.toInt.toNat) - (yA.1 90 (((7 * yc) + 3).toInt.toNat))).toInt) (b := (-90)) (t := 14) (by rfl) (by rfl) (rfl) (by decide) (fun h19 => ?_) (fun h20 => ?_)
        · have h19 : ((yA.1 96 yi.toInt.toNat) - (yA.1 90 (((7 * yc) + 3).toInt.toNat))).toInt < (-90) := h19
          refine Pa.ic (x := 0) (pc' := 15) (by rfl) (by rfl) (by decide) ?_
          refine Pa.iret (by rfl) ?_
          show Pa N 184 72 [(5, .int ((yA.1 96 yi.toInt.toNat) - (yA.1 90 (((7 * yc) + 3).toInt.toNat)))), (0, .ref 69), (1, .int yc), (2, .int yk), (3, .int yn), (4, .int yi), (6, .int yt)] [.int 0] (uF yA 116 yG) _
          refine Pa.if1k true (by rfl) (by rfl) (by decide) ?_
          show Pa N 184 152 [(5, .int ((yA.1 96 yi.toInt.toNat) - (yA.1 90 (((7 * yc) + 3).toInt.toNat)))), (0, .ref 69), (1, .int yc), (2, .int yk), (3, .int yn), (4, .int yi), (6, .int yt)] [] (uF yA 116 yG) _
          refine Pa.iinc (x := yi) (c := 1) (v := (yi + 1)) (l' := [(4, .int (yi + 1)), (5, .int ((yA.1 96 yi.toInt.toNat) - (yA.1 90 (((7 * yc) + 3).toInt.toNat)))), (0, .ref 69), (1, .int yc), (2, .int yk), (3, .int yn), (6, .int yt)]) (by rfl) (by rfl) (by decide) (by rfl) (by rfl) ?_
          refine Pa.mp 1 (pc' := 5) (l' := [(4, .int (yi + 1)), (5, .int ((yA.1 96 yi.toInt.toNat) - (yA.1 90 (((7 * yc) + 3).toInt.toNat)))), (0, .ref 69), (1, .int yc), (2, .int yk), (3, .int yn), (6, .int yt)]) (st' := []) (by rfl) ?_
          refine Pa.lv (l' := [(0, .ref 69), (1, .int yc), (2, .int yk), (3, .int yn), (4, .int (yi + 1)), (5, .int ((yA.1 96 yi.toInt.toNat) - (yA.1 90 (((7 * yc) + 3).toInt.toNat)))), (6, .int yt)]) (lvS_c rfl (lvS_c rfl (lvS_c rfl (lvS_c rfl (lvS_c rfl (lvS_c rfl (lvS_c rfl (lvS_nil)))))))) rfl ?_
          exact l4 h2 h3 h4 h5 h6 h9 h10 h12 h15 yh16 h18 h19
        · have h20 : (-90) ≤ ((yA.1 96 yi.toInt.toNat) - (yA.1 90 (((7 * yc) + 3).toInt.toNat))).toInt := h20
          refine Pa.mp 2 (pc' := 7) (l' := [(0, .int ((yA.1 96 yi.toInt.toNat) - (yA.1 90 (((7 * yc) + 3).toInt.toNat)))), (1, .int (-90)), (2, .int 90)]) (st' := [.int 90, .int ((yA.1 96 yi.toInt.toNat) - (yA.1 90 (((7 * yc) + 3).toInt.toNat)))]) (by rfl) ?_
          refine Pa.if2 (a := ((yA.1 96 yi.toInt.toNat) - (yA.1 90 (((7 * yc) + 3).toInt.toNat))).toInt) (b := 90) (t := 14) (by rfl) (by rfl) (rfl) (by decide) (fun h21 => ?_) (fun h22 => ?_)
          · have h21 : 90 < ((yA.1 96 yi.toInt.toNat) - (yA.1 90 (((7 * yc) + 3).toInt.toNat))).toInt := h21
            refine Pa.ic (x := 0) (pc' := 15) (by rfl) (by rfl) (by decide) ?_
            refine Pa.iret (by rfl) ?_
            show Pa N 184 72 [(5, .int ((yA.1 96 yi.toInt.toNat) - (yA.1 90 (((7 * yc) + 3).toInt.toNat)))), (0, .ref 69), (1, .int yc), (2, .int yk), (3, .int yn), (4, .int yi), (6, .int yt)] [.int 0] (uF yA 116 yG) _
            refine Pa.if1k true (by rfl) (by rfl) (by decide) ?_
            show Pa N 184 152 [(5, .int ((yA.1 96 yi.toInt.toNat) - (yA.1 90 (((7 * yc) + 3).toInt.toNat)))), (0, .ref 69), (1, .int yc), (2, .int yk), (3, .int yn), (4, .int yi), (6, .int yt)] [] (uF yA 116 yG) _
            refine Pa.iinc (x := yi) (c := 1) (v := (yi + 1)) (l' := [(4, .int (yi + 1)), (5, .int ((yA.1 96 yi.toInt.toNat) - (yA.1 90 (((7 * yc) + 3).toInt.toNat)))), (0, .ref 69), (1, .int yc), (2, .int yk), (3, .int yn), (6, .int yt)]) (by rfl) (by rfl) (by decide) (by rfl) (by rfl) ?_
            refine Pa.mp 1 (pc' := 5) (l' := [(4, .int (yi + 1)), (5, .int ((yA.1 96 yi.toInt.toNat) - (yA.1 90 (((7 * yc) + 3).toInt.toNat)))), (0, .ref 69), (1, .int yc), (2, .int yk), (3, .int yn), (6, .int yt)]) (st' := []) (by rfl) ?_
            refine Pa.lv (l' := [(0, .ref 69), (1, .int yc), (2, .int yk), (3, .int yn), (4, .int (yi + 1)), (5, .int ((yA.1 96 yi.toInt.toNat) - (yA.1 90 (((7 * yc) + 3).toInt.toNat)))), (6, .int yt)]) (lvS_c rfl (lvS_c rfl (lvS_c rfl (lvS_c rfl (lvS_c rfl (lvS_c rfl (lvS_c rfl (lvS_nil)))))))) rfl ?_
            exact l5 h2 h3 h4 h5 h6 h9 h10 h12 h15 yh16 h18 h20 h21
          · have h22 : ((yA.1 96 yi.toInt.toNat) - (yA.1 90 (((7 * yc) + 3).toInt.toNat))).toInt ≤ 90 := h22
            refine Pa.ic (x := 1) (pc' := 11) (by rfl) (by rfl) (by decide) ?_
            refine Pa.mp 1 (pc' := 15) (l' := [(0, .int ((yA.1 96 yi.toInt.toNat) - (yA.1 90 (((7 * yc) + 3).toInt.toNat)))), (1, .int (-90)), (2, .int 90)]) (st' := [.int 1]) (by rfl) ?_
            refine Pa.iret (by rfl) ?_
            show Pa N 184 72 [(5, .int ((yA.1 96 yi.toInt.toNat) - (yA.1 90 (((7 * yc) + 3).toInt.toNat)))), (0, .ref 69), (1, .int yc), (2, .int yk), (3, .int yn), (4, .int yi), (6, .int yt)] [.int 1] (uF yA 116 yG) _
            refine Pa.if1k false (by rfl) (by rfl) (by decide) ?_
            show Pa N 184 75 [(5, .int ((yA.1 96 yi.toInt.toNat) - (yA.1 90 (((7 * yc) + 3).toInt.toNat)))), (0, .ref 69), (1, .int yc), (2, .int yk), (3, .int yn), (4, .int yi), (6, .int yt)] [] (uF yA 116 yG) _
            refine Pa.mp 1 (pc' := 76) (l' := [(5, .int ((yA.1 96 yi.toInt.toNat) - (yA.1 90 (((7 * yc) + 3).toInt.toNat)))), (0, .ref 69), (1, .int yc), (2, .int yk), (3, .int yn), (4, .int yi), (6, .int yt)]) (st' := [.ref 69]) (by rfl) ?_
            refine Pa.gfR (by rfl) (by rfl) (.inl rfl) (by rfl) ?_
            show Pa N 184 79 [(5, .int ((yA.1 96 yi.toInt.toNat) - (yA.1 90 (((7 * yc) + 3).toInt.toNat)))), (0, .ref 69), (1, .int yc), (2, .int yk), (3, .int yn), (4, .int yi), (6, .int yt)] [.ref 98] (uF yA 116 yG) _
            refine Pa.mp 1 (pc' := 81) (l' := [(5, .int ((yA.1 96 yi.toInt.toNat) - (yA.1 90 (((7 * yc) + 3).toInt.toNat)))), (0, .ref 69), (1, .int yc), (2, .int yk), (3, .int yn), (4, .int yi), (6, .int yt)]) (st' := [.int yi, .ref 98]) (by rfl) ?_
            refine Pa.alds (v := yA.1 98 yi.toInt.toNat) (by rfl) (by rfl) (by show (uF yA 116 yG).1 98 yi.toInt.toNat = yA.1 98 yi.toInt.toNat; rw [uF_c (by decide)]) (fun h23 h24 => ?_)
            have h23 : 0 ≤ yi.toInt := h23
            have h24 : yi.toInt < 120 := h24
            refine Pa.mp 1 (pc' := 83) (l' := [(5, .int ((yA.1 96 yi.toInt.toNat) - (yA.1 90 (((7 * yc) + 3).toInt.toNat)))), (0, .ref 69), (1, .int yc), (2, .int yk), (3, .int yn), (4, .int yi), (6, .int yt)]) (st' := [.int yk, .int (yA.1 98 yi.toInt.toNat)]) (by rfl) ?_
            refine Pa.if2 (a := (yA.1 98 yi.toInt.toNat).toInt) (b := yk.toInt) (t := 152) (by rfl) (by rfl) (rfl) (rfl) (fun h25 => ?_) (fun h26 => ?_)
            · have h25 : yk.toInt < (yA.1 98 yi.toInt.toNat).toInt := h25
              refine Pa.iinc (x := yi) (c := 1) (v := (yi + 1)) (l' := [(4, .int (yi + 1)), (5, .int ((yA.1 96 yi.toInt.toNat) - (yA.1 90 (((7 * yc) + 3).toInt.toNat)))), (0, .ref 69), (1, .int yc), (2, .int yk), (3, .int yn), (6, .int yt)]) (by rfl) (by rfl) (by decide) (by rfl) (by rfl) ?_
              refine Pa.mp 1 (pc' := 5) (l' := [(4, .int (yi + 1)), (5, .int ((yA.1 96 yi.toInt.toNat) - (yA.1 90 (((7 * yc) + 3).toInt.toNat)))), (0, .ref 69), (1, .int yc), (2, .int yk), (3, .int yn), (6, .int yt)]) (st' := []) (by rfl) ?_
              refine Pa.lv (l' := [(0, .ref 69), (1, .int yc), (2, .int yk), (3, .int yn), (4, .int (yi + 1)), (5, .int ((yA.1 96 yi.toInt.toNat) - (yA.1 90 (((7 * yc) + 3).toInt.toNat)))), (6, .int yt)]) (lvS_c rfl (lvS_c rfl (lvS_c rfl (lvS_c rfl (lvS_c rfl (lvS_c rfl (lvS_c rfl (lvS_nil)))))))) rfl ?_
              exact l6 h2 h3 h4 h5 h6 h9 h10 h12 h15 yh16 h18 h20 h22 h25
            · have h26 : (yA.1 98 yi.toInt.toNat).toInt ≤ yk.toInt := h26
              refine Pa.mp 2 (pc' := 89) (l' := [(6, .int yn), (5, .int ((yA.1 96 yi.toInt.toNat) - (yA.1 90 (((7 * yc) + 3).toInt.toNat)))), (0, .ref 69), (1, .int yc), (2, .int yk), (3, .int yn), (4, .int yi)]) (st' := []) (by rfl) ?_
              refine Pa.lv (l' := [(0, .ref 69), (1, .int yc), (2, .int yk), (3, .int yn), (4, .int yi), (5, .int ((yA.1 96 yi.toInt.toNat) - (yA.1 90 (((7 * yc) + 3).toInt.toNat)))), (6, .int yn)]) (lvS_c rfl (lvS_c rfl (lvS_c rfl (lvS_c rfl (lvS_c rfl (lvS_c rfl (lvS_c rfl (lvS_nil)))))))) rfl ?_
              exact l7 h2 h3 h4 h5 h6 h9 h10 h12 h15 yh16 h18 h20 h22 h26
theorem bm_ins {N : Nat} {yA : AW} {yQ : Option Value → AW → Prop} (yc yk yn yi ye yt : Int32) (yG : Nat → Int32)
    (l1 : yt.toInt ≤ 0 → 0 ≤ yi.toInt → yi.toInt < 120 → 0 ≤ yt.toInt → yt.toInt < 120 → Pa N 184 5 [(0, .ref 69), (1, .int yc), (2, .int yk), (3, .int (yn + 1)), (4, .int (yi + 1)), (5, .int ye), (6, .int yt)] [] (uI (uF yA 116 yG) 116 yt.toInt.toNat (yA.1 97 yi.toInt.toNat)) yQ)
    (l2 : 0 < yt.toInt → 0 ≤ (yt - 1).toInt → (yt - 1).toInt < 120 → 0 ≤ yi.toInt → yi.toInt < 120 → (yG ((yt - 1).toInt.toNat)).toInt ≤ (yA.1 97 yi.toInt.toNat).toInt → 0 ≤ yt.toInt → yt.toInt < 120 → Pa N 184 5 [(0, .ref 69), (1, .int yc), (2, .int yk), (3, .int (yn + 1)), (4, .int (yi + 1)), (5, .int ye), (6, .int yt)] [] (uI (uF yA 116 yG) 116 yt.toInt.toNat (yA.1 97 yi.toInt.toNat)) yQ)
    (l3 : 0 < yt.toInt → 0 ≤ (yt - 1).toInt → (yt - 1).toInt < 120 → 0 ≤ yi.toInt → yi.toInt < 120 → (yA.1 97 yi.toInt.toNat).toInt < (yG ((yt - 1).toInt.toNat)).toInt → 0 ≤ yt.toInt → yt.toInt < 120 → Pa N 184 89 [(0, .ref 69), (1, .int yc), (2, .int yk), (3, .int yn), (4, .int yi), (5, .int ye), (6, .int (yt + (-1)))] [] (uI (uF yA 116 yG) 116 yt.toInt.toNat (yG ((yt - 1).toInt.toNat))) yQ) :
    Pa (N + 1) 184 89 [(0, .ref 69), (1, .int yc), (2, .int yk), (3, .int yn), (4, .int yi), (5, .int ye), (6, .int yt)] [] (uF yA 116 yG) yQ := by
  refine Pa.mp1 0 (pc' := 91) (l' := [(0, .ref 69), (1, .int yc), (2, .int yk), (3, .int yn), (4, .int yi), (5, .int ye), (6, .int yt)]) (st' := [.int yt]) (by rfl) ?_
  refine Pa.if1 (a := yt.toInt) (t := 135) (by rfl) (by rfl) (rfl) (fun h1 => ?_) (fun h2 => ?_)
  · have h1 : yt.toInt ≤ 0 := h1
    refine Pa.mp 1 (pc' := 136) (l' := [(0, .ref 69), (1, .int yc), (2, .int yk), (3, .int yn), (4, .int yi), (5, .int ye), (6, .int yt)]) (st' := [.ref 69]) (by rfl) ?_
    refine Pa.gfR (by rfl) (by rfl) (.inl rfl) (by rfl) ?_
    show Pa N 184 139 [(0, .ref 69), (1, .int yc), (2, .int yk), (3, .int yn), (4, .int yi), (5, .int ye), (6, .int yt)] [.ref 116] (uF yA 116 yG) _
    refine Pa.mp 2 (pc' := 142) (l' := [(0, .ref 69), (1, .int yc), (2, .int yk), (3, .int yn), (4, .int yi), (5, .int ye), (6, .int yt)]) (st' := [.ref 69, .int yt, .ref 116]) (by rfl) ?_
    refine Pa.gfR (by rfl) (by rfl) (.inl rfl) (by rfl) ?_
    show Pa N 184 145 [(0, .ref 69), (1, .int yc), (2, .int yk), (3, .int yn), (4, .int yi), (5, .int ye), (6, .int yt)] [.ref 97, .int yt, .ref 116] (uF yA 116 yG) _
    refine Pa.mp 1 (pc' := 147) (l' := [(0, .ref 69), (1, .int yc), (2, .int yk), (3, .int yn), (4, .int yi), (5, .int ye), (6, .int yt)]) (st' := [.int yi, .ref 97, .int yt, .ref 116]) (by rfl) ?_
    refine Pa.alds (v := yA.1 97 yi.toInt.toNat) (by rfl) (by rfl) (by show (uF yA 116 yG).1 97 yi.toInt.toNat = yA.1 97 yi.toInt.toNat; rw [uF_c (by decide)]) (fun h3 h4 => ?_)
    have h3 : 0 ≤ yi.toInt := h3
    have h4 : yi.toInt < 120 := h4
    refine Pa.asts (j' := yt.toInt.toNat) (by rfl) (by rfl) (by rfl) (fun h5 h6 => ?_)
    have h5 : 0 ≤ yt.toInt := h5
    have h6 : yt.toInt < 120 := h6
    show Pa N 184 149 [(0, .ref 69), (1, .int yc), (2, .int yk), (3, .int yn), (4, .int yi), (5, .int ye), (6, .int yt)] [] (uI (uF yA 116 yG) 116 yt.toInt.toNat (yA.1 97 yi.toInt.toNat)) _
    refine Pa.iinc (x := yn) (c := 1) (v := (yn + 1)) (l' := [(3, .int (yn + 1)), (0, .ref 69), (1, .int yc), (2, .int yk), (4, .int yi), (5, .int ye), (6, .int yt)]) (by rfl) (by rfl) (by decide) (by rfl) (by rfl) ?_
    refine Pa.iinc (x := yi) (c := 1) (v := (yi + 1)) (l' := [(4, .int (yi + 1)), (3, .int (yn + 1)), (0, .ref 69), (1, .int yc), (2, .int yk), (5, .int ye), (6, .int yt)]) (by rfl) (by rfl) (by decide) (by rfl) (by rfl) ?_
    refine Pa.mp 1 (pc' := 5) (l' := [(4, .int (yi + 1)), (3, .int (yn + 1)), (0, .ref 69), (1, .int yc), (2, .int yk), (5, .int ye), (6, .int yt)]) (st' := []) (by rfl) ?_
    refine Pa.lv (l' := [(0, .ref 69), (1, .int yc), (2, .int yk), (3, .int (yn + 1)), (4, .int (yi + 1)), (5, .int ye), (6, .int yt)]) (lvS_c rfl (lvS_c rfl (lvS_c rfl (lvS_c rfl (lvS_c rfl (lvS_c rfl (lvS_c rfl (lvS_nil)))))))) rfl ?_
    exact l1 h1 h3 h4 h5 h6
  · have h2 : 0 < yt.toInt := h2
    refine Pa.mp 1 (pc' := 95) (l' := [(0, .ref 69), (1, .int yc), (2, .int yk), (3, .int yn), (4, .int yi), (5, .int ye), (6, .int yt)]) (st' := [.ref 69]) (by rfl) ?_
    refine Pa.gfR (by rfl) (by rfl) (.inl rfl) (by rfl) ?_
    show Pa N 184 98 [(0, .ref 69), (1, .int yc), (2, .int yk), (3, .int yn), (4, .int yi), (5, .int ye), (6, .int yt)] [.ref 116] (uF yA 116 yG) _
    refine Pa.mp 1 (pc' := 100) (l' := [(0, .ref 69), (1, .int yc), (2, .int yk), (3, .int yn), (4, .int yi), (5, .int ye), (6, .int yt)]) (st' := [.int yt, .ref 116]) (by rfl) ?_
    refine Pa.ic (x := 1) (pc' := 101) (by rfl) (by rfl) (by decide) ?_
    refine Pa.mp 1 (pc' := 102) (l' := [(0, .ref 69), (1, .int yc), (2, .int yk), (3, .int yn), (4, .int yi), (5, .int ye), (6, .int yt)]) (st' := [.int (yt - 1), .ref 116]) (by rfl) ?_
    refine Pa.alds (v := yG ((yt - 1).toInt.toNat)) (by rfl) (by rfl) (by show (uF yA 116 yG).1 116 ((yt - 1).toInt.toNat) = yG ((yt - 1).toInt.toNat); rw [uF_h]) (fun h7 h8 => ?_)
    have h7 : 0 ≤ (yt - 1).toInt := h7
    have h8 : (yt - 1).toInt < 120 := h8
    refine Pa.mp 1 (pc' := 104) (l' := [(0, .ref 69), (1, .int yc), (2, .int yk), (3, .int yn), (4, .int yi), (5, .int ye), (6, .int yt)]) (st' := [.ref 69, .int (yG ((yt - 1).toInt.toNat))]) (by rfl) ?_
    refine Pa.gfR (by rfl) (by rfl) (.inl rfl) (by rfl) ?_
    show Pa N 184 107 [(0, .ref 69), (1, .int yc), (2, .int yk), (3, .int yn), (4, .int yi), (5, .int ye), (6, .int yt)] [.ref 97, .int (yG ((yt - 1).toInt.toNat))] (uF yA 116 yG) _
    refine Pa.mp 1 (pc' := 109) (l' := [(0, .ref 69), (1, .int yc), (2, .int yk), (3, .int yn), (4, .int yi), (5, .int ye), (6, .int yt)]) (st' := [.int yi, .ref 97, .int (yG ((yt - 1).toInt.toNat))]) (by rfl) ?_
    refine Pa.alds (v := yA.1 97 yi.toInt.toNat) (by rfl) (by rfl) (by show (uF yA 116 yG).1 97 yi.toInt.toNat = yA.1 97 yi.toInt.toNat; rw [uF_c (by decide)]) (fun h9 h10 => ?_)
    have h9 : 0 ≤ yi.toInt := h9
    have h10 : yi.toInt < 120 := h10
    refine Pa.if2 (a := (yG ((yt - 1).toInt.toNat)).toInt) (b := (yA.1 97 yi.toInt.toNat).toInt) (t := 135) (by rfl) (by rfl) (rfl) (rfl) (fun h11 => ?_) (fun h12 => ?_)
    · have h11 : (yG ((yt - 1).toInt.toNat)).toInt ≤ (yA.1 97 yi.toInt.toNat).toInt := h11
      refine Pa.mp 1 (pc' := 136) (l' := [(0, .ref 69), (1, .int yc), (2, .int yk), (3, .int yn), (4, .int yi), (5, .int ye), (6, .int yt)]) (st' := [.ref 69]) (by rfl) ?_
      refine Pa.gfR (by rfl) (by rfl) (.inl rfl) (by rfl) ?_
      show Pa N 184 139 [(0, .ref 69), (1, .int yc), (2, .int yk), (3, .int yn), (4, .int yi), (5, .int ye), (6, .int yt)] [.ref 116] (uF yA 116 yG) _
      refine Pa.mp 2 (pc' := 142) (l' := [(0, .ref 69), (1, .int yc), (2, .int yk), (3, .int yn), (4, .int yi), (5, .int ye), (6, .int yt)]) (st' := [.ref 69, .int yt, .ref 116]) (by rfl) ?_
      refine Pa.gfR (by rfl) (by rfl) (.inl rfl) (by rfl) ?_
      show Pa N 184 145 [(0, .ref 69), (1, .int yc), (2, .int yk), (3, .int yn), (4, .int yi), (5, .int ye), (6, .int yt)] [.ref 97, .int yt, .ref 116] (uF yA 116 yG) _
      refine Pa.mp 1 (pc' := 147) (l' := [(0, .ref 69), (1, .int yc), (2, .int yk), (3, .int yn), (4, .int yi), (5, .int ye), (6, .int yt)]) (st' := [.int yi, .ref 97, .int yt, .ref 116]) (by rfl) ?_
      refine Pa.alds (v := yA.1 97 yi.toInt.toNat) (by rfl) (by rfl) (by show (uF yA 116 yG).1 97 yi.toInt.toNat = yA.1 97 yi.toInt.toNat; rw [uF_c (by decide)]) (fun h13 h14 => ?_)
      have h13 : 0 ≤ yi.toInt := h13
      have h14 : yi.toInt < 120 := h14
      refine Pa.asts (j' := yt.toInt.toNat) (by rfl) (by rfl) (by rfl) (fun h15 yh16 => ?_)
      have h15 : 0 ≤ yt.toInt := h15
      have yh16 : yt.toInt < 120 := yh16
      show Pa N 184 149 [(0, .ref 69), (1, .int yc), (2, .int yk), (3, .int yn), (4, .int yi), (5, .int ye), (6, .int yt)] [] (uI (uF yA 116 yG) 116 yt.toInt.toNat (yA.1 97 yi.toInt.toNat)) _
      refine Pa.iinc (x := yn) (c := 1) (v := (yn + 1)) (l' := [(3, .int (yn + 1)), (0, .ref 69), (1, .int yc), (2, .int yk), (4, .int yi), (5, .int ye), (6, .int yt)]) (by rfl) (by rfl) (by decide) (by rfl) (by rfl) ?_
      refine Pa.iinc (x := yi) (c := 1) (v := (yi + 1)) (l' := [(4, .int (yi + 1)), (3, .int (yn + 1)), (0, .ref 69), (1, .int yc), (2, .int yk), (5, .int ye), (6, .int yt)]) (by rfl) (by rfl) (by decide) (by rfl) (by rfl) ?_
      refine Pa.mp 1 (pc' := 5) (l' := [(4, .int (yi + 1)), (3, .int (yn + 1)), (0, .ref 69), (1, .int yc), (2, .int yk), (5, .int ye), (6, .int yt)]) (st' := []) (by rfl) ?_
      refine Pa.lv (l' := [(0, .ref 69), (1, .int yc), (2, .int yk), (3, .int (yn + 1)), (4, .int (yi + 1)), (5, .int ye), (6, .int yt)]) (lvS_c rfl (lvS_c rfl (lvS_c rfl (lvS_c rfl (lvS_c rfl (lvS_c rfl (lvS_c rfl (lvS_nil)))))))) rfl ?_
      exact l2 h2 h7 h8 h9 h10 h11 h15 yh16
    · have h12 : (yA.1 97 yi.toInt.toNat).toInt < (yG ((yt - 1).toInt.toNat)).toInt := h12
      refine Pa.mp 1 (pc' := 114) (l' := [(0, .ref 69), (1, .int yc), (2, .int yk), (3, .int yn), (4, .int yi), (5, .int ye), (6, .int yt)]) (st' := [.ref 69]) (by rfl) ?_
      refine Pa.gfR (by rfl) (by rfl) (.inl rfl) (by rfl) ?_
      show Pa N 184 117 [(0, .ref 69), (1, .int yc), (2, .int yk), (3, .int yn), (4, .int yi), (5, .int ye), (6, .int yt)] [.ref 116] (uF yA 116 yG) _
      refine Pa.mp 2 (pc' := 120) (l' := [(0, .ref 69), (1, .int yc), (2, .int yk), (3, .int yn), (4, .int yi), (5, .int ye), (6, .int yt)]) (st' := [.ref 69, .int yt, .ref 116]) (by rfl) ?_
      refine Pa.gfR (by rfl) (by rfl) (.inl rfl) (by rfl) ?_
      show Pa N 184 123 [(0, .ref 69), (1, .int yc), (2, .int yk), (3, .int yn), (4, .int yi), (5, .int ye), (6, .int yt)] [.ref 116, .int yt, .ref 116] (uF yA 116 yG) _
      refine Pa.mp 1 (pc' := 125) (l' := [(0, .ref 69), (1, .int yc), (2, .int yk), (3, .int yn), (4, .int yi), (5, .int ye), (6, .int yt)]) (st' := [.int yt, .ref 116, .int yt, .ref 116]) (by rfl) ?_
      refine Pa.ic (x := 1) (pc' := 126) (by rfl) (by rfl) (by decide) ?_
      refine Pa.mp 1 (pc' := 127) (l' := [(0, .ref 69), (1, .int yc), (2, .int yk), (3, .int yn), (4, .int yi), (5, .int ye), (6, .int yt)]) (st' := [.int (yt - 1), .ref 116, .int yt, .ref 116]) (by rfl) ?_
      refine Pa.alds (v := yG ((yt - 1).toInt.toNat)) (by rfl) (by rfl) (by show (uF yA 116 yG).1 116 ((yt - 1).toInt.toNat) = yG ((yt - 1).toInt.toNat); rw [uF_h]) (fun h17 h18 => ?_)
      have h17 : 0 ≤ (yt - 1).toInt := h17
      have h18 : (yt - 1).toInt < 120 := h18
      refine Pa.asts (j' := yt.toInt.toNat) (by rfl) (by rfl) (by rfl) (fun h19 h20 => ?_)
      have h19 : 0 ≤ yt.toInt := h19
      have h20 : yt.toInt < 120 := h20
      show Pa N 184 129 [(0, .ref 69), (1, .int yc), (2, .int yk), (3, .int yn), (4, .int yi), (5, .int ye), (6, .int yt)] [] (uI (uF yA 116 yG) 116 yt.toInt.toNat (yG ((yt - 1).toInt.toNat))) _
      refine Pa.iinc (x := yt) (c := (-1)) (v := (yt + (-1))) (l' := [(6, .int (yt + (-1))), (0, .ref 69), (1, .int yc), (2, .int yk), (3, .int yn), (4, .int yi), (5, .int ye)]) (by rfl) (by rfl) (by decide) (by rfl) (by rfl) ?_
      refine Pa.mp 1 (pc' := 89) (l' := [(6, .int (yt + (-1))), (0, .ref 69), (1, .int yc), (2, .int yk), (3, .int yn), (4, .int yi), (5, .int ye)]) (st' := []) (by rfl) ?_
      refine Pa.lv (l' := [(0, .ref 69), (1, .int yc), (2, .int yk), (3, .int yn), (4, .int yi), (5, .int ye), (6, .int (yt + (-1)))]) (lvS_c rfl (lvS_c rfl (lvS_c rfl (lvS_c rfl (lvS_c rfl (lvS_c rfl (lvS_c rfl (lvS_nil)))))))) rfl ?_
      exact l3 h2 h7 h8 h9 h10 h12 h19 h20
def pM (yA : AW) (yc yk : Int32) (yi : Nat) : Bool := decide ((yA.1 94 yi).toInt = (yA.1 90 (((7 * yc) + 6).toInt.toNat)).toInt ∧ (yA.1 95 yi).toInt = (yA.1 90 (((7 * yc) + 2).toInt.toNat)).toInt ∧ (-90) ≤ ((yA.1 96 yi) - (yA.1 90 (((7 * yc) + 3).toInt.toNat))).toInt ∧ ((yA.1 96 yi) - (yA.1 90 (((7 * yc) + 3).toInt.toNat))).toInt ≤ 90 ∧ (yA.1 98 yi).toInt ≤ yk.toInt)
theorem pM_iff {yA : AW} {yc yk : Int32} {yi : Nat} : pM yA yc yk yi = true ↔ ((yA.1 94 yi).toInt = (yA.1 90 (((7 * yc) + 6).toInt.toNat)).toInt ∧ (yA.1 95 yi).toInt = (yA.1 90 (((7 * yc) + 2).toInt.toNat)).toInt ∧ (-90) ≤ ((yA.1 96 yi) - (yA.1 90 (((7 * yc) + 3).toInt.toNat))).toInt ∧ ((yA.1 96 yi) - (yA.1 90 (((7 * yc) + 3).toInt.toNat))).toInt ≤ 90 ∧ (yA.1 98 yi).toInt ≤ yk.toInt) := decide_eq_true_iff
def fndM (yA : AW) (yc yk : Int32) : (Nat → Int32) × Int32 := gatS (pM yA yc yk) (yA.1 97) (yA.1 116) (yA.1 69 37).toInt.toNat
theorem c_fndL (N : Nat) (yA : AW) (yc yk : Int32) (hR : (yA.1 69 37).toInt ≤ 120) : Pa N 184 0 [(0, .ref 69), (1, .int yc), (2, .int yk)] [] yA (fun yu A1 => yu = some (.int (fndM yA yc yk).2) ∧ A1 = uF yA 116 (fndM yA yc yk).1) := by
  have ykey : ∀ N, (∀ yn ye yt, yn ≤ (yA.1 69 37).toInt.toNat → Pa N 184 5 [(0, .ref 69), (1, .int yc), (2, .int yk), (3, .int (gatS (pM yA yc yk) (yA.1 97) (yA.1 116) yn).2), (4, .int (Int32.ofNat yn)), (5, .int ye), (6, .int yt)] [] (uF yA 116 (gatS (pM yA yc yk) (yA.1 97) (yA.1 116) yn).1) (fun yu A1 => yu = some (.int (fndM yA yc yk).2) ∧ A1 = uF yA 116 (fndM yA yc yk).1)) ∧ (∀ yn ye (ya : Nat) yt yG, yn < (yA.1 69 37).toInt.toNat → pM yA yc yk yn = true → yt.toInt = (ya : Int) → insG ya yG (yA.1 97 yn) = insG (gatS (pM yA yc yk) (yA.1 97) (yA.1 116) yn).2.toInt.toNat (gatS (pM yA yc yk) (yA.1 97) (yA.1 116) yn).1 (yA.1 97 yn) → Pa N 184 89 [(0, .ref 69), (1, .int yc), (2, .int yk), (3, .int (gatS (pM yA yc yk) (yA.1 97) (yA.1 116) yn).2), (4, .int (Int32.ofNat yn)), (5, .int ye), (6, .int yt)] [] (uF yA 116 yG) (fun yu A1 => yu = some (.int (fndM yA yc yk).2) ∧ A1 = uF yA 116 (fndM yA yc yk).1)) := by
    intro N
    induction N with
    | zero => exact ⟨fun _ _ _ _ => Pa.zero, fun _ _ _ _ _ _ _ _ _ => Pa.zero⟩
    | succ N yih =>
      obtain ⟨ih1, ih2⟩ := yih
      refine ⟨fun yn ye yt hn => ?_, fun yn ye ya yt yG hn hp yha hg => ?_⟩
      · have ye1 := on_nat hn
        refine bm_fnd yc yk _ _ ye yt _ ?_ ?_ ?_ ?_ ?_ ?_ ?_ <;> rw [ye1] <;> (try rw [Int.toNat_natCast])
        · intro h1
          rw [show yn = (yA.1 69 37).toInt.toNat by omega]
          exact ⟨rfl, rfl⟩
        · intros
          have yh := ih1 (yn + 1) (yA.1 96 yn - yA.1 90 (((7 * yc) + 3).toInt.toNat)) yt (by omega)
          rw [gatS_0 (fun yq => by have := pM_iff.mp yq; omega), on_succ] at yh
          exact yh
        · intros
          have yh := ih1 (yn + 1) (yA.1 96 yn - yA.1 90 (((7 * yc) + 3).toInt.toNat)) yt (by omega)
          rw [gatS_0 (fun yq => by have := pM_iff.mp yq; omega), on_succ] at yh
          exact yh
        · intros
          have yh := ih1 (yn + 1) (yA.1 96 yn - yA.1 90 (((7 * yc) + 3).toInt.toNat)) yt (by omega)
          rw [gatS_0 (fun yq => by have := pM_iff.mp yq; omega), on_succ] at yh
          exact yh
        · intros
          have yh := ih1 (yn + 1) (yA.1 96 yn - yA.1 90 (((7 * yc) + 3).toInt.toNat)) yt (by omega)
          rw [gatS_0 (fun yq => by have := pM_iff.mp yq; omega), on_succ] at yh
          exact yh
        · intros
          have yh := ih1 (yn + 1) (yA.1 96 yn - yA.1 90 (((7 * yc) + 3).toInt.toNat)) yt (by omega)
          rw [gatS_0 (fun yq => by have := pM_iff.mp yq; omega), on_succ] at yh
          exact yh
        · intro h1 h2 h3 h4 h5 h6 h7 h8 h9 h10 h11 h12 h13 h14
          obtain ⟨-, ym, ym1, ym2, -⟩ := gatS_eq (yP := pM yA yc yk) (yP' := pM yA yc yk) (yq := yA.1 97) (q' := yA.1 97) (yg := yA.1 116) (g' := yA.1 116) (yn := yn) (by omega) (fun _ _ => rfl) (fun _ _ => rfl)
          have yhm : (gatS (pM yA yc yk) (yA.1 97) (yA.1 116) yn).2.toInt = (ym : Int) := by rw [ym2]; exact i32_nat (by omega)
          exact ih2 yn _ (gatS (pM yA yc yk) (yA.1 97) (yA.1 116) yn).2.toInt.toNat _ _ (by omega) (pM_iff.mpr ⟨h8, h11, h12, h13, h14⟩) (by omega) rfl
      · have ye1 := on_nat (T := yA.1 69 37) (n := yn) (by omega)
        refine bm_ins yc yk _ _ ye yt yG ?_ ?_ ?_ <;> rw [ye1] <;> (try rw [Int.toNat_natCast])
        · intro h1 h2 h3 h4 h5
          have ye2 : ya = 0 := by omega
          subst ye2
          have yh := ih1 (yn + 1) ye yt (by omega)
          rw [gatS_1 hp, on_succ] at yh
          have hg' : (fun yj => if yj = 0 then yA.1 97 yn else yG yj) = insG (gatS (pM yA yc yk) (yA.1 97) (yA.1 116) yn).2.toInt.toNat (gatS (pM yA yc yk) (yA.1 97) (yA.1 116) yn).1 (yA.1 97 yn) := hg
          rw [show yt.toInt.toNat = 0 by omega, uI_uG, hg']
          exact yh
        · intro h1 h2 h3 h4 h5 h6 h7 h8
          obtain ⟨yb, rfl⟩ : ∃ yb, ya = yb + 1 := ⟨ya - 1, by omega⟩
          obtain ⟨yi1, yi2⟩ := i_pre yha (by omega)
          rw [yi1, Int.toNat_natCast] at h6
          have yh := ih1 (yn + 1) ye yt (by omega)
          rw [gatS_1 hp, on_succ] at yh
          have ye9 : insG (yb + 1) yG (yA.1 97 yn) = updF yG (yb + 1) (yA.1 97 yn) := if_neg (by omega)
          have hg' : (fun yj => if yj = yb + 1 then yA.1 97 yn else yG yj) = insG (gatS (pM yA yc yk) (yA.1 97) (yA.1 116) yn).2.toInt.toNat (gatS (pM yA yc yk) (yA.1 97) (yA.1 116) yn).1 (yA.1 97 yn) := ye9.symm.trans hg
          rw [show yt.toInt.toNat = yb + 1 by omega, uI_uG, hg']
          exact yh
        · intro h1 h2 h3 h4 h5 h6 h7 h8
          obtain ⟨yb, rfl⟩ : ∃ yb, ya = yb + 1 := ⟨ya - 1, by omega⟩
          obtain ⟨yi1, yi2⟩ := i_pre yha (by omega)
          rw [yi1, Int.toNat_natCast] at h6 ⊢
          have ye9 : insG (yb + 1) yG (yA.1 97 yn) = insG yb (updF yG (yb + 1) (yG yb)) (yA.1 97 yn) := if_pos (by omega)
          have yh := ih2 yn ye yb (yt + (-1)) (updF yG (yb + 1) (yG yb)) hn hp yi2 (ye9.symm.trans hg)
          rw [show yt.toInt.toNat = yb + 1 by omega, uI_uG]
          exact yh
  refine bm_fnd0 yc yk ?_
  have yh := (ykey N).1 0 0 0 (Nat.zero_le _)
  have ye0 : uF yA 116 (gatS (pM yA yc yk) (yA.1 97) (yA.1 116) 0).1 = yA := uG_self
  rw [ye0] at yh
  exact yh
theorem half_lt : ∀ yn : Nat, yn < 121 → 1 ≤ yn → ((Int32.ofNat yn - 1) / 2).toInt.toNat < yn := by decide +kernel
def F19 : zRF := [((0, 10), (69, 0)), ((20, 9), (69, 37))]
def Ar19 : zRA := [(24, 94), (25, 95), (26, 96), (27, 97), (28, 98)]
/-- the days of the likes are days -/
def RX19 (yA : AW) : Prop := ∀ yj, yj < 120 → 0 ≤ (yA.1 96 yj).toInt ∧ (yA.1 96 yj).toInt ≤ 3599
def S19 : zSu := ([], [96])
theorem RX19_s (yA yB : AW) (yh : AgS S19 yA yB) (hX : RX19 yA) : RX19 yB := fun yj hj => by
  have ye := (yh.2 96 (by simp [S19])).1
  rw [← ye]
  exact hX yj hj
def lkOk (yD ys l yd yv : Int32) : Prop := 0 ≤ ys.toInt ∧ ys.toInt ≤ 19 ∧ 0 ≤ l.toInt ∧ l.toInt ≤ 5 ∧ 0 ≤ yd.toInt ∧ yd.toInt ≤ yD.toInt ∧ 1 ≤ yv.toInt ∧ yv.toInt ≤ 99999
def likX (yA : AW) (ys l yd yv : Int32) : AW := uI (uI (uI (uI (uI (uI yA 24 ((yA.1 20 9).toInt.toNat) ys) 25 ((yA.1 20 9).toInt.toNat) l) 26 ((yA.1 20 9).toInt.toNat) yd) 27 ((yA.1 20 9).toInt.toNat) yv) 28 ((yA.1 20 9).toInt.toNat) (yA.1 0 10)) 20 9 ((yA.1 20 9) + 1)
def likM (yA : AW) (ys l yd yv : Int32) : AW := uI (uI (uI (uI (uI (uI yA 94 ((yA.1 69 37).toInt.toNat) ys) 95 ((yA.1 69 37).toInt.toNat) l) 96 ((yA.1 69 37).toInt.toNat) yd) 97 ((yA.1 69 37).toInt.toNat) yv) 98 ((yA.1 69 37).toInt.toNat) (yA.1 69 0)) 69 37 ((yA.1 69 37) + 1)
def dLike (ys l yd yv : Int32) (yA : AW) (yu : Option Value) (A1 : AW) : Prop := (¬ lkOk (yA.1 0 10) ys l yd yv ∧ yu = some (.int (-1)) ∧ A1 = yA) ∨ (lkOk (yA.1 0 10) ys l yd yv ∧ 120 ≤ (yA.1 20 9).toInt ∧ yu = some (.int (-2)) ∧ A1 = yA) ∨ (lkOk (yA.1 0 10) ys l yd yv ∧ (yA.1 20 9).toInt < 120 ∧ 0 ≤ (yA.1 20 9).toInt ∧ yu = some (.int (yA.1 20 9 + 1)) ∧ A1 = likX yA ys l yd yv)
theorem d_like (N : Nat) (yA : AW) (ys l yd yv : Int32) : Pa N 114 0 [(0, .ref 0), (1, .int ys), (2, .int l), (3, .int yd), (4, .int yv)] [] yA (dLike ys l yd yv yA) := by
  refine bx_like ys l yd yv ?_ ?_ ?_ ?_ ?_ ?_ ?_ ?_ ?_ ?_
  all_goals
    intros
    unfold dLike lkOk
    first
      | exact .inl ⟨by omega, rfl, rfl⟩
      | exact .inr (.inl ⟨by omega, by omega, rfl, rfl⟩)
      | exact .inr (.inr ⟨by omega, by omega, by omega, rfl, rfl⟩)
def eLike (ys l yd yv : Int32) (yA : AW) (yu : Option Value) (A1 : AW) : Prop := (¬ lkOk (yA.1 69 0) ys l yd yv ∧ yu = some (.int (-1)) ∧ A1 = yA) ∨ (lkOk (yA.1 69 0) ys l yd yv ∧ (yA.1 69 37).toInt = 120 ∧ yu = some (.int (-2)) ∧ A1 = yA) ∨ (lkOk (yA.1 69 0) ys l yd yv ∧ (yA.1 69 37).toInt < 120 ∧ 0 ≤ (yA.1 69 37).toInt ∧ yu = some (.int (yA.1 69 37 + 1)) ∧ A1 = likM yA ys l yd yv)
theorem e_like (N : Nat) (yA : AW) (ys l yd yv : Int32) : Pa N 183 0 [(0, .ref 69), (1, .int ys), (2, .int l), (3, .int yd), (4, .int yv)] [] yA (eLike ys l yd yv yA) := by
  refine bm_like ys l yd yv ?_ ?_ ?_ ?_ ?_ ?_ ?_ ?_ ?_ ?_
  all_goals
    intros
    unfold eLike lkOk
    first
      | exact .inl ⟨by omega, rfl, rfl⟩
      | exact .inr (.inl ⟨by omega, by omega, rfl, rfl⟩)
      | exact .inr (.inr ⟨by omega, by omega, by omega, rfl, rfl⟩)
theorem lX_low {yA : AW} {ys l yd yv : Int32} {yc : Nat} (h0 : yc ≠ 20) (h4 : yc ≠ 24) (h5 : yc ≠ 25) (h6 : yc ≠ 26) (h7 : yc ≠ 27) (h8 : yc ≠ 28) (yj : Nat) : (likX yA ys l yd yv).1 yc yj = yA.1 yc yj := by
  unfold likX
  rw [uI_c h0, uI_c h8, uI_c h7, uI_c h6, uI_c h5, uI_c h4]
theorem lM_low {yA : AW} {ys l yd yv : Int32} {yc : Nat} (h0 : yc ≠ 69) (h4 : yc ≠ 94) (h5 : yc ≠ 95) (h6 : yc ≠ 96) (h7 : yc ≠ 97) (h8 : yc ≠ 98) (yj : Nat) : (likM yA ys l yd yv).1 yc yj = yA.1 yc yj := by
  unfold likM
  rw [uI_c h0, uI_c h8, uI_c h7, uI_c h6, uI_c h5, uI_c h4]
theorem lX_24 {yA : AW} {ys l yd yv : Int32} {yj : Nat} : (likX yA ys l yd yv).1 24 yj = if yj = (yA.1 20 9).toInt.toNat then ys else yA.1 24 yj := by
  unfold likX
  rw [uI_c (by decide), uI_c (by decide), uI_c (by decide), uI_c (by decide), uI_c (by decide), uI_row]
theorem lX_25 {yA : AW} {ys l yd yv : Int32} {yj : Nat} : (likX yA ys l yd yv).1 25 yj = if yj = (yA.1 20 9).toInt.toNat then l else yA.1 25 yj := by
  unfold likX
  rw [uI_c (by decide), uI_c (by decide), uI_c (by decide), uI_c (by decide), uI_row, uI_c (by decide)]
theorem lX_26 {yA : AW} {ys l yd yv : Int32} {yj : Nat} : (likX yA ys l yd yv).1 26 yj = if yj = (yA.1 20 9).toInt.toNat then yd else yA.1 26 yj := by
  unfold likX
  rw [uI_c (by decide), uI_c (by decide), uI_c (by decide), uI_row, uI_c (by decide), uI_c (by decide)]
theorem lX_27 {yA : AW} {ys l yd yv : Int32} {yj : Nat} : (likX yA ys l yd yv).1 27 yj = if yj = (yA.1 20 9).toInt.toNat then yv else yA.1 27 yj := by
  unfold likX
  rw [uI_c (by decide), uI_c (by decide), uI_row, uI_c (by decide), uI_c (by decide), uI_c (by decide)]
theorem lX_28 {yA : AW} {ys l yd yv : Int32} {yj : Nat} : (likX yA ys l yd yv).1 28 yj = if yj = (yA.1 20 9).toInt.toNat then yA.1 0 10 else yA.1 28 yj := by
  unfold likX
  rw [uI_c (by decide), uI_row, uI_c (by decide), uI_c (by decide), uI_c (by decide), uI_c (by decide)]
theorem lX_20 {yA : AW} {ys l yd yv : Int32} : (likX yA ys l yd yv).1 20 9 = yA.1 20 9 + 1 := by
  unfold likX
  rw [uI_h]
theorem lM_94 {yA : AW} {ys l yd yv : Int32} {yj : Nat} : (likM yA ys l yd yv).1 94 yj = if yj = (yA.1 69 37).toInt.toNat then ys else yA.1 94 yj := by
  unfold likM
  rw [uI_c (by decide), uI_c (by decide), uI_c (by decide), uI_c (by decide), uI_c (by decide), uI_row]
theorem lM_95 {yA : AW} {ys l yd yv : Int32} {yj : Nat} : (likM yA ys l yd yv).1 95 yj = if yj = (yA.1 69 37).toInt.toNat then l else yA.1 95 yj := by
  unfold likM
  rw [uI_c (by decide), uI_c (by decide), uI_c (by decide), uI_c (by decide), uI_row, uI_c (by decide)]
theorem lM_96 {yA : AW} {ys l yd yv : Int32} {yj : Nat} : (likM yA ys l yd yv).1 96 yj = if yj = (yA.1 69 37).toInt.toNat then yd else yA.1 96 yj := by
  unfold likM
  rw [uI_c (by decide), uI_c (by decide), uI_c (by decide), uI_row, uI_c (by decide), uI_c (by decide)]
theorem lM_97 {yA : AW} {ys l yd yv : Int32} {yj : Nat} : (likM yA ys l yd yv).1 97 yj = if yj = (yA.1 69 37).toInt.toNat then yv else yA.1 97 yj := by
  unfold likM
  rw [uI_c (by decide), uI_c (by decide), uI_row, uI_c (by decide), uI_c (by decide), uI_c (by decide)]
theorem lM_98 {yA : AW} {ys l yd yv : Int32} {yj : Nat} : (likM yA ys l yd yv).1 98 yj = if yj = (yA.1 69 37).toInt.toNat then yA.1 69 0 else yA.1 98 yj := by
  unfold likM
  rw [uI_c (by decide), uI_row, uI_c (by decide), uI_c (by decide), uI_c (by decide), uI_c (by decide)]
theorem lM_37 {yA : AW} {ys l yd yv : Int32} : (likM yA ys l yd yv).1 69 37 = yA.1 69 37 + 1 := by
  unfold likM
  rw [uI_h]
theorem lM_0 {yA : AW} {ys l yd yv : Int32} : (likM yA ys l yd yv).1 69 0 = yA.1 69 0 := by
  unfold likM
  rw [uI_k (by decide), uI_c (by decide), uI_c (by decide), uI_c (by decide), uI_c (by decide), uI_c (by decide)]
theorem ite2 {yp yq : Prop} [Decidable yp] [Decidable yq] {yx yy ya yb : Int32} (yh : yp ↔ yq) (h1 : yx = yy) (h2 : ya = yb) : (if yp then yx else ya) = (if yq then yy else yb) := by
  by_cases ye : yp
  · rw [if_pos ye, if_pos (yh.mp ye)]
    exact h1
  · rw [if_neg ye, if_neg (fun yr => ye (yh.mpr yr))]
    exact h2
theorem k_like {yA A1 A2 : AW} {ys l yd yv yx yy : Int32} (hA : okA yA) (hF : eqF F19 yA) (hR : eqRs Ar19 yA) (hX : RX19 yA) (ys1 : dLike ys l yd yv yA (some (.int yx)) A1) (ys2 : eLike ys l yd yv A1 (some (.int yy)) A2) : eqF F19 A2 ∧ eqRs Ar19 A2 ∧ RX19 A2 ∧ yx = yy := by
  have yf0 : yA.1 0 10 = yA.1 69 0 := hF ((0, 10), (69, 0)) (by simp [F19])
  have yf9 : yA.1 20 9 = yA.1 69 37 := hF ((20, 9), (69, 37)) (by simp [F19])
  have g0 := hA.fld (i := 69) (k := 0) (lo := 0) (hi := 3599) (by decide +kernel)
  have gT := hA.fld (i := 69) (k := 37) (lo := 0) (hi := 120) (by decide +kernel)
  rcases ys1 with ⟨ya1, a2, rfl⟩ | ⟨ya1, a2, a3, rfl⟩ | ⟨ya1, a2, a3, a4, rfl⟩
  · rw [yf0] at ya1
    rcases ys2 with ⟨b1, b2, rfl⟩ | ⟨b1, b2, b3, rfl⟩ | ⟨b1, b2, b3, b4, rfl⟩
    · exact ⟨hF, hR, hX, by rw [some_int a2, some_int b2]⟩
    · exact absurd b1 ya1
    · exact absurd b1 ya1
  · rw [yf0] at ya1
    rw [yf9] at a2
    rcases ys2 with ⟨b1, b2, rfl⟩ | ⟨b1, b2, b3, rfl⟩ | ⟨b1, b2, b3, b4, rfl⟩
    · exact absurd ya1 b1
    · exact ⟨hF, hR, hX, by rw [some_int a3, some_int b3]⟩
    · omega
  · rw [yf0] at ya1
    have l0 : (likX yA ys l yd yv).1 69 0 = yA.1 69 0 := lX_low (by decide) (by decide) (by decide) (by decide) (by decide) (by decide) 0
    have l37 : (likX yA ys l yd yv).1 69 37 = yA.1 69 37 := lX_low (by decide) (by decide) (by decide) (by decide) (by decide) (by decide) 37
    rcases ys2 with ⟨b1, b2, rfl⟩ | ⟨b1, b2, b3, rfl⟩ | ⟨b1, b2, b3, b4, rfl⟩
    · rw [l0] at b1
      exact absurd ya1 b1
    · rw [l37] at b2
      rw [yf9] at a2
      omega
    · have yex : ∀ yj, (yj = (yA.1 20 9).toInt.toNat ↔ yj = ((likX yA ys l yd yv).1 69 37).toInt.toNat) := fun yj => by rw [l37, yf9]
      refine ⟨?_, ?_, ?_, ?_⟩
      · intro yq hq
        simp only [F19, List.mem_cons, List.not_mem_nil, or_false] at hq
        rcases hq with rfl | rfl
        · show (likM (likX yA ys l yd yv) ys l yd yv).1 0 10 = (likM (likX yA ys l yd yv) ys l yd yv).1 69 0
          rw [lM_low (by decide) (by decide) (by decide) (by decide) (by decide) (by decide), lM_0, l0, lX_low (by decide) (by decide) (by decide) (by decide) (by decide) (by decide)]
          exact yf0
        · show (likM (likX yA ys l yd yv) ys l yd yv).1 20 9 = (likM (likX yA ys l yd yv) ys l yd yv).1 69 37
          rw [lM_low (by decide) (by decide) (by decide) (by decide) (by decide) (by decide), lM_37, l37, lX_20, yf9]
      · intro yq hq ym yhm yj hj
        have hq0 := hR yq hq ym yhm yj hj
        simp only [Ar19, List.mem_cons, List.not_mem_nil, or_false] at hq
        rcases hq with rfl | rfl | rfl | rfl | rfl
        · show (likM (likX yA ys l yd yv) ys l yd yv).1 24 yj = (likM (likX yA ys l yd yv) ys l yd yv).1 94 yj
          rw [lM_low (by decide) (by decide) (by decide) (by decide) (by decide) (by decide), lX_24, lM_94, lX_low (yc := 94) (by decide) (by decide) (by decide) (by decide) (by decide) (by decide)]
          exact ite2 (yex yj) rfl hq0
        · show (likM (likX yA ys l yd yv) ys l yd yv).1 25 yj = (likM (likX yA ys l yd yv) ys l yd yv).1 95 yj
          rw [lM_low (by decide) (by decide) (by decide) (by decide) (by decide) (by decide), lX_25, lM_95, lX_low (yc := 95) (by decide) (by decide) (by decide) (by decide) (by decide) (by decide)]
          exact ite2 (yex yj) rfl hq0
        · show (likM (likX yA ys l yd yv) ys l yd yv).1 26 yj = (likM (likX yA ys l yd yv) ys l yd yv).1 96 yj
          rw [lM_low (by decide) (by decide) (by decide) (by decide) (by decide) (by decide), lX_26, lM_96, lX_low (yc := 96) (by decide) (by decide) (by decide) (by decide) (by decide) (by decide)]
          exact ite2 (yex yj) rfl hq0
        · show (likM (likX yA ys l yd yv) ys l yd yv).1 27 yj = (likM (likX yA ys l yd yv) ys l yd yv).1 97 yj
          rw [lM_low (by decide) (by decide) (by decide) (by decide) (by decide) (by decide), lX_27, lM_97, lX_low (yc := 97) (by decide) (by decide) (by decide) (by decide) (by decide) (by decide)]
          exact ite2 (yex yj) rfl hq0
        · show (likM (likX yA ys l yd yv) ys l yd yv).1 28 yj = (likM (likX yA ys l yd yv) ys l yd yv).1 98 yj
          rw [lM_low (by decide) (by decide) (by decide) (by decide) (by decide) (by decide), lX_28, lM_98, l0, lX_low (yc := 98) (by decide) (by decide) (by decide) (by decide) (by decide) (by decide)]
          exact ite2 (yex yj) yf0 hq0
      · intro yj hj
        rw [lM_96, lX_low (yc := 96) (by decide) (by decide) (by decide) (by decide) (by decide) (by decide)]
        unfold lkOk at ya1
        by_cases ye : yj = ((likX yA ys l yd yv).1 69 37).toInt.toNat
        · rw [if_pos ye]
          omega
        · rw [if_neg ye]
          exact hX yj hj
      · rw [some_int a4, some_int b4, l37, yf9]
theorem h_like0 {yp : zPr} (hp : yp.1 = 114 ∧ yp.2.1 = 183 ∧ yp.2.2.1 = 4) (yhc : c_rm yp = true) : PairOK (RR F19 Ar19 RX19) yp := by
  obtain ⟨yp1, yp2, yp3⟩ := hp
  refine pairK (D := on4 dLike) (E := on4 eLike) (by decide +kernel) (by decide +kernel) yhc (fun N yA yas _ hl => ?_) (fun N yA yas _ hl => ?_) (fun yA A1 A2 yas yx yy o1 _ _ hF hR hX hl ys1 ys2 => ?_)
  · rw [yp3] at hl
    obtain ⟨ya, yb, yc, yd, rfl⟩ := as4 hl
    rw [yp1]
    exact d_like N yA ya yb yc yd
  · rw [yp3] at hl
    obtain ⟨ya, yb, yc, yd, rfl⟩ := as4 hl
    rw [yp2]
    exact e_like N yA ya yb yc yd
  · rw [yp3] at hl
    obtain ⟨ya, yb, yc, yd, rfl⟩ := as4 hl
    obtain ⟨yr1, r2, r3, r4⟩ := k_like (ys := ya) (l := yb) (yd := yc) (yv := yd) o1 hF hR hX ys1 ys2
    exact ⟨yr1, r2, r3, fun _ => r4⟩
