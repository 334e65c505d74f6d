/-! POINT AND PROVE; what is equal of points -/
theorem bx_point {N : Nat} {A : AW} {Q : Option Value → AW → Prop} (f l n : Int32)
    (l1 : f.toInt < 0 → Q (some (.int (-1))) A)
    (l2 : 0 ≤ f.toInt → (A.1 5 6).toInt ≤ f.toInt → Q (some (.int (-1))) A)
    (l3 : 0 ≤ f.toInt → f.toInt < (A.1 5 6).toInt → l.toInt < 0 → Q (some (.int (-1))) A)
    (l4 : 0 ≤ f.toInt → f.toInt < (A.1 5 6).toInt → 0 ≤ l.toInt → 5 < l.toInt → Q (some (.int (-1))) A)
    (l5 : 0 ≤ f.toInt → f.toInt < (A.1 5 6).toInt → 0 ≤ l.toInt → l.toInt ≤ 5 → n.toInt < 1 → Q (some (.int (-1))) A)
    (l6 : 0 ≤ f.toInt → f.toInt < (A.1 5 6).toInt → 0 ≤ l.toInt → l.toInt ≤ 5 → 1 ≤ n.toInt → 20 < n.toInt → Q (some (.int (-1))) A)
    (l7 : 0 ≤ f.toInt → f.toInt < (A.1 5 6).toInt → 0 ≤ l.toInt → l.toInt ≤ 5 → 1 ≤ n.toInt → n.toInt ≤ 20 → (A.1 5 7).toInt < 100 → 0 ≤ (A.1 5 7).toInt → Q (some (.int (((A.1 5 7) + 1) - 1))) (uI (uI (uI (uI (uI A 8 ((A.1 5 7).toInt.toNat) f) 9 ((A.1 5 7).toInt.toNat) l) 10 ((A.1 5 7).toInt.toNat) n) 11 ((A.1 5 7).toInt.toNat) 3600) 5 7 ((A.1 5 7) + 1)))
    (l8 : 0 ≤ f.toInt → f.toInt < (A.1 5 6).toInt → 0 ≤ l.toInt → l.toInt ≤ 5 → 1 ≤ n.toInt → n.toInt ≤ 20 → 100 ≤ (A.1 5 7).toInt → Q (some (.int (-2))) A) :
    Pa N 108 0 [(0, .ref 0), (1, .int f), (2, .int l), (3, .int n)] [] A Q := by
  refine Pa.mp 1 (pc' := 1) (l' := [(0, .ref 0), (1, .int f), (2, .int l), (3, .int n)]) (st' := [.ref 0]) (by rfl) ?_
  refine Pa.gfR (by rfl) (by rfl) (.inl rfl) (by rfl) ?_
  show Pa N 108 4 [(0, .ref 0), (1, .int f), (2, .int l), (3, .int n)] [.ref 5] A _
  refine Pa.mp 1 (pc' := 5) (l' := [(0, .ref 0), (1, .int f), (2, .int l), (3, .int n)]) (st' := [.int f, .ref 5]) (by rfl) ?_
  refine Pa.inv (by rfl) (by rfl) (.inr rfl) (by rfl) ?_
  show Pa N 41 0 [(0, .ref 5), (1, .int f)] [] A _
  refine Pa.mp 1 (pc' := 1) (l' := [(0, .ref 5), (1, .int f)]) (st' := [.int f]) (by rfl) ?_
  refine Pa.if1 (a := f.toInt) (t := 16) (by rfl) (by rfl) (rfl) (fun h1 => ?_) (fun h2 => ?_)
  · skip
    refine Pa.ic (x := 0) (pc' := 17) (by rfl) (by rfl) (by decide) ?_
    refine Pa.iret (by rfl) ?_
    show Pa N 108 8 [(0, .ref 0), (1, .int f), (2, .int l), (3, .int n)] [.int 0] A _
    refine Pa.if1k true (by rfl) (by rfl) (by decide) ?_
    show Pa N 108 28 [(0, .ref 0), (1, .int f), (2, .int l), (3, .int n)] [] A _
    refine Pa.ic (x := (-1)) (pc' := 29) (by rfl) (by rfl) (by decide) ?_
    refine Pa.iret (by rfl) ?_
    exact l1 h1
  · skip
    refine Pa.mp 2 (pc' := 6) (l' := [(0, .ref 5), (1, .int f)]) (st' := [.ref 5, .int f]) (by rfl) ?_
    refine Pa.gfI (v := A.1 5 6) (by rfl) (by rfl) (.inl rfl) (by rfl) (by rfl) ?_
    refine Pa.if2 (a := f.toInt) (b := (A.1 5 6).toInt) (t := 16) (by rfl) (by rfl) (rfl) (rfl) (fun h3 => ?_) (fun h4 => ?_)
    · skip
      refine Pa.ic (x := 0) (pc' := 17) (by rfl) (by rfl) (by decide) ?_
      refine Pa.iret (by rfl) ?_
      show Pa N 108 8 [(0, .ref 0), (1, .int f), (2, .int l), (3, .int n)] [.int 0] A _
      refine Pa.if1k true (by rfl) (by rfl) (by decide) ?_
      show Pa N 108 28 [(0, .ref 0), (1, .int f), (2, .int l), (3, .int n)] [] A _
      refine Pa.ic (x := (-1)) (pc' := 29) (by rfl) (by rfl) (by decide) ?_
      refine Pa.iret (by rfl) ?_
      exact l2 h2 h3
    · skip
      refine Pa.ic (x := 1) (pc' := 13) (by rfl) (by rfl) (by decide) ?_
      refine Pa.mp 1 (pc' := 17) (l' := [(0, .ref 5), (1, .int f)]) (st' := [.int 1]) (by rfl) ?_
      refine Pa.iret (by rfl) ?_
      show Pa N 108 8 [(0, .ref 0), (1, .int f), (2, .int l), (3, .int n)] [.int 1] A _
      refine Pa.if1k false (by rfl) (by rfl) (by decide) ?_
      show Pa N 108 11 [(0, .ref 0), (1, .int f), (2, .int l), (3, .int n)] [] A _
      refine Pa.mp 1 (pc' := 12) (l' := [(0, .ref 0), (1, .int f), (2, .int l), (3, .int n)]) (st' := [.int l]) (by rfl) ?_
      refine Pa.ist (by rfl) (by rfl) (.inl rfl) (by rfl) (by rfl) ?_
      show Pa N 147 0 [(0, .int l)] [] A _
      refine Pa.mp 1 (pc' := 1) (l' := [(0, .int l)]) (st' := [.int l]) (by rfl) ?_
      refine Pa.ic (x := 0) (pc' := 2) (by rfl) (by rfl) (by decide) ?_
      refine Pa.ic (x := 5) (pc' := 3) (by rfl) (by rfl) (by decide) ?_
      refine Pa.ist (by rfl) (by rfl) (.inl rfl) (by rfl) (by rfl) ?_
      show Pa N 146 0 [(0, .int l), (1, .int 0), (2, .int 5)] [] A _
      refine Pa.mp 2 (pc' := 2) (l' := [(0, .int l), (1, .int 0), (2, .int 5)]) (st' := [.int 0, .int l]) (by rfl) ?_
      refine Pa.if2 (a := l.toInt) (b := 0) (t := 14) (by rfl) (by rfl) (rfl) (by decide) (fun h5 => ?_) (fun h6 => ?_)
      · skip
        refine Pa.ic (x := 0) (pc' := 15) (by rfl) (by rfl) (by decide) ?_
        refine Pa.iret (by rfl) ?_
        show Pa N 147 6 [(0, .int l)] [.int 0] A _
        refine Pa.iret (by rfl) ?_
        show Pa N 108 15 [(0, .ref 0), (1, .int f), (2, .int l), (3, .int n)] [.int 0] A _
        refine Pa.if1k true (by rfl) (by rfl) (by decide) ?_
        show Pa N 108 28 [(0, .ref 0), (1, .int f), (2, .int l), (3, .int n)] [] A _
        refine Pa.ic (x := (-1)) (pc' := 29) (by rfl) (by rfl) (by decide) ?_
        refine Pa.iret (by rfl) ?_
        exact l3 h2 h4 h5
      · skip
        refine Pa.mp 2 (pc' := 7) (l' := [(0, .int l), (1, .int 0), (2, .int 5)]) (st' := [.int 5, .int l]) (by rfl) ?_
        refine Pa.if2 (a := l.toInt) (b := 5) (t := 14) (by rfl) (by rfl) (rfl) (by decide) (fun h7 => ?_) (fun h8 => ?_)
        · skip
          refine Pa.ic (x := 0) (pc' := 15) (by rfl) (by rfl) (by decide) ?_
          refine Pa.iret (by rfl) ?_
          show Pa N 147 6 [(0, .int l)] [.int 0] A _
          refine Pa.iret (by rfl) ?_
          show Pa N 108 15 [(0, .ref 0), (1, .int f), (2, .int l), (3, .int n)] [.int 0] A _
          refine Pa.if1k true (by rfl) (by rfl) (by decide) ?_
          show Pa N 108 28 [(0, .ref 0), (1, .int f), (2, .int l), (3, .int n)] [] A _
          refine Pa.ic (x := (-1)) (pc' := 29) (by rfl) (by rfl) (by decide) ?_
          refine Pa.iret (by rfl) ?_
          exact l4 h2 h4 h6 h7
        · skip
          refine Pa.ic (x := 1) (pc' := 11) (by rfl) (by rfl) (by decide) ?_
          refine Pa.mp 1 (pc' := 15) (l' := [(0, .int l), (1, .int 0), (2, .int 5)]) (st' := [.int 1]) (by rfl) ?_
          refine Pa.iret (by rfl) ?_
          show Pa N 147 6 [(0, .int l)] [.int 1] A _
          refine Pa.iret (by rfl) ?_
          show Pa N 108 15 [(0, .ref 0), (1, .int f), (2, .int l), (3, .int n)] [.int 1] A _
          refine Pa.if1k false (by rfl) (by rfl) (by decide) ?_
          show Pa N 108 18 [(0, .ref 0), (1, .int f), (2, .int l), (3, .int n)] [] A _
          refine Pa.mp 1 (pc' := 19) (l' := [(0, .ref 0), (1, .int f), (2, .int l), (3, .int n)]) (st' := [.int n]) (by rfl) ?_
          refine Pa.ic (x := 1) (pc' := 20) (by rfl) (by rfl) (by decide) ?_
          refine Pa.ic (x := 20) (pc' := 22) (by rfl) (by rfl) (by decide) ?_
          refine Pa.ist (by rfl) (by rfl) (.inl rfl) (by rfl) (by rfl) ?_
          show Pa N 146 0 [(0, .int n), (1, .int 1), (2, .int 20)] [] A _
          refine Pa.mp 2 (pc' := 2) (l' := [(0, .int n), (1, .int 1), (2, .int 20)]) (st' := [.int 1, .int n]) (by rfl) ?_
          refine Pa.if2 (a := n.toInt) (b := 1) (t := 14) (by rfl) (by rfl) (rfl) (by decide) (fun h9 => ?_) (fun h10 => ?_)
          · skip
            refine Pa.ic (x := 0) (pc' := 15) (by rfl) (by rfl) (by decide) ?_
            refine Pa.iret (by rfl) ?_
            show Pa N 108 25 [(0, .ref 0), (1, .int f), (2, .int l), (3, .int n)] [.int 0] A _
            refine Pa.if1k false (by rfl) (by rfl) (by decide) ?_
            show Pa N 108 28 [(0, .ref 0), (1, .int f), (2, .int l), (3, .int n)] [] A _
            refine Pa.ic (x := (-1)) (pc' := 29) (by rfl) (by rfl) (by decide) ?_
            refine Pa.iret (by rfl) ?_
            exact l5 h2 h4 h6 h8 h9
          · skip
            refine Pa.mp 2 (pc' := 7) (l' := [(0, .int n), (1, .int 1), (2, .int 20)]) (st' := [.int 20, .int n]) (by rfl) ?_
            refine Pa.if2 (a := n.toInt) (b := 20) (t := 14) (by rfl) (by rfl) (rfl) (by decide) (fun h11 => ?_) (fun h12 => ?_)
            · skip
              refine Pa.ic (x := 0) (pc' := 15) (by rfl) (by rfl) (by decide) ?_
              refine Pa.iret (by rfl) ?_
              show Pa N 108 25 [(0, .ref 0), (1, .int f), (2, .int l), (3, .int n)] [.int 0] A _
              refine Pa.if1k false (by rfl) (by rfl) (by decide) ?_
              show Pa N 108 28 [(0, .ref 0), (1, .int f), (2, .int l), (3, .int n)] [] A _
              refine Pa.ic (x := (-1)) (pc' := 29) (by rfl) (by rfl) (by decide) ?_
              refine Pa.iret (by rfl) ?_
              exact l6 h2 h4 h6 h8 h10 h11
            · skip
              refine Pa.ic (x := 1) (pc' := 11) (by rfl) (by rfl) (by decide) ?_
              refine Pa.mp 1 (pc' := 15) (l' := [(0, .int n), (1, .int 1), (2, .int 20)]) (st' := [.int 1]) (by rfl) ?_
              refine Pa.iret (by rfl) ?_
              show Pa N 108 25 [(0, .ref 0), (1, .int f), (2, .int l), (3, .int n)] [.int 1] A _
              refine Pa.if1k true (by rfl) (by rfl) (by decide) ?_
              show Pa N 108 30 [(0, .ref 0), (1, .int f), (2, .int l), (3, .int n)] [] A _
              refine Pa.mp 1 (pc' := 31) (l' := [(0, .ref 0), (1, .int f), (2, .int l), (3, .int n)]) (st' := [.ref 0]) (by rfl) ?_
              refine Pa.gfR (by rfl) (by rfl) (.inl rfl) (by rfl) ?_
              show Pa N 108 34 [(0, .ref 0), (1, .int f), (2, .int l), (3, .int n)] [.ref 5] A _
              refine Pa.mp 3 (pc' := 37) (l' := [(0, .ref 0), (1, .int f), (2, .int l), (3, .int n)]) (st' := [.int n, .int l, .int f, .ref 5]) (by rfl) ?_
              refine Pa.inv (by rfl) (by rfl) (.inr rfl) (by rfl) ?_
              show Pa N 44 0 [(0, .ref 5), (1, .int f), (2, .int l), (3, .int n)] [] A _
              refine Pa.mp 1 (pc' := 1) (l' := [(0, .ref 5), (1, .int f), (2, .int l), (3, .int n)]) (st' := [.ref 5]) (by rfl) ?_
              refine Pa.gfI (v := A.1 5 7) (by rfl) (by rfl) (.inl rfl) (by rfl) (by rfl) ?_
              refine Pa.ic (x := 100) (pc' := 6) (by rfl) (by rfl) (by decide) ?_
              refine Pa.if2 (a := (A.1 5 7).toInt) (b := 100) (t := 12) (by rfl) (by rfl) (rfl) (by decide) (fun h13 => ?_) (fun h14 => ?_)
              · skip
                refine Pa.mp 1 (pc' := 13) (l' := [(0, .ref 5), (1, .int f), (2, .int l), (3, .int n)]) (st' := [.ref 5]) (by rfl) ?_
                refine Pa.gfR (by rfl) (by rfl) (.inl rfl) (by rfl) ?_
                show Pa N 44 16 [(0, .ref 5), (1, .int f), (2, .int l), (3, .int n)] [.ref 8] A _
                refine Pa.mp 1 (pc' := 17) (l' := [(0, .ref 5), (1, .int f), (2, .int l), (3, .int n)]) (st' := [.ref 5, .ref 8]) (by rfl) ?_
                refine Pa.gfI (v := A.1 5 7) (by rfl) (by rfl) (.inl rfl) (by rfl) (by rfl) ?_
                refine Pa.mp 1 (pc' := 21) (l' := [(0, .ref 5), (1, .int f), (2, .int l), (3, .int n)]) (st' := [.int f, .int (A.1 5 7), .ref 8]) (by rfl) ?_
                refine Pa.asts (j' := ((A.1 5 7).toInt.toNat)) (by rfl) (by rfl) (by rfl) (fun h15 h16 => ?_)
                show Pa N 44 22 [(0, .ref 5), (1, .int f), (2, .int l), (3, .int n)] [] (uI A 8 ((A.1 5 7).toInt.toNat) f) _
                refine Pa.mp 1 (pc' := 23) (l' := [(0, .ref 5), (1, .int f), (2, .int l), (3, .int n)]) (st' := [.ref 5]) (by rfl) ?_
                refine Pa.gfR (by rfl) (by rfl) (.inl rfl) (by rfl) ?_
                show Pa N 44 26 [(0, .ref 5), (1, .int f), (2, .int l), (3, .int n)] [.ref 9] (uI A 8 ((A.1 5 7).toInt.toNat) f) _
                refine Pa.mp 1 (pc' := 27) (l' := [(0, .ref 5), (1, .int f), (2, .int l), (3, .int n)]) (st' := [.ref 5, .ref 9]) (by rfl) ?_
                refine Pa.gfI (v := A.1 5 7) (by rfl) (by rfl) (.inl rfl) (by rfl) (by rw [uI_c (by decide)]) ?_
                refine Pa.mp 1 (pc' := 31) (l' := [(0, .ref 5), (1, .int f), (2, .int l), (3, .int n)]) (st' := [.int l, .int (A.1 5 7), .ref 9]) (by rfl) ?_
                refine Pa.asts (j' := ((A.1 5 7).toInt.toNat)) (by rfl) (by rfl) (by rfl) (fun h17 h18 => ?_)
                show Pa N 44 32 [(0, .ref 5), (1, .int f), (2, .int l), (3, .int n)] [] (uI (uI A 8 ((A.1 5 7).toInt.toNat) f) 9 ((A.1 5 7).toInt.toNat) l) _
                refine Pa.mp 1 (pc' := 33) (l' := [(0, .ref 5), (1, .int f), (2, .int l), (3, .int n)]) (st' := [.ref 5]) (by rfl) ?_
                refine Pa.gfR (by rfl) (by rfl) (.inl rfl) (by rfl) ?_
                show Pa N 44 36 [(0, .ref 5), (1, .int f), (2, .int l), (3, .int n)] [.ref 10] (uI (uI A 8 ((A.1 5 7).toInt.toNat) f) 9 ((A.1 5 7).toInt.toNat) l) _
                refine Pa.mp 1 (pc' := 37) (l' := [(0, .ref 5), (1, .int f), (2, .int l), (3, .int n)]) (st' := [.ref 5, .ref 10]) (by rfl) ?_
                refine Pa.gfI (v := A.1 5 7) (by rfl) (by rfl) (.inl rfl) (by rfl) (by rw [uI_c (by decide), uI_c (by decide)]) ?_
                refine Pa.mp 1 (pc' := 41) (l' := [(0, .ref 5), (1, .int f), (2, .int l), (3, .int n)]) (st' := [.int n, .int (A.1 5 7), .ref 10]) (by rfl) ?_
                refine Pa.asts (j' := ((A.1 5 7).toInt.toNat)) (by rfl) (by rfl) (by rfl) (fun h19 h20 => ?_)
                show Pa N 44 42 [(0, .ref 5), (1, .int f), (2, .int l), (3, .int n)] [] (uI (uI (uI A 8 ((A.1 5 7).toInt.toNat) f) 9 ((A.1 5 7).toInt.toNat) l) 10 ((A.1 5 7).toInt.toNat) n) _
                refine Pa.mp 1 (pc' := 43) (l' := [(0, .ref 5), (1, .int f), (2, .int l), (3, .int n)]) (st' := [.ref 5]) (by rfl) ?_
                refine Pa.gfR (by rfl) (by rfl) (.inl rfl) (by rfl) ?_
                show Pa N 44 46 [(0, .ref 5), (1, .int f), (2, .int l), (3, .int n)] [.ref 11] (uI (uI (uI A 8 ((A.1 5 7).toInt.toNat) f) 9 ((A.1 5 7).toInt.toNat) l) 10 ((A.1 5 7).toInt.toNat) n) _
                refine Pa.mp 1 (pc' := 47) (l' := [(0, .ref 5), (1, .int f), (2, .int l), (3, .int n)]) (st' := [.ref 5, .ref 11]) (by rfl) ?_
                refine Pa.gfI (v := A.1 5 7) (by rfl) (by rfl) (.inl rfl) (by rfl) (by rw [uI_c (by decide), uI_c (by decide), uI_c (by decide)]) ?_
                refine Pa.ic (x := 3600) (pc' := 53) (by rfl) (by rfl) (by decide) ?_
                refine Pa.asts (j' := ((A.1 5 7).toInt.toNat)) (by rfl) (by rfl) (by rfl) (fun h21 h22 => ?_)
                show Pa N 44 54 [(0, .ref 5), (1, .int f), (2, .int l), (3, .int n)] [] (uI (uI (uI (uI A 8 ((A.1 5 7).toInt.toNat) f) 9 ((A.1 5 7).toInt.toNat) l) 10 ((A.1 5 7).toInt.toNat) n) 11 ((A.1 5 7).toInt.toNat) 3600) _
                refine Pa.mp 2 (pc' := 56) (l' := [(0, .ref 5), (1, .int f), (2, .int l), (3, .int n)]) (st' := [.ref 5, .ref 5]) (by rfl) ?_
                refine Pa.gfI (v := A.1 5 7) (by rfl) (by rfl) (.inl rfl) (by rfl) (by rw [uI_c (by decide), uI_c (by decide), uI_c (by decide), uI_c (by decide)]) ?_
                refine Pa.ic (x := 1) (pc' := 60) (by rfl) (by rfl) (by decide) ?_
                refine Pa.mp 1 (pc' := 61) (l' := [(0, .ref 5), (1, .int f), (2, .int l), (3, .int n)]) (st' := [.int ((A.1 5 7) + 1), .ref 5]) (by rfl) ?_
                refine Pa.pfI (by rfl) (by rfl) (.inl rfl) (by rfl) ?_
                show Pa N 44 64 [(0, .ref 5), (1, .int f), (2, .int l), (3, .int n)] [] (uI (uI (uI (uI (uI A 8 ((A.1 5 7).toInt.toNat) f) 9 ((A.1 5 7).toInt.toNat) l) 10 ((A.1 5 7).toInt.toNat) n) 11 ((A.1 5 7).toInt.toNat) 3600) 5 7 ((A.1 5 7) + 1)) _
                refine Pa.mp 1 (pc' := 65) (l' := [(0, .ref 5), (1, .int f), (2, .int l), (3, .int n)]) (st' := [.ref 5]) (by rfl) ?_
                refine Pa.gfI (v := (A.1 5 7) + 1) (by rfl) (by rfl) (.inl rfl) (by rfl) (by rw [uI_h]) ?_
                refine Pa.ic (x := 1) (pc' := 69) (by rfl) (by rfl) (by decide) ?_
                refine Pa.mp 1 (pc' := 70) (l' := [(0, .ref 5), (1, .int f), (2, .int l), (3, .int n)]) (st' := [.int (((A.1 5 7) + 1) - 1)]) (by rfl) ?_
                refine Pa.iret (by rfl) ?_
                show Pa N 108 40 [(0, .ref 0), (1, .int f), (2, .int l), (3, .int n)] [.int (((A.1 5 7) + 1) - 1)] (uI (uI (uI (uI (uI A 8 ((A.1 5 7).toInt.toNat) f) 9 ((A.1 5 7).toInt.toNat) l) 10 ((A.1 5 7).toInt.toNat) n) 11 ((A.1 5 7).toInt.toNat) 3600) 5 7 ((A.1 5 7) + 1)) _
                refine Pa.iret (by rfl) ?_
                exact l7 h2 h4 h6 h8 h10 h12 h13 h15
              · skip
                refine Pa.ic (x := (-2)) (pc' := 11) (by rfl) (by rfl) (by decide) ?_
                refine Pa.iret (by rfl) ?_
                show Pa N 108 40 [(0, .ref 0), (1, .int f), (2, .int l), (3, .int n)] [.int (-2)] A _
                refine Pa.iret (by rfl) ?_
                exact l8 h2 h4 h6 h8 h10 h12 h14

theorem bm_point {N : Nat} {A : AW} {Q : Option Value → AW → Prop} (f l n : Int32)
    (l1 : f.toInt < 0 → Q (some (.int (-1))) A)
    (l2 : 0 ≤ f.toInt → (A.1 69 11).toInt ≤ f.toInt → Q (some (.int (-1))) A)
    (l3 : 0 ≤ f.toInt → f.toInt < (A.1 69 11).toInt → l.toInt < 0 → Q (some (.int (-1))) A)
    (l4 : 0 ≤ f.toInt → f.toInt < (A.1 69 11).toInt → 0 ≤ l.toInt → 5 < l.toInt → Q (some (.int (-1))) A)
    (l5 : 0 ≤ f.toInt → f.toInt < (A.1 69 11).toInt → 0 ≤ l.toInt → l.toInt ≤ 5 → n.toInt < 1 → Q (some (.int (-1))) A)
    (l6 : 0 ≤ f.toInt → f.toInt < (A.1 69 11).toInt → 0 ≤ l.toInt → l.toInt ≤ 5 → 1 ≤ n.toInt → 20 < n.toInt → Q (some (.int (-1))) A)
    (l7 : 0 ≤ f.toInt → f.toInt < (A.1 69 11).toInt → 0 ≤ l.toInt → l.toInt ≤ 5 → 1 ≤ n.toInt → n.toInt ≤ 20 → (A.1 69 24).toInt ≠ 100 → 0 ≤ (A.1 69 24).toInt → (A.1 69 24).toInt < 100 → Q (some (.int (((A.1 69 24) + 1) - 1))) (uI (uI (uI (uI (uI A 84 ((A.1 69 24).toInt.toNat) f) 85 ((A.1 69 24).toInt.toNat) l) 86 ((A.1 69 24).toInt.toNat) n) 87 ((A.1 69 24).toInt.toNat) (-1)) 69 24 ((A.1 69 24) + 1)))
    (l8 : 0 ≤ f.toInt → f.toInt < (A.1 69 11).toInt → 0 ≤ l.toInt → l.toInt ≤ 5 → 1 ≤ n.toInt → n.toInt ≤ 20 → (A.1 69 24).toInt = 100 → Q (some (.int (-2))) A) :
    Pa N 173 0 [(0, .ref 69), (1, .int f), (2, .int l), (3, .int n)] [] A Q := by
  refine Pa.mp 2 (pc' := 2) (l' := [(0, .ref 69), (1, .int f), (2, .int l), (3, .int n)]) (st' := [.int f, .ref 69]) (by rfl) ?_
  refine Pa.inv (by rfl) (by rfl) (.inl rfl) (by rfl) ?_
  show Pa N 157 0 [(0, .ref 69), (1, .int f)] [] A _
  refine Pa.mp 1 (pc' := 1) (l' := [(0, .ref 69), (1, .int f)]) (st' := [.int f]) (by rfl) ?_
  refine Pa.if1 (a := f.toInt) (t := 16) (by rfl) (by rfl) (rfl) (fun h1 => ?_) (fun h2 => ?_)
  · skip
    refine Pa.ic (x := 0) (pc' := 17) (by rfl) (by rfl) (by decide) ?_
    refine Pa.iret (by rfl) ?_
    show Pa N 173 5 [(0, .ref 69), (1, .int f), (2, .int l), (3, .int n)] [.int 0] A _
    refine Pa.if1k true (by rfl) (by rfl) (by decide) ?_
    show Pa N 173 25 [(0, .ref 69), (1, .int f), (2, .int l), (3, .int n)] [] A _
    refine Pa.ic (x := (-1)) (pc' := 26) (by rfl) (by rfl) (by decide) ?_
    refine Pa.iret (by rfl) ?_
    exact l1 h1
  · skip
    refine Pa.mp 2 (pc' := 6) (l' := [(0, .ref 69), (1, .int f)]) (st' := [.ref 69, .int f]) (by rfl) ?_
    refine Pa.gfI (v := A.1 69 11) (by rfl) (by rfl) (.inl rfl) (by rfl) (by rfl) ?_
    refine Pa.if2 (a := f.toInt) (b := (A.1 69 11).toInt) (t := 16) (by rfl) (by rfl) (rfl) (rfl) (fun h3 => ?_) (fun h4 => ?_)
    · skip
      refine Pa.ic (x := 0) (pc' := 17) (by rfl) (by rfl) (by decide) ?_
      refine Pa.iret (by rfl) ?_
      show Pa N 173 5 [(0, .ref 69), (1, .int f), (2, .int l), (3, .int n)] [.int 0] A _
      refine Pa.if1k true (by rfl) (by rfl) (by decide) ?_
      show Pa N 173 25 [(0, .ref 69), (1, .int f), (2, .int l), (3, .int n)] [] A _
      refine Pa.ic (x := (-1)) (pc' := 26) (by rfl) (by rfl) (by decide) ?_
      refine Pa.iret (by rfl) ?_
      exact l2 h2 h3
    · skip
      refine Pa.ic (x := 1) (pc' := 13) (by rfl) (by rfl) (by decide) ?_
      refine Pa.mp 1 (pc' := 17) (l' := [(0, .ref 69), (1, .int f)]) (st' := [.int 1]) (by rfl) ?_
      refine Pa.iret (by rfl) ?_
      show Pa N 173 5 [(0, .ref 69), (1, .int f), (2, .int l), (3, .int n)] [.int 1] A _
      refine Pa.if1k false (by rfl) (by rfl) (by decide) ?_
      show Pa N 173 8 [(0, .ref 69), (1, .int f), (2, .int l), (3, .int n)] [] A _
      refine Pa.mp 1 (pc' := 9) (l' := [(0, .ref 69), (1, .int f), (2, .int l), (3, .int n)]) (st' := [.int l]) (by rfl) ?_
      refine Pa.ist (by rfl) (by rfl) (.inl rfl) (by rfl) (by rfl) ?_
      show Pa N 154 0 [(0, .int l)] [] A _
      refine Pa.mp 1 (pc' := 1) (l' := [(0, .int l)]) (st' := [.int l]) (by rfl) ?_
      refine Pa.ic (x := 0) (pc' := 2) (by rfl) (by rfl) (by decide) ?_
      refine Pa.ic (x := 5) (pc' := 3) (by rfl) (by rfl) (by decide) ?_
      refine Pa.ist (by rfl) (by rfl) (.inl rfl) (by rfl) (by rfl) ?_
      show Pa N 152 0 [(0, .int l), (1, .int 0), (2, .int 5)] [] A _
      refine Pa.mp 2 (pc' := 2) (l' := [(0, .int l), (1, .int 0), (2, .int 5)]) (st' := [.int 0, .int l]) (by rfl) ?_
      refine Pa.if2 (a := l.toInt) (b := 0) (t := 14) (by rfl) (by rfl) (rfl) (by decide) (fun h5 => ?_) (fun h6 => ?_)
      · skip
        refine Pa.ic (x := 0) (pc' := 15) (by rfl) (by rfl) (by decide) ?_
        refine Pa.iret (by rfl) ?_
        show Pa N 154 6 [(0, .int l)] [.int 0] A _
        refine Pa.iret (by rfl) ?_
        show Pa N 173 12 [(0, .ref 69), (1, .int f), (2, .int l), (3, .int n)] [.int 0] A _
        refine Pa.if1k true (by rfl) (by rfl) (by decide) ?_
        show Pa N 173 25 [(0, .ref 69), (1, .int f), (2, .int l), (3, .int n)] [] A _
        refine Pa.ic (x := (-1)) (pc' := 26) (by rfl) (by rfl) (by decide) ?_
        refine Pa.iret (by rfl) ?_
        exact l3 h2 h4 h5
      · skip
        refine Pa.mp 2 (pc' := 7) (l' := [(0, .int l), (1, .int 0), (2, .int 5)]) (st' := [.int 5, .int l]) (by rfl) ?_
        refine Pa.if2 (a := l.toInt) (b := 5) (t := 14) (by rfl) (by rfl) (rfl) (by decide) (fun h7 => ?_) (fun h8 => ?_)
        · skip
          refine Pa.ic (x := 0) (pc' := 15) (by rfl) (by rfl) (by decide) ?_
          refine Pa.iret (by rfl) ?_
          show Pa N 154 6 [(0, .int l)] [.int 0] A _
          refine Pa.iret (by rfl) ?_
          show Pa N 173 12 [(0, .ref 69), (1, .int f), (2, .int l), (3, .int n)] [.int 0] A _
          refine Pa.if1k true (by rfl) (by rfl) (by decide) ?_
          show Pa N 173 25 [(0, .ref 69), (1, .int f), (2, .int l), (3, .int n)] [] A _
          refine Pa.ic (x := (-1)) (pc' := 26) (by rfl) (by rfl) (by decide) ?_
          refine Pa.iret (by rfl) ?_
          exact l4 h2 h4 h6 h7
        · skip
          refine Pa.ic (x := 1) (pc' := 11) (by rfl) (by rfl) (by decide) ?_
          refine Pa.mp 1 (pc' := 15) (l' := [(0, .int l), (1, .int 0), (2, .int 5)]) (st' := [.int 1]) (by rfl) ?_
          refine Pa.iret (by rfl) ?_
          show Pa N 154 6 [(0, .int l)] [.int 1] A _
          refine Pa.iret (by rfl) ?_
          show Pa N 173 12 [(0, .ref 69), (1, .int f), (2, .int l), (3, .int n)] [.int 1] A _
          refine Pa.if1k false (by rfl) (by rfl) (by decide) ?_
          show Pa N 173 15 [(0, .ref 69), (1, .int f), (2, .int l), (3, .int n)] [] A _
          refine Pa.mp 1 (pc' := 16) (l' := [(0, .ref 69), (1, .int f), (2, .int l), (3, .int n)]) (st' := [.int n]) (by rfl) ?_
          refine Pa.ic (x := 1) (pc' := 17) (by rfl) (by rfl) (by decide) ?_
          refine Pa.ic (x := 20) (pc' := 19) (by rfl) (by rfl) (by decide) ?_
          refine Pa.ist (by rfl) (by rfl) (.inl rfl) (by rfl) (by rfl) ?_
          show Pa N 152 0 [(0, .int n), (1, .int 1), (2, .int 20)] [] A _
          refine Pa.mp 2 (pc' := 2) (l' := [(0, .int n), (1, .int 1), (2, .int 20)]) (st' := [.int 1, .int n]) (by rfl) ?_
          refine Pa.if2 (a := n.toInt) (b := 1) (t := 14) (by rfl) (by rfl) (rfl) (by decide) (fun h9 => ?_) (fun h10 => ?_)
          · skip
            refine Pa.ic (x := 0) (pc' := 15) (by rfl) (by rfl) (by decide) ?_
            refine Pa.iret (by rfl) ?_
            show Pa N 173 22 [(0, .ref 69), (1, .int f), (2, .int l), (3, .int n)] [.int 0] A _
            refine Pa.if1k false (by rfl) (by rfl) (by decide) ?_
            show Pa N 173 25 [(0, .ref 69), (1, .int f), (2, .int l), (3, .int n)] [] A _
            refine Pa.ic (x := (-1)) (pc' := 26) (by rfl) (by rfl) (by decide) ?_
            refine Pa.iret (by rfl) ?_
            exact l5 h2 h4 h6 h8 h9
          · skip
            refine Pa.mp 2 (pc' := 7) (l' := [(0, .int n), (1, .int 1), (2, .int 20)]) (st' := [.int 20, .int n]) (by rfl) ?_
            refine Pa.if2 (a := n.toInt) (b := 20) (t := 14) (by rfl) (by rfl) (rfl) (by decide) (fun h11 => ?_) (fun h12 => ?_)
            · skip
              refine Pa.ic (x := 0) (pc' := 15) (by rfl) (by rfl) (by decide) ?_
              refine Pa.iret (by rfl) ?_
              show Pa N 173 22 [(0, .ref 69), (1, .int f), (2, .int l), (3, .int n)] [.int 0] A _
              refine Pa.if1k false (by rfl) (by rfl) (by decide) ?_
              show Pa N 173 25 [(0, .ref 69), (1, .int f), (2, .int l), (3, .int n)] [] A _
              refine Pa.ic (x := (-1)) (pc' := 26) (by rfl) (by rfl) (by decide) ?_
              refine Pa.iret (by rfl) ?_
              exact l6 h2 h4 h6 h8 h10 h11
            · skip
              refine Pa.ic (x := 1) (pc' := 11) (by rfl) (by rfl) (by decide) ?_
              refine Pa.mp 1 (pc' := 15) (l' := [(0, .int n), (1, .int 1), (2, .int 20)]) (st' := [.int 1]) (by rfl) ?_
              refine Pa.iret (by rfl) ?_
              show Pa N 173 22 [(0, .ref 69), (1, .int f), (2, .int l), (3, .int n)] [.int 1] A _
              refine Pa.if1k true (by rfl) (by rfl) (by decide) ?_
              show Pa N 173 27 [(0, .ref 69), (1, .int f), (2, .int l), (3, .int n)] [] A _
              refine Pa.mp 1 (pc' := 28) (l' := [(0, .ref 69), (1, .int f), (2, .int l), (3, .int n)]) (st' := [.ref 69]) (by rfl) ?_
              refine Pa.gfI (v := A.1 69 24) (by rfl) (by rfl) (.inl rfl) (by rfl) (by rfl) ?_
              refine Pa.ic (x := 100) (pc' := 33) (by rfl) (by rfl) (by decide) ?_
              refine Pa.if2 (a := (A.1 69 24).toInt) (b := 100) (t := 39) (by rfl) (by rfl) (rfl) (by decide) (fun h13 => ?_) (fun h14 => ?_)
              · skip
                refine Pa.mp 1 (pc' := 40) (l' := [(0, .ref 69), (1, .int f), (2, .int l), (3, .int n)]) (st' := [.ref 69]) (by rfl) ?_
                refine Pa.gfR (by rfl) (by rfl) (.inl rfl) (by rfl) ?_
                show Pa N 173 43 [(0, .ref 69), (1, .int f), (2, .int l), (3, .int n)] [.ref 84] A _
                refine Pa.mp 1 (pc' := 44) (l' := [(0, .ref 69), (1, .int f), (2, .int l), (3, .int n)]) (st' := [.ref 69, .ref 84]) (by rfl) ?_
                refine Pa.gfI (v := A.1 69 24) (by rfl) (by rfl) (.inl rfl) (by rfl) (by rfl) ?_
                refine Pa.mp 1 (pc' := 48) (l' := [(0, .ref 69), (1, .int f), (2, .int l), (3, .int n)]) (st' := [.int f, .int (A.1 69 24), .ref 84]) (by rfl) ?_
                refine Pa.asts (j' := ((A.1 69 24).toInt.toNat)) (by rfl) (by rfl) (by rfl) (fun h15 h16 => ?_)
                show Pa N 173 49 [(0, .ref 69), (1, .int f), (2, .int l), (3, .int n)] [] (uI A 84 ((A.1 69 24).toInt.toNat) f) _
                refine Pa.mp 1 (pc' := 50) (l' := [(0, .ref 69), (1, .int f), (2, .int l), (3, .int n)]) (st' := [.ref 69]) (by rfl) ?_
                refine Pa.gfR (by rfl) (by rfl) (.inl rfl) (by rfl) ?_
                show Pa N 173 53 [(0, .ref 69), (1, .int f), (2, .int l), (3, .int n)] [.ref 85] (uI A 84 ((A.1 69 24).toInt.toNat) f) _
                refine Pa.mp 1 (pc' := 54) (l' := [(0, .ref 69), (1, .int f), (2, .int l), (3, .int n)]) (st' := [.ref 69, .ref 85]) (by rfl) ?_
                refine Pa.gfI (v := A.1 69 24) (by rfl) (by rfl) (.inl rfl) (by rfl) (by rw [uI_c (by decide)]) ?_
                refine Pa.mp 1 (pc' := 58) (l' := [(0, .ref 69), (1, .int f), (2, .int l), (3, .int n)]) (st' := [.int l, .int (A.1 69 24), .ref 85]) (by rfl) ?_
                refine Pa.asts (j' := ((A.1 69 24).toInt.toNat)) (by rfl) (by rfl) (by rfl) (fun h17 h18 => ?_)
                show Pa N 173 59 [(0, .ref 69), (1, .int f), (2, .int l), (3, .int n)] [] (uI (uI A 84 ((A.1 69 24).toInt.toNat) f) 85 ((A.1 69 24).toInt.toNat) l) _
                refine Pa.mp 1 (pc' := 60) (l' := [(0, .ref 69), (1, .int f), (2, .int l), (3, .int n)]) (st' := [.ref 69]) (by rfl) ?_
                refine Pa.gfR (by rfl) (by rfl) (.inl rfl) (by rfl) ?_
                show Pa N 173 63 [(0, .ref 69), (1, .int f), (2, .int l), (3, .int n)] [.ref 86] (uI (uI A 84 ((A.1 69 24).toInt.toNat) f) 85 ((A.1 69 24).toInt.toNat) l) _
                refine Pa.mp 1 (pc' := 64) (l' := [(0, .ref 69), (1, .int f), (2, .int l), (3, .int n)]) (st' := [.ref 69, .ref 86]) (by rfl) ?_
                refine Pa.gfI (v := A.1 69 24) (by rfl) (by rfl) (.inl rfl) (by rfl) (by rw [uI_c (by decide), uI_c (by decide)]) ?_
                refine Pa.mp 1 (pc' := 68) (l' := [(0, .ref 69), (1, .int f), (2, .int l), (3, .int n)]) (st' := [.int n, .int (A.1 69 24), .ref 86]) (by rfl) ?_
                refine Pa.asts (j' := ((A.1 69 24).toInt.toNat)) (by rfl) (by rfl) (by rfl) (fun h19 h20 => ?_)
                show Pa N 173 69 [(0, .ref 69), (1, .int f), (2, .int l), (3, .int n)] [] (uI (uI (uI A 84 ((A.1 69 24).toInt.toNat) f) 85 ((A.1 69 24).toInt.toNat) l) 86 ((A.1 69 24).toInt.toNat) n) _
                refine Pa.mp 1 (pc' := 70) (l' := [(0, .ref 69), (1, .int f), (2, .int l), (3, .int n)]) (st' := [.ref 69]) (by rfl) ?_
                refine Pa.gfR (by rfl) (by rfl) (.inl rfl) (by rfl) ?_
                show Pa N 173 73 [(0, .ref 69), (1, .int f), (2, .int l), (3, .int n)] [.ref 87] (uI (uI (uI A 84 ((A.1 69 24).toInt.toNat) f) 85 ((A.1 69 24).toInt.toNat) l) 86 ((A.1 69 24).toInt.toNat) n) _
                refine Pa.mp 1 (pc' := 74) (l' := [(0, .ref 69), (1, .int f), (2, .int l), (3, .int n)]) (st' := [.ref 69, .ref 87]) (by rfl) ?_
                refine Pa.gfI (v := A.1 69 24) (by rfl) (by rfl) (.inl rfl) (by rfl) (by rw [uI_c (by decide), uI_c (by decide), uI_c (by decide)]) ?_
                refine Pa.ic (x := (-1)) (pc' := 78) (by rfl) (by rfl) (by decide) ?_
                refine Pa.asts (j' := ((A.1 69 24).toInt.toNat)) (by rfl) (by rfl) (by rfl) (fun h21 h22 => ?_)
                show Pa N 173 79 [(0, .ref 69), (1, .int f), (2, .int l), (3, .int n)] [] (uI (uI (uI (uI A 84 ((A.1 69 24).toInt.toNat) f) 85 ((A.1 69 24).toInt.toNat) l) 86 ((A.1 69 24).toInt.toNat) n) 87 ((A.1 69 24).toInt.toNat) (-1)) _
                refine Pa.mp 2 (pc' := 81) (l' := [(0, .ref 69), (1, .int f), (2, .int l), (3, .int n)]) (st' := [.ref 69, .ref 69]) (by rfl) ?_
                refine Pa.gfI (v := A.1 69 24) (by rfl) (by rfl) (.inl rfl) (by rfl) (by rw [uI_c (by decide), uI_c (by decide), uI_c (by decide), uI_c (by decide)]) ?_
                refine Pa.ic (x := 1) (pc' := 85) (by rfl) (by rfl) (by decide) ?_
                refine Pa.mp 1 (pc' := 86) (l' := [(0, .ref 69), (1, .int f), (2, .int l), (3, .int n)]) (st' := [.int ((A.1 69 24) + 1), .ref 69]) (by rfl) ?_
                refine Pa.pfI (by rfl) (by rfl) (.inl rfl) (by rfl) ?_
                show Pa N 173 89 [(0, .ref 69), (1, .int f), (2, .int l), (3, .int n)] [] (uI (uI (uI (uI (uI A 84 ((A.1 69 24).toInt.toNat) f) 85 ((A.1 69 24).toInt.toNat) l) 86 ((A.1 69 24).toInt.toNat) n) 87 ((A.1 69 24).toInt.toNat) (-1)) 69 24 ((A.1 69 24) + 1)) _
                refine Pa.mp 1 (pc' := 90) (l' := [(0, .ref 69), (1, .int f), (2, .int l), (3, .int n)]) (st' := [.ref 69]) (by rfl) ?_
                refine Pa.gfI (v := (A.1 69 24) + 1) (by rfl) (by rfl) (.inl rfl) (by rfl) (by rw [uI_h]) ?_
                refine Pa.ic (x := 1) (pc' := 94) (by rfl) (by rfl) (by decide) ?_
                refine Pa.mp 1 (pc' := 95) (l' := [(0, .ref 69), (1, .int f), (2, .int l), (3, .int n)]) (st' := [.int (((A.1 69 24) + 1) - 1)]) (by rfl) ?_
                refine Pa.iret (by rfl) ?_
                exact l7 h2 h4 h6 h8 h10 h12 h13 h15 h16
              · skip
                refine Pa.ic (x := (-2)) (pc' := 38) (by rfl) (by rfl) (by decide) ?_
                refine Pa.iret (by rfl) ?_
                exact l8 h2 h4 h6 h8 h10 h12 h14

theorem bx_prove {N : Nat} {A : AW} {Q : Option Value → AW → Prop} (p : Int32)
    (l1 : p.toInt < 0 → Q (some (.int (-1))) A)
    (l2 : 0 ≤ p.toInt → (A.1 5 7).toInt ≤ p.toInt → Q (some (.int (-1))) A)
    (l3 : 0 ≤ p.toInt → p.toInt < (A.1 5 7).toInt → p.toInt < 100 → (A.1 11 p.toInt.toNat).toInt = 3600 → Q (some (.int 1)) (uI A 11 p.toInt.toNat (A.1 0 10)))
    (l4 : 0 ≤ p.toInt → p.toInt < (A.1 5 7).toInt → p.toInt < 100 → (A.1 11 p.toInt.toNat).toInt ≠ 3600 → Q (some (.int (-3))) A) :
    Pa N 109 0 [(0, .ref 0), (1, .int p)] [] A Q := by
  refine Pa.mp 1 (pc' := 1) (l' := [(0, .ref 0), (1, .int p)]) (st' := [.ref 0]) (by rfl) ?_
  refine Pa.gfR (by rfl) (by rfl) (.inl rfl) (by rfl) ?_
  show Pa N 109 4 [(0, .ref 0), (1, .int p)] [.ref 5] A _
  refine Pa.mp 1 (pc' := 5) (l' := [(0, .ref 0), (1, .int p)]) (st' := [.int p, .ref 5]) (by rfl) ?_
  refine Pa.inv (by rfl) (by rfl) (.inr rfl) (by rfl) ?_
  show Pa N 43 0 [(0, .ref 5), (1, .int p)] [] A _
  refine Pa.mp 1 (pc' := 1) (l' := [(0, .ref 5), (1, .int p)]) (st' := [.int p]) (by rfl) ?_
  refine Pa.if1 (a := p.toInt) (t := 16) (by rfl) (by rfl) (rfl) (fun h1 => ?_) (fun h2 => ?_)
  · skip
    refine Pa.ic (x := 0) (pc' := 17) (by rfl) (by rfl) (by decide) ?_
    refine Pa.iret (by rfl) ?_
    show Pa N 109 8 [(0, .ref 0), (1, .int p)] [.int 0] A _
    refine Pa.if1k false (by rfl) (by rfl) (by decide) ?_
    show Pa N 109 11 [(0, .ref 0), (1, .int p)] [] A _
    refine Pa.ic (x := (-1)) (pc' := 12) (by rfl) (by rfl) (by decide) ?_
    refine Pa.iret (by rfl) ?_
    exact l1 h1
  · skip
    refine Pa.mp 2 (pc' := 6) (l' := [(0, .ref 5), (1, .int p)]) (st' := [.ref 5, .int p]) (by rfl) ?_
    refine Pa.gfI (v := A.1 5 7) (by rfl) (by rfl) (.inl rfl) (by rfl) (by rfl) ?_
    refine Pa.if2 (a := p.toInt) (b := (A.1 5 7).toInt) (t := 16) (by rfl) (by rfl) (rfl) (rfl) (fun h3 => ?_) (fun h4 => ?_)
    · skip
      refine Pa.ic (x := 0) (pc' := 17) (by rfl) (by rfl) (by decide) ?_
      refine Pa.iret (by rfl) ?_
      show Pa N 109 8 [(0, .ref 0), (1, .int p)] [.int 0] A _
      refine Pa.if1k false (by rfl) (by rfl) (by decide) ?_
      show Pa N 109 11 [(0, .ref 0), (1, .int p)] [] A _
      refine Pa.ic (x := (-1)) (pc' := 12) (by rfl) (by rfl) (by decide) ?_
      refine Pa.iret (by rfl) ?_
      exact l2 h2 h3
    · skip
      refine Pa.ic (x := 1) (pc' := 13) (by rfl) (by rfl) (by decide) ?_
      refine Pa.mp 1 (pc' := 17) (l' := [(0, .ref 5), (1, .int p)]) (st' := [.int 1]) (by rfl) ?_
      refine Pa.iret (by rfl) ?_
      show Pa N 109 8 [(0, .ref 0), (1, .int p)] [.int 1] A _
      refine Pa.if1k true (by rfl) (by rfl) (by decide) ?_
      show Pa N 109 13 [(0, .ref 0), (1, .int p)] [] A _
      refine Pa.mp 1 (pc' := 14) (l' := [(0, .ref 0), (1, .int p)]) (st' := [.ref 0]) (by rfl) ?_
      refine Pa.gfR (by rfl) (by rfl) (.inl rfl) (by rfl) ?_
      show Pa N 109 17 [(0, .ref 0), (1, .int p)] [.ref 5] A _
      refine Pa.mp 2 (pc' := 19) (l' := [(0, .ref 0), (1, .int p)]) (st' := [.ref 0, .int p, .ref 5]) (by rfl) ?_
      refine Pa.gfI (v := A.1 0 10) (by rfl) (by rfl) (.inl rfl) (by rfl) (by rfl) ?_
      refine Pa.inv (by rfl) (by rfl) (.inr rfl) (by rfl) ?_
      show Pa N 45 0 [(0, .ref 5), (1, .int p), (2, .int (A.1 0 10))] [] A _
      refine Pa.mp 1 (pc' := 1) (l' := [(0, .ref 5), (1, .int p), (2, .int (A.1 0 10))]) (st' := [.ref 5]) (by rfl) ?_
      refine Pa.gfR (by rfl) (by rfl) (.inl rfl) (by rfl) ?_
      show Pa N 45 4 [(0, .ref 5), (1, .int p), (2, .int (A.1 0 10))] [.ref 11] A _
      refine Pa.mp 1 (pc' := 5) (l' := [(0, .ref 5), (1, .int p), (2, .int (A.1 0 10))]) (st' := [.int p, .ref 11]) (by rfl) ?_
      refine Pa.alds (v := A.1 11 p.toInt.toNat) (by rfl) (by rfl) (by rfl) (fun h5 h6 => ?_)
      refine Pa.ic (x := 3600) (pc' := 9) (by rfl) (by rfl) (by decide) ?_
      refine Pa.if2 (a := (A.1 11 p.toInt.toNat).toInt) (b := 3600) (t := 15) (by rfl) (by rfl) (rfl) (by decide) (fun h7 => ?_) (fun h8 => ?_)
      · skip
        refine Pa.mp 1 (pc' := 16) (l' := [(0, .ref 5), (1, .int p), (2, .int (A.1 0 10))]) (st' := [.ref 5]) (by rfl) ?_
        refine Pa.gfR (by rfl) (by rfl) (.inl rfl) (by rfl) ?_
        show Pa N 45 19 [(0, .ref 5), (1, .int p), (2, .int (A.1 0 10))] [.ref 11] A _
        refine Pa.mp 2 (pc' := 21) (l' := [(0, .ref 5), (1, .int p), (2, .int (A.1 0 10))]) (st' := [.int (A.1 0 10), .int p, .ref 11]) (by rfl) ?_
        refine Pa.asts (j' := p.toInt.toNat) (by rfl) (by rfl) (by rfl) (fun h9 h10 => ?_)
        show Pa N 45 22 [(0, .ref 5), (1, .int p), (2, .int (A.1 0 10))] [] (uI A 11 p.toInt.toNat (A.1 0 10)) _
        refine Pa.ic (x := 1) (pc' := 23) (by rfl) (by rfl) (by decide) ?_
        refine Pa.iret (by rfl) ?_
        show Pa N 109 25 [(0, .ref 0), (1, .int p)] [.int 1] (uI A 11 p.toInt.toNat (A.1 0 10)) _
        refine Pa.iret (by rfl) ?_
        exact l3 h2 h4 h6 h7
      · skip
        refine Pa.ic (x := (-3)) (pc' := 14) (by rfl) (by rfl) (by decide) ?_
        refine Pa.iret (by rfl) ?_
        show Pa N 109 25 [(0, .ref 0), (1, .int p)] [.int (-3)] A _
        refine Pa.iret (by rfl) ?_
        exact l4 h2 h4 h6 h8

theorem bm_prove {N : Nat} {A : AW} {Q : Option Value → AW → Prop} (p : Int32)
    (l1 : p.toInt < 0 → Q (some (.int (-1))) A)
    (l2 : 0 ≤ p.toInt → p.toInt < (A.1 69 24).toInt → p.toInt < 100 → (A.1 87 p.toInt.toNat).toInt < 0 → Q (some (.int 1)) (uI A 87 p.toInt.toNat (A.1 69 0)))
    (l3 : 0 ≤ p.toInt → p.toInt < (A.1 69 24).toInt → p.toInt < 100 → 0 ≤ (A.1 87 p.toInt.toNat).toInt → Q (some (.int (-3))) A)
    (l4 : 0 ≤ p.toInt → (A.1 69 24).toInt ≤ p.toInt → Q (some (.int (-1))) A) :
    Pa N 174 0 [(0, .ref 69), (1, .int p)] [] A Q := by
  refine Pa.mp 1 (pc' := 1) (l' := [(0, .ref 69), (1, .int p)]) (st' := [.int p]) (by rfl) ?_
  refine Pa.if1 (a := p.toInt) (t := 12) (by rfl) (by rfl) (rfl) (fun h1 => ?_) (fun h2 => ?_)
  · skip
    refine Pa.ic (x := (-1)) (pc' := 13) (by rfl) (by rfl) (by decide) ?_
    refine Pa.iret (by rfl) ?_
    exact l1 h1
  · skip
    refine Pa.mp 2 (pc' := 6) (l' := [(0, .ref 69), (1, .int p)]) (st' := [.ref 69, .int p]) (by rfl) ?_
    refine Pa.gfI (v := A.1 69 24) (by rfl) (by rfl) (.inl rfl) (by rfl) (by rfl) ?_
    refine Pa.if2 (a := p.toInt) (b := (A.1 69 24).toInt) (t := 14) (by rfl) (by rfl) (rfl) (rfl) (fun h3 => ?_) (fun h4 => ?_)
    · skip
      refine Pa.mp 1 (pc' := 15) (l' := [(0, .ref 69), (1, .int p)]) (st' := [.ref 69]) (by rfl) ?_
      refine Pa.gfR (by rfl) (by rfl) (.inl rfl) (by rfl) ?_
      show Pa N 174 18 [(0, .ref 69), (1, .int p)] [.ref 87] A _
      refine Pa.mp 1 (pc' := 19) (l' := [(0, .ref 69), (1, .int p)]) (st' := [.int p, .ref 87]) (by rfl) ?_
      refine Pa.alds (v := A.1 87 p.toInt.toNat) (by rfl) (by rfl) (by rfl) (fun h5 h6 => ?_)
      refine Pa.if1 (a := (A.1 87 p.toInt.toNat).toInt) (t := 26) (by rfl) (by rfl) (rfl) (fun h7 => ?_) (fun h8 => ?_)
      · skip
        refine Pa.mp 1 (pc' := 27) (l' := [(0, .ref 69), (1, .int p)]) (st' := [.ref 69]) (by rfl) ?_
        refine Pa.gfR (by rfl) (by rfl) (.inl rfl) (by rfl) ?_
        show Pa N 174 30 [(0, .ref 69), (1, .int p)] [.ref 87] A _
        refine Pa.mp 2 (pc' := 32) (l' := [(0, .ref 69), (1, .int p)]) (st' := [.ref 69, .int p, .ref 87]) (by rfl) ?_
        refine Pa.gfI (v := A.1 69 0) (by rfl) (by rfl) (.inl rfl) (by rfl) (by rfl) ?_
        refine Pa.asts (j' := p.toInt.toNat) (by rfl) (by rfl) (by rfl) (fun h9 h10 => ?_)
        show Pa N 174 36 [(0, .ref 69), (1, .int p)] [] (uI A 87 p.toInt.toNat (A.1 69 0)) _
        refine Pa.ic (x := 1) (pc' := 37) (by rfl) (by rfl) (by decide) ?_
        refine Pa.iret (by rfl) ?_
        exact l2 h2 h3 h6 h7
      · skip
        refine Pa.ic (x := (-3)) (pc' := 25) (by rfl) (by rfl) (by decide) ?_
        refine Pa.iret (by rfl) ?_
        exact l3 h2 h3 h6 h8
    · skip
      refine Pa.ic (x := (-1)) (pc' := 13) (by rfl) (by rfl) (by decide) ?_
      refine Pa.iret (by rfl) ?_
      exact l4 h2 h4

def pnOk (F : Int32) (f l n : Int32) : Prop := 0 ≤ f.toInt ∧ f.toInt < F.toInt ∧ 0 ≤ l.toInt ∧ l.toInt ≤ 5 ∧ 1 ≤ n.toInt ∧ n.toInt ≤ 20
def dPoint (f l n : Int32) (A : AW) (u : Option Value) (A1 : AW) : Prop := (¬ pnOk (A.1 5 6) f l n ∧ u = some (.int (-1)) ∧ A1 = A) ∨ (pnOk (A.1 5 6) f l n ∧ 100 ≤ (A.1 5 7).toInt ∧ u = some (.int (-2)) ∧ A1 = A) ∨ (pnOk (A.1 5 6) f l n ∧ (A.1 5 7).toInt < 100 ∧ 0 ≤ (A.1 5 7).toInt ∧ u = some (.int (A.1 5 7 + 1 - 1)) ∧ A1 = uI (uI (uI (uI (uI A 8 ((A.1 5 7).toInt.toNat) f) 9 ((A.1 5 7).toInt.toNat) l) 10 ((A.1 5 7).toInt.toNat) n) 11 ((A.1 5 7).toInt.toNat) 3600) 5 7 ((A.1 5 7) + 1))
theorem d_point (N : Nat) (A : AW) (f l n : Int32) : Pa N 108 0 [(0, .ref 0), (1, .int f), (2, .int l), (3, .int n)] [] A (dPoint f l n A) := by
  refine bx_point f l n ?_ ?_ ?_ ?_ ?_ ?_ ?_ ?_
  all_goals
    intros
    unfold dPoint pnOk
    first
      | exact .inl ⟨by omega, rfl, rfl⟩
      | exact .inr (.inl ⟨by omega, by omega, rfl, rfl⟩)
      | exact .inr (.inr ⟨by omega, by omega, by omega, rfl, rfl⟩)
def ePoint (f l n : Int32) (A : AW) (u : Option Value) (A1 : AW) : Prop := (¬ pnOk (A.1 69 11) f l n ∧ u = some (.int (-1)) ∧ A1 = A) ∨ (pnOk (A.1 69 11) f l n ∧ (A.1 69 24).toInt = 100 ∧ u = some (.int (-2)) ∧ A1 = A) ∨ (pnOk (A.1 69 11) f l n ∧ (A.1 69 24).toInt < 100 ∧ 0 ≤ (A.1 69 24).toInt ∧ u = some (.int (A.1 69 24 + 1 - 1)) ∧ A1 = uI (uI (uI (uI (uI A 84 ((A.1 69 24).toInt.toNat) f) 85 ((A.1 69 24).toInt.toNat) l) 86 ((A.1 69 24).toInt.toNat) n) 87 ((A.1 69 24).toInt.toNat) (-1)) 69 24 ((A.1 69 24) + 1))
theorem e_point (N : Nat) (A : AW) (f l n : Int32) : Pa N 173 0 [(0, .ref 69), (1, .int f), (2, .int l), (3, .int n)] [] A (ePoint f l n A) := by
  refine bm_point f l n ?_ ?_ ?_ ?_ ?_ ?_ ?_ ?_
  all_goals
    intros
    unfold ePoint pnOk
    first
      | exact .inl ⟨by omega, rfl, rfl⟩
      | exact .inr (.inl ⟨by omega, by omega, rfl, rfl⟩)
      | exact .inr (.inr ⟨by omega, by omega, by omega, rfl, rfl⟩)
def dProve (p : Int32) (A : AW) (u : Option Value) (A1 : AW) : Prop := (¬ (0 ≤ p.toInt ∧ p.toInt < (A.1 5 7).toInt) ∧ u = some (.int (-1)) ∧ A1 = A) ∨ ((0 ≤ p.toInt ∧ p.toInt < (A.1 5 7).toInt) ∧ (A.1 11 p.toInt.toNat).toInt ≠ 3600 ∧ u = some (.int (-3)) ∧ A1 = A) ∨ ((0 ≤ p.toInt ∧ p.toInt < (A.1 5 7).toInt) ∧ (A.1 11 p.toInt.toNat).toInt = 3600 ∧ u = some (.int 1) ∧ A1 = uI A 11 p.toInt.toNat (A.1 0 10))
theorem d_prove (N : Nat) (A : AW) (p : Int32) : Pa N 109 0 [(0, .ref 0), (1, .int p)] [] A (dProve p A) := by
  refine bx_prove p ?_ ?_ ?_ ?_
  all_goals
    intros
    unfold dProve
    first
      | exact .inl ⟨by omega, rfl, rfl⟩
      | exact .inr (.inl ⟨by omega, by omega, rfl, rfl⟩)
      | exact .inr (.inr ⟨by omega, by omega, rfl, rfl⟩)
def eProve (p : Int32) (A : AW) (u : Option Value) (A1 : AW) : Prop := (¬ (0 ≤ p.toInt ∧ p.toInt < (A.1 69 24).toInt) ∧ u = some (.int (-1)) ∧ A1 = A) ∨ ((0 ≤ p.toInt ∧ p.toInt < (A.1 69 24).toInt) ∧ 0 ≤ (A.1 87 p.toInt.toNat).toInt ∧ u = some (.int (-3)) ∧ A1 = A) ∨ ((0 ≤ p.toInt ∧ p.toInt < (A.1 69 24).toInt) ∧ (A.1 87 p.toInt.toNat).toInt < 0 ∧ u = some (.int 1) ∧ A1 = uI A 87 p.toInt.toNat (A.1 69 0))
theorem e_prove (N : Nat) (A : AW) (p : Int32) : Pa N 174 0 [(0, .ref 69), (1, .int p)] [] A (eProve p A) := by
  refine bm_prove p ?_ ?_ ?_ ?_
  all_goals
    intros
    unfold eProve
    first
      | exact .inl ⟨by omega, rfl, rfl⟩
      | exact .inr (.inl ⟨by omega, by omega, rfl, rfl⟩)
      | exact .inr (.inr ⟨by omega, by omega, rfl, rfl⟩)
/-! what is equal of points -/
def F14 : zRF := [((1, 3), (69, 7)), ((5, 6), (69, 11)), ((0, 10), (69, 0)), ((5, 7), (69, 24))]
def pvR (x y : Int32) : Prop := (y.toInt = -1 ∧ x.toInt = 3600) ∨ (0 ≤ y.toInt ∧ y.toInt ≤ 3599 ∧ x = y)
/-- two rows are equal as far as they go -/
def eqA (n c c' : Nat) (A : AW) : Prop := ∀ j, j < n → A.1 c j = A.1 c' j
def RX14 (A : AW) : Prop := eqA 100 8 84 A ∧ eqA 100 9 85 A ∧ eqA 100 10 86 A ∧ ∀ j, j < (A.1 69 24).toInt.toNat → pvR (A.1 11 j) (A.1 87 j)
def S14 : zSu := ([(69, 24)], [8, 9, 10, 11, 84, 85, 86, 87])
theorem RX14_s (A B : AW) (h : AgS S14 A B) (hA : RX14 A) : RX14 B := by
  have f := h.1 (69, 24) (by simp [S14])
  have a8 := (h.2 8 (by simp [S14])).1
  have a9 := (h.2 9 (by simp [S14])).1
  have a10 := (h.2 10 (by simp [S14])).1
  have a11 := (h.2 11 (by simp [S14])).1
  have a84 := (h.2 84 (by simp [S14])).1
  have a85 := (h.2 85 (by simp [S14])).1
  have a86 := (h.2 86 (by simp [S14])).1
  have a87 := (h.2 87 (by simp [S14])).1
  simp only at f
  unfold RX14 eqA at hA ⊢
  rw [← a8, ← a9, ← a10, ← a11, ← a84, ← a85, ← a86, ← a87, ← f]
  exact hA

theorem k_point {A A1 A2 : AW} {f l n x y : Int32} (hA : okA A) (hF : eqF F14 A) (hX : RX14 A) (s1 : dPoint f l n A (some (.int x)) A1) (s2 : ePoint f l n A1 (some (.int y)) A2) : RX14 A2 ∧ eqF F14 A2 ∧ x = y := by
  have f1 := hF ((1, 3), (69, 7)) (by simp [F14])
  have f2 := hF ((5, 6), (69, 11)) (by simp [F14])
  have f3 := hF ((0, 10), (69, 0)) (by simp [F14])
  have f4 := hF ((5, 7), (69, 24)) (by simp [F14])
  simp only at f1 f2 f3 f4
  have g4 := hA.fld (i := 69) (k := 24) (lo := 0) (hi := 100) (by decide +kernel)
  have e2 : A1.1 69 11 = A.1 69 11 := by
    rcases s1 with ⟨-, -, e⟩ | ⟨-, -, -, e⟩ | ⟨-, -, -, -, e⟩ <;> rw [e] <;> simp [uI]
  have e4 : A1.1 69 24 = A.1 69 24 := by
    rcases s1 with ⟨-, -, e⟩ | ⟨-, -, -, e⟩ | ⟨-, -, -, -, e⟩ <;> rw [e] <;> simp [uI]
  unfold ePoint at s2
  rw [e2, e4, ← f2] at s2
  have key : RX14 A2 ∧ eqF F14 A2 ∧ x = y := by
    rcases s1 with ⟨a1, a2, a3⟩ | ⟨a1, a2, a3, a4⟩ | ⟨a1, a2, a3, a4, a5⟩
    · rcases s2 with ⟨b1, b2, b3⟩ | ⟨b1, b2, b3, b4⟩ | ⟨b1, b2, b3, b4, b5⟩
      · injection a2 with a2; injection a2 with a2
        injection b2 with b2; injection b2 with b2
        rw [b3, a3, a2, b2]
        exact ⟨hX, hF, rfl⟩
      · exact absurd b1 a1
      · exact absurd b1 a1
    · rcases s2 with ⟨b1, b2, b3⟩ | ⟨b1, b2, b3, b4⟩ | ⟨b1, b2, b3, b4, b5⟩
      · exact absurd a1 b1
      · injection a3 with a3; injection a3 with a3
        injection b3 with b3; injection b3 with b3
        rw [b4, a4, a3, b3]
        exact ⟨hX, hF, rfl⟩
      · rw [f4] at a2; omega
    · rcases s2 with ⟨b1, b2, b3⟩ | ⟨b1, b2, b3, b4⟩ | ⟨b1, b2, b3, b4, b5⟩
      · exact absurd a1 b1
      · rw [f4] at a2; omega
      · injection a4 with a4; injection a4 with a4
        injection b4 with b4; injection b4 with b4
        obtain ⟨x1, x2, x3, x4⟩ := hX
        have hT : (A.1 69 24 + 1).toInt = (A.1 69 24).toInt + 1 := i32_add1 (by omega)
        refine ⟨⟨?_, ?_, ?_, ?_⟩, ?_, by rw [a4, b4, f4]⟩
        · intro j hj
          rw [b5, a5]
          simp [uI, f4]
          split
          · rfl
          · exact x1 j hj
        · intro j hj
          rw [b5, a5]
          simp [uI, f4]
          split
          · rfl
          · exact x2 j hj
        · intro j hj
          rw [b5, a5]
          simp [uI, f4]
          split
          · rfl
          · exact x3 j hj
        · intro j hj
          rw [b5, a5] at hj ⊢
          simp [uI, f4] at hj ⊢
          by_cases q : j = (A.1 69 24).toInt.toNat
          · rw [if_pos q, if_pos q]
            exact .inl ⟨rfl, rfl⟩
          · rw [if_neg q, if_neg q]
            refine x4 j ?_
            rw [hT] at hj
            omega
        · intro q hq
          rw [b5, a5]
          simp only [F14, List.mem_cons, List.not_mem_nil, or_false] at hq
          rcases hq with rfl | rfl | rfl | rfl <;> simp [uI, f1, f2, f3, f4]
  exact key
theorem k_prove {A A1 A2 : AW} {f x y : Int32} (hA : okA A) (hF : eqF F14 A) (hX : RX14 A) (s1 : dProve f A (some (.int x)) A1) (s2 : eProve f A1 (some (.int y)) A2) : RX14 A2 ∧ eqF F14 A2 ∧ x = y := by
  have f1 := hF ((1, 3), (69, 7)) (by simp [F14])
  have f2 := hF ((5, 6), (69, 11)) (by simp [F14])
  have f3 := hF ((0, 10), (69, 0)) (by simp [F14])
  have f4 := hF ((5, 7), (69, 24)) (by simp [F14])
  simp only at f1 f2 f3 f4
  have g3 := hA.fld (i := 69) (k := 0) (lo := 0) (hi := 3599) (by decide +kernel)
  have e0 : A1.1 69 0 = A.1 69 0 := by
    rcases s1 with ⟨-, -, e⟩ | ⟨-, -, -, e⟩ | ⟨-, -, -, e⟩ <;> rw [e] <;> simp [uI]
  have e1 : A1.1 87 = A.1 87 := by
    rcases s1 with ⟨-, -, e⟩ | ⟨-, -, -, e⟩ | ⟨-, -, -, e⟩ <;> rw [e] <;> simp [uI]
  have e4 : A1.1 69 24 = A.1 69 24 := by
    rcases s1 with ⟨-, -, e⟩ | ⟨-, -, -, e⟩ | ⟨-, -, -, e⟩ <;> rw [e] <;> simp [uI]
  unfold eProve at s2
  rw [e0, e1, e4] at s2
  unfold dProve at s1
  rw [f4, f3] at s1
  have key : RX14 A2 ∧ eqF F14 A2 ∧ x = y := by
    have hv : 0 ≤ f.toInt ∧ f.toInt < (A.1 69 24).toInt → pvR (A.1 11 f.toInt.toNat) (A.1 87 f.toInt.toNat) := fun h => hX.2.2.2 _ (by omega)
    unfold pvR at hv
    rcases s1 with ⟨a1, a2, a3⟩ | ⟨a1, a2, a3, a4⟩ | ⟨a1, a2, a3, a4⟩
    · rcases s2 with ⟨b1, b2, b3⟩ | ⟨b1, b2, b3, b4⟩ | ⟨b1, b2, b3, b4⟩
      · injection a2 with a2; injection a2 with a2
        injection b2 with b2; injection b2 with b2
        rw [b3, a3, a2, b2]
        exact ⟨hX, hF, rfl⟩
      · exact absurd b1 a1
      · exact absurd b1 a1
    · rcases s2 with ⟨b1, b2, b3⟩ | ⟨b1, b2, b3, b4⟩ | ⟨b1, b2, b3, b4⟩
      · exact absurd a1 b1
      · injection a3 with a3; injection a3 with a3
        injection b3 with b3; injection b3 with b3
        rw [b4, a4, a3, b3]
        exact ⟨hX, hF, rfl⟩
      · rcases hv a1 with ⟨c1, c2⟩ | ⟨c1, c2, c3⟩
        · exact absurd c2 a2
        · omega
    · rcases s2 with ⟨b1, b2, b3⟩ | ⟨b1, b2, b3, b4⟩ | ⟨b1, b2, b3, b4⟩
      · exact absurd a1 b1
      · rcases hv a1 with ⟨c1, c2⟩ | ⟨c1, c2, c3⟩
        · omega
        · rw [c3] at a2; omega
      · injection a3 with a3; injection a3 with a3
        injection b3 with b3; injection b3 with b3
        obtain ⟨x1, x2, x3, x4⟩ := hX
        refine ⟨⟨?_, ?_, ?_, ?_⟩, ?_, by rw [a3, b3]⟩
        · intro j hj
          rw [b4, a4]
          simp [uI]
          exact x1 j hj
        · intro j hj
          rw [b4, a4]
          simp [uI]
          exact x2 j hj
        · intro j hj
          rw [b4, a4]
          simp [uI]
          exact x3 j hj
        · intro j hj
          rw [b4, a4] at hj ⊢
          simp [uI] at hj ⊢
          by_cases q : j = f.toInt.toNat
          · rw [if_pos q, if_pos q]
            exact .inr ⟨g3.1, g3.2, rfl⟩
          · rw [if_neg q, if_neg q]
            exact x4 j hj
        · intro q hq
          rw [b4, a4]
          simp only [F14, List.mem_cons, List.not_mem_nil, or_false] at hq
          rcases hq with rfl | rfl | rfl | rfl <;> simp [uI, f1, f2, f3, f4]
  exact key
theorem h_point {p : zPr} (hp : p.1 = 108 ∧ p.2.1 = 173 ∧ p.2.2.1 = 3) (hc : c_rm p = true) : PairOK (RR F14 [] RX14) p := by
  obtain ⟨p1, p2, p3⟩ := hp
  refine pairK (D := on3 dPoint) (E := on3 ePoint) (by decide +kernel) (by decide +kernel) hc (fun N A as _ hl => ?_) (fun N A as _ hl => ?_) (fun A A1 A2 as x y o1 _ _ hF _ hX hl s1 s2 => ?_)
  · rw [p3] at hl
    obtain ⟨f, l, n, rfl⟩ := as3 hl
    rw [p1]
    exact d_point N A f l n
  · rw [p3] at hl
    obtain ⟨f, l, n, rfl⟩ := as3 hl
    rw [p2]
    exact e_point N A f l n
  · rw [p3] at hl
    obtain ⟨f, l, n, rfl⟩ := as3 hl
    obtain ⟨r1, r2, r3⟩ := k_point (f := f) o1 hF hX s1 s2
    exact ⟨r2, fun q hq => (by cases hq), r1, fun _ => r3⟩
theorem h_prove {p : zPr} (hp : p.1 = 109 ∧ p.2.1 = 174 ∧ p.2.2.1 = 1) (hc : c_rm p = true) : PairOK (RR F14 [] RX14) p := by
  obtain ⟨p1, p2, p3⟩ := hp
  refine pairK (D := on1 dProve) (E := on1 eProve) (by decide +kernel) (by decide +kernel) hc (fun N A as _ hl => ?_) (fun N A as _ hl => ?_) (fun A A1 A2 as x y o1 _ _ hF _ hX hl s1 s2 => ?_)
  · rw [p3] at hl
    obtain ⟨f, rfl⟩ := as1 hl
    rw [p1]
    exact d_prove N A f
  · rw [p3] at hl
    obtain ⟨f, rfl⟩ := as1 hl
    rw [p2]
    exact e_prove N A f
  · rw [p3] at hl
    obtain ⟨f, rfl⟩ := as1 hl
    obtain ⟨r1, r2, r3⟩ := k_prove (f := f) o1 hF hX s1 s2
    exact ⟨r2, fun q hq => (by cases hq), r1, fun _ => r3⟩
theorem pts_eq {A : AW} {f l k : Int32} (h : RX14 A) (ht : A.1 5 7 = A.1 69 24) (hT : (A.1 69 24).toInt ≤ 100) (hk : k.toInt ≤ 3599) : ptsX A f l k = ptsM A f l k := by
  unfold ptsX ptsM
  rw [ht]
  refine sumN_congr (fun j hj => ?_)
  obtain ⟨h1, h2, h3, h4⟩ := h
  have e1 := h1 j (by omega)
  have e2 := h2 j (by omega)
  have e3 := h3 j (by omega)
  have e4 := h4 j hj
  unfold ptFX ptFM
  rw [e1, e2, e3]
  unfold pvR at e4
  rcases e4 with ⟨c1, c2⟩ | ⟨c1, c2, c3⟩
  · rw [if_neg (fun q => by omega), if_neg (fun q => by omega)]
  · rw [c3]
    by_cases q : (A.1 84 j).toInt = f.toInt ∧ (A.1 85 j).toInt = l.toInt ∧ (A.1 87 j).toInt ≤ k.toInt
    · rw [if_pos q, if_pos ⟨q.1, q.2.1, c1, q.2.2⟩]
    · rw [if_neg q, if_neg (fun r => q ⟨r.1, r.2.1, r.2.2.2⟩)]
def dPts (f l k : Int32) (A : AW) (u : Option Value) (A1 : AW) : Prop := A1 = A ∧ ((ptOk (A.1 5 6) f l k ∧ u = some (.int (ptsX A f l k))) ∨ (¬ ptOk (A.1 5 6) f l k ∧ u = some (.int (-1))))
def ePts (f l k : Int32) (A : AW) (u : Option Value) (A1 : AW) : Prop := A1 = A ∧ ((ptOk (A.1 69 11) f l k ∧ u = some (.int (ptsM A f l k))) ∨ (¬ ptOk (A.1 69 11) f l k ∧ u = some (.int (-1))))
theorem k_points {A A1 A2 : AW} {f l k x y : Int32} (hA : okA A) (hF : eqF F14 A) (hX : RX14 A) (s1 : dPts f l k A (some (.int x)) A1) (s2 : ePts f l k A1 (some (.int y)) A2) : RX14 A2 ∧ eqF F14 A2 ∧ x = y := by
  obtain ⟨s1, s3⟩ := s1
  obtain ⟨s2, s4⟩ := s2
  have f2 := hF ((5, 6), (69, 11)) (by simp [F14])
  have f4 := hF ((5, 7), (69, 24)) (by simp [F14])
  simp only at f2 f4
  have g4 := hA.fld (i := 69) (k := 24) (lo := 0) (hi := 100) (by decide +kernel)
  rw [s1] at s2 s4
  rw [← f2] at s4
  refine ⟨by rw [s2]; exact hX, by rw [s2]; exact hF, ?_⟩
  rcases s3 with ⟨a1, a2⟩ | ⟨a1, a2⟩
  · rcases s4 with ⟨b1, b2⟩ | ⟨b1, b2⟩
    · rw [pts_eq hX f4 g4.2 a1.2.2.2.2.2] at a2
      rw [some_int a2, some_int b2]
    · exact absurd a1 b1
  · rcases s4 with ⟨b1, b2⟩ | ⟨b1, b2⟩
    · exact absurd b1 a1
    · rw [some_int a2, some_int b2]
theorem h_points {p : zPr} (hp : p.1 = 110 ∧ p.2.1 = 176 ∧ p.2.2.1 = 3) (hc : c_rm p = true) : PairOK (RR F14 [] RX14) p := by
  obtain ⟨p1, p2, p3⟩ := hp
  refine pairK (D := on3 dPts) (E := on3 ePts) (by decide +kernel) (by decide +kernel) hc (fun N A as _ hl => ?_) (fun N A as _ hl => ?_) (fun A A1 A2 as x y o1 _ _ hF _ hX hl s1 s2 => ?_)
  · rw [p3] at hl
    obtain ⟨f, l, k, rfl⟩ := as3 hl
    rw [p1]
    exact d_points N A f l k
  · rw [p3] at hl
    obtain ⟨f, l, k, rfl⟩ := as3 hl
    rw [p2]
    exact e_points N A f l k
  · rw [p3] at hl
    obtain ⟨f, l, k, rfl⟩ := as3 hl
    obtain ⟨r1, r2, r3⟩ := k_points (f := f) o1 hF hX s1 s2
    exact ⟨r2, fun q hq => (by cases hq), r1, fun _ => r3⟩
