/-! CAPS -/
def okCp (l yy yv : Int32) : Prop := 0 ≤ l.toInt ∧ l.toInt ≤ 5 ∧ 0 ≤ yy.toInt ∧ yy.toInt ≤ 9 ∧ 0 ≤ yv.toInt ∧ yv.toInt ≤ 99999999
def cpI (l yy : Int32) : Nat := ((10 * l) + yy).toInt.toNat
def dCap (l yy yv : Int32) (yA : AW) (yu : Option Value) (A1 : AW) : Prop := (¬ okCp l yy yv ∧ yu = some (.int (-1)) ∧ A1 = yA) ∨ (okCp l yy yv ∧ cpI l yy < 60 ∧ yu = some (.int (yA.1 48 (cpI l yy))) ∧ A1 = uI yA 48 (cpI l yy) yv)
def eCap (l yy yv : Int32) (yA : AW) (yu : Option Value) (A1 : AW) : Prop := (¬ okCp l yy yv ∧ yu = some (.int (-1)) ∧ A1 = yA) ∨ (okCp l yy yv ∧ cpI l yy < 60 ∧ yu = some (.int (yA.1 105 (cpI l yy))) ∧ A1 = uI yA 105 (cpI l yy) yv)
theorem bx_cap {N : Nat} {yA : AW} {yQ : Option Value → AW → Prop} (l yy yv : Int32)
    (l1 : l.toInt < 0 → yQ (some (.int (-1))) yA)
    (l2 : 0 ≤ l.toInt → 5 < l.toInt → yQ (some (.int (-1))) yA)
    (l3 : 0 ≤ l.toInt → l.toInt ≤ 5 → yy.toInt < 0 → yQ (some (.int (-1))) yA)
    (l4 : 0 ≤ l.toInt → l.toInt ≤ 5 → 0 ≤ yy.toInt → 9 < yy.toInt → yQ (some (.int (-1))) yA)
    (l5 : 0 ≤ l.toInt → l.toInt ≤ 5 → 0 ≤ yy.toInt → yy.toInt ≤ 9 → yv.toInt < 0 → yQ (some (.int (-1))) yA)
    (l6 : 0 ≤ l.toInt → l.toInt ≤ 5 → 0 ≤ yy.toInt → yy.toInt ≤ 9 → 0 ≤ yv.toInt → 99999999 < yv.toInt → yQ (some (.int (-1))) yA)
    (l7 : 0 ≤ l.toInt → l.toInt ≤ 5 → 0 ≤ yy.toInt → yy.toInt ≤ 9 → 0 ≤ yv.toInt → yv.toInt ≤ 99999999 → 0 ≤ ((l * 10) + yy).toInt → ((l * 10) + yy).toInt < 60 → yQ (some (.int (yA.1 48 (((l * 10) + yy).toInt.toNat)))) (uI yA 48 (((l * 10) + yy).toInt.toNat) yv)) :
    Pa N 122 0 [(0, .ref 0), (1, .int l), (2, .int yy), (3, .int yv)] [] yA yQ := by
  refine Pa.mp 1 (pc' := 1) (l' := [(0, .ref 0), (1, .int l), (2, .int yy), (3, .int yv)]) (st' := [.int l]) (by rfl) ?_
  refine Pa.ist (by rfl) (by rfl) (.inl rfl) (by rfl) (by rfl) ?_
  show Pa N 147 0 [(0, .int l)] [] yA _
  refine Pa.mp 1 (pc' := 1) (l' := [(0, .int l)]) (st' := [.int l]) (by rfl) ?_
  refine Pa.ic (x := 0) (pc' := 2) (by rfl) (by rfl) (by decide) ?_
  refine Pa.ic (x := 5) (pc' := 3) (by rfl) (by rfl) (by decide) ?_
  refine Pa.ist (by rfl) (by rfl) (.inl rfl) (by rfl) (by rfl) ?_
  show Pa N 146 0 [(0, .int l), (1, .int 0), (2, .int 5)] [] yA _
  refine Pa.mp 2 (pc' := 2) (l' := [(0, .int l), (1, .int 0), (2, .int 5)]) (st' := [.int 0, .int l]) (by rfl) ?_
  refine Pa.if2 (a := l.toInt) (b := 0) (t := 14) (by rfl) (by rfl) (rfl) (by decide) (fun h1 => ?_) (fun h2 => ?_)
  · have h1 : l.toInt < 0 := h1
    refine Pa.ic (x := 0) (pc' := 15) (by rfl) (by rfl) (by decide) ?_
    refine Pa.iret (by rfl) ?_
    show Pa N 147 6 [(0, .int l)] [.int 0] yA _
    refine Pa.iret (by rfl) ?_
    show Pa N 122 4 [(0, .ref 0), (1, .int l), (2, .int yy), (3, .int yv)] [.int 0] yA _
    refine Pa.if1k true (by rfl) (by rfl) (by decide) ?_
    show Pa N 122 27 [(0, .ref 0), (1, .int l), (2, .int yy), (3, .int yv)] [] yA _
    refine Pa.ic (x := (-1)) (pc' := 28) (by rfl) (by rfl) (by decide) ?_
    refine Pa.iret (by rfl) ?_
    exact l1 h1
  · have h2 : 0 ≤ l.toInt := h2
    refine Pa.mp 2 (pc' := 7) (l' := [(0, .int l), (1, .int 0), (2, .int 5)]) (st' := [.int 5, .int l]) (by rfl) ?_
    refine Pa.if2 (a := l.toInt) (b := 5) (t := 14) (by rfl) (by rfl) (rfl) (by decide) (fun h3 => ?_) (fun h4 => ?_)
    · have h3 : 5 < l.toInt := h3
      refine Pa.ic (x := 0) (pc' := 15) (by rfl) (by rfl) (by decide) ?_
      refine Pa.iret (by rfl) ?_
      show Pa N 147 6 [(0, .int l)] [.int 0] yA _
      refine Pa.iret (by rfl) ?_
      show Pa N 122 4 [(0, .ref 0), (1, .int l), (2, .int yy), (3, .int yv)] [.int 0] yA _
      refine Pa.if1k true (by rfl) (by rfl) (by decide) ?_
      show Pa N 122 27 [(0, .ref 0), (1, .int l), (2, .int yy), (3, .int yv)] [] yA _
      refine Pa.ic (x := (-1)) (pc' := 28) (by rfl) (by rfl) (by decide) ?_
      refine Pa.iret (by rfl) ?_
      exact l2 h2 h3
    · have h4 : l.toInt ≤ 5 := h4
      refine Pa.ic (x := 1) (pc' := 11) (by rfl) (by rfl) (by decide) ?_
      refine Pa.mp 1 (pc' := 15) (l' := [(0, .int l), (1, .int 0), (2, .int 5)]) (st' := [.int 1]) (by rfl) ?_
      refine Pa.iret (by rfl) ?_
      show Pa N 147 6 [(0, .int l)] [.int 1] yA _
      refine Pa.iret (by rfl) ?_
      show Pa N 122 4 [(0, .ref 0), (1, .int l), (2, .int yy), (3, .int yv)] [.int 1] yA _
      refine Pa.if1k false (by rfl) (by rfl) (by decide) ?_
      show Pa N 122 7 [(0, .ref 0), (1, .int l), (2, .int yy), (3, .int yv)] [] yA _
      refine Pa.mp 1 (pc' := 8) (l' := [(0, .ref 0), (1, .int l), (2, .int yy), (3, .int yv)]) (st' := [.int yy]) (by rfl) ?_
      refine Pa.ic (x := 0) (pc' := 9) (by rfl) (by rfl) (by decide) ?_
      refine Pa.ic (x := 9) (pc' := 11) (by rfl) (by rfl) (by decide) ?_
      refine Pa.ist (by rfl) (by rfl) (.inl rfl) (by rfl) (by rfl) ?_
      show Pa N 146 0 [(0, .int yy), (1, .int 0), (2, .int 9)] [] yA _
      refine Pa.mp 2 (pc' := 2) (l' := [(0, .int yy), (1, .int 0), (2, .int 9)]) (st' := [.int 0, .int yy]) (by rfl) ?_
      refine Pa.if2 (a := yy.toInt) (b := 0) (t := 14) (by rfl) (by rfl) (rfl) (by decide) (fun h5 => ?_) (fun h6 => ?_)
      · have h5 : yy.toInt < 0 := h5
        refine Pa.ic (x := 0) (pc' := 15) (by rfl) (by rfl) (by decide) ?_
        refine Pa.iret (by rfl) ?_
        show Pa N 122 14 [(0, .ref 0), (1, .int l), (2, .int yy), (3, .int yv)] [.int 0] yA _
        refine Pa.if1k true (by rfl) (by rfl) (by decide) ?_
        show Pa N 122 27 [(0, .ref 0), (1, .int l), (2, .int yy), (3, .int yv)] [] yA _
        refine Pa.ic (x := (-1)) (pc' := 28) (by rfl) (by rfl) (by decide) ?_
        refine Pa.iret (by rfl) ?_
        exact l3 h2 h4 h5
      · have h6 : 0 ≤ yy.toInt := h6
        refine Pa.mp 2 (pc' := 7) (l' := [(0, .int yy), (1, .int 0), (2, .int 9)]) (st' := [.int 9, .int yy]) (by rfl) ?_
        refine Pa.if2 (a := yy.toInt) (b := 9) (t := 14) (by rfl) (by rfl) (rfl) (by decide) (fun h7 => ?_) (fun h8 => ?_)
        · have h7 : 9 < yy.toInt := h7
          refine Pa.ic (x := 0) (pc' := 15) (by rfl) (by rfl) (by decide) ?_
          refine Pa.iret (by rfl) ?_
          show Pa N 122 14 [(0, .ref 0), (1, .int l), (2, .int yy), (3, .int yv)] [.int 0] yA _
          refine Pa.if1k true (by rfl) (by rfl) (by decide) ?_
          show Pa N 122 27 [(0, .ref 0), (1, .int l), (2, .int yy), (3, .int yv)] [] yA _
          refine Pa.ic (x := (-1)) (pc' := 28) (by rfl) (by rfl) (by decide) ?_
          refine Pa.iret (by rfl) ?_
          exact l4 h2 h4 h6 h7
        · have h8 : yy.toInt ≤ 9 := h8
          refine Pa.ic (x := 1) (pc' := 11) (by rfl) (by rfl) (by decide) ?_
          refine Pa.mp 1 (pc' := 15) (l' := [(0, .int yy), (1, .int 0), (2, .int 9)]) (st' := [.int 1]) (by rfl) ?_
          refine Pa.iret (by rfl) ?_
          show Pa N 122 14 [(0, .ref 0), (1, .int l), (2, .int yy), (3, .int yv)] [.int 1] yA _
          refine Pa.if1k false (by rfl) (by rfl) (by decide) ?_
          show Pa N 122 17 [(0, .ref 0), (1, .int l), (2, .int yy), (3, .int yv)] [] yA _
          refine Pa.mp 1 (pc' := 18) (l' := [(0, .ref 0), (1, .int l), (2, .int yy), (3, .int yv)]) (st' := [.int yv]) (by rfl) ?_
          refine Pa.ic (x := 0) (pc' := 19) (by rfl) (by rfl) (by decide) ?_
          refine Pa.icl (x := 99999999) (pc' := 21) (by rfl) (fun _ _ _ => by rfl) (by decide) ?_
          refine Pa.ist (by rfl) (by rfl) (.inl rfl) (by rfl) (by rfl) ?_
          show Pa N 146 0 [(0, .int yv), (1, .int 0), (2, .int 99999999)] [] yA _
          refine Pa.mp 2 (pc' := 2) (l' := [(0, .int yv), (1, .int 0), (2, .int 99999999)]) (st' := [.int 0, .int yv]) (by rfl) ?_
          refine Pa.if2 (a := yv.toInt) (b := 0) (t := 14) (by rfl) (by rfl) (rfl) (by decide) (fun h9 => ?_) (fun h10 => ?_)
          · have h9 : yv.toInt < 0 := h9
            refine Pa.ic (x := 0) (pc' := 15) (by rfl) (by rfl) (by decide) ?_
            refine Pa.iret (by rfl) ?_
            show Pa N 122 24 [(0, .ref 0), (1, .int l), (2, .int yy), (3, .int yv)] [.int 0] yA _
            refine Pa.if1k false (by rfl) (by rfl) (by decide) ?_
            show Pa N 122 27 [(0, .ref 0), (1, .int l), (2, .int yy), (3, .int yv)] [] yA _
            refine Pa.ic (x := (-1)) (pc' := 28) (by rfl) (by rfl) (by decide) ?_
            refine Pa.iret (by rfl) ?_
            exact l5 h2 h4 h6 h8 h9
          · have h10 : 0 ≤ yv.toInt := h10
            refine Pa.mp 2 (pc' := 7) (l' := [(0, .int yv), (1, .int 0), (2, .int 99999999)]) (st' := [.int 99999999, .int yv]) (by rfl) ?_
            refine Pa.if2 (a := yv.toInt) (b := 99999999) (t := 14) (by rfl) (by rfl) (rfl) (by decide) (fun h11 => ?_) (fun h12 => ?_)
            · have h11 : 99999999 < yv.toInt := h11
              refine Pa.ic (x := 0) (pc' := 15) (by rfl) (by rfl) (by decide) ?_
              refine Pa.iret (by rfl) ?_
              show Pa N 122 24 [(0, .ref 0), (1, .int l), (2, .int yy), (3, .int yv)] [.int 0] yA _
              refine Pa.if1k false (by rfl) (by rfl) (by decide) ?_
              show Pa N 122 27 [(0, .ref 0), (1, .int l), (2, .int yy), (3, .int yv)] [] yA _
              refine Pa.ic (x := (-1)) (pc' := 28) (by rfl) (by rfl) (by decide) ?_
              refine Pa.iret (by rfl) ?_
              exact l6 h2 h4 h6 h8 h10 h11
            · have h12 : yv.toInt ≤ 99999999 := h12
              refine Pa.ic (x := 1) (pc' := 11) (by rfl) (by rfl) (by decide) ?_
              refine Pa.mp 1 (pc' := 15) (l' := [(0, .int yv), (1, .int 0), (2, .int 99999999)]) (st' := [.int 1]) (by rfl) ?_
              refine Pa.iret (by rfl) ?_
              show Pa N 122 24 [(0, .ref 0), (1, .int l), (2, .int yy), (3, .int yv)] [.int 1] yA _
              refine Pa.if1k true (by rfl) (by rfl) (by decide) ?_
              show Pa N 122 29 [(0, .ref 0), (1, .int l), (2, .int yy), (3, .int yv)] [] yA _
              refine Pa.mp 1 (pc' := 30) (l' := [(0, .ref 0), (1, .int l), (2, .int yy), (3, .int yv)]) (st' := [.int l]) (by rfl) ?_
              refine Pa.ic (x := 10) (pc' := 32) (by rfl) (by rfl) (by decide) ?_
              refine Pa.mp 5 (pc' := 38) (l' := [(4, .int ((l * 10) + yy)), (0, .ref 0), (1, .int l), (2, .int yy), (3, .int yv)]) (st' := [.ref 0]) (by rfl) ?_
              refine Pa.gfR (by rfl) (by rfl) (.inl rfl) (by rfl) ?_
              show Pa N 122 41 [(4, .int ((l * 10) + yy)), (0, .ref 0), (1, .int l), (2, .int yy), (3, .int yv)] [.ref 47] yA _
              refine Pa.gfR (by rfl) (by rfl) (.inr rfl) (by rfl) ?_
              show Pa N 122 44 [(4, .int ((l * 10) + yy)), (0, .ref 0), (1, .int l), (2, .int yy), (3, .int yv)] [.ref 48] yA _
              refine Pa.mp 1 (pc' := 46) (l' := [(4, .int ((l * 10) + yy)), (0, .ref 0), (1, .int l), (2, .int yy), (3, .int yv)]) (st' := [.int ((l * 10) + yy), .ref 48]) (by rfl) ?_
              refine Pa.alds (v := yA.1 48 (((l * 10) + yy).toInt.toNat)) (by rfl) (by rfl) (by rfl) (fun h13 h14 => ?_)
              have h13 : 0 ≤ ((l * 10) + yy).toInt := h13
              have h14 : ((l * 10) + yy).toInt < 60 := h14
              refine Pa.mp 2 (pc' := 50) (l' := [(5, .int (yA.1 48 (((l * 10) + yy).toInt.toNat))), (4, .int ((l * 10) + yy)), (0, .ref 0), (1, .int l), (2, .int yy), (3, .int yv)]) (st' := [.ref 0]) (by rfl) ?_
              refine Pa.gfR (by rfl) (by rfl) (.inl rfl) (by rfl) ?_
              show Pa N 122 53 [(5, .int (yA.1 48 (((l * 10) + yy).toInt.toNat))), (4, .int ((l * 10) + yy)), (0, .ref 0), (1, .int l), (2, .int yy), (3, .int yv)] [.ref 47] yA _
              refine Pa.gfR (by rfl) (by rfl) (.inr rfl) (by rfl) ?_
              show Pa N 122 56 [(5, .int (yA.1 48 (((l * 10) + yy).toInt.toNat))), (4, .int ((l * 10) + yy)), (0, .ref 0), (1, .int l), (2, .int yy), (3, .int yv)] [.ref 48] yA _
              refine Pa.mp 2 (pc' := 59) (l' := [(5, .int (yA.1 48 (((l * 10) + yy).toInt.toNat))), (4, .int ((l * 10) + yy)), (0, .ref 0), (1, .int l), (2, .int yy), (3, .int yv)]) (st' := [.int yv, .int ((l * 10) + yy), .ref 48]) (by rfl) ?_
              refine Pa.asts (j' := (((l * 10) + yy).toInt.toNat)) (by rfl) (by rfl) (by rfl) (fun h15 yh16 => ?_)
              have h15 : 0 ≤ ((l * 10) + yy).toInt := h15
              have yh16 : ((l * 10) + yy).toInt < 60 := yh16
              show Pa N 122 60 [(5, .int (yA.1 48 (((l * 10) + yy).toInt.toNat))), (4, .int ((l * 10) + yy)), (0, .ref 0), (1, .int l), (2, .int yy), (3, .int yv)] [] (uI yA 48 (((l * 10) + yy).toInt.toNat) yv) _
              refine Pa.mp 1 (pc' := 62) (l' := [(5, .int (yA.1 48 (((l * 10) + yy).toInt.toNat))), (4, .int ((l * 10) + yy)), (0, .ref 0), (1, .int l), (2, .int yy), (3, .int yv)]) (st' := [.int (yA.1 48 (((l * 10) + yy).toInt.toNat))]) (by rfl) ?_
              refine Pa.iret (by rfl) ?_
              exact l7 h2 h4 h6 h8 h10 h12 h13 h14

theorem bm_cap {N : Nat} {yA : AW} {yQ : Option Value → AW → Prop} (l yy yv : Int32)
    (l1 : l.toInt < 0 → yQ (some (.int (-1))) yA)
    (l2 : 0 ≤ l.toInt → 5 < l.toInt → yQ (some (.int (-1))) yA)
    (l3 : 0 ≤ l.toInt → l.toInt ≤ 5 → yy.toInt < 0 → yQ (some (.int (-1))) yA)
    (l4 : 0 ≤ l.toInt → l.toInt ≤ 5 → 0 ≤ yy.toInt → 9 < yy.toInt → yQ (some (.int (-1))) yA)
    (l5 : 0 ≤ l.toInt → l.toInt ≤ 5 → 0 ≤ yy.toInt → yy.toInt ≤ 9 → yv.toInt < 0 → yQ (some (.int (-1))) yA)
    (l6 : 0 ≤ l.toInt → l.toInt ≤ 5 → 0 ≤ yy.toInt → yy.toInt ≤ 9 → 0 ≤ yv.toInt → 99999999 < yv.toInt → yQ (some (.int (-1))) yA)
    (l7 : 0 ≤ l.toInt → l.toInt ≤ 5 → 0 ≤ yy.toInt → yy.toInt ≤ 9 → 0 ≤ yv.toInt → yv.toInt ≤ 99999999 → 0 ≤ ((10 * l) + yy).toInt → ((10 * l) + yy).toInt < 60 → yQ (some (.int (yA.1 105 (((10 * l) + yy).toInt.toNat)))) (uI yA 105 (((10 * l) + yy).toInt.toNat) yv)) :
    Pa N 220 0 [(0, .ref 69), (1, .int l), (2, .int yy), (3, .int yv)] [] yA yQ := by
  refine Pa.mp 1 (pc' := 1) (l' := [(0, .ref 69), (1, .int l), (2, .int yy), (3, .int yv)]) (st' := [.int l]) (by rfl) ?_
  refine Pa.ist (by rfl) (by rfl) (.inl rfl) (by rfl) (by rfl) ?_
  show Pa N 154 0 [(0, .int l)] [] yA _
  refine Pa.mp 1 (pc' := 1) (l' := [(0, .int l)]) (st' := [.int l]) (by rfl) ?_
  refine Pa.ic (x := 0) (pc' := 2) (by rfl) (by rfl) (by decide) ?_
  refine Pa.ic (x := 5) (pc' := 3) (by rfl) (by rfl) (by decide) ?_
  refine Pa.ist (by rfl) (by rfl) (.inl rfl) (by rfl) (by rfl) ?_
  show Pa N 152 0 [(0, .int l), (1, .int 0), (2, .int 5)] [] yA _
  refine Pa.mp 2 (pc' := 2) (l' := [(0, .int l), (1, .int 0), (2, .int 5)]) (st' := [.int 0, .int l]) (by rfl) ?_
  refine Pa.if2 (a := l.toInt) (b := 0) (t := 14) (by rfl) (by rfl) (rfl) (by decide) (fun h1 => ?_) (fun h2 => ?_)
  · have h1 : l.toInt < 0 := h1
    refine Pa.ic (x := 0) (pc' := 15) (by rfl) (by rfl) (by decide) ?_
    refine Pa.iret (by rfl) ?_
    show Pa N 154 6 [(0, .int l)] [.int 0] yA _
    refine Pa.iret (by rfl) ?_
    show Pa N 220 4 [(0, .ref 69), (1, .int l), (2, .int yy), (3, .int yv)] [.int 0] yA _
    refine Pa.if1k true (by rfl) (by rfl) (by decide) ?_
    show Pa N 220 24 [(0, .ref 69), (1, .int l), (2, .int yy), (3, .int yv)] [] yA _
    refine Pa.ic (x := (-1)) (pc' := 25) (by rfl) (by rfl) (by decide) ?_
    refine Pa.iret (by rfl) ?_
    exact l1 h1
  · have h2 : 0 ≤ l.toInt := h2
    refine Pa.mp 2 (pc' := 7) (l' := [(0, .int l), (1, .int 0), (2, .int 5)]) (st' := [.int 5, .int l]) (by rfl) ?_
    refine Pa.if2 (a := l.toInt) (b := 5) (t := 14) (by rfl) (by rfl) (rfl) (by decide) (fun h3 => ?_) (fun h4 => ?_)
    · have h3 : 5 < l.toInt := h3
      refine Pa.ic (x := 0) (pc' := 15) (by rfl) (by rfl) (by decide) ?_
      refine Pa.iret (by rfl) ?_
      show Pa N 154 6 [(0, .int l)] [.int 0] yA _
      refine Pa.iret (by rfl) ?_
      show Pa N 220 4 [(0, .ref 69), (1, .int l), (2, .int yy), (3, .int yv)] [.int 0] yA _
      refine Pa.if1k true (by rfl) (by rfl) (by decide) ?_
      show Pa N 220 24 [(0, .ref 69), (1, .int l), (2, .int yy), (3, .int yv)] [] yA _
      refine Pa.ic (x := (-1)) (pc' := 25) (by rfl) (by rfl) (by decide) ?_
      refine Pa.iret (by rfl) ?_
      exact l2 h2 h3
    · have h4 : l.toInt ≤ 5 := h4
      refine Pa.ic (x := 1) (pc' := 11) (by rfl) (by rfl) (by decide) ?_
      refine Pa.mp 1 (pc' := 15) (l' := [(0, .int l), (1, .int 0), (2, .int 5)]) (st' := [.int 1]) (by rfl) ?_
      refine Pa.iret (by rfl) ?_
      show Pa N 154 6 [(0, .int l)] [.int 1] yA _
      refine Pa.iret (by rfl) ?_
      show Pa N 220 4 [(0, .ref 69), (1, .int l), (2, .int yy), (3, .int yv)] [.int 1] yA _
      refine Pa.if1k false (by rfl) (by rfl) (by decide) ?_
      show Pa N 220 7 [(0, .ref 69), (1, .int l), (2, .int yy), (3, .int yv)] [] yA _
      refine Pa.mp 1 (pc' := 8) (l' := [(0, .ref 69), (1, .int l), (2, .int yy), (3, .int yv)]) (st' := [.int yy]) (by rfl) ?_
      refine Pa.ist (by rfl) (by rfl) (.inl rfl) (by rfl) (by rfl) ?_
      show Pa N 155 0 [(0, .int yy)] [] yA _
      refine Pa.mp 1 (pc' := 1) (l' := [(0, .int yy)]) (st' := [.int yy]) (by rfl) ?_
      refine Pa.ic (x := 0) (pc' := 2) (by rfl) (by rfl) (by decide) ?_
      refine Pa.ic (x := 9) (pc' := 4) (by rfl) (by rfl) (by decide) ?_
      refine Pa.ist (by rfl) (by rfl) (.inl rfl) (by rfl) (by rfl) ?_
      show Pa N 152 0 [(0, .int yy), (1, .int 0), (2, .int 9)] [] yA _
      refine Pa.mp 2 (pc' := 2) (l' := [(0, .int yy), (1, .int 0), (2, .int 9)]) (st' := [.int 0, .int yy]) (by rfl) ?_
      refine Pa.if2 (a := yy.toInt) (b := 0) (t := 14) (by rfl) (by rfl) (rfl) (by decide) (fun h5 => ?_) (fun h6 => ?_)
      · have h5 : yy.toInt < 0 := h5
        refine Pa.ic (x := 0) (pc' := 15) (by rfl) (by rfl) (by decide) ?_
        refine Pa.iret (by rfl) ?_
        show Pa N 155 7 [(0, .int yy)] [.int 0] yA _
        refine Pa.iret (by rfl) ?_
        show Pa N 220 11 [(0, .ref 69), (1, .int l), (2, .int yy), (3, .int yv)] [.int 0] yA _
        refine Pa.if1k true (by rfl) (by rfl) (by decide) ?_
        show Pa N 220 24 [(0, .ref 69), (1, .int l), (2, .int yy), (3, .int yv)] [] yA _
        refine Pa.ic (x := (-1)) (pc' := 25) (by rfl) (by rfl) (by decide) ?_
        refine Pa.iret (by rfl) ?_
        exact l3 h2 h4 h5
      · have h6 : 0 ≤ yy.toInt := h6
        refine Pa.mp 2 (pc' := 7) (l' := [(0, .int yy), (1, .int 0), (2, .int 9)]) (st' := [.int 9, .int yy]) (by rfl) ?_
        refine Pa.if2 (a := yy.toInt) (b := 9) (t := 14) (by rfl) (by rfl) (rfl) (by decide) (fun h7 => ?_) (fun h8 => ?_)
        · have h7 : 9 < yy.toInt := h7
          refine Pa.ic (x := 0) (pc' := 15) (by rfl) (by rfl) (by decide) ?_
          refine Pa.iret (by rfl) ?_
          show Pa N 155 7 [(0, .int yy)] [.int 0] yA _
          refine Pa.iret (by rfl) ?_
          show Pa N 220 11 [(0, .ref 69), (1, .int l), (2, .int yy), (3, .int yv)] [.int 0] yA _
          refine Pa.if1k true (by rfl) (by rfl) (by decide) ?_
          show Pa N 220 24 [(0, .ref 69), (1, .int l), (2, .int yy), (3, .int yv)] [] yA _
          refine Pa.ic (x := (-1)) (pc' := 25) (by rfl) (by rfl) (by decide) ?_
          refine Pa.iret (by rfl) ?_
          exact l4 h2 h4 h6 h7
        · have h8 : yy.toInt ≤ 9 := h8
          refine Pa.ic (x := 1) (pc' := 11) (by rfl) (by rfl) (by decide) ?_
          refine Pa.mp 1 (pc' := 15) (l' := [(0, .int yy), (1, .int 0), (2, .int 9)]) (st' := [.int 1]) (by rfl) ?_
          refine Pa.iret (by rfl) ?_
          show Pa N 155 7 [(0, .int yy)] [.int 1] yA _
          refine Pa.iret (by rfl) ?_
          show Pa N 220 11 [(0, .ref 69), (1, .int l), (2, .int yy), (3, .int yv)] [.int 1] yA _
          refine Pa.if1k false (by rfl) (by rfl) (by decide) ?_
          show Pa N 220 14 [(0, .ref 69), (1, .int l), (2, .int yy), (3, .int yv)] [] yA _
          refine Pa.mp 1 (pc' := 15) (l' := [(0, .ref 69), (1, .int l), (2, .int yy), (3, .int yv)]) (st' := [.int yv]) (by rfl) ?_
          refine Pa.ic (x := 0) (pc' := 16) (by rfl) (by rfl) (by decide) ?_
          refine Pa.icl (x := 99999999) (pc' := 18) (by rfl) (fun _ _ _ => by rfl) (by decide) ?_
          refine Pa.ist (by rfl) (by rfl) (.inl rfl) (by rfl) (by rfl) ?_
          show Pa N 152 0 [(0, .int yv), (1, .int 0), (2, .int 99999999)] [] yA _
          refine Pa.mp 2 (pc' := 2) (l' := [(0, .int yv), (1, .int 0), (2, .int 99999999)]) (st' := [.int 0, .int yv]) (by rfl) ?_
          refine Pa.if2 (a := yv.toInt) (b := 0) (t := 14) (by rfl) (by rfl) (rfl) (by decide) (fun h9 => ?_) (fun h10 => ?_)
          · have h9 : yv.toInt < 0 := h9
            refine Pa.ic (x := 0) (pc' := 15) (by rfl) (by rfl) (by decide) ?_
            refine Pa.iret (by rfl) ?_
            show Pa N 220 21 [(0, .ref 69), (1, .int l), (2, .int yy), (3, .int yv)] [.int 0] yA _
            refine Pa.if1k false (by rfl) (by rfl) (by decide) ?_
            show Pa N 220 24 [(0, .ref 69), (1, .int l), (2, .int yy), (3, .int yv)] [] yA _
            refine Pa.ic (x := (-1)) (pc' := 25) (by rfl) (by rfl) (by decide) ?_
            refine Pa.iret (by rfl) ?_
            exact l5 h2 h4 h6 h8 h9
          · have h10 : 0 ≤ yv.toInt := h10
            refine Pa.mp 2 (pc' := 7) (l' := [(0, .int yv), (1, .int 0), (2, .int 99999999)]) (st' := [.int 99999999, .int yv]) (by rfl) ?_
            refine Pa.if2 (a := yv.toInt) (b := 99999999) (t := 14) (by rfl) (by rfl) (rfl) (by decide) (fun h11 => ?_) (fun h12 => ?_)
            · have h11 : 99999999 < yv.toInt := h11
              refine Pa.ic (x := 0) (pc' := 15) (by rfl) (by rfl) (by decide) ?_
              refine Pa.iret (by rfl) ?_
              show Pa N 220 21 [(0, .ref 69), (1, .int l), (2, .int yy), (3, .int yv)] [.int 0] yA _
              refine Pa.if1k false (by rfl) (by rfl) (by decide) ?_
              show Pa N 220 24 [(0, .ref 69), (1, .int l), (2, .int yy), (3, .int yv)] [] yA _
              refine Pa.ic (x := (-1)) (pc' := 25) (by rfl) (by rfl) (by decide) ?_
              refine Pa.iret (by rfl) ?_
              exact l6 h2 h4 h6 h8 h10 h11
            · have h12 : yv.toInt ≤ 99999999 := h12
              refine Pa.ic (x := 1) (pc' := 11) (by rfl) (by rfl) (by decide) ?_
              refine Pa.mp 1 (pc' := 15) (l' := [(0, .int yv), (1, .int 0), (2, .int 99999999)]) (st' := [.int 1]) (by rfl) ?_
              refine Pa.iret (by rfl) ?_
              show Pa N 220 21 [(0, .ref 69), (1, .int l), (2, .int yy), (3, .int yv)] [.int 1] yA _
              refine Pa.if1k true (by rfl) (by rfl) (by decide) ?_
              show Pa N 220 26 [(0, .ref 69), (1, .int l), (2, .int yy), (3, .int yv)] [] yA _
              refine Pa.mp 1 (pc' := 27) (l' := [(0, .ref 69), (1, .int l), (2, .int yy), (3, .int yv)]) (st' := [.ref 69]) (by rfl) ?_
              refine Pa.gfR (by rfl) (by rfl) (.inl rfl) (by rfl) ?_
              show Pa N 220 30 [(0, .ref 69), (1, .int l), (2, .int yy), (3, .int yv)] [.ref 105] yA _
              refine Pa.ic (x := 10) (pc' := 32) (by rfl) (by rfl) (by decide) ?_
              refine Pa.mp 4 (pc' := 36) (l' := [(0, .ref 69), (1, .int l), (2, .int yy), (3, .int yv)]) (st' := [.int ((10 * l) + yy), .ref 105]) (by rfl) ?_
              refine Pa.alds (v := yA.1 105 (((10 * l) + yy).toInt.toNat)) (by rfl) (by rfl) (by rfl) (fun h13 h14 => ?_)
              have h13 : 0 ≤ ((10 * l) + yy).toInt := h13
              have h14 : ((10 * l) + yy).toInt < 60 := h14
              refine Pa.mp 2 (pc' := 40) (l' := [(4, .int (yA.1 105 (((10 * l) + yy).toInt.toNat))), (0, .ref 69), (1, .int l), (2, .int yy), (3, .int yv)]) (st' := [.ref 69]) (by rfl) ?_
              refine Pa.gfR (by rfl) (by rfl) (.inl rfl) (by rfl) ?_
              show Pa N 220 43 [(4, .int (yA.1 105 (((10 * l) + yy).toInt.toNat))), (0, .ref 69), (1, .int l), (2, .int yy), (3, .int yv)] [.ref 105] yA _
              refine Pa.ic (x := 10) (pc' := 45) (by rfl) (by rfl) (by decide) ?_
              refine Pa.mp 5 (pc' := 50) (l' := [(4, .int (yA.1 105 (((10 * l) + yy).toInt.toNat))), (0, .ref 69), (1, .int l), (2, .int yy), (3, .int yv)]) (st' := [.int yv, .int ((10 * l) + yy), .ref 105]) (by rfl) ?_
              refine Pa.asts (j' := (((10 * l) + yy).toInt.toNat)) (by rfl) (by rfl) (by rfl) (fun h15 yh16 => ?_)
              have h15 : 0 ≤ ((10 * l) + yy).toInt := h15
              have yh16 : ((10 * l) + yy).toInt < 60 := yh16
              show Pa N 220 51 [(4, .int (yA.1 105 (((10 * l) + yy).toInt.toNat))), (0, .ref 69), (1, .int l), (2, .int yy), (3, .int yv)] [] (uI yA 105 (((10 * l) + yy).toInt.toNat) yv) _
              refine Pa.mp 1 (pc' := 53) (l' := [(4, .int (yA.1 105 (((10 * l) + yy).toInt.toNat))), (0, .ref 69), (1, .int l), (2, .int yy), (3, .int yv)]) (st' := [.int (yA.1 105 (((10 * l) + yy).toInt.toNat))]) (by rfl) ?_
              refine Pa.iret (by rfl) ?_
              exact l7 h2 h4 h6 h8 h10 h12 h13 h14
theorem d_cap (N : Nat) (yA : AW) (l yy yv : Int32) : Pa N 122 0 [(0, .ref 0), (1, .int l), (2, .int yy), (3, .int yv)] [] yA (dCap l yy yv yA) := by
  have ye1 : l * 10 = 10 * l := Int32.mul_comm l 10
  refine bx_cap l yy yv ?_ ?_ ?_ ?_ ?_ ?_ ?_
  · exact fun _ => .inl ⟨fun yz => by unfold okCp at yz; omega, rfl, rfl⟩
  · exact fun _ _ => .inl ⟨fun yz => by unfold okCp at yz; omega, rfl, rfl⟩
  · exact fun _ _ _ => .inl ⟨fun yz => by unfold okCp at yz; omega, rfl, rfl⟩
  · exact fun _ _ _ _ => .inl ⟨fun yz => by unfold okCp at yz; omega, rfl, rfl⟩
  · exact fun _ _ _ _ _ => .inl ⟨fun yz => by unfold okCp at yz; omega, rfl, rfl⟩
  · exact fun _ _ _ _ _ _ => .inl ⟨fun yz => by unfold okCp at yz; omega, rfl, rfl⟩
  · intro y1 y2 y3 y4 y5 y6 y7 y8
    rw [ye1] at y7 y8 ⊢
    exact .inr ⟨⟨y1, y2, y3, y4, y5, y6⟩, by unfold cpI; omega, rfl, rfl⟩
theorem e_cap (N : Nat) (yA : AW) (l yy yv : Int32) : Pa N 220 0 [(0, .ref 69), (1, .int l), (2, .int yy), (3, .int yv)] [] yA (eCap l yy yv yA) := by
  refine bm_cap l yy yv ?_ ?_ ?_ ?_ ?_ ?_ ?_
  · exact fun _ => .inl ⟨fun yz => by unfold okCp at yz; omega, rfl, rfl⟩
  · exact fun _ _ => .inl ⟨fun yz => by unfold okCp at yz; omega, rfl, rfl⟩
  · exact fun _ _ _ => .inl ⟨fun yz => by unfold okCp at yz; omega, rfl, rfl⟩
  · exact fun _ _ _ _ => .inl ⟨fun yz => by unfold okCp at yz; omega, rfl, rfl⟩
  · exact fun _ _ _ _ _ => .inl ⟨fun yz => by unfold okCp at yz; omega, rfl, rfl⟩
  · exact fun _ _ _ _ _ _ => .inl ⟨fun yz => by unfold okCp at yz; omega, rfl, rfl⟩
  · intro y1 y2 y3 y4 y5 y6 y7 y8
    exact .inr ⟨⟨y1, y2, y3, y4, y5, y6⟩, by unfold cpI; omega, rfl, rfl⟩
theorem h_cap {yp : zPr} (hp : yp.1 = 122 ∧ yp.2.1 = 220 ∧ yp.2.2.1 = 3) (yhc : c_rm yp = true) : PairOK (RR [] [(48, 105)] RXT) yp := by
  obtain ⟨yp1, yp2, yp3⟩ := hp
  refine pairK (D := on3 dCap) (E := on3 eCap) (by decide +kernel) (by decide +kernel) yhc (fun N yA yas _ hl => ?_) (fun N yA yas _ hl => ?_) (fun yA A1 A2 yas yx yy o1 _ _ hF hR hX hl ys1 ys2 => ?_)
  · rw [yp3] at hl
    obtain ⟨ya, yb, yc, rfl⟩ := as3 hl
    rw [yp1]
    exact d_cap N yA ya yb yc
  · rw [yp3] at hl
    obtain ⟨ya, yb, yc, rfl⟩ := as3 hl
    rw [yp2]
    exact e_cap N yA ya yb yc
  · rw [yp3] at hl
    obtain ⟨ya, yb, yc, rfl⟩ := as3 hl
    have yr : eqR 60 (48, 105) yA := hR (48, 105) (by simp) 60 (by decide +kernel)
    rcases ys1 with ⟨ya1, a2, rfl⟩ | ⟨ya1, a2, a3, rfl⟩
    · rcases ys2 with ⟨b1, b2, rfl⟩ | ⟨b1, b2, b3, rfl⟩
      · exact ⟨fun yq hq => (by cases hq), hR, trivial, fun _ => by rw [some_int a2, some_int b2]⟩
      · exact absurd b1 ya1
    · rcases ys2 with ⟨b1, b2, rfl⟩ | ⟨b1, b2, b3, rfl⟩
      · exact absurd ya1 b1
      · have ri : yA.1 48 (cpI ya yb) = yA.1 105 (cpI ya yb) := yr _ a2
        refine ⟨fun yq hq => (by cases hq), fun yq hq ym yhm yj hj => ?_, trivial, fun _ => ?_⟩
        · simp only [List.mem_cons, List.not_mem_nil, or_false] at hq
          subst hq
          have hm2 : ym = 60 := by
            have yz : z_aP (48, 105) = some 60 := by decide +kernel
            rw [yz] at yhm
            injection yhm with yhm
            exact yhm.symm
          show (uI (uI yA 48 (cpI ya yb) yc) 105 (cpI ya yb) yc).1 48 yj = (uI (uI yA 48 (cpI ya yb) yc) 105 (cpI ya yb) yc).1 105 yj
          rw [uI_c (by decide), uI_row, uI_row, uI_c (by decide)]
          by_cases ye : yj = cpI ya yb
          · rw [if_pos ye, if_pos ye]
          · rw [if_neg ye, if_neg ye]
            exact yr yj (by omega)
        · rw [some_int a3, some_int b3, uI_c (by decide)]
          exact ri
/-! PRICES yOF LIKES -/
theorem h_likep {yp : zPr} (hp : yp.1 = 114 ∧ yp.2.1 = 183 ∧ yp.2.2.1 = 4) (yhc : c_rm yp = true) : PairOK (RR F19 Ar19 (fun yA => RX19 yA ∧ Rpr yA)) yp := by
  obtain ⟨yp1, yp2, yp3⟩ := hp
  refine pairK (D := on4 dLike) (E := on4 eLike) (by decide +kernel) (by decide +kernel) yhc (fun N yA yas _ hl => ?_) (fun N yA yas _ hl => ?_) (fun yA A1 A2 yas yx yy o1 _ _ hF hR hX hl ys1 ys2 => ?_)
  · rw [yp3] at hl
    obtain ⟨ya, yb, yc, yd, rfl⟩ := as4 hl
    rw [yp1]
    exact d_like N yA ya yb yc yd
  · rw [yp3] at hl
    obtain ⟨ya, yb, yc, yd, rfl⟩ := as4 hl
    rw [yp2]
    exact e_like N yA ya yb yc yd
  · rw [yp3] at hl
    obtain ⟨ya, yb, yc, yd, rfl⟩ := as4 hl
    obtain ⟨yr1, r2, r3, r4⟩ := k_like (ys := ya) (l := yb) (yd := yc) (yv := yd) o1 hF hR hX.1 ys1 ys2
    refine ⟨yr1, r2, ⟨r3, ?_⟩, fun _ => r4⟩
    have ye1 : ∀ yj, A1.1 97 yj = yA.1 97 yj := fun yj => by
      rcases ys1 with ⟨_, _, rfl⟩ | ⟨_, _, _, rfl⟩ | ⟨_, _, _, _, rfl⟩
      · rfl
      · rfl
      · unfold likX
        rw [uI_c (by decide), uI_c (by decide), uI_c (by decide), uI_c (by decide), uI_c (by decide), uI_c (by decide)]
    have yx1 : Rpr A1 := fun yj hj => by
      rw [ye1]
      exact hX.2 yj hj
    rcases ys2 with ⟨_, _, rfl⟩ | ⟨_, _, _, rfl⟩ | ⟨b1, _, _, _, rfl⟩
    · exact yx1
    · exact yx1
    · intro yj hj
      unfold likM
      rw [uI_c (by decide), uI_c (by decide), uI_row, uI_c (by decide), uI_c (by decide), uI_c (by decide)]
      by_cases ye : yj = (A1.1 69 37).toInt.toNat
      · rw [if_pos ye]
        have := b1.2.2.2.2.2.2.1
        omega
      · rw [if_neg ye]
        exact yx1 yj hj
/-! WORTHS HELD -/
theorem insG_ge : ∀ {yn : Nat} {yg : Nat → Int32} {yv : Int32}, (∀ yj, yj < yn → 0 ≤ (yg yj).toInt) → 0 ≤ yv.toInt → ∀ yj, yj < yn + 1 → 0 ≤ (insG yn yg yv yj).toInt
  | 0, yg, yv, _, hv, yj, hj => by
    have ye : yj = 0 := by omega
    rw [ye, insG_z, updF_h]
    exact hv
  | yn + 1, yg, yv, hg, hv, yj, hj => by
    rw [insG_s]
    split
    · by_cases yq : yj < yn + 1
      · refine insG_ge (yn := yn) (fun yi yhi => ?_) hv yj yq
        rw [updF_n (by omega)]
        exact hg yi (by omega)
      · have ye : yj = yn + 1 := by omega
        rw [insG_hi (yn := yn) (by omega), ye, updF_h]
        exact hg yn (by omega)
    · by_cases yq : yj = yn + 1
      · rw [yq, updF_h]
        exact hv
      · rw [updF_n yq]
        exact hg yj (by omega)
theorem gat_ge {yP : Nat → Bool} {yq yg : Nat → Int32} : ∀ {yn : Nat}, yn ≤ 120 → (∀ yj, yj < yn → 0 ≤ (yq yj).toInt) → ∃ ym : Nat, ym ≤ yn ∧ (gatS yP yq yg yn).2 = Int32.ofNat ym ∧ ∀ yj, yj < ym → 0 ≤ ((gatS yP yq yg yn).1 yj).toInt
  | 0, _, _ => ⟨0, Nat.le_refl 0, rfl, fun yj hj => absurd hj (Nat.not_lt_zero yj)⟩
  | yn + 1, hn, hq => by
    obtain ⟨ym, ym1, ym2, ym3⟩ := gat_ge (yn := yn) (yP := yP) (yq := yq) (yg := yg) (by omega) (fun yj hj => hq yj (by omega))
    have em : (Int32.ofNat ym).toInt.toNat = ym := by
      rw [i32_nat (by omega)]
      omega
    by_cases yh : yP yn = true
    · rw [gatS_1 yh]
      refine ⟨ym + 1, by omega, ?_, fun yj hj => ?_⟩
      · show (gatS yP yq yg yn).2 + 1 = _
        rw [ym2, on_succ]
      · show 0 ≤ (insG (gatS yP yq yg yn).2.toInt.toNat (gatS yP yq yg yn).1 (yq yn) yj).toInt
        rw [ym2, em]
        exact insG_ge ym3 (hq yn (by omega)) yj hj
    · have ye : gatS yP yq yg (yn + 1) = gatS yP yq yg yn := if_neg yh
      rw [ye]
      exact ⟨ym, by omega, ym2, ym3⟩
theorem mid_ge {yA : AW} (yg : Rgl yA) (hp : Rpr yA) (yc : Nat) (yk : Int32) : 0 ≤ (midV yA yc yk).toInt := by
  have gL := yg.ok.fld (i := 69) (k := 37) (lo := 0) (hi := 120) (by decide +kernel)
  obtain ⟨ym, ym1, ym2, ym3⟩ := gat_ge (yn := (yA.1 69 37).toInt.toNat) (yP := pM yA (Int32.ofNat yc) yk) (yq := yA.1 97) (yg := yA.1 116) (by omega) (fun yj hj => hp yj (by omega))
  have ye2 : (fndM yA (Int32.ofNat yc) yk).2 = Int32.ofNat ym := ym2
  have em : (Int32.ofNat ym).toInt = (ym : Int) := i32_nat (by omega)
  unfold midV
  split
  · decide
  · next yh =>
    rw [ye2, em] at yh
    have ye3 : (Int32.ofNat ym - 1).toInt = (ym : Int) - 1 := i_subx (by rw [em, show (1 : Int32).toInt = 1 from by decide]) (by omega) (by omega)
    have ye4 : ((Int32.ofNat ym - 1) / 2).toInt = ((ym : Int) - 1) / 2 := by
      rw [Int32.toInt_div_of_ne_right _ 2 (by decide), ye3, show (2 : Int32).toInt = 2 from by decide]
      exact Int.tdiv_eq_ediv_of_nonneg (by omega)
    rw [ye2, ye4]
    exact ym3 _ (by omega)
theorem kof_ge {yA : AW} (yg : Rgl yA) {yc : Nat} (yhc : yc < cT yA) (yk : Int32) : -99999 ≤ (kofM yA (Int32.ofNat yc) yk).toInt := by
  have h150 : yc < 150 := by have := yg.T; unfold cT at yhc; omega
  obtain ⟨ya, ya1, a2, a3, z0, z1, z2, z3, z4, z5, z6, z7, z8, z9, z10, z11, z12, yz13, yz14⟩ := yg.rz.1 yc yhc
  have r2 := yg.ok.cst 2 0 99999 h150 ya1 (by decide) (by rfl)
  have r12 := yg.ok.cst 12 0 99999 h150 ya1 (by decide) (by rfl)
  rw [z2] at r2
  rw [z12] at r12
  have ye : (Int32.ofNat yc).toInt.toNat = yc := by
    rw [i32_nat (by omega)]
    omega
  unfold kofM
  rw [ye]
  split
  · omega
  · split
    · omega
    · rw [i_subx rfl (by omega) (by omega)]
      omega
theorem fr_ge {yA : AW} (yg : Rgl yA) (hp : Rpr yA) {yc : Nat} (yhc : yc < cT yA) (yk : Int32) : -99999 ≤ (frV yA yc yk).toInt := by
  have yh := kof_ge yg yhc yk
  have h2 := mid_ge yg hp yc yk
  unfold frV
  split
  · exact yh
  · split
    · exact yh
    · omega
theorem cv_rg {yx yy yz : Int32} (hx0 : -99999 ≤ yx.toInt) (hx : yx.toInt ≤ 99999) (y0 : 0 ≤ yy.toInt) (y1 : yy.toInt ≤ 99999) (z0 : 0 ≤ yz.toInt) (z1 : yz.toInt ≤ 100) : -9999801 ≤ (((yx.toInt64 * yy.toInt64) / 1000 * yz.toInt64) / 100).toInt ∧ (((yx.toInt64 * yy.toInt64) / 1000 * yz.toInt64) / 100).toInt ≤ 9999801 := by
  have ea := Int.mul_le_mul_of_nonneg_right hx y0
  have eb := Int.mul_le_mul_of_nonneg_right hx0 y0
  have ye1 : (yx.toInt64 * yy.toInt64).toInt = yx.toInt * yy.toInt := by
    rw [Int64.toInt_mul, Int32.toInt_toInt64, Int32.toInt_toInt64]
    exact z_bm1 ⟨by show (-9223372036854775808 : Int) ≤ _; omega, by show _ ≤ (9223372036854775807 : Int); omega⟩
  generalize hP : yx.toInt * yy.toInt = yP at ea eb ye1
  have yt1 := tdv (yx := yP) (yb := 1000) (by omega)
  have ye2 : ((yx.toInt64 * yy.toInt64) / 1000).toInt = yP.tdiv 1000 := by
    rw [Int64.toInt_div, ye1, show (1000 : Int64).toInt = 1000 from by decide]
    exact z_bm1 ⟨by show (-9223372036854775808 : Int) ≤ _; omega, by show _ ≤ (9223372036854775807 : Int); omega⟩
  generalize hV : yP.tdiv 1000 = V at ye2 yt1
  have yv1 : V ≤ 9999801 := by omega
  have yv0 : -9999801 ≤ V := by
    rcases yt1 with yw | yw
    · omega
    · have ye : V = -((-yP) / 1000) := by
        rw [← hV, show yP = -(-yP) from by omega, Int.neg_tdiv, Int.tdiv_eq_ediv_of_nonneg (by omega), Int.neg_neg]
      omega
  have ec := Int.mul_le_mul_of_nonneg_right yv1 z0
  have ed := Int.mul_le_mul_of_nonneg_right yv0 z0
  have ye3 : ((yx.toInt64 * yy.toInt64) / 1000 * yz.toInt64).toInt = V * yz.toInt := by
    rw [Int64.toInt_mul, ye2, Int32.toInt_toInt64]
    exact z_bm1 ⟨by show (-9223372036854775808 : Int) ≤ _; omega, by show _ ≤ (9223372036854775807 : Int); omega⟩
  generalize yhM : V * yz.toInt = yM at ec ed ye3
  have ye4 : yM.tdiv 100 = if 0 ≤ yM then yM / 100 else -((-yM) / 100) := by
    split
    · exact Int.tdiv_eq_ediv_of_nonneg (by omega)
    · rw [show yM = -(-yM) from by omega, Int.neg_tdiv, Int.tdiv_eq_ediv_of_nonneg (by omega), Int.neg_neg]
  have ye5 : -9999801 ≤ yM.tdiv 100 ∧ yM.tdiv 100 ≤ 9999801 := by
    rw [ye4]
    split <;> omega
  have ye6 : (yM.tdiv 100).bmod (2 ^ 64) = yM.tdiv 100 := z_bm1 ⟨by show (-9223372036854775808 : Int) ≤ _; omega, by show _ ≤ (9223372036854775807 : Int); omega⟩
  rw [Int64.toInt_div, ye3, show (100 : Int64).toInt = 100 from by decide, ye6]
  exact ye5
theorem cvV_rg {yA : AW} (yg : Rgx yA) (hp : Rpr yA) {yc : Nat} (yhc : yc < cT yA) (yk : Int32) : -9999801 ≤ (cvV yA yc yk).toInt ∧ (cvV yA yc yk).toInt ≤ 9999801 := by
  have h150 : yc < 150 := by have := yg.gl.T; unfold cT at yhc; omega
  have gL := yg.gl.ok.per (i := 90) (n := 1050) (j := 7 * yc + 2) (a := 0) (b := 0) (lo := 0) (hi := 5) (t := 0) (by rfl) (by omega) (by
    show (0, zZ.2.2.getD ((7 * yc + 2) % 7) (0, 0)) = _
    rw [show (7 * yc + 2) % 7 = 2 by omega]
    rfl)
  have hw := cofM_rg yg.x4.2 (l := (yA.1 90 (7 * yc + 2))) (yd := (yA.1 90 (7 * yc + 3))) (by omega)
  have yhb := byV_01 (yA := yA) (yc := yc) (yk := yk)
  have yh : -9999801 ≤ (cvL yA yc yk).toInt ∧ (cvL yA yc yk).toInt ≤ 9999801 := cv_rg (fr_ge yg.gl hp yhc yk) (fr_le yg.gl yhc yk) hw.1 hw.2 yhb.1 yhb.2
  unfold cvV
  split
  · decide
  · rw [Int64.toInt_toInt32, z_bm0 ⟨by show (-2147483648 : Int) ≤ _; omega, by show _ ≤ (2147483647 : Int); omega⟩]
    exact yh
