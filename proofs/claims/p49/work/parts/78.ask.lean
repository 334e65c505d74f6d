/-! ASK -/
theorem bx_qadd0 {N : Nat} {yA : AW} {yQ : Option Value → AW → Prop} (yf l yd : Int32)
    (l1 : Pa N 69 3 [(0, .ref 47), (1, .int yf), (2, .int l), (3, .int yd), (4, .int 0)] [] yA yQ) :
    Pa N 69 0 [(0, .ref 47), (1, .int yf), (2, .int l), (3, .int yd)] [] yA yQ := by
  refine Pa.ic (x := 0) (pc' := 1) (by rfl) (by rfl) (by decide) ?_
  refine Pa.mp 1 (pc' := 3) (l' := [(4, .int 0), (0, .ref 47), (1, .int yf), (2, .int l), (3, .int yd)]) (st' := []) (by rfl) ?_
  refine Pa.lv (l' := [(0, .ref 47), (1, .int yf), (2, .int l), (3, .int yd), (4, .int 0)]) (lvS_c rfl (lvS_c rfl (lvS_c rfl (lvS_c rfl (lvS_c rfl (lvS_nil)))))) rfl ?_
  exact l1
theorem bx_qadd {N : Nat} {yA : AW} {yQ : Option Value → AW → Prop} (yf l yd yi : Int32)
    (l1 : (yA.1 47 16).toInt ≤ yi.toInt → (yA.1 47 16).toInt < 60 → 0 ≤ (yA.1 47 16).toInt → yQ (some (.int (((yA.1 47 16) + 1) - 1))) (uI (uI (uI (uI (uI yA 49 ((yA.1 47 16).toInt.toNat) yf) 50 ((yA.1 47 16).toInt.toNat) l) 51 ((yA.1 47 16).toInt.toNat) (yd / 360)) 52 ((yA.1 47 16).toInt.toNat) (-1)) 47 16 ((yA.1 47 16) + 1)))
    (l2 : (yA.1 47 16).toInt ≤ yi.toInt → 60 ≤ (yA.1 47 16).toInt → yQ (some (.int (-2))) yA)
    (l3 : yi.toInt < (yA.1 47 16).toInt → 0 ≤ yi.toInt → yi.toInt < 60 → (yA.1 49 yi.toInt.toNat).toInt ≠ yf.toInt → Pa N 69 3 [(0, .ref 47), (1, .int yf), (2, .int l), (3, .int yd), (4, .int (yi + 1))] [] yA yQ)
    (l4 : yi.toInt < (yA.1 47 16).toInt → 0 ≤ yi.toInt → yi.toInt < 60 → (yA.1 49 yi.toInt.toNat).toInt = yf.toInt → (yA.1 50 yi.toInt.toNat).toInt ≠ l.toInt → Pa N 69 3 [(0, .ref 47), (1, .int yf), (2, .int l), (3, .int yd), (4, .int (yi + 1))] [] yA yQ)
    (l5 : yi.toInt < (yA.1 47 16).toInt → 0 ≤ yi.toInt → yi.toInt < 60 → (yA.1 49 yi.toInt.toNat).toInt = yf.toInt → (yA.1 50 yi.toInt.toNat).toInt = l.toInt → yQ (some (.int (-3))) yA) :
    Pa (N + 1) 69 3 [(0, .ref 47), (1, .int yf), (2, .int l), (3, .int yd), (4, .int yi)] [] yA yQ := by
  refine Pa.mp1 1 (pc' := 6) (l' := [(0, .ref 47), (1, .int yf), (2, .int l), (3, .int yd), (4, .int yi)]) (st' := [.ref 47, .int yi]) (by rfl) ?_
  refine Pa.gfI (v := yA.1 47 16) (by rfl) (by rfl) (.inl rfl) (by rfl) (by rfl) ?_
  refine Pa.if2 (a := yi.toInt) (b := (yA.1 47 16).toInt) (t := 43) (by rfl) (by rfl) (rfl) (rfl) (fun h1 => ?_) (fun h2 => ?_)
  · have h1 : (yA.1 47 16).toInt ≤ yi.toInt := h1
    refine Pa.mp 1 (pc' := 44) (l' := [(0, .ref 47), (1, .int yf), (2, .int l), (3, .int yd), (4, .int yi)]) (st' := [.ref 47]) (by rfl) ?_
    refine Pa.gfI (v := yA.1 47 16) (by rfl) (by rfl) (.inl rfl) (by rfl) (by rfl) ?_
    refine Pa.ic (x := 60) (pc' := 49) (by rfl) (by rfl) (by decide) ?_
    refine Pa.if2 (a := (yA.1 47 16).toInt) (b := 60) (t := 55) (by rfl) (by rfl) (rfl) (by decide) (fun h3 => ?_) (fun h4 => ?_)
    · have h3 : (yA.1 47 16).toInt < 60 := h3
      refine Pa.mp 1 (pc' := 56) (l' := [(0, .ref 47), (1, .int yf), (2, .int l), (3, .int yd), (4, .int yi)]) (st' := [.ref 47]) (by rfl) ?_
      refine Pa.gfR (by rfl) (by rfl) (.inl rfl) (by rfl) ?_
      show Pa N 69 59 [(0, .ref 47), (1, .int yf), (2, .int l), (3, .int yd), (4, .int yi)] [.ref 49] yA _
      refine Pa.mp 1 (pc' := 60) (l' := [(0, .ref 47), (1, .int yf), (2, .int l), (3, .int yd), (4, .int yi)]) (st' := [.ref 47, .ref 49]) (by rfl) ?_
      refine Pa.gfI (v := yA.1 47 16) (by rfl) (by rfl) (.inl rfl) (by rfl) (by rfl) ?_
      refine Pa.mp 1 (pc' := 64) (l' := [(0, .ref 47), (1, .int yf), (2, .int l), (3, .int yd), (4, .int yi)]) (st' := [.int yf, .int (yA.1 47 16), .ref 49]) (by rfl) ?_
      refine Pa.asts (j' := ((yA.1 47 16).toInt.toNat)) (by rfl) (by rfl) (by rfl) (fun h5 h6 => ?_)
      have h5 : 0 ≤ (yA.1 47 16).toInt := h5
      have h6 : (yA.1 47 16).toInt < 60 := h6
      show Pa N 69 65 [(0, .ref 47), (1, .int yf), (2, .int l), (3, .int yd), (4, .int yi)] [] (uI yA 49 ((yA.1 47 16).toInt.toNat) yf) _
      refine Pa.mp 1 (pc' := 66) (l' := [(0, .ref 47), (1, .int yf), (2, .int l), (3, .int yd), (4, .int yi)]) (st' := [.ref 47]) (by rfl) ?_
      refine Pa.gfR (by rfl) (by rfl) (.inl rfl) (by rfl) ?_
      show Pa N 69 69 [(0, .ref 47), (1, .int yf), (2, .int l), (3, .int yd), (4, .int yi)] [.ref 50] (uI yA 49 ((yA.1 47 16).toInt.toNat) yf) _
      refine Pa.mp 1 (pc' := 70) (l' := [(0, .ref 47), (1, .int yf), (2, .int l), (3, .int yd), (4, .int yi)]) (st' := [.ref 47, .ref 50]) (by rfl) ?_
      refine Pa.gfI (v := yA.1 47 16) (by rfl) (by rfl) (.inl rfl) (by rfl) (by show (uI yA 49 ((yA.1 47 16).toInt.toNat) yf).1 47 16 = yA.1 47 16; rw [uI_c (by decide)]) ?_
      refine Pa.mp 1 (pc' := 74) (l' := [(0, .ref 47), (1, .int yf), (2, .int l), (3, .int yd), (4, .int yi)]) (st' := [.int l, .int (yA.1 47 16), .ref 50]) (by rfl) ?_
      refine Pa.asts (j' := ((yA.1 47 16).toInt.toNat)) (by rfl) (by rfl) (by rfl) (fun h7 h8 => ?_)
      have h7 : 0 ≤ (yA.1 47 16).toInt := h7
      have h8 : (yA.1 47 16).toInt < 60 := h8
      show Pa N 69 75 [(0, .ref 47), (1, .int yf), (2, .int l), (3, .int yd), (4, .int yi)] [] (uI (uI yA 49 ((yA.1 47 16).toInt.toNat) yf) 50 ((yA.1 47 16).toInt.toNat) l) _
      refine Pa.mp 1 (pc' := 76) (l' := [(0, .ref 47), (1, .int yf), (2, .int l), (3, .int yd), (4, .int yi)]) (st' := [.ref 47]) (by rfl) ?_
      refine Pa.gfR (by rfl) (by rfl) (.inl rfl) (by rfl) ?_
      show Pa N 69 79 [(0, .ref 47), (1, .int yf), (2, .int l), (3, .int yd), (4, .int yi)] [.ref 51] (uI (uI yA 49 ((yA.1 47 16).toInt.toNat) yf) 50 ((yA.1 47 16).toInt.toNat) l) _
      refine Pa.mp 1 (pc' := 80) (l' := [(0, .ref 47), (1, .int yf), (2, .int l), (3, .int yd), (4, .int yi)]) (st' := [.ref 47, .ref 51]) (by rfl) ?_
      refine Pa.gfI (v := yA.1 47 16) (by rfl) (by rfl) (.inl rfl) (by rfl) (by show (uI (uI yA 49 ((yA.1 47 16).toInt.toNat) yf) 50 ((yA.1 47 16).toInt.toNat) l).1 47 16 = yA.1 47 16; rw [uI_c (by decide), uI_c (by decide)]) ?_
      refine Pa.mp 1 (pc' := 84) (l' := [(0, .ref 47), (1, .int yf), (2, .int l), (3, .int yd), (4, .int yi)]) (st' := [.int yd, .int (yA.1 47 16), .ref 51]) (by rfl) ?_
      refine Pa.ic (x := 360) (pc' := 87) (by rfl) (by rfl) (by decide) ?_
      refine Pa.idiv (by rfl) ?_
      refine Pa.asts (j' := ((yA.1 47 16).toInt.toNat)) (by rfl) (by rfl) (by rfl) (fun h9 h10 => ?_)
      have h9 : 0 ≤ (yA.1 47 16).toInt := h9
      have h10 : (yA.1 47 16).toInt < 60 := h10
      show Pa N 69 89 [(0, .ref 47), (1, .int yf), (2, .int l), (3, .int yd), (4, .int yi)] [] (uI (uI (uI yA 49 ((yA.1 47 16).toInt.toNat) yf) 50 ((yA.1 47 16).toInt.toNat) l) 51 ((yA.1 47 16).toInt.toNat) (yd / 360)) _
      refine Pa.mp 1 (pc' := 90) (l' := [(0, .ref 47), (1, .int yf), (2, .int l), (3, .int yd), (4, .int yi)]) (st' := [.ref 47]) (by rfl) ?_
      refine Pa.gfR (by rfl) (by rfl) (.inl rfl) (by rfl) ?_
      show Pa N 69 93 [(0, .ref 47), (1, .int yf), (2, .int l), (3, .int yd), (4, .int yi)] [.ref 52] (uI (uI (uI yA 49 ((yA.1 47 16).toInt.toNat) yf) 50 ((yA.1 47 16).toInt.toNat) l) 51 ((yA.1 47 16).toInt.toNat) (yd / 360)) _
      refine Pa.mp 1 (pc' := 94) (l' := [(0, .ref 47), (1, .int yf), (2, .int l), (3, .int yd), (4, .int yi)]) (st' := [.ref 47, .ref 52]) (by rfl) ?_
      refine Pa.gfI (v := yA.1 47 16) (by rfl) (by rfl) (.inl rfl) (by rfl) (by show (uI (uI (uI yA 49 ((yA.1 47 16).toInt.toNat) yf) 50 ((yA.1 47 16).toInt.toNat) l) 51 ((yA.1 47 16).toInt.toNat) (yd / 360)).1 47 16 = yA.1 47 16; rw [uI_c (by decide), uI_c (by decide), uI_c (by decide)]) ?_
      refine Pa.ic (x := (-1)) (pc' := 98) (by rfl) (by rfl) (by decide) ?_
      refine Pa.asts (j' := ((yA.1 47 16).toInt.toNat)) (by rfl) (by rfl) (by rfl) (fun h11 h12 => ?_)
      have h11 : 0 ≤ (yA.1 47 16).toInt := h11
      have h12 : (yA.1 47 16).toInt < 60 := h12
      show Pa N 69 99 [(0, .ref 47), (1, .int yf), (2, .int l), (3, .int yd), (4, .int yi)] [] (uI (uI (uI (uI yA 49 ((yA.1 47 16).toInt.toNat) yf) 50 ((yA.1 47 16).toInt.toNat) l) 51 ((yA.1 47 16).toInt.toNat) (yd / 360)) 52 ((yA.1 47 16).toInt.toNat) (-1)) _
      refine Pa.mp 2 (pc' := 101) (l' := [(0, .ref 47), (1, .int yf), (2, .int l), (3, .int yd), (4, .int yi)]) (st' := [.ref 47, .ref 47]) (by rfl) ?_
      refine Pa.gfI (v := yA.1 47 16) (by rfl) (by rfl) (.inl rfl) (by rfl) (by show (uI (uI (uI (uI yA 49 ((yA.1 47 16).toInt.toNat) yf) 50 ((yA.1 47 16).toInt.toNat) l) 51 ((yA.1 47 16).toInt.toNat) (yd / 360)) 52 ((yA.1 47 16).toInt.toNat) (-1)).1 47 16 = yA.1 47 16; rw [uI_c (by decide), uI_c (by decide), uI_c (by decide), uI_c (by decide)]) ?_
      refine Pa.ic (x := 1) (pc' := 105) (by rfl) (by rfl) (by decide) ?_
      refine Pa.mp 1 (pc' := 106) (l' := [(0, .ref 47), (1, .int yf), (2, .int l), (3, .int yd), (4, .int yi)]) (st' := [.int ((yA.1 47 16) + 1), .ref 47]) (by rfl) ?_
      refine Pa.pfI (by rfl) (by rfl) (.inl rfl) (by rfl) ?_
      show Pa N 69 109 [(0, .ref 47), (1, .int yf), (2, .int l), (3, .int yd), (4, .int yi)] [] (uI (uI (uI (uI (uI yA 49 ((yA.1 47 16).toInt.toNat) yf) 50 ((yA.1 47 16).toInt.toNat) l) 51 ((yA.1 47 16).toInt.toNat) (yd / 360)) 52 ((yA.1 47 16).toInt.toNat) (-1)) 47 16 ((yA.1 47 16) + 1)) _
      refine Pa.mp 1 (pc' := 110) (l' := [(0, .ref 47), (1, .int yf), (2, .int l), (3, .int yd), (4, .int yi)]) (st' := [.ref 47]) (by rfl) ?_
      refine Pa.gfI (v := (yA.1 47 16) + 1) (by rfl) (by rfl) (.inl rfl) (by rfl) (by show (uI (uI (uI (uI (uI yA 49 ((yA.1 47 16).toInt.toNat) yf) 50 ((yA.1 47 16).toInt.toNat) l) 51 ((yA.1 47 16).toInt.toNat) (yd / 360)) 52 ((yA.1 47 16).toInt.toNat) (-1)) 47 16 ((yA.1 47 16) + 1)).1 47 16 = (yA.1 47 16) + 1; rw [uI_h]) ?_
      refine Pa.ic (x := 1) (pc' := 114) (by rfl) (by rfl) (by decide) ?_
      refine Pa.mp 1 (pc' := 115) (l' := [(0, .ref 47), (1, .int yf), (2, .int l), (3, .int yd), (4, .int yi)]) (st' := [.int (((yA.1 47 16) + 1) - 1)]) (by rfl) ?_
      refine Pa.iret (by rfl) ?_
      exact l1 h1 h3 h5
    · have h4 : 60 ≤ (yA.1 47 16).toInt := h4
      refine Pa.ic (x := (-2)) (pc' := 54) (by rfl) (by rfl) (by decide) ?_
      refine Pa.iret (by rfl) ?_
      exact l2 h1 h4
  · have h2 : yi.toInt < (yA.1 47 16).toInt := h2
    refine Pa.mp 1 (pc' := 13) (l' := [(0, .ref 47), (1, .int yf), (2, .int l), (3, .int yd), (4, .int yi)]) (st' := [.ref 47]) (by rfl) ?_
    refine Pa.gfR (by rfl) (by rfl) (.inl rfl) (by rfl) ?_
    show Pa N 69 16 [(0, .ref 47), (1, .int yf), (2, .int l), (3, .int yd), (4, .int yi)] [.ref 49] yA _
    refine Pa.mp 1 (pc' := 18) (l' := [(0, .ref 47), (1, .int yf), (2, .int l), (3, .int yd), (4, .int yi)]) (st' := [.int yi, .ref 49]) (by rfl) ?_
    refine Pa.alds (v := yA.1 49 yi.toInt.toNat) (by rfl) (by rfl) (by rfl) (fun h13 h14 => ?_)
    have h13 : 0 ≤ yi.toInt := h13
    have h14 : yi.toInt < 60 := h14
    refine Pa.mp 1 (pc' := 20) (l' := [(0, .ref 47), (1, .int yf), (2, .int l), (3, .int yd), (4, .int yi)]) (st' := [.int yf, .int (yA.1 49 yi.toInt.toNat)]) (by rfl) ?_
    refine Pa.if2 (a := (yA.1 49 yi.toInt.toNat).toInt) (b := yf.toInt) (t := 37) (by rfl) (by rfl) (rfl) (rfl) (fun h15 => ?_) (fun yh16 => ?_)
    · have h15 : (yA.1 49 yi.toInt.toNat).toInt ≠ yf.toInt := h15
      refine Pa.iinc (x := yi) (c := 1) (v := (yi + 1)) (l' := [(4, .int (yi + 1)), (0, .ref 47), (1, .int yf), (2, .int l), (3, .int yd)]) (by rfl) (by rfl) (by decide) (by rfl) (by rfl) ?_
      refine Pa.mp 1 (pc' := 3) (l' := [(4, .int (yi + 1)), (0, .ref 47), (1, .int yf), (2, .int l), (3, .int yd)]) (st' := []) (by rfl) ?_
      refine Pa.lv (l' := [(0, .ref 47), (1, .int yf), (2, .int l), (3, .int yd), (4, .int (yi + 1))]) (lvS_c rfl (lvS_c rfl (lvS_c rfl (lvS_c rfl (lvS_c rfl (lvS_nil)))))) rfl ?_
      exact l3 h2 h13 h14 h15
    · have yh16 : (yA.1 49 yi.toInt.toNat).toInt = yf.toInt := yh16
      refine Pa.mp 1 (pc' := 24) (l' := [(0, .ref 47), (1, .int yf), (2, .int l), (3, .int yd), (4, .int yi)]) (st' := [.ref 47]) (by rfl) ?_
      refine Pa.gfR (by rfl) (by rfl) (.inl rfl) (by rfl) ?_
      show Pa N 69 27 [(0, .ref 47), (1, .int yf), (2, .int l), (3, .int yd), (4, .int yi)] [.ref 50] yA _
      refine Pa.mp 1 (pc' := 29) (l' := [(0, .ref 47), (1, .int yf), (2, .int l), (3, .int yd), (4, .int yi)]) (st' := [.int yi, .ref 50]) (by rfl) ?_
      refine Pa.alds (v := yA.1 50 yi.toInt.toNat) (by rfl) (by rfl) (by rfl) (fun h17 h18 => ?_)
      have h17 : 0 ≤ yi.toInt := h17
      have h18 : yi.toInt < 60 := h18
      refine Pa.mp 1 (pc' := 31) (l' := [(0, .ref 47), (1, .int yf), (2, .int l), (3, .int yd), (4, .int yi)]) (st' := [.int l, .int (yA.1 50 yi.toInt.toNat)]) (by rfl) ?_
      refine Pa.if2 (a := (yA.1 50 yi.toInt.toNat).toInt) (b := l.toInt) (t := 37) (by rfl) (by rfl) (rfl) (rfl) (fun h19 => ?_) (fun h20 => ?_)
      · have h19 : (yA.1 50 yi.toInt.toNat).toInt ≠ l.toInt := h19
        refine Pa.iinc (x := yi) (c := 1) (v := (yi + 1)) (l' := [(4, .int (yi + 1)), (0, .ref 47), (1, .int yf), (2, .int l), (3, .int yd)]) (by rfl) (by rfl) (by decide) (by rfl) (by rfl) ?_
        refine Pa.mp 1 (pc' := 3) (l' := [(4, .int (yi + 1)), (0, .ref 47), (1, .int yf), (2, .int l), (3, .int yd)]) (st' := []) (by rfl) ?_
        refine Pa.lv (l' := [(0, .ref 47), (1, .int yf), (2, .int l), (3, .int yd), (4, .int (yi + 1))]) (lvS_c rfl (lvS_c rfl (lvS_c rfl (lvS_c rfl (lvS_c rfl (lvS_nil)))))) rfl ?_
        exact l4 h2 h13 h14 yh16 h19
      · have h20 : (yA.1 50 yi.toInt.toNat).toInt = l.toInt := h20
        refine Pa.ic (x := (-3)) (pc' := 36) (by rfl) (by rfl) (by decide) ?_
        refine Pa.iret (by rfl) ?_
        exact l5 h2 h13 h14 yh16 h20
def hasQ (yn cF cL : Nat) (yf l : Int32) (yA : AW) : Prop := ∃ yj, yj < yn ∧ (yA.1 cF yj).toInt = yf.toInt ∧ (yA.1 cL yj).toInt = l.toInt
def qaddX (yf l yd : Int32) (yA : AW) (yu : Option Value) (A1 : AW) : Prop := (hasQ (yA.1 47 16).toInt.toNat 49 50 yf l yA ∧ yu = some (.int (-3)) ∧ A1 = yA) ∨ (¬ hasQ (yA.1 47 16).toInt.toNat 49 50 yf l yA ∧ 60 ≤ (yA.1 47 16).toInt ∧ yu = some (.int (-2)) ∧ A1 = yA) ∨ (¬ hasQ (yA.1 47 16).toInt.toNat 49 50 yf l yA ∧ (yA.1 47 16).toInt < 60 ∧ 0 ≤ (yA.1 47 16).toInt ∧ yu = some (.int (yA.1 47 16 + 1 - 1)) ∧ A1 = uI (uI (uI (uI (uI yA 49 ((yA.1 47 16).toInt.toNat) yf) 50 ((yA.1 47 16).toInt.toNat) l) 51 ((yA.1 47 16).toInt.toNat) (yd / 360)) 52 ((yA.1 47 16).toInt.toNat) (-1)) 47 16 ((yA.1 47 16) + 1))
theorem hasQ_up {yn cF cL : Nat} {yf l : Int32} {yA : AW} (yh : ∀ yj, yj < yn → ¬ ((yA.1 cF yj).toInt = yf.toInt ∧ (yA.1 cL yj).toInt = l.toInt)) (hn : ¬ ((yA.1 cF yn).toInt = yf.toInt ∧ (yA.1 cL yn).toInt = l.toInt)) : ∀ yj, yj < yn + 1 → ¬ ((yA.1 cF yj).toInt = yf.toInt ∧ (yA.1 cL yj).toInt = l.toInt) := by
  intro yj hj
  by_cases ye : yj = yn
  · subst ye; exact hn
  · exact yh yj (by omega)
theorem c_qadd (N : Nat) (yA : AW) (yf l yd : Int32) : Pa N 69 0 [(0, .ref 47), (1, .int yf), (2, .int l), (3, .int yd)] [] yA (fun yu A1 => ∃ yr : Int32, yu = some (.int yr) ∧ qaddX yf l yd yA (some (.int yr)) A1) := by
  have ykey : ∀ N yn, yn ≤ (yA.1 47 16).toInt.toNat → (∀ yj, yj < yn → ¬ ((yA.1 49 yj).toInt = yf.toInt ∧ (yA.1 50 yj).toInt = l.toInt)) → Pa N 69 3 [(0, .ref 47), (1, .int yf), (2, .int l), (3, .int yd), (4, .int (Int32.ofNat yn))] [] yA (fun yu A1 => ∃ yr : Int32, yu = some (.int yr) ∧ qaddX yf l yd yA (some (.int yr)) A1) := by
    intro N
    induction N with
    | zero => intro yn _ _; exact Pa.zero
    | succ N yih =>
      intro yn hn hq
      have ye1 := on_nat hn
      refine bx_qadd yf l yd _ ?_ ?_ ?_ ?_ ?_ <;> rw [ye1] <;> (try rw [Int.toNat_natCast])
      · intro h1 h2 h3
        have hno : ¬ hasQ (yA.1 47 16).toInt.toNat 49 50 yf l yA := fun ⟨yj, j1, yj2⟩ => hq yj (by omega) yj2
        exact ⟨_, rfl, .inr (.inr ⟨hno, h2, h3, rfl, rfl⟩)⟩
      · intro h1 h2
        have hno : ¬ hasQ (yA.1 47 16).toInt.toNat 49 50 yf l yA := fun ⟨yj, j1, yj2⟩ => hq yj (by omega) yj2
        exact ⟨_, rfl, .inr (.inl ⟨hno, h2, rfl, rfl⟩)⟩
      · intro h1 h2 h3 h4
        have yh := yih (yn + 1) (by omega) (hasQ_up hq (fun yq => h4 yq.1))
        rw [on_succ] at yh
        exact yh
      · intro h1 h2 h3 h4 h5
        have yh := yih (yn + 1) (by omega) (hasQ_up hq (fun yq => h5 yq.2))
        rw [on_succ] at yh
        exact yh
      · intro h1 h2 h3 h4 h5
        exact ⟨_, rfl, .inl ⟨⟨yn, by omega, h4, h5⟩, rfl, rfl⟩⟩
  exact bx_qadd0 yf l yd (ykey N 0 (Nat.zero_le _) (fun yj hj => absurd hj (Nat.not_lt_zero yj)))
theorem bx_ask {N : Nat} {yA : AW} {yQ : Option Value → AW → Prop} (yf l : Int32)
    (l1 : yf.toInt < 0 → yQ (some (.int (-1))) yA)
    (l2 : 0 ≤ yf.toInt → (yA.1 5 6).toInt ≤ yf.toInt → yQ (some (.int (-1))) yA)
    (l3 : 0 ≤ yf.toInt → yf.toInt < (yA.1 5 6).toInt → l.toInt < 0 → yQ (some (.int (-1))) yA)
    (l4 : 0 ≤ yf.toInt → yf.toInt < (yA.1 5 6).toInt → 0 ≤ l.toInt → 5 < l.toInt → yQ (some (.int (-1))) yA)
    (l5 : 0 ≤ yf.toInt → yf.toInt < (yA.1 5 6).toInt → 0 ≤ l.toInt → l.toInt ≤ 5 → ∀ A1, ∀ r2, qaddX yf l (yA.1 0 10) yA (some (.int r2)) A1 → yQ (some (.int r2)) A1) :
    Pa N 123 0 [(0, .ref 0), (1, .int yf), (2, .int l)] [] yA yQ := by
  refine Pa.mp 1 (pc' := 1) (l' := [(0, .ref 0), (1, .int yf), (2, .int l)]) (st' := [.ref 0]) (by rfl) ?_
  refine Pa.gfR (by rfl) (by rfl) (.inl rfl) (by rfl) ?_
  show Pa N 123 4 [(0, .ref 0), (1, .int yf), (2, .int l)] [.ref 5] yA _
  refine Pa.mp 1 (pc' := 5) (l' := [(0, .ref 0), (1, .int yf), (2, .int l)]) (st' := [.int yf, .ref 5]) (by rfl) ?_
  refine Pa.inv (by rfl) (by rfl) (.inr rfl) (by rfl) ?_
  show Pa N 41 0 [(0, .ref 5), (1, .int yf)] [] yA _
  refine Pa.mp 1 (pc' := 1) (l' := [(0, .ref 5), (1, .int yf)]) (st' := [.int yf]) (by rfl) ?_
  refine Pa.if1 (a := yf.toInt) (t := 16) (by rfl) (by rfl) (rfl) (fun h1 => ?_) (fun h2 => ?_)
  · have h1 : yf.toInt < 0 := h1
    refine Pa.ic (x := 0) (pc' := 17) (by rfl) (by rfl) (by decide) ?_
    refine Pa.iret (by rfl) ?_
    show Pa N 123 8 [(0, .ref 0), (1, .int yf), (2, .int l)] [.int 0] yA _
    refine Pa.if1k true (by rfl) (by rfl) (by decide) ?_
    show Pa N 123 18 [(0, .ref 0), (1, .int yf), (2, .int l)] [] yA _
    refine Pa.ic (x := (-1)) (pc' := 19) (by rfl) (by rfl) (by decide) ?_
    refine Pa.iret (by rfl) ?_
    exact l1 h1
  · have h2 : 0 ≤ yf.toInt := h2
    refine Pa.mp 2 (pc' := 6) (l' := [(0, .ref 5), (1, .int yf)]) (st' := [.ref 5, .int yf]) (by rfl) ?_
    refine Pa.gfI (v := yA.1 5 6) (by rfl) (by rfl) (.inl rfl) (by rfl) (by rfl) ?_
    refine Pa.if2 (a := yf.toInt) (b := (yA.1 5 6).toInt) (t := 16) (by rfl) (by rfl) (rfl) (rfl) (fun h3 => ?_) (fun h4 => ?_)
    · have h3 : (yA.1 5 6).toInt ≤ yf.toInt := h3
      refine Pa.ic (x := 0) (pc' := 17) (by rfl) (by rfl) (by decide) ?_
      refine Pa.iret (by rfl) ?_
      show Pa N 123 8 [(0, .ref 0), (1, .int yf), (2, .int l)] [.int 0] yA _
      refine Pa.if1k true (by rfl) (by rfl) (by decide) ?_
      show Pa N 123 18 [(0, .ref 0), (1, .int yf), (2, .int l)] [] yA _
      refine Pa.ic (x := (-1)) (pc' := 19) (by rfl) (by rfl) (by decide) ?_
      refine Pa.iret (by rfl) ?_
      exact l2 h2 h3
    · have h4 : yf.toInt < (yA.1 5 6).toInt := h4
      refine Pa.ic (x := 1) (pc' := 13) (by rfl) (by rfl) (by decide) ?_
      refine Pa.mp 1 (pc' := 17) (l' := [(0, .ref 5), (1, .int yf)]) (st' := [.int 1]) (by rfl) ?_
      refine Pa.iret (by rfl) ?_
      show Pa N 123 8 [(0, .ref 0), (1, .int yf), (2, .int l)] [.int 1] yA _
      refine Pa.if1k false (by rfl) (by rfl) (by decide) ?_
      show Pa N 123 11 [(0, .ref 0), (1, .int yf), (2, .int l)] [] yA _
      refine Pa.mp 1 (pc' := 12) (l' := [(0, .ref 0), (1, .int yf), (2, .int l)]) (st' := [.int l]) (by rfl) ?_
      refine Pa.ist (by rfl) (by rfl) (.inl rfl) (by rfl) (by rfl) ?_
      show Pa N 147 0 [(0, .int l)] [] yA _
      refine Pa.mp 1 (pc' := 1) (l' := [(0, .int l)]) (st' := [.int l]) (by rfl) ?_
      refine Pa.ic (x := 0) (pc' := 2) (by rfl) (by rfl) (by decide) ?_
      refine Pa.ic (x := 5) (pc' := 3) (by rfl) (by rfl) (by decide) ?_
      refine Pa.ist (by rfl) (by rfl) (.inl rfl) (by rfl) (by rfl) ?_
      show Pa N 146 0 [(0, .int l), (1, .int 0), (2, .int 5)] [] yA _
      refine Pa.mp 2 (pc' := 2) (l' := [(0, .int l), (1, .int 0), (2, .int 5)]) (st' := [.int 0, .int l]) (by rfl) ?_
      refine Pa.if2 (a := l.toInt) (b := 0) (t := 14) (by rfl) (by rfl) (rfl) (by decide) (fun h5 => ?_) (fun h6 => ?_)
      · have h5 : l.toInt < 0 := h5
        refine Pa.ic (x := 0) (pc' := 15) (by rfl) (by rfl) (by decide) ?_
        refine Pa.iret (by rfl) ?_
        show Pa N 147 6 [(0, .int l)] [.int 0] yA _
        refine Pa.iret (by rfl) ?_
        show Pa N 123 15 [(0, .ref 0), (1, .int yf), (2, .int l)] [.int 0] yA _
        refine Pa.if1k false (by rfl) (by rfl) (by decide) ?_
        show Pa N 123 18 [(0, .ref 0), (1, .int yf), (2, .int l)] [] yA _
        refine Pa.ic (x := (-1)) (pc' := 19) (by rfl) (by rfl) (by decide) ?_
        refine Pa.iret (by rfl) ?_
        exact l3 h2 h4 h5
      · have h6 : 0 ≤ l.toInt := h6
        refine Pa.mp 2 (pc' := 7) (l' := [(0, .int l), (1, .int 0), (2, .int 5)]) (st' := [.int 5, .int l]) (by rfl) ?_
        refine Pa.if2 (a := l.toInt) (b := 5) (t := 14) (by rfl) (by rfl) (rfl) (by decide) (fun h7 => ?_) (fun h8 => ?_)
        · have h7 : 5 < l.toInt := h7
          refine Pa.ic (x := 0) (pc' := 15) (by rfl) (by rfl) (by decide) ?_
          refine Pa.iret (by rfl) ?_
          show Pa N 147 6 [(0, .int l)] [.int 0] yA _
          refine Pa.iret (by rfl) ?_
          show Pa N 123 15 [(0, .ref 0), (1, .int yf), (2, .int l)] [.int 0] yA _
          refine Pa.if1k false (by rfl) (by rfl) (by decide) ?_
          show Pa N 123 18 [(0, .ref 0), (1, .int yf), (2, .int l)] [] yA _
          refine Pa.ic (x := (-1)) (pc' := 19) (by rfl) (by rfl) (by decide) ?_
          refine Pa.iret (by rfl) ?_
          exact l4 h2 h4 h6 h7
        · have h8 : l.toInt ≤ 5 := h8
          refine Pa.ic (x := 1) (pc' := 11) (by rfl) (by rfl) (by decide) ?_
          refine Pa.mp 1 (pc' := 15) (l' := [(0, .int l), (1, .int 0), (2, .int 5)]) (st' := [.int 1]) (by rfl) ?_
          refine Pa.iret (by rfl) ?_
          show Pa N 147 6 [(0, .int l)] [.int 1] yA _
          refine Pa.iret (by rfl) ?_
          show Pa N 123 15 [(0, .ref 0), (1, .int yf), (2, .int l)] [.int 1] yA _
          refine Pa.if1k true (by rfl) (by rfl) (by decide) ?_
          show Pa N 123 20 [(0, .ref 0), (1, .int yf), (2, .int l)] [] yA _
          refine Pa.mp 1 (pc' := 21) (l' := [(0, .ref 0), (1, .int yf), (2, .int l)]) (st' := [.ref 0]) (by rfl) ?_
          refine Pa.gfR (by rfl) (by rfl) (.inl rfl) (by rfl) ?_
          show Pa N 123 24 [(0, .ref 0), (1, .int yf), (2, .int l)] [.ref 47] yA _
          refine Pa.mp 3 (pc' := 27) (l' := [(0, .ref 0), (1, .int yf), (2, .int l)]) (st' := [.ref 0, .int l, .int yf, .ref 47]) (by rfl) ?_
          refine Pa.gfI (v := yA.1 0 10) (by rfl) (by rfl) (.inl rfl) (by rfl) (by rfl) ?_
          refine Pa.inv (by rfl) (by rfl) (.inr rfl) (by rfl) ?_
          refine Pa.mono (c_qadd N yA yf l (yA.1 0 10)) (fun yu A1 hu => ?_)
          obtain ⟨r2, rfl, h9⟩ := hu
          show Pa N 123 33 [(0, .ref 0), (1, .int yf), (2, .int l)] [.int r2] A1 _
          refine Pa.iret (by rfl) ?_
          exact l5 h2 h4 h6 h8 A1 r2 h9
theorem bm_ask0 {N : Nat} {yA : AW} {yQ : Option Value → AW → Prop} (yf l : Int32)
    (l1 : yf.toInt < 0 → yQ (some (.int (-1))) yA)
    (l2 : 0 ≤ yf.toInt → (yA.1 69 11).toInt ≤ yf.toInt → yQ (some (.int (-1))) yA)
    (l3 : 0 ≤ yf.toInt → yf.toInt < (yA.1 69 11).toInt → l.toInt < 0 → yQ (some (.int (-1))) yA)
    (l4 : 0 ≤ yf.toInt → yf.toInt < (yA.1 69 11).toInt → 0 ≤ l.toInt → 5 < l.toInt → yQ (some (.int (-1))) yA)
    (l5 : 0 ≤ yf.toInt → yf.toInt < (yA.1 69 11).toInt → 0 ≤ l.toInt → l.toInt ≤ 5 → Pa N 221 19 [(0, .ref 69), (1, .int yf), (2, .int l), (3, .int 0)] [] yA yQ) :
    Pa N 221 0 [(0, .ref 69), (1, .int yf), (2, .int l)] [] yA yQ := by
  refine Pa.mp 2 (pc' := 2) (l' := [(0, .ref 69), (1, .int yf), (2, .int l)]) (st' := [.int yf, .ref 69]) (by rfl) ?_
  refine Pa.inv (by rfl) (by rfl) (.inl rfl) (by rfl) ?_
  show Pa N 157 0 [(0, .ref 69), (1, .int yf)] [] yA _
  refine Pa.mp 1 (pc' := 1) (l' := [(0, .ref 69), (1, .int yf)]) (st' := [.int yf]) (by rfl) ?_
  refine Pa.if1 (a := yf.toInt) (t := 16) (by rfl) (by rfl) (rfl) (fun h1 => ?_) (fun h2 => ?_)
  · have h1 : yf.toInt < 0 := h1
    refine Pa.ic (x := 0) (pc' := 17) (by rfl) (by rfl) (by decide) ?_
    refine Pa.iret (by rfl) ?_
    show Pa N 221 5 [(0, .ref 69), (1, .int yf), (2, .int l)] [.int 0] yA _
    refine Pa.if1k true (by rfl) (by rfl) (by decide) ?_
    show Pa N 221 15 [(0, .ref 69), (1, .int yf), (2, .int l)] [] yA _
    refine Pa.ic (x := (-1)) (pc' := 16) (by rfl) (by rfl) (by decide) ?_
    refine Pa.iret (by rfl) ?_
    exact l1 h1
  · have h2 : 0 ≤ yf.toInt := h2
    refine Pa.mp 2 (pc' := 6) (l' := [(0, .ref 69), (1, .int yf)]) (st' := [.ref 69, .int yf]) (by rfl) ?_
    refine Pa.gfI (v := yA.1 69 11) (by rfl) (by rfl) (.inl rfl) (by rfl) (by rfl) ?_
    refine Pa.if2 (a := yf.toInt) (b := (yA.1 69 11).toInt) (t := 16) (by rfl) (by rfl) (rfl) (rfl) (fun h3 => ?_) (fun h4 => ?_)
    · have h3 : (yA.1 69 11).toInt ≤ yf.toInt := h3
      refine Pa.ic (x := 0) (pc' := 17) (by rfl) (by rfl) (by decide) ?_
      refine Pa.iret (by rfl) ?_
      show Pa N 221 5 [(0, .ref 69), (1, .int yf), (2, .int l)] [.int 0] yA _
      refine Pa.if1k true (by rfl) (by rfl) (by decide) ?_
      show Pa N 221 15 [(0, .ref 69), (1, .int yf), (2, .int l)] [] yA _
      refine Pa.ic (x := (-1)) (pc' := 16) (by rfl) (by rfl) (by decide) ?_
      refine Pa.iret (by rfl) ?_
      exact l2 h2 h3
    · have h4 : yf.toInt < (yA.1 69 11).toInt := h4
      refine Pa.ic (x := 1) (pc' := 13) (by rfl) (by rfl) (by decide) ?_
      refine Pa.mp 1 (pc' := 17) (l' := [(0, .ref 69), (1, .int yf)]) (st' := [.int 1]) (by rfl) ?_
      refine Pa.iret (by rfl) ?_
      show Pa N 221 5 [(0, .ref 69), (1, .int yf), (2, .int l)] [.int 1] yA _
      refine Pa.if1k false (by rfl) (by rfl) (by decide) ?_
      show Pa N 221 8 [(0, .ref 69), (1, .int yf), (2, .int l)] [] yA _
      refine Pa.mp 1 (pc' := 9) (l' := [(0, .ref 69), (1, .int yf), (2, .int l)]) (st' := [.int l]) (by rfl) ?_
      refine Pa.ist (by rfl) (by rfl) (.inl rfl) (by rfl) (by rfl) ?_
      show Pa N 154 0 [(0, .int l)] [] yA _
      refine Pa.mp 1 (pc' := 1) (l' := [(0, .int l)]) (st' := [.int l]) (by rfl) ?_
      refine Pa.ic (x := 0) (pc' := 2) (by rfl) (by rfl) (by decide) ?_
      refine Pa.ic (x := 5) (pc' := 3) (by rfl) (by rfl) (by decide) ?_
      refine Pa.ist (by rfl) (by rfl) (.inl rfl) (by rfl) (by rfl) ?_
      show Pa N 152 0 [(0, .int l), (1, .int 0), (2, .int 5)] [] yA _
      refine Pa.mp 2 (pc' := 2) (l' := [(0, .int l), (1, .int 0), (2, .int 5)]) (st' := [.int 0, .int l]) (by rfl) ?_
      refine Pa.if2 (a := l.toInt) (b := 0) (t := 14) (by rfl) (by rfl) (rfl) (by decide) (fun h5 => ?_) (fun h6 => ?_)
      · have h5 : l.toInt < 0 := h5
        refine Pa.ic (x := 0) (pc' := 15) (by rfl) (by rfl) (by decide) ?_
        refine Pa.iret (by rfl) ?_
        show Pa N 154 6 [(0, .int l)] [.int 0] yA _
        refine Pa.iret (by rfl) ?_
        show Pa N 221 12 [(0, .ref 69), (1, .int yf), (2, .int l)] [.int 0] yA _
        refine Pa.if1k false (by rfl) (by rfl) (by decide) ?_
        show Pa N 221 15 [(0, .ref 69), (1, .int yf), (2, .int l)] [] yA _
        refine Pa.ic (x := (-1)) (pc' := 16) (by rfl) (by rfl) (by decide) ?_
        refine Pa.iret (by rfl) ?_
        exact l3 h2 h4 h5
      · have h6 : 0 ≤ l.toInt := h6
        refine Pa.mp 2 (pc' := 7) (l' := [(0, .int l), (1, .int 0), (2, .int 5)]) (st' := [.int 5, .int l]) (by rfl) ?_
        refine Pa.if2 (a := l.toInt) (b := 5) (t := 14) (by rfl) (by rfl) (rfl) (by decide) (fun h7 => ?_) (fun h8 => ?_)
        · have h7 : 5 < l.toInt := h7
          refine Pa.ic (x := 0) (pc' := 15) (by rfl) (by rfl) (by decide) ?_
          refine Pa.iret (by rfl) ?_
          show Pa N 154 6 [(0, .int l)] [.int 0] yA _
          refine Pa.iret (by rfl) ?_
          show Pa N 221 12 [(0, .ref 69), (1, .int yf), (2, .int l)] [.int 0] yA _
          refine Pa.if1k false (by rfl) (by rfl) (by decide) ?_
          show Pa N 221 15 [(0, .ref 69), (1, .int yf), (2, .int l)] [] yA _
          refine Pa.ic (x := (-1)) (pc' := 16) (by rfl) (by rfl) (by decide) ?_
          refine Pa.iret (by rfl) ?_
          exact l4 h2 h4 h6 h7
        · have h8 : l.toInt ≤ 5 := h8
          refine Pa.ic (x := 1) (pc' := 11) (by rfl) (by rfl) (by decide) ?_
          refine Pa.mp 1 (pc' := 15) (l' := [(0, .int l), (1, .int 0), (2, .int 5)]) (st' := [.int 1]) (by rfl) ?_
          refine Pa.iret (by rfl) ?_
          show Pa N 154 6 [(0, .int l)] [.int 1] yA _
          refine Pa.iret (by rfl) ?_
          show Pa N 221 12 [(0, .ref 69), (1, .int yf), (2, .int l)] [.int 1] yA _
          refine Pa.if1k true (by rfl) (by rfl) (by decide) ?_
          show Pa N 221 17 [(0, .ref 69), (1, .int yf), (2, .int l)] [] yA _
          refine Pa.ic (x := 0) (pc' := 18) (by rfl) (by rfl) (by decide) ?_
          refine Pa.mp 1 (pc' := 19) (l' := [(3, .int 0), (0, .ref 69), (1, .int yf), (2, .int l)]) (st' := []) (by rfl) ?_
          refine Pa.lv (l' := [(0, .ref 69), (1, .int yf), (2, .int l), (3, .int 0)]) (lvS_c rfl (lvS_c rfl (lvS_c rfl (lvS_c rfl (lvS_nil))))) rfl ?_
          exact l5 h2 h4 h6 h8
theorem bm_ask {N : Nat} {yA : AW} {yQ : Option Value → AW → Prop} (yf l yi : Int32)
    (l1 : (yA.1 69 52).toInt ≤ yi.toInt → (yA.1 69 52).toInt ≠ 60 → 0 ≤ (yA.1 69 52).toInt → (yA.1 69 52).toInt < 60 → yQ (some (.int (((yA.1 69 52) + 1) - 1))) (uI (uI (uI (uI (uI yA 106 ((yA.1 69 52).toInt.toNat) yf) 107 ((yA.1 69 52).toInt.toNat) l) 108 ((yA.1 69 52).toInt.toNat) (yA.1 69 0)) 109 ((yA.1 69 52).toInt.toNat) (-1)) 69 52 ((yA.1 69 52) + 1)))
    (l2 : (yA.1 69 52).toInt ≤ yi.toInt → (yA.1 69 52).toInt = 60 → yQ (some (.int (-2))) yA)
    (l3 : yi.toInt < (yA.1 69 52).toInt → 0 ≤ yi.toInt → yi.toInt < 60 → (yA.1 106 yi.toInt.toNat).toInt ≠ yf.toInt → Pa N 221 19 [(0, .ref 69), (1, .int yf), (2, .int l), (3, .int (yi + 1))] [] yA yQ)
    (l4 : yi.toInt < (yA.1 69 52).toInt → 0 ≤ yi.toInt → yi.toInt < 60 → (yA.1 106 yi.toInt.toNat).toInt = yf.toInt → (yA.1 107 yi.toInt.toNat).toInt ≠ l.toInt → Pa N 221 19 [(0, .ref 69), (1, .int yf), (2, .int l), (3, .int (yi + 1))] [] yA yQ)
    (l5 : yi.toInt < (yA.1 69 52).toInt → 0 ≤ yi.toInt → yi.toInt < 60 → (yA.1 106 yi.toInt.toNat).toInt = yf.toInt → (yA.1 107 yi.toInt.toNat).toInt = l.toInt → yQ (some (.int (-3))) yA) :
    Pa (N + 1) 221 19 [(0, .ref 69), (1, .int yf), (2, .int l), (3, .int yi)] [] yA yQ := by
  refine Pa.mp1 1 (pc' := 21) (l' := [(0, .ref 69), (1, .int yf), (2, .int l), (3, .int yi)]) (st' := [.ref 69, .int yi]) (by rfl) ?_
  refine Pa.gfI (v := yA.1 69 52) (by rfl) (by rfl) (.inl rfl) (by rfl) (by rfl) ?_
  refine Pa.if2 (a := yi.toInt) (b := (yA.1 69 52).toInt) (t := 56) (by rfl) (by rfl) (rfl) (rfl) (fun h1 => ?_) (fun h2 => ?_)
  · have h1 : (yA.1 69 52).toInt ≤ yi.toInt := h1
    refine Pa.mp 1 (pc' := 57) (l' := [(0, .ref 69), (1, .int yf), (2, .int l), (3, .int yi)]) (st' := [.ref 69]) (by rfl) ?_
    refine Pa.gfI (v := yA.1 69 52) (by rfl) (by rfl) (.inl rfl) (by rfl) (by rfl) ?_
    refine Pa.ic (x := 60) (pc' := 62) (by rfl) (by rfl) (by decide) ?_
    refine Pa.if2 (a := (yA.1 69 52).toInt) (b := 60) (t := 68) (by rfl) (by rfl) (rfl) (by decide) (fun h3 => ?_) (fun h4 => ?_)
    · have h3 : (yA.1 69 52).toInt ≠ 60 := h3
      refine Pa.mp 1 (pc' := 69) (l' := [(0, .ref 69), (1, .int yf), (2, .int l), (3, .int yi)]) (st' := [.ref 69]) (by rfl) ?_
      refine Pa.gfR (by rfl) (by rfl) (.inl rfl) (by rfl) ?_
      show Pa N 221 72 [(0, .ref 69), (1, .int yf), (2, .int l), (3, .int yi)] [.ref 106] yA _
      refine Pa.mp 1 (pc' := 73) (l' := [(0, .ref 69), (1, .int yf), (2, .int l), (3, .int yi)]) (st' := [.ref 69, .ref 106]) (by rfl) ?_
      refine Pa.gfI (v := yA.1 69 52) (by rfl) (by rfl) (.inl rfl) (by rfl) (by rfl) ?_
      refine Pa.mp 1 (pc' := 77) (l' := [(0, .ref 69), (1, .int yf), (2, .int l), (3, .int yi)]) (st' := [.int yf, .int (yA.1 69 52), .ref 106]) (by rfl) ?_
      refine Pa.asts (j' := ((yA.1 69 52).toInt.toNat)) (by rfl) (by rfl) (by rfl) (fun h5 h6 => ?_)
      have h5 : 0 ≤ (yA.1 69 52).toInt := h5
      have h6 : (yA.1 69 52).toInt < 60 := h6
      show Pa N 221 78 [(0, .ref 69), (1, .int yf), (2, .int l), (3, .int yi)] [] (uI yA 106 ((yA.1 69 52).toInt.toNat) yf) _
      refine Pa.mp 1 (pc' := 79) (l' := [(0, .ref 69), (1, .int yf), (2, .int l), (3, .int yi)]) (st' := [.ref 69]) (by rfl) ?_
      refine Pa.gfR (by rfl) (by rfl) (.inl rfl) (by rfl) ?_
      show Pa N 221 82 [(0, .ref 69), (1, .int yf), (2, .int l), (3, .int yi)] [.ref 107] (uI yA 106 ((yA.1 69 52).toInt.toNat) yf) _
      refine Pa.mp 1 (pc' := 83) (l' := [(0, .ref 69), (1, .int yf), (2, .int l), (3, .int yi)]) (st' := [.ref 69, .ref 107]) (by rfl) ?_
      refine Pa.gfI (v := yA.1 69 52) (by rfl) (by rfl) (.inl rfl) (by rfl) (by show (uI yA 106 ((yA.1 69 52).toInt.toNat) yf).1 69 52 = yA.1 69 52; rw [uI_c (by decide)]) ?_
      refine Pa.mp 1 (pc' := 87) (l' := [(0, .ref 69), (1, .int yf), (2, .int l), (3, .int yi)]) (st' := [.int l, .int (yA.1 69 52), .ref 107]) (by rfl) ?_
      refine Pa.asts (j' := ((yA.1 69 52).toInt.toNat)) (by rfl) (by rfl) (by rfl) (fun h7 h8 => ?_)
      have h7 : 0 ≤ (yA.1 69 52).toInt := h7
      have h8 : (yA.1 69 52).toInt < 60 := h8
      show Pa N 221 88 [(0, .ref 69), (1, .int yf), (2, .int l), (3, .int yi)] [] (uI (uI yA 106 ((yA.1 69 52).toInt.toNat) yf) 107 ((yA.1 69 52).toInt.toNat) l) _
      refine Pa.mp 1 (pc' := 89) (l' := [(0, .ref 69), (1, .int yf), (2, .int l), (3, .int yi)]) (st' := [.ref 69]) (by rfl) ?_
      refine Pa.gfR (by rfl) (by rfl) (.inl rfl) (by rfl) ?_
      show Pa N 221 92 [(0, .ref 69), (1, .int yf), (2, .int l), (3, .int yi)] [.ref 108] (uI (uI yA 106 ((yA.1 69 52).toInt.toNat) yf) 107 ((yA.1 69 52).toInt.toNat) l) _
      refine Pa.mp 1 (pc' := 93) (l' := [(0, .ref 69), (1, .int yf), (2, .int l), (3, .int yi)]) (st' := [.ref 69, .ref 108]) (by rfl) ?_
      refine Pa.gfI (v := yA.1 69 52) (by rfl) (by rfl) (.inl rfl) (by rfl) (by show (uI (uI yA 106 ((yA.1 69 52).toInt.toNat) yf) 107 ((yA.1 69 52).toInt.toNat) l).1 69 52 = yA.1 69 52; rw [uI_c (by decide), uI_c (by decide)]) ?_
      refine Pa.mp 1 (pc' := 97) (l' := [(0, .ref 69), (1, .int yf), (2, .int l), (3, .int yi)]) (st' := [.ref 69, .int (yA.1 69 52), .ref 108]) (by rfl) ?_
      refine Pa.gfI (v := yA.1 69 0) (by rfl) (by rfl) (.inl rfl) (by rfl) (by show (uI (uI yA 106 ((yA.1 69 52).toInt.toNat) yf) 107 ((yA.1 69 52).toInt.toNat) l).1 69 0 = yA.1 69 0; rw [uI_c (by decide), uI_c (by decide)]) ?_
      refine Pa.asts (j' := ((yA.1 69 52).toInt.toNat)) (by rfl) (by rfl) (by rfl) (fun h9 h10 => ?_)
      have h9 : 0 ≤ (yA.1 69 52).toInt := h9
      have h10 : (yA.1 69 52).toInt < 60 := h10
      show Pa N 221 101 [(0, .ref 69), (1, .int yf), (2, .int l), (3, .int yi)] [] (uI (uI (uI yA 106 ((yA.1 69 52).toInt.toNat) yf) 107 ((yA.1 69 52).toInt.toNat) l) 108 ((yA.1 69 52).toInt.toNat) (yA.1 69 0)) _
      refine Pa.mp 1 (pc' := 102) (l' := [(0, .ref 69), (1, .int yf), (2, .int l), (3, .int yi)]) (st' := [.ref 69]) (by rfl) ?_
      refine Pa.gfR (by rfl) (by rfl) (.inl rfl) (by rfl) ?_
      show Pa N 221 105 [(0, .ref 69), (1, .int yf), (2, .int l), (3, .int yi)] [.ref 109] (uI (uI (uI yA 106 ((yA.1 69 52).toInt.toNat) yf) 107 ((yA.1 69 52).toInt.toNat) l) 108 ((yA.1 69 52).toInt.toNat) (yA.1 69 0)) _
      refine Pa.mp 1 (pc' := 106) (l' := [(0, .ref 69), (1, .int yf), (2, .int l), (3, .int yi)]) (st' := [.ref 69, .ref 109]) (by rfl) ?_
      refine Pa.gfI (v := yA.1 69 52) (by rfl) (by rfl) (.inl rfl) (by rfl) (by show (uI (uI (uI yA 106 ((yA.1 69 52).toInt.toNat) yf) 107 ((yA.1 69 52).toInt.toNat) l) 108 ((yA.1 69 52).toInt.toNat) (yA.1 69 0)).1 69 52 = yA.1 69 52; rw [uI_c (by decide), uI_c (by decide), uI_c (by decide)]) ?_
      refine Pa.ic (x := (-1)) (pc' := 110) (by rfl) (by rfl) (by decide) ?_
      refine Pa.asts (j' := ((yA.1 69 52).toInt.toNat)) (by rfl) (by rfl) (by rfl) (fun h11 h12 => ?_)
      have h11 : 0 ≤ (yA.1 69 52).toInt := h11
      have h12 : (yA.1 69 52).toInt < 60 := h12
      show Pa N 221 111 [(0, .ref 69), (1, .int yf), (2, .int l), (3, .int yi)] [] (uI (uI (uI (uI yA 106 ((yA.1 69 52).toInt.toNat) yf) 107 ((yA.1 69 52).toInt.toNat) l) 108 ((yA.1 69 52).toInt.toNat) (yA.1 69 0)) 109 ((yA.1 69 52).toInt.toNat) (-1)) _
      refine Pa.mp 2 (pc' := 113) (l' := [(0, .ref 69), (1, .int yf), (2, .int l), (3, .int yi)]) (st' := [.ref 69, .ref 69]) (by rfl) ?_
      refine Pa.gfI (v := yA.1 69 52) (by rfl) (by rfl) (.inl rfl) (by rfl) (by show (uI (uI (uI (uI yA 106 ((yA.1 69 52).toInt.toNat) yf) 107 ((yA.1 69 52).toInt.toNat) l) 108 ((yA.1 69 52).toInt.toNat) (yA.1 69 0)) 109 ((yA.1 69 52).toInt.toNat) (-1)).1 69 52 = yA.1 69 52; rw [uI_c (by decide), uI_c (by decide), uI_c (by decide), uI_c (by decide)]) ?_
      refine Pa.ic (x := 1) (pc' := 117) (by rfl) (by rfl) (by decide) ?_
      refine Pa.mp 1 (pc' := 118) (l' := [(0, .ref 69), (1, .int yf), (2, .int l), (3, .int yi)]) (st' := [.int ((yA.1 69 52) + 1), .ref 69]) (by rfl) ?_
      refine Pa.pfI (by rfl) (by rfl) (.inl rfl) (by rfl) ?_
      show Pa N 221 121 [(0, .ref 69), (1, .int yf), (2, .int l), (3, .int yi)] [] (uI (uI (uI (uI (uI yA 106 ((yA.1 69 52).toInt.toNat) yf) 107 ((yA.1 69 52).toInt.toNat) l) 108 ((yA.1 69 52).toInt.toNat) (yA.1 69 0)) 109 ((yA.1 69 52).toInt.toNat) (-1)) 69 52 ((yA.1 69 52) + 1)) _
      refine Pa.mp 1 (pc' := 122) (l' := [(0, .ref 69), (1, .int yf), (2, .int l), (3, .int yi)]) (st' := [.ref 69]) (by rfl) ?_
      refine Pa.gfI (v := (yA.1 69 52) + 1) (by rfl) (by rfl) (.inl rfl) (by rfl) (by show (uI (uI (uI (uI (uI yA 106 ((yA.1 69 52).toInt.toNat) yf) 107 ((yA.1 69 52).toInt.toNat) l) 108 ((yA.1 69 52).toInt.toNat) (yA.1 69 0)) 109 ((yA.1 69 52).toInt.toNat) (-1)) 69 52 ((yA.1 69 52) + 1)).1 69 52 = (yA.1 69 52) + 1; rw [uI_h]) ?_
      refine Pa.ic (x := 1) (pc' := 126) (by rfl) (by rfl) (by decide) ?_
      refine Pa.mp 1 (pc' := 127) (l' := [(0, .ref 69), (1, .int yf), (2, .int l), (3, .int yi)]) (st' := [.int (((yA.1 69 52) + 1) - 1)]) (by rfl) ?_
      refine Pa.iret (by rfl) ?_
      exact l1 h1 h3 h5 h6
    · have h4 : (yA.1 69 52).toInt = 60 := h4
      refine Pa.ic (x := (-2)) (pc' := 67) (by rfl) (by rfl) (by decide) ?_
      refine Pa.iret (by rfl) ?_
      exact l2 h1 h4
  · have h2 : yi.toInt < (yA.1 69 52).toInt := h2
    refine Pa.mp 1 (pc' := 28) (l' := [(0, .ref 69), (1, .int yf), (2, .int l), (3, .int yi)]) (st' := [.ref 69]) (by rfl) ?_
    refine Pa.gfR (by rfl) (by rfl) (.inl rfl) (by rfl) ?_
    show Pa N 221 31 [(0, .ref 69), (1, .int yf), (2, .int l), (3, .int yi)] [.ref 106] yA _
    refine Pa.mp 1 (pc' := 32) (l' := [(0, .ref 69), (1, .int yf), (2, .int l), (3, .int yi)]) (st' := [.int yi, .ref 106]) (by rfl) ?_
    refine Pa.alds (v := yA.1 106 yi.toInt.toNat) (by rfl) (by rfl) (by rfl) (fun h13 h14 => ?_)
    have h13 : 0 ≤ yi.toInt := h13
    have h14 : yi.toInt < 60 := h14
    refine Pa.mp 1 (pc' := 34) (l' := [(0, .ref 69), (1, .int yf), (2, .int l), (3, .int yi)]) (st' := [.int yf, .int (yA.1 106 yi.toInt.toNat)]) (by rfl) ?_
    refine Pa.if2 (a := (yA.1 106 yi.toInt.toNat).toInt) (b := yf.toInt) (t := 50) (by rfl) (by rfl) (rfl) (rfl) (fun h15 => ?_) (fun yh16 => ?_)
    · have h15 : (yA.1 106 yi.toInt.toNat).toInt ≠ yf.toInt := h15
      refine Pa.iinc (x := yi) (c := 1) (v := (yi + 1)) (l' := [(3, .int (yi + 1)), (0, .ref 69), (1, .int yf), (2, .int l)]) (by rfl) (by rfl) (by decide) (by rfl) (by rfl) ?_
      refine Pa.mp 1 (pc' := 19) (l' := [(3, .int (yi + 1)), (0, .ref 69), (1, .int yf), (2, .int l)]) (st' := []) (by rfl) ?_
      refine Pa.lv (l' := [(0, .ref 69), (1, .int yf), (2, .int l), (3, .int (yi + 1))]) (lvS_c rfl (lvS_c rfl (lvS_c rfl (lvS_c rfl (lvS_nil))))) rfl ?_
      exact l3 h2 h13 h14 h15
    · have yh16 : (yA.1 106 yi.toInt.toNat).toInt = yf.toInt := yh16
      refine Pa.mp 1 (pc' := 38) (l' := [(0, .ref 69), (1, .int yf), (2, .int l), (3, .int yi)]) (st' := [.ref 69]) (by rfl) ?_
      refine Pa.gfR (by rfl) (by rfl) (.inl rfl) (by rfl) ?_
      show Pa N 221 41 [(0, .ref 69), (1, .int yf), (2, .int l), (3, .int yi)] [.ref 107] yA _
      refine Pa.mp 1 (pc' := 42) (l' := [(0, .ref 69), (1, .int yf), (2, .int l), (3, .int yi)]) (st' := [.int yi, .ref 107]) (by rfl) ?_
      refine Pa.alds (v := yA.1 107 yi.toInt.toNat) (by rfl) (by rfl) (by rfl) (fun h17 h18 => ?_)
      have h17 : 0 ≤ yi.toInt := h17
      have h18 : yi.toInt < 60 := h18
      refine Pa.mp 1 (pc' := 44) (l' := [(0, .ref 69), (1, .int yf), (2, .int l), (3, .int yi)]) (st' := [.int l, .int (yA.1 107 yi.toInt.toNat)]) (by rfl) ?_
      refine Pa.if2 (a := (yA.1 107 yi.toInt.toNat).toInt) (b := l.toInt) (t := 50) (by rfl) (by rfl) (rfl) (rfl) (fun h19 => ?_) (fun h20 => ?_)
      · have h19 : (yA.1 107 yi.toInt.toNat).toInt ≠ l.toInt := h19
        refine Pa.iinc (x := yi) (c := 1) (v := (yi + 1)) (l' := [(3, .int (yi + 1)), (0, .ref 69), (1, .int yf), (2, .int l)]) (by rfl) (by rfl) (by decide) (by rfl) (by rfl) ?_
        refine Pa.mp 1 (pc' := 19) (l' := [(3, .int (yi + 1)), (0, .ref 69), (1, .int yf), (2, .int l)]) (st' := []) (by rfl) ?_
        refine Pa.lv (l' := [(0, .ref 69), (1, .int yf), (2, .int l), (3, .int (yi + 1))]) (lvS_c rfl (lvS_c rfl (lvS_c rfl (lvS_c rfl (lvS_nil))))) rfl ?_
        exact l4 h2 h13 h14 yh16 h19
      · have h20 : (yA.1 107 yi.toInt.toNat).toInt = l.toInt := h20
        refine Pa.ic (x := (-3)) (pc' := 49) (by rfl) (by rfl) (by decide) ?_
        refine Pa.iret (by rfl) ?_
        exact l5 h2 h13 h14 yh16 h20
def asOk (yF yf l : Int32) : Prop := 0 ≤ yf.toInt ∧ yf.toInt < yF.toInt ∧ 0 ≤ l.toInt ∧ l.toInt ≤ 5
def dAsk (yf l : Int32) (yA : AW) (yu : Option Value) (A1 : AW) : Prop := (¬ asOk (yA.1 5 6) yf l ∧ yu = some (.int (-1)) ∧ A1 = yA) ∨ (asOk (yA.1 5 6) yf l ∧ qaddX yf l (yA.1 0 10) yA yu A1)
theorem d_ask (N : Nat) (yA : AW) (yf l : Int32) : Pa N 123 0 [(0, .ref 0), (1, .int yf), (2, .int l)] [] yA (dAsk yf l yA) := by
  refine bx_ask yf l ?_ ?_ ?_ ?_ ?_
  all_goals
    intros
    unfold dAsk asOk
    first
      | exact .inl ⟨by omega, rfl, rfl⟩
      | exact .inr ⟨by omega, by assumption⟩
def qaddM (yf l : Int32) (yA : AW) (yu : Option Value) (A1 : AW) : Prop := (hasQ (yA.1 69 52).toInt.toNat 106 107 yf l yA ∧ yu = some (.int (-3)) ∧ A1 = yA) ∨ (¬ hasQ (yA.1 69 52).toInt.toNat 106 107 yf l yA ∧ (yA.1 69 52).toInt = 60 ∧ yu = some (.int (-2)) ∧ A1 = yA) ∨ (¬ hasQ (yA.1 69 52).toInt.toNat 106 107 yf l yA ∧ (yA.1 69 52).toInt < 60 ∧ 0 ≤ (yA.1 69 52).toInt ∧ yu = some (.int (yA.1 69 52 + 1 - 1)) ∧ A1 = uI (uI (uI (uI (uI yA 106 ((yA.1 69 52).toInt.toNat) yf) 107 ((yA.1 69 52).toInt.toNat) l) 108 ((yA.1 69 52).toInt.toNat) (yA.1 69 0)) 109 ((yA.1 69 52).toInt.toNat) (-1)) 69 52 ((yA.1 69 52) + 1))
def eAsk (yf l : Int32) (yA : AW) (yu : Option Value) (A1 : AW) : Prop := (¬ asOk (yA.1 69 11) yf l ∧ yu = some (.int (-1)) ∧ A1 = yA) ∨ (asOk (yA.1 69 11) yf l ∧ qaddM yf l yA yu A1)
theorem e_ask (N : Nat) (yA : AW) (yf l : Int32) : Pa N 221 0 [(0, .ref 69), (1, .int yf), (2, .int l)] [] yA (eAsk yf l yA) := by
  have ykey : asOk (yA.1 69 11) yf l → ∀ N yn, yn ≤ (yA.1 69 52).toInt.toNat → (∀ yj, yj < yn → ¬ ((yA.1 106 yj).toInt = yf.toInt ∧ (yA.1 107 yj).toInt = l.toInt)) → Pa N 221 19 [(0, .ref 69), (1, .int yf), (2, .int l), (3, .int (Int32.ofNat yn))] [] yA (eAsk yf l yA) := by
    intro hok N
    induction N with
    | zero => intro yn _ _; exact Pa.zero
    | succ N yih =>
      intro yn hn hq
      have ye1 := on_nat hn
      refine bm_ask yf l _ ?_ ?_ ?_ ?_ ?_ <;> rw [ye1] <;> (try rw [Int.toNat_natCast])
      · intro h1 h2 h3 h4
        have hno : ¬ hasQ (yA.1 69 52).toInt.toNat 106 107 yf l yA := fun ⟨yj, j1, yj2⟩ => hq yj (by omega) yj2
        exact .inr ⟨hok, .inr (.inr ⟨hno, h4, h3, rfl, rfl⟩)⟩
      · intro h1 h2
        have hno : ¬ hasQ (yA.1 69 52).toInt.toNat 106 107 yf l yA := fun ⟨yj, j1, yj2⟩ => hq yj (by omega) yj2
        exact .inr ⟨hok, .inr (.inl ⟨hno, h2, rfl, rfl⟩)⟩
      · intro h1 h2 h3 h4
        have yh := yih (yn + 1) (by omega) (hasQ_up hq (fun yq => h4 yq.1))
        rw [on_succ] at yh
        exact yh
      · intro h1 h2 h3 h4 h5
        have yh := yih (yn + 1) (by omega) (hasQ_up hq (fun yq => h5 yq.2))
        rw [on_succ] at yh
        exact yh
      · intro h1 h2 h3 h4 h5
        exact .inr ⟨hok, .inl ⟨⟨yn, by omega, h4, h5⟩, rfl, rfl⟩⟩
  refine bm_ask0 yf l ?_ ?_ ?_ ?_ ?_
  · intro h1; exact .inl ⟨fun yq => by unfold asOk at yq; omega, rfl, rfl⟩
  · intro h1 h2; exact .inl ⟨fun yq => by unfold asOk at yq; omega, rfl, rfl⟩
  · intro h1 h2 h3; exact .inl ⟨fun yq => by unfold asOk at yq; omega, rfl, rfl⟩
  · intro h1 h2 h3 h4; exact .inl ⟨fun yq => by unfold asOk at yq; omega, rfl, rfl⟩
  · intro h1 h2 h3 h4
    exact ykey ⟨h1, h2, h3, h4⟩ N 0 (Nat.zero_le _) (fun yj hj => absurd hj (Nat.not_lt_zero yj))
def F27 : zRF := [((1, 3), (69, 7)), ((5, 6), (69, 11)), ((47, 16), (69, 52))]
def Ar27 : zRA := [(49, 106), (50, 107)]
theorem k_ask {yA A1 A2 : AW} {yf l yx yy : Int32} (hA : okA yA) (hF : eqF F27 yA) (hR : eqRs Ar27 yA) (ys1 : dAsk yf l yA (some (.int yx)) A1) (ys2 : eAsk yf l A1 (some (.int yy)) A2) : eqF F27 A2 ∧ eqRs Ar27 A2 ∧ yx = yy := by
  have yf2 := hF ((5, 6), (69, 11)) (by simp [F27])
  have yf3 := hF ((47, 16), (69, 52)) (by simp [F27])
  simp only at yf2 yf3
  have yr1 : eqR 60 (49, 106) yA := hR (49, 106) (by simp [Ar27]) 60 (by decide +kernel)
  have r2 : eqR 60 (50, 107) yA := hR (50, 107) (by simp [Ar27]) 60 (by decide +kernel)
  have yg := hA.fld (i := 69) (k := 52) (lo := 0) (hi := 60) (by decide +kernel)
  have hq : hasQ (yA.1 69 52).toInt.toNat 49 50 yf l yA ↔ hasQ (yA.1 69 52).toInt.toNat 106 107 yf l yA := by
    constructor
    · rintro ⟨yj, j1, yj2, yj3⟩
      have ye1 : yA.1 49 yj = yA.1 106 yj := yr1 yj (by omega)
      have ye2 : yA.1 50 yj = yA.1 107 yj := r2 yj (by omega)
      exact ⟨yj, j1, by rw [← ye1]; exact yj2, by rw [← ye2]; exact yj3⟩
    · rintro ⟨yj, j1, yj2, yj3⟩
      have ye1 : yA.1 49 yj = yA.1 106 yj := yr1 yj (by omega)
      have ye2 : yA.1 50 yj = yA.1 107 yj := r2 yj (by omega)
      exact ⟨yj, j1, by rw [ye1]; exact yj2, by rw [ye2]; exact yj3⟩
  unfold dAsk qaddX at ys1
  rw [yf2, yf3] at ys1
  rcases ys1 with ⟨ya1, a2, rfl⟩ | ⟨ya1, ⟨a2, a3, rfl⟩ | ⟨a2, a3, a4, rfl⟩ | ⟨a2, a3, a4, a5, a6⟩⟩
  · rcases ys2 with ⟨b1, b2, rfl⟩ | ⟨b1, b2⟩
    · exact ⟨hF, hR, by rw [some_int a2, some_int b2]⟩
    · exact absurd b1 ya1
  · rcases ys2 with ⟨b1, b2, rfl⟩ | ⟨b1, ⟨b2, b3, rfl⟩ | ⟨b2, b3, b4, rfl⟩ | ⟨b2, b3, b4, b5, rfl⟩⟩
    · exact absurd ya1 b1
    · exact ⟨hF, hR, by rw [some_int a3, some_int b3]⟩
    · exact absurd (hq.mp a2) b2
    · exact absurd (hq.mp a2) b2
  · rcases ys2 with ⟨b1, b2, rfl⟩ | ⟨b1, ⟨b2, b3, rfl⟩ | ⟨b2, b3, b4, rfl⟩ | ⟨b2, b3, b4, b5, rfl⟩⟩
    · exact absurd ya1 b1
    · exact absurd (hq.mpr b2) a2
    · exact ⟨hF, hR, by rw [some_int a4, some_int b4]⟩
    · omega
  · have ylow : ∀ yc yj, yc ≠ 47 → yc ≠ 49 → yc ≠ 50 → yc ≠ 51 → yc ≠ 52 → A1.1 yc yj = yA.1 yc yj := fun yc yj yq1 yq2 yq3 yq4 yq5 => by
      rw [a6, uI_c yq1, uI_c yq5, uI_c yq4, uI_c yq3, uI_c yq2]
    have e52 := ylow 69 52 (by decide) (by decide) (by decide) (by decide) (by decide)
    have ye11 := ylow 69 11 (by decide) (by decide) (by decide) (by decide) (by decide)
    have hq1 : hasQ (yA.1 69 52).toInt.toNat 106 107 yf l A1 ↔ hasQ (yA.1 69 52).toInt.toNat 106 107 yf l yA := by
      unfold hasQ
      constructor
      · rintro ⟨yj, j1, yj2, yj3⟩
        rw [ylow 106 yj (by decide) (by decide) (by decide) (by decide) (by decide)] at yj2
        rw [ylow 107 yj (by decide) (by decide) (by decide) (by decide) (by decide)] at yj3
        exact ⟨yj, j1, yj2, yj3⟩
      · rintro ⟨yj, j1, yj2, yj3⟩
        refine ⟨yj, j1, ?_, ?_⟩
        · rw [ylow 106 yj (by decide) (by decide) (by decide) (by decide) (by decide)]; exact yj2
        · rw [ylow 107 yj (by decide) (by decide) (by decide) (by decide) (by decide)]; exact yj3
    unfold eAsk qaddM at ys2
    rw [e52, ye11] at ys2
    rcases ys2 with ⟨b1, b2, -⟩ | ⟨b1, ⟨b2, b3, -⟩ | ⟨b2, b3, b4, -⟩ | ⟨b2, b3, b4, b5, b6⟩⟩
    · exact absurd ya1 b1
    · exact absurd (hq.mpr (hq1.mp b2)) a2
    · omega
    · refine ⟨?_, ?_, by rw [some_int a5, some_int b5]⟩
      · intro yq hqq
        have hq0 := hF yq hqq
        simp only [F27, List.mem_cons, List.not_mem_nil, or_false] at hqq
        rcases hqq with rfl | rfl | rfl
        · rw [b6, a6]; simpa [uI] using hq0
        · rw [b6, a6]; simpa [uI] using hq0
        · rw [b6, a6]; simp [uI]
      · intro yq hqq ym yhm yj hj
        have hq0 := hR yq hqq ym yhm yj hj
        simp only [Ar27, List.mem_cons, List.not_mem_nil, or_false] at hqq
        rcases hqq with rfl | rfl
        · rw [b6, a6]
          simp only at hq0
          simp [uI]
          split
          · rfl
          · exact hq0
        · rw [b6, a6]
          simp only at hq0
          simp [uI]
          split
          · rfl
          · exact hq0
