/-! AUDIT, yOF, TAKEN -/
theorem bx_audit {N : Nat} {yA : AW} {yQ : Option Value → AW → Prop} (yc yk : Int32)
    (l1 : yc.toInt < 0 → yQ (some (.int (-1))) yA)
    (l2 : 0 ≤ yc.toInt → (yA.1 30 4).toInt ≤ yc.toInt → yQ (some (.int (-1))) yA)
    (l3 : 0 ≤ yc.toInt → yc.toInt < (yA.1 30 4).toInt → yc.toInt < 150 → ∀ ya1, yA.2.2.1 31 yc.toInt.toNat = some ya1 → 129 ≤ ya1 → ya1 < yA.2.2.2.2 → yk.toInt < 0 → yQ (some (.int (-1))) yA)
    (l4 : 0 ≤ yc.toInt → yc.toInt < (yA.1 30 4).toInt → yc.toInt < 150 → ∀ ya1, yA.2.2.1 31 yc.toInt.toNat = some ya1 → 129 ≤ ya1 → ya1 < yA.2.2.2.2 → 0 ≤ yk.toInt → ((yA.1 ya1 2) - 1).toInt < yk.toInt → yQ (some (.int (-1))) yA)
    (l5 : 0 ≤ yc.toInt → yc.toInt < (yA.1 30 4).toInt → yc.toInt < 150 → ∀ ya1, yA.2.2.1 31 yc.toInt.toNat = some ya1 → 129 ≤ ya1 → ya1 < yA.2.2.2.2 → 0 ≤ yk.toInt → yk.toInt ≤ ((yA.1 ya1 2) - 1).toInt → (yA.1 ya1 11).toInt < 0 → yQ (some (.int ((yA.1 30 5) + 1))) (uI (uI (uI yA ya1 11 (yA.1 0 10)) ya1 12 yk) 30 5 ((yA.1 30 5) + 1)))
    (l6 : 0 ≤ yc.toInt → yc.toInt < (yA.1 30 4).toInt → yc.toInt < 150 → ∀ ya1, yA.2.2.1 31 yc.toInt.toNat = some ya1 → 129 ≤ ya1 → ya1 < yA.2.2.2.2 → 0 ≤ yk.toInt → yk.toInt ≤ ((yA.1 ya1 2) - 1).toInt → 0 ≤ (yA.1 ya1 11).toInt → yQ (some (.int (-3))) yA)
    (l7 : 0 ≤ yc.toInt → yc.toInt < (yA.1 30 4).toInt → yc.toInt < 150 → yA.2.2.1 31 yc.toInt.toNat = none → yQ (some (.int (-1))) yA) :
    Pa N 136 0 [(0, .ref 0), (1, .int yc), (2, .int yk)] [] yA yQ := by
  refine Pa.mp 1 (pc' := 1) (l' := [(0, .ref 0), (1, .int yc), (2, .int yk)]) (st' := [.ref 0]) (by rfl) ?_
  refine Pa.gfR (by rfl) (by rfl) (.inl rfl) (by rfl) ?_
  show Pa N 136 4 [(0, .ref 0), (1, .int yc), (2, .int yk)] [.ref 30] yA _
  refine Pa.mp 1 (pc' := 5) (l' := [(0, .ref 0), (1, .int yc), (2, .int yk)]) (st' := [.int yc, .ref 30]) (by rfl) ?_
  refine Pa.inv (by rfl) (by rfl) (.inr rfl) (by rfl) ?_
  show Pa N 26 0 [(0, .ref 30), (1, .int yc)] [] yA _
  refine Pa.mp 1 (pc' := 1) (l' := [(0, .ref 30), (1, .int yc)]) (st' := [.int yc]) (by rfl) ?_
  refine Pa.if1 (a := yc.toInt) (t := 21) (by rfl) (by rfl) (rfl) (fun h1 => ?_) (fun h2 => ?_)
  · have h1 : yc.toInt < 0 := h1
    refine Pa.mp 1 (pc' := 22) (l' := [(0, .ref 30), (1, .int yc)]) (st' := [.null]) (by rfl) ?_
    refine Pa.nret (by rfl) ?_
    show Pa N 136 8 [(0, .ref 0), (1, .int yc), (2, .int yk)] [.null] yA _
    refine Pa.mp 2 (pc' := 10) (l' := [(3, .null), (0, .ref 0), (1, .int yc), (2, .int yk)]) (st' := [.null]) (by rfl) ?_
    refine Pa.mp 1 (pc' := 27) (l' := [(3, .null), (0, .ref 0), (1, .int yc), (2, .int yk)]) (st' := []) (by rfl) ?_
    refine Pa.ic (x := (-1)) (pc' := 28) (by rfl) (by rfl) (by decide) ?_
    refine Pa.iret (by rfl) ?_
    exact l1 h1
  · have h2 : 0 ≤ yc.toInt := h2
    refine Pa.mp 2 (pc' := 6) (l' := [(0, .ref 30), (1, .int yc)]) (st' := [.ref 30, .int yc]) (by rfl) ?_
    refine Pa.gfI (v := yA.1 30 4) (by rfl) (by rfl) (.inl rfl) (by rfl) (by rfl) ?_
    refine Pa.if2 (a := yc.toInt) (b := (yA.1 30 4).toInt) (t := 21) (by rfl) (by rfl) (rfl) (rfl) (fun h3 => ?_) (fun h4 => ?_)
    · have h3 : (yA.1 30 4).toInt ≤ yc.toInt := h3
      refine Pa.mp 1 (pc' := 22) (l' := [(0, .ref 30), (1, .int yc)]) (st' := [.null]) (by rfl) ?_
      refine Pa.nret (by rfl) ?_
      show Pa N 136 8 [(0, .ref 0), (1, .int yc), (2, .int yk)] [.null] yA _
      refine Pa.mp 2 (pc' := 10) (l' := [(3, .null), (0, .ref 0), (1, .int yc), (2, .int yk)]) (st' := [.null]) (by rfl) ?_
      refine Pa.mp 1 (pc' := 27) (l' := [(3, .null), (0, .ref 0), (1, .int yc), (2, .int yk)]) (st' := []) (by rfl) ?_
      refine Pa.ic (x := (-1)) (pc' := 28) (by rfl) (by rfl) (by decide) ?_
      refine Pa.iret (by rfl) ?_
      exact l2 h2 h3
    · have h4 : yc.toInt < (yA.1 30 4).toInt := h4
      refine Pa.mp 1 (pc' := 13) (l' := [(0, .ref 30), (1, .int yc)]) (st' := [.ref 30]) (by rfl) ?_
      refine Pa.gfR (by rfl) (by rfl) (.inl rfl) (by rfl) ?_
      show Pa N 26 16 [(0, .ref 30), (1, .int yc)] [.ref 31] yA _
      refine Pa.mp 1 (pc' := 17) (l' := [(0, .ref 30), (1, .int yc)]) (st' := [.int yc, .ref 31]) (by rfl) ?_
      refine Pa.olds (o := yA.2.2.1 31 yc.toInt.toNat) (by rfl) (by rfl) (by rfl) (fun h5 h6 ya1 h7 h9 h10 => ?_) (fun h5 h6 h8 => ?_)
      · skip
        refine Pa.mp 1 (pc' := 22) (l' := [(0, .ref 30), (1, .int yc)]) (st' := [.ref ya1]) (by rfl) ?_
        refine Pa.aret (by rfl) ?_
        show Pa N 136 8 [(0, .ref 0), (1, .int yc), (2, .int yk)] [.ref ya1] yA _
        refine Pa.mp 2 (pc' := 10) (l' := [(3, .ref ya1), (0, .ref 0), (1, .int yc), (2, .int yk)]) (st' := [.ref ya1]) (by rfl) ?_
        refine Pa.mp 1 (pc' := 13) (l' := [(3, .ref ya1), (0, .ref 0), (1, .int yc), (2, .int yk)]) (st' := []) (by rfl) ?_
        refine Pa.mp 1 (pc' := 14) (l' := [(3, .ref ya1), (0, .ref 0), (1, .int yc), (2, .int yk)]) (st' := [.int yk]) (by rfl) ?_
        refine Pa.ic (x := 0) (pc' := 15) (by rfl) (by rfl) (by decide) ?_
        refine Pa.mp 1 (pc' := 16) (l' := [(3, .ref ya1), (0, .ref 0), (1, .int yc), (2, .int yk)]) (st' := [.ref ya1, .int 0, .int yk]) (by rfl) ?_
        refine Pa.gfI (v := yA.1 ya1 2) (by rfl) (by rfl) (.inr rfl) (by rfl) (by rfl) ?_
        refine Pa.ic (x := 1) (pc' := 20) (by rfl) (by rfl) (by decide) ?_
        refine Pa.mp 1 (pc' := 21) (l' := [(3, .ref ya1), (0, .ref 0), (1, .int yc), (2, .int yk)]) (st' := [.int ((yA.1 ya1 2) - 1), .int 0, .int yk]) (by rfl) ?_
        refine Pa.ist (by rfl) (by rfl) (.inl rfl) (by rfl) (by rfl) ?_
        show Pa N 146 0 [(0, .int yk), (1, .int 0), (2, .int ((yA.1 ya1 2) - 1))] [] yA _
        refine Pa.mp 2 (pc' := 2) (l' := [(0, .int yk), (1, .int 0), (2, .int ((yA.1 ya1 2) - 1))]) (st' := [.int 0, .int yk]) (by rfl) ?_
        refine Pa.if2 (a := yk.toInt) (b := 0) (t := 14) (by rfl) (by rfl) (rfl) (by decide) (fun h11 => ?_) (fun h12 => ?_)
        · have h11 : yk.toInt < 0 := h11
          refine Pa.ic (x := 0) (pc' := 15) (by rfl) (by rfl) (by decide) ?_
          refine Pa.iret (by rfl) ?_
          show Pa N 136 24 [(3, .ref ya1), (0, .ref 0), (1, .int yc), (2, .int yk)] [.int 0] yA _
          refine Pa.if1k false (by rfl) (by rfl) (by decide) ?_
          show Pa N 136 27 [(3, .ref ya1), (0, .ref 0), (1, .int yc), (2, .int yk)] [] yA _
          refine Pa.ic (x := (-1)) (pc' := 28) (by rfl) (by rfl) (by decide) ?_
          refine Pa.iret (by rfl) ?_
          exact l3 h2 h4 h6 ya1 h7 h9 h10 h11
        · have h12 : 0 ≤ yk.toInt := h12
          refine Pa.mp 2 (pc' := 7) (l' := [(0, .int yk), (1, .int 0), (2, .int ((yA.1 ya1 2) - 1))]) (st' := [.int ((yA.1 ya1 2) - 1), .int yk]) (by rfl) ?_
          refine Pa.if2 (a := yk.toInt) (b := ((yA.1 ya1 2) - 1).toInt) (t := 14) (by rfl) (by rfl) (rfl) (rfl) (fun h13 => ?_) (fun h14 => ?_)
          · have h13 : ((yA.1 ya1 2) - 1).toInt < yk.toInt := h13
            refine Pa.ic (x := 0) (pc' := 15) (by rfl) (by rfl) (by decide) ?_
            refine Pa.iret (by rfl) ?_
            show Pa N 136 24 [(3, .ref ya1), (0, .ref 0), (1, .int yc), (2, .int yk)] [.int 0] yA _
            refine Pa.if1k false (by rfl) (by rfl) (by decide) ?_
            show Pa N 136 27 [(3, .ref ya1), (0, .ref 0), (1, .int yc), (2, .int yk)] [] yA _
            refine Pa.ic (x := (-1)) (pc' := 28) (by rfl) (by rfl) (by decide) ?_
            refine Pa.iret (by rfl) ?_
            exact l4 h2 h4 h6 ya1 h7 h9 h10 h12 h13
          · have h14 : yk.toInt ≤ ((yA.1 ya1 2) - 1).toInt := h14
            refine Pa.ic (x := 1) (pc' := 11) (by rfl) (by rfl) (by decide) ?_
            refine Pa.mp 1 (pc' := 15) (l' := [(0, .int yk), (1, .int 0), (2, .int ((yA.1 ya1 2) - 1))]) (st' := [.int 1]) (by rfl) ?_
            refine Pa.iret (by rfl) ?_
            show Pa N 136 24 [(3, .ref ya1), (0, .ref 0), (1, .int yc), (2, .int yk)] [.int 1] yA _
            refine Pa.if1k true (by rfl) (by rfl) (by decide) ?_
            show Pa N 136 29 [(3, .ref ya1), (0, .ref 0), (1, .int yc), (2, .int yk)] [] yA _
            refine Pa.mp 1 (pc' := 30) (l' := [(3, .ref ya1), (0, .ref 0), (1, .int yc), (2, .int yk)]) (st' := [.ref 0]) (by rfl) ?_
            refine Pa.gfR (by rfl) (by rfl) (.inl rfl) (by rfl) ?_
            show Pa N 136 33 [(3, .ref ya1), (0, .ref 0), (1, .int yc), (2, .int yk)] [.ref 30] yA _
            refine Pa.mp 3 (pc' := 36) (l' := [(3, .ref ya1), (0, .ref 0), (1, .int yc), (2, .int yk)]) (st' := [.ref 0, .int yk, .ref ya1, .ref 30]) (by rfl) ?_
            refine Pa.gfI (v := yA.1 0 10) (by rfl) (by rfl) (.inl rfl) (by rfl) (by rfl) ?_
            refine Pa.inv (by rfl) (by rfl) (.inr rfl) (by rfl) ?_
            show Pa N 31 0 [(0, .ref 30), (1, .ref ya1), (2, .int yk), (3, .int (yA.1 0 10))] [] yA _
            refine Pa.mp 1 (pc' := 1) (l' := [(0, .ref 30), (1, .ref ya1), (2, .int yk), (3, .int (yA.1 0 10))]) (st' := [.ref ya1]) (by rfl) ?_
            refine Pa.gfI (v := yA.1 ya1 11) (by rfl) (by rfl) (.inr rfl) (by rfl) (by rfl) ?_
            refine Pa.if1 (a := (yA.1 ya1 11).toInt) (t := 10) (by rfl) (by rfl) (rfl) (fun h15 => ?_) (fun yh16 => ?_)
            · have h15 : (yA.1 ya1 11).toInt < 0 := h15
              refine Pa.mp 2 (pc' := 12) (l' := [(0, .ref 30), (1, .ref ya1), (2, .int yk), (3, .int (yA.1 0 10))]) (st' := [.int (yA.1 0 10), .ref ya1]) (by rfl) ?_
              refine Pa.pfI (by rfl) (by rfl) (.inr rfl) (by rfl) ?_
              show Pa N 31 15 [(0, .ref 30), (1, .ref ya1), (2, .int yk), (3, .int (yA.1 0 10))] [] (uI yA ya1 11 (yA.1 0 10)) _
              refine Pa.mp 2 (pc' := 17) (l' := [(0, .ref 30), (1, .ref ya1), (2, .int yk), (3, .int (yA.1 0 10))]) (st' := [.int yk, .ref ya1]) (by rfl) ?_
              refine Pa.pfI (by rfl) (by rfl) (.inr rfl) (by rfl) ?_
              show Pa N 31 20 [(0, .ref 30), (1, .ref ya1), (2, .int yk), (3, .int (yA.1 0 10))] [] (uI (uI yA ya1 11 (yA.1 0 10)) ya1 12 yk) _
              refine Pa.mp 2 (pc' := 22) (l' := [(0, .ref 30), (1, .ref ya1), (2, .int yk), (3, .int (yA.1 0 10))]) (st' := [.ref 30, .ref 30]) (by rfl) ?_
              refine Pa.gfI (v := yA.1 30 5) (by rfl) (by rfl) (.inl rfl) (by rfl) (by show (uI (uI yA ya1 11 (yA.1 0 10)) ya1 12 yk).1 30 5 = yA.1 30 5; rw [uI_c (by omega), uI_c (by omega)]) ?_
              refine Pa.ic (x := 1) (pc' := 26) (by rfl) (by rfl) (by decide) ?_
              refine Pa.mp 1 (pc' := 27) (l' := [(0, .ref 30), (1, .ref ya1), (2, .int yk), (3, .int (yA.1 0 10))]) (st' := [.int ((yA.1 30 5) + 1), .ref 30]) (by rfl) ?_
              refine Pa.pfI (by rfl) (by rfl) (.inl rfl) (by rfl) ?_
              show Pa N 31 30 [(0, .ref 30), (1, .ref ya1), (2, .int yk), (3, .int (yA.1 0 10))] [] (uI (uI (uI yA ya1 11 (yA.1 0 10)) ya1 12 yk) 30 5 ((yA.1 30 5) + 1)) _
              refine Pa.mp 1 (pc' := 31) (l' := [(0, .ref 30), (1, .ref ya1), (2, .int yk), (3, .int (yA.1 0 10))]) (st' := [.ref 30]) (by rfl) ?_
              refine Pa.gfI (v := (yA.1 30 5) + 1) (by rfl) (by rfl) (.inl rfl) (by rfl) (by show (uI (uI (uI yA ya1 11 (yA.1 0 10)) ya1 12 yk) 30 5 ((yA.1 30 5) + 1)).1 30 5 = (yA.1 30 5) + 1; rw [uI_h]) ?_
              refine Pa.iret (by rfl) ?_
              show Pa N 136 42 [(3, .ref ya1), (0, .ref 0), (1, .int yc), (2, .int yk)] [.int ((yA.1 30 5) + 1)] (uI (uI (uI yA ya1 11 (yA.1 0 10)) ya1 12 yk) 30 5 ((yA.1 30 5) + 1)) _
              refine Pa.iret (by rfl) ?_
              exact l5 h2 h4 h6 ya1 h7 h9 h10 h12 h14 h15
            · have yh16 : 0 ≤ (yA.1 ya1 11).toInt := yh16
              refine Pa.ic (x := (-3)) (pc' := 9) (by rfl) (by rfl) (by decide) ?_
              refine Pa.iret (by rfl) ?_
              show Pa N 136 42 [(3, .ref ya1), (0, .ref 0), (1, .int yc), (2, .int yk)] [.int (-3)] yA _
              refine Pa.iret (by rfl) ?_
              exact l6 h2 h4 h6 ya1 h7 h9 h10 h12 h14 yh16
      · skip
        refine Pa.mp 1 (pc' := 22) (l' := [(0, .ref 30), (1, .int yc)]) (st' := [.null]) (by rfl) ?_
        refine Pa.nret (by rfl) ?_
        show Pa N 136 8 [(0, .ref 0), (1, .int yc), (2, .int yk)] [.null] yA _
        refine Pa.mp 2 (pc' := 10) (l' := [(3, .null), (0, .ref 0), (1, .int yc), (2, .int yk)]) (st' := [.null]) (by rfl) ?_
        refine Pa.mp 1 (pc' := 27) (l' := [(3, .null), (0, .ref 0), (1, .int yc), (2, .int yk)]) (st' := []) (by rfl) ?_
        refine Pa.ic (x := (-1)) (pc' := 28) (by rfl) (by rfl) (by decide) ?_
        refine Pa.iret (by rfl) ?_
        exact l7 h2 h4 h6 h8
theorem bm_audit {N : Nat} {yA : AW} {yQ : Option Value → AW → Prop} (yc yk : Int32) (yhT : (yA.1 69 31).toInt ≤ 150)
    (l1 : yc.toInt < 0 → yQ (some (.int (-1))) yA)
    (l2 : 0 ≤ yc.toInt → (yA.1 69 31).toInt ≤ yc.toInt → yQ (some (.int (-1))) yA)
    (l3 : 0 ≤ yc.toInt → yc.toInt < (yA.1 69 31).toInt → yc.toInt < 150 → yk.toInt < 0 → yQ (some (.int (-1))) yA)
    (l4 : 0 ≤ yc.toInt → yc.toInt < (yA.1 69 31).toInt → yc.toInt < 150 → 0 ≤ yk.toInt → ((yA.1 91 yc.toInt.toNat) - 1).toInt < yk.toInt → yQ (some (.int (-1))) yA)
    (l5 : 0 ≤ yc.toInt → yc.toInt < (yA.1 69 31).toInt → yc.toInt < 150 → 0 ≤ yk.toInt → yk.toInt ≤ ((yA.1 91 yc.toInt.toNat) - 1).toInt → (yA.1 93 yc.toInt.toNat).toInt < 0 → yQ (some (.int (audM (uI (uI yA 93 yc.toInt.toNat (yA.1 69 0)) 92 yc.toInt.toNat yk) (-1)))) (uI (uI yA 93 yc.toInt.toNat (yA.1 69 0)) 92 yc.toInt.toNat yk))
    (l6 : 0 ≤ yc.toInt → yc.toInt < (yA.1 69 31).toInt → yc.toInt < 150 → 0 ≤ yk.toInt → yk.toInt ≤ ((yA.1 91 yc.toInt.toNat) - 1).toInt → 0 ≤ (yA.1 93 yc.toInt.toNat).toInt → yQ (some (.int (-3))) yA) :
    Pa N 242 0 [(0, .ref 69), (1, .int yc), (2, .int yk)] [] yA yQ := by
  refine Pa.mp 2 (pc' := 2) (l' := [(0, .ref 69), (1, .int yc), (2, .int yk)]) (st' := [.int yc, .ref 69]) (by rfl) ?_
  refine Pa.inv (by rfl) (by rfl) (.inl rfl) (by rfl) ?_
  show Pa N 159 0 [(0, .ref 69), (1, .int yc)] [] yA _
  refine Pa.mp 1 (pc' := 1) (l' := [(0, .ref 69), (1, .int yc)]) (st' := [.int yc]) (by rfl) ?_
  refine Pa.if1 (a := yc.toInt) (t := 16) (by rfl) (by rfl) (rfl) (fun h1 => ?_) (fun h2 => ?_)
  · have h1 : yc.toInt < 0 := h1
    refine Pa.ic (x := 0) (pc' := 17) (by rfl) (by rfl) (by decide) ?_
    refine Pa.iret (by rfl) ?_
    show Pa N 242 5 [(0, .ref 69), (1, .int yc), (2, .int yk)] [.int 0] yA _
    refine Pa.if1k true (by rfl) (by rfl) (by decide) ?_
    show Pa N 242 36 [(0, .ref 69), (1, .int yc), (2, .int yk)] [] yA _
    refine Pa.ic (x := (-1)) (pc' := 37) (by rfl) (by rfl) (by decide) ?_
    refine Pa.iret (by rfl) ?_
    exact l1 h1
  · have h2 : 0 ≤ yc.toInt := h2
    refine Pa.mp 2 (pc' := 6) (l' := [(0, .ref 69), (1, .int yc)]) (st' := [.ref 69, .int yc]) (by rfl) ?_
    refine Pa.gfI (v := yA.1 69 31) (by rfl) (by rfl) (.inl rfl) (by rfl) (by rfl) ?_
    refine Pa.if2 (a := yc.toInt) (b := (yA.1 69 31).toInt) (t := 16) (by rfl) (by rfl) (rfl) (rfl) (fun h3 => ?_) (fun h4 => ?_)
    · have h3 : (yA.1 69 31).toInt ≤ yc.toInt := h3
      refine Pa.ic (x := 0) (pc' := 17) (by rfl) (by rfl) (by decide) ?_
      refine Pa.iret (by rfl) ?_
      show Pa N 242 5 [(0, .ref 69), (1, .int yc), (2, .int yk)] [.int 0] yA _
      refine Pa.if1k true (by rfl) (by rfl) (by decide) ?_
      show Pa N 242 36 [(0, .ref 69), (1, .int yc), (2, .int yk)] [] yA _
      refine Pa.ic (x := (-1)) (pc' := 37) (by rfl) (by rfl) (by decide) ?_
      refine Pa.iret (by rfl) ?_
      exact l2 h2 h3
    · have h4 : yc.toInt < (yA.1 69 31).toInt := h4
      refine Pa.ic (x := 1) (pc' := 13) (by rfl) (by rfl) (by decide) ?_
      refine Pa.mp 1 (pc' := 17) (l' := [(0, .ref 69), (1, .int yc)]) (st' := [.int 1]) (by rfl) ?_
      refine Pa.iret (by rfl) ?_
      show Pa N 242 5 [(0, .ref 69), (1, .int yc), (2, .int yk)] [.int 1] yA _
      refine Pa.if1k false (by rfl) (by rfl) (by decide) ?_
      show Pa N 242 8 [(0, .ref 69), (1, .int yc), (2, .int yk)] [] yA _
      refine Pa.mp 1 (pc' := 9) (l' := [(0, .ref 69), (1, .int yc), (2, .int yk)]) (st' := [.int yk]) (by rfl) ?_
      refine Pa.ic (x := 0) (pc' := 10) (by rfl) (by rfl) (by decide) ?_
      refine Pa.mp 1 (pc' := 11) (l' := [(0, .ref 69), (1, .int yc), (2, .int yk)]) (st' := [.ref 69, .int 0, .int yk]) (by rfl) ?_
      refine Pa.gfR (by rfl) (by rfl) (.inl rfl) (by rfl) ?_
      show Pa N 242 14 [(0, .ref 69), (1, .int yc), (2, .int yk)] [.ref 91, .int 0, .int yk] yA _
      refine Pa.mp 2 (pc' := 16) (l' := [(0, .ref 69), (1, .int yc), (2, .int yk)]) (st' := [.int yc, .ref 69, .ref 91, .int 0, .int yk]) (by rfl) ?_
      refine Pa.inv (by rfl) (by rfl) (.inl rfl) (by rfl) ?_
      show Pa N 159 0 [(0, .ref 69), (1, .int yc)] [] yA _
      refine Pa.mp 1 (pc' := 1) (l' := [(0, .ref 69), (1, .int yc)]) (st' := [.int yc]) (by rfl) ?_
      refine Pa.if1 (a := yc.toInt) (t := 16) (by rfl) (by rfl) (rfl) (fun yh => (by exfalso; have h' : yc.toInt < 0 := yh; omega)) (fun _ => ?_)
      refine Pa.mp 2 (pc' := 6) (l' := [(0, .ref 69), (1, .int yc)]) (st' := [.ref 69, .int yc]) (by rfl) ?_
      refine Pa.gfI (v := yA.1 69 31) (by rfl) (by rfl) (.inl rfl) (by rfl) (by rfl) ?_
      refine Pa.if2 (a := yc.toInt) (b := (yA.1 69 31).toInt) (t := 16) (by rfl) (by rfl) (rfl) (rfl) (fun yh => (by exfalso; have h' : (yA.1 69 31).toInt ≤ yc.toInt := yh; omega)) (fun _ => ?_)
      refine Pa.ic (x := 1) (pc' := 13) (by rfl) (by rfl) (by decide) ?_
      refine Pa.mp 1 (pc' := 17) (l' := [(0, .ref 69), (1, .int yc)]) (st' := [.int 1]) (by rfl) ?_
      refine Pa.iret (by rfl) ?_
      show Pa N 242 19 [(0, .ref 69), (1, .int yc), (2, .int yk)] [.int 1, .ref 91, .int 0, .int yk] yA _
      refine Pa.if1k false (by rfl) (by rfl) (by decide) ?_
      show Pa N 242 22 [(0, .ref 69), (1, .int yc), (2, .int yk)] [.ref 91, .int 0, .int yk] yA _
      refine Pa.mp 2 (pc' := 27) (l' := [(0, .ref 69), (1, .int yc), (2, .int yk)]) (st' := [.int yc, .ref 91, .int 0, .int yk]) (by rfl) ?_
      refine Pa.alds (v := yA.1 91 yc.toInt.toNat) (by rfl) (by rfl) (by rfl) (fun h7 h8 => ?_)
      have h7 : 0 ≤ yc.toInt := h7
      have h8 : yc.toInt < 150 := h8
      refine Pa.ic (x := 1) (pc' := 29) (by rfl) (by rfl) (by decide) ?_
      refine Pa.mp 1 (pc' := 30) (l' := [(0, .ref 69), (1, .int yc), (2, .int yk)]) (st' := [.int ((yA.1 91 yc.toInt.toNat) - 1), .int 0, .int yk]) (by rfl) ?_
      refine Pa.ist (by rfl) (by rfl) (.inl rfl) (by rfl) (by rfl) ?_
      show Pa N 152 0 [(0, .int yk), (1, .int 0), (2, .int ((yA.1 91 yc.toInt.toNat) - 1))] [] yA _
      refine Pa.mp 2 (pc' := 2) (l' := [(0, .int yk), (1, .int 0), (2, .int ((yA.1 91 yc.toInt.toNat) - 1))]) (st' := [.int 0, .int yk]) (by rfl) ?_
      refine Pa.if2 (a := yk.toInt) (b := 0) (t := 14) (by rfl) (by rfl) (rfl) (by decide) (fun h9 => ?_) (fun h10 => ?_)
      · have h9 : yk.toInt < 0 := h9
        refine Pa.ic (x := 0) (pc' := 15) (by rfl) (by rfl) (by decide) ?_
        refine Pa.iret (by rfl) ?_
        show Pa N 242 33 [(0, .ref 69), (1, .int yc), (2, .int yk)] [.int 0] yA _
        refine Pa.if1k false (by rfl) (by rfl) (by decide) ?_
        show Pa N 242 36 [(0, .ref 69), (1, .int yc), (2, .int yk)] [] yA _
        refine Pa.ic (x := (-1)) (pc' := 37) (by rfl) (by rfl) (by decide) ?_
        refine Pa.iret (by rfl) ?_
        exact l3 h2 h4 h8 h9
      · have h10 : 0 ≤ yk.toInt := h10
        refine Pa.mp 2 (pc' := 7) (l' := [(0, .int yk), (1, .int 0), (2, .int ((yA.1 91 yc.toInt.toNat) - 1))]) (st' := [.int ((yA.1 91 yc.toInt.toNat) - 1), .int yk]) (by rfl) ?_
        refine Pa.if2 (a := yk.toInt) (b := ((yA.1 91 yc.toInt.toNat) - 1).toInt) (t := 14) (by rfl) (by rfl) (rfl) (rfl) (fun h11 => ?_) (fun h12 => ?_)
        · have h11 : ((yA.1 91 yc.toInt.toNat) - 1).toInt < yk.toInt := h11
          refine Pa.ic (x := 0) (pc' := 15) (by rfl) (by rfl) (by decide) ?_
          refine Pa.iret (by rfl) ?_
          show Pa N 242 33 [(0, .ref 69), (1, .int yc), (2, .int yk)] [.int 0] yA _
          refine Pa.if1k false (by rfl) (by rfl) (by decide) ?_
          show Pa N 242 36 [(0, .ref 69), (1, .int yc), (2, .int yk)] [] yA _
          refine Pa.ic (x := (-1)) (pc' := 37) (by rfl) (by rfl) (by decide) ?_
          refine Pa.iret (by rfl) ?_
          exact l4 h2 h4 h8 h10 h11
        · have h12 : yk.toInt ≤ ((yA.1 91 yc.toInt.toNat) - 1).toInt := h12
          refine Pa.ic (x := 1) (pc' := 11) (by rfl) (by rfl) (by decide) ?_
          refine Pa.mp 1 (pc' := 15) (l' := [(0, .int yk), (1, .int 0), (2, .int ((yA.1 91 yc.toInt.toNat) - 1))]) (st' := [.int 1]) (by rfl) ?_
          refine Pa.iret (by rfl) ?_
          show Pa N 242 33 [(0, .ref 69), (1, .int yc), (2, .int yk)] [.int 1] yA _
          refine Pa.if1k true (by rfl) (by rfl) (by decide) ?_
          show Pa N 242 38 [(0, .ref 69), (1, .int yc), (2, .int yk)] [] yA _
          refine Pa.mp 1 (pc' := 39) (l' := [(0, .ref 69), (1, .int yc), (2, .int yk)]) (st' := [.ref 69]) (by rfl) ?_
          refine Pa.gfR (by rfl) (by rfl) (.inl rfl) (by rfl) ?_
          show Pa N 242 42 [(0, .ref 69), (1, .int yc), (2, .int yk)] [.ref 93] yA _
          refine Pa.mp 1 (pc' := 43) (l' := [(0, .ref 69), (1, .int yc), (2, .int yk)]) (st' := [.int yc, .ref 93]) (by rfl) ?_
          refine Pa.alds (v := yA.1 93 yc.toInt.toNat) (by rfl) (by rfl) (by rfl) (fun h13 h14 => ?_)
          have h13 : 0 ≤ yc.toInt := h13
          have h14 : yc.toInt < 150 := h14
          refine Pa.if1 (a := (yA.1 93 yc.toInt.toNat).toInt) (t := 50) (by rfl) (by rfl) (rfl) (fun h15 => ?_) (fun yh16 => ?_)
          · have h15 : (yA.1 93 yc.toInt.toNat).toInt < 0 := h15
            refine Pa.mp 1 (pc' := 51) (l' := [(0, .ref 69), (1, .int yc), (2, .int yk)]) (st' := [.ref 69]) (by rfl) ?_
            refine Pa.gfR (by rfl) (by rfl) (.inl rfl) (by rfl) ?_
            show Pa N 242 54 [(0, .ref 69), (1, .int yc), (2, .int yk)] [.ref 93] yA _
            refine Pa.mp 2 (pc' := 56) (l' := [(0, .ref 69), (1, .int yc), (2, .int yk)]) (st' := [.ref 69, .int yc, .ref 93]) (by rfl) ?_
            refine Pa.gfI (v := yA.1 69 0) (by rfl) (by rfl) (.inl rfl) (by rfl) (by rfl) ?_
            refine Pa.asts (j' := yc.toInt.toNat) (by rfl) (by rfl) (by rfl) (fun h17 h18 => ?_)
            have h17 : 0 ≤ yc.toInt := h17
            have h18 : yc.toInt < 150 := h18
            show Pa N 242 60 [(0, .ref 69), (1, .int yc), (2, .int yk)] [] (uI yA 93 yc.toInt.toNat (yA.1 69 0)) _
            refine Pa.mp 1 (pc' := 61) (l' := [(0, .ref 69), (1, .int yc), (2, .int yk)]) (st' := [.ref 69]) (by rfl) ?_
            refine Pa.gfR (by rfl) (by rfl) (.inl rfl) (by rfl) ?_
            show Pa N 242 64 [(0, .ref 69), (1, .int yc), (2, .int yk)] [.ref 92] (uI yA 93 yc.toInt.toNat (yA.1 69 0)) _
            refine Pa.mp 2 (pc' := 66) (l' := [(0, .ref 69), (1, .int yc), (2, .int yk)]) (st' := [.int yk, .int yc, .ref 92]) (by rfl) ?_
            refine Pa.asts (j' := yc.toInt.toNat) (by rfl) (by rfl) (by rfl) (fun h19 h20 => ?_)
            have h19 : 0 ≤ yc.toInt := h19
            have h20 : yc.toInt < 150 := h20
            show Pa N 242 67 [(0, .ref 69), (1, .int yc), (2, .int yk)] [] (uI (uI yA 93 yc.toInt.toNat (yA.1 69 0)) 92 yc.toInt.toNat yk) _
            refine Pa.mp 1 (pc' := 68) (l' := [(0, .ref 69), (1, .int yc), (2, .int yk)]) (st' := [.ref 69]) (by rfl) ?_
            refine Pa.ic (x := (-1)) (pc' := 69) (by rfl) (by rfl) (by decide) ?_
            refine Pa.inv (by rfl) (by rfl) (.inl rfl) (by rfl) ?_
            refine Pa.mono (c_audited N (uI (uI yA 93 yc.toInt.toNat (yA.1 69 0)) 92 yc.toInt.toNat yk) (-1) (by rw [uI_c (by decide), uI_c (by decide)]; exact yhT)) (fun yu A1 hu => ?_)
            obtain ⟨rfl, hu⟩ := hu
            rw [hu]
            show Pa N 242 72 [(0, .ref 69), (1, .int yc), (2, .int yk)] [.int (audM (uI (uI yA 93 yc.toInt.toNat (yA.1 69 0)) 92 yc.toInt.toNat yk) (-1))] (uI (uI yA 93 yc.toInt.toNat (yA.1 69 0)) 92 yc.toInt.toNat yk) _
            refine Pa.iret (by rfl) ?_
            exact l5 h2 h4 h8 h10 h12 h15
          · have yh16 : 0 ≤ (yA.1 93 yc.toInt.toNat).toInt := yh16
            refine Pa.ic (x := (-3)) (pc' := 49) (by rfl) (by rfl) (by decide) ?_
            refine Pa.iret (by rfl) ?_
            exact l6 h2 h4 h8 h10 h12 yh16
def auditX (yA : AW) (ya : Nat) (yk : Int32) : AW := uI (uI (uI yA ya 11 (yA.1 0 10)) ya 12 yk) 30 5 (yA.1 30 5 + 1)
def auditM (yA : AW) (yc : Nat) (yk : Int32) : AW := uI (uI yA 93 yc (yA.1 69 0)) 92 yc yk
def inC (T yc : Int32) : Prop := 0 ≤ yc.toInt ∧ yc.toInt < T.toInt
def upto (ym yk : Int32) : Prop := 0 ≤ yk.toInt ∧ yk.toInt ≤ (ym - 1).toInt
/-- what holds of ya yrow that is there -/
def isRow (yA : AW) (yc : Int32) (ya : Nat) : Prop := inC (yA.1 30 4) yc ∧ yA.2.2.1 31 yc.toInt.toNat = some ya ∧ 129 ≤ ya
def dAudit (yc yk : Int32) (yA : AW) (yu : Option Value) (A1 : AW) : Prop := (¬ inC (yA.1 30 4) yc ∧ yu = some (.int (-1)) ∧ A1 = yA) ∨ (inC (yA.1 30 4) yc ∧ yA.2.2.1 31 yc.toInt.toNat = none) ∨ (∃ ya, isRow yA yc ya ∧ ((¬ upto (yA.1 ya 2) yk ∧ yu = some (.int (-1)) ∧ A1 = yA) ∨ (upto (yA.1 ya 2) yk ∧ 0 ≤ (yA.1 ya 11).toInt ∧ yu = some (.int (-3)) ∧ A1 = yA) ∨ (upto (yA.1 ya 2) yk ∧ (yA.1 ya 11).toInt < 0 ∧ yu = some (.int (yA.1 30 5 + 1)) ∧ A1 = auditX yA ya yk)))
theorem d_audit (N : Nat) (yA : AW) (yc yk : Int32) : Pa N 136 0 [(0, .ref 0), (1, .int yc), (2, .int yk)] [] yA (dAudit yc yk yA) := by
  refine bx_audit yc yk ?_ ?_ ?_ ?_ ?_ ?_ ?_
  all_goals
    intros
    unfold dAudit isRow inC upto
    first
      | exact .inl ⟨by omega, rfl, rfl⟩
      | exact .inr (.inl ⟨by omega, by assumption⟩)
      | exact .inr (.inr ⟨_, ⟨by omega, by assumption, by assumption⟩, .inl ⟨by omega, rfl, rfl⟩⟩)
      | exact .inr (.inr ⟨_, ⟨by omega, by assumption, by assumption⟩, .inr (.inl ⟨by omega, by assumption, rfl, rfl⟩)⟩)
      | exact .inr (.inr ⟨_, ⟨by omega, by assumption, by assumption⟩, .inr (.inr ⟨by omega, by assumption, rfl, rfl⟩)⟩)
def eAudit (yc yk : Int32) (yA : AW) (yu : Option Value) (A1 : AW) : Prop := (¬ (inC (yA.1 69 31) yc ∧ upto (yA.1 91 yc.toInt.toNat) yk) ∧ yu = some (.int (-1)) ∧ A1 = yA) ∨ (inC (yA.1 69 31) yc ∧ upto (yA.1 91 yc.toInt.toNat) yk ∧ 0 ≤ (yA.1 93 yc.toInt.toNat).toInt ∧ yu = some (.int (-3)) ∧ A1 = yA) ∨ (inC (yA.1 69 31) yc ∧ upto (yA.1 91 yc.toInt.toNat) yk ∧ (yA.1 93 yc.toInt.toNat).toInt < 0 ∧ yu = some (.int (audM (auditM yA yc.toInt.toNat yk) (-1))) ∧ A1 = auditM yA yc.toInt.toNat yk)
theorem e_audit (N : Nat) (yA : AW) (yc yk : Int32) (yhT : (yA.1 69 31).toInt ≤ 150) : Pa N 242 0 [(0, .ref 69), (1, .int yc), (2, .int yk)] [] yA (eAudit yc yk yA) := by
  refine bm_audit yc yk yhT ?_ ?_ ?_ ?_ ?_ ?_
  all_goals
    intros
    unfold eAudit inC upto
    first
      | exact .inl ⟨by omega, rfl, rfl⟩
      | exact .inr (.inl ⟨by omega, by omega, by assumption, rfl, rfl⟩)
      | exact .inr (.inr ⟨by omega, by omega, by assumption, rfl, rfl⟩)
theorem k_row {yA : AW} {yc : Int32} {ya : Nat} (hX : RZc yA) (yf5 : yA.1 30 4 = yA.1 69 31) (yh : isRow yA yc ya) : yc.toInt.toNat < cT yA ∧ ya < yA.2.2.2.2 ∧ rowR yA ya yc.toInt.toNat ∧ inC (yA.1 69 31) yc := by
  obtain ⟨h1, h2, h3⟩ := yh
  rw [yf5] at h1
  have yhc : yc.toInt.toNat < cT yA := by unfold cT; unfold inC at h1; omega
  obtain ⟨yb, yq1, yq2, yq3, yq4⟩ := hX.1 _ yhc
  rw [h2] at yq1
  cases yq1
  exact ⟨yhc, yq3, yq4, h1⟩
theorem k_some {yA : AW} {yc : Int32} (hX : RZc yA) (yf5 : yA.1 30 4 = yA.1 69 31) (yh : inC (yA.1 30 4) yc) (hn : yA.2.2.1 31 yc.toInt.toNat = none) : False := by
  rw [yf5] at yh
  have yhc : yc.toInt.toNat < cT yA := by unfold cT; unfold inC at yh; omega
  obtain ⟨yb, yq1, -⟩ := hX.1 _ yhc
  rw [hn] at yq1
  cases yq1
theorem sumN_up {yf yg : Nat → Int32} {yc : Nat} (hne : ∀ yj, yj ≠ yc → yg yj = yf yj) (yhc : yg yc = yf yc + 1) : ∀ yn, yc < yn → sumN yg yn = sumN yf yn + 1
  | 0, yh => absurd yh (Nat.not_lt_zero _)
  | yn + 1, yh => by
    show sumN yg yn + yg yn = sumN yf yn + yf yn + 1
    by_cases ye : yc = yn
    · subst ye
      rw [yhc, sumN_congr (g := yf) (fun yj hj => hne yj (by omega)), ← Int32.add_assoc]
    · rw [sumN_up hne yhc yn (by omega), hne yn (by omega), Int32.add_assoc, Int32.add_comm 1, ← Int32.add_assoc]
theorem k_audit {yA A1 A2 : AW} {yc yk yx yy : Int32} (hA : okA yA) (hF : eqF Fc yA) (hR : eqRs Arc yA) (hX : RZc yA) (ys1 : dAudit yc yk yA (some (.int yx)) A1) (ys2 : eAudit yc yk A1 (some (.int yy)) A2) : eqF Fc A2 ∧ eqRs Arc A2 ∧ RZc A2 ∧ yx = yy := by
  have yf5 := hF ((30, 4), (69, 31)) (by simp [Fc])
  have yf4 := hF ((0, 10), (69, 0)) (by simp [Fc])
  simp only at yf5 yf4
  have g0 := hA.fld (i := 69) (k := 0) (lo := 0) (hi := 3599) (by decide +kernel)
  have gT := hA.fld (i := 69) (k := 31) (lo := 0) (hi := 150) (by decide +kernel)
  rcases ys1 with ⟨ya1, a2, rfl⟩ | ⟨ya1, a2⟩ | ⟨ya, ya1, ⟨a2, a3, rfl⟩ | ⟨a2, a3, a4, rfl⟩ | ⟨a2, a3, a4, rfl⟩⟩
  · rw [yf5] at ya1
    rcases ys2 with ⟨b1, b2, rfl⟩ | ⟨b1, b2, b3, b4, rfl⟩ | ⟨b1, b2, b3, b4, rfl⟩
    · exact ⟨hF, hR, hX, by rw [some_int a2, some_int b2]⟩
    · exact absurd b1 ya1
    · exact absurd b1 ya1
  · exact (k_some hX yf5 ya1 a2).elim
  · obtain ⟨yq1, yq2, yq3, yq4⟩ := k_row hX yf5 ya1
    rw [yq3.2.2.1] at a2
    rcases ys2 with ⟨b1, b2, rfl⟩ | ⟨b1, b2, b3, b4, rfl⟩ | ⟨b1, b2, b3, b4, rfl⟩
    · exact ⟨hF, hR, hX, by rw [some_int a3, some_int b2]⟩
    · exact absurd b2 a2
    · exact absurd b2 a2
  · obtain ⟨yq1, yq2, yq3, yq4⟩ := k_row hX yf5 ya1
    have yq11 := yq3.2.2.2.2.2.2.2.2.2.2.2.1
    rw [yq3.2.2.1] at a2
    rw [yq11] at a3
    rcases ys2 with ⟨b1, b2, rfl⟩ | ⟨b1, b2, b3, b4, rfl⟩ | ⟨b1, b2, b3, b4, rfl⟩
    · exact absurd ⟨yq4, a2⟩ b1
    · exact ⟨hF, hR, hX, by rw [some_int a4, some_int b4]⟩
    · omega
  · obtain ⟨yq1, yq2, yq3, yq4⟩ := k_row hX yf5 ya1
    have yq11 := yq3.2.2.2.2.2.2.2.2.2.2.2.1
    have hg := ya1.2.2
    rw [yq3.2.2.1] at a2
    rw [yq11] at a3
    obtain ⟨yt, ht⟩ : ∃ yt, yc.toInt.toNat = yt := ⟨_, rfl⟩
    rw [ht] at yq1 yq3 a2 a3
    have ylow : ∀ yi yj, yi < 129 → yi ≠ 30 → (auditX yA ya yk).1 yi yj = yA.1 yi yj := fun yi yj h1 h2 => by
      unfold auditX
      rw [uI_c h2, uI_c (show yi ≠ ya by omega), uI_c (show yi ≠ ya by omega)]
    unfold eAudit at ys2
    rw [ht, ylow 69 31 (by decide) (by decide), ylow 91 yt (by decide) (by decide), ylow 93 yt (by decide) (by decide)] at ys2
    rcases ys2 with ⟨b1, b2, rfl⟩ | ⟨b1, b2, b3, b4, rfl⟩ | ⟨b1, b2, b3, b4, rfl⟩
    · exact absurd ⟨yq4, a2⟩ b1
    · omega
    · have lowM : ∀ yi yj, yi < 129 → yi ≠ 30 → yi ≠ 92 → yi ≠ 93 → (auditM (auditX yA ya yk) yt yk).1 yi yj = yA.1 yi yj := fun yi yj h1 h2 h3 h4 => by
        unfold auditM
        rw [uI_c h3, uI_c h4, ylow yi yj h1 h2]
      have m92 : ∀ yj, (auditM (auditX yA ya yk) yt yk).1 92 yj = if yj = yt then yk else yA.1 92 yj := fun yj => by
        unfold auditM
        rw [uI_at]
        by_cases ye : yj = yt
        · rw [if_pos ⟨rfl, ye⟩, if_pos ye]
        · rw [if_neg (fun yq => ye yq.2), if_neg ye, uI_c (by decide), ylow 92 yj (by decide) (by decide)]
      have m93 : ∀ yj, (auditM (auditX yA ya yk) yt yk).1 93 yj = if yj = yt then yA.1 69 0 else yA.1 93 yj := fun yj => by
        unfold auditM
        rw [uI_c (by decide), uI_at]
        by_cases ye : yj = yt
        · rw [if_pos ⟨rfl, ye⟩, if_pos ye, ylow 69 0 (by decide) (by decide)]
        · rw [if_neg (fun yq => ye yq.2), if_neg ye, ylow 93 yj (by decide) (by decide)]
      have m30 : (auditM (auditX yA ya yk) yt yk).1 30 4 = yA.1 30 4 ∧ (auditM (auditX yA ya yk) yt yk).1 30 5 = yA.1 30 5 + 1 := by
        unfold auditM auditX
        constructor
        · rw [uI_c (by decide), uI_c (by decide), uI_k (by decide), uI_c (show 30 ≠ ya by omega), uI_c (show 30 ≠ ya by omega)]
        · rw [uI_c (by decide), uI_c (by decide), uI_h]
      have mO : (auditM (auditX yA ya yk) yt yk).2.2.1 = yA.2.2.1 := rfl
      have ymn : (auditM (auditX yA ya yk) yt yk).2.2.2.2 = yA.2.2.2.2 := rfl
      have mR : ∀ yb yj, 129 ≤ yb → yb ≠ ya → (auditM (auditX yA ya yk) yt yk).1 yb yj = yA.1 yb yj := fun yb yj h1 h2 => by
        unfold auditM auditX
        rw [uI_c (by omega), uI_c (by omega), uI_c (by omega), uI_c h2, uI_c h2]
      have mA : ∀ yj, (auditM (auditX yA ya yk) yt yk).1 ya yj = if yj = 12 then yk else if yj = 11 then yA.1 0 10 else yA.1 ya yj := fun yj => by
        unfold auditM auditX
        rw [uI_c (by omega), uI_c (by omega), uI_c (by omega), uI_at]
        by_cases ye : yj = 12
        · rw [if_pos ⟨rfl, ye⟩, if_pos ye]
        · rw [if_neg (fun yq => ye yq.2), if_neg ye, uI_at]
          by_cases ye2 : yj = 11
          · rw [if_pos ⟨rfl, ye2⟩, if_pos ye2]
          · rw [if_neg (fun yq => ye2 yq.2), if_neg ye2]
      have hcT : cT (auditM (auditX yA ya yk) yt yk) = cT yA := by
        unfold cT
        rw [lowM 69 31 (by decide) (by decide) (by decide) (by decide)]
      have haud : audM (auditM (auditX yA ya yk) yt yk) (-1) = audM yA (-1) + 1 := by
        unfold audM
        rw [hcT]
        refine sumN_up (yc := yt) (fun yj hj => ?_) ?_ _ yq1
        · unfold audF
          rw [m93, if_neg hj, lowM 90 _ (by decide) (by decide) (by decide) (by decide)]
        · rw [show audF yA (-1) yt = 0 from if_neg (fun yq => by omega), show audF (auditM (auditX yA ya yk) yt yk) (-1) yt = 1 from if_pos ⟨.inl (by decide), by rw [m93, if_pos rfl]; exact g0.1⟩]
          rfl
      have b4' : yy = audM (auditM (auditX yA ya yk) yt yk) (-1) := some_int b4
      rw [haud] at b4'
      generalize auditM (auditX yA ya yk) yt yk = yB at *
      obtain ⟨yr1, r2, r3, r4⟩ := hX
      refine ⟨?_, ?_, ⟨?_, ?_, ?_, ?_⟩, by rw [some_int a4, b4', r4]⟩
      · intro yq hq
        have hq0 := hF yq hq
        simp only [Fc, List.mem_cons, List.not_mem_nil, or_false] at hq
        rcases hq with rfl | rfl | rfl | rfl | rfl
        · show yB.1 1 3 = yB.1 69 7
          rw [lowM 1 3 (by decide) (by decide) (by decide) (by decide), lowM 69 7 (by decide) (by decide) (by decide) (by decide)]
          exact hq0
        · show yB.1 5 6 = yB.1 69 11
          rw [lowM 5 6 (by decide) (by decide) (by decide) (by decide), lowM 69 11 (by decide) (by decide) (by decide) (by decide)]
          exact hq0
        · show yB.1 12 7 = yB.1 69 13
          rw [lowM 12 7 (by decide) (by decide) (by decide) (by decide), lowM 69 13 (by decide) (by decide) (by decide) (by decide)]
          exact hq0
        · show yB.1 0 10 = yB.1 69 0
          rw [lowM 0 10 (by decide) (by decide) (by decide) (by decide), lowM 69 0 (by decide) (by decide) (by decide) (by decide)]
          exact hq0
        · show yB.1 30 4 = yB.1 69 31
          rw [m30.1, lowM 69 31 (by decide) (by decide) (by decide) (by decide)]
          exact hq0
      · intro yq hq ym yhm yj hj
        have hq0 := hR yq hq ym yhm yj hj
        simp only [Arc, List.mem_cons, List.not_mem_nil, or_false] at hq
        rcases hq with rfl | rfl
        · show yB.1 7 yj = yB.1 77 yj
          rw [lowM 7 yj (by decide) (by decide) (by decide) (by decide), lowM 77 yj (by decide) (by decide) (by decide) (by decide)]
          exact hq0
        · show yB.1 32 yj = yB.1 88 yj
          rw [lowM 32 yj (by decide) (by decide) (by decide) (by decide), lowM 88 yj (by decide) (by decide) (by decide) (by decide)]
          exact hq0
      · intro yd yhd
        rw [hcT] at yhd
        obtain ⟨yb, yp1, yp2, yp3, yp4⟩ := yr1 yd yhd
        refine ⟨yb, by rw [mO]; exact yp1, yp2, by rw [ymn]; exact yp3, ?_⟩
        by_cases hdt : yd = yt
        · have hba : yb = ya := by
            have hrow := ya1.2.1
            rw [ht] at hrow
            rw [hdt, hrow] at yp1
            cases yp1
            rfl
          subst hba hdt
          unfold rowR at yp4 ⊢
          rw [mA, mA, mA, mA, mA, mA, mA, mA, mA, mA, mA, mA, mA, m92, m93, if_pos rfl, if_pos rfl, lowM 89 yd (by decide) (by decide) (by decide) (by decide), lowM 91 yd (by decide) (by decide) (by decide) (by decide), lowM 90 _ (by decide) (by decide) (by decide) (by decide), lowM 90 _ (by decide) (by decide) (by decide) (by decide), lowM 90 _ (by decide) (by decide) (by decide) (by decide), lowM 90 _ (by decide) (by decide) (by decide) (by decide), lowM 90 _ (by decide) (by decide) (by decide) (by decide), lowM 90 _ (by decide) (by decide) (by decide) (by decide), lowM 90 _ (by decide) (by decide) (by decide) (by decide)]
          obtain ⟨z0, z1, z2, z3, z4, z5, z6, z7, z8, z9, z10, z11, z12, yz13, yz14⟩ := yp4
          exact ⟨z0, z1, z2, z3, z4, z5, z6, z7, z8, z9, z10, yf4, by rw [if_pos rfl, if_pos rfl], yz13, yz14⟩
        · have hba : yb ≠ ya := by
            intro ye
            subst ye
            have hrow := ya1.2.1
            rw [ht] at hrow
            exact hdt (r2 yd yt yb yhd yq1 yp1 hrow)
          unfold rowR at yp4 ⊢
          rw [mR yb _ yp2 hba, mR yb _ yp2 hba, mR yb _ yp2 hba, mR yb _ yp2 hba, mR yb _ yp2 hba, mR yb _ yp2 hba, mR yb _ yp2 hba, mR yb _ yp2 hba, mR yb _ yp2 hba, mR yb _ yp2 hba, mR yb _ yp2 hba, mR yb _ yp2 hba, mR yb _ yp2 hba, m92, m93, if_neg hdt, if_neg hdt, lowM 89 yd (by decide) (by decide) (by decide) (by decide), lowM 91 yd (by decide) (by decide) (by decide) (by decide), lowM 90 _ (by decide) (by decide) (by decide) (by decide), lowM 90 _ (by decide) (by decide) (by decide) (by decide), lowM 90 _ (by decide) (by decide) (by decide) (by decide), lowM 90 _ (by decide) (by decide) (by decide) (by decide), lowM 90 _ (by decide) (by decide) (by decide) (by decide), lowM 90 _ (by decide) (by decide) (by decide) (by decide), lowM 90 _ (by decide) (by decide) (by decide) (by decide)]
          exact yp4
      · intro yd ye yb yhd he h1 h2
        rw [hcT] at yhd he
        rw [mO] at h1 h2
        exact r2 yd ye yb yhd he h1 h2
      · intro yd yhd h9
        rw [hcT] at yhd
        rw [m92, if_neg (by omega)]
        exact r3 yd yhd h9
      · rw [m30.2, haud, r4]
