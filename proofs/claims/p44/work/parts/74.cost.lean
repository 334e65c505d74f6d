/-! COST: ya new yrow on both sides -/
theorem bx_cost {N : Nat} {yA : AW} {yQ : Option Value → AW → Prop} (yk yn : Int32)
    (l1 : yk.toInt < 1 → yQ (some (.int (-1))) yA)
    (l2 : 1 ≤ yk.toInt → 6 < yk.toInt → yQ (some (.int (-1))) yA)
    (l3 : 1 ≤ yk.toInt → yk.toInt ≤ 6 → yn.toInt < 1 → yQ (some (.int (-1))) yA)
    (l4 : 1 ≤ yk.toInt → yk.toInt ≤ 6 → 1 ≤ yn.toInt → 99999 < yn.toInt → yQ (some (.int (-1))) yA)
    (l5 : 1 ≤ yk.toInt → yk.toInt ≤ 6 → 1 ≤ yn.toInt → yn.toInt ≤ 99999 → (yA.1 32 0).toInt < 0 → yQ (some (.int (-1))) yA)
    (l6 : 1 ≤ yk.toInt → yk.toInt ≤ 6 → 1 ≤ yn.toInt → yn.toInt ≤ 99999 → 0 ≤ (yA.1 32 0).toInt → (yA.1 5 6).toInt ≤ (yA.1 32 0).toInt → yQ (some (.int (-1))) yA)
    (l7 : 1 ≤ yk.toInt → yk.toInt ≤ 6 → 1 ≤ yn.toInt → yn.toInt ≤ 99999 → 0 ≤ (yA.1 32 0).toInt → (yA.1 32 0).toInt < (yA.1 5 6).toInt → (yA.1 32 0).toInt < 20 → (yA.1 32 1).toInt < (yA.1 7 ((yA.1 32 0).toInt.toNat)).toInt → (yA.1 32 2).toInt < 0 → yQ (some (.int (-1))) yA)
    (l8 : 1 ≤ yk.toInt → yk.toInt ≤ 6 → 1 ≤ yn.toInt → yn.toInt ≤ 99999 → 0 ≤ (yA.1 32 0).toInt → (yA.1 32 0).toInt < (yA.1 5 6).toInt → (yA.1 32 0).toInt < 20 → (yA.1 32 1).toInt < (yA.1 7 ((yA.1 32 0).toInt.toNat)).toInt → 0 ≤ (yA.1 32 2).toInt → 5 < (yA.1 32 2).toInt → yQ (some (.int (-1))) yA)
    (l9 : 1 ≤ yk.toInt → yk.toInt ≤ 6 → 1 ≤ yn.toInt → yn.toInt ≤ 99999 → 0 ≤ (yA.1 32 0).toInt → (yA.1 32 0).toInt < (yA.1 5 6).toInt → (yA.1 32 0).toInt < 20 → (yA.1 32 1).toInt < (yA.1 7 ((yA.1 32 0).toInt.toNat)).toInt → 0 ≤ (yA.1 32 2).toInt → (yA.1 32 2).toInt ≤ 5 → (yA.1 32 3).toInt ≤ (yA.1 0 10).toInt → (yA.1 32 5).toInt < 1 → yQ (some (.int (-1))) yA)
    (l10 : 1 ≤ yk.toInt → yk.toInt ≤ 6 → 1 ≤ yn.toInt → yn.toInt ≤ 99999 → 0 ≤ (yA.1 32 0).toInt → (yA.1 32 0).toInt < (yA.1 5 6).toInt → (yA.1 32 0).toInt < 20 → (yA.1 32 1).toInt < (yA.1 7 ((yA.1 32 0).toInt.toNat)).toInt → 0 ≤ (yA.1 32 2).toInt → (yA.1 32 2).toInt ≤ 5 → (yA.1 32 3).toInt ≤ (yA.1 0 10).toInt → 1 ≤ (yA.1 32 5).toInt → (yA.1 32 6).toInt ≤ 19 → (isUx yk 2).toInt = 0 → (yA.1 32 4).toInt < 0 → yQ (some (.int (-1))) yA)
    (l11 : 1 ≤ yk.toInt → yk.toInt ≤ 6 → 1 ≤ yn.toInt → yn.toInt ≤ 99999 → 0 ≤ (yA.1 32 0).toInt → (yA.1 32 0).toInt < (yA.1 5 6).toInt → (yA.1 32 0).toInt < 20 → (yA.1 32 1).toInt < (yA.1 7 ((yA.1 32 0).toInt.toNat)).toInt → 0 ≤ (yA.1 32 2).toInt → (yA.1 32 2).toInt ≤ 5 → (yA.1 32 3).toInt ≤ (yA.1 0 10).toInt → 1 ≤ (yA.1 32 5).toInt → (yA.1 32 6).toInt ≤ 19 → (isUx yk 2).toInt = 0 → 0 ≤ (yA.1 32 4).toInt → (yA.1 12 7).toInt ≤ (yA.1 32 4).toInt → yQ (some (.int (-1))) yA)
    (l12 : 1 ≤ yk.toInt → yk.toInt ≤ 6 → 1 ≤ yn.toInt → yn.toInt ≤ 99999 → 0 ≤ (yA.1 32 0).toInt → (yA.1 32 0).toInt < (yA.1 5 6).toInt → (yA.1 32 0).toInt < 20 → (yA.1 32 1).toInt < (yA.1 7 ((yA.1 32 0).toInt.toNat)).toInt → 0 ≤ (yA.1 32 2).toInt → (yA.1 32 2).toInt ≤ 5 → (yA.1 32 3).toInt ≤ (yA.1 0 10).toInt → 1 ≤ (yA.1 32 5).toInt → (yA.1 32 6).toInt ≤ 19 → (isUx yk 2).toInt = 0 → 0 ≤ (yA.1 32 4).toInt → (yA.1 32 4).toInt < (yA.1 12 7).toInt → (yA.1 30 4).toInt < 150 → ∀ ya1, ya1 = yA.2.2.2.2 → 129 ≤ ya1 → 0 ≤ (yA.1 30 4).toInt → yQ (some (.int (((yA.1 30 4) + 1) - 1))) (uI (uI (uO (uI (uI (uI (uI (uI (uI (uI (uI (uI (uI (uI (uI (uN yA) ya1 11 (-1)) ya1 0 (yA.1 30 4)) ya1 1 yk) ya1 2 yn) ya1 3 (isUx yk 2)) ya1 4 (yA.1 32 0)) ya1 5 (yA.1 32 1)) ya1 6 (yA.1 32 2)) ya1 7 (yA.1 32 3)) ya1 8 (yA.1 32 4)) ya1 9 (yA.1 32 5)) ya1 10 (yA.1 32 6)) 31 ((yA.1 30 4).toInt.toNat) (some ya1)) 34 ((yA.1 32 0).toInt.toNat) ((yA.1 34 ((yA.1 32 0).toInt.toNat)) ||| (1 <<< ((yA.1 32 2) &&& 31)))) 30 4 ((yA.1 30 4) + 1)))
    (l13 : 1 ≤ yk.toInt → yk.toInt ≤ 6 → 1 ≤ yn.toInt → yn.toInt ≤ 99999 → 0 ≤ (yA.1 32 0).toInt → (yA.1 32 0).toInt < (yA.1 5 6).toInt → (yA.1 32 0).toInt < 20 → (yA.1 32 1).toInt < (yA.1 7 ((yA.1 32 0).toInt.toNat)).toInt → 0 ≤ (yA.1 32 2).toInt → (yA.1 32 2).toInt ≤ 5 → (yA.1 32 3).toInt ≤ (yA.1 0 10).toInt → 1 ≤ (yA.1 32 5).toInt → (yA.1 32 6).toInt ≤ 19 → (isUx yk 2).toInt = 0 → 0 ≤ (yA.1 32 4).toInt → (yA.1 32 4).toInt < (yA.1 12 7).toInt → 150 ≤ (yA.1 30 4).toInt → yQ (some (.int (-2))) yA)
    (l14 : 1 ≤ yk.toInt → yk.toInt ≤ 6 → 1 ≤ yn.toInt → yn.toInt ≤ 99999 → 0 ≤ (yA.1 32 0).toInt → (yA.1 32 0).toInt < (yA.1 5 6).toInt → (yA.1 32 0).toInt < 20 → (yA.1 32 1).toInt < (yA.1 7 ((yA.1 32 0).toInt.toNat)).toInt → 0 ≤ (yA.1 32 2).toInt → (yA.1 32 2).toInt ≤ 5 → (yA.1 32 3).toInt ≤ (yA.1 0 10).toInt → 1 ≤ (yA.1 32 5).toInt → (yA.1 32 6).toInt ≤ 19 → (isUx yk 2).toInt ≠ 0 → (yA.1 32 4).toInt < 0 → yQ (some (.int (-1))) yA)
    (l15 : 1 ≤ yk.toInt → yk.toInt ≤ 6 → 1 ≤ yn.toInt → yn.toInt ≤ 99999 → 0 ≤ (yA.1 32 0).toInt → (yA.1 32 0).toInt < (yA.1 5 6).toInt → (yA.1 32 0).toInt < 20 → (yA.1 32 1).toInt < (yA.1 7 ((yA.1 32 0).toInt.toNat)).toInt → 0 ≤ (yA.1 32 2).toInt → (yA.1 32 2).toInt ≤ 5 → (yA.1 32 3).toInt ≤ (yA.1 0 10).toInt → 1 ≤ (yA.1 32 5).toInt → (yA.1 32 6).toInt ≤ 19 → (isUx yk 2).toInt ≠ 0 → 0 ≤ (yA.1 32 4).toInt → (yA.1 1 3).toInt ≤ (yA.1 32 4).toInt → yQ (some (.int (-1))) yA)
    (l16 : 1 ≤ yk.toInt → yk.toInt ≤ 6 → 1 ≤ yn.toInt → yn.toInt ≤ 99999 → 0 ≤ (yA.1 32 0).toInt → (yA.1 32 0).toInt < (yA.1 5 6).toInt → (yA.1 32 0).toInt < 20 → (yA.1 32 1).toInt < (yA.1 7 ((yA.1 32 0).toInt.toNat)).toInt → 0 ≤ (yA.1 32 2).toInt → (yA.1 32 2).toInt ≤ 5 → (yA.1 32 3).toInt ≤ (yA.1 0 10).toInt → 1 ≤ (yA.1 32 5).toInt → (yA.1 32 6).toInt ≤ 19 → (isUx yk 2).toInt ≠ 0 → 0 ≤ (yA.1 32 4).toInt → (yA.1 32 4).toInt < (yA.1 1 3).toInt → (yA.1 30 4).toInt < 150 → ∀ a2, a2 = yA.2.2.2.2 → 129 ≤ a2 → 0 ≤ (yA.1 30 4).toInt → yQ (some (.int (((yA.1 30 4) + 1) - 1))) (uI (uI (uO (uI (uI (uI (uI (uI (uI (uI (uI (uI (uI (uI (uI (uN yA) a2 11 (-1)) a2 0 (yA.1 30 4)) a2 1 yk) a2 2 yn) a2 3 (isUx yk 2)) a2 4 (yA.1 32 0)) a2 5 (yA.1 32 1)) a2 6 (yA.1 32 2)) a2 7 (yA.1 32 3)) a2 8 (yA.1 32 4)) a2 9 (yA.1 32 5)) a2 10 (yA.1 32 6)) 31 ((yA.1 30 4).toInt.toNat) (some a2)) 34 ((yA.1 32 0).toInt.toNat) ((yA.1 34 ((yA.1 32 0).toInt.toNat)) ||| (1 <<< ((yA.1 32 2) &&& 31)))) 30 4 ((yA.1 30 4) + 1)))
    (l17 : 1 ≤ yk.toInt → yk.toInt ≤ 6 → 1 ≤ yn.toInt → yn.toInt ≤ 99999 → 0 ≤ (yA.1 32 0).toInt → (yA.1 32 0).toInt < (yA.1 5 6).toInt → (yA.1 32 0).toInt < 20 → (yA.1 32 1).toInt < (yA.1 7 ((yA.1 32 0).toInt.toNat)).toInt → 0 ≤ (yA.1 32 2).toInt → (yA.1 32 2).toInt ≤ 5 → (yA.1 32 3).toInt ≤ (yA.1 0 10).toInt → 1 ≤ (yA.1 32 5).toInt → (yA.1 32 6).toInt ≤ 19 → (isUx yk 2).toInt ≠ 0 → 0 ≤ (yA.1 32 4).toInt → (yA.1 32 4).toInt < (yA.1 1 3).toInt → 150 ≤ (yA.1 30 4).toInt → yQ (some (.int (-2))) yA)
    (l18 : 1 ≤ yk.toInt → yk.toInt ≤ 6 → 1 ≤ yn.toInt → yn.toInt ≤ 99999 → 0 ≤ (yA.1 32 0).toInt → (yA.1 32 0).toInt < (yA.1 5 6).toInt → (yA.1 32 0).toInt < 20 → (yA.1 32 1).toInt < (yA.1 7 ((yA.1 32 0).toInt.toNat)).toInt → 0 ≤ (yA.1 32 2).toInt → (yA.1 32 2).toInt ≤ 5 → (yA.1 32 3).toInt ≤ (yA.1 0 10).toInt → 1 ≤ (yA.1 32 5).toInt → 19 < (yA.1 32 6).toInt → yQ (some (.int (-1))) yA)
    (l19 : 1 ≤ yk.toInt → yk.toInt ≤ 6 → 1 ≤ yn.toInt → yn.toInt ≤ 99999 → 0 ≤ (yA.1 32 0).toInt → (yA.1 32 0).toInt < (yA.1 5 6).toInt → (yA.1 32 0).toInt < 20 → (yA.1 32 1).toInt < (yA.1 7 ((yA.1 32 0).toInt.toNat)).toInt → 0 ≤ (yA.1 32 2).toInt → (yA.1 32 2).toInt ≤ 5 → (yA.1 0 10).toInt < (yA.1 32 3).toInt → yQ (some (.int (-1))) yA)
    (l20 : 1 ≤ yk.toInt → yk.toInt ≤ 6 → 1 ≤ yn.toInt → yn.toInt ≤ 99999 → 0 ≤ (yA.1 32 0).toInt → (yA.1 32 0).toInt < (yA.1 5 6).toInt → (yA.1 32 0).toInt < 20 → (yA.1 7 ((yA.1 32 0).toInt.toNat)).toInt ≤ (yA.1 32 1).toInt → yQ (some (.int (-1))) yA) :
    Pa N 112 0 [(0, .ref 0), (1, .int yk), (2, .int yn)] [] yA yQ := by
  refine Pa.mp 1 (pc' := 1) (l' := [(0, .ref 0), (1, .int yk), (2, .int yn)]) (st' := [.int yk]) (by rfl) ?_
  refine Pa.ic (x := 1) (pc' := 2) (by rfl) (by rfl) (by decide) ?_
  refine Pa.ic (x := 6) (pc' := 4) (by rfl) (by rfl) (by decide) ?_
  refine Pa.ist (by rfl) (by rfl) (.inl rfl) (by rfl) (by rfl) ?_
  show Pa N 146 0 [(0, .int yk), (1, .int 1), (2, .int 6)] [] yA _
  refine Pa.mp 2 (pc' := 2) (l' := [(0, .int yk), (1, .int 1), (2, .int 6)]) (st' := [.int 1, .int yk]) (by rfl) ?_
  refine Pa.if2 (a := yk.toInt) (b := 1) (t := 14) (by rfl) (by rfl) (rfl) (by decide) (fun h1 => ?_) (fun h2 => ?_)
  · have h1 : yk.toInt < 1 := h1
    refine Pa.ic (x := 0) (pc' := 15) (by rfl) (by rfl) (by decide) ?_
    refine Pa.iret (by rfl) ?_
    show Pa N 112 7 [(0, .ref 0), (1, .int yk), (2, .int yn)] [.int 0] yA _
    refine Pa.if1k true (by rfl) (by rfl) (by decide) ?_
    show Pa N 112 28 [(0, .ref 0), (1, .int yk), (2, .int yn)] [] yA _
    refine Pa.ic (x := (-1)) (pc' := 29) (by rfl) (by rfl) (by decide) ?_
    refine Pa.iret (by rfl) ?_
    exact l1 h1
  · have h2 : 1 ≤ yk.toInt := h2
    refine Pa.mp 2 (pc' := 7) (l' := [(0, .int yk), (1, .int 1), (2, .int 6)]) (st' := [.int 6, .int yk]) (by rfl) ?_
    refine Pa.if2 (a := yk.toInt) (b := 6) (t := 14) (by rfl) (by rfl) (rfl) (by decide) (fun h3 => ?_) (fun h4 => ?_)
    · have h3 : 6 < yk.toInt := h3
      refine Pa.ic (x := 0) (pc' := 15) (by rfl) (by rfl) (by decide) ?_
      refine Pa.iret (by rfl) ?_
      show Pa N 112 7 [(0, .ref 0), (1, .int yk), (2, .int yn)] [.int 0] yA _
      refine Pa.if1k true (by rfl) (by rfl) (by decide) ?_
      show Pa N 112 28 [(0, .ref 0), (1, .int yk), (2, .int yn)] [] yA _
      refine Pa.ic (x := (-1)) (pc' := 29) (by rfl) (by rfl) (by decide) ?_
      refine Pa.iret (by rfl) ?_
      exact l2 h2 h3
    · have h4 : yk.toInt ≤ 6 := h4
      refine Pa.ic (x := 1) (pc' := 11) (by rfl) (by rfl) (by decide) ?_
      refine Pa.mp 1 (pc' := 15) (l' := [(0, .int yk), (1, .int 1), (2, .int 6)]) (st' := [.int 1]) (by rfl) ?_
      refine Pa.iret (by rfl) ?_
      show Pa N 112 7 [(0, .ref 0), (1, .int yk), (2, .int yn)] [.int 1] yA _
      refine Pa.if1k false (by rfl) (by rfl) (by decide) ?_
      show Pa N 112 10 [(0, .ref 0), (1, .int yk), (2, .int yn)] [] yA _
      refine Pa.mp 1 (pc' := 11) (l' := [(0, .ref 0), (1, .int yk), (2, .int yn)]) (st' := [.int yn]) (by rfl) ?_
      refine Pa.ic (x := 1) (pc' := 12) (by rfl) (by rfl) (by decide) ?_
      refine Pa.icl (x := 99999) (pc' := 14) (by rfl) (fun _ _ _ => by rfl) (by decide) ?_
      refine Pa.ist (by rfl) (by rfl) (.inl rfl) (by rfl) (by rfl) ?_
      show Pa N 146 0 [(0, .int yn), (1, .int 1), (2, .int 99999)] [] yA _
      refine Pa.mp 2 (pc' := 2) (l' := [(0, .int yn), (1, .int 1), (2, .int 99999)]) (st' := [.int 1, .int yn]) (by rfl) ?_
      refine Pa.if2 (a := yn.toInt) (b := 1) (t := 14) (by rfl) (by rfl) (rfl) (by decide) (fun h5 => ?_) (fun h6 => ?_)
      · have h5 : yn.toInt < 1 := h5
        refine Pa.ic (x := 0) (pc' := 15) (by rfl) (by rfl) (by decide) ?_
        refine Pa.iret (by rfl) ?_
        show Pa N 112 17 [(0, .ref 0), (1, .int yk), (2, .int yn)] [.int 0] yA _
        refine Pa.if1k true (by rfl) (by rfl) (by decide) ?_
        show Pa N 112 28 [(0, .ref 0), (1, .int yk), (2, .int yn)] [] yA _
        refine Pa.ic (x := (-1)) (pc' := 29) (by rfl) (by rfl) (by decide) ?_
        refine Pa.iret (by rfl) ?_
        exact l3 h2 h4 h5
      · have h6 : 1 ≤ yn.toInt := h6
        refine Pa.mp 2 (pc' := 7) (l' := [(0, .int yn), (1, .int 1), (2, .int 99999)]) (st' := [.int 99999, .int yn]) (by rfl) ?_
        refine Pa.if2 (a := yn.toInt) (b := 99999) (t := 14) (by rfl) (by rfl) (rfl) (by decide) (fun h7 => ?_) (fun h8 => ?_)
        · have h7 : 99999 < yn.toInt := h7
          refine Pa.ic (x := 0) (pc' := 15) (by rfl) (by rfl) (by decide) ?_
          refine Pa.iret (by rfl) ?_
          show Pa N 112 17 [(0, .ref 0), (1, .int yk), (2, .int yn)] [.int 0] yA _
          refine Pa.if1k true (by rfl) (by rfl) (by decide) ?_
          show Pa N 112 28 [(0, .ref 0), (1, .int yk), (2, .int yn)] [] yA _
          refine Pa.ic (x := (-1)) (pc' := 29) (by rfl) (by rfl) (by decide) ?_
          refine Pa.iret (by rfl) ?_
          exact l4 h2 h4 h6 h7
        · have h8 : yn.toInt ≤ 99999 := h8
          refine Pa.ic (x := 1) (pc' := 11) (by rfl) (by rfl) (by decide) ?_
          refine Pa.mp 1 (pc' := 15) (l' := [(0, .int yn), (1, .int 1), (2, .int 99999)]) (st' := [.int 1]) (by rfl) ?_
          refine Pa.iret (by rfl) ?_
          show Pa N 112 17 [(0, .ref 0), (1, .int yk), (2, .int yn)] [.int 1] yA _
          refine Pa.if1k false (by rfl) (by rfl) (by decide) ?_
          show Pa N 112 20 [(0, .ref 0), (1, .int yk), (2, .int yn)] [] yA _
          refine Pa.mp 2 (pc' := 22) (l' := [(0, .ref 0), (1, .int yk), (2, .int yn)]) (st' := [.int yk, .ref 0]) (by rfl) ?_
          refine Pa.inv (by rfl) (by rfl) (.inl rfl) (by rfl) ?_
          show Pa N 150 0 [(0, .ref 0), (1, .int yk)] [] yA _
          refine Pa.mp 1 (pc' := 1) (l' := [(0, .ref 0), (1, .int yk)]) (st' := [.ref 0]) (by rfl) ?_
          refine Pa.gfR (by rfl) (by rfl) (.inl rfl) (by rfl) ?_
          show Pa N 150 4 [(0, .ref 0), (1, .int yk)] [.ref 30] yA _
          refine Pa.gfR (by rfl) (by rfl) (.inr rfl) (by rfl) ?_
          show Pa N 150 7 [(0, .ref 0), (1, .int yk)] [.ref 32] yA _
          refine Pa.ic (x := 0) (pc' := 8) (by rfl) (by rfl) (by decide) ?_
          refine Pa.alds (v := yA.1 32 0) (by rfl) (by rfl) (by rfl) (fun h9 h10 => ?_)
          refine Pa.mp 2 (pc' := 11) (l' := [(2, .int (yA.1 32 0)), (0, .ref 0), (1, .int yk)]) (st' := [.ref 0]) (by rfl) ?_
          refine Pa.gfR (by rfl) (by rfl) (.inl rfl) (by rfl) ?_
          show Pa N 150 14 [(2, .int (yA.1 32 0)), (0, .ref 0), (1, .int yk)] [.ref 5] yA _
          refine Pa.mp 1 (pc' := 15) (l' := [(2, .int (yA.1 32 0)), (0, .ref 0), (1, .int yk)]) (st' := [.int (yA.1 32 0), .ref 5]) (by rfl) ?_
          refine Pa.inv (by rfl) (by rfl) (.inr rfl) (by rfl) ?_
          show Pa N 41 0 [(0, .ref 5), (1, .int (yA.1 32 0))] [] yA _
          refine Pa.mp 1 (pc' := 1) (l' := [(0, .ref 5), (1, .int (yA.1 32 0))]) (st' := [.int (yA.1 32 0)]) (by rfl) ?_
          refine Pa.if1 (a := (yA.1 32 0).toInt) (t := 16) (by rfl) (by rfl) (rfl) (fun h11 => ?_) (fun h12 => ?_)
          · have h11 : (yA.1 32 0).toInt < 0 := h11
            refine Pa.ic (x := 0) (pc' := 17) (by rfl) (by rfl) (by decide) ?_
            refine Pa.iret (by rfl) ?_
            show Pa N 150 18 [(2, .int (yA.1 32 0)), (0, .ref 0), (1, .int yk)] [.int 0] yA _
            refine Pa.if1k true (by rfl) (by rfl) (by decide) ?_
            show Pa N 150 42 [(2, .int (yA.1 32 0)), (0, .ref 0), (1, .int yk)] [] yA _
            refine Pa.ic (x := 0) (pc' := 43) (by rfl) (by rfl) (by decide) ?_
            refine Pa.iret (by rfl) ?_
            show Pa N 112 25 [(0, .ref 0), (1, .int yk), (2, .int yn)] [.int 0] yA _
            refine Pa.if1k false (by rfl) (by rfl) (by decide) ?_
            show Pa N 112 28 [(0, .ref 0), (1, .int yk), (2, .int yn)] [] yA _
            refine Pa.ic (x := (-1)) (pc' := 29) (by rfl) (by rfl) (by decide) ?_
            refine Pa.iret (by rfl) ?_
            exact l5 h2 h4 h6 h8 h11
          · have h12 : 0 ≤ (yA.1 32 0).toInt := h12
            refine Pa.mp 2 (pc' := 6) (l' := [(0, .ref 5), (1, .int (yA.1 32 0))]) (st' := [.ref 5, .int (yA.1 32 0)]) (by rfl) ?_
            refine Pa.gfI (v := yA.1 5 6) (by rfl) (by rfl) (.inl rfl) (by rfl) (by rfl) ?_
            refine Pa.if2 (a := (yA.1 32 0).toInt) (b := (yA.1 5 6).toInt) (t := 16) (by rfl) (by rfl) (rfl) (rfl) (fun h13 => ?_) (fun h14 => ?_)
            · have h13 : (yA.1 5 6).toInt ≤ (yA.1 32 0).toInt := h13
              refine Pa.ic (x := 0) (pc' := 17) (by rfl) (by rfl) (by decide) ?_
              refine Pa.iret (by rfl) ?_
              show Pa N 150 18 [(2, .int (yA.1 32 0)), (0, .ref 0), (1, .int yk)] [.int 0] yA _
              refine Pa.if1k true (by rfl) (by rfl) (by decide) ?_
              show Pa N 150 42 [(2, .int (yA.1 32 0)), (0, .ref 0), (1, .int yk)] [] yA _
              refine Pa.ic (x := 0) (pc' := 43) (by rfl) (by rfl) (by decide) ?_
              refine Pa.iret (by rfl) ?_
              show Pa N 112 25 [(0, .ref 0), (1, .int yk), (2, .int yn)] [.int 0] yA _
              refine Pa.if1k false (by rfl) (by rfl) (by decide) ?_
              show Pa N 112 28 [(0, .ref 0), (1, .int yk), (2, .int yn)] [] yA _
              refine Pa.ic (x := (-1)) (pc' := 29) (by rfl) (by rfl) (by decide) ?_
              refine Pa.iret (by rfl) ?_
              exact l6 h2 h4 h6 h8 h12 h13
            · have h14 : (yA.1 32 0).toInt < (yA.1 5 6).toInt := h14
              refine Pa.ic (x := 1) (pc' := 13) (by rfl) (by rfl) (by decide) ?_
              refine Pa.mp 1 (pc' := 17) (l' := [(0, .ref 5), (1, .int (yA.1 32 0))]) (st' := [.int 1]) (by rfl) ?_
              refine Pa.iret (by rfl) ?_
              show Pa N 150 18 [(2, .int (yA.1 32 0)), (0, .ref 0), (1, .int yk)] [.int 1] yA _
              refine Pa.if1k false (by rfl) (by rfl) (by decide) ?_
              show Pa N 150 21 [(2, .int (yA.1 32 0)), (0, .ref 0), (1, .int yk)] [] yA _
              refine Pa.mp 1 (pc' := 22) (l' := [(2, .int (yA.1 32 0)), (0, .ref 0), (1, .int yk)]) (st' := [.ref 0]) (by rfl) ?_
              refine Pa.gfR (by rfl) (by rfl) (.inl rfl) (by rfl) ?_
              show Pa N 150 25 [(2, .int (yA.1 32 0)), (0, .ref 0), (1, .int yk)] [.ref 30] yA _
              refine Pa.gfR (by rfl) (by rfl) (.inr rfl) (by rfl) ?_
              show Pa N 150 28 [(2, .int (yA.1 32 0)), (0, .ref 0), (1, .int yk)] [.ref 32] yA _
              refine Pa.ic (x := 1) (pc' := 29) (by rfl) (by rfl) (by decide) ?_
              refine Pa.alds (v := yA.1 32 1) (by rfl) (by rfl) (by rfl) (fun h15 yh16 => ?_)
              refine Pa.mp 1 (pc' := 31) (l' := [(2, .int (yA.1 32 0)), (0, .ref 0), (1, .int yk)]) (st' := [.ref 0, .int (yA.1 32 1)]) (by rfl) ?_
              refine Pa.gfR (by rfl) (by rfl) (.inl rfl) (by rfl) ?_
              show Pa N 150 34 [(2, .int (yA.1 32 0)), (0, .ref 0), (1, .int yk)] [.ref 5, .int (yA.1 32 1)] yA _
              refine Pa.gfR (by rfl) (by rfl) (.inr rfl) (by rfl) ?_
              show Pa N 150 37 [(2, .int (yA.1 32 0)), (0, .ref 0), (1, .int yk)] [.ref 7, .int (yA.1 32 1)] yA _
              refine Pa.mp 1 (pc' := 38) (l' := [(2, .int (yA.1 32 0)), (0, .ref 0), (1, .int yk)]) (st' := [.int (yA.1 32 0), .ref 7, .int (yA.1 32 1)]) (by rfl) ?_
              refine Pa.alds (v := yA.1 7 ((yA.1 32 0).toInt.toNat)) (by rfl) (by rfl) (by rfl) (fun h17 h18 => ?_)
              have h17 : 0 ≤ (yA.1 32 0).toInt := h17
              have h18 : (yA.1 32 0).toInt < 20 := h18
              refine Pa.if2 (a := (yA.1 32 1).toInt) (b := (yA.1 7 ((yA.1 32 0).toInt.toNat)).toInt) (t := 44) (by rfl) (by rfl) (rfl) (rfl) (fun h19 => ?_) (fun h20 => ?_)
              · have h19 : (yA.1 32 1).toInt < (yA.1 7 ((yA.1 32 0).toInt.toNat)).toInt := h19
                refine Pa.mp 1 (pc' := 45) (l' := [(2, .int (yA.1 32 0)), (0, .ref 0), (1, .int yk)]) (st' := [.ref 0]) (by rfl) ?_
                refine Pa.gfR (by rfl) (by rfl) (.inl rfl) (by rfl) ?_
                show Pa N 150 48 [(2, .int (yA.1 32 0)), (0, .ref 0), (1, .int yk)] [.ref 30] yA _
                refine Pa.gfR (by rfl) (by rfl) (.inr rfl) (by rfl) ?_
                show Pa N 150 51 [(2, .int (yA.1 32 0)), (0, .ref 0), (1, .int yk)] [.ref 32] yA _
                refine Pa.ic (x := 2) (pc' := 52) (by rfl) (by rfl) (by decide) ?_
                refine Pa.alds (v := yA.1 32 2) (by rfl) (by rfl) (by rfl) (fun h21 h22 => ?_)
                refine Pa.ist (by rfl) (by rfl) (.inl rfl) (by rfl) (by rfl) ?_
                show Pa N 147 0 [(0, .int (yA.1 32 2))] [] yA _
                refine Pa.mp 1 (pc' := 1) (l' := [(0, .int (yA.1 32 2))]) (st' := [.int (yA.1 32 2)]) (by rfl) ?_
                refine Pa.ic (x := 0) (pc' := 2) (by rfl) (by rfl) (by decide) ?_
                refine Pa.ic (x := 5) (pc' := 3) (by rfl) (by rfl) (by decide) ?_
                refine Pa.ist (by rfl) (by rfl) (.inl rfl) (by rfl) (by rfl) ?_
                show Pa N 146 0 [(0, .int (yA.1 32 2)), (1, .int 0), (2, .int 5)] [] yA _
                refine Pa.mp 2 (pc' := 2) (l' := [(0, .int (yA.1 32 2)), (1, .int 0), (2, .int 5)]) (st' := [.int 0, .int (yA.1 32 2)]) (by rfl) ?_
                refine Pa.if2 (a := (yA.1 32 2).toInt) (b := 0) (t := 14) (by rfl) (by rfl) (rfl) (by decide) (fun h23 => ?_) (fun h24 => ?_)
                · have h23 : (yA.1 32 2).toInt < 0 := h23
                  refine Pa.ic (x := 0) (pc' := 15) (by rfl) (by rfl) (by decide) ?_
                  refine Pa.iret (by rfl) ?_
                  show Pa N 147 6 [(0, .int (yA.1 32 2))] [.int 0] yA _
                  refine Pa.iret (by rfl) ?_
                  show Pa N 150 56 [(2, .int (yA.1 32 0)), (0, .ref 0), (1, .int yk)] [.int 0] yA _
                  refine Pa.if1k true (by rfl) (by rfl) (by decide) ?_
                  show Pa N 150 75 [(2, .int (yA.1 32 0)), (0, .ref 0), (1, .int yk)] [] yA _
                  refine Pa.ic (x := 0) (pc' := 76) (by rfl) (by rfl) (by decide) ?_
                  refine Pa.iret (by rfl) ?_
                  show Pa N 112 25 [(0, .ref 0), (1, .int yk), (2, .int yn)] [.int 0] yA _
                  refine Pa.if1k false (by rfl) (by rfl) (by decide) ?_
                  show Pa N 112 28 [(0, .ref 0), (1, .int yk), (2, .int yn)] [] yA _
                  refine Pa.ic (x := (-1)) (pc' := 29) (by rfl) (by rfl) (by decide) ?_
                  refine Pa.iret (by rfl) ?_
                  exact l7 h2 h4 h6 h8 h12 h14 h18 h19 h23
                · have h24 : 0 ≤ (yA.1 32 2).toInt := h24
                  refine Pa.mp 2 (pc' := 7) (l' := [(0, .int (yA.1 32 2)), (1, .int 0), (2, .int 5)]) (st' := [.int 5, .int (yA.1 32 2)]) (by rfl) ?_
                  refine Pa.if2 (a := (yA.1 32 2).toInt) (b := 5) (t := 14) (by rfl) (by rfl) (rfl) (by decide) (fun h25 => ?_) (fun h26 => ?_)
                  · have h25 : 5 < (yA.1 32 2).toInt := h25
                    refine Pa.ic (x := 0) (pc' := 15) (by rfl) (by rfl) (by decide) ?_
                    refine Pa.iret (by rfl) ?_
                    show Pa N 147 6 [(0, .int (yA.1 32 2))] [.int 0] yA _
                    refine Pa.iret (by rfl) ?_
                    show Pa N 150 56 [(2, .int (yA.1 32 0)), (0, .ref 0), (1, .int yk)] [.int 0] yA _
                    refine Pa.if1k true (by rfl) (by rfl) (by decide) ?_
                    show Pa N 150 75 [(2, .int (yA.1 32 0)), (0, .ref 0), (1, .int yk)] [] yA _
                    refine Pa.ic (x := 0) (pc' := 76) (by rfl) (by rfl) (by decide) ?_
                    refine Pa.iret (by rfl) ?_
                    show Pa N 112 25 [(0, .ref 0), (1, .int yk), (2, .int yn)] [.int 0] yA _
                    refine Pa.if1k false (by rfl) (by rfl) (by decide) ?_
                    show Pa N 112 28 [(0, .ref 0), (1, .int yk), (2, .int yn)] [] yA _
                    refine Pa.ic (x := (-1)) (pc' := 29) (by rfl) (by rfl) (by decide) ?_
                    refine Pa.iret (by rfl) ?_
                    exact l8 h2 h4 h6 h8 h12 h14 h18 h19 h24 h25
                  · have h26 : (yA.1 32 2).toInt ≤ 5 := h26
                    refine Pa.ic (x := 1) (pc' := 11) (by rfl) (by rfl) (by decide) ?_
                    refine Pa.mp 1 (pc' := 15) (l' := [(0, .int (yA.1 32 2)), (1, .int 0), (2, .int 5)]) (st' := [.int 1]) (by rfl) ?_
                    refine Pa.iret (by rfl) ?_
                    show Pa N 147 6 [(0, .int (yA.1 32 2))] [.int 1] yA _
                    refine Pa.iret (by rfl) ?_
                    show Pa N 150 56 [(2, .int (yA.1 32 0)), (0, .ref 0), (1, .int yk)] [.int 1] yA _
                    refine Pa.if1k false (by rfl) (by rfl) (by decide) ?_
                    show Pa N 150 59 [(2, .int (yA.1 32 0)), (0, .ref 0), (1, .int yk)] [] yA _
                    refine Pa.mp 1 (pc' := 60) (l' := [(2, .int (yA.1 32 0)), (0, .ref 0), (1, .int yk)]) (st' := [.ref 0]) (by rfl) ?_
                    refine Pa.gfR (by rfl) (by rfl) (.inl rfl) (by rfl) ?_
                    show Pa N 150 63 [(2, .int (yA.1 32 0)), (0, .ref 0), (1, .int yk)] [.ref 30] yA _
                    refine Pa.gfR (by rfl) (by rfl) (.inr rfl) (by rfl) ?_
                    show Pa N 150 66 [(2, .int (yA.1 32 0)), (0, .ref 0), (1, .int yk)] [.ref 32] yA _
                    refine Pa.ic (x := 3) (pc' := 67) (by rfl) (by rfl) (by decide) ?_
                    refine Pa.alds (v := yA.1 32 3) (by rfl) (by rfl) (by rfl) (fun h27 h28 => ?_)
                    refine Pa.mp 1 (pc' := 69) (l' := [(2, .int (yA.1 32 0)), (0, .ref 0), (1, .int yk)]) (st' := [.ref 0, .int (yA.1 32 3)]) (by rfl) ?_
                    refine Pa.gfI (v := yA.1 0 10) (by rfl) (by rfl) (.inl rfl) (by rfl) (by rfl) ?_
                    refine Pa.if2 (a := (yA.1 32 3).toInt) (b := (yA.1 0 10).toInt) (t := 77) (by rfl) (by rfl) (rfl) (rfl) (fun h29 => ?_) (fun h30 => ?_)
                    · have h29 : (yA.1 32 3).toInt ≤ (yA.1 0 10).toInt := h29
                      refine Pa.mp 1 (pc' := 78) (l' := [(2, .int (yA.1 32 0)), (0, .ref 0), (1, .int yk)]) (st' := [.ref 0]) (by rfl) ?_
                      refine Pa.gfR (by rfl) (by rfl) (.inl rfl) (by rfl) ?_
                      show Pa N 150 81 [(2, .int (yA.1 32 0)), (0, .ref 0), (1, .int yk)] [.ref 30] yA _
                      refine Pa.gfR (by rfl) (by rfl) (.inr rfl) (by rfl) ?_
                      show Pa N 150 84 [(2, .int (yA.1 32 0)), (0, .ref 0), (1, .int yk)] [.ref 32] yA _
                      refine Pa.ic (x := 5) (pc' := 85) (by rfl) (by rfl) (by decide) ?_
                      refine Pa.alds (v := yA.1 32 5) (by rfl) (by rfl) (by rfl) (fun h31 h32 => ?_)
                      refine Pa.ic (x := 1) (pc' := 87) (by rfl) (by rfl) (by decide) ?_
                      refine Pa.if2 (a := (yA.1 32 5).toInt) (b := 1) (t := 105) (by rfl) (by rfl) (rfl) (by decide) (fun h33 => ?_) (fun h34 => ?_)
                      · have h33 : (yA.1 32 5).toInt < 1 := h33
                        refine Pa.ic (x := 0) (pc' := 106) (by rfl) (by rfl) (by decide) ?_
                        refine Pa.iret (by rfl) ?_
                        show Pa N 112 25 [(0, .ref 0), (1, .int yk), (2, .int yn)] [.int 0] yA _
                        refine Pa.if1k false (by rfl) (by rfl) (by decide) ?_
                        show Pa N 112 28 [(0, .ref 0), (1, .int yk), (2, .int yn)] [] yA _
                        refine Pa.ic (x := (-1)) (pc' := 29) (by rfl) (by rfl) (by decide) ?_
                        refine Pa.iret (by rfl) ?_
                        exact l9 h2 h4 h6 h8 h12 h14 h18 h19 h24 h26 h29 h33
                      · have h34 : 1 ≤ (yA.1 32 5).toInt := h34
                        refine Pa.mp 1 (pc' := 91) (l' := [(2, .int (yA.1 32 0)), (0, .ref 0), (1, .int yk)]) (st' := [.ref 0]) (by rfl) ?_
                        refine Pa.gfR (by rfl) (by rfl) (.inl rfl) (by rfl) ?_
                        show Pa N 150 94 [(2, .int (yA.1 32 0)), (0, .ref 0), (1, .int yk)] [.ref 30] yA _
                        refine Pa.gfR (by rfl) (by rfl) (.inr rfl) (by rfl) ?_
                        show Pa N 150 97 [(2, .int (yA.1 32 0)), (0, .ref 0), (1, .int yk)] [.ref 32] yA _
                        refine Pa.ic (x := 6) (pc' := 99) (by rfl) (by rfl) (by decide) ?_
                        refine Pa.alds (v := yA.1 32 6) (by rfl) (by rfl) (by rfl) (fun h35 h36 => ?_)
                        refine Pa.ic (x := 19) (pc' := 102) (by rfl) (by rfl) (by decide) ?_
                        refine Pa.if2 (a := (yA.1 32 6).toInt) (b := 19) (t := 107) (by rfl) (by rfl) (rfl) (by decide) (fun h37 => ?_) (fun h38 => ?_)
                        · have h37 : (yA.1 32 6).toInt ≤ 19 := h37
                          refine Pa.mp 1 (pc' := 108) (l' := [(2, .int (yA.1 32 0)), (0, .ref 0), (1, .int yk)]) (st' := [.ref 0]) (by rfl) ?_
                          refine Pa.gfR (by rfl) (by rfl) (.inl rfl) (by rfl) ?_
                          show Pa N 150 111 [(2, .int (yA.1 32 0)), (0, .ref 0), (1, .int yk)] [.ref 30] yA _
                          refine Pa.gfR (by rfl) (by rfl) (.inr rfl) (by rfl) ?_
                          show Pa N 150 114 [(2, .int (yA.1 32 0)), (0, .ref 0), (1, .int yk)] [.ref 32] yA _
                          refine Pa.ic (x := 4) (pc' := 115) (by rfl) (by rfl) (by decide) ?_
                          refine Pa.alds (v := yA.1 32 4) (by rfl) (by rfl) (by rfl) (fun h39 h40 => ?_)
                          refine Pa.mp 2 (pc' := 118) (l' := [(3, .int (yA.1 32 4)), (2, .int (yA.1 32 0)), (0, .ref 0), (1, .int yk)]) (st' := [.int yk]) (by rfl) ?_
                          refine Pa.ic (x := 2) (pc' := 119) (by rfl) (by rfl) (by decide) ?_
                          refine Pa.ist (by rfl) (by rfl) (.inr rfl) (by rfl) (by rfl) ?_
                          refine Pa.mono (c_isUnder N yA yk 2) (fun yu A1 hu => ?_)
                          obtain ⟨rfl, hu⟩ := hu
                          rw [hu]
                          show Pa N 150 122 [(3, .int (yA.1 32 4)), (2, .int (yA.1 32 0)), (0, .ref 0), (1, .int yk)] [.int (isUx yk 2)] yA _
                          refine Pa.if1 (a := (isUx yk 2).toInt) (t := 136) (by rfl) (by rfl) (rfl) (fun h41 => ?_) (fun h42 => ?_)
                          · have h41 : (isUx yk 2).toInt = 0 := h41
                            refine Pa.mp 1 (pc' := 137) (l' := [(3, .int (yA.1 32 4)), (2, .int (yA.1 32 0)), (0, .ref 0), (1, .int yk)]) (st' := [.ref 0]) (by rfl) ?_
                            refine Pa.gfR (by rfl) (by rfl) (.inl rfl) (by rfl) ?_
                            show Pa N 150 140 [(3, .int (yA.1 32 4)), (2, .int (yA.1 32 0)), (0, .ref 0), (1, .int yk)] [.ref 12] yA _
                            refine Pa.mp 1 (pc' := 141) (l' := [(3, .int (yA.1 32 4)), (2, .int (yA.1 32 0)), (0, .ref 0), (1, .int yk)]) (st' := [.int (yA.1 32 4), .ref 12]) (by rfl) ?_
                            refine Pa.inv (by rfl) (by rfl) (.inr rfl) (by rfl) ?_
                            show Pa N 56 0 [(0, .ref 12), (1, .int (yA.1 32 4))] [] yA _
                            refine Pa.mp 1 (pc' := 1) (l' := [(0, .ref 12), (1, .int (yA.1 32 4))]) (st' := [.int (yA.1 32 4)]) (by rfl) ?_
                            refine Pa.if1 (a := (yA.1 32 4).toInt) (t := 16) (by rfl) (by rfl) (rfl) (fun h43 => ?_) (fun h44 => ?_)
                            · have h43 : (yA.1 32 4).toInt < 0 := h43
                              refine Pa.ic (x := 0) (pc' := 17) (by rfl) (by rfl) (by decide) ?_
                              refine Pa.iret (by rfl) ?_
                              show Pa N 150 144 [(3, .int (yA.1 32 4)), (2, .int (yA.1 32 0)), (0, .ref 0), (1, .int yk)] [.int 0] yA _
                              refine Pa.iret (by rfl) ?_
                              show Pa N 112 25 [(0, .ref 0), (1, .int yk), (2, .int yn)] [.int 0] yA _
                              refine Pa.if1k false (by rfl) (by rfl) (by decide) ?_
                              show Pa N 112 28 [(0, .ref 0), (1, .int yk), (2, .int yn)] [] yA _
                              refine Pa.ic (x := (-1)) (pc' := 29) (by rfl) (by rfl) (by decide) ?_
                              refine Pa.iret (by rfl) ?_
                              exact l10 h2 h4 h6 h8 h12 h14 h18 h19 h24 h26 h29 h34 h37 h41 h43
                            · have h44 : 0 ≤ (yA.1 32 4).toInt := h44
                              refine Pa.mp 2 (pc' := 6) (l' := [(0, .ref 12), (1, .int (yA.1 32 4))]) (st' := [.ref 12, .int (yA.1 32 4)]) (by rfl) ?_
                              refine Pa.gfI (v := yA.1 12 7) (by rfl) (by rfl) (.inl rfl) (by rfl) (by rfl) ?_
                              refine Pa.if2 (a := (yA.1 32 4).toInt) (b := (yA.1 12 7).toInt) (t := 16) (by rfl) (by rfl) (rfl) (rfl) (fun h45 => ?_) (fun h46 => ?_)
                              · have h45 : (yA.1 12 7).toInt ≤ (yA.1 32 4).toInt := h45
                                refine Pa.ic (x := 0) (pc' := 17) (by rfl) (by rfl) (by decide) ?_
                                refine Pa.iret (by rfl) ?_
                                show Pa N 150 144 [(3, .int (yA.1 32 4)), (2, .int (yA.1 32 0)), (0, .ref 0), (1, .int yk)] [.int 0] yA _
                                refine Pa.iret (by rfl) ?_
                                show Pa N 112 25 [(0, .ref 0), (1, .int yk), (2, .int yn)] [.int 0] yA _
                                refine Pa.if1k false (by rfl) (by rfl) (by decide) ?_
                                show Pa N 112 28 [(0, .ref 0), (1, .int yk), (2, .int yn)] [] yA _
                                refine Pa.ic (x := (-1)) (pc' := 29) (by rfl) (by rfl) (by decide) ?_
                                refine Pa.iret (by rfl) ?_
                                exact l11 h2 h4 h6 h8 h12 h14 h18 h19 h24 h26 h29 h34 h37 h41 h44 h45
                              · have h46 : (yA.1 32 4).toInt < (yA.1 12 7).toInt := h46
                                refine Pa.ic (x := 1) (pc' := 13) (by rfl) (by rfl) (by decide) ?_
                                refine Pa.mp 1 (pc' := 17) (l' := [(0, .ref 12), (1, .int (yA.1 32 4))]) (st' := [.int 1]) (by rfl) ?_
                                refine Pa.iret (by rfl) ?_
                                show Pa N 150 144 [(3, .int (yA.1 32 4)), (2, .int (yA.1 32 0)), (0, .ref 0), (1, .int yk)] [.int 1] yA _
                                refine Pa.iret (by rfl) ?_
                                show Pa N 112 25 [(0, .ref 0), (1, .int yk), (2, .int yn)] [.int 1] yA _
                                refine Pa.if1k true (by rfl) (by rfl) (by decide) ?_
                                show Pa N 112 30 [(0, .ref 0), (1, .int yk), (2, .int yn)] [] yA _
                                refine Pa.mp 1 (pc' := 31) (l' := [(0, .ref 0), (1, .int yk), (2, .int yn)]) (st' := [.ref 0]) (by rfl) ?_
                                refine Pa.gfR (by rfl) (by rfl) (.inl rfl) (by rfl) ?_
                                show Pa N 112 34 [(0, .ref 0), (1, .int yk), (2, .int yn)] [.ref 30] yA _
                                refine Pa.mp 2 (pc' := 36) (l' := [(0, .ref 0), (1, .int yk), (2, .int yn)]) (st' := [.int yn, .int yk, .ref 30]) (by rfl) ?_
                                refine Pa.inv (by rfl) (by rfl) (.inr rfl) (by rfl) ?_
                                show Pa N 27 0 [(0, .ref 30), (1, .int yk), (2, .int yn)] [] yA _
                                refine Pa.mp 1 (pc' := 1) (l' := [(0, .ref 30), (1, .int yk), (2, .int yn)]) (st' := [.ref 30]) (by rfl) ?_
                                refine Pa.gfI (v := yA.1 30 4) (by rfl) (by rfl) (.inl rfl) (by rfl) (by rfl) ?_
                                refine Pa.ic (x := 150) (pc' := 7) (by rfl) (by rfl) (by decide) ?_
                                refine Pa.if2 (a := (yA.1 30 4).toInt) (b := 150) (t := 13) (by rfl) (by rfl) (rfl) (by decide) (fun h47 => ?_) (fun h48 => ?_)
                                · have h47 : (yA.1 30 4).toInt < 150 := h47
                                  refine Pa.newc (by rfl) (by rfl) (fun ya1 h49 h50 => ?_)
                                  show Pa N 27 16 [(0, .ref 30), (1, .int yk), (2, .int yn)] [.ref ya1] (uN yA) _
                                  refine Pa.mp 2 (pc' := 18) (l' := [(0, .ref 30), (1, .int yk), (2, .int yn)]) (st' := [.ref 30, .ref ya1, .ref ya1]) (by rfl) ?_
                                  refine Pa.gfI (v := yA.1 30 4) (by rfl) (by rfl) (.inl rfl) (by rfl) (by show (uN yA).1 30 4 = yA.1 30 4; rw [uN_I]) ?_
                                  refine Pa.mp 3 (pc' := 24) (l' := [(0, .ref 30), (1, .int yk), (2, .int yn)]) (st' := [.ref 30, .int yn, .int yk, .int (yA.1 30 4), .ref ya1, .ref ya1]) (by rfl) ?_
                                  refine Pa.gfR (by rfl) (by rfl) (.inl rfl) (by rfl) ?_
                                  show Pa N 27 27 [(0, .ref 30), (1, .int yk), (2, .int yn)] [.ref 32, .int yn, .int yk, .int (yA.1 30 4), .ref ya1, .ref ya1] (uN yA) _
                                  refine Pa.ini (by rfl) (by rfl) (.inr rfl) (by rfl) ?_
                                  show Pa N 19 0 [(0, .ref ya1), (1, .int (yA.1 30 4)), (2, .int yk), (3, .int yn), (4, .ref 32)] [] (uN yA) _
                                  refine Pa.mp 1 (pc' := 1) (l' := [(0, .ref ya1), (1, .int (yA.1 30 4)), (2, .int yk), (3, .int yn), (4, .ref 32)]) (st' := [.ref ya1]) (by rfl) ?_
                                  refine Pa.obj (by rfl) (by rfl) ?_
                                  refine Pa.mp 1 (pc' := 5) (l' := [(0, .ref ya1), (1, .int (yA.1 30 4)), (2, .int yk), (3, .int yn), (4, .ref 32)]) (st' := [.ref ya1]) (by rfl) ?_
                                  refine Pa.ic (x := (-1)) (pc' := 6) (by rfl) (by rfl) (by decide) ?_
                                  refine Pa.pfI (by rfl) (by rfl) (.inl rfl) (by rfl) ?_
                                  show Pa N 19 9 [(0, .ref ya1), (1, .int (yA.1 30 4)), (2, .int yk), (3, .int yn), (4, .ref 32)] [] (uI (uN yA) ya1 11 (-1)) _
                                  refine Pa.mp 2 (pc' := 11) (l' := [(0, .ref ya1), (1, .int (yA.1 30 4)), (2, .int yk), (3, .int yn), (4, .ref 32)]) (st' := [.int (yA.1 30 4), .ref ya1]) (by rfl) ?_
                                  refine Pa.pfI (by rfl) (by rfl) (.inl rfl) (by rfl) ?_
                                  show Pa N 19 14 [(0, .ref ya1), (1, .int (yA.1 30 4)), (2, .int yk), (3, .int yn), (4, .ref 32)] [] (uI (uI (uN yA) ya1 11 (-1)) ya1 0 (yA.1 30 4)) _
                                  refine Pa.mp 2 (pc' := 16) (l' := [(0, .ref ya1), (1, .int (yA.1 30 4)), (2, .int yk), (3, .int yn), (4, .ref 32)]) (st' := [.int yk, .ref ya1]) (by rfl) ?_
                                  refine Pa.pfI (by rfl) (by rfl) (.inl rfl) (by rfl) ?_
                                  show Pa N 19 19 [(0, .ref ya1), (1, .int (yA.1 30 4)), (2, .int yk), (3, .int yn), (4, .ref 32)] [] (uI (uI (uI (uN yA) ya1 11 (-1)) ya1 0 (yA.1 30 4)) ya1 1 yk) _
                                  refine Pa.mp 2 (pc' := 21) (l' := [(0, .ref ya1), (1, .int (yA.1 30 4)), (2, .int yk), (3, .int yn), (4, .ref 32)]) (st' := [.int yn, .ref ya1]) (by rfl) ?_
                                  refine Pa.pfI (by rfl) (by rfl) (.inl rfl) (by rfl) ?_
                                  show Pa N 19 24 [(0, .ref ya1), (1, .int (yA.1 30 4)), (2, .int yk), (3, .int yn), (4, .ref 32)] [] (uI (uI (uI (uI (uN yA) ya1 11 (-1)) ya1 0 (yA.1 30 4)) ya1 1 yk) ya1 2 yn) _
                                  refine Pa.mp 2 (pc' := 26) (l' := [(0, .ref ya1), (1, .int (yA.1 30 4)), (2, .int yk), (3, .int yn), (4, .ref 32)]) (st' := [.int yk, .ref ya1]) (by rfl) ?_
                                  refine Pa.ic (x := 2) (pc' := 27) (by rfl) (by rfl) (by decide) ?_
                                  refine Pa.ist (by rfl) (by rfl) (.inr rfl) (by rfl) (by rfl) ?_
                                  refine Pa.mono (c_isUnder N (uI (uI (uI (uI (uN yA) ya1 11 (-1)) ya1 0 (yA.1 30 4)) ya1 1 yk) ya1 2 yn) yk 2) (fun yu A1 hu => ?_)
                                  obtain ⟨rfl, hu⟩ := hu
                                  rw [hu]
                                  show Pa N 19 30 [(0, .ref ya1), (1, .int (yA.1 30 4)), (2, .int yk), (3, .int yn), (4, .ref 32)] [.int (isUx yk 2), .ref ya1] (uI (uI (uI (uI (uN yA) ya1 11 (-1)) ya1 0 (yA.1 30 4)) ya1 1 yk) ya1 2 yn) _
                                  refine Pa.pfI (by rfl) (by rfl) (.inl rfl) (by rfl) ?_
                                  show Pa N 19 33 [(0, .ref ya1), (1, .int (yA.1 30 4)), (2, .int yk), (3, .int yn), (4, .ref 32)] [] (uI (uI (uI (uI (uI (uN yA) ya1 11 (-1)) ya1 0 (yA.1 30 4)) ya1 1 yk) ya1 2 yn) ya1 3 (isUx yk 2)) _
                                  refine Pa.mp 2 (pc' := 36) (l' := [(0, .ref ya1), (1, .int (yA.1 30 4)), (2, .int yk), (3, .int yn), (4, .ref 32)]) (st' := [.ref 32, .ref ya1]) (by rfl) ?_
                                  refine Pa.ic (x := 0) (pc' := 37) (by rfl) (by rfl) (by decide) ?_
                                  refine Pa.alds (v := yA.1 32 0) (by rfl) (by rfl) (by show (uI (uI (uI (uI (uI (uN yA) ya1 11 (-1)) ya1 0 (yA.1 30 4)) ya1 1 yk) ya1 2 yn) ya1 3 (isUx yk 2)).1 32 0 = yA.1 32 0; rw [uI_c (by omega), uI_c (by omega), uI_c (by omega), uI_c (by omega), uI_c (by omega), uN_I]) (fun h51 h52 => ?_)
                                  refine Pa.pfI (by rfl) (by rfl) (.inl rfl) (by rfl) ?_
                                  show Pa N 19 41 [(0, .ref ya1), (1, .int (yA.1 30 4)), (2, .int yk), (3, .int yn), (4, .ref 32)] [] (uI (uI (uI (uI (uI (uI (uN yA) ya1 11 (-1)) ya1 0 (yA.1 30 4)) ya1 1 yk) ya1 2 yn) ya1 3 (isUx yk 2)) ya1 4 (yA.1 32 0)) _
                                  refine Pa.mp 2 (pc' := 44) (l' := [(0, .ref ya1), (1, .int (yA.1 30 4)), (2, .int yk), (3, .int yn), (4, .ref 32)]) (st' := [.ref 32, .ref ya1]) (by rfl) ?_
                                  refine Pa.ic (x := 1) (pc' := 45) (by rfl) (by rfl) (by decide) ?_
                                  refine Pa.alds (v := yA.1 32 1) (by rfl) (by rfl) (by show (uI (uI (uI (uI (uI (uI (uN yA) ya1 11 (-1)) ya1 0 (yA.1 30 4)) ya1 1 yk) ya1 2 yn) ya1 3 (isUx yk 2)) ya1 4 (yA.1 32 0)).1 32 1 = yA.1 32 1; rw [uI_c (by omega), uI_c (by omega), uI_c (by omega), uI_c (by omega), uI_c (by omega), uI_c (by omega), uN_I]) (fun h53 h54 => ?_)
                                  refine Pa.pfI (by rfl) (by rfl) (.inl rfl) (by rfl) ?_
                                  show Pa N 19 49 [(0, .ref ya1), (1, .int (yA.1 30 4)), (2, .int yk), (3, .int yn), (4, .ref 32)] [] (uI (uI (uI (uI (uI (uI (uI (uN yA) ya1 11 (-1)) ya1 0 (yA.1 30 4)) ya1 1 yk) ya1 2 yn) ya1 3 (isUx yk 2)) ya1 4 (yA.1 32 0)) ya1 5 (yA.1 32 1)) _
                                  refine Pa.mp 2 (pc' := 52) (l' := [(0, .ref ya1), (1, .int (yA.1 30 4)), (2, .int yk), (3, .int yn), (4, .ref 32)]) (st' := [.ref 32, .ref ya1]) (by rfl) ?_
                                  refine Pa.ic (x := 2) (pc' := 53) (by rfl) (by rfl) (by decide) ?_
                                  refine Pa.alds (v := yA.1 32 2) (by rfl) (by rfl) (by show (uI (uI (uI (uI (uI (uI (uI (uN yA) ya1 11 (-1)) ya1 0 (yA.1 30 4)) ya1 1 yk) ya1 2 yn) ya1 3 (isUx yk 2)) ya1 4 (yA.1 32 0)) ya1 5 (yA.1 32 1)).1 32 2 = yA.1 32 2; rw [uI_c (by omega), uI_c (by omega), uI_c (by omega), uI_c (by omega), uI_c (by omega), uI_c (by omega), uI_c (by omega), uN_I]) (fun h55 h56 => ?_)
                                  refine Pa.pfI (by rfl) (by rfl) (.inl rfl) (by rfl) ?_
                                  show Pa N 19 57 [(0, .ref ya1), (1, .int (yA.1 30 4)), (2, .int yk), (3, .int yn), (4, .ref 32)] [] (uI (uI (uI (uI (uI (uI (uI (uI (uN yA) ya1 11 (-1)) ya1 0 (yA.1 30 4)) ya1 1 yk) ya1 2 yn) ya1 3 (isUx yk 2)) ya1 4 (yA.1 32 0)) ya1 5 (yA.1 32 1)) ya1 6 (yA.1 32 2)) _
                                  refine Pa.mp 2 (pc' := 60) (l' := [(0, .ref ya1), (1, .int (yA.1 30 4)), (2, .int yk), (3, .int yn), (4, .ref 32)]) (st' := [.ref 32, .ref ya1]) (by rfl) ?_
                                  refine Pa.ic (x := 3) (pc' := 61) (by rfl) (by rfl) (by decide) ?_
                                  refine Pa.alds (v := yA.1 32 3) (by rfl) (by rfl) (by show (uI (uI (uI (uI (uI (uI (uI (uI (uN yA) ya1 11 (-1)) ya1 0 (yA.1 30 4)) ya1 1 yk) ya1 2 yn) ya1 3 (isUx yk 2)) ya1 4 (yA.1 32 0)) ya1 5 (yA.1 32 1)) ya1 6 (yA.1 32 2)).1 32 3 = yA.1 32 3; rw [uI_c (by omega), uI_c (by omega), uI_c (by omega), uI_c (by omega), uI_c (by omega), uI_c (by omega), uI_c (by omega), uI_c (by omega), uN_I]) (fun h57 h58 => ?_)
                                  refine Pa.pfI (by rfl) (by rfl) (.inl rfl) (by rfl) ?_
                                  show Pa N 19 65 [(0, .ref ya1), (1, .int (yA.1 30 4)), (2, .int yk), (3, .int yn), (4, .ref 32)] [] (uI (uI (uI (uI (uI (uI (uI (uI (uI (uN yA) ya1 11 (-1)) ya1 0 (yA.1 30 4)) ya1 1 yk) ya1 2 yn) ya1 3 (isUx yk 2)) ya1 4 (yA.1 32 0)) ya1 5 (yA.1 32 1)) ya1 6 (yA.1 32 2)) ya1 7 (yA.1 32 3)) _
                                  refine Pa.mp 2 (pc' := 68) (l' := [(0, .ref ya1), (1, .int (yA.1 30 4)), (2, .int yk), (3, .int yn), (4, .ref 32)]) (st' := [.ref 32, .ref ya1]) (by rfl) ?_
                                  refine Pa.ic (x := 4) (pc' := 69) (by rfl) (by rfl) (by decide) ?_
                                  refine Pa.alds (v := yA.1 32 4) (by rfl) (by rfl) (by show (uI (uI (uI (uI (uI (uI (uI (uI (uI (uN yA) ya1 11 (-1)) ya1 0 (yA.1 30 4)) ya1 1 yk) ya1 2 yn) ya1 3 (isUx yk 2)) ya1 4 (yA.1 32 0)) ya1 5 (yA.1 32 1)) ya1 6 (yA.1 32 2)) ya1 7 (yA.1 32 3)).1 32 4 = yA.1 32 4; rw [uI_c (by omega), uI_c (by omega), uI_c (by omega), uI_c (by omega), uI_c (by omega), uI_c (by omega), uI_c (by omega), uI_c (by omega), uI_c (by omega), uN_I]) (fun h59 h60 => ?_)
                                  refine Pa.pfI (by rfl) (by rfl) (.inl rfl) (by rfl) ?_
                                  show Pa N 19 73 [(0, .ref ya1), (1, .int (yA.1 30 4)), (2, .int yk), (3, .int yn), (4, .ref 32)] [] (uI (uI (uI (uI (uI (uI (uI (uI (uI (uI (uN yA) ya1 11 (-1)) ya1 0 (yA.1 30 4)) ya1 1 yk) ya1 2 yn) ya1 3 (isUx yk 2)) ya1 4 (yA.1 32 0)) ya1 5 (yA.1 32 1)) ya1 6 (yA.1 32 2)) ya1 7 (yA.1 32 3)) ya1 8 (yA.1 32 4)) _
                                  refine Pa.mp 2 (pc' := 76) (l' := [(0, .ref ya1), (1, .int (yA.1 30 4)), (2, .int yk), (3, .int yn), (4, .ref 32)]) (st' := [.ref 32, .ref ya1]) (by rfl) ?_
                                  refine Pa.ic (x := 5) (pc' := 77) (by rfl) (by rfl) (by decide) ?_
                                  refine Pa.alds (v := yA.1 32 5) (by rfl) (by rfl) (by show (uI (uI (uI (uI (uI (uI (uI (uI (uI (uI (uN yA) ya1 11 (-1)) ya1 0 (yA.1 30 4)) ya1 1 yk) ya1 2 yn) ya1 3 (isUx yk 2)) ya1 4 (yA.1 32 0)) ya1 5 (yA.1 32 1)) ya1 6 (yA.1 32 2)) ya1 7 (yA.1 32 3)) ya1 8 (yA.1 32 4)).1 32 5 = yA.1 32 5; rw [uI_c (by omega), uI_c (by omega), uI_c (by omega), uI_c (by omega), uI_c (by omega), uI_c (by omega), uI_c (by omega), uI_c (by omega), uI_c (by omega), uI_c (by omega), uN_I]) (fun h61 h62 => ?_)
                                  refine Pa.pfI (by rfl) (by rfl) (.inl rfl) (by rfl) ?_
                                  show Pa N 19 81 [(0, .ref ya1), (1, .int (yA.1 30 4)), (2, .int yk), (3, .int yn), (4, .ref 32)] [] (uI (uI (uI (uI (uI (uI (uI (uI (uI (uI (uI (uN yA) ya1 11 (-1)) ya1 0 (yA.1 30 4)) ya1 1 yk) ya1 2 yn) ya1 3 (isUx yk 2)) ya1 4 (yA.1 32 0)) ya1 5 (yA.1 32 1)) ya1 6 (yA.1 32 2)) ya1 7 (yA.1 32 3)) ya1 8 (yA.1 32 4)) ya1 9 (yA.1 32 5)) _
                                  refine Pa.mp 2 (pc' := 84) (l' := [(0, .ref ya1), (1, .int (yA.1 30 4)), (2, .int yk), (3, .int yn), (4, .ref 32)]) (st' := [.ref 32, .ref ya1]) (by rfl) ?_
                                  refine Pa.ic (x := 6) (pc' := 86) (by rfl) (by rfl) (by decide) ?_
                                  refine Pa.alds (v := yA.1 32 6) (by rfl) (by rfl) (by show (uI (uI (uI (uI (uI (uI (uI (uI (uI (uI (uI (uN yA) ya1 11 (-1)) ya1 0 (yA.1 30 4)) ya1 1 yk) ya1 2 yn) ya1 3 (isUx yk 2)) ya1 4 (yA.1 32 0)) ya1 5 (yA.1 32 1)) ya1 6 (yA.1 32 2)) ya1 7 (yA.1 32 3)) ya1 8 (yA.1 32 4)) ya1 9 (yA.1 32 5)).1 32 6 = yA.1 32 6; rw [uI_c (by omega), uI_c (by omega), uI_c (by omega), uI_c (by omega), uI_c (by omega), uI_c (by omega), uI_c (by omega), uI_c (by omega), uI_c (by omega), uI_c (by omega), uI_c (by omega), uN_I]) (fun h63 h64 => ?_)
                                  refine Pa.pfI (by rfl) (by rfl) (.inl rfl) (by rfl) ?_
                                  show Pa N 19 90 [(0, .ref ya1), (1, .int (yA.1 30 4)), (2, .int yk), (3, .int yn), (4, .ref 32)] [] (uI (uI (uI (uI (uI (uI (uI (uI (uI (uI (uI (uI (uN yA) ya1 11 (-1)) ya1 0 (yA.1 30 4)) ya1 1 yk) ya1 2 yn) ya1 3 (isUx yk 2)) ya1 4 (yA.1 32 0)) ya1 5 (yA.1 32 1)) ya1 6 (yA.1 32 2)) ya1 7 (yA.1 32 3)) ya1 8 (yA.1 32 4)) ya1 9 (yA.1 32 5)) ya1 10 (yA.1 32 6)) _
                                  refine Pa.vret (by rfl) ?_
                                  show Pa N 27 30 [(0, .ref 30), (1, .int yk), (2, .int yn)] [.ref ya1] (uI (uI (uI (uI (uI (uI (uI (uI (uI (uI (uI (uI (uN yA) ya1 11 (-1)) ya1 0 (yA.1 30 4)) ya1 1 yk) ya1 2 yn) ya1 3 (isUx yk 2)) ya1 4 (yA.1 32 0)) ya1 5 (yA.1 32 1)) ya1 6 (yA.1 32 2)) ya1 7 (yA.1 32 3)) ya1 8 (yA.1 32 4)) ya1 9 (yA.1 32 5)) ya1 10 (yA.1 32 6)) _
                                  refine Pa.mp 2 (pc' := 32) (l' := [(3, .ref ya1), (0, .ref 30), (1, .int yk), (2, .int yn)]) (st' := [.ref 30]) (by rfl) ?_
                                  refine Pa.gfR (by rfl) (by rfl) (.inl rfl) (by rfl) ?_
                                  show Pa N 27 35 [(3, .ref ya1), (0, .ref 30), (1, .int yk), (2, .int yn)] [.ref 31] (uI (uI (uI (uI (uI (uI (uI (uI (uI (uI (uI (uI (uN yA) ya1 11 (-1)) ya1 0 (yA.1 30 4)) ya1 1 yk) ya1 2 yn) ya1 3 (isUx yk 2)) ya1 4 (yA.1 32 0)) ya1 5 (yA.1 32 1)) ya1 6 (yA.1 32 2)) ya1 7 (yA.1 32 3)) ya1 8 (yA.1 32 4)) ya1 9 (yA.1 32 5)) ya1 10 (yA.1 32 6)) _
                                  refine Pa.mp 1 (pc' := 36) (l' := [(3, .ref ya1), (0, .ref 30), (1, .int yk), (2, .int yn)]) (st' := [.ref 30, .ref 31]) (by rfl) ?_
                                  refine Pa.gfI (v := yA.1 30 4) (by rfl) (by rfl) (.inl rfl) (by rfl) (by show (uI (uI (uI (uI (uI (uI (uI (uI (uI (uI (uI (uI (uN yA) ya1 11 (-1)) ya1 0 (yA.1 30 4)) ya1 1 yk) ya1 2 yn) ya1 3 (isUx yk 2)) ya1 4 (yA.1 32 0)) ya1 5 (yA.1 32 1)) ya1 6 (yA.1 32 2)) ya1 7 (yA.1 32 3)) ya1 8 (yA.1 32 4)) ya1 9 (yA.1 32 5)) ya1 10 (yA.1 32 6)).1 30 4 = yA.1 30 4; rw [uI_c (by omega), uI_c (by omega), uI_c (by omega), uI_c (by omega), uI_c (by omega), uI_c (by omega), uI_c (by omega), uI_c (by omega), uI_c (by omega), uI_c (by omega), uI_c (by omega), uI_c (by omega), uN_I]) ?_
                                  refine Pa.mp 1 (pc' := 40) (l' := [(3, .ref ya1), (0, .ref 30), (1, .int yk), (2, .int yn)]) (st' := [.ref ya1, .int (yA.1 30 4), .ref 31]) (by rfl) ?_
                                  refine Pa.osts (j' := ((yA.1 30 4).toInt.toNat)) (by rfl) (by rfl) (by rfl) (fun h65 h66 => ?_)
                                  have h65 : 0 ≤ (yA.1 30 4).toInt := h65
                                  have h66 : (yA.1 30 4).toInt < 150 := h66
                                  show Pa N 27 41 [(3, .ref ya1), (0, .ref 30), (1, .int yk), (2, .int yn)] [] (uO (uI (uI (uI (uI (uI (uI (uI (uI (uI (uI (uI (uI (uN yA) ya1 11 (-1)) ya1 0 (yA.1 30 4)) ya1 1 yk) ya1 2 yn) ya1 3 (isUx yk 2)) ya1 4 (yA.1 32 0)) ya1 5 (yA.1 32 1)) ya1 6 (yA.1 32 2)) ya1 7 (yA.1 32 3)) ya1 8 (yA.1 32 4)) ya1 9 (yA.1 32 5)) ya1 10 (yA.1 32 6)) 31 ((yA.1 30 4).toInt.toNat) (some ya1)) _
                                  refine Pa.mp 1 (pc' := 42) (l' := [(3, .ref ya1), (0, .ref 30), (1, .int yk), (2, .int yn)]) (st' := [.ref 30]) (by rfl) ?_
                                  refine Pa.gfR (by rfl) (by rfl) (.inl rfl) (by rfl) ?_
                                  show Pa N 27 45 [(3, .ref ya1), (0, .ref 30), (1, .int yk), (2, .int yn)] [.ref 34] (uO (uI (uI (uI (uI (uI (uI (uI (uI (uI (uI (uI (uI (uN yA) ya1 11 (-1)) ya1 0 (yA.1 30 4)) ya1 1 yk) ya1 2 yn) ya1 3 (isUx yk 2)) ya1 4 (yA.1 32 0)) ya1 5 (yA.1 32 1)) ya1 6 (yA.1 32 2)) ya1 7 (yA.1 32 3)) ya1 8 (yA.1 32 4)) ya1 9 (yA.1 32 5)) ya1 10 (yA.1 32 6)) 31 ((yA.1 30 4).toInt.toNat) (some ya1)) _
                                  refine Pa.mp 1 (pc' := 46) (l' := [(3, .ref ya1), (0, .ref 30), (1, .int yk), (2, .int yn)]) (st' := [.ref ya1, .ref 34]) (by rfl) ?_
                                  refine Pa.gfI (v := yA.1 32 0) (by rfl) (by rfl) (.inr rfl) (by rfl) (by show (uO (uI (uI (uI (uI (uI (uI (uI (uI (uI (uI (uI (uI (uN yA) ya1 11 (-1)) ya1 0 (yA.1 30 4)) ya1 1 yk) ya1 2 yn) ya1 3 (isUx yk 2)) ya1 4 (yA.1 32 0)) ya1 5 (yA.1 32 1)) ya1 6 (yA.1 32 2)) ya1 7 (yA.1 32 3)) ya1 8 (yA.1 32 4)) ya1 9 (yA.1 32 5)) ya1 10 (yA.1 32 6)) 31 ((yA.1 30 4).toInt.toNat) (some ya1)).1 ya1 4 = yA.1 32 0; rw [uO_I, uI_k (by decide), uI_k (by decide), uI_k (by decide), uI_k (by decide), uI_k (by decide), uI_k (by decide), uI_h]) ?_
                                  refine Pa.mp 1 (pc' := 50) (l' := [(3, .ref ya1), (0, .ref 30), (1, .int yk), (2, .int yn)]) (st' := [.int (yA.1 32 0), .ref 34, .int (yA.1 32 0), .ref 34]) (by rfl) ?_
                                  refine Pa.alds (v := yA.1 34 ((yA.1 32 0).toInt.toNat)) (by rfl) (by rfl) (by show (uO (uI (uI (uI (uI (uI (uI (uI (uI (uI (uI (uI (uI (uN yA) ya1 11 (-1)) ya1 0 (yA.1 30 4)) ya1 1 yk) ya1 2 yn) ya1 3 (isUx yk 2)) ya1 4 (yA.1 32 0)) ya1 5 (yA.1 32 1)) ya1 6 (yA.1 32 2)) ya1 7 (yA.1 32 3)) ya1 8 (yA.1 32 4)) ya1 9 (yA.1 32 5)) ya1 10 (yA.1 32 6)) 31 ((yA.1 30 4).toInt.toNat) (some ya1)).1 34 ((yA.1 32 0).toInt.toNat) = yA.1 34 ((yA.1 32 0).toInt.toNat); rw [uO_I, uI_c (by omega), uI_c (by omega), uI_c (by omega), uI_c (by omega), uI_c (by omega), uI_c (by omega), uI_c (by omega), uI_c (by omega), uI_c (by omega), uI_c (by omega), uI_c (by omega), uI_c (by omega), uN_I]) (fun h67 h68 => ?_)
                                  have h67 : 0 ≤ (yA.1 32 0).toInt := h67
                                  have h68 : (yA.1 32 0).toInt < 20 := h68
                                  refine Pa.ic (x := 1) (pc' := 52) (by rfl) (by rfl) (by decide) ?_
                                  refine Pa.mp 1 (pc' := 53) (l' := [(3, .ref ya1), (0, .ref 30), (1, .int yk), (2, .int yn)]) (st' := [.ref ya1, .int 1, .int (yA.1 34 ((yA.1 32 0).toInt.toNat)), .int (yA.1 32 0), .ref 34]) (by rfl) ?_
                                  refine Pa.gfI (v := yA.1 32 2) (by rfl) (by rfl) (.inr rfl) (by rfl) (by show (uO (uI (uI (uI (uI (uI (uI (uI (uI (uI (uI (uI (uI (uN yA) ya1 11 (-1)) ya1 0 (yA.1 30 4)) ya1 1 yk) ya1 2 yn) ya1 3 (isUx yk 2)) ya1 4 (yA.1 32 0)) ya1 5 (yA.1 32 1)) ya1 6 (yA.1 32 2)) ya1 7 (yA.1 32 3)) ya1 8 (yA.1 32 4)) ya1 9 (yA.1 32 5)) ya1 10 (yA.1 32 6)) 31 ((yA.1 30 4).toInt.toNat) (some ya1)).1 ya1 6 = yA.1 32 2; rw [uO_I, uI_k (by decide), uI_k (by decide), uI_k (by decide), uI_k (by decide), uI_h]) ?_
                                  refine Pa.mp 2 (pc' := 58) (l' := [(3, .ref ya1), (0, .ref 30), (1, .int yk), (2, .int yn)]) (st' := [.int ((yA.1 34 ((yA.1 32 0).toInt.toNat)) ||| (1 <<< ((yA.1 32 2) &&& 31))), .int (yA.1 32 0), .ref 34]) (by rfl) ?_
                                  refine Pa.asts (j' := ((yA.1 32 0).toInt.toNat)) (by rfl) (by rfl) (by rfl) (fun h69 h70 => ?_)
                                  have h69 : 0 ≤ (yA.1 32 0).toInt := h69
                                  have h70 : (yA.1 32 0).toInt < 20 := h70
                                  show Pa N 27 59 [(3, .ref ya1), (0, .ref 30), (1, .int yk), (2, .int yn)] [] (uI (uO (uI (uI (uI (uI (uI (uI (uI (uI (uI (uI (uI (uI (uN yA) ya1 11 (-1)) ya1 0 (yA.1 30 4)) ya1 1 yk) ya1 2 yn) ya1 3 (isUx yk 2)) ya1 4 (yA.1 32 0)) ya1 5 (yA.1 32 1)) ya1 6 (yA.1 32 2)) ya1 7 (yA.1 32 3)) ya1 8 (yA.1 32 4)) ya1 9 (yA.1 32 5)) ya1 10 (yA.1 32 6)) 31 ((yA.1 30 4).toInt.toNat) (some ya1)) 34 ((yA.1 32 0).toInt.toNat) ((yA.1 34 ((yA.1 32 0).toInt.toNat)) ||| (1 <<< ((yA.1 32 2) &&& 31)))) _
                                  refine Pa.mp 2 (pc' := 61) (l' := [(3, .ref ya1), (0, .ref 30), (1, .int yk), (2, .int yn)]) (st' := [.ref 30, .ref 30]) (by rfl) ?_
                                  refine Pa.gfI (v := yA.1 30 4) (by rfl) (by rfl) (.inl rfl) (by rfl) (by show (uI (uO (uI (uI (uI (uI (uI (uI (uI (uI (uI (uI (uI (uI (uN yA) ya1 11 (-1)) ya1 0 (yA.1 30 4)) ya1 1 yk) ya1 2 yn) ya1 3 (isUx yk 2)) ya1 4 (yA.1 32 0)) ya1 5 (yA.1 32 1)) ya1 6 (yA.1 32 2)) ya1 7 (yA.1 32 3)) ya1 8 (yA.1 32 4)) ya1 9 (yA.1 32 5)) ya1 10 (yA.1 32 6)) 31 ((yA.1 30 4).toInt.toNat) (some ya1)) 34 ((yA.1 32 0).toInt.toNat) ((yA.1 34 ((yA.1 32 0).toInt.toNat)) ||| (1 <<< ((yA.1 32 2) &&& 31)))).1 30 4 = yA.1 30 4; rw [uI_c (by decide), uO_I, uI_c (by omega), uI_c (by omega), uI_c (by omega), uI_c (by omega), uI_c (by omega), uI_c (by omega), uI_c (by omega), uI_c (by omega), uI_c (by omega), uI_c (by omega), uI_c (by omega), uI_c (by omega), uN_I]) ?_
                                  refine Pa.ic (x := 1) (pc' := 65) (by rfl) (by rfl) (by decide) ?_
                                  refine Pa.mp 1 (pc' := 66) (l' := [(3, .ref ya1), (0, .ref 30), (1, .int yk), (2, .int yn)]) (st' := [.int ((yA.1 30 4) + 1), .ref 30]) (by rfl) ?_
                                  refine Pa.pfI (by rfl) (by rfl) (.inl rfl) (by rfl) ?_
                                  show Pa N 27 69 [(3, .ref ya1), (0, .ref 30), (1, .int yk), (2, .int yn)] [] (uI (uI (uO (uI (uI (uI (uI (uI (uI (uI (uI (uI (uI (uI (uI (uN yA) ya1 11 (-1)) ya1 0 (yA.1 30 4)) ya1 1 yk) ya1 2 yn) ya1 3 (isUx yk 2)) ya1 4 (yA.1 32 0)) ya1 5 (yA.1 32 1)) ya1 6 (yA.1 32 2)) ya1 7 (yA.1 32 3)) ya1 8 (yA.1 32 4)) ya1 9 (yA.1 32 5)) ya1 10 (yA.1 32 6)) 31 ((yA.1 30 4).toInt.toNat) (some ya1)) 34 ((yA.1 32 0).toInt.toNat) ((yA.1 34 ((yA.1 32 0).toInt.toNat)) ||| (1 <<< ((yA.1 32 2) &&& 31)))) 30 4 ((yA.1 30 4) + 1)) _
                                  refine Pa.mp 1 (pc' := 70) (l' := [(3, .ref ya1), (0, .ref 30), (1, .int yk), (2, .int yn)]) (st' := [.ref 30]) (by rfl) ?_
                                  refine Pa.gfI (v := (yA.1 30 4) + 1) (by rfl) (by rfl) (.inl rfl) (by rfl) (by show (uI (uI (uO (uI (uI (uI (uI (uI (uI (uI (uI (uI (uI (uI (uI (uN yA) ya1 11 (-1)) ya1 0 (yA.1 30 4)) ya1 1 yk) ya1 2 yn) ya1 3 (isUx yk 2)) ya1 4 (yA.1 32 0)) ya1 5 (yA.1 32 1)) ya1 6 (yA.1 32 2)) ya1 7 (yA.1 32 3)) ya1 8 (yA.1 32 4)) ya1 9 (yA.1 32 5)) ya1 10 (yA.1 32 6)) 31 ((yA.1 30 4).toInt.toNat) (some ya1)) 34 ((yA.1 32 0).toInt.toNat) ((yA.1 34 ((yA.1 32 0).toInt.toNat)) ||| (1 <<< ((yA.1 32 2) &&& 31)))) 30 4 ((yA.1 30 4) + 1)).1 30 4 = (yA.1 30 4) + 1; rw [uI_h]) ?_
                                  refine Pa.ic (x := 1) (pc' := 74) (by rfl) (by rfl) (by decide) ?_
                                  refine Pa.mp 1 (pc' := 75) (l' := [(3, .ref ya1), (0, .ref 30), (1, .int yk), (2, .int yn)]) (st' := [.int (((yA.1 30 4) + 1) - 1)]) (by rfl) ?_
                                  refine Pa.iret (by rfl) ?_
                                  show Pa N 112 39 [(0, .ref 0), (1, .int yk), (2, .int yn)] [.int (((yA.1 30 4) + 1) - 1)] (uI (uI (uO (uI (uI (uI (uI (uI (uI (uI (uI (uI (uI (uI (uI (uN yA) ya1 11 (-1)) ya1 0 (yA.1 30 4)) ya1 1 yk) ya1 2 yn) ya1 3 (isUx yk 2)) ya1 4 (yA.1 32 0)) ya1 5 (yA.1 32 1)) ya1 6 (yA.1 32 2)) ya1 7 (yA.1 32 3)) ya1 8 (yA.1 32 4)) ya1 9 (yA.1 32 5)) ya1 10 (yA.1 32 6)) 31 ((yA.1 30 4).toInt.toNat) (some ya1)) 34 ((yA.1 32 0).toInt.toNat) ((yA.1 34 ((yA.1 32 0).toInt.toNat)) ||| (1 <<< ((yA.1 32 2) &&& 31)))) 30 4 ((yA.1 30 4) + 1)) _
                                  refine Pa.iret (by rfl) ?_
                                  exact l12 h2 h4 h6 h8 h12 h14 h18 h19 h24 h26 h29 h34 h37 h41 h44 h46 h47 ya1 h49 h50 h65
                                · have h48 : 150 ≤ (yA.1 30 4).toInt := h48
                                  refine Pa.ic (x := (-2)) (pc' := 12) (by rfl) (by rfl) (by decide) ?_
                                  refine Pa.iret (by rfl) ?_
                                  show Pa N 112 39 [(0, .ref 0), (1, .int yk), (2, .int yn)] [.int (-2)] yA _
                                  refine Pa.iret (by rfl) ?_
                                  exact l13 h2 h4 h6 h8 h12 h14 h18 h19 h24 h26 h29 h34 h37 h41 h44 h46 h48
                          · have h42 : (isUx yk 2).toInt ≠ 0 := h42
                            refine Pa.mp 1 (pc' := 126) (l' := [(3, .int (yA.1 32 4)), (2, .int (yA.1 32 0)), (0, .ref 0), (1, .int yk)]) (st' := [.ref 0]) (by rfl) ?_
                            refine Pa.gfR (by rfl) (by rfl) (.inl rfl) (by rfl) ?_
                            show Pa N 150 129 [(3, .int (yA.1 32 4)), (2, .int (yA.1 32 0)), (0, .ref 0), (1, .int yk)] [.ref 1] yA _
                            refine Pa.mp 1 (pc' := 130) (l' := [(3, .int (yA.1 32 4)), (2, .int (yA.1 32 0)), (0, .ref 0), (1, .int yk)]) (st' := [.int (yA.1 32 4), .ref 1]) (by rfl) ?_
                            refine Pa.inv (by rfl) (by rfl) (.inr rfl) (by rfl) ?_
                            show Pa N 48 0 [(0, .ref 1), (1, .int (yA.1 32 4))] [] yA _
                            refine Pa.mp 1 (pc' := 1) (l' := [(0, .ref 1), (1, .int (yA.1 32 4))]) (st' := [.int (yA.1 32 4)]) (by rfl) ?_
                            refine Pa.if1 (a := (yA.1 32 4).toInt) (t := 16) (by rfl) (by rfl) (rfl) (fun h71 => ?_) (fun h72 => ?_)
                            · have h71 : (yA.1 32 4).toInt < 0 := h71
                              refine Pa.ic (x := 0) (pc' := 17) (by rfl) (by rfl) (by decide) ?_
                              refine Pa.iret (by rfl) ?_
                              show Pa N 150 133 [(3, .int (yA.1 32 4)), (2, .int (yA.1 32 0)), (0, .ref 0), (1, .int yk)] [.int 0] yA _
                              refine Pa.mp 1 (pc' := 144) (l' := [(3, .int (yA.1 32 4)), (2, .int (yA.1 32 0)), (0, .ref 0), (1, .int yk)]) (st' := [.int 0]) (by rfl) ?_
                              refine Pa.iret (by rfl) ?_
                              show Pa N 112 25 [(0, .ref 0), (1, .int yk), (2, .int yn)] [.int 0] yA _
                              refine Pa.if1k false (by rfl) (by rfl) (by decide) ?_
                              show Pa N 112 28 [(0, .ref 0), (1, .int yk), (2, .int yn)] [] yA _
                              refine Pa.ic (x := (-1)) (pc' := 29) (by rfl) (by rfl) (by decide) ?_
                              refine Pa.iret (by rfl) ?_
                              exact l14 h2 h4 h6 h8 h12 h14 h18 h19 h24 h26 h29 h34 h37 h42 h71
                            · have h72 : 0 ≤ (yA.1 32 4).toInt := h72
                              refine Pa.mp 2 (pc' := 6) (l' := [(0, .ref 1), (1, .int (yA.1 32 4))]) (st' := [.ref 1, .int (yA.1 32 4)]) (by rfl) ?_
                              refine Pa.gfI (v := yA.1 1 3) (by rfl) (by rfl) (.inl rfl) (by rfl) (by rfl) ?_
                              refine Pa.if2 (a := (yA.1 32 4).toInt) (b := (yA.1 1 3).toInt) (t := 16) (by rfl) (by rfl) (rfl) (rfl) (fun h73 => ?_) (fun h74 => ?_)
                              · have h73 : (yA.1 1 3).toInt ≤ (yA.1 32 4).toInt := h73
                                refine Pa.ic (x := 0) (pc' := 17) (by rfl) (by rfl) (by decide) ?_
                                refine Pa.iret (by rfl) ?_
                                show Pa N 150 133 [(3, .int (yA.1 32 4)), (2, .int (yA.1 32 0)), (0, .ref 0), (1, .int yk)] [.int 0] yA _
                                refine Pa.mp 1 (pc' := 144) (l' := [(3, .int (yA.1 32 4)), (2, .int (yA.1 32 0)), (0, .ref 0), (1, .int yk)]) (st' := [.int 0]) (by rfl) ?_
                                refine Pa.iret (by rfl) ?_
                                show Pa N 112 25 [(0, .ref 0), (1, .int yk), (2, .int yn)] [.int 0] yA _
                                refine Pa.if1k false (by rfl) (by rfl) (by decide) ?_
                                show Pa N 112 28 [(0, .ref 0), (1, .int yk), (2, .int yn)] [] yA _
                                refine Pa.ic (x := (-1)) (pc' := 29) (by rfl) (by rfl) (by decide) ?_
                                refine Pa.iret (by rfl) ?_
                                exact l15 h2 h4 h6 h8 h12 h14 h18 h19 h24 h26 h29 h34 h37 h42 h72 h73
                              · have h74 : (yA.1 32 4).toInt < (yA.1 1 3).toInt := h74
                                refine Pa.ic (x := 1) (pc' := 13) (by rfl) (by rfl) (by decide) ?_
                                refine Pa.mp 1 (pc' := 17) (l' := [(0, .ref 1), (1, .int (yA.1 32 4))]) (st' := [.int 1]) (by rfl) ?_
                                refine Pa.iret (by rfl) ?_
                                show Pa N 150 133 [(3, .int (yA.1 32 4)), (2, .int (yA.1 32 0)), (0, .ref 0), (1, .int yk)] [.int 1] yA _
                                refine Pa.mp 1 (pc' := 144) (l' := [(3, .int (yA.1 32 4)), (2, .int (yA.1 32 0)), (0, .ref 0), (1, .int yk)]) (st' := [.int 1]) (by rfl) ?_
                                refine Pa.iret (by rfl) ?_
                                show Pa N 112 25 [(0, .ref 0), (1, .int yk), (2, .int yn)] [.int 1] yA _
                                refine Pa.if1k true (by rfl) (by rfl) (by decide) ?_
                                show Pa N 112 30 [(0, .ref 0), (1, .int yk), (2, .int yn)] [] yA _
                                refine Pa.mp 1 (pc' := 31) (l' := [(0, .ref 0), (1, .int yk), (2, .int yn)]) (st' := [.ref 0]) (by rfl) ?_
                                refine Pa.gfR (by rfl) (by rfl) (.inl rfl) (by rfl) ?_
                                show Pa N 112 34 [(0, .ref 0), (1, .int yk), (2, .int yn)] [.ref 30] yA _
                                refine Pa.mp 2 (pc' := 36) (l' := [(0, .ref 0), (1, .int yk), (2, .int yn)]) (st' := [.int yn, .int yk, .ref 30]) (by rfl) ?_
                                refine Pa.inv (by rfl) (by rfl) (.inr rfl) (by rfl) ?_
                                show Pa N 27 0 [(0, .ref 30), (1, .int yk), (2, .int yn)] [] yA _
                                refine Pa.mp 1 (pc' := 1) (l' := [(0, .ref 30), (1, .int yk), (2, .int yn)]) (st' := [.ref 30]) (by rfl) ?_
                                refine Pa.gfI (v := yA.1 30 4) (by rfl) (by rfl) (.inl rfl) (by rfl) (by rfl) ?_
                                refine Pa.ic (x := 150) (pc' := 7) (by rfl) (by rfl) (by decide) ?_
                                refine Pa.if2 (a := (yA.1 30 4).toInt) (b := 150) (t := 13) (by rfl) (by rfl) (rfl) (by decide) (fun h75 => ?_) (fun h76 => ?_)
                                · have h75 : (yA.1 30 4).toInt < 150 := h75
                                  refine Pa.newc (by rfl) (by rfl) (fun a2 h77 h78 => ?_)
                                  show Pa N 27 16 [(0, .ref 30), (1, .int yk), (2, .int yn)] [.ref a2] (uN yA) _
                                  refine Pa.mp 2 (pc' := 18) (l' := [(0, .ref 30), (1, .int yk), (2, .int yn)]) (st' := [.ref 30, .ref a2, .ref a2]) (by rfl) ?_
                                  refine Pa.gfI (v := yA.1 30 4) (by rfl) (by rfl) (.inl rfl) (by rfl) (by show (uN yA).1 30 4 = yA.1 30 4; rw [uN_I]) ?_
                                  refine Pa.mp 3 (pc' := 24) (l' := [(0, .ref 30), (1, .int yk), (2, .int yn)]) (st' := [.ref 30, .int yn, .int yk, .int (yA.1 30 4), .ref a2, .ref a2]) (by rfl) ?_
                                  refine Pa.gfR (by rfl) (by rfl) (.inl rfl) (by rfl) ?_
                                  show Pa N 27 27 [(0, .ref 30), (1, .int yk), (2, .int yn)] [.ref 32, .int yn, .int yk, .int (yA.1 30 4), .ref a2, .ref a2] (uN yA) _
                                  refine Pa.ini (by rfl) (by rfl) (.inr rfl) (by rfl) ?_
                                  show Pa N 19 0 [(0, .ref a2), (1, .int (yA.1 30 4)), (2, .int yk), (3, .int yn), (4, .ref 32)] [] (uN yA) _
                                  refine Pa.mp 1 (pc' := 1) (l' := [(0, .ref a2), (1, .int (yA.1 30 4)), (2, .int yk), (3, .int yn), (4, .ref 32)]) (st' := [.ref a2]) (by rfl) ?_
                                  refine Pa.obj (by rfl) (by rfl) ?_
                                  refine Pa.mp 1 (pc' := 5) (l' := [(0, .ref a2), (1, .int (yA.1 30 4)), (2, .int yk), (3, .int yn), (4, .ref 32)]) (st' := [.ref a2]) (by rfl) ?_
                                  refine Pa.ic (x := (-1)) (pc' := 6) (by rfl) (by rfl) (by decide) ?_
                                  refine Pa.pfI (by rfl) (by rfl) (.inl rfl) (by rfl) ?_
                                  show Pa N 19 9 [(0, .ref a2), (1, .int (yA.1 30 4)), (2, .int yk), (3, .int yn), (4, .ref 32)] [] (uI (uN yA) a2 11 (-1)) _
                                  refine Pa.mp 2 (pc' := 11) (l' := [(0, .ref a2), (1, .int (yA.1 30 4)), (2, .int yk), (3, .int yn), (4, .ref 32)]) (st' := [.int (yA.1 30 4), .ref a2]) (by rfl) ?_
                                  refine Pa.pfI (by rfl) (by rfl) (.inl rfl) (by rfl) ?_
                                  show Pa N 19 14 [(0, .ref a2), (1, .int (yA.1 30 4)), (2, .int yk), (3, .int yn), (4, .ref 32)] [] (uI (uI (uN yA) a2 11 (-1)) a2 0 (yA.1 30 4)) _
                                  refine Pa.mp 2 (pc' := 16) (l' := [(0, .ref a2), (1, .int (yA.1 30 4)), (2, .int yk), (3, .int yn), (4, .ref 32)]) (st' := [.int yk, .ref a2]) (by rfl) ?_
                                  refine Pa.pfI (by rfl) (by rfl) (.inl rfl) (by rfl) ?_
                                  show Pa N 19 19 [(0, .ref a2), (1, .int (yA.1 30 4)), (2, .int yk), (3, .int yn), (4, .ref 32)] [] (uI (uI (uI (uN yA) a2 11 (-1)) a2 0 (yA.1 30 4)) a2 1 yk) _
                                  refine Pa.mp 2 (pc' := 21) (l' := [(0, .ref a2), (1, .int (yA.1 30 4)), (2, .int yk), (3, .int yn), (4, .ref 32)]) (st' := [.int yn, .ref a2]) (by rfl) ?_
                                  refine Pa.pfI (by rfl) (by rfl) (.inl rfl) (by rfl) ?_
                                  show Pa N 19 24 [(0, .ref a2), (1, .int (yA.1 30 4)), (2, .int yk), (3, .int yn), (4, .ref 32)] [] (uI (uI (uI (uI (uN yA) a2 11 (-1)) a2 0 (yA.1 30 4)) a2 1 yk) a2 2 yn) _
                                  refine Pa.mp 2 (pc' := 26) (l' := [(0, .ref a2), (1, .int (yA.1 30 4)), (2, .int yk), (3, .int yn), (4, .ref 32)]) (st' := [.int yk, .ref a2]) (by rfl) ?_
                                  refine Pa.ic (x := 2) (pc' := 27) (by rfl) (by rfl) (by decide) ?_
                                  refine Pa.ist (by rfl) (by rfl) (.inr rfl) (by rfl) (by rfl) ?_
                                  refine Pa.mono (c_isUnder N (uI (uI (uI (uI (uN yA) a2 11 (-1)) a2 0 (yA.1 30 4)) a2 1 yk) a2 2 yn) yk 2) (fun yu A1 hu => ?_)
                                  obtain ⟨rfl, hu⟩ := hu
                                  rw [hu]
                                  show Pa N 19 30 [(0, .ref a2), (1, .int (yA.1 30 4)), (2, .int yk), (3, .int yn), (4, .ref 32)] [.int (isUx yk 2), .ref a2] (uI (uI (uI (uI (uN yA) a2 11 (-1)) a2 0 (yA.1 30 4)) a2 1 yk) a2 2 yn) _
                                  refine Pa.pfI (by rfl) (by rfl) (.inl rfl) (by rfl) ?_
                                  show Pa N 19 33 [(0, .ref a2), (1, .int (yA.1 30 4)), (2, .int yk), (3, .int yn), (4, .ref 32)] [] (uI (uI (uI (uI (uI (uN yA) a2 11 (-1)) a2 0 (yA.1 30 4)) a2 1 yk) a2 2 yn) a2 3 (isUx yk 2)) _
                                  refine Pa.mp 2 (pc' := 36) (l' := [(0, .ref a2), (1, .int (yA.1 30 4)), (2, .int yk), (3, .int yn), (4, .ref 32)]) (st' := [.ref 32, .ref a2]) (by rfl) ?_
                                  refine Pa.ic (x := 0) (pc' := 37) (by rfl) (by rfl) (by decide) ?_
                                  refine Pa.alds (v := yA.1 32 0) (by rfl) (by rfl) (by show (uI (uI (uI (uI (uI (uN yA) a2 11 (-1)) a2 0 (yA.1 30 4)) a2 1 yk) a2 2 yn) a2 3 (isUx yk 2)).1 32 0 = yA.1 32 0; rw [uI_c (by omega), uI_c (by omega), uI_c (by omega), uI_c (by omega), uI_c (by omega), uN_I]) (fun h79 h80 => ?_)
                                  refine Pa.pfI (by rfl) (by rfl) (.inl rfl) (by rfl) ?_
                                  show Pa N 19 41 [(0, .ref a2), (1, .int (yA.1 30 4)), (2, .int yk), (3, .int yn), (4, .ref 32)] [] (uI (uI (uI (uI (uI (uI (uN yA) a2 11 (-1)) a2 0 (yA.1 30 4)) a2 1 yk) a2 2 yn) a2 3 (isUx yk 2)) a2 4 (yA.1 32 0)) _
                                  refine Pa.mp 2 (pc' := 44) (l' := [(0, .ref a2), (1, .int (yA.1 30 4)), (2, .int yk), (3, .int yn), (4, .ref 32)]) (st' := [.ref 32, .ref a2]) (by rfl) ?_
                                  refine Pa.ic (x := 1) (pc' := 45) (by rfl) (by rfl) (by decide) ?_
                                  refine Pa.alds (v := yA.1 32 1) (by rfl) (by rfl) (by show (uI (uI (uI (uI (uI (uI (uN yA) a2 11 (-1)) a2 0 (yA.1 30 4)) a2 1 yk) a2 2 yn) a2 3 (isUx yk 2)) a2 4 (yA.1 32 0)).1 32 1 = yA.1 32 1; rw [uI_c (by omega), uI_c (by omega), uI_c (by omega), uI_c (by omega), uI_c (by omega), uI_c (by omega), uN_I]) (fun h81 h82 => ?_)
                                  refine Pa.pfI (by rfl) (by rfl) (.inl rfl) (by rfl) ?_
                                  show Pa N 19 49 [(0, .ref a2), (1, .int (yA.1 30 4)), (2, .int yk), (3, .int yn), (4, .ref 32)] [] (uI (uI (uI (uI (uI (uI (uI (uN yA) a2 11 (-1)) a2 0 (yA.1 30 4)) a2 1 yk) a2 2 yn) a2 3 (isUx yk 2)) a2 4 (yA.1 32 0)) a2 5 (yA.1 32 1)) _
                                  refine Pa.mp 2 (pc' := 52) (l' := [(0, .ref a2), (1, .int (yA.1 30 4)), (2, .int yk), (3, .int yn), (4, .ref 32)]) (st' := [.ref 32, .ref a2]) (by rfl) ?_
                                  refine Pa.ic (x := 2) (pc' := 53) (by rfl) (by rfl) (by decide) ?_
                                  refine Pa.alds (v := yA.1 32 2) (by rfl) (by rfl) (by show (uI (uI (uI (uI (uI (uI (uI (uN yA) a2 11 (-1)) a2 0 (yA.1 30 4)) a2 1 yk) a2 2 yn) a2 3 (isUx yk 2)) a2 4 (yA.1 32 0)) a2 5 (yA.1 32 1)).1 32 2 = yA.1 32 2; rw [uI_c (by omega), uI_c (by omega), uI_c (by omega), uI_c (by omega), uI_c (by omega), uI_c (by omega), uI_c (by omega), uN_I]) (fun h83 h84 => ?_)
                                  refine Pa.pfI (by rfl) (by rfl) (.inl rfl) (by rfl) ?_
                                  show Pa N 19 57 [(0, .ref a2), (1, .int (yA.1 30 4)), (2, .int yk), (3, .int yn), (4, .ref 32)] [] (uI (uI (uI (uI (uI (uI (uI (uI (uN yA) a2 11 (-1)) a2 0 (yA.1 30 4)) a2 1 yk) a2 2 yn) a2 3 (isUx yk 2)) a2 4 (yA.1 32 0)) a2 5 (yA.1 32 1)) a2 6 (yA.1 32 2)) _
                                  refine Pa.mp 2 (pc' := 60) (l' := [(0, .ref a2), (1, .int (yA.1 30 4)), (2, .int yk), (3, .int yn), (4, .ref 32)]) (st' := [.ref 32, .ref a2]) (by rfl) ?_
                                  refine Pa.ic (x := 3) (pc' := 61) (by rfl) (by rfl) (by decide) ?_
                                  refine Pa.alds (v := yA.1 32 3) (by rfl) (by rfl) (by show (uI (uI (uI (uI (uI (uI (uI (uI (uN yA) a2 11 (-1)) a2 0 (yA.1 30 4)) a2 1 yk) a2 2 yn) a2 3 (isUx yk 2)) a2 4 (yA.1 32 0)) a2 5 (yA.1 32 1)) a2 6 (yA.1 32 2)).1 32 3 = yA.1 32 3; rw [uI_c (by omega), uI_c (by omega), uI_c (by omega), uI_c (by omega), uI_c (by omega), uI_c (by omega), uI_c (by omega), uI_c (by omega), uN_I]) (fun h85 h86 => ?_)
                                  refine Pa.pfI (by rfl) (by rfl) (.inl rfl) (by rfl) ?_
                                  show Pa N 19 65 [(0, .ref a2), (1, .int (yA.1 30 4)), (2, .int yk), (3, .int yn), (4, .ref 32)] [] (uI (uI (uI (uI (uI (uI (uI (uI (uI (uN yA) a2 11 (-1)) a2 0 (yA.1 30 4)) a2 1 yk) a2 2 yn) a2 3 (isUx yk 2)) a2 4 (yA.1 32 0)) a2 5 (yA.1 32 1)) a2 6 (yA.1 32 2)) a2 7 (yA.1 32 3)) _
                                  refine Pa.mp 2 (pc' := 68) (l' := [(0, .ref a2), (1, .int (yA.1 30 4)), (2, .int yk), (3, .int yn), (4, .ref 32)]) (st' := [.ref 32, .ref a2]) (by rfl) ?_
                                  refine Pa.ic (x := 4) (pc' := 69) (by rfl) (by rfl) (by decide) ?_
                                  refine Pa.alds (v := yA.1 32 4) (by rfl) (by rfl) (by show (uI (uI (uI (uI (uI (uI (uI (uI (uI (uN yA) a2 11 (-1)) a2 0 (yA.1 30 4)) a2 1 yk) a2 2 yn) a2 3 (isUx yk 2)) a2 4 (yA.1 32 0)) a2 5 (yA.1 32 1)) a2 6 (yA.1 32 2)) a2 7 (yA.1 32 3)).1 32 4 = yA.1 32 4; rw [uI_c (by omega), uI_c (by omega), uI_c (by omega), uI_c (by omega), uI_c (by omega), uI_c (by omega), uI_c (by omega), uI_c (by omega), uI_c (by omega), uN_I]) (fun h87 h88 => ?_)
                                  refine Pa.pfI (by rfl) (by rfl) (.inl rfl) (by rfl) ?_
                                  show Pa N 19 73 [(0, .ref a2), (1, .int (yA.1 30 4)), (2, .int yk), (3, .int yn), (4, .ref 32)] [] (uI (uI (uI (uI (uI (uI (uI (uI (uI (uI (uN yA) a2 11 (-1)) a2 0 (yA.1 30 4)) a2 1 yk) a2 2 yn) a2 3 (isUx yk 2)) a2 4 (yA.1 32 0)) a2 5 (yA.1 32 1)) a2 6 (yA.1 32 2)) a2 7 (yA.1 32 3)) a2 8 (yA.1 32 4)) _
                                  refine Pa.mp 2 (pc' := 76) (l' := [(0, .ref a2), (1, .int (yA.1 30 4)), (2, .int yk), (3, .int yn), (4, .ref 32)]) (st' := [.ref 32, .ref a2]) (by rfl) ?_
                                  refine Pa.ic (x := 5) (pc' := 77) (by rfl) (by rfl) (by decide) ?_
                                  refine Pa.alds (v := yA.1 32 5) (by rfl) (by rfl) (by show (uI (uI (uI (uI (uI (uI (uI (uI (uI (uI (uN yA) a2 11 (-1)) a2 0 (yA.1 30 4)) a2 1 yk) a2 2 yn) a2 3 (isUx yk 2)) a2 4 (yA.1 32 0)) a2 5 (yA.1 32 1)) a2 6 (yA.1 32 2)) a2 7 (yA.1 32 3)) a2 8 (yA.1 32 4)).1 32 5 = yA.1 32 5; rw [uI_c (by omega), uI_c (by omega), uI_c (by omega), uI_c (by omega), uI_c (by omega), uI_c (by omega), uI_c (by omega), uI_c (by omega), uI_c (by omega), uI_c (by omega), uN_I]) (fun h89 h90 => ?_)
                                  refine Pa.pfI (by rfl) (by rfl) (.inl rfl) (by rfl) ?_
                                  show Pa N 19 81 [(0, .ref a2), (1, .int (yA.1 30 4)), (2, .int yk), (3, .int yn), (4, .ref 32)] [] (uI (uI (uI (uI (uI (uI (uI (uI (uI (uI (uI (uN yA) a2 11 (-1)) a2 0 (yA.1 30 4)) a2 1 yk) a2 2 yn) a2 3 (isUx yk 2)) a2 4 (yA.1 32 0)) a2 5 (yA.1 32 1)) a2 6 (yA.1 32 2)) a2 7 (yA.1 32 3)) a2 8 (yA.1 32 4)) a2 9 (yA.1 32 5)) _
                                  refine Pa.mp 2 (pc' := 84) (l' := [(0, .ref a2), (1, .int (yA.1 30 4)), (2, .int yk), (3, .int yn), (4, .ref 32)]) (st' := [.ref 32, .ref a2]) (by rfl) ?_
                                  refine Pa.ic (x := 6) (pc' := 86) (by rfl) (by rfl) (by decide) ?_
                                  refine Pa.alds (v := yA.1 32 6) (by rfl) (by rfl) (by show (uI (uI (uI (uI (uI (uI (uI (uI (uI (uI (uI (uN yA) a2 11 (-1)) a2 0 (yA.1 30 4)) a2 1 yk) a2 2 yn) a2 3 (isUx yk 2)) a2 4 (yA.1 32 0)) a2 5 (yA.1 32 1)) a2 6 (yA.1 32 2)) a2 7 (yA.1 32 3)) a2 8 (yA.1 32 4)) a2 9 (yA.1 32 5)).1 32 6 = yA.1 32 6; rw [uI_c (by omega), uI_c (by omega), uI_c (by omega), uI_c (by omega), uI_c (by omega), uI_c (by omega), uI_c (by omega), uI_c (by omega), uI_c (by omega), uI_c (by omega), uI_c (by omega), uN_I]) (fun h91 h92 => ?_)
                                  refine Pa.pfI (by rfl) (by rfl) (.inl rfl) (by rfl) ?_
                                  show Pa N 19 90 [(0, .ref a2), (1, .int (yA.1 30 4)), (2, .int yk), (3, .int yn), (4, .ref 32)] [] (uI (uI (uI (uI (uI (uI (uI (uI (uI (uI (uI (uI (uN yA) a2 11 (-1)) a2 0 (yA.1 30 4)) a2 1 yk) a2 2 yn) a2 3 (isUx yk 2)) a2 4 (yA.1 32 0)) a2 5 (yA.1 32 1)) a2 6 (yA.1 32 2)) a2 7 (yA.1 32 3)) a2 8 (yA.1 32 4)) a2 9 (yA.1 32 5)) a2 10 (yA.1 32 6)) _
                                  refine Pa.vret (by rfl) ?_
                                  show Pa N 27 30 [(0, .ref 30), (1, .int yk), (2, .int yn)] [.ref a2] (uI (uI (uI (uI (uI (uI (uI (uI (uI (uI (uI (uI (uN yA) a2 11 (-1)) a2 0 (yA.1 30 4)) a2 1 yk) a2 2 yn) a2 3 (isUx yk 2)) a2 4 (yA.1 32 0)) a2 5 (yA.1 32 1)) a2 6 (yA.1 32 2)) a2 7 (yA.1 32 3)) a2 8 (yA.1 32 4)) a2 9 (yA.1 32 5)) a2 10 (yA.1 32 6)) _
                                  refine Pa.mp 2 (pc' := 32) (l' := [(3, .ref a2), (0, .ref 30), (1, .int yk), (2, .int yn)]) (st' := [.ref 30]) (by rfl) ?_
                                  refine Pa.gfR (by rfl) (by rfl) (.inl rfl) (by rfl) ?_
                                  show Pa N 27 35 [(3, .ref a2), (0, .ref 30), (1, .int yk), (2, .int yn)] [.ref 31] (uI (uI (uI (uI (uI (uI (uI (uI (uI (uI (uI (uI (uN yA) a2 11 (-1)) a2 0 (yA.1 30 4)) a2 1 yk) a2 2 yn) a2 3 (isUx yk 2)) a2 4 (yA.1 32 0)) a2 5 (yA.1 32 1)) a2 6 (yA.1 32 2)) a2 7 (yA.1 32 3)) a2 8 (yA.1 32 4)) a2 9 (yA.1 32 5)) a2 10 (yA.1 32 6)) _
                                  refine Pa.mp 1 (pc' := 36) (l' := [(3, .ref a2), (0, .ref 30), (1, .int yk), (2, .int yn)]) (st' := [.ref 30, .ref 31]) (by rfl) ?_
                                  refine Pa.gfI (v := yA.1 30 4) (by rfl) (by rfl) (.inl rfl) (by rfl) (by show (uI (uI (uI (uI (uI (uI (uI (uI (uI (uI (uI (uI (uN yA) a2 11 (-1)) a2 0 (yA.1 30 4)) a2 1 yk) a2 2 yn) a2 3 (isUx yk 2)) a2 4 (yA.1 32 0)) a2 5 (yA.1 32 1)) a2 6 (yA.1 32 2)) a2 7 (yA.1 32 3)) a2 8 (yA.1 32 4)) a2 9 (yA.1 32 5)) a2 10 (yA.1 32 6)).1 30 4 = yA.1 30 4; rw [uI_c (by omega), uI_c (by omega), uI_c (by omega), uI_c (by omega), uI_c (by omega), uI_c (by omega), uI_c (by omega), uI_c (by omega), uI_c (by omega), uI_c (by omega), uI_c (by omega), uI_c (by omega), uN_I]) ?_
                                  refine Pa.mp 1 (pc' := 40) (l' := [(3, .ref a2), (0, .ref 30), (1, .int yk), (2, .int yn)]) (st' := [.ref a2, .int (yA.1 30 4), .ref 31]) (by rfl) ?_
                                  refine Pa.osts (j' := ((yA.1 30 4).toInt.toNat)) (by rfl) (by rfl) (by rfl) (fun h93 h94 => ?_)
                                  have h93 : 0 ≤ (yA.1 30 4).toInt := h93
                                  have h94 : (yA.1 30 4).toInt < 150 := h94
                                  show Pa N 27 41 [(3, .ref a2), (0, .ref 30), (1, .int yk), (2, .int yn)] [] (uO (uI (uI (uI (uI (uI (uI (uI (uI (uI (uI (uI (uI (uN yA) a2 11 (-1)) a2 0 (yA.1 30 4)) a2 1 yk) a2 2 yn) a2 3 (isUx yk 2)) a2 4 (yA.1 32 0)) a2 5 (yA.1 32 1)) a2 6 (yA.1 32 2)) a2 7 (yA.1 32 3)) a2 8 (yA.1 32 4)) a2 9 (yA.1 32 5)) a2 10 (yA.1 32 6)) 31 ((yA.1 30 4).toInt.toNat) (some a2)) _
                                  refine Pa.mp 1 (pc' := 42) (l' := [(3, .ref a2), (0, .ref 30), (1, .int yk), (2, .int yn)]) (st' := [.ref 30]) (by rfl) ?_
                                  refine Pa.gfR (by rfl) (by rfl) (.inl rfl) (by rfl) ?_
                                  show Pa N 27 45 [(3, .ref a2), (0, .ref 30), (1, .int yk), (2, .int yn)] [.ref 34] (uO (uI (uI (uI (uI (uI (uI (uI (uI (uI (uI (uI (uI (uN yA) a2 11 (-1)) a2 0 (yA.1 30 4)) a2 1 yk) a2 2 yn) a2 3 (isUx yk 2)) a2 4 (yA.1 32 0)) a2 5 (yA.1 32 1)) a2 6 (yA.1 32 2)) a2 7 (yA.1 32 3)) a2 8 (yA.1 32 4)) a2 9 (yA.1 32 5)) a2 10 (yA.1 32 6)) 31 ((yA.1 30 4).toInt.toNat) (some a2)) _
                                  refine Pa.mp 1 (pc' := 46) (l' := [(3, .ref a2), (0, .ref 30), (1, .int yk), (2, .int yn)]) (st' := [.ref a2, .ref 34]) (by rfl) ?_
                                  refine Pa.gfI (v := yA.1 32 0) (by rfl) (by rfl) (.inr rfl) (by rfl) (by show (uO (uI (uI (uI (uI (uI (uI (uI (uI (uI (uI (uI (uI (uN yA) a2 11 (-1)) a2 0 (yA.1 30 4)) a2 1 yk) a2 2 yn) a2 3 (isUx yk 2)) a2 4 (yA.1 32 0)) a2 5 (yA.1 32 1)) a2 6 (yA.1 32 2)) a2 7 (yA.1 32 3)) a2 8 (yA.1 32 4)) a2 9 (yA.1 32 5)) a2 10 (yA.1 32 6)) 31 ((yA.1 30 4).toInt.toNat) (some a2)).1 a2 4 = yA.1 32 0; rw [uO_I, uI_k (by decide), uI_k (by decide), uI_k (by decide), uI_k (by decide), uI_k (by decide), uI_k (by decide), uI_h]) ?_
                                  refine Pa.mp 1 (pc' := 50) (l' := [(3, .ref a2), (0, .ref 30), (1, .int yk), (2, .int yn)]) (st' := [.int (yA.1 32 0), .ref 34, .int (yA.1 32 0), .ref 34]) (by rfl) ?_
                                  refine Pa.alds (v := yA.1 34 ((yA.1 32 0).toInt.toNat)) (by rfl) (by rfl) (by show (uO (uI (uI (uI (uI (uI (uI (uI (uI (uI (uI (uI (uI (uN yA) a2 11 (-1)) a2 0 (yA.1 30 4)) a2 1 yk) a2 2 yn) a2 3 (isUx yk 2)) a2 4 (yA.1 32 0)) a2 5 (yA.1 32 1)) a2 6 (yA.1 32 2)) a2 7 (yA.1 32 3)) a2 8 (yA.1 32 4)) a2 9 (yA.1 32 5)) a2 10 (yA.1 32 6)) 31 ((yA.1 30 4).toInt.toNat) (some a2)).1 34 ((yA.1 32 0).toInt.toNat) = yA.1 34 ((yA.1 32 0).toInt.toNat); rw [uO_I, uI_c (by omega), uI_c (by omega), uI_c (by omega), uI_c (by omega), uI_c (by omega), uI_c (by omega), uI_c (by omega), uI_c (by omega), uI_c (by omega), uI_c (by omega), uI_c (by omega), uI_c (by omega), uN_I]) (fun h95 h96 => ?_)
                                  have h95 : 0 ≤ (yA.1 32 0).toInt := h95
                                  have h96 : (yA.1 32 0).toInt < 20 := h96
                                  refine Pa.ic (x := 1) (pc' := 52) (by rfl) (by rfl) (by decide) ?_
                                  refine Pa.mp 1 (pc' := 53) (l' := [(3, .ref a2), (0, .ref 30), (1, .int yk), (2, .int yn)]) (st' := [.ref a2, .int 1, .int (yA.1 34 ((yA.1 32 0).toInt.toNat)), .int (yA.1 32 0), .ref 34]) (by rfl) ?_
                                  refine Pa.gfI (v := yA.1 32 2) (by rfl) (by rfl) (.inr rfl) (by rfl) (by show (uO (uI (uI (uI (uI (uI (uI (uI (uI (uI (uI (uI (uI (uN yA) a2 11 (-1)) a2 0 (yA.1 30 4)) a2 1 yk) a2 2 yn) a2 3 (isUx yk 2)) a2 4 (yA.1 32 0)) a2 5 (yA.1 32 1)) a2 6 (yA.1 32 2)) a2 7 (yA.1 32 3)) a2 8 (yA.1 32 4)) a2 9 (yA.1 32 5)) a2 10 (yA.1 32 6)) 31 ((yA.1 30 4).toInt.toNat) (some a2)).1 a2 6 = yA.1 32 2; rw [uO_I, uI_k (by decide), uI_k (by decide), uI_k (by decide), uI_k (by decide), uI_h]) ?_
                                  refine Pa.mp 2 (pc' := 58) (l' := [(3, .ref a2), (0, .ref 30), (1, .int yk), (2, .int yn)]) (st' := [.int ((yA.1 34 ((yA.1 32 0).toInt.toNat)) ||| (1 <<< ((yA.1 32 2) &&& 31))), .int (yA.1 32 0), .ref 34]) (by rfl) ?_
                                  refine Pa.asts (j' := ((yA.1 32 0).toInt.toNat)) (by rfl) (by rfl) (by rfl) (fun h97 h98 => ?_)
                                  have h97 : 0 ≤ (yA.1 32 0).toInt := h97
                                  have h98 : (yA.1 32 0).toInt < 20 := h98
                                  show Pa N 27 59 [(3, .ref a2), (0, .ref 30), (1, .int yk), (2, .int yn)] [] (uI (uO (uI (uI (uI (uI (uI (uI (uI (uI (uI (uI (uI (uI (uN yA) a2 11 (-1)) a2 0 (yA.1 30 4)) a2 1 yk) a2 2 yn) a2 3 (isUx yk 2)) a2 4 (yA.1 32 0)) a2 5 (yA.1 32 1)) a2 6 (yA.1 32 2)) a2 7 (yA.1 32 3)) a2 8 (yA.1 32 4)) a2 9 (yA.1 32 5)) a2 10 (yA.1 32 6)) 31 ((yA.1 30 4).toInt.toNat) (some a2)) 34 ((yA.1 32 0).toInt.toNat) ((yA.1 34 ((yA.1 32 0).toInt.toNat)) ||| (1 <<< ((yA.1 32 2) &&& 31)))) _
                                  refine Pa.mp 2 (pc' := 61) (l' := [(3, .ref a2), (0, .ref 30), (1, .int yk), (2, .int yn)]) (st' := [.ref 30, .ref 30]) (by rfl) ?_
                                  refine Pa.gfI (v := yA.1 30 4) (by rfl) (by rfl) (.inl rfl) (by rfl) (by show (uI (uO (uI (uI (uI (uI (uI (uI (uI (uI (uI (uI (uI (uI (uN yA) a2 11 (-1)) a2 0 (yA.1 30 4)) a2 1 yk) a2 2 yn) a2 3 (isUx yk 2)) a2 4 (yA.1 32 0)) a2 5 (yA.1 32 1)) a2 6 (yA.1 32 2)) a2 7 (yA.1 32 3)) a2 8 (yA.1 32 4)) a2 9 (yA.1 32 5)) a2 10 (yA.1 32 6)) 31 ((yA.1 30 4).toInt.toNat) (some a2)) 34 ((yA.1 32 0).toInt.toNat) ((yA.1 34 ((yA.1 32 0).toInt.toNat)) ||| (1 <<< ((yA.1 32 2) &&& 31)))).1 30 4 = yA.1 30 4; rw [uI_c (by decide), uO_I, uI_c (by omega), uI_c (by omega), uI_c (by omega), uI_c (by omega), uI_c (by omega), uI_c (by omega), uI_c (by omega), uI_c (by omega), uI_c (by omega), uI_c (by omega), uI_c (by omega), uI_c (by omega), uN_I]) ?_
                                  refine Pa.ic (x := 1) (pc' := 65) (by rfl) (by rfl) (by decide) ?_
                                  refine Pa.mp 1 (pc' := 66) (l' := [(3, .ref a2), (0, .ref 30), (1, .int yk), (2, .int yn)]) (st' := [.int ((yA.1 30 4) + 1), .ref 30]) (by rfl) ?_
                                  refine Pa.pfI (by rfl) (by rfl) (.inl rfl) (by rfl) ?_
                                  show Pa N 27 69 [(3, .ref a2), (0, .ref 30), (1, .int yk), (2, .int yn)] [] (uI (uI (uO (uI (uI (uI (uI (uI (uI (uI (uI (uI (uI (uI (uI (uN yA) a2 11 (-1)) a2 0 (yA.1 30 4)) a2 1 yk) a2 2 yn) a2 3 (isUx yk 2)) a2 4 (yA.1 32 0)) a2 5 (yA.1 32 1)) a2 6 (yA.1 32 2)) a2 7 (yA.1 32 3)) a2 8 (yA.1 32 4)) a2 9 (yA.1 32 5)) a2 10 (yA.1 32 6)) 31 ((yA.1 30 4).toInt.toNat) (some a2)) 34 ((yA.1 32 0).toInt.toNat) ((yA.1 34 ((yA.1 32 0).toInt.toNat)) ||| (1 <<< ((yA.1 32 2) &&& 31)))) 30 4 ((yA.1 30 4) + 1)) _
                                  refine Pa.mp 1 (pc' := 70) (l' := [(3, .ref a2), (0, .ref 30), (1, .int yk), (2, .int yn)]) (st' := [.ref 30]) (by rfl) ?_
                                  refine Pa.gfI (v := (yA.1 30 4) + 1) (by rfl) (by rfl) (.inl rfl) (by rfl) (by show (uI (uI (uO (uI (uI (uI (uI (uI (uI (uI (uI (uI (uI (uI (uI (uN yA) a2 11 (-1)) a2 0 (yA.1 30 4)) a2 1 yk) a2 2 yn) a2 3 (isUx yk 2)) a2 4 (yA.1 32 0)) a2 5 (yA.1 32 1)) a2 6 (yA.1 32 2)) a2 7 (yA.1 32 3)) a2 8 (yA.1 32 4)) a2 9 (yA.1 32 5)) a2 10 (yA.1 32 6)) 31 ((yA.1 30 4).toInt.toNat) (some a2)) 34 ((yA.1 32 0).toInt.toNat) ((yA.1 34 ((yA.1 32 0).toInt.toNat)) ||| (1 <<< ((yA.1 32 2) &&& 31)))) 30 4 ((yA.1 30 4) + 1)).1 30 4 = (yA.1 30 4) + 1; rw [uI_h]) ?_
                                  refine Pa.ic (x := 1) (pc' := 74) (by rfl) (by rfl) (by decide) ?_
                                  refine Pa.mp 1 (pc' := 75) (l' := [(3, .ref a2), (0, .ref 30), (1, .int yk), (2, .int yn)]) (st' := [.int (((yA.1 30 4) + 1) - 1)]) (by rfl) ?_
                                  refine Pa.iret (by rfl) ?_
                                  show Pa N 112 39 [(0, .ref 0), (1, .int yk), (2, .int yn)] [.int (((yA.1 30 4) + 1) - 1)] (uI (uI (uO (uI (uI (uI (uI (uI (uI (uI (uI (uI (uI (uI (uI (uN yA) a2 11 (-1)) a2 0 (yA.1 30 4)) a2 1 yk) a2 2 yn) a2 3 (isUx yk 2)) a2 4 (yA.1 32 0)) a2 5 (yA.1 32 1)) a2 6 (yA.1 32 2)) a2 7 (yA.1 32 3)) a2 8 (yA.1 32 4)) a2 9 (yA.1 32 5)) a2 10 (yA.1 32 6)) 31 ((yA.1 30 4).toInt.toNat) (some a2)) 34 ((yA.1 32 0).toInt.toNat) ((yA.1 34 ((yA.1 32 0).toInt.toNat)) ||| (1 <<< ((yA.1 32 2) &&& 31)))) 30 4 ((yA.1 30 4) + 1)) _
                                  refine Pa.iret (by rfl) ?_
                                  exact l16 h2 h4 h6 h8 h12 h14 h18 h19 h24 h26 h29 h34 h37 h42 h72 h74 h75 a2 h77 h78 h93
                                · have h76 : 150 ≤ (yA.1 30 4).toInt := h76
                                  refine Pa.ic (x := (-2)) (pc' := 12) (by rfl) (by rfl) (by decide) ?_
                                  refine Pa.iret (by rfl) ?_
                                  show Pa N 112 39 [(0, .ref 0), (1, .int yk), (2, .int yn)] [.int (-2)] yA _
                                  refine Pa.iret (by rfl) ?_
                                  exact l17 h2 h4 h6 h8 h12 h14 h18 h19 h24 h26 h29 h34 h37 h42 h72 h74 h76
                        · have h38 : 19 < (yA.1 32 6).toInt := h38
                          refine Pa.ic (x := 0) (pc' := 106) (by rfl) (by rfl) (by decide) ?_
                          refine Pa.iret (by rfl) ?_
                          show Pa N 112 25 [(0, .ref 0), (1, .int yk), (2, .int yn)] [.int 0] yA _
                          refine Pa.if1k false (by rfl) (by rfl) (by decide) ?_
                          show Pa N 112 28 [(0, .ref 0), (1, .int yk), (2, .int yn)] [] yA _
                          refine Pa.ic (x := (-1)) (pc' := 29) (by rfl) (by rfl) (by decide) ?_
                          refine Pa.iret (by rfl) ?_
                          exact l18 h2 h4 h6 h8 h12 h14 h18 h19 h24 h26 h29 h34 h38
                    · have h30 : (yA.1 0 10).toInt < (yA.1 32 3).toInt := h30
                      refine Pa.ic (x := 0) (pc' := 76) (by rfl) (by rfl) (by decide) ?_
                      refine Pa.iret (by rfl) ?_
                      show Pa N 112 25 [(0, .ref 0), (1, .int yk), (2, .int yn)] [.int 0] yA _
                      refine Pa.if1k false (by rfl) (by rfl) (by decide) ?_
                      show Pa N 112 28 [(0, .ref 0), (1, .int yk), (2, .int yn)] [] yA _
                      refine Pa.ic (x := (-1)) (pc' := 29) (by rfl) (by rfl) (by decide) ?_
                      refine Pa.iret (by rfl) ?_
                      exact l19 h2 h4 h6 h8 h12 h14 h18 h19 h24 h26 h30
              · have h20 : (yA.1 7 ((yA.1 32 0).toInt.toNat)).toInt ≤ (yA.1 32 1).toInt := h20
                refine Pa.ic (x := 0) (pc' := 43) (by rfl) (by rfl) (by decide) ?_
                refine Pa.iret (by rfl) ?_
                show Pa N 112 25 [(0, .ref 0), (1, .int yk), (2, .int yn)] [.int 0] yA _
                refine Pa.if1k false (by rfl) (by rfl) (by decide) ?_
                show Pa N 112 28 [(0, .ref 0), (1, .int yk), (2, .int yn)] [] yA _
                refine Pa.ic (x := (-1)) (pc' := 29) (by rfl) (by rfl) (by decide) ?_
                refine Pa.iret (by rfl) ?_
                exact l20 h2 h4 h6 h8 h12 h14 h18 h20
theorem bm_cost {N : Nat} {yA : AW} {yQ : Option Value → AW → Prop} (yk yn : Int32)
    (l1 : yk.toInt < 1 → yQ (some (.int (-1))) yA)
    (l2 : 1 ≤ yk.toInt → 6 < yk.toInt → yQ (some (.int (-1))) yA)
    (l3 : 1 ≤ yk.toInt → yk.toInt ≤ 6 → yn.toInt < 1 → yQ (some (.int (-1))) yA)
    (l4 : 1 ≤ yk.toInt → yk.toInt ≤ 6 → 1 ≤ yn.toInt → 99999 < yn.toInt → yQ (some (.int (-1))) yA)
    (l5 : 1 ≤ yk.toInt → yk.toInt ≤ 6 → 1 ≤ yn.toInt → yn.toInt ≤ 99999 → (yA.1 88 0).toInt < 0 → yQ (some (.int (-1))) yA)
    (l6 : 1 ≤ yk.toInt → yk.toInt ≤ 6 → 1 ≤ yn.toInt → yn.toInt ≤ 99999 → 0 ≤ (yA.1 88 0).toInt → (yA.1 69 11).toInt ≤ (yA.1 88 0).toInt → yQ (some (.int (-1))) yA)
    (l7 : 1 ≤ yk.toInt → yk.toInt ≤ 6 → 1 ≤ yn.toInt → yn.toInt ≤ 99999 → 0 ≤ (yA.1 88 0).toInt → (yA.1 88 0).toInt < (yA.1 69 11).toInt → (yA.1 88 0).toInt < 20 → (yA.1 77 ((yA.1 88 0).toInt.toNat)).toInt ≤ (yA.1 88 1).toInt → yQ (some (.int (-1))) yA)
    (l8 : 1 ≤ yk.toInt → yk.toInt ≤ 6 → 1 ≤ yn.toInt → yn.toInt ≤ 99999 → 0 ≤ (yA.1 88 0).toInt → (yA.1 88 0).toInt < (yA.1 69 11).toInt → (yA.1 88 0).toInt < 20 → (yA.1 88 1).toInt < (yA.1 77 ((yA.1 88 0).toInt.toNat)).toInt → (yA.1 88 2).toInt < 0 → yQ (some (.int (-1))) yA)
    (l9 : 1 ≤ yk.toInt → yk.toInt ≤ 6 → 1 ≤ yn.toInt → yn.toInt ≤ 99999 → 0 ≤ (yA.1 88 0).toInt → (yA.1 88 0).toInt < (yA.1 69 11).toInt → (yA.1 88 0).toInt < 20 → (yA.1 88 1).toInt < (yA.1 77 ((yA.1 88 0).toInt.toNat)).toInt → 0 ≤ (yA.1 88 2).toInt → 5 < (yA.1 88 2).toInt → yQ (some (.int (-1))) yA)
    (l10 : 1 ≤ yk.toInt → yk.toInt ≤ 6 → 1 ≤ yn.toInt → yn.toInt ≤ 99999 → 0 ≤ (yA.1 88 0).toInt → (yA.1 88 0).toInt < (yA.1 69 11).toInt → (yA.1 88 0).toInt < 20 → (yA.1 88 1).toInt < (yA.1 77 ((yA.1 88 0).toInt.toNat)).toInt → 0 ≤ (yA.1 88 2).toInt → (yA.1 88 2).toInt ≤ 5 → (yA.1 69 0).toInt < (yA.1 88 3).toInt → yQ (some (.int (-1))) yA)
    (l11 : 1 ≤ yk.toInt → yk.toInt ≤ 6 → 1 ≤ yn.toInt → yn.toInt ≤ 99999 → 0 ≤ (yA.1 88 0).toInt → (yA.1 88 0).toInt < (yA.1 69 11).toInt → (yA.1 88 0).toInt < 20 → (yA.1 88 1).toInt < (yA.1 77 ((yA.1 88 0).toInt.toNat)).toInt → 0 ≤ (yA.1 88 2).toInt → (yA.1 88 2).toInt ≤ 5 → (yA.1 88 3).toInt ≤ (yA.1 69 0).toInt → yk.toInt = 2 → (yA.1 88 4).toInt < 0 → yQ (some (.int (-1))) yA)
    (l12 : 1 ≤ yk.toInt → yk.toInt ≤ 6 → 1 ≤ yn.toInt → yn.toInt ≤ 99999 → 0 ≤ (yA.1 88 0).toInt → (yA.1 88 0).toInt < (yA.1 69 11).toInt → (yA.1 88 0).toInt < 20 → (yA.1 88 1).toInt < (yA.1 77 ((yA.1 88 0).toInt.toNat)).toInt → 0 ≤ (yA.1 88 2).toInt → (yA.1 88 2).toInt ≤ 5 → (yA.1 88 3).toInt ≤ (yA.1 69 0).toInt → yk.toInt = 2 → 0 ≤ (yA.1 88 4).toInt → (yA.1 69 7).toInt ≤ (yA.1 88 4).toInt → yQ (some (.int (-1))) yA)
    (l13 : 1 ≤ yk.toInt → yk.toInt ≤ 6 → 1 ≤ yn.toInt → yn.toInt ≤ 99999 → 0 ≤ (yA.1 88 0).toInt → (yA.1 88 0).toInt < (yA.1 69 11).toInt → (yA.1 88 0).toInt < 20 → (yA.1 88 1).toInt < (yA.1 77 ((yA.1 88 0).toInt.toNat)).toInt → 0 ≤ (yA.1 88 2).toInt → (yA.1 88 2).toInt ≤ 5 → (yA.1 88 3).toInt ≤ (yA.1 69 0).toInt → yk.toInt = 2 → 0 ≤ (yA.1 88 4).toInt → (yA.1 88 4).toInt < (yA.1 69 7).toInt → (yA.1 88 5).toInt < 1 → yQ (some (.int (-1))) yA)
    (l14 : 1 ≤ yk.toInt → yk.toInt ≤ 6 → 1 ≤ yn.toInt → yn.toInt ≤ 99999 → 0 ≤ (yA.1 88 0).toInt → (yA.1 88 0).toInt < (yA.1 69 11).toInt → (yA.1 88 0).toInt < 20 → (yA.1 88 1).toInt < (yA.1 77 ((yA.1 88 0).toInt.toNat)).toInt → 0 ≤ (yA.1 88 2).toInt → (yA.1 88 2).toInt ≤ 5 → (yA.1 88 3).toInt ≤ (yA.1 69 0).toInt → yk.toInt = 2 → 0 ≤ (yA.1 88 4).toInt → (yA.1 88 4).toInt < (yA.1 69 7).toInt → 1 ≤ (yA.1 88 5).toInt → (yA.1 88 6).toInt ≤ 19 → Pa N 179 165 [(0, .ref 69), (1, .int yk), (2, .int yn), (3, .int 1)] [] yA yQ)
    (l15 : 1 ≤ yk.toInt → yk.toInt ≤ 6 → 1 ≤ yn.toInt → yn.toInt ≤ 99999 → 0 ≤ (yA.1 88 0).toInt → (yA.1 88 0).toInt < (yA.1 69 11).toInt → (yA.1 88 0).toInt < 20 → (yA.1 88 1).toInt < (yA.1 77 ((yA.1 88 0).toInt.toNat)).toInt → 0 ≤ (yA.1 88 2).toInt → (yA.1 88 2).toInt ≤ 5 → (yA.1 88 3).toInt ≤ (yA.1 69 0).toInt → yk.toInt = 2 → 0 ≤ (yA.1 88 4).toInt → (yA.1 88 4).toInt < (yA.1 69 7).toInt → 1 ≤ (yA.1 88 5).toInt → 19 < (yA.1 88 6).toInt → yQ (some (.int (-1))) yA)
    (l16 : 1 ≤ yk.toInt → yk.toInt ≤ 6 → 1 ≤ yn.toInt → yn.toInt ≤ 99999 → 0 ≤ (yA.1 88 0).toInt → (yA.1 88 0).toInt < (yA.1 69 11).toInt → (yA.1 88 0).toInt < 20 → (yA.1 88 1).toInt < (yA.1 77 ((yA.1 88 0).toInt.toNat)).toInt → 0 ≤ (yA.1 88 2).toInt → (yA.1 88 2).toInt ≤ 5 → (yA.1 88 3).toInt ≤ (yA.1 69 0).toInt → yk.toInt ≠ 2 → yk.toInt = 3 → (yA.1 88 4).toInt < 0 → yQ (some (.int (-1))) yA)
    (l17 : 1 ≤ yk.toInt → yk.toInt ≤ 6 → 1 ≤ yn.toInt → yn.toInt ≤ 99999 → 0 ≤ (yA.1 88 0).toInt → (yA.1 88 0).toInt < (yA.1 69 11).toInt → (yA.1 88 0).toInt < 20 → (yA.1 88 1).toInt < (yA.1 77 ((yA.1 88 0).toInt.toNat)).toInt → 0 ≤ (yA.1 88 2).toInt → (yA.1 88 2).toInt ≤ 5 → (yA.1 88 3).toInt ≤ (yA.1 69 0).toInt → yk.toInt ≠ 2 → yk.toInt = 3 → 0 ≤ (yA.1 88 4).toInt → (yA.1 69 7).toInt ≤ (yA.1 88 4).toInt → yQ (some (.int (-1))) yA)
    (l18 : 1 ≤ yk.toInt → yk.toInt ≤ 6 → 1 ≤ yn.toInt → yn.toInt ≤ 99999 → 0 ≤ (yA.1 88 0).toInt → (yA.1 88 0).toInt < (yA.1 69 11).toInt → (yA.1 88 0).toInt < 20 → (yA.1 88 1).toInt < (yA.1 77 ((yA.1 88 0).toInt.toNat)).toInt → 0 ≤ (yA.1 88 2).toInt → (yA.1 88 2).toInt ≤ 5 → (yA.1 88 3).toInt ≤ (yA.1 69 0).toInt → yk.toInt ≠ 2 → yk.toInt = 3 → 0 ≤ (yA.1 88 4).toInt → (yA.1 88 4).toInt < (yA.1 69 7).toInt → (yA.1 88 5).toInt < 1 → yQ (some (.int (-1))) yA)
    (l19 : 1 ≤ yk.toInt → yk.toInt ≤ 6 → 1 ≤ yn.toInt → yn.toInt ≤ 99999 → 0 ≤ (yA.1 88 0).toInt → (yA.1 88 0).toInt < (yA.1 69 11).toInt → (yA.1 88 0).toInt < 20 → (yA.1 88 1).toInt < (yA.1 77 ((yA.1 88 0).toInt.toNat)).toInt → 0 ≤ (yA.1 88 2).toInt → (yA.1 88 2).toInt ≤ 5 → (yA.1 88 3).toInt ≤ (yA.1 69 0).toInt → yk.toInt ≠ 2 → yk.toInt = 3 → 0 ≤ (yA.1 88 4).toInt → (yA.1 88 4).toInt < (yA.1 69 7).toInt → 1 ≤ (yA.1 88 5).toInt → (yA.1 88 6).toInt ≤ 19 → Pa N 179 165 [(0, .ref 69), (1, .int yk), (2, .int yn), (3, .int 1)] [] yA yQ)
    (l20 : 1 ≤ yk.toInt → yk.toInt ≤ 6 → 1 ≤ yn.toInt → yn.toInt ≤ 99999 → 0 ≤ (yA.1 88 0).toInt → (yA.1 88 0).toInt < (yA.1 69 11).toInt → (yA.1 88 0).toInt < 20 → (yA.1 88 1).toInt < (yA.1 77 ((yA.1 88 0).toInt.toNat)).toInt → 0 ≤ (yA.1 88 2).toInt → (yA.1 88 2).toInt ≤ 5 → (yA.1 88 3).toInt ≤ (yA.1 69 0).toInt → yk.toInt ≠ 2 → yk.toInt = 3 → 0 ≤ (yA.1 88 4).toInt → (yA.1 88 4).toInt < (yA.1 69 7).toInt → 1 ≤ (yA.1 88 5).toInt → 19 < (yA.1 88 6).toInt → yQ (some (.int (-1))) yA)
    (l21 : 1 ≤ yk.toInt → yk.toInt ≤ 6 → 1 ≤ yn.toInt → yn.toInt ≤ 99999 → 0 ≤ (yA.1 88 0).toInt → (yA.1 88 0).toInt < (yA.1 69 11).toInt → (yA.1 88 0).toInt < 20 → (yA.1 88 1).toInt < (yA.1 77 ((yA.1 88 0).toInt.toNat)).toInt → 0 ≤ (yA.1 88 2).toInt → (yA.1 88 2).toInt ≤ 5 → (yA.1 88 3).toInt ≤ (yA.1 69 0).toInt → yk.toInt ≠ 2 → yk.toInt ≠ 3 → yk.toInt ≠ 5 → (yA.1 88 4).toInt < 0 → yQ (some (.int (-1))) yA)
    (l22 : 1 ≤ yk.toInt → yk.toInt ≤ 6 → 1 ≤ yn.toInt → yn.toInt ≤ 99999 → 0 ≤ (yA.1 88 0).toInt → (yA.1 88 0).toInt < (yA.1 69 11).toInt → (yA.1 88 0).toInt < 20 → (yA.1 88 1).toInt < (yA.1 77 ((yA.1 88 0).toInt.toNat)).toInt → 0 ≤ (yA.1 88 2).toInt → (yA.1 88 2).toInt ≤ 5 → (yA.1 88 3).toInt ≤ (yA.1 69 0).toInt → yk.toInt ≠ 2 → yk.toInt ≠ 3 → yk.toInt ≠ 5 → 0 ≤ (yA.1 88 4).toInt → (yA.1 69 13).toInt ≤ (yA.1 88 4).toInt → yQ (some (.int (-1))) yA)
    (l23 : 1 ≤ yk.toInt → yk.toInt ≤ 6 → 1 ≤ yn.toInt → yn.toInt ≤ 99999 → 0 ≤ (yA.1 88 0).toInt → (yA.1 88 0).toInt < (yA.1 69 11).toInt → (yA.1 88 0).toInt < 20 → (yA.1 88 1).toInt < (yA.1 77 ((yA.1 88 0).toInt.toNat)).toInt → 0 ≤ (yA.1 88 2).toInt → (yA.1 88 2).toInt ≤ 5 → (yA.1 88 3).toInt ≤ (yA.1 69 0).toInt → yk.toInt ≠ 2 → yk.toInt ≠ 3 → yk.toInt ≠ 5 → 0 ≤ (yA.1 88 4).toInt → (yA.1 88 4).toInt < (yA.1 69 13).toInt → (yA.1 88 5).toInt < 1 → yQ (some (.int (-1))) yA)
    (l24 : 1 ≤ yk.toInt → yk.toInt ≤ 6 → 1 ≤ yn.toInt → yn.toInt ≤ 99999 → 0 ≤ (yA.1 88 0).toInt → (yA.1 88 0).toInt < (yA.1 69 11).toInt → (yA.1 88 0).toInt < 20 → (yA.1 88 1).toInt < (yA.1 77 ((yA.1 88 0).toInt.toNat)).toInt → 0 ≤ (yA.1 88 2).toInt → (yA.1 88 2).toInt ≤ 5 → (yA.1 88 3).toInt ≤ (yA.1 69 0).toInt → yk.toInt ≠ 2 → yk.toInt ≠ 3 → yk.toInt ≠ 5 → 0 ≤ (yA.1 88 4).toInt → (yA.1 88 4).toInt < (yA.1 69 13).toInt → 1 ≤ (yA.1 88 5).toInt → (yA.1 88 6).toInt ≤ 19 → Pa N 179 165 [(0, .ref 69), (1, .int yk), (2, .int yn), (3, .int 1)] [] yA yQ)
    (l25 : 1 ≤ yk.toInt → yk.toInt ≤ 6 → 1 ≤ yn.toInt → yn.toInt ≤ 99999 → 0 ≤ (yA.1 88 0).toInt → (yA.1 88 0).toInt < (yA.1 69 11).toInt → (yA.1 88 0).toInt < 20 → (yA.1 88 1).toInt < (yA.1 77 ((yA.1 88 0).toInt.toNat)).toInt → 0 ≤ (yA.1 88 2).toInt → (yA.1 88 2).toInt ≤ 5 → (yA.1 88 3).toInt ≤ (yA.1 69 0).toInt → yk.toInt ≠ 2 → yk.toInt ≠ 3 → yk.toInt ≠ 5 → 0 ≤ (yA.1 88 4).toInt → (yA.1 88 4).toInt < (yA.1 69 13).toInt → 1 ≤ (yA.1 88 5).toInt → 19 < (yA.1 88 6).toInt → yQ (some (.int (-1))) yA)
    (l26 : 1 ≤ yk.toInt → yk.toInt ≤ 6 → 1 ≤ yn.toInt → yn.toInt ≤ 99999 → 0 ≤ (yA.1 88 0).toInt → (yA.1 88 0).toInt < (yA.1 69 11).toInt → (yA.1 88 0).toInt < 20 → (yA.1 88 1).toInt < (yA.1 77 ((yA.1 88 0).toInt.toNat)).toInt → 0 ≤ (yA.1 88 2).toInt → (yA.1 88 2).toInt ≤ 5 → (yA.1 88 3).toInt ≤ (yA.1 69 0).toInt → yk.toInt ≠ 2 → yk.toInt ≠ 3 → yk.toInt = 5 → (yA.1 88 4).toInt < 0 → yQ (some (.int (-1))) yA)
    (l27 : 1 ≤ yk.toInt → yk.toInt ≤ 6 → 1 ≤ yn.toInt → yn.toInt ≤ 99999 → 0 ≤ (yA.1 88 0).toInt → (yA.1 88 0).toInt < (yA.1 69 11).toInt → (yA.1 88 0).toInt < 20 → (yA.1 88 1).toInt < (yA.1 77 ((yA.1 88 0).toInt.toNat)).toInt → 0 ≤ (yA.1 88 2).toInt → (yA.1 88 2).toInt ≤ 5 → (yA.1 88 3).toInt ≤ (yA.1 69 0).toInt → yk.toInt ≠ 2 → yk.toInt ≠ 3 → yk.toInt = 5 → 0 ≤ (yA.1 88 4).toInt → (yA.1 69 7).toInt ≤ (yA.1 88 4).toInt → yQ (some (.int (-1))) yA)
    (l28 : 1 ≤ yk.toInt → yk.toInt ≤ 6 → 1 ≤ yn.toInt → yn.toInt ≤ 99999 → 0 ≤ (yA.1 88 0).toInt → (yA.1 88 0).toInt < (yA.1 69 11).toInt → (yA.1 88 0).toInt < 20 → (yA.1 88 1).toInt < (yA.1 77 ((yA.1 88 0).toInt.toNat)).toInt → 0 ≤ (yA.1 88 2).toInt → (yA.1 88 2).toInt ≤ 5 → (yA.1 88 3).toInt ≤ (yA.1 69 0).toInt → yk.toInt ≠ 2 → yk.toInt ≠ 3 → yk.toInt = 5 → 0 ≤ (yA.1 88 4).toInt → (yA.1 88 4).toInt < (yA.1 69 7).toInt → (yA.1 88 5).toInt < 1 → yQ (some (.int (-1))) yA)
    (l29 : 1 ≤ yk.toInt → yk.toInt ≤ 6 → 1 ≤ yn.toInt → yn.toInt ≤ 99999 → 0 ≤ (yA.1 88 0).toInt → (yA.1 88 0).toInt < (yA.1 69 11).toInt → (yA.1 88 0).toInt < 20 → (yA.1 88 1).toInt < (yA.1 77 ((yA.1 88 0).toInt.toNat)).toInt → 0 ≤ (yA.1 88 2).toInt → (yA.1 88 2).toInt ≤ 5 → (yA.1 88 3).toInt ≤ (yA.1 69 0).toInt → yk.toInt ≠ 2 → yk.toInt ≠ 3 → yk.toInt = 5 → 0 ≤ (yA.1 88 4).toInt → (yA.1 88 4).toInt < (yA.1 69 7).toInt → 1 ≤ (yA.1 88 5).toInt → (yA.1 88 6).toInt ≤ 19 → Pa N 179 165 [(0, .ref 69), (1, .int yk), (2, .int yn), (3, .int 1)] [] yA yQ)
    (l30 : 1 ≤ yk.toInt → yk.toInt ≤ 6 → 1 ≤ yn.toInt → yn.toInt ≤ 99999 → 0 ≤ (yA.1 88 0).toInt → (yA.1 88 0).toInt < (yA.1 69 11).toInt → (yA.1 88 0).toInt < 20 → (yA.1 88 1).toInt < (yA.1 77 ((yA.1 88 0).toInt.toNat)).toInt → 0 ≤ (yA.1 88 2).toInt → (yA.1 88 2).toInt ≤ 5 → (yA.1 88 3).toInt ≤ (yA.1 69 0).toInt → yk.toInt ≠ 2 → yk.toInt ≠ 3 → yk.toInt = 5 → 0 ≤ (yA.1 88 4).toInt → (yA.1 88 4).toInt < (yA.1 69 7).toInt → 1 ≤ (yA.1 88 5).toInt → 19 < (yA.1 88 6).toInt → yQ (some (.int (-1))) yA) :
    Pa N 179 0 [(0, .ref 69), (1, .int yk), (2, .int yn)] [] yA yQ := by
  refine Pa.mp 1 (pc' := 1) (l' := [(0, .ref 69), (1, .int yk), (2, .int yn)]) (st' := [.int yk]) (by rfl) ?_
  refine Pa.ic (x := 1) (pc' := 2) (by rfl) (by rfl) (by decide) ?_
  refine Pa.ic (x := 6) (pc' := 4) (by rfl) (by rfl) (by decide) ?_
  refine Pa.ist (by rfl) (by rfl) (.inl rfl) (by rfl) (by rfl) ?_
  show Pa N 152 0 [(0, .int yk), (1, .int 1), (2, .int 6)] [] yA _
  refine Pa.mp 2 (pc' := 2) (l' := [(0, .int yk), (1, .int 1), (2, .int 6)]) (st' := [.int 1, .int yk]) (by rfl) ?_
  refine Pa.if2 (a := yk.toInt) (b := 1) (t := 14) (by rfl) (by rfl) (rfl) (by decide) (fun h1 => ?_) (fun h2 => ?_)
  · have h1 : yk.toInt < 1 := h1
    refine Pa.ic (x := 0) (pc' := 15) (by rfl) (by rfl) (by decide) ?_
    refine Pa.iret (by rfl) ?_
    show Pa N 179 7 [(0, .ref 69), (1, .int yk), (2, .int yn)] [.int 0] yA _
    refine Pa.if1k true (by rfl) (by rfl) (by decide) ?_
    show Pa N 179 99 [(0, .ref 69), (1, .int yk), (2, .int yn)] [] yA _
    refine Pa.ic (x := 0) (pc' := 100) (by rfl) (by rfl) (by decide) ?_
    refine Pa.mp 2 (pc' := 102) (l' := [(3, .int 0), (0, .ref 69), (1, .int yk), (2, .int yn)]) (st' := [.int 0]) (by rfl) ?_
    refine Pa.if1k true (by rfl) (by rfl) (by decide) ?_
    show Pa N 179 163 [(3, .int 0), (0, .ref 69), (1, .int yk), (2, .int yn)] [] yA _
    refine Pa.ic (x := (-1)) (pc' := 164) (by rfl) (by rfl) (by decide) ?_
    refine Pa.iret (by rfl) ?_
    exact l1 h1
  · have h2 : 1 ≤ yk.toInt := h2
    refine Pa.mp 2 (pc' := 7) (l' := [(0, .int yk), (1, .int 1), (2, .int 6)]) (st' := [.int 6, .int yk]) (by rfl) ?_
    refine Pa.if2 (a := yk.toInt) (b := 6) (t := 14) (by rfl) (by rfl) (rfl) (by decide) (fun h3 => ?_) (fun h4 => ?_)
    · have h3 : 6 < yk.toInt := h3
      refine Pa.ic (x := 0) (pc' := 15) (by rfl) (by rfl) (by decide) ?_
      refine Pa.iret (by rfl) ?_
      show Pa N 179 7 [(0, .ref 69), (1, .int yk), (2, .int yn)] [.int 0] yA _
      refine Pa.if1k true (by rfl) (by rfl) (by decide) ?_
      show Pa N 179 99 [(0, .ref 69), (1, .int yk), (2, .int yn)] [] yA _
      refine Pa.ic (x := 0) (pc' := 100) (by rfl) (by rfl) (by decide) ?_
      refine Pa.mp 2 (pc' := 102) (l' := [(3, .int 0), (0, .ref 69), (1, .int yk), (2, .int yn)]) (st' := [.int 0]) (by rfl) ?_
      refine Pa.if1k true (by rfl) (by rfl) (by decide) ?_
      show Pa N 179 163 [(3, .int 0), (0, .ref 69), (1, .int yk), (2, .int yn)] [] yA _
      refine Pa.ic (x := (-1)) (pc' := 164) (by rfl) (by rfl) (by decide) ?_
      refine Pa.iret (by rfl) ?_
      exact l2 h2 h3
    · have h4 : yk.toInt ≤ 6 := h4
      refine Pa.ic (x := 1) (pc' := 11) (by rfl) (by rfl) (by decide) ?_
      refine Pa.mp 1 (pc' := 15) (l' := [(0, .int yk), (1, .int 1), (2, .int 6)]) (st' := [.int 1]) (by rfl) ?_
      refine Pa.iret (by rfl) ?_
      show Pa N 179 7 [(0, .ref 69), (1, .int yk), (2, .int yn)] [.int 1] yA _
      refine Pa.if1k false (by rfl) (by rfl) (by decide) ?_
      show Pa N 179 10 [(0, .ref 69), (1, .int yk), (2, .int yn)] [] yA _
      refine Pa.mp 1 (pc' := 11) (l' := [(0, .ref 69), (1, .int yk), (2, .int yn)]) (st' := [.int yn]) (by rfl) ?_
      refine Pa.ic (x := 1) (pc' := 12) (by rfl) (by rfl) (by decide) ?_
      refine Pa.icl (x := 99999) (pc' := 14) (by rfl) (fun _ _ _ => by rfl) (by decide) ?_
      refine Pa.ist (by rfl) (by rfl) (.inl rfl) (by rfl) (by rfl) ?_
      show Pa N 152 0 [(0, .int yn), (1, .int 1), (2, .int 99999)] [] yA _
      refine Pa.mp 2 (pc' := 2) (l' := [(0, .int yn), (1, .int 1), (2, .int 99999)]) (st' := [.int 1, .int yn]) (by rfl) ?_
      refine Pa.if2 (a := yn.toInt) (b := 1) (t := 14) (by rfl) (by rfl) (rfl) (by decide) (fun h5 => ?_) (fun h6 => ?_)
      · have h5 : yn.toInt < 1 := h5
        refine Pa.ic (x := 0) (pc' := 15) (by rfl) (by rfl) (by decide) ?_
        refine Pa.iret (by rfl) ?_
        show Pa N 179 17 [(0, .ref 69), (1, .int yk), (2, .int yn)] [.int 0] yA _
        refine Pa.if1k true (by rfl) (by rfl) (by decide) ?_
        show Pa N 179 99 [(0, .ref 69), (1, .int yk), (2, .int yn)] [] yA _
        refine Pa.ic (x := 0) (pc' := 100) (by rfl) (by rfl) (by decide) ?_
        refine Pa.mp 2 (pc' := 102) (l' := [(3, .int 0), (0, .ref 69), (1, .int yk), (2, .int yn)]) (st' := [.int 0]) (by rfl) ?_
        refine Pa.if1k true (by rfl) (by rfl) (by decide) ?_
        show Pa N 179 163 [(3, .int 0), (0, .ref 69), (1, .int yk), (2, .int yn)] [] yA _
        refine Pa.ic (x := (-1)) (pc' := 164) (by rfl) (by rfl) (by decide) ?_
        refine Pa.iret (by rfl) ?_
        exact l3 h2 h4 h5
      · have h6 : 1 ≤ yn.toInt := h6
        refine Pa.mp 2 (pc' := 7) (l' := [(0, .int yn), (1, .int 1), (2, .int 99999)]) (st' := [.int 99999, .int yn]) (by rfl) ?_
        refine Pa.if2 (a := yn.toInt) (b := 99999) (t := 14) (by rfl) (by rfl) (rfl) (by decide) (fun h7 => ?_) (fun h8 => ?_)
        · have h7 : 99999 < yn.toInt := h7
          refine Pa.ic (x := 0) (pc' := 15) (by rfl) (by rfl) (by decide) ?_
          refine Pa.iret (by rfl) ?_
          show Pa N 179 17 [(0, .ref 69), (1, .int yk), (2, .int yn)] [.int 0] yA _
          refine Pa.if1k true (by rfl) (by rfl) (by decide) ?_
          show Pa N 179 99 [(0, .ref 69), (1, .int yk), (2, .int yn)] [] yA _
          refine Pa.ic (x := 0) (pc' := 100) (by rfl) (by rfl) (by decide) ?_
          refine Pa.mp 2 (pc' := 102) (l' := [(3, .int 0), (0, .ref 69), (1, .int yk), (2, .int yn)]) (st' := [.int 0]) (by rfl) ?_
          refine Pa.if1k true (by rfl) (by rfl) (by decide) ?_
          show Pa N 179 163 [(3, .int 0), (0, .ref 69), (1, .int yk), (2, .int yn)] [] yA _
          refine Pa.ic (x := (-1)) (pc' := 164) (by rfl) (by rfl) (by decide) ?_
          refine Pa.iret (by rfl) ?_
          exact l4 h2 h4 h6 h7
        · have h8 : yn.toInt ≤ 99999 := h8
          refine Pa.ic (x := 1) (pc' := 11) (by rfl) (by rfl) (by decide) ?_
          refine Pa.mp 1 (pc' := 15) (l' := [(0, .int yn), (1, .int 1), (2, .int 99999)]) (st' := [.int 1]) (by rfl) ?_
          refine Pa.iret (by rfl) ?_
          show Pa N 179 17 [(0, .ref 69), (1, .int yk), (2, .int yn)] [.int 1] yA _
          refine Pa.if1k false (by rfl) (by rfl) (by decide) ?_
          show Pa N 179 20 [(0, .ref 69), (1, .int yk), (2, .int yn)] [] yA _
          refine Pa.mp 2 (pc' := 22) (l' := [(0, .ref 69), (1, .int yk), (2, .int yn)]) (st' := [.ref 69, .ref 69]) (by rfl) ?_
          refine Pa.gfR (by rfl) (by rfl) (.inl rfl) (by rfl) ?_
          show Pa N 179 25 [(0, .ref 69), (1, .int yk), (2, .int yn)] [.ref 88, .ref 69] yA _
          refine Pa.ic (x := 0) (pc' := 26) (by rfl) (by rfl) (by decide) ?_
          refine Pa.alds (v := yA.1 88 0) (by rfl) (by rfl) (by rfl) (fun h9 h10 => ?_)
          refine Pa.inv (by rfl) (by rfl) (.inl rfl) (by rfl) ?_
          show Pa N 157 0 [(0, .ref 69), (1, .int (yA.1 88 0))] [] yA _
          refine Pa.mp 1 (pc' := 1) (l' := [(0, .ref 69), (1, .int (yA.1 88 0))]) (st' := [.int (yA.1 88 0)]) (by rfl) ?_
          refine Pa.if1 (a := (yA.1 88 0).toInt) (t := 16) (by rfl) (by rfl) (rfl) (fun h11 => ?_) (fun h12 => ?_)
          · have h11 : (yA.1 88 0).toInt < 0 := h11
            refine Pa.ic (x := 0) (pc' := 17) (by rfl) (by rfl) (by decide) ?_
            refine Pa.iret (by rfl) ?_
            show Pa N 179 30 [(0, .ref 69), (1, .int yk), (2, .int yn)] [.int 0] yA _
            refine Pa.if1k true (by rfl) (by rfl) (by decide) ?_
            show Pa N 179 99 [(0, .ref 69), (1, .int yk), (2, .int yn)] [] yA _
            refine Pa.ic (x := 0) (pc' := 100) (by rfl) (by rfl) (by decide) ?_
            refine Pa.mp 2 (pc' := 102) (l' := [(3, .int 0), (0, .ref 69), (1, .int yk), (2, .int yn)]) (st' := [.int 0]) (by rfl) ?_
            refine Pa.if1k true (by rfl) (by rfl) (by decide) ?_
            show Pa N 179 163 [(3, .int 0), (0, .ref 69), (1, .int yk), (2, .int yn)] [] yA _
            refine Pa.ic (x := (-1)) (pc' := 164) (by rfl) (by rfl) (by decide) ?_
            refine Pa.iret (by rfl) ?_
            exact l5 h2 h4 h6 h8 h11
          · have h12 : 0 ≤ (yA.1 88 0).toInt := h12
            refine Pa.mp 2 (pc' := 6) (l' := [(0, .ref 69), (1, .int (yA.1 88 0))]) (st' := [.ref 69, .int (yA.1 88 0)]) (by rfl) ?_
            refine Pa.gfI (v := yA.1 69 11) (by rfl) (by rfl) (.inl rfl) (by rfl) (by rfl) ?_
            refine Pa.if2 (a := (yA.1 88 0).toInt) (b := (yA.1 69 11).toInt) (t := 16) (by rfl) (by rfl) (rfl) (rfl) (fun h13 => ?_) (fun h14 => ?_)
            · have h13 : (yA.1 69 11).toInt ≤ (yA.1 88 0).toInt := h13
              refine Pa.ic (x := 0) (pc' := 17) (by rfl) (by rfl) (by decide) ?_
              refine Pa.iret (by rfl) ?_
              show Pa N 179 30 [(0, .ref 69), (1, .int yk), (2, .int yn)] [.int 0] yA _
              refine Pa.if1k true (by rfl) (by rfl) (by decide) ?_
              show Pa N 179 99 [(0, .ref 69), (1, .int yk), (2, .int yn)] [] yA _
              refine Pa.ic (x := 0) (pc' := 100) (by rfl) (by rfl) (by decide) ?_
              refine Pa.mp 2 (pc' := 102) (l' := [(3, .int 0), (0, .ref 69), (1, .int yk), (2, .int yn)]) (st' := [.int 0]) (by rfl) ?_
              refine Pa.if1k true (by rfl) (by rfl) (by decide) ?_
              show Pa N 179 163 [(3, .int 0), (0, .ref 69), (1, .int yk), (2, .int yn)] [] yA _
              refine Pa.ic (x := (-1)) (pc' := 164) (by rfl) (by rfl) (by decide) ?_
              refine Pa.iret (by rfl) ?_
              exact l6 h2 h4 h6 h8 h12 h13
            · have h14 : (yA.1 88 0).toInt < (yA.1 69 11).toInt := h14
              refine Pa.ic (x := 1) (pc' := 13) (by rfl) (by rfl) (by decide) ?_
              refine Pa.mp 1 (pc' := 17) (l' := [(0, .ref 69), (1, .int (yA.1 88 0))]) (st' := [.int 1]) (by rfl) ?_
              refine Pa.iret (by rfl) ?_
              show Pa N 179 30 [(0, .ref 69), (1, .int yk), (2, .int yn)] [.int 1] yA _
              refine Pa.if1k false (by rfl) (by rfl) (by decide) ?_
              show Pa N 179 33 [(0, .ref 69), (1, .int yk), (2, .int yn)] [] yA _
              refine Pa.mp 1 (pc' := 34) (l' := [(0, .ref 69), (1, .int yk), (2, .int yn)]) (st' := [.ref 69]) (by rfl) ?_
              refine Pa.gfR (by rfl) (by rfl) (.inl rfl) (by rfl) ?_
              show Pa N 179 37 [(0, .ref 69), (1, .int yk), (2, .int yn)] [.ref 88] yA _
              refine Pa.ic (x := 1) (pc' := 38) (by rfl) (by rfl) (by decide) ?_
              refine Pa.alds (v := yA.1 88 1) (by rfl) (by rfl) (by rfl) (fun h15 yh16 => ?_)
              refine Pa.mp 1 (pc' := 40) (l' := [(0, .ref 69), (1, .int yk), (2, .int yn)]) (st' := [.ref 69, .int (yA.1 88 1)]) (by rfl) ?_
              refine Pa.gfR (by rfl) (by rfl) (.inl rfl) (by rfl) ?_
              show Pa N 179 43 [(0, .ref 69), (1, .int yk), (2, .int yn)] [.ref 77, .int (yA.1 88 1)] yA _
              refine Pa.mp 2 (pc' := 45) (l' := [(0, .ref 69), (1, .int yk), (2, .int yn)]) (st' := [.ref 69, .ref 69, .ref 77, .int (yA.1 88 1)]) (by rfl) ?_
              refine Pa.gfR (by rfl) (by rfl) (.inl rfl) (by rfl) ?_
              show Pa N 179 48 [(0, .ref 69), (1, .int yk), (2, .int yn)] [.ref 88, .ref 69, .ref 77, .int (yA.1 88 1)] yA _
              refine Pa.ic (x := 0) (pc' := 49) (by rfl) (by rfl) (by decide) ?_
              refine Pa.alds (v := yA.1 88 0) (by rfl) (by rfl) (by rfl) (fun h17 h18 => ?_)
              refine Pa.inv (by rfl) (by rfl) (.inl rfl) (by rfl) ?_
              show Pa N 157 0 [(0, .ref 69), (1, .int (yA.1 88 0))] [] yA _
              refine Pa.mp 1 (pc' := 1) (l' := [(0, .ref 69), (1, .int (yA.1 88 0))]) (st' := [.int (yA.1 88 0)]) (by rfl) ?_
              refine Pa.if1 (a := (yA.1 88 0).toInt) (t := 16) (by rfl) (by rfl) (rfl) (fun yh => (by exfalso; have h' : (yA.1 88 0).toInt < 0 := yh; omega)) (fun _ => ?_)
              refine Pa.mp 2 (pc' := 6) (l' := [(0, .ref 69), (1, .int (yA.1 88 0))]) (st' := [.ref 69, .int (yA.1 88 0)]) (by rfl) ?_
              refine Pa.gfI (v := yA.1 69 11) (by rfl) (by rfl) (.inl rfl) (by rfl) (by rfl) ?_
              refine Pa.if2 (a := (yA.1 88 0).toInt) (b := (yA.1 69 11).toInt) (t := 16) (by rfl) (by rfl) (rfl) (rfl) (fun yh => (by exfalso; have h' : (yA.1 69 11).toInt ≤ (yA.1 88 0).toInt := yh; omega)) (fun _ => ?_)
              refine Pa.ic (x := 1) (pc' := 13) (by rfl) (by rfl) (by decide) ?_
              refine Pa.mp 1 (pc' := 17) (l' := [(0, .ref 69), (1, .int (yA.1 88 0))]) (st' := [.int 1]) (by rfl) ?_
              refine Pa.iret (by rfl) ?_
              show Pa N 179 53 [(0, .ref 69), (1, .int yk), (2, .int yn)] [.int 1, .ref 77, .int (yA.1 88 1)] yA _
              refine Pa.if1k false (by rfl) (by rfl) (by decide) ?_
              show Pa N 179 56 [(0, .ref 69), (1, .int yk), (2, .int yn)] [.ref 77, .int (yA.1 88 1)] yA _
              refine Pa.mp 1 (pc' := 57) (l' := [(0, .ref 69), (1, .int yk), (2, .int yn)]) (st' := [.ref 69, .ref 77, .int (yA.1 88 1)]) (by rfl) ?_
              refine Pa.gfR (by rfl) (by rfl) (.inl rfl) (by rfl) ?_
              show Pa N 179 60 [(0, .ref 69), (1, .int yk), (2, .int yn)] [.ref 88, .ref 77, .int (yA.1 88 1)] yA _
              refine Pa.ic (x := 0) (pc' := 61) (by rfl) (by rfl) (by decide) ?_
              refine Pa.alds (v := yA.1 88 0) (by rfl) (by rfl) (by rfl) (fun h21 h22 => ?_)
              refine Pa.mp 1 (pc' := 66) (l' := [(0, .ref 69), (1, .int yk), (2, .int yn)]) (st' := [.int (yA.1 88 0), .ref 77, .int (yA.1 88 1)]) (by rfl) ?_
              refine Pa.alds (v := yA.1 77 ((yA.1 88 0).toInt.toNat)) (by rfl) (by rfl) (by rfl) (fun h23 h24 => ?_)
              have h23 : 0 ≤ (yA.1 88 0).toInt := h23
              have h24 : (yA.1 88 0).toInt < 20 := h24
              refine Pa.if2 (a := (yA.1 88 1).toInt) (b := (yA.1 77 ((yA.1 88 0).toInt.toNat)).toInt) (t := 99) (by rfl) (by rfl) (rfl) (rfl) (fun h25 => ?_) (fun h26 => ?_)
              · have h25 : (yA.1 77 ((yA.1 88 0).toInt.toNat)).toInt ≤ (yA.1 88 1).toInt := h25
                refine Pa.ic (x := 0) (pc' := 100) (by rfl) (by rfl) (by decide) ?_
                refine Pa.mp 2 (pc' := 102) (l' := [(3, .int 0), (0, .ref 69), (1, .int yk), (2, .int yn)]) (st' := [.int 0]) (by rfl) ?_
                refine Pa.if1k true (by rfl) (by rfl) (by decide) ?_
                show Pa N 179 163 [(3, .int 0), (0, .ref 69), (1, .int yk), (2, .int yn)] [] yA _
                refine Pa.ic (x := (-1)) (pc' := 164) (by rfl) (by rfl) (by decide) ?_
                refine Pa.iret (by rfl) ?_
                exact l7 h2 h4 h6 h8 h12 h14 h24 h25
              · have h26 : (yA.1 88 1).toInt < (yA.1 77 ((yA.1 88 0).toInt.toNat)).toInt := h26
                refine Pa.mp 1 (pc' := 71) (l' := [(0, .ref 69), (1, .int yk), (2, .int yn)]) (st' := [.ref 69]) (by rfl) ?_
                refine Pa.gfR (by rfl) (by rfl) (.inl rfl) (by rfl) ?_
                show Pa N 179 74 [(0, .ref 69), (1, .int yk), (2, .int yn)] [.ref 88] yA _
                refine Pa.ic (x := 2) (pc' := 75) (by rfl) (by rfl) (by decide) ?_
                refine Pa.alds (v := yA.1 88 2) (by rfl) (by rfl) (by rfl) (fun h27 h28 => ?_)
                refine Pa.ist (by rfl) (by rfl) (.inl rfl) (by rfl) (by rfl) ?_
                show Pa N 154 0 [(0, .int (yA.1 88 2))] [] yA _
                refine Pa.mp 1 (pc' := 1) (l' := [(0, .int (yA.1 88 2))]) (st' := [.int (yA.1 88 2)]) (by rfl) ?_
                refine Pa.ic (x := 0) (pc' := 2) (by rfl) (by rfl) (by decide) ?_
                refine Pa.ic (x := 5) (pc' := 3) (by rfl) (by rfl) (by decide) ?_
                refine Pa.ist (by rfl) (by rfl) (.inl rfl) (by rfl) (by rfl) ?_
                show Pa N 152 0 [(0, .int (yA.1 88 2)), (1, .int 0), (2, .int 5)] [] yA _
                refine Pa.mp 2 (pc' := 2) (l' := [(0, .int (yA.1 88 2)), (1, .int 0), (2, .int 5)]) (st' := [.int 0, .int (yA.1 88 2)]) (by rfl) ?_
                refine Pa.if2 (a := (yA.1 88 2).toInt) (b := 0) (t := 14) (by rfl) (by rfl) (rfl) (by decide) (fun h29 => ?_) (fun h30 => ?_)
                · have h29 : (yA.1 88 2).toInt < 0 := h29
                  refine Pa.ic (x := 0) (pc' := 15) (by rfl) (by rfl) (by decide) ?_
                  refine Pa.iret (by rfl) ?_
                  show Pa N 154 6 [(0, .int (yA.1 88 2))] [.int 0] yA _
                  refine Pa.iret (by rfl) ?_
                  show Pa N 179 79 [(0, .ref 69), (1, .int yk), (2, .int yn)] [.int 0] yA _
                  refine Pa.if1k true (by rfl) (by rfl) (by decide) ?_
                  show Pa N 179 99 [(0, .ref 69), (1, .int yk), (2, .int yn)] [] yA _
                  refine Pa.ic (x := 0) (pc' := 100) (by rfl) (by rfl) (by decide) ?_
                  refine Pa.mp 2 (pc' := 102) (l' := [(3, .int 0), (0, .ref 69), (1, .int yk), (2, .int yn)]) (st' := [.int 0]) (by rfl) ?_
                  refine Pa.if1k true (by rfl) (by rfl) (by decide) ?_
                  show Pa N 179 163 [(3, .int 0), (0, .ref 69), (1, .int yk), (2, .int yn)] [] yA _
                  refine Pa.ic (x := (-1)) (pc' := 164) (by rfl) (by rfl) (by decide) ?_
                  refine Pa.iret (by rfl) ?_
                  exact l8 h2 h4 h6 h8 h12 h14 h24 h26 h29
                · have h30 : 0 ≤ (yA.1 88 2).toInt := h30
                  refine Pa.mp 2 (pc' := 7) (l' := [(0, .int (yA.1 88 2)), (1, .int 0), (2, .int 5)]) (st' := [.int 5, .int (yA.1 88 2)]) (by rfl) ?_
                  refine Pa.if2 (a := (yA.1 88 2).toInt) (b := 5) (t := 14) (by rfl) (by rfl) (rfl) (by decide) (fun h31 => ?_) (fun h32 => ?_)
                  · have h31 : 5 < (yA.1 88 2).toInt := h31
                    refine Pa.ic (x := 0) (pc' := 15) (by rfl) (by rfl) (by decide) ?_
                    refine Pa.iret (by rfl) ?_
                    show Pa N 154 6 [(0, .int (yA.1 88 2))] [.int 0] yA _
                    refine Pa.iret (by rfl) ?_
                    show Pa N 179 79 [(0, .ref 69), (1, .int yk), (2, .int yn)] [.int 0] yA _
                    refine Pa.if1k true (by rfl) (by rfl) (by decide) ?_
                    show Pa N 179 99 [(0, .ref 69), (1, .int yk), (2, .int yn)] [] yA _
                    refine Pa.ic (x := 0) (pc' := 100) (by rfl) (by rfl) (by decide) ?_
                    refine Pa.mp 2 (pc' := 102) (l' := [(3, .int 0), (0, .ref 69), (1, .int yk), (2, .int yn)]) (st' := [.int 0]) (by rfl) ?_
                    refine Pa.if1k true (by rfl) (by rfl) (by decide) ?_
                    show Pa N 179 163 [(3, .int 0), (0, .ref 69), (1, .int yk), (2, .int yn)] [] yA _
                    refine Pa.ic (x := (-1)) (pc' := 164) (by rfl) (by rfl) (by decide) ?_
                    refine Pa.iret (by rfl) ?_
                    exact l9 h2 h4 h6 h8 h12 h14 h24 h26 h30 h31
                  · have h32 : (yA.1 88 2).toInt ≤ 5 := h32
                    refine Pa.ic (x := 1) (pc' := 11) (by rfl) (by rfl) (by decide) ?_
                    refine Pa.mp 1 (pc' := 15) (l' := [(0, .int (yA.1 88 2)), (1, .int 0), (2, .int 5)]) (st' := [.int 1]) (by rfl) ?_
                    refine Pa.iret (by rfl) ?_
                    show Pa N 154 6 [(0, .int (yA.1 88 2))] [.int 1] yA _
                    refine Pa.iret (by rfl) ?_
                    show Pa N 179 79 [(0, .ref 69), (1, .int yk), (2, .int yn)] [.int 1] yA _
                    refine Pa.if1k false (by rfl) (by rfl) (by decide) ?_
                    show Pa N 179 82 [(0, .ref 69), (1, .int yk), (2, .int yn)] [] yA _
                    refine Pa.mp 1 (pc' := 83) (l' := [(0, .ref 69), (1, .int yk), (2, .int yn)]) (st' := [.ref 69]) (by rfl) ?_
                    refine Pa.gfR (by rfl) (by rfl) (.inl rfl) (by rfl) ?_
                    show Pa N 179 86 [(0, .ref 69), (1, .int yk), (2, .int yn)] [.ref 88] yA _
                    refine Pa.ic (x := 3) (pc' := 87) (by rfl) (by rfl) (by decide) ?_
                    refine Pa.alds (v := yA.1 88 3) (by rfl) (by rfl) (by rfl) (fun h33 h34 => ?_)
                    refine Pa.mp 1 (pc' := 89) (l' := [(0, .ref 69), (1, .int yk), (2, .int yn)]) (st' := [.ref 69, .int (yA.1 88 3)]) (by rfl) ?_
                    refine Pa.gfI (v := yA.1 69 0) (by rfl) (by rfl) (.inl rfl) (by rfl) (by rfl) ?_
                    refine Pa.if2 (a := (yA.1 88 3).toInt) (b := (yA.1 69 0).toInt) (t := 99) (by rfl) (by rfl) (rfl) (rfl) (fun h35 => ?_) (fun h36 => ?_)
                    · have h35 : (yA.1 69 0).toInt < (yA.1 88 3).toInt := h35
                      refine Pa.ic (x := 0) (pc' := 100) (by rfl) (by rfl) (by decide) ?_
                      refine Pa.mp 2 (pc' := 102) (l' := [(3, .int 0), (0, .ref 69), (1, .int yk), (2, .int yn)]) (st' := [.int 0]) (by rfl) ?_
                      refine Pa.if1k true (by rfl) (by rfl) (by decide) ?_
                      show Pa N 179 163 [(3, .int 0), (0, .ref 69), (1, .int yk), (2, .int yn)] [] yA _
                      refine Pa.ic (x := (-1)) (pc' := 164) (by rfl) (by rfl) (by decide) ?_
                      refine Pa.iret (by rfl) ?_
                      exact l10 h2 h4 h6 h8 h12 h14 h24 h26 h30 h32 h35
                    · have h36 : (yA.1 88 3).toInt ≤ (yA.1 69 0).toInt := h36
                      refine Pa.ic (x := 1) (pc' := 96) (by rfl) (by rfl) (by decide) ?_
                      refine Pa.mp 3 (pc' := 102) (l' := [(3, .int 1), (0, .ref 69), (1, .int yk), (2, .int yn)]) (st' := [.int 1]) (by rfl) ?_
                      refine Pa.if1k false (by rfl) (by rfl) (by decide) ?_
                      show Pa N 179 105 [(3, .int 1), (0, .ref 69), (1, .int yk), (2, .int yn)] [] yA _
                      refine Pa.mp 1 (pc' := 106) (l' := [(3, .int 1), (0, .ref 69), (1, .int yk), (2, .int yn)]) (st' := [.int yk]) (by rfl) ?_
                      refine Pa.ist (by rfl) (by rfl) (.inl rfl) (by rfl) (by rfl) ?_
                      show Pa N 178 0 [(0, .int yk)] [] yA _
                      refine Pa.mp 1 (pc' := 1) (l' := [(0, .int yk)]) (st' := [.int yk]) (by rfl) ?_
                      refine Pa.ic (x := 2) (pc' := 2) (by rfl) (by rfl) (by decide) ?_
                      refine Pa.if2 (a := yk.toInt) (b := 2) (t := 15) (by rfl) (by rfl) (rfl) (by decide) (fun h37 => ?_) (fun h38 => ?_)
                      · have h37 : yk.toInt = 2 := h37
                        refine Pa.ic (x := 1) (pc' := 16) (by rfl) (by rfl) (by decide) ?_
                        refine Pa.mp 1 (pc' := 20) (l' := [(0, .int yk)]) (st' := [.int 1]) (by rfl) ?_
                        refine Pa.iret (by rfl) ?_
                        show Pa N 179 109 [(3, .int 1), (0, .ref 69), (1, .int yk), (2, .int yn)] [.int 1] yA _
                        refine Pa.if1k false (by rfl) (by rfl) (by decide) ?_
                        show Pa N 179 112 [(3, .int 1), (0, .ref 69), (1, .int yk), (2, .int yn)] [] yA _
                        refine Pa.mp 2 (pc' := 114) (l' := [(3, .int 1), (0, .ref 69), (1, .int yk), (2, .int yn)]) (st' := [.ref 69, .ref 69]) (by rfl) ?_
                        refine Pa.gfR (by rfl) (by rfl) (.inl rfl) (by rfl) ?_
                        show Pa N 179 117 [(3, .int 1), (0, .ref 69), (1, .int yk), (2, .int yn)] [.ref 88, .ref 69] yA _
                        refine Pa.ic (x := 4) (pc' := 118) (by rfl) (by rfl) (by decide) ?_
                        refine Pa.alds (v := yA.1 88 4) (by rfl) (by rfl) (by rfl) (fun h39 h40 => ?_)
                        refine Pa.inv (by rfl) (by rfl) (.inl rfl) (by rfl) ?_
                        show Pa N 156 0 [(0, .ref 69), (1, .int (yA.1 88 4))] [] yA _
                        refine Pa.mp 1 (pc' := 1) (l' := [(0, .ref 69), (1, .int (yA.1 88 4))]) (st' := [.int (yA.1 88 4)]) (by rfl) ?_
                        refine Pa.if1 (a := (yA.1 88 4).toInt) (t := 16) (by rfl) (by rfl) (rfl) (fun h41 => ?_) (fun h42 => ?_)
                        · have h41 : (yA.1 88 4).toInt < 0 := h41
                          refine Pa.ic (x := 0) (pc' := 17) (by rfl) (by rfl) (by decide) ?_
                          refine Pa.iret (by rfl) ?_
                          show Pa N 179 122 [(3, .int 1), (0, .ref 69), (1, .int yk), (2, .int yn)] [.int 0] yA _
                          refine Pa.if1k true (by rfl) (by rfl) (by decide) ?_
                          show Pa N 179 163 [(3, .int 1), (0, .ref 69), (1, .int yk), (2, .int yn)] [] yA _
                          refine Pa.ic (x := (-1)) (pc' := 164) (by rfl) (by rfl) (by decide) ?_
                          refine Pa.iret (by rfl) ?_
                          exact l11 h2 h4 h6 h8 h12 h14 h24 h26 h30 h32 h36 h37 h41
                        · have h42 : 0 ≤ (yA.1 88 4).toInt := h42
                          refine Pa.mp 2 (pc' := 6) (l' := [(0, .ref 69), (1, .int (yA.1 88 4))]) (st' := [.ref 69, .int (yA.1 88 4)]) (by rfl) ?_
                          refine Pa.gfI (v := yA.1 69 7) (by rfl) (by rfl) (.inl rfl) (by rfl) (by rfl) ?_
                          refine Pa.if2 (a := (yA.1 88 4).toInt) (b := (yA.1 69 7).toInt) (t := 16) (by rfl) (by rfl) (rfl) (rfl) (fun h43 => ?_) (fun h44 => ?_)
                          · have h43 : (yA.1 69 7).toInt ≤ (yA.1 88 4).toInt := h43
                            refine Pa.ic (x := 0) (pc' := 17) (by rfl) (by rfl) (by decide) ?_
                            refine Pa.iret (by rfl) ?_
                            show Pa N 179 122 [(3, .int 1), (0, .ref 69), (1, .int yk), (2, .int yn)] [.int 0] yA _
                            refine Pa.if1k true (by rfl) (by rfl) (by decide) ?_
                            show Pa N 179 163 [(3, .int 1), (0, .ref 69), (1, .int yk), (2, .int yn)] [] yA _
                            refine Pa.ic (x := (-1)) (pc' := 164) (by rfl) (by rfl) (by decide) ?_
                            refine Pa.iret (by rfl) ?_
                            exact l12 h2 h4 h6 h8 h12 h14 h24 h26 h30 h32 h36 h37 h42 h43
                          · have h44 : (yA.1 88 4).toInt < (yA.1 69 7).toInt := h44
                            refine Pa.ic (x := 1) (pc' := 13) (by rfl) (by rfl) (by decide) ?_
                            refine Pa.mp 1 (pc' := 17) (l' := [(0, .ref 69), (1, .int (yA.1 88 4))]) (st' := [.int 1]) (by rfl) ?_
                            refine Pa.iret (by rfl) ?_
                            show Pa N 179 122 [(3, .int 1), (0, .ref 69), (1, .int yk), (2, .int yn)] [.int 1] yA _
                            refine Pa.if1k false (by rfl) (by rfl) (by decide) ?_
                            show Pa N 179 125 [(3, .int 1), (0, .ref 69), (1, .int yk), (2, .int yn)] [] yA _
                            refine Pa.mp 2 (pc' := 142) (l' := [(3, .int 1), (0, .ref 69), (1, .int yk), (2, .int yn)]) (st' := [.ref 69]) (by rfl) ?_
                            refine Pa.gfR (by rfl) (by rfl) (.inl rfl) (by rfl) ?_
                            show Pa N 179 145 [(3, .int 1), (0, .ref 69), (1, .int yk), (2, .int yn)] [.ref 88] yA _
                            refine Pa.ic (x := 5) (pc' := 146) (by rfl) (by rfl) (by decide) ?_
                            refine Pa.alds (v := yA.1 88 5) (by rfl) (by rfl) (by rfl) (fun h45 h46 => ?_)
                            refine Pa.ic (x := 1) (pc' := 148) (by rfl) (by rfl) (by decide) ?_
                            refine Pa.if2 (a := (yA.1 88 5).toInt) (b := 1) (t := 163) (by rfl) (by rfl) (rfl) (by decide) (fun h47 => ?_) (fun h48 => ?_)
                            · have h47 : (yA.1 88 5).toInt < 1 := h47
                              refine Pa.ic (x := (-1)) (pc' := 164) (by rfl) (by rfl) (by decide) ?_
                              refine Pa.iret (by rfl) ?_
                              exact l13 h2 h4 h6 h8 h12 h14 h24 h26 h30 h32 h36 h37 h42 h44 h47
                            · have h48 : 1 ≤ (yA.1 88 5).toInt := h48
                              refine Pa.mp 1 (pc' := 152) (l' := [(3, .int 1), (0, .ref 69), (1, .int yk), (2, .int yn)]) (st' := [.ref 69]) (by rfl) ?_
                              refine Pa.gfR (by rfl) (by rfl) (.inl rfl) (by rfl) ?_
                              show Pa N 179 155 [(3, .int 1), (0, .ref 69), (1, .int yk), (2, .int yn)] [.ref 88] yA _
                              refine Pa.ic (x := 6) (pc' := 157) (by rfl) (by rfl) (by decide) ?_
                              refine Pa.alds (v := yA.1 88 6) (by rfl) (by rfl) (by rfl) (fun h49 h50 => ?_)
                              refine Pa.ic (x := 19) (pc' := 160) (by rfl) (by rfl) (by decide) ?_
                              refine Pa.if2 (a := (yA.1 88 6).toInt) (b := 19) (t := 165) (by rfl) (by rfl) (rfl) (by decide) (fun h51 => ?_) (fun h52 => ?_)
                              · have h51 : (yA.1 88 6).toInt ≤ 19 := h51
                                refine Pa.lv (l' := [(0, .ref 69), (1, .int yk), (2, .int yn), (3, .int 1)]) (lvS_c rfl (lvS_c rfl (lvS_c rfl (lvS_c rfl (lvS_nil))))) rfl ?_
                                exact l14 h2 h4 h6 h8 h12 h14 h24 h26 h30 h32 h36 h37 h42 h44 h48 h51
                              · have h52 : 19 < (yA.1 88 6).toInt := h52
                                refine Pa.ic (x := (-1)) (pc' := 164) (by rfl) (by rfl) (by decide) ?_
                                refine Pa.iret (by rfl) ?_
                                exact l15 h2 h4 h6 h8 h12 h14 h24 h26 h30 h32 h36 h37 h42 h44 h48 h52
                      · have h38 : yk.toInt ≠ 2 := h38
                        refine Pa.mp 1 (pc' := 6) (l' := [(0, .int yk)]) (st' := [.int yk]) (by rfl) ?_
                        refine Pa.ic (x := 3) (pc' := 7) (by rfl) (by rfl) (by decide) ?_
                        refine Pa.if2 (a := yk.toInt) (b := 3) (t := 15) (by rfl) (by rfl) (rfl) (by decide) (fun h53 => ?_) (fun h54 => ?_)
                        · have h53 : yk.toInt = 3 := h53
                          refine Pa.ic (x := 1) (pc' := 16) (by rfl) (by rfl) (by decide) ?_
                          refine Pa.mp 1 (pc' := 20) (l' := [(0, .int yk)]) (st' := [.int 1]) (by rfl) ?_
                          refine Pa.iret (by rfl) ?_
                          show Pa N 179 109 [(3, .int 1), (0, .ref 69), (1, .int yk), (2, .int yn)] [.int 1] yA _
                          refine Pa.if1k false (by rfl) (by rfl) (by decide) ?_
                          show Pa N 179 112 [(3, .int 1), (0, .ref 69), (1, .int yk), (2, .int yn)] [] yA _
                          refine Pa.mp 2 (pc' := 114) (l' := [(3, .int 1), (0, .ref 69), (1, .int yk), (2, .int yn)]) (st' := [.ref 69, .ref 69]) (by rfl) ?_
                          refine Pa.gfR (by rfl) (by rfl) (.inl rfl) (by rfl) ?_
                          show Pa N 179 117 [(3, .int 1), (0, .ref 69), (1, .int yk), (2, .int yn)] [.ref 88, .ref 69] yA _
                          refine Pa.ic (x := 4) (pc' := 118) (by rfl) (by rfl) (by decide) ?_
                          refine Pa.alds (v := yA.1 88 4) (by rfl) (by rfl) (by rfl) (fun h55 h56 => ?_)
                          refine Pa.inv (by rfl) (by rfl) (.inl rfl) (by rfl) ?_
                          show Pa N 156 0 [(0, .ref 69), (1, .int (yA.1 88 4))] [] yA _
                          refine Pa.mp 1 (pc' := 1) (l' := [(0, .ref 69), (1, .int (yA.1 88 4))]) (st' := [.int (yA.1 88 4)]) (by rfl) ?_
                          refine Pa.if1 (a := (yA.1 88 4).toInt) (t := 16) (by rfl) (by rfl) (rfl) (fun h57 => ?_) (fun h58 => ?_)
                          · have h57 : (yA.1 88 4).toInt < 0 := h57
                            refine Pa.ic (x := 0) (pc' := 17) (by rfl) (by rfl) (by decide) ?_
                            refine Pa.iret (by rfl) ?_
                            show Pa N 179 122 [(3, .int 1), (0, .ref 69), (1, .int yk), (2, .int yn)] [.int 0] yA _
                            refine Pa.if1k true (by rfl) (by rfl) (by decide) ?_
                            show Pa N 179 163 [(3, .int 1), (0, .ref 69), (1, .int yk), (2, .int yn)] [] yA _
                            refine Pa.ic (x := (-1)) (pc' := 164) (by rfl) (by rfl) (by decide) ?_
                            refine Pa.iret (by rfl) ?_
                            exact l16 h2 h4 h6 h8 h12 h14 h24 h26 h30 h32 h36 h38 h53 h57
                          · have h58 : 0 ≤ (yA.1 88 4).toInt := h58
                            refine Pa.mp 2 (pc' := 6) (l' := [(0, .ref 69), (1, .int (yA.1 88 4))]) (st' := [.ref 69, .int (yA.1 88 4)]) (by rfl) ?_
                            refine Pa.gfI (v := yA.1 69 7) (by rfl) (by rfl) (.inl rfl) (by rfl) (by rfl) ?_
                            refine Pa.if2 (a := (yA.1 88 4).toInt) (b := (yA.1 69 7).toInt) (t := 16) (by rfl) (by rfl) (rfl) (rfl) (fun h59 => ?_) (fun h60 => ?_)
                            · have h59 : (yA.1 69 7).toInt ≤ (yA.1 88 4).toInt := h59
                              refine Pa.ic (x := 0) (pc' := 17) (by rfl) (by rfl) (by decide) ?_
                              refine Pa.iret (by rfl) ?_
                              show Pa N 179 122 [(3, .int 1), (0, .ref 69), (1, .int yk), (2, .int yn)] [.int 0] yA _
                              refine Pa.if1k true (by rfl) (by rfl) (by decide) ?_
                              show Pa N 179 163 [(3, .int 1), (0, .ref 69), (1, .int yk), (2, .int yn)] [] yA _
                              refine Pa.ic (x := (-1)) (pc' := 164) (by rfl) (by rfl) (by decide) ?_
                              refine Pa.iret (by rfl) ?_
                              exact l17 h2 h4 h6 h8 h12 h14 h24 h26 h30 h32 h36 h38 h53 h58 h59
                            · have h60 : (yA.1 88 4).toInt < (yA.1 69 7).toInt := h60
                              refine Pa.ic (x := 1) (pc' := 13) (by rfl) (by rfl) (by decide) ?_
                              refine Pa.mp 1 (pc' := 17) (l' := [(0, .ref 69), (1, .int (yA.1 88 4))]) (st' := [.int 1]) (by rfl) ?_
                              refine Pa.iret (by rfl) ?_
                              show Pa N 179 122 [(3, .int 1), (0, .ref 69), (1, .int yk), (2, .int yn)] [.int 1] yA _
                              refine Pa.if1k false (by rfl) (by rfl) (by decide) ?_
                              show Pa N 179 125 [(3, .int 1), (0, .ref 69), (1, .int yk), (2, .int yn)] [] yA _
                              refine Pa.mp 2 (pc' := 142) (l' := [(3, .int 1), (0, .ref 69), (1, .int yk), (2, .int yn)]) (st' := [.ref 69]) (by rfl) ?_
                              refine Pa.gfR (by rfl) (by rfl) (.inl rfl) (by rfl) ?_
                              show Pa N 179 145 [(3, .int 1), (0, .ref 69), (1, .int yk), (2, .int yn)] [.ref 88] yA _
                              refine Pa.ic (x := 5) (pc' := 146) (by rfl) (by rfl) (by decide) ?_
                              refine Pa.alds (v := yA.1 88 5) (by rfl) (by rfl) (by rfl) (fun h61 h62 => ?_)
                              refine Pa.ic (x := 1) (pc' := 148) (by rfl) (by rfl) (by decide) ?_
                              refine Pa.if2 (a := (yA.1 88 5).toInt) (b := 1) (t := 163) (by rfl) (by rfl) (rfl) (by decide) (fun h63 => ?_) (fun h64 => ?_)
                              · have h63 : (yA.1 88 5).toInt < 1 := h63
                                refine Pa.ic (x := (-1)) (pc' := 164) (by rfl) (by rfl) (by decide) ?_
                                refine Pa.iret (by rfl) ?_
                                exact l18 h2 h4 h6 h8 h12 h14 h24 h26 h30 h32 h36 h38 h53 h58 h60 h63
                              · have h64 : 1 ≤ (yA.1 88 5).toInt := h64
                                refine Pa.mp 1 (pc' := 152) (l' := [(3, .int 1), (0, .ref 69), (1, .int yk), (2, .int yn)]) (st' := [.ref 69]) (by rfl) ?_
                                refine Pa.gfR (by rfl) (by rfl) (.inl rfl) (by rfl) ?_
                                show Pa N 179 155 [(3, .int 1), (0, .ref 69), (1, .int yk), (2, .int yn)] [.ref 88] yA _
                                refine Pa.ic (x := 6) (pc' := 157) (by rfl) (by rfl) (by decide) ?_
                                refine Pa.alds (v := yA.1 88 6) (by rfl) (by rfl) (by rfl) (fun h65 h66 => ?_)
                                refine Pa.ic (x := 19) (pc' := 160) (by rfl) (by rfl) (by decide) ?_
                                refine Pa.if2 (a := (yA.1 88 6).toInt) (b := 19) (t := 165) (by rfl) (by rfl) (rfl) (by decide) (fun h67 => ?_) (fun h68 => ?_)
                                · have h67 : (yA.1 88 6).toInt ≤ 19 := h67
                                  refine Pa.lv (l' := [(0, .ref 69), (1, .int yk), (2, .int yn), (3, .int 1)]) (lvS_c rfl (lvS_c rfl (lvS_c rfl (lvS_c rfl (lvS_nil))))) rfl ?_
                                  exact l19 h2 h4 h6 h8 h12 h14 h24 h26 h30 h32 h36 h38 h53 h58 h60 h64 h67
                                · have h68 : 19 < (yA.1 88 6).toInt := h68
                                  refine Pa.ic (x := (-1)) (pc' := 164) (by rfl) (by rfl) (by decide) ?_
                                  refine Pa.iret (by rfl) ?_
                                  exact l20 h2 h4 h6 h8 h12 h14 h24 h26 h30 h32 h36 h38 h53 h58 h60 h64 h68
                        · have h54 : yk.toInt ≠ 3 := h54
                          refine Pa.mp 1 (pc' := 11) (l' := [(0, .int yk)]) (st' := [.int yk]) (by rfl) ?_
                          refine Pa.ic (x := 5) (pc' := 12) (by rfl) (by rfl) (by decide) ?_
                          refine Pa.if2 (a := yk.toInt) (b := 5) (t := 19) (by rfl) (by rfl) (rfl) (by decide) (fun h69 => ?_) (fun h70 => ?_)
                          · have h69 : yk.toInt ≠ 5 := h69
                            refine Pa.ic (x := 0) (pc' := 20) (by rfl) (by rfl) (by decide) ?_
                            refine Pa.iret (by rfl) ?_
                            show Pa N 179 109 [(3, .int 1), (0, .ref 69), (1, .int yk), (2, .int yn)] [.int 0] yA _
                            refine Pa.if1k true (by rfl) (by rfl) (by decide) ?_
                            show Pa N 179 128 [(3, .int 1), (0, .ref 69), (1, .int yk), (2, .int yn)] [] yA _
                            refine Pa.mp 2 (pc' := 130) (l' := [(3, .int 1), (0, .ref 69), (1, .int yk), (2, .int yn)]) (st' := [.ref 69, .ref 69]) (by rfl) ?_
                            refine Pa.gfR (by rfl) (by rfl) (.inl rfl) (by rfl) ?_
                            show Pa N 179 133 [(3, .int 1), (0, .ref 69), (1, .int yk), (2, .int yn)] [.ref 88, .ref 69] yA _
                            refine Pa.ic (x := 4) (pc' := 134) (by rfl) (by rfl) (by decide) ?_
                            refine Pa.alds (v := yA.1 88 4) (by rfl) (by rfl) (by rfl) (fun h71 h72 => ?_)
                            refine Pa.inv (by rfl) (by rfl) (.inl rfl) (by rfl) ?_
                            show Pa N 158 0 [(0, .ref 69), (1, .int (yA.1 88 4))] [] yA _
                            refine Pa.mp 1 (pc' := 1) (l' := [(0, .ref 69), (1, .int (yA.1 88 4))]) (st' := [.int (yA.1 88 4)]) (by rfl) ?_
                            refine Pa.if1 (a := (yA.1 88 4).toInt) (t := 16) (by rfl) (by rfl) (rfl) (fun h73 => ?_) (fun h74 => ?_)
                            · have h73 : (yA.1 88 4).toInt < 0 := h73
                              refine Pa.ic (x := 0) (pc' := 17) (by rfl) (by rfl) (by decide) ?_
                              refine Pa.iret (by rfl) ?_
                              show Pa N 179 138 [(3, .int 1), (0, .ref 69), (1, .int yk), (2, .int yn)] [.int 0] yA _
                              refine Pa.if1k true (by rfl) (by rfl) (by decide) ?_
                              show Pa N 179 163 [(3, .int 1), (0, .ref 69), (1, .int yk), (2, .int yn)] [] yA _
                              refine Pa.ic (x := (-1)) (pc' := 164) (by rfl) (by rfl) (by decide) ?_
                              refine Pa.iret (by rfl) ?_
                              exact l21 h2 h4 h6 h8 h12 h14 h24 h26 h30 h32 h36 h38 h54 h69 h73
                            · have h74 : 0 ≤ (yA.1 88 4).toInt := h74
                              refine Pa.mp 2 (pc' := 6) (l' := [(0, .ref 69), (1, .int (yA.1 88 4))]) (st' := [.ref 69, .int (yA.1 88 4)]) (by rfl) ?_
                              refine Pa.gfI (v := yA.1 69 13) (by rfl) (by rfl) (.inl rfl) (by rfl) (by rfl) ?_
                              refine Pa.if2 (a := (yA.1 88 4).toInt) (b := (yA.1 69 13).toInt) (t := 16) (by rfl) (by rfl) (rfl) (rfl) (fun h75 => ?_) (fun h76 => ?_)
                              · have h75 : (yA.1 69 13).toInt ≤ (yA.1 88 4).toInt := h75
                                refine Pa.ic (x := 0) (pc' := 17) (by rfl) (by rfl) (by decide) ?_
                                refine Pa.iret (by rfl) ?_
                                show Pa N 179 138 [(3, .int 1), (0, .ref 69), (1, .int yk), (2, .int yn)] [.int 0] yA _
                                refine Pa.if1k true (by rfl) (by rfl) (by decide) ?_
                                show Pa N 179 163 [(3, .int 1), (0, .ref 69), (1, .int yk), (2, .int yn)] [] yA _
                                refine Pa.ic (x := (-1)) (pc' := 164) (by rfl) (by rfl) (by decide) ?_
                                refine Pa.iret (by rfl) ?_
                                exact l22 h2 h4 h6 h8 h12 h14 h24 h26 h30 h32 h36 h38 h54 h69 h74 h75
                              · have h76 : (yA.1 88 4).toInt < (yA.1 69 13).toInt := h76
                                refine Pa.ic (x := 1) (pc' := 13) (by rfl) (by rfl) (by decide) ?_
                                refine Pa.mp 1 (pc' := 17) (l' := [(0, .ref 69), (1, .int (yA.1 88 4))]) (st' := [.int 1]) (by rfl) ?_
                                refine Pa.iret (by rfl) ?_
                                show Pa N 179 138 [(3, .int 1), (0, .ref 69), (1, .int yk), (2, .int yn)] [.int 1] yA _
                                refine Pa.if1k false (by rfl) (by rfl) (by decide) ?_
                                show Pa N 179 141 [(3, .int 1), (0, .ref 69), (1, .int yk), (2, .int yn)] [] yA _
                                refine Pa.mp 1 (pc' := 142) (l' := [(3, .int 1), (0, .ref 69), (1, .int yk), (2, .int yn)]) (st' := [.ref 69]) (by rfl) ?_
                                refine Pa.gfR (by rfl) (by rfl) (.inl rfl) (by rfl) ?_
                                show Pa N 179 145 [(3, .int 1), (0, .ref 69), (1, .int yk), (2, .int yn)] [.ref 88] yA _
                                refine Pa.ic (x := 5) (pc' := 146) (by rfl) (by rfl) (by decide) ?_
                                refine Pa.alds (v := yA.1 88 5) (by rfl) (by rfl) (by rfl) (fun h77 h78 => ?_)
                                refine Pa.ic (x := 1) (pc' := 148) (by rfl) (by rfl) (by decide) ?_
                                refine Pa.if2 (a := (yA.1 88 5).toInt) (b := 1) (t := 163) (by rfl) (by rfl) (rfl) (by decide) (fun h79 => ?_) (fun h80 => ?_)
                                · have h79 : (yA.1 88 5).toInt < 1 := h79
                                  refine Pa.ic (x := (-1)) (pc' := 164) (by rfl) (by rfl) (by decide) ?_
                                  refine Pa.iret (by rfl) ?_
                                  exact l23 h2 h4 h6 h8 h12 h14 h24 h26 h30 h32 h36 h38 h54 h69 h74 h76 h79
                                · have h80 : 1 ≤ (yA.1 88 5).toInt := h80
                                  refine Pa.mp 1 (pc' := 152) (l' := [(3, .int 1), (0, .ref 69), (1, .int yk), (2, .int yn)]) (st' := [.ref 69]) (by rfl) ?_
                                  refine Pa.gfR (by rfl) (by rfl) (.inl rfl) (by rfl) ?_
                                  show Pa N 179 155 [(3, .int 1), (0, .ref 69), (1, .int yk), (2, .int yn)] [.ref 88] yA _
                                  refine Pa.ic (x := 6) (pc' := 157) (by rfl) (by rfl) (by decide) ?_
                                  refine Pa.alds (v := yA.1 88 6) (by rfl) (by rfl) (by rfl) (fun h81 h82 => ?_)
                                  refine Pa.ic (x := 19) (pc' := 160) (by rfl) (by rfl) (by decide) ?_
                                  refine Pa.if2 (a := (yA.1 88 6).toInt) (b := 19) (t := 165) (by rfl) (by rfl) (rfl) (by decide) (fun h83 => ?_) (fun h84 => ?_)
                                  · have h83 : (yA.1 88 6).toInt ≤ 19 := h83
                                    refine Pa.lv (l' := [(0, .ref 69), (1, .int yk), (2, .int yn), (3, .int 1)]) (lvS_c rfl (lvS_c rfl (lvS_c rfl (lvS_c rfl (lvS_nil))))) rfl ?_
                                    exact l24 h2 h4 h6 h8 h12 h14 h24 h26 h30 h32 h36 h38 h54 h69 h74 h76 h80 h83
                                  · have h84 : 19 < (yA.1 88 6).toInt := h84
                                    refine Pa.ic (x := (-1)) (pc' := 164) (by rfl) (by rfl) (by decide) ?_
                                    refine Pa.iret (by rfl) ?_
                                    exact l25 h2 h4 h6 h8 h12 h14 h24 h26 h30 h32 h36 h38 h54 h69 h74 h76 h80 h84
                          · have h70 : yk.toInt = 5 := h70
                            refine Pa.ic (x := 1) (pc' := 16) (by rfl) (by rfl) (by decide) ?_
                            refine Pa.mp 1 (pc' := 20) (l' := [(0, .int yk)]) (st' := [.int 1]) (by rfl) ?_
                            refine Pa.iret (by rfl) ?_
                            show Pa N 179 109 [(3, .int 1), (0, .ref 69), (1, .int yk), (2, .int yn)] [.int 1] yA _
                            refine Pa.if1k false (by rfl) (by rfl) (by decide) ?_
                            show Pa N 179 112 [(3, .int 1), (0, .ref 69), (1, .int yk), (2, .int yn)] [] yA _
                            refine Pa.mp 2 (pc' := 114) (l' := [(3, .int 1), (0, .ref 69), (1, .int yk), (2, .int yn)]) (st' := [.ref 69, .ref 69]) (by rfl) ?_
                            refine Pa.gfR (by rfl) (by rfl) (.inl rfl) (by rfl) ?_
                            show Pa N 179 117 [(3, .int 1), (0, .ref 69), (1, .int yk), (2, .int yn)] [.ref 88, .ref 69] yA _
                            refine Pa.ic (x := 4) (pc' := 118) (by rfl) (by rfl) (by decide) ?_
                            refine Pa.alds (v := yA.1 88 4) (by rfl) (by rfl) (by rfl) (fun h85 h86 => ?_)
                            refine Pa.inv (by rfl) (by rfl) (.inl rfl) (by rfl) ?_
                            show Pa N 156 0 [(0, .ref 69), (1, .int (yA.1 88 4))] [] yA _
                            refine Pa.mp 1 (pc' := 1) (l' := [(0, .ref 69), (1, .int (yA.1 88 4))]) (st' := [.int (yA.1 88 4)]) (by rfl) ?_
                            refine Pa.if1 (a := (yA.1 88 4).toInt) (t := 16) (by rfl) (by rfl) (rfl) (fun h87 => ?_) (fun h88 => ?_)
                            · have h87 : (yA.1 88 4).toInt < 0 := h87
                              refine Pa.ic (x := 0) (pc' := 17) (by rfl) (by rfl) (by decide) ?_
                              refine Pa.iret (by rfl) ?_
                              show Pa N 179 122 [(3, .int 1), (0, .ref 69), (1, .int yk), (2, .int yn)] [.int 0] yA _
                              refine Pa.if1k true (by rfl) (by rfl) (by decide) ?_
                              show Pa N 179 163 [(3, .int 1), (0, .ref 69), (1, .int yk), (2, .int yn)] [] yA _
                              refine Pa.ic (x := (-1)) (pc' := 164) (by rfl) (by rfl) (by decide) ?_
                              refine Pa.iret (by rfl) ?_
                              exact l26 h2 h4 h6 h8 h12 h14 h24 h26 h30 h32 h36 h38 h54 h70 h87
                            · have h88 : 0 ≤ (yA.1 88 4).toInt := h88
                              refine Pa.mp 2 (pc' := 6) (l' := [(0, .ref 69), (1, .int (yA.1 88 4))]) (st' := [.ref 69, .int (yA.1 88 4)]) (by rfl) ?_
                              refine Pa.gfI (v := yA.1 69 7) (by rfl) (by rfl) (.inl rfl) (by rfl) (by rfl) ?_
                              refine Pa.if2 (a := (yA.1 88 4).toInt) (b := (yA.1 69 7).toInt) (t := 16) (by rfl) (by rfl) (rfl) (rfl) (fun h89 => ?_) (fun h90 => ?_)
                              · have h89 : (yA.1 69 7).toInt ≤ (yA.1 88 4).toInt := h89
                                refine Pa.ic (x := 0) (pc' := 17) (by rfl) (by rfl) (by decide) ?_
                                refine Pa.iret (by rfl) ?_
                                show Pa N 179 122 [(3, .int 1), (0, .ref 69), (1, .int yk), (2, .int yn)] [.int 0] yA _
                                refine Pa.if1k true (by rfl) (by rfl) (by decide) ?_
                                show Pa N 179 163 [(3, .int 1), (0, .ref 69), (1, .int yk), (2, .int yn)] [] yA _
                                refine Pa.ic (x := (-1)) (pc' := 164) (by rfl) (by rfl) (by decide) ?_
                                refine Pa.iret (by rfl) ?_
                                exact l27 h2 h4 h6 h8 h12 h14 h24 h26 h30 h32 h36 h38 h54 h70 h88 h89
                              · have h90 : (yA.1 88 4).toInt < (yA.1 69 7).toInt := h90
                                refine Pa.ic (x := 1) (pc' := 13) (by rfl) (by rfl) (by decide) ?_
                                refine Pa.mp 1 (pc' := 17) (l' := [(0, .ref 69), (1, .int (yA.1 88 4))]) (st' := [.int 1]) (by rfl) ?_
                                refine Pa.iret (by rfl) ?_
                                show Pa N 179 122 [(3, .int 1), (0, .ref 69), (1, .int yk), (2, .int yn)] [.int 1] yA _
                                refine Pa.if1k false (by rfl) (by rfl) (by decide) ?_
                                show Pa N 179 125 [(3, .int 1), (0, .ref 69), (1, .int yk), (2, .int yn)] [] yA _
                                refine Pa.mp 2 (pc' := 142) (l' := [(3, .int 1), (0, .ref 69), (1, .int yk), (2, .int yn)]) (st' := [.ref 69]) (by rfl) ?_
                                refine Pa.gfR (by rfl) (by rfl) (.inl rfl) (by rfl) ?_
                                show Pa N 179 145 [(3, .int 1), (0, .ref 69), (1, .int yk), (2, .int yn)] [.ref 88] yA _
                                refine Pa.ic (x := 5) (pc' := 146) (by rfl) (by rfl) (by decide) ?_
                                refine Pa.alds (v := yA.1 88 5) (by rfl) (by rfl) (by rfl) (fun h91 h92 => ?_)
                                refine Pa.ic (x := 1) (pc' := 148) (by rfl) (by rfl) (by decide) ?_
                                refine Pa.if2 (a := (yA.1 88 5).toInt) (b := 1) (t := 163) (by rfl) (by rfl) (rfl) (by decide) (fun h93 => ?_) (fun h94 => ?_)
                                · have h93 : (yA.1 88 5).toInt < 1 := h93
                                  refine Pa.ic (x := (-1)) (pc' := 164) (by rfl) (by rfl) (by decide) ?_
                                  refine Pa.iret (by rfl) ?_
                                  exact l28 h2 h4 h6 h8 h12 h14 h24 h26 h30 h32 h36 h38 h54 h70 h88 h90 h93
                                · have h94 : 1 ≤ (yA.1 88 5).toInt := h94
                                  refine Pa.mp 1 (pc' := 152) (l' := [(3, .int 1), (0, .ref 69), (1, .int yk), (2, .int yn)]) (st' := [.ref 69]) (by rfl) ?_
                                  refine Pa.gfR (by rfl) (by rfl) (.inl rfl) (by rfl) ?_
                                  show Pa N 179 155 [(3, .int 1), (0, .ref 69), (1, .int yk), (2, .int yn)] [.ref 88] yA _
                                  refine Pa.ic (x := 6) (pc' := 157) (by rfl) (by rfl) (by decide) ?_
                                  refine Pa.alds (v := yA.1 88 6) (by rfl) (by rfl) (by rfl) (fun h95 h96 => ?_)
                                  refine Pa.ic (x := 19) (pc' := 160) (by rfl) (by rfl) (by decide) ?_
                                  refine Pa.if2 (a := (yA.1 88 6).toInt) (b := 19) (t := 165) (by rfl) (by rfl) (rfl) (by decide) (fun h97 => ?_) (fun h98 => ?_)
                                  · have h97 : (yA.1 88 6).toInt ≤ 19 := h97
                                    refine Pa.lv (l' := [(0, .ref 69), (1, .int yk), (2, .int yn), (3, .int 1)]) (lvS_c rfl (lvS_c rfl (lvS_c rfl (lvS_c rfl (lvS_nil))))) rfl ?_
                                    exact l29 h2 h4 h6 h8 h12 h14 h24 h26 h30 h32 h36 h38 h54 h70 h88 h90 h94 h97
                                  · have h98 : 19 < (yA.1 88 6).toInt := h98
                                    refine Pa.ic (x := (-1)) (pc' := 164) (by rfl) (by rfl) (by decide) ?_
                                    refine Pa.iret (by rfl) ?_
                                    exact l30 h2 h4 h6 h8 h12 h14 h24 h26 h30 h32 h36 h38 h54 h70 h88 h90 h94 h98
theorem bm_cost2 {N : Nat} {yA : AW} {yQ : Option Value → AW → Prop} (yk yn yg : Int32)
    (l1 : (yA.1 69 31).toInt ≠ 150 → 0 ≤ (yA.1 69 31).toInt → (yA.1 69 31).toInt < 150 → 0 ≤ ((7 * (yA.1 69 31)) + 0).toInt → ((7 * (yA.1 69 31)) + 0).toInt < 1050 → 0 ≤ ((7 * (yA.1 69 31)) + 1).toInt → ((7 * (yA.1 69 31)) + 1).toInt < 1050 → 0 ≤ ((7 * (yA.1 69 31)) + 2).toInt → ((7 * (yA.1 69 31)) + 2).toInt < 1050 → 0 ≤ ((7 * (yA.1 69 31)) + 3).toInt → ((7 * (yA.1 69 31)) + 3).toInt < 1050 → 0 ≤ ((7 * (yA.1 69 31)) + 4).toInt → ((7 * (yA.1 69 31)) + 4).toInt < 1050 → 0 ≤ ((7 * (yA.1 69 31)) + 5).toInt → ((7 * (yA.1 69 31)) + 5).toInt < 1050 → 0 ≤ ((7 * (yA.1 69 31)) + 6).toInt → ((7 * (yA.1 69 31)) + 6).toInt < 1050 → yQ (some (.int (((yA.1 69 31) + 1) - 1))) (uI (uI (uI (uI (uI (uI (uI (uI (uI (uI (uI yA 89 ((yA.1 69 31).toInt.toNat) yk) 90 (((7 * (yA.1 69 31)) + 0).toInt.toNat) (yA.1 88 0)) 90 (((7 * (yA.1 69 31)) + 1).toInt.toNat) (yA.1 88 1)) 90 (((7 * (yA.1 69 31)) + 2).toInt.toNat) (yA.1 88 2)) 90 (((7 * (yA.1 69 31)) + 3).toInt.toNat) (yA.1 88 3)) 90 (((7 * (yA.1 69 31)) + 4).toInt.toNat) (yA.1 88 4)) 90 (((7 * (yA.1 69 31)) + 5).toInt.toNat) (yA.1 88 5)) 90 (((7 * (yA.1 69 31)) + 6).toInt.toNat) (yA.1 88 6)) 91 ((yA.1 69 31).toInt.toNat) yn) 93 ((yA.1 69 31).toInt.toNat) (-1)) 69 31 ((yA.1 69 31) + 1)))
    (l2 : (yA.1 69 31).toInt = 150 → yQ (some (.int (-2))) yA) :
    Pa N 179 165 [(0, .ref 69), (1, .int yk), (2, .int yn), (3, .int yg)] [] yA yQ := by
  refine Pa.mp 1 (pc' := 166) (l' := [(0, .ref 69), (1, .int yk), (2, .int yn), (3, .int yg)]) (st' := [.ref 69]) (by rfl) ?_
  refine Pa.gfI (v := yA.1 69 31) (by rfl) (by rfl) (.inl rfl) (by rfl) (by rfl) ?_
  refine Pa.ic (x := 150) (pc' := 172) (by rfl) (by rfl) (by decide) ?_
  refine Pa.if2 (a := (yA.1 69 31).toInt) (b := 150) (t := 178) (by rfl) (by rfl) (rfl) (by decide) (fun h1 => ?_) (fun h2 => ?_)
  · have h1 : (yA.1 69 31).toInt ≠ 150 := h1
    refine Pa.mp 1 (pc' := 179) (l' := [(0, .ref 69), (1, .int yk), (2, .int yn), (3, .int yg)]) (st' := [.ref 69]) (by rfl) ?_
    refine Pa.gfR (by rfl) (by rfl) (.inl rfl) (by rfl) ?_
    show Pa N 179 182 [(0, .ref 69), (1, .int yk), (2, .int yn), (3, .int yg)] [.ref 89] yA _
    refine Pa.mp 1 (pc' := 183) (l' := [(0, .ref 69), (1, .int yk), (2, .int yn), (3, .int yg)]) (st' := [.ref 69, .ref 89]) (by rfl) ?_
    refine Pa.gfI (v := yA.1 69 31) (by rfl) (by rfl) (.inl rfl) (by rfl) (by rfl) ?_
    refine Pa.mp 1 (pc' := 187) (l' := [(0, .ref 69), (1, .int yk), (2, .int yn), (3, .int yg)]) (st' := [.int yk, .int (yA.1 69 31), .ref 89]) (by rfl) ?_
    refine Pa.asts (j' := ((yA.1 69 31).toInt.toNat)) (by rfl) (by rfl) (by rfl) (fun h3 h4 => ?_)
    have h3 : 0 ≤ (yA.1 69 31).toInt := h3
    have h4 : (yA.1 69 31).toInt < 150 := h4
    show Pa N 179 188 [(0, .ref 69), (1, .int yk), (2, .int yn), (3, .int yg)] [] (uI yA 89 ((yA.1 69 31).toInt.toNat) yk) _
    refine Pa.ic (x := 0) (pc' := 189) (by rfl) (by rfl) (by decide) ?_
    refine Pa.mp 2 (pc' := 193) (l' := [(4, .int 0), (0, .ref 69), (1, .int yk), (2, .int yn), (3, .int yg)]) (st' := [.int 0]) (by rfl) ?_
    refine Pa.ic (x := 7) (pc' := 195) (by rfl) (by rfl) (by decide) ?_
    refine Pa.if2k false (by rfl) (by rfl) (by decide) ?_
    show Pa N 179 198 [(4, .int 0), (0, .ref 69), (1, .int yk), (2, .int yn), (3, .int yg)] [] (uI yA 89 ((yA.1 69 31).toInt.toNat) yk) _
    refine Pa.mp 1 (pc' := 199) (l' := [(4, .int 0), (0, .ref 69), (1, .int yk), (2, .int yn), (3, .int yg)]) (st' := [.ref 69]) (by rfl) ?_
    refine Pa.gfR (by rfl) (by rfl) (.inl rfl) (by rfl) ?_
    show Pa N 179 202 [(4, .int 0), (0, .ref 69), (1, .int yk), (2, .int yn), (3, .int yg)] [.ref 90] (uI yA 89 ((yA.1 69 31).toInt.toNat) yk) _
    refine Pa.ic (x := 7) (pc' := 204) (by rfl) (by rfl) (by decide) ?_
    refine Pa.mp 1 (pc' := 205) (l' := [(4, .int 0), (0, .ref 69), (1, .int yk), (2, .int yn), (3, .int yg)]) (st' := [.ref 69, .int 7, .ref 90]) (by rfl) ?_
    refine Pa.gfI (v := yA.1 69 31) (by rfl) (by rfl) (.inl rfl) (by rfl) (by show (uI yA 89 ((yA.1 69 31).toInt.toNat) yk).1 69 31 = yA.1 69 31; rw [uI_c (by decide)]) ?_
    refine Pa.mp 4 (pc' := 213) (l' := [(4, .int 0), (0, .ref 69), (1, .int yk), (2, .int yn), (3, .int yg)]) (st' := [.ref 69, .int ((7 * (yA.1 69 31)) + 0), .ref 90]) (by rfl) ?_
    refine Pa.gfR (by rfl) (by rfl) (.inl rfl) (by rfl) ?_
    show Pa N 179 216 [(4, .int 0), (0, .ref 69), (1, .int yk), (2, .int yn), (3, .int yg)] [.ref 88, .int ((7 * (yA.1 69 31)) + 0), .ref 90] (uI yA 89 ((yA.1 69 31).toInt.toNat) yk) _
    refine Pa.mp 1 (pc' := 218) (l' := [(4, .int 0), (0, .ref 69), (1, .int yk), (2, .int yn), (3, .int yg)]) (st' := [.int 0, .ref 88, .int ((7 * (yA.1 69 31)) + 0), .ref 90]) (by rfl) ?_
    refine Pa.alds (v := yA.1 88 0) (by rfl) (by rfl) (by show (uI yA 89 ((yA.1 69 31).toInt.toNat) yk).1 88 0 = yA.1 88 0; rw [uI_c (by decide)]) (fun h5 h6 => ?_)
    refine Pa.asts (j' := (((7 * (yA.1 69 31)) + 0).toInt.toNat)) (by rfl) (by rfl) (by rfl) (fun h7 h8 => ?_)
    have h7 : 0 ≤ ((7 * (yA.1 69 31)) + 0).toInt := h7
    have h8 : ((7 * (yA.1 69 31)) + 0).toInt < 1050 := h8
    show Pa N 179 220 [(4, .int 0), (0, .ref 69), (1, .int yk), (2, .int yn), (3, .int yg)] [] (uI (uI yA 89 ((yA.1 69 31).toInt.toNat) yk) 90 (((7 * (yA.1 69 31)) + 0).toInt.toNat) (yA.1 88 0)) _
    refine Pa.iinc (x := 0) (c := 1) (v := 1) (l' := [(4, .int 1), (0, .ref 69), (1, .int yk), (2, .int yn), (3, .int yg)]) (by rfl) (by rfl) (by decide) (by decide) (by rfl) ?_
    refine Pa.mp 2 (pc' := 193) (l' := [(4, .int 1), (0, .ref 69), (1, .int yk), (2, .int yn), (3, .int yg)]) (st' := [.int 1]) (by rfl) ?_
    refine Pa.ic (x := 7) (pc' := 195) (by rfl) (by rfl) (by decide) ?_
    refine Pa.if2k false (by rfl) (by rfl) (by decide) ?_
    show Pa N 179 198 [(4, .int 1), (0, .ref 69), (1, .int yk), (2, .int yn), (3, .int yg)] [] (uI (uI yA 89 ((yA.1 69 31).toInt.toNat) yk) 90 (((7 * (yA.1 69 31)) + 0).toInt.toNat) (yA.1 88 0)) _
    refine Pa.mp 1 (pc' := 199) (l' := [(4, .int 1), (0, .ref 69), (1, .int yk), (2, .int yn), (3, .int yg)]) (st' := [.ref 69]) (by rfl) ?_
    refine Pa.gfR (by rfl) (by rfl) (.inl rfl) (by rfl) ?_
    show Pa N 179 202 [(4, .int 1), (0, .ref 69), (1, .int yk), (2, .int yn), (3, .int yg)] [.ref 90] (uI (uI yA 89 ((yA.1 69 31).toInt.toNat) yk) 90 (((7 * (yA.1 69 31)) + 0).toInt.toNat) (yA.1 88 0)) _
    refine Pa.ic (x := 7) (pc' := 204) (by rfl) (by rfl) (by decide) ?_
    refine Pa.mp 1 (pc' := 205) (l' := [(4, .int 1), (0, .ref 69), (1, .int yk), (2, .int yn), (3, .int yg)]) (st' := [.ref 69, .int 7, .ref 90]) (by rfl) ?_
    refine Pa.gfI (v := yA.1 69 31) (by rfl) (by rfl) (.inl rfl) (by rfl) (by show (uI (uI yA 89 ((yA.1 69 31).toInt.toNat) yk) 90 (((7 * (yA.1 69 31)) + 0).toInt.toNat) (yA.1 88 0)).1 69 31 = yA.1 69 31; rw [uI_c (by decide), uI_c (by decide)]) ?_
    refine Pa.mp 4 (pc' := 213) (l' := [(4, .int 1), (0, .ref 69), (1, .int yk), (2, .int yn), (3, .int yg)]) (st' := [.ref 69, .int ((7 * (yA.1 69 31)) + 1), .ref 90]) (by rfl) ?_
    refine Pa.gfR (by rfl) (by rfl) (.inl rfl) (by rfl) ?_
    show Pa N 179 216 [(4, .int 1), (0, .ref 69), (1, .int yk), (2, .int yn), (3, .int yg)] [.ref 88, .int ((7 * (yA.1 69 31)) + 1), .ref 90] (uI (uI yA 89 ((yA.1 69 31).toInt.toNat) yk) 90 (((7 * (yA.1 69 31)) + 0).toInt.toNat) (yA.1 88 0)) _
    refine Pa.mp 1 (pc' := 218) (l' := [(4, .int 1), (0, .ref 69), (1, .int yk), (2, .int yn), (3, .int yg)]) (st' := [.int 1, .ref 88, .int ((7 * (yA.1 69 31)) + 1), .ref 90]) (by rfl) ?_
    refine Pa.alds (v := yA.1 88 1) (by rfl) (by rfl) (by show (uI (uI yA 89 ((yA.1 69 31).toInt.toNat) yk) 90 (((7 * (yA.1 69 31)) + 0).toInt.toNat) (yA.1 88 0)).1 88 1 = yA.1 88 1; rw [uI_c (by decide), uI_c (by decide)]) (fun h9 h10 => ?_)
    refine Pa.asts (j' := (((7 * (yA.1 69 31)) + 1).toInt.toNat)) (by rfl) (by rfl) (by rfl) (fun h11 h12 => ?_)
    have h11 : 0 ≤ ((7 * (yA.1 69 31)) + 1).toInt := h11
    have h12 : ((7 * (yA.1 69 31)) + 1).toInt < 1050 := h12
    show Pa N 179 220 [(4, .int 1), (0, .ref 69), (1, .int yk), (2, .int yn), (3, .int yg)] [] (uI (uI (uI yA 89 ((yA.1 69 31).toInt.toNat) yk) 90 (((7 * (yA.1 69 31)) + 0).toInt.toNat) (yA.1 88 0)) 90 (((7 * (yA.1 69 31)) + 1).toInt.toNat) (yA.1 88 1)) _
    refine Pa.iinc (x := 1) (c := 1) (v := 2) (l' := [(4, .int 2), (0, .ref 69), (1, .int yk), (2, .int yn), (3, .int yg)]) (by rfl) (by rfl) (by decide) (by decide) (by rfl) ?_
    refine Pa.mp 2 (pc' := 193) (l' := [(4, .int 2), (0, .ref 69), (1, .int yk), (2, .int yn), (3, .int yg)]) (st' := [.int 2]) (by rfl) ?_
    refine Pa.ic (x := 7) (pc' := 195) (by rfl) (by rfl) (by decide) ?_
    refine Pa.if2k false (by rfl) (by rfl) (by decide) ?_
    show Pa N 179 198 [(4, .int 2), (0, .ref 69), (1, .int yk), (2, .int yn), (3, .int yg)] [] (uI (uI (uI yA 89 ((yA.1 69 31).toInt.toNat) yk) 90 (((7 * (yA.1 69 31)) + 0).toInt.toNat) (yA.1 88 0)) 90 (((7 * (yA.1 69 31)) + 1).toInt.toNat) (yA.1 88 1)) _
    refine Pa.mp 1 (pc' := 199) (l' := [(4, .int 2), (0, .ref 69), (1, .int yk), (2, .int yn), (3, .int yg)]) (st' := [.ref 69]) (by rfl) ?_
    refine Pa.gfR (by rfl) (by rfl) (.inl rfl) (by rfl) ?_
    show Pa N 179 202 [(4, .int 2), (0, .ref 69), (1, .int yk), (2, .int yn), (3, .int yg)] [.ref 90] (uI (uI (uI yA 89 ((yA.1 69 31).toInt.toNat) yk) 90 (((7 * (yA.1 69 31)) + 0).toInt.toNat) (yA.1 88 0)) 90 (((7 * (yA.1 69 31)) + 1).toInt.toNat) (yA.1 88 1)) _
    refine Pa.ic (x := 7) (pc' := 204) (by rfl) (by rfl) (by decide) ?_
    refine Pa.mp 1 (pc' := 205) (l' := [(4, .int 2), (0, .ref 69), (1, .int yk), (2, .int yn), (3, .int yg)]) (st' := [.ref 69, .int 7, .ref 90]) (by rfl) ?_
    refine Pa.gfI (v := yA.1 69 31) (by rfl) (by rfl) (.inl rfl) (by rfl) (by show (uI (uI (uI yA 89 ((yA.1 69 31).toInt.toNat) yk) 90 (((7 * (yA.1 69 31)) + 0).toInt.toNat) (yA.1 88 0)) 90 (((7 * (yA.1 69 31)) + 1).toInt.toNat) (yA.1 88 1)).1 69 31 = yA.1 69 31; rw [uI_c (by decide), uI_c (by decide), uI_c (by decide)]) ?_
    refine Pa.mp 4 (pc' := 213) (l' := [(4, .int 2), (0, .ref 69), (1, .int yk), (2, .int yn), (3, .int yg)]) (st' := [.ref 69, .int ((7 * (yA.1 69 31)) + 2), .ref 90]) (by rfl) ?_
    refine Pa.gfR (by rfl) (by rfl) (.inl rfl) (by rfl) ?_
    show Pa N 179 216 [(4, .int 2), (0, .ref 69), (1, .int yk), (2, .int yn), (3, .int yg)] [.ref 88, .int ((7 * (yA.1 69 31)) + 2), .ref 90] (uI (uI (uI yA 89 ((yA.1 69 31).toInt.toNat) yk) 90 (((7 * (yA.1 69 31)) + 0).toInt.toNat) (yA.1 88 0)) 90 (((7 * (yA.1 69 31)) + 1).toInt.toNat) (yA.1 88 1)) _
    refine Pa.mp 1 (pc' := 218) (l' := [(4, .int 2), (0, .ref 69), (1, .int yk), (2, .int yn), (3, .int yg)]) (st' := [.int 2, .ref 88, .int ((7 * (yA.1 69 31)) + 2), .ref 90]) (by rfl) ?_
    refine Pa.alds (v := yA.1 88 2) (by rfl) (by rfl) (by show (uI (uI (uI yA 89 ((yA.1 69 31).toInt.toNat) yk) 90 (((7 * (yA.1 69 31)) + 0).toInt.toNat) (yA.1 88 0)) 90 (((7 * (yA.1 69 31)) + 1).toInt.toNat) (yA.1 88 1)).1 88 2 = yA.1 88 2; rw [uI_c (by decide), uI_c (by decide), uI_c (by decide)]) (fun h13 h14 => ?_)
    refine Pa.asts (j' := (((7 * (yA.1 69 31)) + 2).toInt.toNat)) (by rfl) (by rfl) (by rfl) (fun h15 yh16 => ?_)
    have h15 : 0 ≤ ((7 * (yA.1 69 31)) + 2).toInt := h15
    have yh16 : ((7 * (yA.1 69 31)) + 2).toInt < 1050 := yh16
    show Pa N 179 220 [(4, .int 2), (0, .ref 69), (1, .int yk), (2, .int yn), (3, .int yg)] [] (uI (uI (uI (uI yA 89 ((yA.1 69 31).toInt.toNat) yk) 90 (((7 * (yA.1 69 31)) + 0).toInt.toNat) (yA.1 88 0)) 90 (((7 * (yA.1 69 31)) + 1).toInt.toNat) (yA.1 88 1)) 90 (((7 * (yA.1 69 31)) + 2).toInt.toNat) (yA.1 88 2)) _
    refine Pa.iinc (x := 2) (c := 1) (v := 3) (l' := [(4, .int 3), (0, .ref 69), (1, .int yk), (2, .int yn), (3, .int yg)]) (by rfl) (by rfl) (by decide) (by decide) (by rfl) ?_
    refine Pa.mp 2 (pc' := 193) (l' := [(4, .int 3), (0, .ref 69), (1, .int yk), (2, .int yn), (3, .int yg)]) (st' := [.int 3]) (by rfl) ?_
    refine Pa.ic (x := 7) (pc' := 195) (by rfl) (by rfl) (by decide) ?_
    refine Pa.if2k false (by rfl) (by rfl) (by decide) ?_
    show Pa N 179 198 [(4, .int 3), (0, .ref 69), (1, .int yk), (2, .int yn), (3, .int yg)] [] (uI (uI (uI (uI yA 89 ((yA.1 69 31).toInt.toNat) yk) 90 (((7 * (yA.1 69 31)) + 0).toInt.toNat) (yA.1 88 0)) 90 (((7 * (yA.1 69 31)) + 1).toInt.toNat) (yA.1 88 1)) 90 (((7 * (yA.1 69 31)) + 2).toInt.toNat) (yA.1 88 2)) _
    refine Pa.mp 1 (pc' := 199) (l' := [(4, .int 3), (0, .ref 69), (1, .int yk), (2, .int yn), (3, .int yg)]) (st' := [.ref 69]) (by rfl) ?_
    refine Pa.gfR (by rfl) (by rfl) (.inl rfl) (by rfl) ?_
    show Pa N 179 202 [(4, .int 3), (0, .ref 69), (1, .int yk), (2, .int yn), (3, .int yg)] [.ref 90] (uI (uI (uI (uI yA 89 ((yA.1 69 31).toInt.toNat) yk) 90 (((7 * (yA.1 69 31)) + 0).toInt.toNat) (yA.1 88 0)) 90 (((7 * (yA.1 69 31)) + 1).toInt.toNat) (yA.1 88 1)) 90 (((7 * (yA.1 69 31)) + 2).toInt.toNat) (yA.1 88 2)) _
    refine Pa.ic (x := 7) (pc' := 204) (by rfl) (by rfl) (by decide) ?_
    refine Pa.mp 1 (pc' := 205) (l' := [(4, .int 3), (0, .ref 69), (1, .int yk), (2, .int yn), (3, .int yg)]) (st' := [.ref 69, .int 7, .ref 90]) (by rfl) ?_
    refine Pa.gfI (v := yA.1 69 31) (by rfl) (by rfl) (.inl rfl) (by rfl) (by show (uI (uI (uI (uI yA 89 ((yA.1 69 31).toInt.toNat) yk) 90 (((7 * (yA.1 69 31)) + 0).toInt.toNat) (yA.1 88 0)) 90 (((7 * (yA.1 69 31)) + 1).toInt.toNat) (yA.1 88 1)) 90 (((7 * (yA.1 69 31)) + 2).toInt.toNat) (yA.1 88 2)).1 69 31 = yA.1 69 31; rw [uI_c (by decide), uI_c (by decide), uI_c (by decide), uI_c (by decide)]) ?_
    refine Pa.mp 4 (pc' := 213) (l' := [(4, .int 3), (0, .ref 69), (1, .int yk), (2, .int yn), (3, .int yg)]) (st' := [.ref 69, .int ((7 * (yA.1 69 31)) + 3), .ref 90]) (by rfl) ?_
    refine Pa.gfR (by rfl) (by rfl) (.inl rfl) (by rfl) ?_
    show Pa N 179 216 [(4, .int 3), (0, .ref 69), (1, .int yk), (2, .int yn), (3, .int yg)] [.ref 88, .int ((7 * (yA.1 69 31)) + 3), .ref 90] (uI (uI (uI (uI yA 89 ((yA.1 69 31).toInt.toNat) yk) 90 (((7 * (yA.1 69 31)) + 0).toInt.toNat) (yA.1 88 0)) 90 (((7 * (yA.1 69 31)) + 1).toInt.toNat) (yA.1 88 1)) 90 (((7 * (yA.1 69 31)) + 2).toInt.toNat) (yA.1 88 2)) _
    refine Pa.mp 1 (pc' := 218) (l' := [(4, .int 3), (0, .ref 69), (1, .int yk), (2, .int yn), (3, .int yg)]) (st' := [.int 3, .ref 88, .int ((7 * (yA.1 69 31)) + 3), .ref 90]) (by rfl) ?_
    refine Pa.alds (v := yA.1 88 3) (by rfl) (by rfl) (by show (uI (uI (uI (uI yA 89 ((yA.1 69 31).toInt.toNat) yk) 90 (((7 * (yA.1 69 31)) + 0).toInt.toNat) (yA.1 88 0)) 90 (((7 * (yA.1 69 31)) + 1).toInt.toNat) (yA.1 88 1)) 90 (((7 * (yA.1 69 31)) + 2).toInt.toNat) (yA.1 88 2)).1 88 3 = yA.1 88 3; rw [uI_c (by decide), uI_c (by decide), uI_c (by decide), uI_c (by decide)]) (fun h17 h18 => ?_)
    refine Pa.asts (j' := (((7 * (yA.1 69 31)) + 3).toInt.toNat)) (by rfl) (by rfl) (by rfl) (fun h19 h20 => ?_)
    have h19 : 0 ≤ ((7 * (yA.1 69 31)) + 3).toInt := h19
    have h20 : ((7 * (yA.1 69 31)) + 3).toInt < 1050 := h20
    show Pa N 179 220 [(4, .int 3), (0, .ref 69), (1, .int yk), (2, .int yn), (3, .int yg)] [] (uI (uI (uI (uI (uI yA 89 ((yA.1 69 31).toInt.toNat) yk) 90 (((7 * (yA.1 69 31)) + 0).toInt.toNat) (yA.1 88 0)) 90 (((7 * (yA.1 69 31)) + 1).toInt.toNat) (yA.1 88 1)) 90 (((7 * (yA.1 69 31)) + 2).toInt.toNat) (yA.1 88 2)) 90 (((7 * (yA.1 69 31)) + 3).toInt.toNat) (yA.1 88 3)) _
    refine Pa.iinc (x := 3) (c := 1) (v := 4) (l' := [(4, .int 4), (0, .ref 69), (1, .int yk), (2, .int yn), (3, .int yg)]) (by rfl) (by rfl) (by decide) (by decide) (by rfl) ?_
    refine Pa.mp 2 (pc' := 193) (l' := [(4, .int 4), (0, .ref 69), (1, .int yk), (2, .int yn), (3, .int yg)]) (st' := [.int 4]) (by rfl) ?_
    refine Pa.ic (x := 7) (pc' := 195) (by rfl) (by rfl) (by decide) ?_
    refine Pa.if2k false (by rfl) (by rfl) (by decide) ?_
    show Pa N 179 198 [(4, .int 4), (0, .ref 69), (1, .int yk), (2, .int yn), (3, .int yg)] [] (uI (uI (uI (uI (uI yA 89 ((yA.1 69 31).toInt.toNat) yk) 90 (((7 * (yA.1 69 31)) + 0).toInt.toNat) (yA.1 88 0)) 90 (((7 * (yA.1 69 31)) + 1).toInt.toNat) (yA.1 88 1)) 90 (((7 * (yA.1 69 31)) + 2).toInt.toNat) (yA.1 88 2)) 90 (((7 * (yA.1 69 31)) + 3).toInt.toNat) (yA.1 88 3)) _
    refine Pa.mp 1 (pc' := 199) (l' := [(4, .int 4), (0, .ref 69), (1, .int yk), (2, .int yn), (3, .int yg)]) (st' := [.ref 69]) (by rfl) ?_
    refine Pa.gfR (by rfl) (by rfl) (.inl rfl) (by rfl) ?_
    show Pa N 179 202 [(4, .int 4), (0, .ref 69), (1, .int yk), (2, .int yn), (3, .int yg)] [.ref 90] (uI (uI (uI (uI (uI yA 89 ((yA.1 69 31).toInt.toNat) yk) 90 (((7 * (yA.1 69 31)) + 0).toInt.toNat) (yA.1 88 0)) 90 (((7 * (yA.1 69 31)) + 1).toInt.toNat) (yA.1 88 1)) 90 (((7 * (yA.1 69 31)) + 2).toInt.toNat) (yA.1 88 2)) 90 (((7 * (yA.1 69 31)) + 3).toInt.toNat) (yA.1 88 3)) _
    refine Pa.ic (x := 7) (pc' := 204) (by rfl) (by rfl) (by decide) ?_
    refine Pa.mp 1 (pc' := 205) (l' := [(4, .int 4), (0, .ref 69), (1, .int yk), (2, .int yn), (3, .int yg)]) (st' := [.ref 69, .int 7, .ref 90]) (by rfl) ?_
    refine Pa.gfI (v := yA.1 69 31) (by rfl) (by rfl) (.inl rfl) (by rfl) (by show (uI (uI (uI (uI (uI yA 89 ((yA.1 69 31).toInt.toNat) yk) 90 (((7 * (yA.1 69 31)) + 0).toInt.toNat) (yA.1 88 0)) 90 (((7 * (yA.1 69 31)) + 1).toInt.toNat) (yA.1 88 1)) 90 (((7 * (yA.1 69 31)) + 2).toInt.toNat) (yA.1 88 2)) 90 (((7 * (yA.1 69 31)) + 3).toInt.toNat) (yA.1 88 3)).1 69 31 = yA.1 69 31; rw [uI_c (by decide), uI_c (by decide), uI_c (by decide), uI_c (by decide), uI_c (by decide)]) ?_
    refine Pa.mp 4 (pc' := 213) (l' := [(4, .int 4), (0, .ref 69), (1, .int yk), (2, .int yn), (3, .int yg)]) (st' := [.ref 69, .int ((7 * (yA.1 69 31)) + 4), .ref 90]) (by rfl) ?_
    refine Pa.gfR (by rfl) (by rfl) (.inl rfl) (by rfl) ?_
    show Pa N 179 216 [(4, .int 4), (0, .ref 69), (1, .int yk), (2, .int yn), (3, .int yg)] [.ref 88, .int ((7 * (yA.1 69 31)) + 4), .ref 90] (uI (uI (uI (uI (uI yA 89 ((yA.1 69 31).toInt.toNat) yk) 90 (((7 * (yA.1 69 31)) + 0).toInt.toNat) (yA.1 88 0)) 90 (((7 * (yA.1 69 31)) + 1).toInt.toNat) (yA.1 88 1)) 90 (((7 * (yA.1 69 31)) + 2).toInt.toNat) (yA.1 88 2)) 90 (((7 * (yA.1 69 31)) + 3).toInt.toNat) (yA.1 88 3)) _
    refine Pa.mp 1 (pc' := 218) (l' := [(4, .int 4), (0, .ref 69), (1, .int yk), (2, .int yn), (3, .int yg)]) (st' := [.int 4, .ref 88, .int ((7 * (yA.1 69 31)) + 4), .ref 90]) (by rfl) ?_
    refine Pa.alds (v := yA.1 88 4) (by rfl) (by rfl) (by show (uI (uI (uI (uI (uI yA 89 ((yA.1 69 31).toInt.toNat) yk) 90 (((7 * (yA.1 69 31)) + 0).toInt.toNat) (yA.1 88 0)) 90 (((7 * (yA.1 69 31)) + 1).toInt.toNat) (yA.1 88 1)) 90 (((7 * (yA.1 69 31)) + 2).toInt.toNat) (yA.1 88 2)) 90 (((7 * (yA.1 69 31)) + 3).toInt.toNat) (yA.1 88 3)).1 88 4 = yA.1 88 4; rw [uI_c (by decide), uI_c (by decide), uI_c (by decide), uI_c (by decide), uI_c (by decide)]) (fun h21 h22 => ?_)
    refine Pa.asts (j' := (((7 * (yA.1 69 31)) + 4).toInt.toNat)) (by rfl) (by rfl) (by rfl) (fun h23 h24 => ?_)
    have h23 : 0 ≤ ((7 * (yA.1 69 31)) + 4).toInt := h23
    have h24 : ((7 * (yA.1 69 31)) + 4).toInt < 1050 := h24
    show Pa N 179 220 [(4, .int 4), (0, .ref 69), (1, .int yk), (2, .int yn), (3, .int yg)] [] (uI (uI (uI (uI (uI (uI yA 89 ((yA.1 69 31).toInt.toNat) yk) 90 (((7 * (yA.1 69 31)) + 0).toInt.toNat) (yA.1 88 0)) 90 (((7 * (yA.1 69 31)) + 1).toInt.toNat) (yA.1 88 1)) 90 (((7 * (yA.1 69 31)) + 2).toInt.toNat) (yA.1 88 2)) 90 (((7 * (yA.1 69 31)) + 3).toInt.toNat) (yA.1 88 3)) 90 (((7 * (yA.1 69 31)) + 4).toInt.toNat) (yA.1 88 4)) _
    refine Pa.iinc (x := 4) (c := 1) (v := 5) (l' := [(4, .int 5), (0, .ref 69), (1, .int yk), (2, .int yn), (3, .int yg)]) (by rfl) (by rfl) (by decide) (by decide) (by rfl) ?_
    refine Pa.mp 2 (pc' := 193) (l' := [(4, .int 5), (0, .ref 69), (1, .int yk), (2, .int yn), (3, .int yg)]) (st' := [.int 5]) (by rfl) ?_
    refine Pa.ic (x := 7) (pc' := 195) (by rfl) (by rfl) (by decide) ?_
    refine Pa.if2k false (by rfl) (by rfl) (by decide) ?_
    show Pa N 179 198 [(4, .int 5), (0, .ref 69), (1, .int yk), (2, .int yn), (3, .int yg)] [] (uI (uI (uI (uI (uI (uI yA 89 ((yA.1 69 31).toInt.toNat) yk) 90 (((7 * (yA.1 69 31)) + 0).toInt.toNat) (yA.1 88 0)) 90 (((7 * (yA.1 69 31)) + 1).toInt.toNat) (yA.1 88 1)) 90 (((7 * (yA.1 69 31)) + 2).toInt.toNat) (yA.1 88 2)) 90 (((7 * (yA.1 69 31)) + 3).toInt.toNat) (yA.1 88 3)) 90 (((7 * (yA.1 69 31)) + 4).toInt.toNat) (yA.1 88 4)) _
    refine Pa.mp 1 (pc' := 199) (l' := [(4, .int 5), (0, .ref 69), (1, .int yk), (2, .int yn), (3, .int yg)]) (st' := [.ref 69]) (by rfl) ?_
    refine Pa.gfR (by rfl) (by rfl) (.inl rfl) (by rfl) ?_
    show Pa N 179 202 [(4, .int 5), (0, .ref 69), (1, .int yk), (2, .int yn), (3, .int yg)] [.ref 90] (uI (uI (uI (uI (uI (uI yA 89 ((yA.1 69 31).toInt.toNat) yk) 90 (((7 * (yA.1 69 31)) + 0).toInt.toNat) (yA.1 88 0)) 90 (((7 * (yA.1 69 31)) + 1).toInt.toNat) (yA.1 88 1)) 90 (((7 * (yA.1 69 31)) + 2).toInt.toNat) (yA.1 88 2)) 90 (((7 * (yA.1 69 31)) + 3).toInt.toNat) (yA.1 88 3)) 90 (((7 * (yA.1 69 31)) + 4).toInt.toNat) (yA.1 88 4)) _
    refine Pa.ic (x := 7) (pc' := 204) (by rfl) (by rfl) (by decide) ?_
    refine Pa.mp 1 (pc' := 205) (l' := [(4, .int 5), (0, .ref 69), (1, .int yk), (2, .int yn), (3, .int yg)]) (st' := [.ref 69, .int 7, .ref 90]) (by rfl) ?_
    refine Pa.gfI (v := yA.1 69 31) (by rfl) (by rfl) (.inl rfl) (by rfl) (by show (uI (uI (uI (uI (uI (uI yA 89 ((yA.1 69 31).toInt.toNat) yk) 90 (((7 * (yA.1 69 31)) + 0).toInt.toNat) (yA.1 88 0)) 90 (((7 * (yA.1 69 31)) + 1).toInt.toNat) (yA.1 88 1)) 90 (((7 * (yA.1 69 31)) + 2).toInt.toNat) (yA.1 88 2)) 90 (((7 * (yA.1 69 31)) + 3).toInt.toNat) (yA.1 88 3)) 90 (((7 * (yA.1 69 31)) + 4).toInt.toNat) (yA.1 88 4)).1 69 31 = yA.1 69 31; rw [uI_c (by decide), uI_c (by decide), uI_c (by decide), uI_c (by decide), uI_c (by decide), uI_c (by decide)]) ?_
    refine Pa.mp 4 (pc' := 213) (l' := [(4, .int 5), (0, .ref 69), (1, .int yk), (2, .int yn), (3, .int yg)]) (st' := [.ref 69, .int ((7 * (yA.1 69 31)) + 5), .ref 90]) (by rfl) ?_
    refine Pa.gfR (by rfl) (by rfl) (.inl rfl) (by rfl) ?_
    show Pa N 179 216 [(4, .int 5), (0, .ref 69), (1, .int yk), (2, .int yn), (3, .int yg)] [.ref 88, .int ((7 * (yA.1 69 31)) + 5), .ref 90] (uI (uI (uI (uI (uI (uI yA 89 ((yA.1 69 31).toInt.toNat) yk) 90 (((7 * (yA.1 69 31)) + 0).toInt.toNat) (yA.1 88 0)) 90 (((7 * (yA.1 69 31)) + 1).toInt.toNat) (yA.1 88 1)) 90 (((7 * (yA.1 69 31)) + 2).toInt.toNat) (yA.1 88 2)) 90 (((7 * (yA.1 69 31)) + 3).toInt.toNat) (yA.1 88 3)) 90 (((7 * (yA.1 69 31)) + 4).toInt.toNat) (yA.1 88 4)) _
    refine Pa.mp 1 (pc' := 218) (l' := [(4, .int 5), (0, .ref 69), (1, .int yk), (2, .int yn), (3, .int yg)]) (st' := [.int 5, .ref 88, .int ((7 * (yA.1 69 31)) + 5), .ref 90]) (by rfl) ?_
    refine Pa.alds (v := yA.1 88 5) (by rfl) (by rfl) (by show (uI (uI (uI (uI (uI (uI yA 89 ((yA.1 69 31).toInt.toNat) yk) 90 (((7 * (yA.1 69 31)) + 0).toInt.toNat) (yA.1 88 0)) 90 (((7 * (yA.1 69 31)) + 1).toInt.toNat) (yA.1 88 1)) 90 (((7 * (yA.1 69 31)) + 2).toInt.toNat) (yA.1 88 2)) 90 (((7 * (yA.1 69 31)) + 3).toInt.toNat) (yA.1 88 3)) 90 (((7 * (yA.1 69 31)) + 4).toInt.toNat) (yA.1 88 4)).1 88 5 = yA.1 88 5; rw [uI_c (by decide), uI_c (by decide), uI_c (by decide), uI_c (by decide), uI_c (by decide), uI_c (by decide)]) (fun h25 h26 => ?_)
    refine Pa.asts (j' := (((7 * (yA.1 69 31)) + 5).toInt.toNat)) (by rfl) (by rfl) (by rfl) (fun h27 h28 => ?_)
    have h27 : 0 ≤ ((7 * (yA.1 69 31)) + 5).toInt := h27
    have h28 : ((7 * (yA.1 69 31)) + 5).toInt < 1050 := h28
    show Pa N 179 220 [(4, .int 5), (0, .ref 69), (1, .int yk), (2, .int yn), (3, .int yg)] [] (uI (uI (uI (uI (uI (uI (uI yA 89 ((yA.1 69 31).toInt.toNat) yk) 90 (((7 * (yA.1 69 31)) + 0).toInt.toNat) (yA.1 88 0)) 90 (((7 * (yA.1 69 31)) + 1).toInt.toNat) (yA.1 88 1)) 90 (((7 * (yA.1 69 31)) + 2).toInt.toNat) (yA.1 88 2)) 90 (((7 * (yA.1 69 31)) + 3).toInt.toNat) (yA.1 88 3)) 90 (((7 * (yA.1 69 31)) + 4).toInt.toNat) (yA.1 88 4)) 90 (((7 * (yA.1 69 31)) + 5).toInt.toNat) (yA.1 88 5)) _
    refine Pa.iinc (x := 5) (c := 1) (v := 6) (l' := [(4, .int 6), (0, .ref 69), (1, .int yk), (2, .int yn), (3, .int yg)]) (by rfl) (by rfl) (by decide) (by decide) (by rfl) ?_
    refine Pa.mp 2 (pc' := 193) (l' := [(4, .int 6), (0, .ref 69), (1, .int yk), (2, .int yn), (3, .int yg)]) (st' := [.int 6]) (by rfl) ?_
    refine Pa.ic (x := 7) (pc' := 195) (by rfl) (by rfl) (by decide) ?_
    refine Pa.if2k false (by rfl) (by rfl) (by decide) ?_
    show Pa N 179 198 [(4, .int 6), (0, .ref 69), (1, .int yk), (2, .int yn), (3, .int yg)] [] (uI (uI (uI (uI (uI (uI (uI yA 89 ((yA.1 69 31).toInt.toNat) yk) 90 (((7 * (yA.1 69 31)) + 0).toInt.toNat) (yA.1 88 0)) 90 (((7 * (yA.1 69 31)) + 1).toInt.toNat) (yA.1 88 1)) 90 (((7 * (yA.1 69 31)) + 2).toInt.toNat) (yA.1 88 2)) 90 (((7 * (yA.1 69 31)) + 3).toInt.toNat) (yA.1 88 3)) 90 (((7 * (yA.1 69 31)) + 4).toInt.toNat) (yA.1 88 4)) 90 (((7 * (yA.1 69 31)) + 5).toInt.toNat) (yA.1 88 5)) _
    refine Pa.mp 1 (pc' := 199) (l' := [(4, .int 6), (0, .ref 69), (1, .int yk), (2, .int yn), (3, .int yg)]) (st' := [.ref 69]) (by rfl) ?_
    refine Pa.gfR (by rfl) (by rfl) (.inl rfl) (by rfl) ?_
    show Pa N 179 202 [(4, .int 6), (0, .ref 69), (1, .int yk), (2, .int yn), (3, .int yg)] [.ref 90] (uI (uI (uI (uI (uI (uI (uI yA 89 ((yA.1 69 31).toInt.toNat) yk) 90 (((7 * (yA.1 69 31)) + 0).toInt.toNat) (yA.1 88 0)) 90 (((7 * (yA.1 69 31)) + 1).toInt.toNat) (yA.1 88 1)) 90 (((7 * (yA.1 69 31)) + 2).toInt.toNat) (yA.1 88 2)) 90 (((7 * (yA.1 69 31)) + 3).toInt.toNat) (yA.1 88 3)) 90 (((7 * (yA.1 69 31)) + 4).toInt.toNat) (yA.1 88 4)) 90 (((7 * (yA.1 69 31)) + 5).toInt.toNat) (yA.1 88 5)) _
    refine Pa.ic (x := 7) (pc' := 204) (by rfl) (by rfl) (by decide) ?_
    refine Pa.mp 1 (pc' := 205) (l' := [(4, .int 6), (0, .ref 69), (1, .int yk), (2, .int yn), (3, .int yg)]) (st' := [.ref 69, .int 7, .ref 90]) (by rfl) ?_
    refine Pa.gfI (v := yA.1 69 31) (by rfl) (by rfl) (.inl rfl) (by rfl) (by show (uI (uI (uI (uI (uI (uI (uI yA 89 ((yA.1 69 31).toInt.toNat) yk) 90 (((7 * (yA.1 69 31)) + 0).toInt.toNat) (yA.1 88 0)) 90 (((7 * (yA.1 69 31)) + 1).toInt.toNat) (yA.1 88 1)) 90 (((7 * (yA.1 69 31)) + 2).toInt.toNat) (yA.1 88 2)) 90 (((7 * (yA.1 69 31)) + 3).toInt.toNat) (yA.1 88 3)) 90 (((7 * (yA.1 69 31)) + 4).toInt.toNat) (yA.1 88 4)) 90 (((7 * (yA.1 69 31)) + 5).toInt.toNat) (yA.1 88 5)).1 69 31 = yA.1 69 31; rw [uI_c (by decide), uI_c (by decide), uI_c (by decide), uI_c (by decide), uI_c (by decide), uI_c (by decide), uI_c (by decide)]) ?_
    refine Pa.mp 4 (pc' := 213) (l' := [(4, .int 6), (0, .ref 69), (1, .int yk), (2, .int yn), (3, .int yg)]) (st' := [.ref 69, .int ((7 * (yA.1 69 31)) + 6), .ref 90]) (by rfl) ?_
    refine Pa.gfR (by rfl) (by rfl) (.inl rfl) (by rfl) ?_
    show Pa N 179 216 [(4, .int 6), (0, .ref 69), (1, .int yk), (2, .int yn), (3, .int yg)] [.ref 88, .int ((7 * (yA.1 69 31)) + 6), .ref 90] (uI (uI (uI (uI (uI (uI (uI yA 89 ((yA.1 69 31).toInt.toNat) yk) 90 (((7 * (yA.1 69 31)) + 0).toInt.toNat) (yA.1 88 0)) 90 (((7 * (yA.1 69 31)) + 1).toInt.toNat) (yA.1 88 1)) 90 (((7 * (yA.1 69 31)) + 2).toInt.toNat) (yA.1 88 2)) 90 (((7 * (yA.1 69 31)) + 3).toInt.toNat) (yA.1 88 3)) 90 (((7 * (yA.1 69 31)) + 4).toInt.toNat) (yA.1 88 4)) 90 (((7 * (yA.1 69 31)) + 5).toInt.toNat) (yA.1 88 5)) _
    refine Pa.mp 1 (pc' := 218) (l' := [(4, .int 6), (0, .ref 69), (1, .int yk), (2, .int yn), (3, .int yg)]) (st' := [.int 6, .ref 88, .int ((7 * (yA.1 69 31)) + 6), .ref 90]) (by rfl) ?_
    refine Pa.alds (v := yA.1 88 6) (by rfl) (by rfl) (by show (uI (uI (uI (uI (uI (uI (uI yA 89 ((yA.1 69 31).toInt.toNat) yk) 90 (((7 * (yA.1 69 31)) + 0).toInt.toNat) (yA.1 88 0)) 90 (((7 * (yA.1 69 31)) + 1).toInt.toNat) (yA.1 88 1)) 90 (((7 * (yA.1 69 31)) + 2).toInt.toNat) (yA.1 88 2)) 90 (((7 * (yA.1 69 31)) + 3).toInt.toNat) (yA.1 88 3)) 90 (((7 * (yA.1 69 31)) + 4).toInt.toNat) (yA.1 88 4)) 90 (((7 * (yA.1 69 31)) + 5).toInt.toNat) (yA.1 88 5)).1 88 6 = yA.1 88 6; rw [uI_c (by decide), uI_c (by decide), uI_c (by decide), uI_c (by decide), uI_c (by decide), uI_c (by decide), uI_c (by decide)]) (fun h29 h30 => ?_)
    refine Pa.asts (j' := (((7 * (yA.1 69 31)) + 6).toInt.toNat)) (by rfl) (by rfl) (by rfl) (fun h31 h32 => ?_)
    have h31 : 0 ≤ ((7 * (yA.1 69 31)) + 6).toInt := h31
    have h32 : ((7 * (yA.1 69 31)) + 6).toInt < 1050 := h32
    show Pa N 179 220 [(4, .int 6), (0, .ref 69), (1, .int yk), (2, .int yn), (3, .int yg)] [] (uI (uI (uI (uI (uI (uI (uI (uI yA 89 ((yA.1 69 31).toInt.toNat) yk) 90 (((7 * (yA.1 69 31)) + 0).toInt.toNat) (yA.1 88 0)) 90 (((7 * (yA.1 69 31)) + 1).toInt.toNat) (yA.1 88 1)) 90 (((7 * (yA.1 69 31)) + 2).toInt.toNat) (yA.1 88 2)) 90 (((7 * (yA.1 69 31)) + 3).toInt.toNat) (yA.1 88 3)) 90 (((7 * (yA.1 69 31)) + 4).toInt.toNat) (yA.1 88 4)) 90 (((7 * (yA.1 69 31)) + 5).toInt.toNat) (yA.1 88 5)) 90 (((7 * (yA.1 69 31)) + 6).toInt.toNat) (yA.1 88 6)) _
    refine Pa.iinc (x := 6) (c := 1) (v := 7) (l' := [(4, .int 7), (0, .ref 69), (1, .int yk), (2, .int yn), (3, .int yg)]) (by rfl) (by rfl) (by decide) (by decide) (by rfl) ?_
    refine Pa.mp 2 (pc' := 193) (l' := [(4, .int 7), (0, .ref 69), (1, .int yk), (2, .int yn), (3, .int yg)]) (st' := [.int 7]) (by rfl) ?_
    refine Pa.ic (x := 7) (pc' := 195) (by rfl) (by rfl) (by decide) ?_
    refine Pa.if2k true (by rfl) (by rfl) (by decide) ?_
    show Pa N 179 226 [(4, .int 7), (0, .ref 69), (1, .int yk), (2, .int yn), (3, .int yg)] [] (uI (uI (uI (uI (uI (uI (uI (uI yA 89 ((yA.1 69 31).toInt.toNat) yk) 90 (((7 * (yA.1 69 31)) + 0).toInt.toNat) (yA.1 88 0)) 90 (((7 * (yA.1 69 31)) + 1).toInt.toNat) (yA.1 88 1)) 90 (((7 * (yA.1 69 31)) + 2).toInt.toNat) (yA.1 88 2)) 90 (((7 * (yA.1 69 31)) + 3).toInt.toNat) (yA.1 88 3)) 90 (((7 * (yA.1 69 31)) + 4).toInt.toNat) (yA.1 88 4)) 90 (((7 * (yA.1 69 31)) + 5).toInt.toNat) (yA.1 88 5)) 90 (((7 * (yA.1 69 31)) + 6).toInt.toNat) (yA.1 88 6)) _
    refine Pa.mp 1 (pc' := 227) (l' := [(4, .int 7), (0, .ref 69), (1, .int yk), (2, .int yn), (3, .int yg)]) (st' := [.ref 69]) (by rfl) ?_
    refine Pa.gfR (by rfl) (by rfl) (.inl rfl) (by rfl) ?_
    show Pa N 179 230 [(4, .int 7), (0, .ref 69), (1, .int yk), (2, .int yn), (3, .int yg)] [.ref 91] (uI (uI (uI (uI (uI (uI (uI (uI yA 89 ((yA.1 69 31).toInt.toNat) yk) 90 (((7 * (yA.1 69 31)) + 0).toInt.toNat) (yA.1 88 0)) 90 (((7 * (yA.1 69 31)) + 1).toInt.toNat) (yA.1 88 1)) 90 (((7 * (yA.1 69 31)) + 2).toInt.toNat) (yA.1 88 2)) 90 (((7 * (yA.1 69 31)) + 3).toInt.toNat) (yA.1 88 3)) 90 (((7 * (yA.1 69 31)) + 4).toInt.toNat) (yA.1 88 4)) 90 (((7 * (yA.1 69 31)) + 5).toInt.toNat) (yA.1 88 5)) 90 (((7 * (yA.1 69 31)) + 6).toInt.toNat) (yA.1 88 6)) _
    refine Pa.mp 1 (pc' := 231) (l' := [(4, .int 7), (0, .ref 69), (1, .int yk), (2, .int yn), (3, .int yg)]) (st' := [.ref 69, .ref 91]) (by rfl) ?_
    refine Pa.gfI (v := yA.1 69 31) (by rfl) (by rfl) (.inl rfl) (by rfl) (by show (uI (uI (uI (uI (uI (uI (uI (uI yA 89 ((yA.1 69 31).toInt.toNat) yk) 90 (((7 * (yA.1 69 31)) + 0).toInt.toNat) (yA.1 88 0)) 90 (((7 * (yA.1 69 31)) + 1).toInt.toNat) (yA.1 88 1)) 90 (((7 * (yA.1 69 31)) + 2).toInt.toNat) (yA.1 88 2)) 90 (((7 * (yA.1 69 31)) + 3).toInt.toNat) (yA.1 88 3)) 90 (((7 * (yA.1 69 31)) + 4).toInt.toNat) (yA.1 88 4)) 90 (((7 * (yA.1 69 31)) + 5).toInt.toNat) (yA.1 88 5)) 90 (((7 * (yA.1 69 31)) + 6).toInt.toNat) (yA.1 88 6)).1 69 31 = yA.1 69 31; rw [uI_c (by decide), uI_c (by decide), uI_c (by decide), uI_c (by decide), uI_c (by decide), uI_c (by decide), uI_c (by decide), uI_c (by decide)]) ?_
    refine Pa.mp 1 (pc' := 235) (l' := [(4, .int 7), (0, .ref 69), (1, .int yk), (2, .int yn), (3, .int yg)]) (st' := [.int yn, .int (yA.1 69 31), .ref 91]) (by rfl) ?_
    refine Pa.asts (j' := ((yA.1 69 31).toInt.toNat)) (by rfl) (by rfl) (by rfl) (fun h33 h34 => ?_)
    have h33 : 0 ≤ (yA.1 69 31).toInt := h33
    have h34 : (yA.1 69 31).toInt < 150 := h34
    show Pa N 179 236 [(4, .int 7), (0, .ref 69), (1, .int yk), (2, .int yn), (3, .int yg)] [] (uI (uI (uI (uI (uI (uI (uI (uI (uI yA 89 ((yA.1 69 31).toInt.toNat) yk) 90 (((7 * (yA.1 69 31)) + 0).toInt.toNat) (yA.1 88 0)) 90 (((7 * (yA.1 69 31)) + 1).toInt.toNat) (yA.1 88 1)) 90 (((7 * (yA.1 69 31)) + 2).toInt.toNat) (yA.1 88 2)) 90 (((7 * (yA.1 69 31)) + 3).toInt.toNat) (yA.1 88 3)) 90 (((7 * (yA.1 69 31)) + 4).toInt.toNat) (yA.1 88 4)) 90 (((7 * (yA.1 69 31)) + 5).toInt.toNat) (yA.1 88 5)) 90 (((7 * (yA.1 69 31)) + 6).toInt.toNat) (yA.1 88 6)) 91 ((yA.1 69 31).toInt.toNat) yn) _
    refine Pa.mp 1 (pc' := 237) (l' := [(4, .int 7), (0, .ref 69), (1, .int yk), (2, .int yn), (3, .int yg)]) (st' := [.ref 69]) (by rfl) ?_
    refine Pa.gfR (by rfl) (by rfl) (.inl rfl) (by rfl) ?_
    show Pa N 179 240 [(4, .int 7), (0, .ref 69), (1, .int yk), (2, .int yn), (3, .int yg)] [.ref 93] (uI (uI (uI (uI (uI (uI (uI (uI (uI yA 89 ((yA.1 69 31).toInt.toNat) yk) 90 (((7 * (yA.1 69 31)) + 0).toInt.toNat) (yA.1 88 0)) 90 (((7 * (yA.1 69 31)) + 1).toInt.toNat) (yA.1 88 1)) 90 (((7 * (yA.1 69 31)) + 2).toInt.toNat) (yA.1 88 2)) 90 (((7 * (yA.1 69 31)) + 3).toInt.toNat) (yA.1 88 3)) 90 (((7 * (yA.1 69 31)) + 4).toInt.toNat) (yA.1 88 4)) 90 (((7 * (yA.1 69 31)) + 5).toInt.toNat) (yA.1 88 5)) 90 (((7 * (yA.1 69 31)) + 6).toInt.toNat) (yA.1 88 6)) 91 ((yA.1 69 31).toInt.toNat) yn) _
    refine Pa.mp 1 (pc' := 241) (l' := [(4, .int 7), (0, .ref 69), (1, .int yk), (2, .int yn), (3, .int yg)]) (st' := [.ref 69, .ref 93]) (by rfl) ?_
    refine Pa.gfI (v := yA.1 69 31) (by rfl) (by rfl) (.inl rfl) (by rfl) (by show (uI (uI (uI (uI (uI (uI (uI (uI (uI yA 89 ((yA.1 69 31).toInt.toNat) yk) 90 (((7 * (yA.1 69 31)) + 0).toInt.toNat) (yA.1 88 0)) 90 (((7 * (yA.1 69 31)) + 1).toInt.toNat) (yA.1 88 1)) 90 (((7 * (yA.1 69 31)) + 2).toInt.toNat) (yA.1 88 2)) 90 (((7 * (yA.1 69 31)) + 3).toInt.toNat) (yA.1 88 3)) 90 (((7 * (yA.1 69 31)) + 4).toInt.toNat) (yA.1 88 4)) 90 (((7 * (yA.1 69 31)) + 5).toInt.toNat) (yA.1 88 5)) 90 (((7 * (yA.1 69 31)) + 6).toInt.toNat) (yA.1 88 6)) 91 ((yA.1 69 31).toInt.toNat) yn).1 69 31 = yA.1 69 31; rw [uI_c (by decide), uI_c (by decide), uI_c (by decide), uI_c (by decide), uI_c (by decide), uI_c (by decide), uI_c (by decide), uI_c (by decide), uI_c (by decide)]) ?_
    refine Pa.ic (x := (-1)) (pc' := 245) (by rfl) (by rfl) (by decide) ?_
    refine Pa.asts (j' := ((yA.1 69 31).toInt.toNat)) (by rfl) (by rfl) (by rfl) (fun h35 h36 => ?_)
    have h35 : 0 ≤ (yA.1 69 31).toInt := h35
    have h36 : (yA.1 69 31).toInt < 150 := h36
    show Pa N 179 246 [(4, .int 7), (0, .ref 69), (1, .int yk), (2, .int yn), (3, .int yg)] [] (uI (uI (uI (uI (uI (uI (uI (uI (uI (uI yA 89 ((yA.1 69 31).toInt.toNat) yk) 90 (((7 * (yA.1 69 31)) + 0).toInt.toNat) (yA.1 88 0)) 90 (((7 * (yA.1 69 31)) + 1).toInt.toNat) (yA.1 88 1)) 90 (((7 * (yA.1 69 31)) + 2).toInt.toNat) (yA.1 88 2)) 90 (((7 * (yA.1 69 31)) + 3).toInt.toNat) (yA.1 88 3)) 90 (((7 * (yA.1 69 31)) + 4).toInt.toNat) (yA.1 88 4)) 90 (((7 * (yA.1 69 31)) + 5).toInt.toNat) (yA.1 88 5)) 90 (((7 * (yA.1 69 31)) + 6).toInt.toNat) (yA.1 88 6)) 91 ((yA.1 69 31).toInt.toNat) yn) 93 ((yA.1 69 31).toInt.toNat) (-1)) _
    refine Pa.mp 2 (pc' := 248) (l' := [(4, .int 7), (0, .ref 69), (1, .int yk), (2, .int yn), (3, .int yg)]) (st' := [.ref 69, .ref 69]) (by rfl) ?_
    refine Pa.gfI (v := yA.1 69 31) (by rfl) (by rfl) (.inl rfl) (by rfl) (by show (uI (uI (uI (uI (uI (uI (uI (uI (uI (uI yA 89 ((yA.1 69 31).toInt.toNat) yk) 90 (((7 * (yA.1 69 31)) + 0).toInt.toNat) (yA.1 88 0)) 90 (((7 * (yA.1 69 31)) + 1).toInt.toNat) (yA.1 88 1)) 90 (((7 * (yA.1 69 31)) + 2).toInt.toNat) (yA.1 88 2)) 90 (((7 * (yA.1 69 31)) + 3).toInt.toNat) (yA.1 88 3)) 90 (((7 * (yA.1 69 31)) + 4).toInt.toNat) (yA.1 88 4)) 90 (((7 * (yA.1 69 31)) + 5).toInt.toNat) (yA.1 88 5)) 90 (((7 * (yA.1 69 31)) + 6).toInt.toNat) (yA.1 88 6)) 91 ((yA.1 69 31).toInt.toNat) yn) 93 ((yA.1 69 31).toInt.toNat) (-1)).1 69 31 = yA.1 69 31; rw [uI_c (by decide), uI_c (by decide), uI_c (by decide), uI_c (by decide), uI_c (by decide), uI_c (by decide), uI_c (by decide), uI_c (by decide), uI_c (by decide), uI_c (by decide)]) ?_
    refine Pa.ic (x := 1) (pc' := 252) (by rfl) (by rfl) (by decide) ?_
    refine Pa.mp 1 (pc' := 253) (l' := [(4, .int 7), (0, .ref 69), (1, .int yk), (2, .int yn), (3, .int yg)]) (st' := [.int ((yA.1 69 31) + 1), .ref 69]) (by rfl) ?_
    refine Pa.pfI (by rfl) (by rfl) (.inl rfl) (by rfl) ?_
    show Pa N 179 256 [(4, .int 7), (0, .ref 69), (1, .int yk), (2, .int yn), (3, .int yg)] [] (uI (uI (uI (uI (uI (uI (uI (uI (uI (uI (uI yA 89 ((yA.1 69 31).toInt.toNat) yk) 90 (((7 * (yA.1 69 31)) + 0).toInt.toNat) (yA.1 88 0)) 90 (((7 * (yA.1 69 31)) + 1).toInt.toNat) (yA.1 88 1)) 90 (((7 * (yA.1 69 31)) + 2).toInt.toNat) (yA.1 88 2)) 90 (((7 * (yA.1 69 31)) + 3).toInt.toNat) (yA.1 88 3)) 90 (((7 * (yA.1 69 31)) + 4).toInt.toNat) (yA.1 88 4)) 90 (((7 * (yA.1 69 31)) + 5).toInt.toNat) (yA.1 88 5)) 90 (((7 * (yA.1 69 31)) + 6).toInt.toNat) (yA.1 88 6)) 91 ((yA.1 69 31).toInt.toNat) yn) 93 ((yA.1 69 31).toInt.toNat) (-1)) 69 31 ((yA.1 69 31) + 1)) _
    refine Pa.mp 1 (pc' := 257) (l' := [(4, .int 7), (0, .ref 69), (1, .int yk), (2, .int yn), (3, .int yg)]) (st' := [.ref 69]) (by rfl) ?_
    refine Pa.gfI (v := (yA.1 69 31) + 1) (by rfl) (by rfl) (.inl rfl) (by rfl) (by show (uI (uI (uI (uI (uI (uI (uI (uI (uI (uI (uI yA 89 ((yA.1 69 31).toInt.toNat) yk) 90 (((7 * (yA.1 69 31)) + 0).toInt.toNat) (yA.1 88 0)) 90 (((7 * (yA.1 69 31)) + 1).toInt.toNat) (yA.1 88 1)) 90 (((7 * (yA.1 69 31)) + 2).toInt.toNat) (yA.1 88 2)) 90 (((7 * (yA.1 69 31)) + 3).toInt.toNat) (yA.1 88 3)) 90 (((7 * (yA.1 69 31)) + 4).toInt.toNat) (yA.1 88 4)) 90 (((7 * (yA.1 69 31)) + 5).toInt.toNat) (yA.1 88 5)) 90 (((7 * (yA.1 69 31)) + 6).toInt.toNat) (yA.1 88 6)) 91 ((yA.1 69 31).toInt.toNat) yn) 93 ((yA.1 69 31).toInt.toNat) (-1)) 69 31 ((yA.1 69 31) + 1)).1 69 31 = (yA.1 69 31) + 1; rw [uI_h]) ?_
    refine Pa.ic (x := 1) (pc' := 261) (by rfl) (by rfl) (by decide) ?_
    refine Pa.mp 1 (pc' := 262) (l' := [(4, .int 7), (0, .ref 69), (1, .int yk), (2, .int yn), (3, .int yg)]) (st' := [.int (((yA.1 69 31) + 1) - 1)]) (by rfl) ?_
    refine Pa.iret (by rfl) ?_
    exact l1 h1 h3 h4 h7 h8 h11 h12 h15 yh16 h19 h20 h23 h24 h27 h28 h31 h32
  · have h2 : (yA.1 69 31).toInt = 150 := h2
    refine Pa.ic (x := (-2)) (pc' := 177) (by rfl) (by rfl) (by decide) ?_
    refine Pa.iret (by rfl) ?_
    exact l2 h2
def okCo (ys0 ys1 ys2 ys3 ys4 s5 ys6 yF ep yD yH yP yk yn : Int32) : Prop := 1 ≤ yk.toInt ∧ yk.toInt ≤ 6 ∧ 1 ≤ yn.toInt ∧ yn.toInt ≤ 99999 ∧ 0 ≤ ys0.toInt ∧ ys0.toInt < yF.toInt ∧ ys1.toInt < ep.toInt ∧ 0 ≤ ys2.toInt ∧ ys2.toInt ≤ 5 ∧ ys3.toInt ≤ yD.toInt ∧ 1 ≤ s5.toInt ∧ ys6.toInt ≤ 19 ∧ 0 ≤ ys4.toInt ∧ ((toH yk ∧ ys4.toInt < yH.toInt) ∨ (¬ toH yk ∧ ys4.toInt < yP.toInt))
def okCoX (yA : AW) (yk yn : Int32) : Prop := okCo (yA.1 32 0) (yA.1 32 1) (yA.1 32 2) (yA.1 32 3) (yA.1 32 4) (yA.1 32 5) (yA.1 32 6) (yA.1 5 6) (yA.1 7 (yA.1 32 0).toInt.toNat) (yA.1 0 10) (yA.1 1 3) (yA.1 12 7) yk yn
def okCoM (yA : AW) (yk yn : Int32) : Prop := okCo (yA.1 88 0) (yA.1 88 1) (yA.1 88 2) (yA.1 88 3) (yA.1 88 4) (yA.1 88 5) (yA.1 88 6) (yA.1 69 11) (yA.1 77 (yA.1 88 0).toInt.toNat) (yA.1 69 0) (yA.1 69 7) (yA.1 69 13) yk yn
def costX (yA : AW) (ya : Nat) (yk yn : Int32) : AW := uI (uI (uO (uI (uI (uI (uI (uI (uI (uI (uI (uI (uI (uI (uI (uN yA) ya 11 (-1)) ya 0 (yA.1 30 4)) ya 1 (yk)) ya 2 (yn)) ya 3 (isUx yk 2)) ya 4 (yA.1 32 0)) ya 5 (yA.1 32 1)) ya 6 (yA.1 32 2)) ya 7 (yA.1 32 3)) ya 8 (yA.1 32 4)) ya 9 (yA.1 32 5)) ya 10 (yA.1 32 6)) 31 (yA.1 30 4).toInt.toNat (some ya)) 34 (yA.1 32 0).toInt.toNat (yA.1 34 (yA.1 32 0).toInt.toNat ||| (1 <<< (yA.1 32 2 &&& 31)))) 30 4 (yA.1 30 4 + 1)
def costM (yA : AW) (yk yn : Int32) : AW := uI (uI (uI (uI (uI (uI (uI (uI (uI (uI (uI yA 89 (yA.1 69 31).toInt.toNat yk) 90 (7 * yA.1 69 31 + 0).toInt.toNat (yA.1 88 0)) 90 (7 * yA.1 69 31 + 1).toInt.toNat (yA.1 88 1)) 90 (7 * yA.1 69 31 + 2).toInt.toNat (yA.1 88 2)) 90 (7 * yA.1 69 31 + 3).toInt.toNat (yA.1 88 3)) 90 (7 * yA.1 69 31 + 4).toInt.toNat (yA.1 88 4)) 90 (7 * yA.1 69 31 + 5).toInt.toNat (yA.1 88 5)) 90 (7 * yA.1 69 31 + 6).toInt.toNat (yA.1 88 6)) 91 (yA.1 69 31).toInt.toNat yn) 93 (yA.1 69 31).toInt.toNat (-1)) 69 31 (yA.1 69 31 + 1)
def dCost (yk yn : Int32) (yA : AW) (yu : Option Value) (A1 : AW) : Prop := (¬ okCoX yA yk yn ∧ yu = some (.int (-1)) ∧ A1 = yA) ∨ (okCoX yA yk yn ∧ 150 ≤ (yA.1 30 4).toInt ∧ yu = some (.int (-2)) ∧ A1 = yA) ∨ (okCoX yA yk yn ∧ (yA.1 30 4).toInt < 150 ∧ 0 ≤ (yA.1 30 4).toInt ∧ yu = some (.int (yA.1 30 4 + 1 - 1)) ∧ ∃ ya, ya = yA.2.2.2.2 ∧ 129 ≤ ya ∧ A1 = costX yA ya yk yn)
theorem d_cost (N : Nat) (yA : AW) (yk yn : Int32) : Pa N 112 0 [(0, .ref 0), (1, .int yk), (2, .int yn)] [] yA (dCost yk yn yA) := by
  have hU := isUx2 yk
  unfold toH at hU
  refine bx_cost yk yn ?_ ?_ ?_ ?_ ?_ ?_ ?_ ?_ ?_ ?_ ?_ ?_ ?_ ?_ ?_ ?_ ?_ ?_ ?_ ?_
  all_goals
    intros
    unfold dCost okCoX okCo toH
    first
      | exact .inl ⟨by omega, rfl, rfl⟩
      | exact .inr (.inl ⟨by omega, by omega, rfl, rfl⟩)
      | exact .inr (.inr ⟨by omega, by omega, by omega, rfl, _, by assumption, by assumption, rfl⟩)
def eCost (yk yn : Int32) (yA : AW) (yu : Option Value) (A1 : AW) : Prop := (¬ okCoM yA yk yn ∧ yu = some (.int (-1)) ∧ A1 = yA) ∨ (okCoM yA yk yn ∧ (yA.1 69 31).toInt = 150 ∧ yu = some (.int (-2)) ∧ A1 = yA) ∨ (okCoM yA yk yn ∧ (yA.1 69 31).toInt < 150 ∧ 0 ≤ (yA.1 69 31).toInt ∧ yu = some (.int (yA.1 69 31 + 1 - 1)) ∧ A1 = costM yA yk yn)
theorem e_cost (N : Nat) (yA : AW) (yk yn : Int32) : Pa N 179 0 [(0, .ref 69), (1, .int yk), (2, .int yn)] [] yA (eCost yk yn yA) := by
  refine bm_cost yk yn ?_ ?_ ?_ ?_ ?_ ?_ ?_ ?_ ?_ ?_ ?_ ?_ ?_ ?_ ?_ ?_ ?_ ?_ ?_ ?_ ?_ ?_ ?_ ?_ ?_ ?_ ?_ ?_ ?_ ?_
  all_goals
    intros
    first
      | (unfold eCost okCoM okCo toH; exact .inl ⟨by omega, rfl, rfl⟩)
      | (refine bm_cost2 yk yn _ ?_ ?_
         · intros
           unfold eCost okCoM okCo toH
           exact .inr (.inr ⟨by omega, by omega, by omega, rfl, rfl⟩)
         · intros
           unfold eCost okCoM okCo toH
           exact .inr (.inl ⟨by omega, by omega, rfl, rfl⟩))
