/-! REPAID, GOT, COUNT -/
theorem Rpx_y {yA : AW} (hA : okA yA) (hF : eqF Fy yA) (hR : eqRs Ay yA) (hX : RXL Iy yA) : Rpx yA := Rpx_of hA hF hR (fun yi yhi => hX yi (fsub_ok (yF := Iy) (F' := Iz) (by decide) yhi)) (hX 10 (by decide))
def okRd (T yi yq : Int32) : Prop := 0 ≤ yi.toInt ∧ yi.toInt < T.toInt ∧ 0 ≤ yq.toInt ∧ yq.toInt ≤ 1
def rdV (yC yG : Nat → Int32) (yi yq : Int32) : Int32 := if yq.toInt = 0 then yG yi.toInt.toNat else yC yi.toInt.toNat - yG yi.toInt.toNat
def dRd (yi yq : Int32) (yA : AW) (yu : Option Value) (A1 : AW) : Prop := A1 = yA ∧ ((¬ okRd (yA.1 47 17) yi yq ∧ yu = some (.int (-1))) ∨ (okRd (yA.1 47 17) yi yq ∧ yi.toInt < 60 ∧ yu = some (.int (rdV (yA.1 57) (yA.1 59) yi yq))))
def eRd (yi yq : Int32) (yA : AW) (yu : Option Value) (_ : AW) : Prop := (¬ okRd (yA.1 69 57) yi yq ∧ yu = some (.int (-1))) ∨ (okRd (yA.1 69 57) yi yq ∧ yu = some (.int (rdV (yA.1 112) (yA.1 114) yi yq)))
theorem bx_rd {N : Nat} {yA : AW} {yQ : Option Value → AW → Prop} (yi yq : Int32)
    (l1 : yi.toInt < 0 → yQ (some (.int (-1))) yA)
    (l2 : 0 ≤ yi.toInt → ((yA.1 47 17) - 1).toInt < yi.toInt → yQ (some (.int (-1))) yA)
    (l3 : 0 ≤ yi.toInt → yi.toInt ≤ ((yA.1 47 17) - 1).toInt → yq.toInt < 0 → yQ (some (.int (-1))) yA)
    (l4 : 0 ≤ yi.toInt → yi.toInt ≤ ((yA.1 47 17) - 1).toInt → 0 ≤ yq.toInt → 1 < yq.toInt → yQ (some (.int (-1))) yA)
    (l5 : 0 ≤ yi.toInt → yi.toInt ≤ ((yA.1 47 17) - 1).toInt → 0 ≤ yq.toInt → yq.toInt ≤ 1 → yq.toInt ≠ 0 → yi.toInt < 60 → yQ (some (.int ((yA.1 57 yi.toInt.toNat) - (yA.1 59 yi.toInt.toNat)))) yA)
    (l6 : 0 ≤ yi.toInt → yi.toInt ≤ ((yA.1 47 17) - 1).toInt → 0 ≤ yq.toInt → yq.toInt ≤ 1 → yq.toInt = 0 → yi.toInt < 60 → yQ (some (.int (yA.1 59 yi.toInt.toNat))) yA) :
    Pa N 129 0 [(0, .ref 0), (1, .int yi), (2, .int yq)] [] yA yQ := by
  refine Pa.mp 1 (pc' := 1) (l' := [(0, .ref 0), (1, .int yi), (2, .int yq)]) (st' := [.int yi]) (by rfl) ?_
  refine Pa.ic (x := 0) (pc' := 2) (by rfl) (by rfl) (by decide) ?_
  refine Pa.mp 1 (pc' := 3) (l' := [(0, .ref 0), (1, .int yi), (2, .int yq)]) (st' := [.ref 0, .int 0, .int yi]) (by rfl) ?_
  refine Pa.gfR (by rfl) (by rfl) (.inl rfl) (by rfl) ?_
  show Pa N 129 6 [(0, .ref 0), (1, .int yi), (2, .int yq)] [.ref 47, .int 0, .int yi] yA _
  refine Pa.gfI (v := yA.1 47 17) (by rfl) (by rfl) (.inr rfl) (by rfl) (by rfl) ?_
  refine Pa.ic (x := 1) (pc' := 10) (by rfl) (by rfl) (by decide) ?_
  refine Pa.mp 1 (pc' := 11) (l' := [(0, .ref 0), (1, .int yi), (2, .int yq)]) (st' := [.int ((yA.1 47 17) - 1), .int 0, .int yi]) (by rfl) ?_
  refine Pa.ist (by rfl) (by rfl) (.inl rfl) (by rfl) (by rfl) ?_
  show Pa N 146 0 [(0, .int yi), (1, .int 0), (2, .int ((yA.1 47 17) - 1))] [] yA _
  refine Pa.mp 2 (pc' := 2) (l' := [(0, .int yi), (1, .int 0), (2, .int ((yA.1 47 17) - 1))]) (st' := [.int 0, .int yi]) (by rfl) ?_
  refine Pa.if2 (a := yi.toInt) (b := 0) (t := 14) (by rfl) (by rfl) (rfl) (by decide) (fun h1 => ?_) (fun h2 => ?_)
  · have h1 : yi.toInt < 0 := h1
    refine Pa.ic (x := 0) (pc' := 15) (by rfl) (by rfl) (by decide) ?_
    refine Pa.iret (by rfl) ?_
    show Pa N 129 14 [(0, .ref 0), (1, .int yi), (2, .int yq)] [.int 0] yA _
    refine Pa.if1k true (by rfl) (by rfl) (by decide) ?_
    show Pa N 129 26 [(0, .ref 0), (1, .int yi), (2, .int yq)] [] yA _
    refine Pa.ic (x := (-1)) (pc' := 27) (by rfl) (by rfl) (by decide) ?_
    refine Pa.iret (by rfl) ?_
    exact l1 h1
  · have h2 : 0 ≤ yi.toInt := h2
    refine Pa.mp 2 (pc' := 7) (l' := [(0, .int yi), (1, .int 0), (2, .int ((yA.1 47 17) - 1))]) (st' := [.int ((yA.1 47 17) - 1), .int yi]) (by rfl) ?_
    refine Pa.if2 (a := yi.toInt) (b := ((yA.1 47 17) - 1).toInt) (t := 14) (by rfl) (by rfl) (rfl) (rfl) (fun h3 => ?_) (fun h4 => ?_)
    · have h3 : ((yA.1 47 17) - 1).toInt < yi.toInt := h3
      refine Pa.ic (x := 0) (pc' := 15) (by rfl) (by rfl) (by decide) ?_
      refine Pa.iret (by rfl) ?_
      show Pa N 129 14 [(0, .ref 0), (1, .int yi), (2, .int yq)] [.int 0] yA _
      refine Pa.if1k true (by rfl) (by rfl) (by decide) ?_
      show Pa N 129 26 [(0, .ref 0), (1, .int yi), (2, .int yq)] [] yA _
      refine Pa.ic (x := (-1)) (pc' := 27) (by rfl) (by rfl) (by decide) ?_
      refine Pa.iret (by rfl) ?_
      exact l2 h2 h3
    · have h4 : yi.toInt ≤ ((yA.1 47 17) - 1).toInt := h4
      refine Pa.ic (x := 1) (pc' := 11) (by rfl) (by rfl) (by decide) ?_
      refine Pa.mp 1 (pc' := 15) (l' := [(0, .int yi), (1, .int 0), (2, .int ((yA.1 47 17) - 1))]) (st' := [.int 1]) (by rfl) ?_
      refine Pa.iret (by rfl) ?_
      show Pa N 129 14 [(0, .ref 0), (1, .int yi), (2, .int yq)] [.int 1] yA _
      refine Pa.if1k false (by rfl) (by rfl) (by decide) ?_
      show Pa N 129 17 [(0, .ref 0), (1, .int yi), (2, .int yq)] [] yA _
      refine Pa.mp 1 (pc' := 18) (l' := [(0, .ref 0), (1, .int yi), (2, .int yq)]) (st' := [.int yq]) (by rfl) ?_
      refine Pa.ic (x := 0) (pc' := 19) (by rfl) (by rfl) (by decide) ?_
      refine Pa.ic (x := 1) (pc' := 20) (by rfl) (by rfl) (by decide) ?_
      refine Pa.ist (by rfl) (by rfl) (.inl rfl) (by rfl) (by rfl) ?_
      show Pa N 146 0 [(0, .int yq), (1, .int 0), (2, .int 1)] [] yA _
      refine Pa.mp 2 (pc' := 2) (l' := [(0, .int yq), (1, .int 0), (2, .int 1)]) (st' := [.int 0, .int yq]) (by rfl) ?_
      refine Pa.if2 (a := yq.toInt) (b := 0) (t := 14) (by rfl) (by rfl) (rfl) (by decide) (fun h5 => ?_) (fun h6 => ?_)
      · have h5 : yq.toInt < 0 := h5
        refine Pa.ic (x := 0) (pc' := 15) (by rfl) (by rfl) (by decide) ?_
        refine Pa.iret (by rfl) ?_
        show Pa N 129 23 [(0, .ref 0), (1, .int yi), (2, .int yq)] [.int 0] yA _
        refine Pa.if1k false (by rfl) (by rfl) (by decide) ?_
        show Pa N 129 26 [(0, .ref 0), (1, .int yi), (2, .int yq)] [] yA _
        refine Pa.ic (x := (-1)) (pc' := 27) (by rfl) (by rfl) (by decide) ?_
        refine Pa.iret (by rfl) ?_
        exact l3 h2 h4 h5
      · have h6 : 0 ≤ yq.toInt := h6
        refine Pa.mp 2 (pc' := 7) (l' := [(0, .int yq), (1, .int 0), (2, .int 1)]) (st' := [.int 1, .int yq]) (by rfl) ?_
        refine Pa.if2 (a := yq.toInt) (b := 1) (t := 14) (by rfl) (by rfl) (rfl) (by decide) (fun h7 => ?_) (fun h8 => ?_)
        · have h7 : 1 < yq.toInt := h7
          refine Pa.ic (x := 0) (pc' := 15) (by rfl) (by rfl) (by decide) ?_
          refine Pa.iret (by rfl) ?_
          show Pa N 129 23 [(0, .ref 0), (1, .int yi), (2, .int yq)] [.int 0] yA _
          refine Pa.if1k false (by rfl) (by rfl) (by decide) ?_
          show Pa N 129 26 [(0, .ref 0), (1, .int yi), (2, .int yq)] [] yA _
          refine Pa.ic (x := (-1)) (pc' := 27) (by rfl) (by rfl) (by decide) ?_
          refine Pa.iret (by rfl) ?_
          exact l4 h2 h4 h6 h7
        · have h8 : yq.toInt ≤ 1 := h8
          refine Pa.ic (x := 1) (pc' := 11) (by rfl) (by rfl) (by decide) ?_
          refine Pa.mp 1 (pc' := 15) (l' := [(0, .int yq), (1, .int 0), (2, .int 1)]) (st' := [.int 1]) (by rfl) ?_
          refine Pa.iret (by rfl) ?_
          show Pa N 129 23 [(0, .ref 0), (1, .int yi), (2, .int yq)] [.int 1] yA _
          refine Pa.if1k true (by rfl) (by rfl) (by decide) ?_
          show Pa N 129 28 [(0, .ref 0), (1, .int yi), (2, .int yq)] [] yA _
          refine Pa.mp 1 (pc' := 29) (l' := [(0, .ref 0), (1, .int yi), (2, .int yq)]) (st' := [.int yq]) (by rfl) ?_
          refine Pa.if1 (a := yq.toInt) (t := 44) (by rfl) (by rfl) (rfl) (fun h9 => ?_) (fun h10 => ?_)
          · have h9 : yq.toInt ≠ 0 := h9
            refine Pa.mp 1 (pc' := 45) (l' := [(0, .ref 0), (1, .int yi), (2, .int yq)]) (st' := [.ref 0]) (by rfl) ?_
            refine Pa.gfR (by rfl) (by rfl) (.inl rfl) (by rfl) ?_
            show Pa N 129 48 [(0, .ref 0), (1, .int yi), (2, .int yq)] [.ref 47] yA _
            refine Pa.gfR (by rfl) (by rfl) (.inr rfl) (by rfl) ?_
            show Pa N 129 51 [(0, .ref 0), (1, .int yi), (2, .int yq)] [.ref 57] yA _
            refine Pa.mp 1 (pc' := 52) (l' := [(0, .ref 0), (1, .int yi), (2, .int yq)]) (st' := [.int yi, .ref 57]) (by rfl) ?_
            refine Pa.alds (v := yA.1 57 yi.toInt.toNat) (by rfl) (by rfl) (by rfl) (fun h11 h12 => ?_)
            have h11 : 0 ≤ yi.toInt := h11
            have h12 : yi.toInt < 60 := h12
            refine Pa.mp 1 (pc' := 54) (l' := [(0, .ref 0), (1, .int yi), (2, .int yq)]) (st' := [.ref 0, .int (yA.1 57 yi.toInt.toNat)]) (by rfl) ?_
            refine Pa.gfR (by rfl) (by rfl) (.inl rfl) (by rfl) ?_
            show Pa N 129 57 [(0, .ref 0), (1, .int yi), (2, .int yq)] [.ref 47, .int (yA.1 57 yi.toInt.toNat)] yA _
            refine Pa.gfR (by rfl) (by rfl) (.inr rfl) (by rfl) ?_
            show Pa N 129 60 [(0, .ref 0), (1, .int yi), (2, .int yq)] [.ref 59, .int (yA.1 57 yi.toInt.toNat)] yA _
            refine Pa.mp 1 (pc' := 61) (l' := [(0, .ref 0), (1, .int yi), (2, .int yq)]) (st' := [.int yi, .ref 59, .int (yA.1 57 yi.toInt.toNat)]) (by rfl) ?_
            refine Pa.alds (v := yA.1 59 yi.toInt.toNat) (by rfl) (by rfl) (by rfl) (fun h13 h14 => ?_)
            have h13 : 0 ≤ yi.toInt := h13
            have h14 : yi.toInt < 60 := h14
            refine Pa.mp 1 (pc' := 63) (l' := [(0, .ref 0), (1, .int yi), (2, .int yq)]) (st' := [.int ((yA.1 57 yi.toInt.toNat) - (yA.1 59 yi.toInt.toNat))]) (by rfl) ?_
            refine Pa.iret (by rfl) ?_
            exact l5 h2 h4 h6 h8 h9 h12
          · have h10 : yq.toInt = 0 := h10
            refine Pa.mp 1 (pc' := 33) (l' := [(0, .ref 0), (1, .int yi), (2, .int yq)]) (st' := [.ref 0]) (by rfl) ?_
            refine Pa.gfR (by rfl) (by rfl) (.inl rfl) (by rfl) ?_
            show Pa N 129 36 [(0, .ref 0), (1, .int yi), (2, .int yq)] [.ref 47] yA _
            refine Pa.gfR (by rfl) (by rfl) (.inr rfl) (by rfl) ?_
            show Pa N 129 39 [(0, .ref 0), (1, .int yi), (2, .int yq)] [.ref 59] yA _
            refine Pa.mp 1 (pc' := 40) (l' := [(0, .ref 0), (1, .int yi), (2, .int yq)]) (st' := [.int yi, .ref 59]) (by rfl) ?_
            refine Pa.alds (v := yA.1 59 yi.toInt.toNat) (by rfl) (by rfl) (by rfl) (fun h15 yh16 => ?_)
            have h15 : 0 ≤ yi.toInt := h15
            have yh16 : yi.toInt < 60 := yh16
            refine Pa.mp 1 (pc' := 63) (l' := [(0, .ref 0), (1, .int yi), (2, .int yq)]) (st' := [.int (yA.1 59 yi.toInt.toNat)]) (by rfl) ?_
            refine Pa.iret (by rfl) ?_
            exact l6 h2 h4 h6 h8 h10 yh16

theorem bm_rd {N : Nat} {yA : AW} {yQ : Option Value → AW → Prop} (yi yq : Int32)
    (l1 : yi.toInt < 0 → yQ (some (.int (-1))) yA)
    (l2 : 0 ≤ yi.toInt → (yA.1 69 57).toInt ≤ yi.toInt → yQ (some (.int (-1))) yA)
    (l3 : 0 ≤ yi.toInt → yi.toInt < (yA.1 69 57).toInt → yq.toInt < 0 → yQ (some (.int (-1))) yA)
    (l4 : 0 ≤ yi.toInt → yi.toInt < (yA.1 69 57).toInt → 0 ≤ yq.toInt → 1 < yq.toInt → yQ (some (.int (-1))) yA)
    (l5 : 0 ≤ yi.toInt → yi.toInt < (yA.1 69 57).toInt → 0 ≤ yq.toInt → yq.toInt ≤ 1 → yq.toInt ≠ 0 → yi.toInt < 60 → yQ (some (.int ((yA.1 112 yi.toInt.toNat) - (yA.1 114 yi.toInt.toNat)))) yA)
    (l6 : 0 ≤ yi.toInt → yi.toInt < (yA.1 69 57).toInt → 0 ≤ yq.toInt → yq.toInt ≤ 1 → yq.toInt = 0 → yi.toInt < 60 → yQ (some (.int (yA.1 114 yi.toInt.toNat))) yA) :
    Pa N 233 0 [(0, .ref 69), (1, .int yi), (2, .int yq)] [] yA yQ := by
  refine Pa.mp 1 (pc' := 1) (l' := [(0, .ref 69), (1, .int yi), (2, .int yq)]) (st' := [.int yi]) (by rfl) ?_
  refine Pa.if1 (a := yi.toInt) (t := 21) (by rfl) (by rfl) (rfl) (fun h1 => ?_) (fun h2 => ?_)
  · have h1 : yi.toInt < 0 := h1
    refine Pa.ic (x := (-1)) (pc' := 22) (by rfl) (by rfl) (by decide) ?_
    refine Pa.iret (by rfl) ?_
    exact l1 h1
  · have h2 : 0 ≤ yi.toInt := h2
    refine Pa.mp 2 (pc' := 6) (l' := [(0, .ref 69), (1, .int yi), (2, .int yq)]) (st' := [.ref 69, .int yi]) (by rfl) ?_
    refine Pa.gfI (v := yA.1 69 57) (by rfl) (by rfl) (.inl rfl) (by rfl) (by rfl) ?_
    refine Pa.if2 (a := yi.toInt) (b := (yA.1 69 57).toInt) (t := 21) (by rfl) (by rfl) (rfl) (rfl) (fun h3 => ?_) (fun h4 => ?_)
    · have h3 : (yA.1 69 57).toInt ≤ yi.toInt := h3
      refine Pa.ic (x := (-1)) (pc' := 22) (by rfl) (by rfl) (by decide) ?_
      refine Pa.iret (by rfl) ?_
      exact l2 h2 h3
    · have h4 : yi.toInt < (yA.1 69 57).toInt := h4
      refine Pa.mp 1 (pc' := 13) (l' := [(0, .ref 69), (1, .int yi), (2, .int yq)]) (st' := [.int yq]) (by rfl) ?_
      refine Pa.ic (x := 0) (pc' := 14) (by rfl) (by rfl) (by decide) ?_
      refine Pa.ic (x := 1) (pc' := 15) (by rfl) (by rfl) (by decide) ?_
      refine Pa.ist (by rfl) (by rfl) (.inl rfl) (by rfl) (by rfl) ?_
      show Pa N 152 0 [(0, .int yq), (1, .int 0), (2, .int 1)] [] yA _
      refine Pa.mp 2 (pc' := 2) (l' := [(0, .int yq), (1, .int 0), (2, .int 1)]) (st' := [.int 0, .int yq]) (by rfl) ?_
      refine Pa.if2 (a := yq.toInt) (b := 0) (t := 14) (by rfl) (by rfl) (rfl) (by decide) (fun h5 => ?_) (fun h6 => ?_)
      · have h5 : yq.toInt < 0 := h5
        refine Pa.ic (x := 0) (pc' := 15) (by rfl) (by rfl) (by decide) ?_
        refine Pa.iret (by rfl) ?_
        show Pa N 233 18 [(0, .ref 69), (1, .int yi), (2, .int yq)] [.int 0] yA _
        refine Pa.if1k false (by rfl) (by rfl) (by decide) ?_
        show Pa N 233 21 [(0, .ref 69), (1, .int yi), (2, .int yq)] [] yA _
        refine Pa.ic (x := (-1)) (pc' := 22) (by rfl) (by rfl) (by decide) ?_
        refine Pa.iret (by rfl) ?_
        exact l3 h2 h4 h5
      · have h6 : 0 ≤ yq.toInt := h6
        refine Pa.mp 2 (pc' := 7) (l' := [(0, .int yq), (1, .int 0), (2, .int 1)]) (st' := [.int 1, .int yq]) (by rfl) ?_
        refine Pa.if2 (a := yq.toInt) (b := 1) (t := 14) (by rfl) (by rfl) (rfl) (by decide) (fun h7 => ?_) (fun h8 => ?_)
        · have h7 : 1 < yq.toInt := h7
          refine Pa.ic (x := 0) (pc' := 15) (by rfl) (by rfl) (by decide) ?_
          refine Pa.iret (by rfl) ?_
          show Pa N 233 18 [(0, .ref 69), (1, .int yi), (2, .int yq)] [.int 0] yA _
          refine Pa.if1k false (by rfl) (by rfl) (by decide) ?_
          show Pa N 233 21 [(0, .ref 69), (1, .int yi), (2, .int yq)] [] yA _
          refine Pa.ic (x := (-1)) (pc' := 22) (by rfl) (by rfl) (by decide) ?_
          refine Pa.iret (by rfl) ?_
          exact l4 h2 h4 h6 h7
        · have h8 : yq.toInt ≤ 1 := h8
          refine Pa.ic (x := 1) (pc' := 11) (by rfl) (by rfl) (by decide) ?_
          refine Pa.mp 1 (pc' := 15) (l' := [(0, .int yq), (1, .int 0), (2, .int 1)]) (st' := [.int 1]) (by rfl) ?_
          refine Pa.iret (by rfl) ?_
          show Pa N 233 18 [(0, .ref 69), (1, .int yi), (2, .int yq)] [.int 1] yA _
          refine Pa.if1k true (by rfl) (by rfl) (by decide) ?_
          show Pa N 233 23 [(0, .ref 69), (1, .int yi), (2, .int yq)] [] yA _
          refine Pa.mp 1 (pc' := 24) (l' := [(0, .ref 69), (1, .int yi), (2, .int yq)]) (st' := [.int yq]) (by rfl) ?_
          refine Pa.if1 (a := yq.toInt) (t := 36) (by rfl) (by rfl) (rfl) (fun h9 => ?_) (fun h10 => ?_)
          · have h9 : yq.toInt ≠ 0 := h9
            refine Pa.mp 1 (pc' := 37) (l' := [(0, .ref 69), (1, .int yi), (2, .int yq)]) (st' := [.ref 69]) (by rfl) ?_
            refine Pa.gfR (by rfl) (by rfl) (.inl rfl) (by rfl) ?_
            show Pa N 233 40 [(0, .ref 69), (1, .int yi), (2, .int yq)] [.ref 112] yA _
            refine Pa.mp 1 (pc' := 41) (l' := [(0, .ref 69), (1, .int yi), (2, .int yq)]) (st' := [.int yi, .ref 112]) (by rfl) ?_
            refine Pa.alds (v := yA.1 112 yi.toInt.toNat) (by rfl) (by rfl) (by rfl) (fun h11 h12 => ?_)
            have h11 : 0 ≤ yi.toInt := h11
            have h12 : yi.toInt < 60 := h12
            refine Pa.mp 1 (pc' := 43) (l' := [(0, .ref 69), (1, .int yi), (2, .int yq)]) (st' := [.ref 69, .int (yA.1 112 yi.toInt.toNat)]) (by rfl) ?_
            refine Pa.gfR (by rfl) (by rfl) (.inl rfl) (by rfl) ?_
            show Pa N 233 46 [(0, .ref 69), (1, .int yi), (2, .int yq)] [.ref 114, .int (yA.1 112 yi.toInt.toNat)] yA _
            refine Pa.mp 1 (pc' := 47) (l' := [(0, .ref 69), (1, .int yi), (2, .int yq)]) (st' := [.int yi, .ref 114, .int (yA.1 112 yi.toInt.toNat)]) (by rfl) ?_
            refine Pa.alds (v := yA.1 114 yi.toInt.toNat) (by rfl) (by rfl) (by rfl) (fun h13 h14 => ?_)
            have h13 : 0 ≤ yi.toInt := h13
            have h14 : yi.toInt < 60 := h14
            refine Pa.mp 1 (pc' := 49) (l' := [(0, .ref 69), (1, .int yi), (2, .int yq)]) (st' := [.int ((yA.1 112 yi.toInt.toNat) - (yA.1 114 yi.toInt.toNat))]) (by rfl) ?_
            refine Pa.iret (by rfl) ?_
            exact l5 h2 h4 h6 h8 h9 h12
          · have h10 : yq.toInt = 0 := h10
            refine Pa.mp 1 (pc' := 28) (l' := [(0, .ref 69), (1, .int yi), (2, .int yq)]) (st' := [.ref 69]) (by rfl) ?_
            refine Pa.gfR (by rfl) (by rfl) (.inl rfl) (by rfl) ?_
            show Pa N 233 31 [(0, .ref 69), (1, .int yi), (2, .int yq)] [.ref 114] yA _
            refine Pa.mp 1 (pc' := 32) (l' := [(0, .ref 69), (1, .int yi), (2, .int yq)]) (st' := [.int yi, .ref 114]) (by rfl) ?_
            refine Pa.alds (v := yA.1 114 yi.toInt.toNat) (by rfl) (by rfl) (by rfl) (fun h15 yh16 => ?_)
            have h15 : 0 ≤ yi.toInt := h15
            have yh16 : yi.toInt < 60 := yh16
            refine Pa.mp 1 (pc' := 49) (l' := [(0, .ref 69), (1, .int yi), (2, .int yq)]) (st' := [.int (yA.1 114 yi.toInt.toNat)]) (by rfl) ?_
            refine Pa.iret (by rfl) ?_
            exact l6 h2 h4 h6 h8 h10 yh16

theorem d_rd {yA : AW} (yh : 0 ≤ (yA.1 47 17).toInt ∧ (yA.1 47 17).toInt ≤ 60) (N : Nat) (yi yq : Int32) : Pa N 129 0 [(0, .ref 0), (1, .int yi), (2, .int yq)] [] yA (dRd yi yq yA) := by
  have ye : ((yA.1 47 17) - 1).toInt = (yA.1 47 17).toInt - 1 := i_subx (by rw [show (1 : Int32).toInt = 1 from by decide]) (by omega) (by omega)
  refine bx_rd yi yq ?_ ?_ ?_ ?_ ?_ ?_
  · exact fun _ => ⟨rfl, .inl ⟨fun yz => by unfold okRd at yz; omega, rfl⟩⟩
  · exact fun _ _ => ⟨rfl, .inl ⟨fun yz => by unfold okRd at yz; omega, rfl⟩⟩
  · exact fun _ _ _ => ⟨rfl, .inl ⟨fun yz => by unfold okRd at yz; omega, rfl⟩⟩
  · exact fun _ _ _ _ => ⟨rfl, .inl ⟨fun yz => by unfold okRd at yz; omega, rfl⟩⟩
  · intro y1 y2 y3 y4 y5 y6
    refine ⟨rfl, .inr ⟨⟨y1, by omega, y3, y4⟩, y6, ?_⟩⟩
    unfold rdV
    rw [if_neg y5]
  · intro y1 y2 y3 y4 y5 y6
    refine ⟨rfl, .inr ⟨⟨y1, by omega, y3, y4⟩, y6, ?_⟩⟩
    unfold rdV
    rw [if_pos y5]
theorem e_rd (N : Nat) (yA : AW) (yi yq : Int32) : Pa N 233 0 [(0, .ref 69), (1, .int yi), (2, .int yq)] [] yA (eRd yi yq yA) := by
  refine bm_rd yi yq ?_ ?_ ?_ ?_ ?_ ?_
  · exact fun _ => .inl ⟨fun yz => by unfold okRd at yz; omega, rfl⟩
  · exact fun _ _ => .inl ⟨fun yz => by unfold okRd at yz; omega, rfl⟩
  · exact fun _ _ _ => .inl ⟨fun yz => by unfold okRd at yz; omega, rfl⟩
  · exact fun _ _ _ _ => .inl ⟨fun yz => by unfold okRd at yz; omega, rfl⟩
  · intro y1 y2 y3 y4 y5 y6
    refine .inr ⟨⟨y1, y2, y3, y4⟩, ?_⟩
    unfold rdV
    rw [if_neg y5]
  · intro y1 y2 y3 y4 y5 y6
    refine .inr ⟨⟨y1, y2, y3, y4⟩, ?_⟩
    unfold rdV
    rw [if_pos y5]
theorem h_rpd {yp : zPr} (hp : yp.1 = 129 ∧ yp.2.1 = 233 ∧ yp.2.2.1 = 2) (yhc : c_rm yp = true) (yq1 : (ri_wr zZ Fy Ay (wX yp) && kXL Iy (wX yp)) = true) (yq2 : (ri_wr zZ Fy Ay (wM yp) && kXL Iy (wM yp)) = true) : PairOK (RR Fy Ay (RXL Iy)) yp := by
  obtain ⟨yp1, yp2, yp3⟩ := hp
  refine pairF (D := on2 dRd) (E := on2 eRd) (by decide +kernel) (by decide +kernel) yhc (keepXL Iy) yq1 yq2 (fun N yA yas o hF hR hX hl => ?_) (fun N yA yas o hF hR hX hl => ?_) (fun yA A1 A2 yas yx yy o _ _ hF hR hX _ _ _ hl ys1 ys2 _ => ?_)
  · rw [yp3] at hl
    obtain ⟨ya, yb, rfl⟩ := as2 hl
    have yg := Rpx_y o hF hR hX
    rw [yp1]
    exact d_rd (by rw [yg.fn]; exact yg.tN) N ya yb
  · rw [yp3] at hl
    obtain ⟨ya, yb, rfl⟩ := as2 hl
    rw [yp2]
    exact e_rd N yA ya yb
  · rw [yp3] at hl
    obtain ⟨ya, yb, rfl⟩ := as2 hl
    have yg := Rpx_y o hF hR hX
    obtain ⟨rfl, ys1⟩ := ys1
    rw [yg.fn] at ys1
    rcases ys1 with ⟨ya1, a2⟩ | ⟨ya1, a2, a3⟩
    · rcases ys2 with ⟨b1, b2⟩ | ⟨b1, b2⟩
      · rw [some_int a2, some_int b2]
      · exact absurd b1 ya1
    · rcases ys2 with ⟨b1, b2⟩ | ⟨b1, b2⟩
      · exact absurd ya1 b1
      · have yi6 : ya.toInt.toNat < 60 := by have := ya1.1; omega
        rw [some_int a3, some_int b2]
        unfold rdV
        rw [yg.r57 _ yi6, yg.py.2.2.1 _ yi6]
/-! count -/
