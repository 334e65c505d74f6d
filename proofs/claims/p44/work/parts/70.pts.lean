/-! POINTS: the sums of the two -/
def ptFX (yA : AW) (yf l yk : Int32) (yj : Nat) : Int32 := if (yA.1 8 yj).toInt = yf.toInt ∧ (yA.1 9 yj).toInt = l.toInt ∧ (yA.1 11 yj).toInt ≤ yk.toInt then yA.1 10 yj else 0
def ptsX (yA : AW) (yf l yk : Int32) : Int32 := sumN (ptFX yA yf l yk) (yA.1 5 7).toInt.toNat
def ptFM (yA : AW) (yf l yk : Int32) (yj : Nat) : Int32 := if (yA.1 84 yj).toInt = yf.toInt ∧ (yA.1 85 yj).toInt = l.toInt ∧ 0 ≤ (yA.1 87 yj).toInt ∧ (yA.1 87 yj).toInt ≤ yk.toInt then yA.1 86 yj else 0
def ptsM (yA : AW) (yf l yk : Int32) : Int32 := sumN (ptFM yA yf l yk) (yA.1 69 24).toInt.toNat
theorem sumN_0 {yf : Nat → Int32} {yn : Nat} (yh : yf yn = 0) : sumN yf (yn + 1) = sumN yf yn := by
  show sumN yf yn + yf yn = sumN yf yn
  rw [yh, Int32.add_zero]
theorem sumN_s {yf : Nat → Int32} {yn : Nat} {yx : Int32} (yh : yf yn = yx) : sumN yf (yn + 1) = sumN yf yn + yx := by
  show sumN yf yn + yf yn = sumN yf yn + yx
  rw [yh]
theorem bx_pb0 {N : Nat} {yA : AW} {yQ : Option Value → AW → Prop} (yf l yk : Int32)
    (l1 : Pa N 46 6 [(0, .ref 5), (1, .int yf), (2, .int l), (3, .int yk), (4, .int 0), (5, .int 0)] [] yA yQ) :
    Pa N 46 0 [(0, .ref 5), (1, .int yf), (2, .int l), (3, .int yk)] [] yA yQ := by
  refine Pa.ic (x := 0) (pc' := 1) (by rfl) (by rfl) (by decide) ?_
  refine Pa.mp 1 (pc' := 3) (l' := [(4, .int 0), (0, .ref 5), (1, .int yf), (2, .int l), (3, .int yk)]) (st' := []) (by rfl) ?_
  refine Pa.ic (x := 0) (pc' := 4) (by rfl) (by rfl) (by decide) ?_
  refine Pa.mp 1 (pc' := 6) (l' := [(5, .int 0), (4, .int 0), (0, .ref 5), (1, .int yf), (2, .int l), (3, .int yk)]) (st' := []) (by rfl) ?_
  refine Pa.lv (l' := [(0, .ref 5), (1, .int yf), (2, .int l), (3, .int yk), (4, .int 0), (5, .int 0)]) (lvS_c rfl (lvS_c rfl (lvS_c rfl (lvS_c rfl (lvS_c rfl (lvS_c rfl (lvS_nil))))))) rfl ?_
  exact l1
theorem bx_pb {N : Nat} {yA : AW} {yQ : Option Value → AW → Prop} (yf l yk ys yi : Int32)
    (l1 : (yA.1 5 7).toInt ≤ yi.toInt → yQ (some (.int ys)) yA)
    (l2 : yi.toInt < (yA.1 5 7).toInt → 0 ≤ yi.toInt → yi.toInt < 100 → (yA.1 8 yi.toInt.toNat).toInt ≠ yf.toInt → Pa N 46 6 [(0, .ref 5), (1, .int yf), (2, .int l), (3, .int yk), (4, .int ys), (5, .int (yi + 1))] [] yA yQ)
    (l3 : yi.toInt < (yA.1 5 7).toInt → 0 ≤ yi.toInt → yi.toInt < 100 → (yA.1 8 yi.toInt.toNat).toInt = yf.toInt → (yA.1 9 yi.toInt.toNat).toInt ≠ l.toInt → Pa N 46 6 [(0, .ref 5), (1, .int yf), (2, .int l), (3, .int yk), (4, .int ys), (5, .int (yi + 1))] [] yA yQ)
    (l4 : yi.toInt < (yA.1 5 7).toInt → 0 ≤ yi.toInt → yi.toInt < 100 → (yA.1 8 yi.toInt.toNat).toInt = yf.toInt → (yA.1 9 yi.toInt.toNat).toInt = l.toInt → yk.toInt < (yA.1 11 yi.toInt.toNat).toInt → Pa N 46 6 [(0, .ref 5), (1, .int yf), (2, .int l), (3, .int yk), (4, .int ys), (5, .int (yi + 1))] [] yA yQ)
    (l5 : yi.toInt < (yA.1 5 7).toInt → 0 ≤ yi.toInt → yi.toInt < 100 → (yA.1 8 yi.toInt.toNat).toInt = yf.toInt → (yA.1 9 yi.toInt.toNat).toInt = l.toInt → (yA.1 11 yi.toInt.toNat).toInt ≤ yk.toInt → Pa N 46 6 [(0, .ref 5), (1, .int yf), (2, .int l), (3, .int yk), (4, .int (ys + (yA.1 10 yi.toInt.toNat))), (5, .int (yi + 1))] [] yA yQ) :
    Pa (N + 1) 46 6 [(0, .ref 5), (1, .int yf), (2, .int l), (3, .int yk), (4, .int ys), (5, .int yi)] [] yA yQ := by
  refine Pa.mp1 1 (pc' := 9) (l' := [(0, .ref 5), (1, .int yf), (2, .int l), (3, .int yk), (4, .int ys), (5, .int yi)]) (st' := [.ref 5, .int yi]) (by rfl) ?_
  refine Pa.gfI (v := yA.1 5 7) (by rfl) (by rfl) (.inl rfl) (by rfl) (by rfl) ?_
  refine Pa.if2 (a := yi.toInt) (b := (yA.1 5 7).toInt) (t := 66) (by rfl) (by rfl) (rfl) (rfl) (fun h1 => ?_) (fun h2 => ?_)
  · skip
    refine Pa.mp 1 (pc' := 68) (l' := [(0, .ref 5), (1, .int yf), (2, .int l), (3, .int yk), (4, .int ys), (5, .int yi)]) (st' := [.int ys]) (by rfl) ?_
    refine Pa.iret (by rfl) ?_
    exact l1 h1
  · skip
    refine Pa.mp 1 (pc' := 16) (l' := [(0, .ref 5), (1, .int yf), (2, .int l), (3, .int yk), (4, .int ys), (5, .int yi)]) (st' := [.ref 5]) (by rfl) ?_
    refine Pa.gfR (by rfl) (by rfl) (.inl rfl) (by rfl) ?_
    show Pa N 46 19 [(0, .ref 5), (1, .int yf), (2, .int l), (3, .int yk), (4, .int ys), (5, .int yi)] [.ref 8] yA _
    refine Pa.mp 1 (pc' := 21) (l' := [(0, .ref 5), (1, .int yf), (2, .int l), (3, .int yk), (4, .int ys), (5, .int yi)]) (st' := [.int yi, .ref 8]) (by rfl) ?_
    refine Pa.alds (v := yA.1 8 yi.toInt.toNat) (by rfl) (by rfl) (by rfl) (fun h3 h4 => ?_)
    refine Pa.mp 1 (pc' := 23) (l' := [(0, .ref 5), (1, .int yf), (2, .int l), (3, .int yk), (4, .int ys), (5, .int yi)]) (st' := [.int yf, .int (yA.1 8 yi.toInt.toNat)]) (by rfl) ?_
    refine Pa.if2 (a := (yA.1 8 yi.toInt.toNat).toInt) (b := yf.toInt) (t := 60) (by rfl) (by rfl) (rfl) (rfl) (fun h5 => ?_) (fun h6 => ?_)
    · skip
      refine Pa.iinc (x := yi) (c := 1) (v := (yi + 1)) (l' := [(5, .int (yi + 1)), (0, .ref 5), (1, .int yf), (2, .int l), (3, .int yk), (4, .int ys)]) (by rfl) (by rfl) (by decide) (by rfl) (by rfl) ?_
      refine Pa.mp 1 (pc' := 6) (l' := [(5, .int (yi + 1)), (0, .ref 5), (1, .int yf), (2, .int l), (3, .int yk), (4, .int ys)]) (st' := []) (by rfl) ?_
      refine Pa.lv (l' := [(0, .ref 5), (1, .int yf), (2, .int l), (3, .int yk), (4, .int ys), (5, .int (yi + 1))]) (lvS_c rfl (lvS_c rfl (lvS_c rfl (lvS_c rfl (lvS_c rfl (lvS_c rfl (lvS_nil))))))) rfl ?_
      exact l2 h2 h3 h4 h5
    · skip
      refine Pa.mp 1 (pc' := 27) (l' := [(0, .ref 5), (1, .int yf), (2, .int l), (3, .int yk), (4, .int ys), (5, .int yi)]) (st' := [.ref 5]) (by rfl) ?_
      refine Pa.gfR (by rfl) (by rfl) (.inl rfl) (by rfl) ?_
      show Pa N 46 30 [(0, .ref 5), (1, .int yf), (2, .int l), (3, .int yk), (4, .int ys), (5, .int yi)] [.ref 9] yA _
      refine Pa.mp 1 (pc' := 32) (l' := [(0, .ref 5), (1, .int yf), (2, .int l), (3, .int yk), (4, .int ys), (5, .int yi)]) (st' := [.int yi, .ref 9]) (by rfl) ?_
      refine Pa.alds (v := yA.1 9 yi.toInt.toNat) (by rfl) (by rfl) (by rfl) (fun h7 h8 => ?_)
      refine Pa.mp 1 (pc' := 34) (l' := [(0, .ref 5), (1, .int yf), (2, .int l), (3, .int yk), (4, .int ys), (5, .int yi)]) (st' := [.int l, .int (yA.1 9 yi.toInt.toNat)]) (by rfl) ?_
      refine Pa.if2 (a := (yA.1 9 yi.toInt.toNat).toInt) (b := l.toInt) (t := 60) (by rfl) (by rfl) (rfl) (rfl) (fun h9 => ?_) (fun h10 => ?_)
      · skip
        refine Pa.iinc (x := yi) (c := 1) (v := (yi + 1)) (l' := [(5, .int (yi + 1)), (0, .ref 5), (1, .int yf), (2, .int l), (3, .int yk), (4, .int ys)]) (by rfl) (by rfl) (by decide) (by rfl) (by rfl) ?_
        refine Pa.mp 1 (pc' := 6) (l' := [(5, .int (yi + 1)), (0, .ref 5), (1, .int yf), (2, .int l), (3, .int yk), (4, .int ys)]) (st' := []) (by rfl) ?_
        refine Pa.lv (l' := [(0, .ref 5), (1, .int yf), (2, .int l), (3, .int yk), (4, .int ys), (5, .int (yi + 1))]) (lvS_c rfl (lvS_c rfl (lvS_c rfl (lvS_c rfl (lvS_c rfl (lvS_c rfl (lvS_nil))))))) rfl ?_
        exact l3 h2 h3 h4 h6 h9
      · skip
        refine Pa.mp 1 (pc' := 38) (l' := [(0, .ref 5), (1, .int yf), (2, .int l), (3, .int yk), (4, .int ys), (5, .int yi)]) (st' := [.ref 5]) (by rfl) ?_
        refine Pa.gfR (by rfl) (by rfl) (.inl rfl) (by rfl) ?_
        show Pa N 46 41 [(0, .ref 5), (1, .int yf), (2, .int l), (3, .int yk), (4, .int ys), (5, .int yi)] [.ref 11] yA _
        refine Pa.mp 1 (pc' := 43) (l' := [(0, .ref 5), (1, .int yf), (2, .int l), (3, .int yk), (4, .int ys), (5, .int yi)]) (st' := [.int yi, .ref 11]) (by rfl) ?_
        refine Pa.alds (v := yA.1 11 yi.toInt.toNat) (by rfl) (by rfl) (by rfl) (fun h11 h12 => ?_)
        refine Pa.mp 1 (pc' := 45) (l' := [(0, .ref 5), (1, .int yf), (2, .int l), (3, .int yk), (4, .int ys), (5, .int yi)]) (st' := [.int yk, .int (yA.1 11 yi.toInt.toNat)]) (by rfl) ?_
        refine Pa.if2 (a := (yA.1 11 yi.toInt.toNat).toInt) (b := yk.toInt) (t := 60) (by rfl) (by rfl) (rfl) (rfl) (fun h13 => ?_) (fun h14 => ?_)
        · skip
          refine Pa.iinc (x := yi) (c := 1) (v := (yi + 1)) (l' := [(5, .int (yi + 1)), (0, .ref 5), (1, .int yf), (2, .int l), (3, .int yk), (4, .int ys)]) (by rfl) (by rfl) (by decide) (by rfl) (by rfl) ?_
          refine Pa.mp 1 (pc' := 6) (l' := [(5, .int (yi + 1)), (0, .ref 5), (1, .int yf), (2, .int l), (3, .int yk), (4, .int ys)]) (st' := []) (by rfl) ?_
          refine Pa.lv (l' := [(0, .ref 5), (1, .int yf), (2, .int l), (3, .int yk), (4, .int ys), (5, .int (yi + 1))]) (lvS_c rfl (lvS_c rfl (lvS_c rfl (lvS_c rfl (lvS_c rfl (lvS_c rfl (lvS_nil))))))) rfl ?_
          exact l4 h2 h3 h4 h6 h10 h13
        · skip
          refine Pa.mp 2 (pc' := 51) (l' := [(0, .ref 5), (1, .int yf), (2, .int l), (3, .int yk), (4, .int ys), (5, .int yi)]) (st' := [.ref 5, .int ys]) (by rfl) ?_
          refine Pa.gfR (by rfl) (by rfl) (.inl rfl) (by rfl) ?_
          show Pa N 46 54 [(0, .ref 5), (1, .int yf), (2, .int l), (3, .int yk), (4, .int ys), (5, .int yi)] [.ref 10, .int ys] yA _
          refine Pa.mp 1 (pc' := 56) (l' := [(0, .ref 5), (1, .int yf), (2, .int l), (3, .int yk), (4, .int ys), (5, .int yi)]) (st' := [.int yi, .ref 10, .int ys]) (by rfl) ?_
          refine Pa.alds (v := yA.1 10 yi.toInt.toNat) (by rfl) (by rfl) (by rfl) (fun h15 yh16 => ?_)
          refine Pa.mp 2 (pc' := 60) (l' := [(4, .int (ys + (yA.1 10 yi.toInt.toNat))), (0, .ref 5), (1, .int yf), (2, .int l), (3, .int yk), (5, .int yi)]) (st' := []) (by rfl) ?_
          refine Pa.iinc (x := yi) (c := 1) (v := (yi + 1)) (l' := [(5, .int (yi + 1)), (4, .int (ys + (yA.1 10 yi.toInt.toNat))), (0, .ref 5), (1, .int yf), (2, .int l), (3, .int yk)]) (by rfl) (by rfl) (by decide) (by rfl) (by rfl) ?_
          refine Pa.mp 1 (pc' := 6) (l' := [(5, .int (yi + 1)), (4, .int (ys + (yA.1 10 yi.toInt.toNat))), (0, .ref 5), (1, .int yf), (2, .int l), (3, .int yk)]) (st' := []) (by rfl) ?_
          refine Pa.lv (l' := [(0, .ref 5), (1, .int yf), (2, .int l), (3, .int yk), (4, .int (ys + (yA.1 10 yi.toInt.toNat))), (5, .int (yi + 1))]) (lvS_c rfl (lvS_c rfl (lvS_c rfl (lvS_c rfl (lvS_c rfl (lvS_c rfl (lvS_nil))))))) rfl ?_
          exact l5 h2 h3 h4 h6 h10 h14
theorem bm_po0 {N : Nat} {yA : AW} {yQ : Option Value → AW → Prop} (yf l yk : Int32)
    (l1 : Pa N 175 6 [(0, .ref 69), (1, .int yf), (2, .int l), (3, .int yk), (4, .int 0), (5, .int 0)] [] yA yQ) :
    Pa N 175 0 [(0, .ref 69), (1, .int yf), (2, .int l), (3, .int yk)] [] yA yQ := by
  refine Pa.ic (x := 0) (pc' := 1) (by rfl) (by rfl) (by decide) ?_
  refine Pa.mp 1 (pc' := 3) (l' := [(4, .int 0), (0, .ref 69), (1, .int yf), (2, .int l), (3, .int yk)]) (st' := []) (by rfl) ?_
  refine Pa.ic (x := 0) (pc' := 4) (by rfl) (by rfl) (by decide) ?_
  refine Pa.mp 1 (pc' := 6) (l' := [(5, .int 0), (4, .int 0), (0, .ref 69), (1, .int yf), (2, .int l), (3, .int yk)]) (st' := []) (by rfl) ?_
  refine Pa.lv (l' := [(0, .ref 69), (1, .int yf), (2, .int l), (3, .int yk), (4, .int 0), (5, .int 0)]) (lvS_c rfl (lvS_c rfl (lvS_c rfl (lvS_c rfl (lvS_c rfl (lvS_c rfl (lvS_nil))))))) rfl ?_
  exact l1
theorem bm_po {N : Nat} {yA : AW} {yQ : Option Value → AW → Prop} (yf l yk ys yi : Int32)
    (l1 : (yA.1 69 24).toInt ≤ yi.toInt → yQ (some (.int ys)) yA)
    (l2 : yi.toInt < (yA.1 69 24).toInt → 0 ≤ yi.toInt → yi.toInt < 100 → (yA.1 84 yi.toInt.toNat).toInt ≠ yf.toInt → Pa N 175 6 [(0, .ref 69), (1, .int yf), (2, .int l), (3, .int yk), (4, .int (ys + 0)), (5, .int (yi + 1))] [] yA yQ)
    (l3 : yi.toInt < (yA.1 69 24).toInt → 0 ≤ yi.toInt → yi.toInt < 100 → (yA.1 84 yi.toInt.toNat).toInt = yf.toInt → (yA.1 85 yi.toInt.toNat).toInt ≠ l.toInt → Pa N 175 6 [(0, .ref 69), (1, .int yf), (2, .int l), (3, .int yk), (4, .int (ys + 0)), (5, .int (yi + 1))] [] yA yQ)
    (l4 : yi.toInt < (yA.1 69 24).toInt → 0 ≤ yi.toInt → yi.toInt < 100 → (yA.1 84 yi.toInt.toNat).toInt = yf.toInt → (yA.1 85 yi.toInt.toNat).toInt = l.toInt → (yA.1 87 yi.toInt.toNat).toInt < 0 → Pa N 175 6 [(0, .ref 69), (1, .int yf), (2, .int l), (3, .int yk), (4, .int (ys + 0)), (5, .int (yi + 1))] [] yA yQ)
    (l5 : yi.toInt < (yA.1 69 24).toInt → 0 ≤ yi.toInt → yi.toInt < 100 → (yA.1 84 yi.toInt.toNat).toInt = yf.toInt → (yA.1 85 yi.toInt.toNat).toInt = l.toInt → 0 ≤ (yA.1 87 yi.toInt.toNat).toInt → yk.toInt < (yA.1 87 yi.toInt.toNat).toInt → Pa N 175 6 [(0, .ref 69), (1, .int yf), (2, .int l), (3, .int yk), (4, .int (ys + 0)), (5, .int (yi + 1))] [] yA yQ)
    (l6 : yi.toInt < (yA.1 69 24).toInt → 0 ≤ yi.toInt → yi.toInt < 100 → (yA.1 84 yi.toInt.toNat).toInt = yf.toInt → (yA.1 85 yi.toInt.toNat).toInt = l.toInt → 0 ≤ (yA.1 87 yi.toInt.toNat).toInt → (yA.1 87 yi.toInt.toNat).toInt ≤ yk.toInt → Pa N 175 6 [(0, .ref 69), (1, .int yf), (2, .int l), (3, .int yk), (4, .int (ys + (yA.1 86 yi.toInt.toNat))), (5, .int (yi + 1))] [] yA yQ) :
    Pa (N + 1) 175 6 [(0, .ref 69), (1, .int yf), (2, .int l), (3, .int yk), (4, .int ys), (5, .int yi)] [] yA yQ := by
  refine Pa.mp1 1 (pc' := 9) (l' := [(0, .ref 69), (1, .int yf), (2, .int l), (3, .int yk), (4, .int ys), (5, .int yi)]) (st' := [.ref 69, .int yi]) (by rfl) ?_
  refine Pa.gfI (v := yA.1 69 24) (by rfl) (by rfl) (.inl rfl) (by rfl) (by rfl) ?_
  refine Pa.if2 (a := yi.toInt) (b := (yA.1 69 24).toInt) (t := 74) (by rfl) (by rfl) (rfl) (rfl) (fun h1 => ?_) (fun h2 => ?_)
  · skip
    refine Pa.mp 1 (pc' := 76) (l' := [(0, .ref 69), (1, .int yf), (2, .int l), (3, .int yk), (4, .int ys), (5, .int yi)]) (st' := [.int ys]) (by rfl) ?_
    refine Pa.iret (by rfl) ?_
    exact l1 h1
  · skip
    refine Pa.mp 2 (pc' := 18) (l' := [(0, .ref 69), (1, .int yf), (2, .int l), (3, .int yk), (4, .int ys), (5, .int yi)]) (st' := [.ref 69, .int ys]) (by rfl) ?_
    refine Pa.gfR (by rfl) (by rfl) (.inl rfl) (by rfl) ?_
    show Pa N 175 21 [(0, .ref 69), (1, .int yf), (2, .int l), (3, .int yk), (4, .int ys), (5, .int yi)] [.ref 84, .int ys] yA _
    refine Pa.mp 1 (pc' := 23) (l' := [(0, .ref 69), (1, .int yf), (2, .int l), (3, .int yk), (4, .int ys), (5, .int yi)]) (st' := [.int yi, .ref 84, .int ys]) (by rfl) ?_
    refine Pa.alds (v := yA.1 84 yi.toInt.toNat) (by rfl) (by rfl) (by rfl) (fun h3 h4 => ?_)
    refine Pa.mp 1 (pc' := 25) (l' := [(0, .ref 69), (1, .int yf), (2, .int l), (3, .int yk), (4, .int ys), (5, .int yi)]) (st' := [.int yf, .int (yA.1 84 yi.toInt.toNat), .int ys]) (by rfl) ?_
    refine Pa.if2 (a := (yA.1 84 yi.toInt.toNat).toInt) (b := yf.toInt) (t := 64) (by rfl) (by rfl) (rfl) (rfl) (fun h5 => ?_) (fun h6 => ?_)
    · skip
      refine Pa.ic (x := 0) (pc' := 65) (by rfl) (by rfl) (by decide) ?_
      refine Pa.mp 2 (pc' := 68) (l' := [(4, .int (ys + 0)), (0, .ref 69), (1, .int yf), (2, .int l), (3, .int yk), (5, .int yi)]) (st' := []) (by rfl) ?_
      refine Pa.iinc (x := yi) (c := 1) (v := (yi + 1)) (l' := [(5, .int (yi + 1)), (4, .int (ys + 0)), (0, .ref 69), (1, .int yf), (2, .int l), (3, .int yk)]) (by rfl) (by rfl) (by decide) (by rfl) (by rfl) ?_
      refine Pa.mp 1 (pc' := 6) (l' := [(5, .int (yi + 1)), (4, .int (ys + 0)), (0, .ref 69), (1, .int yf), (2, .int l), (3, .int yk)]) (st' := []) (by rfl) ?_
      refine Pa.lv (l' := [(0, .ref 69), (1, .int yf), (2, .int l), (3, .int yk), (4, .int (ys + 0)), (5, .int (yi + 1))]) (lvS_c rfl (lvS_c rfl (lvS_c rfl (lvS_c rfl (lvS_c rfl (lvS_c rfl (lvS_nil))))))) rfl ?_
      exact l2 h2 h3 h4 h5
    · skip
      refine Pa.mp 1 (pc' := 29) (l' := [(0, .ref 69), (1, .int yf), (2, .int l), (3, .int yk), (4, .int ys), (5, .int yi)]) (st' := [.ref 69, .int ys]) (by rfl) ?_
      refine Pa.gfR (by rfl) (by rfl) (.inl rfl) (by rfl) ?_
      show Pa N 175 32 [(0, .ref 69), (1, .int yf), (2, .int l), (3, .int yk), (4, .int ys), (5, .int yi)] [.ref 85, .int ys] yA _
      refine Pa.mp 1 (pc' := 34) (l' := [(0, .ref 69), (1, .int yf), (2, .int l), (3, .int yk), (4, .int ys), (5, .int yi)]) (st' := [.int yi, .ref 85, .int ys]) (by rfl) ?_
      refine Pa.alds (v := yA.1 85 yi.toInt.toNat) (by rfl) (by rfl) (by rfl) (fun h7 h8 => ?_)
      refine Pa.mp 1 (pc' := 36) (l' := [(0, .ref 69), (1, .int yf), (2, .int l), (3, .int yk), (4, .int ys), (5, .int yi)]) (st' := [.int l, .int (yA.1 85 yi.toInt.toNat), .int ys]) (by rfl) ?_
      refine Pa.if2 (a := (yA.1 85 yi.toInt.toNat).toInt) (b := l.toInt) (t := 64) (by rfl) (by rfl) (rfl) (rfl) (fun h9 => ?_) (fun h10 => ?_)
      · skip
        refine Pa.ic (x := 0) (pc' := 65) (by rfl) (by rfl) (by decide) ?_
        refine Pa.mp 2 (pc' := 68) (l' := [(4, .int (ys + 0)), (0, .ref 69), (1, .int yf), (2, .int l), (3, .int yk), (5, .int yi)]) (st' := []) (by rfl) ?_
        refine Pa.iinc (x := yi) (c := 1) (v := (yi + 1)) (l' := [(5, .int (yi + 1)), (4, .int (ys + 0)), (0, .ref 69), (1, .int yf), (2, .int l), (3, .int yk)]) (by rfl) (by rfl) (by decide) (by rfl) (by rfl) ?_
        refine Pa.mp 1 (pc' := 6) (l' := [(5, .int (yi + 1)), (4, .int (ys + 0)), (0, .ref 69), (1, .int yf), (2, .int l), (3, .int yk)]) (st' := []) (by rfl) ?_
        refine Pa.lv (l' := [(0, .ref 69), (1, .int yf), (2, .int l), (3, .int yk), (4, .int (ys + 0)), (5, .int (yi + 1))]) (lvS_c rfl (lvS_c rfl (lvS_c rfl (lvS_c rfl (lvS_c rfl (lvS_c rfl (lvS_nil))))))) rfl ?_
        exact l3 h2 h3 h4 h6 h9
      · skip
        refine Pa.mp 1 (pc' := 40) (l' := [(0, .ref 69), (1, .int yf), (2, .int l), (3, .int yk), (4, .int ys), (5, .int yi)]) (st' := [.ref 69, .int ys]) (by rfl) ?_
        refine Pa.gfR (by rfl) (by rfl) (.inl rfl) (by rfl) ?_
        show Pa N 175 43 [(0, .ref 69), (1, .int yf), (2, .int l), (3, .int yk), (4, .int ys), (5, .int yi)] [.ref 87, .int ys] yA _
        refine Pa.mp 1 (pc' := 45) (l' := [(0, .ref 69), (1, .int yf), (2, .int l), (3, .int yk), (4, .int ys), (5, .int yi)]) (st' := [.int yi, .ref 87, .int ys]) (by rfl) ?_
        refine Pa.alds (v := yA.1 87 yi.toInt.toNat) (by rfl) (by rfl) (by rfl) (fun h11 h12 => ?_)
        refine Pa.ic (x := 0) (pc' := 47) (by rfl) (by rfl) (by decide) ?_
        refine Pa.mp 1 (pc' := 48) (l' := [(0, .ref 69), (1, .int yf), (2, .int l), (3, .int yk), (4, .int ys), (5, .int yi)]) (st' := [.int yk, .int 0, .int (yA.1 87 yi.toInt.toNat), .int ys]) (by rfl) ?_
        refine Pa.ist (by rfl) (by rfl) (.inl rfl) (by rfl) (by rfl) ?_
        show Pa N 152 0 [(0, .int (yA.1 87 yi.toInt.toNat)), (1, .int 0), (2, .int yk)] [] yA _
        refine Pa.mp 2 (pc' := 2) (l' := [(0, .int (yA.1 87 yi.toInt.toNat)), (1, .int 0), (2, .int yk)]) (st' := [.int 0, .int (yA.1 87 yi.toInt.toNat)]) (by rfl) ?_
        refine Pa.if2 (a := (yA.1 87 yi.toInt.toNat).toInt) (b := 0) (t := 14) (by rfl) (by rfl) (rfl) (by decide) (fun h13 => ?_) (fun h14 => ?_)
        · skip
          refine Pa.ic (x := 0) (pc' := 15) (by rfl) (by rfl) (by decide) ?_
          refine Pa.iret (by rfl) ?_
          show Pa N 175 51 [(0, .ref 69), (1, .int yf), (2, .int l), (3, .int yk), (4, .int ys), (5, .int yi)] [.int 0, .int ys] yA _
          refine Pa.if1k true (by rfl) (by rfl) (by decide) ?_
          show Pa N 175 64 [(0, .ref 69), (1, .int yf), (2, .int l), (3, .int yk), (4, .int ys), (5, .int yi)] [.int ys] yA _
          refine Pa.ic (x := 0) (pc' := 65) (by rfl) (by rfl) (by decide) ?_
          refine Pa.mp 2 (pc' := 68) (l' := [(4, .int (ys + 0)), (0, .ref 69), (1, .int yf), (2, .int l), (3, .int yk), (5, .int yi)]) (st' := []) (by rfl) ?_
          refine Pa.iinc (x := yi) (c := 1) (v := (yi + 1)) (l' := [(5, .int (yi + 1)), (4, .int (ys + 0)), (0, .ref 69), (1, .int yf), (2, .int l), (3, .int yk)]) (by rfl) (by rfl) (by decide) (by rfl) (by rfl) ?_
          refine Pa.mp 1 (pc' := 6) (l' := [(5, .int (yi + 1)), (4, .int (ys + 0)), (0, .ref 69), (1, .int yf), (2, .int l), (3, .int yk)]) (st' := []) (by rfl) ?_
          refine Pa.lv (l' := [(0, .ref 69), (1, .int yf), (2, .int l), (3, .int yk), (4, .int (ys + 0)), (5, .int (yi + 1))]) (lvS_c rfl (lvS_c rfl (lvS_c rfl (lvS_c rfl (lvS_c rfl (lvS_c rfl (lvS_nil))))))) rfl ?_
          exact l4 h2 h3 h4 h6 h10 h13
        · skip
          refine Pa.mp 2 (pc' := 7) (l' := [(0, .int (yA.1 87 yi.toInt.toNat)), (1, .int 0), (2, .int yk)]) (st' := [.int yk, .int (yA.1 87 yi.toInt.toNat)]) (by rfl) ?_
          refine Pa.if2 (a := (yA.1 87 yi.toInt.toNat).toInt) (b := yk.toInt) (t := 14) (by rfl) (by rfl) (rfl) (rfl) (fun h15 => ?_) (fun yh16 => ?_)
          · skip
            refine Pa.ic (x := 0) (pc' := 15) (by rfl) (by rfl) (by decide) ?_
            refine Pa.iret (by rfl) ?_
            show Pa N 175 51 [(0, .ref 69), (1, .int yf), (2, .int l), (3, .int yk), (4, .int ys), (5, .int yi)] [.int 0, .int ys] yA _
            refine Pa.if1k true (by rfl) (by rfl) (by decide) ?_
            show Pa N 175 64 [(0, .ref 69), (1, .int yf), (2, .int l), (3, .int yk), (4, .int ys), (5, .int yi)] [.int ys] yA _
            refine Pa.ic (x := 0) (pc' := 65) (by rfl) (by rfl) (by decide) ?_
            refine Pa.mp 2 (pc' := 68) (l' := [(4, .int (ys + 0)), (0, .ref 69), (1, .int yf), (2, .int l), (3, .int yk), (5, .int yi)]) (st' := []) (by rfl) ?_
            refine Pa.iinc (x := yi) (c := 1) (v := (yi + 1)) (l' := [(5, .int (yi + 1)), (4, .int (ys + 0)), (0, .ref 69), (1, .int yf), (2, .int l), (3, .int yk)]) (by rfl) (by rfl) (by decide) (by rfl) (by rfl) ?_
            refine Pa.mp 1 (pc' := 6) (l' := [(5, .int (yi + 1)), (4, .int (ys + 0)), (0, .ref 69), (1, .int yf), (2, .int l), (3, .int yk)]) (st' := []) (by rfl) ?_
            refine Pa.lv (l' := [(0, .ref 69), (1, .int yf), (2, .int l), (3, .int yk), (4, .int (ys + 0)), (5, .int (yi + 1))]) (lvS_c rfl (lvS_c rfl (lvS_c rfl (lvS_c rfl (lvS_c rfl (lvS_c rfl (lvS_nil))))))) rfl ?_
            exact l5 h2 h3 h4 h6 h10 h14 h15
          · skip
            refine Pa.ic (x := 1) (pc' := 11) (by rfl) (by rfl) (by decide) ?_
            refine Pa.mp 1 (pc' := 15) (l' := [(0, .int (yA.1 87 yi.toInt.toNat)), (1, .int 0), (2, .int yk)]) (st' := [.int 1]) (by rfl) ?_
            refine Pa.iret (by rfl) ?_
            show Pa N 175 51 [(0, .ref 69), (1, .int yf), (2, .int l), (3, .int yk), (4, .int ys), (5, .int yi)] [.int 1, .int ys] yA _
            refine Pa.if1k false (by rfl) (by rfl) (by decide) ?_
            show Pa N 175 54 [(0, .ref 69), (1, .int yf), (2, .int l), (3, .int yk), (4, .int ys), (5, .int yi)] [.int ys] yA _
            refine Pa.mp 1 (pc' := 55) (l' := [(0, .ref 69), (1, .int yf), (2, .int l), (3, .int yk), (4, .int ys), (5, .int yi)]) (st' := [.ref 69, .int ys]) (by rfl) ?_
            refine Pa.gfR (by rfl) (by rfl) (.inl rfl) (by rfl) ?_
            show Pa N 175 58 [(0, .ref 69), (1, .int yf), (2, .int l), (3, .int yk), (4, .int ys), (5, .int yi)] [.ref 86, .int ys] yA _
            refine Pa.mp 1 (pc' := 60) (l' := [(0, .ref 69), (1, .int yf), (2, .int l), (3, .int yk), (4, .int ys), (5, .int yi)]) (st' := [.int yi, .ref 86, .int ys]) (by rfl) ?_
            refine Pa.alds (v := yA.1 86 yi.toInt.toNat) (by rfl) (by rfl) (by rfl) (fun h17 h18 => ?_)
            refine Pa.mp 3 (pc' := 68) (l' := [(4, .int (ys + (yA.1 86 yi.toInt.toNat))), (0, .ref 69), (1, .int yf), (2, .int l), (3, .int yk), (5, .int yi)]) (st' := []) (by rfl) ?_
            refine Pa.iinc (x := yi) (c := 1) (v := (yi + 1)) (l' := [(5, .int (yi + 1)), (4, .int (ys + (yA.1 86 yi.toInt.toNat))), (0, .ref 69), (1, .int yf), (2, .int l), (3, .int yk)]) (by rfl) (by rfl) (by decide) (by rfl) (by rfl) ?_
            refine Pa.mp 1 (pc' := 6) (l' := [(5, .int (yi + 1)), (4, .int (ys + (yA.1 86 yi.toInt.toNat))), (0, .ref 69), (1, .int yf), (2, .int l), (3, .int yk)]) (st' := []) (by rfl) ?_
            refine Pa.lv (l' := [(0, .ref 69), (1, .int yf), (2, .int l), (3, .int yk), (4, .int (ys + (yA.1 86 yi.toInt.toNat))), (5, .int (yi + 1))]) (lvS_c rfl (lvS_c rfl (lvS_c rfl (lvS_c rfl (lvS_c rfl (lvS_c rfl (lvS_nil))))))) rfl ?_
            exact l6 h2 h3 h4 h6 h10 h14 yh16
theorem c_pointsBy (N : Nat) (yA : AW) (yf l yk : Int32) : Pa N 46 0 [(0, .ref 5), (1, .int yf), (2, .int l), (3, .int yk)] [] yA (fun yu A1 => yu = some (.int (ptsX yA yf l yk)) ∧ A1 = yA) := by
  have ykey : ∀ N yn, yn ≤ (yA.1 5 7).toInt.toNat → Pa N 46 6 [(0, .ref 5), (1, .int yf), (2, .int l), (3, .int yk), (4, .int (sumN (ptFX yA yf l yk) yn)), (5, .int (Int32.ofNat yn))] [] yA (fun yu A1 => yu = some (.int (ptsX yA yf l yk)) ∧ A1 = yA) := by
    intro N
    induction N with
    | zero => intro yn _; exact Pa.zero
    | succ N yih =>
      intro yn hn
      have ye1 := on_nat hn
      have ye2 : (Int32.ofNat yn).toInt.toNat = yn := by rw [ye1]; rfl
      refine bx_pb yf l yk _ _ ?_ ?_ ?_ ?_ ?_ <;> rw [ye1] <;> try rw [Int.toNat_natCast]
      · intro h1
        refine ⟨?_, rfl⟩
        unfold ptsX
        rw [show (yA.1 5 7).toInt.toNat = yn by omega]
      · intro h1 h2 h3 h4
        have yh := yih (yn + 1) (by omega)
        rw [sumN_0 (show ptFX yA yf l yk yn = 0 from if_neg (fun yq => h4 yq.1)), on_succ] at yh
        exact yh
      · intro h1 h2 h3 h4 h5
        have yh := yih (yn + 1) (by omega)
        rw [sumN_0 (show ptFX yA yf l yk yn = 0 from if_neg (fun yq => h5 yq.2.1)), on_succ] at yh
        exact yh
      · intro h1 h2 h3 h4 h5 h6
        have yh := yih (yn + 1) (by omega)
        rw [sumN_0 (show ptFX yA yf l yk yn = 0 from if_neg (fun yq => by omega)), on_succ] at yh
        exact yh
      · intro h1 h2 h3 h4 h5 h6
        have yh := yih (yn + 1) (by omega)
        rw [sumN_s (show ptFX yA yf l yk yn = yA.1 10 yn from if_pos ⟨h4, h5, h6⟩), on_succ] at yh
        exact yh
  exact bx_pb0 yf l yk (ykey N 0 (Nat.zero_le _))
theorem c_pointsOf (N : Nat) (yA : AW) (yf l yk : Int32) : Pa N 175 0 [(0, .ref 69), (1, .int yf), (2, .int l), (3, .int yk)] [] yA (fun yu A1 => yu = some (.int (ptsM yA yf l yk)) ∧ A1 = yA) := by
  have ykey : ∀ N yn, yn ≤ (yA.1 69 24).toInt.toNat → Pa N 175 6 [(0, .ref 69), (1, .int yf), (2, .int l), (3, .int yk), (4, .int (sumN (ptFM yA yf l yk) yn)), (5, .int (Int32.ofNat yn))] [] yA (fun yu A1 => yu = some (.int (ptsM yA yf l yk)) ∧ A1 = yA) := by
    intro N
    induction N with
    | zero => intro yn _; exact Pa.zero
    | succ N yih =>
      intro yn hn
      have ye1 := on_nat hn
      refine bm_po yf l yk _ _ ?_ ?_ ?_ ?_ ?_ ?_ <;> rw [ye1] <;> (try rw [Int.toNat_natCast]) <;> (try rw [Int32.add_zero])
      · intro h1
        refine ⟨?_, rfl⟩
        unfold ptsM
        rw [show (yA.1 69 24).toInt.toNat = yn by omega]
      · intro h1 h2 h3 h4
        have yh := yih (yn + 1) (by omega)
        rw [sumN_0 (show ptFM yA yf l yk yn = 0 from if_neg (fun yq => h4 yq.1)), on_succ] at yh
        exact yh
      · intro h1 h2 h3 h4 h5
        have yh := yih (yn + 1) (by omega)
        rw [sumN_0 (show ptFM yA yf l yk yn = 0 from if_neg (fun yq => h5 yq.2.1)), on_succ] at yh
        exact yh
      · intro h1 h2 h3 h4 h5 h6
        have yh := yih (yn + 1) (by omega)
        rw [sumN_0 (show ptFM yA yf l yk yn = 0 from if_neg (fun yq => by omega)), on_succ] at yh
        exact yh
      · intro h1 h2 h3 h4 h5 h6 h7
        have yh := yih (yn + 1) (by omega)
        rw [sumN_0 (show ptFM yA yf l yk yn = 0 from if_neg (fun yq => by omega)), on_succ] at yh
        exact yh
      · intro h1 h2 h3 h4 h5 h6 h7
        have yh := yih (yn + 1) (by omega)
        rw [sumN_s (show ptFM yA yf l yk yn = yA.1 86 yn from if_pos ⟨h4, h5, h6, h7⟩), on_succ] at yh
        exact yh
  exact bm_po0 yf l yk (ykey N 0 (Nat.zero_le _))
