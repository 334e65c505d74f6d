/-! COSTS: the bodies, the sums, what is equal -/
theorem bm_audited0 {N : Nat} {yA : AW} {yQ : Option Value → AW → Prop} (yf : Int32)
    (l1 : Pa N 241 4 [(0, .ref 69), (1, .int yf), (2, .int 0), (3, .int 0)] [] yA yQ) :
    Pa N 241 0 [(0, .ref 69), (1, .int yf)] [] yA yQ := by
  refine Pa.ic (x := 0) (pc' := 1) (by rfl) (by rfl) (by decide) ?_
  refine Pa.mp 1 (pc' := 2) (l' := [(2, .int 0), (0, .ref 69), (1, .int yf)]) (st' := []) (by rfl) ?_
  refine Pa.ic (x := 0) (pc' := 3) (by rfl) (by rfl) (by decide) ?_
  refine Pa.mp 1 (pc' := 4) (l' := [(3, .int 0), (2, .int 0), (0, .ref 69), (1, .int yf)]) (st' := []) (by rfl) ?_
  refine Pa.lv (l' := [(0, .ref 69), (1, .int yf), (2, .int 0), (3, .int 0)]) (lvS_c rfl (lvS_c rfl (lvS_c rfl (lvS_c rfl (lvS_nil))))) rfl ?_
  exact l1
theorem bm_audited {N : Nat} {yA : AW} {yQ : Option Value → AW → Prop} (yf yn yc : Int32)
    (l1 : (yA.1 69 31).toInt ≤ yc.toInt → yQ (some (.int yn)) yA)
    (l2 : yc.toInt < (yA.1 69 31).toInt → yf.toInt < 0 → 0 ≤ yc.toInt → yc.toInt < 150 → (yA.1 93 yc.toInt.toNat).toInt < 0 → Pa N 241 4 [(0, .ref 69), (1, .int yf), (2, .int (yn + 0)), (3, .int (yc + 1))] [] yA yQ)
    (l3 : yc.toInt < (yA.1 69 31).toInt → yf.toInt < 0 → 0 ≤ yc.toInt → yc.toInt < 150 → 0 ≤ (yA.1 93 yc.toInt.toNat).toInt → Pa N 241 4 [(0, .ref 69), (1, .int yf), (2, .int (yn + 1)), (3, .int (yc + 1))] [] yA yQ)
    (l4 : yc.toInt < (yA.1 69 31).toInt → 0 ≤ yf.toInt → 0 ≤ ((7 * yc) + 0).toInt → ((7 * yc) + 0).toInt < 1050 → (yA.1 90 (((7 * yc) + 0).toInt.toNat)).toInt ≠ yf.toInt → Pa N 241 4 [(0, .ref 69), (1, .int yf), (2, .int (yn + 0)), (3, .int (yc + 1))] [] yA yQ)
    (l5 : yc.toInt < (yA.1 69 31).toInt → 0 ≤ yf.toInt → 0 ≤ ((7 * yc) + 0).toInt → ((7 * yc) + 0).toInt < 1050 → (yA.1 90 (((7 * yc) + 0).toInt.toNat)).toInt = yf.toInt → 0 ≤ yc.toInt → yc.toInt < 150 → (yA.1 93 yc.toInt.toNat).toInt < 0 → Pa N 241 4 [(0, .ref 69), (1, .int yf), (2, .int (yn + 0)), (3, .int (yc + 1))] [] yA yQ)
    (l6 : yc.toInt < (yA.1 69 31).toInt → 0 ≤ yf.toInt → 0 ≤ ((7 * yc) + 0).toInt → ((7 * yc) + 0).toInt < 1050 → (yA.1 90 (((7 * yc) + 0).toInt.toNat)).toInt = yf.toInt → 0 ≤ yc.toInt → yc.toInt < 150 → 0 ≤ (yA.1 93 yc.toInt.toNat).toInt → Pa N 241 4 [(0, .ref 69), (1, .int yf), (2, .int (yn + 1)), (3, .int (yc + 1))] [] yA yQ) :
    Pa (N + 1) 241 4 [(0, .ref 69), (1, .int yf), (2, .int yn), (3, .int yc)] [] yA yQ := by
  refine Pa.mp1 1 (pc' := 6) (l' := [(0, .ref 69), (1, .int yf), (2, .int yn), (3, .int yc)]) (st' := [.ref 69, .int yc]) (by rfl) ?_
  refine Pa.gfI (v := yA.1 69 31) (by rfl) (by rfl) (.inl rfl) (by rfl) (by rfl) ?_
  refine Pa.if2 (a := yc.toInt) (b := (yA.1 69 31).toInt) (t := 49) (by rfl) (by rfl) (rfl) (rfl) (fun h1 => ?_) (fun h2 => ?_)
  · have h1 : (yA.1 69 31).toInt ≤ yc.toInt := h1
    refine Pa.mp 1 (pc' := 50) (l' := [(0, .ref 69), (1, .int yf), (2, .int yn), (3, .int yc)]) (st' := [.int yn]) (by rfl) ?_
    refine Pa.iret (by rfl) ?_
    exact l1 h1
  · have h2 : yc.toInt < (yA.1 69 31).toInt := h2
    refine Pa.mp 2 (pc' := 14) (l' := [(0, .ref 69), (1, .int yf), (2, .int yn), (3, .int yc)]) (st' := [.int yf, .int yn]) (by rfl) ?_
    refine Pa.if1 (a := yf.toInt) (t := 27) (by rfl) (by rfl) (rfl) (fun h3 => ?_) (fun h4 => ?_)
    · have h3 : yf.toInt < 0 := h3
      refine Pa.mp 1 (pc' := 28) (l' := [(0, .ref 69), (1, .int yf), (2, .int yn), (3, .int yc)]) (st' := [.ref 69, .int yn]) (by rfl) ?_
      refine Pa.gfR (by rfl) (by rfl) (.inl rfl) (by rfl) ?_
      show Pa N 241 31 [(0, .ref 69), (1, .int yf), (2, .int yn), (3, .int yc)] [.ref 93, .int yn] yA _
      refine Pa.mp 1 (pc' := 32) (l' := [(0, .ref 69), (1, .int yf), (2, .int yn), (3, .int yc)]) (st' := [.int yc, .ref 93, .int yn]) (by rfl) ?_
      refine Pa.alds (v := yA.1 93 yc.toInt.toNat) (by rfl) (by rfl) (by rfl) (fun h5 h6 => ?_)
      have h5 : 0 ≤ yc.toInt := h5
      have h6 : yc.toInt < 150 := h6
      refine Pa.if1 (a := (yA.1 93 yc.toInt.toNat).toInt) (t := 40) (by rfl) (by rfl) (rfl) (fun h7 => ?_) (fun h8 => ?_)
      · have h7 : (yA.1 93 yc.toInt.toNat).toInt < 0 := h7
        refine Pa.ic (x := 0) (pc' := 41) (by rfl) (by rfl) (by decide) ?_
        refine Pa.mp 2 (pc' := 43) (l' := [(2, .int (yn + 0)), (0, .ref 69), (1, .int yf), (3, .int yc)]) (st' := []) (by rfl) ?_
        refine Pa.iinc (x := yc) (c := 1) (v := (yc + 1)) (l' := [(3, .int (yc + 1)), (2, .int (yn + 0)), (0, .ref 69), (1, .int yf)]) (by rfl) (by rfl) (by decide) (by rfl) (by rfl) ?_
        refine Pa.mp 1 (pc' := 4) (l' := [(3, .int (yc + 1)), (2, .int (yn + 0)), (0, .ref 69), (1, .int yf)]) (st' := []) (by rfl) ?_
        refine Pa.lv (l' := [(0, .ref 69), (1, .int yf), (2, .int (yn + 0)), (3, .int (yc + 1))]) (lvS_c rfl (lvS_c rfl (lvS_c rfl (lvS_c rfl (lvS_nil))))) rfl ?_
        exact l2 h2 h3 h5 h6 h7
      · have h8 : 0 ≤ (yA.1 93 yc.toInt.toNat).toInt := h8
        refine Pa.ic (x := 1) (pc' := 37) (by rfl) (by rfl) (by decide) ?_
        refine Pa.mp 3 (pc' := 43) (l' := [(2, .int (yn + 1)), (0, .ref 69), (1, .int yf), (3, .int yc)]) (st' := []) (by rfl) ?_
        refine Pa.iinc (x := yc) (c := 1) (v := (yc + 1)) (l' := [(3, .int (yc + 1)), (2, .int (yn + 1)), (0, .ref 69), (1, .int yf)]) (by rfl) (by rfl) (by decide) (by rfl) (by rfl) ?_
        refine Pa.mp 1 (pc' := 4) (l' := [(3, .int (yc + 1)), (2, .int (yn + 1)), (0, .ref 69), (1, .int yf)]) (st' := []) (by rfl) ?_
        refine Pa.lv (l' := [(0, .ref 69), (1, .int yf), (2, .int (yn + 1)), (3, .int (yc + 1))]) (lvS_c rfl (lvS_c rfl (lvS_c rfl (lvS_c rfl (lvS_nil))))) rfl ?_
        exact l3 h2 h3 h5 h6 h8
    · have h4 : 0 ≤ yf.toInt := h4
      refine Pa.mp 2 (pc' := 19) (l' := [(0, .ref 69), (1, .int yf), (2, .int yn), (3, .int yc)]) (st' := [.int yc, .ref 69, .int yn]) (by rfl) ?_
      refine Pa.ic (x := 0) (pc' := 20) (by rfl) (by rfl) (by decide) ?_
      refine Pa.inv (by rfl) (by rfl) (.inl rfl) (by rfl) ?_
      show Pa N 181 0 [(0, .ref 69), (1, .int yc), (2, .int 0)] [] yA _
      refine Pa.mp 1 (pc' := 1) (l' := [(0, .ref 69), (1, .int yc), (2, .int 0)]) (st' := [.ref 69]) (by rfl) ?_
      refine Pa.gfR (by rfl) (by rfl) (.inl rfl) (by rfl) ?_
      show Pa N 181 4 [(0, .ref 69), (1, .int yc), (2, .int 0)] [.ref 90] yA _
      refine Pa.ic (x := 7) (pc' := 6) (by rfl) (by rfl) (by decide) ?_
      refine Pa.mp 4 (pc' := 10) (l' := [(0, .ref 69), (1, .int yc), (2, .int 0)]) (st' := [.int ((7 * yc) + 0), .ref 90]) (by rfl) ?_
      refine Pa.alds (v := yA.1 90 (((7 * yc) + 0).toInt.toNat)) (by rfl) (by rfl) (by rfl) (fun h9 h10 => ?_)
      have h9 : 0 ≤ ((7 * yc) + 0).toInt := h9
      have h10 : ((7 * yc) + 0).toInt < 1050 := h10
      refine Pa.iret (by rfl) ?_
      show Pa N 241 23 [(0, .ref 69), (1, .int yf), (2, .int yn), (3, .int yc)] [.int (yA.1 90 (((7 * yc) + 0).toInt.toNat)), .int yn] yA _
      refine Pa.mp 1 (pc' := 24) (l' := [(0, .ref 69), (1, .int yf), (2, .int yn), (3, .int yc)]) (st' := [.int yf, .int (yA.1 90 (((7 * yc) + 0).toInt.toNat)), .int yn]) (by rfl) ?_
      refine Pa.if2 (a := (yA.1 90 (((7 * yc) + 0).toInt.toNat)).toInt) (b := yf.toInt) (t := 40) (by rfl) (by rfl) (rfl) (rfl) (fun h11 => ?_) (fun h12 => ?_)
      · have h11 : (yA.1 90 (((7 * yc) + 0).toInt.toNat)).toInt ≠ yf.toInt := h11
        refine Pa.ic (x := 0) (pc' := 41) (by rfl) (by rfl) (by decide) ?_
        refine Pa.mp 2 (pc' := 43) (l' := [(2, .int (yn + 0)), (0, .ref 69), (1, .int yf), (3, .int yc)]) (st' := []) (by rfl) ?_
        refine Pa.iinc (x := yc) (c := 1) (v := (yc + 1)) (l' := [(3, .int (yc + 1)), (2, .int (yn + 0)), (0, .ref 69), (1, .int yf)]) (by rfl) (by rfl) (by decide) (by rfl) (by rfl) ?_
        refine Pa.mp 1 (pc' := 4) (l' := [(3, .int (yc + 1)), (2, .int (yn + 0)), (0, .ref 69), (1, .int yf)]) (st' := []) (by rfl) ?_
        refine Pa.lv (l' := [(0, .ref 69), (1, .int yf), (2, .int (yn + 0)), (3, .int (yc + 1))]) (lvS_c rfl (lvS_c rfl (lvS_c rfl (lvS_c rfl (lvS_nil))))) rfl ?_
        exact l4 h2 h4 h9 h10 h11
      · have h12 : (yA.1 90 (((7 * yc) + 0).toInt.toNat)).toInt = yf.toInt := h12
        refine Pa.mp 1 (pc' := 28) (l' := [(0, .ref 69), (1, .int yf), (2, .int yn), (3, .int yc)]) (st' := [.ref 69, .int yn]) (by rfl) ?_
        refine Pa.gfR (by rfl) (by rfl) (.inl rfl) (by rfl) ?_
        show Pa N 241 31 [(0, .ref 69), (1, .int yf), (2, .int yn), (3, .int yc)] [.ref 93, .int yn] yA _
        refine Pa.mp 1 (pc' := 32) (l' := [(0, .ref 69), (1, .int yf), (2, .int yn), (3, .int yc)]) (st' := [.int yc, .ref 93, .int yn]) (by rfl) ?_
        refine Pa.alds (v := yA.1 93 yc.toInt.toNat) (by rfl) (by rfl) (by rfl) (fun h13 h14 => ?_)
        have h13 : 0 ≤ yc.toInt := h13
        have h14 : yc.toInt < 150 := h14
        refine Pa.if1 (a := (yA.1 93 yc.toInt.toNat).toInt) (t := 40) (by rfl) (by rfl) (rfl) (fun h15 => ?_) (fun yh16 => ?_)
        · have h15 : (yA.1 93 yc.toInt.toNat).toInt < 0 := h15
          refine Pa.ic (x := 0) (pc' := 41) (by rfl) (by rfl) (by decide) ?_
          refine Pa.mp 2 (pc' := 43) (l' := [(2, .int (yn + 0)), (0, .ref 69), (1, .int yf), (3, .int yc)]) (st' := []) (by rfl) ?_
          refine Pa.iinc (x := yc) (c := 1) (v := (yc + 1)) (l' := [(3, .int (yc + 1)), (2, .int (yn + 0)), (0, .ref 69), (1, .int yf)]) (by rfl) (by rfl) (by decide) (by rfl) (by rfl) ?_
          refine Pa.mp 1 (pc' := 4) (l' := [(3, .int (yc + 1)), (2, .int (yn + 0)), (0, .ref 69), (1, .int yf)]) (st' := []) (by rfl) ?_
          refine Pa.lv (l' := [(0, .ref 69), (1, .int yf), (2, .int (yn + 0)), (3, .int (yc + 1))]) (lvS_c rfl (lvS_c rfl (lvS_c rfl (lvS_c rfl (lvS_nil))))) rfl ?_
          exact l5 h2 h4 h9 h10 h12 h13 h14 h15
        · have yh16 : 0 ≤ (yA.1 93 yc.toInt.toNat).toInt := yh16
          refine Pa.ic (x := 1) (pc' := 37) (by rfl) (by rfl) (by decide) ?_
          refine Pa.mp 3 (pc' := 43) (l' := [(2, .int (yn + 1)), (0, .ref 69), (1, .int yf), (3, .int yc)]) (st' := []) (by rfl) ?_
          refine Pa.iinc (x := yc) (c := 1) (v := (yc + 1)) (l' := [(3, .int (yc + 1)), (2, .int (yn + 1)), (0, .ref 69), (1, .int yf)]) (by rfl) (by rfl) (by decide) (by rfl) (by rfl) ?_
          refine Pa.mp 1 (pc' := 4) (l' := [(3, .int (yc + 1)), (2, .int (yn + 1)), (0, .ref 69), (1, .int yf)]) (st' := []) (by rfl) ?_
          refine Pa.lv (l' := [(0, .ref 69), (1, .int yf), (2, .int (yn + 1)), (3, .int (yc + 1))]) (lvS_c rfl (lvS_c rfl (lvS_c rfl (lvS_c rfl (lvS_nil))))) rfl ?_
          exact l6 h2 h4 h9 h10 h12 h13 h14 yh16
theorem bx_isUnder0 {N : Nat} {yA : AW} {yQ : Option Value → AW → Prop} (yt yk : Int32)
    (l1 : Pa N 25 4 [(0, .int yt), (1, .int yk), (2, .int yt), (3, .int 0)] [] yA yQ) :
    Pa N 25 0 [(0, .int yt), (1, .int yk)] [] yA yQ := by
  refine Pa.mp 2 (pc' := 2) (l' := [(2, .int yt), (0, .int yt), (1, .int yk)]) (st' := []) (by rfl) ?_
  refine Pa.ic (x := 0) (pc' := 3) (by rfl) (by rfl) (by decide) ?_
  refine Pa.mp 1 (pc' := 4) (l' := [(3, .int 0), (2, .int yt), (0, .int yt), (1, .int yk)]) (st' := []) (by rfl) ?_
  refine Pa.lv (l' := [(0, .int yt), (1, .int yk), (2, .int yt), (3, .int 0)]) (lvS_c rfl (lvS_c rfl (lvS_c rfl (lvS_c rfl (lvS_nil))))) rfl ?_
  exact l1
theorem bx_isUnder {N : Nat} {yA : AW} {yQ : Option Value → AW → Prop} (yt yk ya yu : Int32)
    (l1 : 7 ≤ yu.toInt → ya.toInt ≠ yk.toInt → yQ (some (.int 0)) yA)
    (l2 : 7 ≤ yu.toInt → ya.toInt = yk.toInt → yQ (some (.int 1)) yA)
    (l3 : yu.toInt < 7 → ya.toInt ≤ yk.toInt → ya.toInt ≠ yk.toInt → yQ (some (.int 0)) yA)
    (l4 : yu.toInt < 7 → ya.toInt ≤ yk.toInt → ya.toInt = yk.toInt → yQ (some (.int 1)) yA)
    (l5 : yu.toInt < 7 → yk.toInt < ya.toInt → ya.toInt < 0 → Pa N 25 4 [(0, .int yt), (1, .int yk), (2, .int (-1)), (3, .int (yu + 1))] [] yA yQ)
    (l6 : yu.toInt < 7 → yk.toInt < ya.toInt → 0 ≤ ya.toInt → 7 ≤ ya.toInt → Pa N 25 4 [(0, .int yt), (1, .int yk), (2, .int (-1)), (3, .int (yu + 1))] [] yA yQ)
    (l7 : yu.toInt < 7 → yk.toInt < ya.toInt → 0 ≤ ya.toInt → ya.toInt < 7 → Pa N 25 4 [(0, .int yt), (1, .int yk), (2, .int (x_tab 1 ya.toInt.toNat)), (3, .int (yu + 1))] [] yA yQ) :
    Pa (N + 1) 25 4 [(0, .int yt), (1, .int yk), (2, .int ya), (3, .int yu)] [] yA yQ := by
  refine Pa.mp1 0 (pc' := 5) (l' := [(0, .int yt), (1, .int yk), (2, .int ya), (3, .int yu)]) (st' := [.int yu]) (by rfl) ?_
  refine Pa.ic (x := 7) (pc' := 7) (by rfl) (by rfl) (by decide) ?_
  refine Pa.if2 (a := yu.toInt) (b := 7) (t := 26) (by rfl) (by rfl) (rfl) (by decide) (fun h1 => ?_) (fun h2 => ?_)
  · have h1 : 7 ≤ yu.toInt := h1
    refine Pa.mp 2 (pc' := 28) (l' := [(0, .int yt), (1, .int yk), (2, .int ya), (3, .int yu)]) (st' := [.int yk, .int ya]) (by rfl) ?_
    refine Pa.if2 (a := ya.toInt) (b := yk.toInt) (t := 35) (by rfl) (by rfl) (rfl) (rfl) (fun h3 => ?_) (fun h4 => ?_)
    · have h3 : ya.toInt ≠ yk.toInt := h3
      refine Pa.ic (x := 0) (pc' := 36) (by rfl) (by rfl) (by decide) ?_
      refine Pa.iret (by rfl) ?_
      exact l1 h1 h3
    · have h4 : ya.toInt = yk.toInt := h4
      refine Pa.ic (x := 1) (pc' := 32) (by rfl) (by rfl) (by decide) ?_
      refine Pa.mp 1 (pc' := 36) (l' := [(0, .int yt), (1, .int yk), (2, .int ya), (3, .int yu)]) (st' := [.int 1]) (by rfl) ?_
      refine Pa.iret (by rfl) ?_
      exact l2 h1 h4
  · have h2 : yu.toInt < 7 := h2
    refine Pa.mp 2 (pc' := 12) (l' := [(0, .int yt), (1, .int yk), (2, .int ya), (3, .int yu)]) (st' := [.int yk, .int ya]) (by rfl) ?_
    refine Pa.if2 (a := ya.toInt) (b := yk.toInt) (t := 26) (by rfl) (by rfl) (rfl) (rfl) (fun h5 => ?_) (fun h6 => ?_)
    · have h5 : ya.toInt ≤ yk.toInt := h5
      refine Pa.mp 2 (pc' := 28) (l' := [(0, .int yt), (1, .int yk), (2, .int ya), (3, .int yu)]) (st' := [.int yk, .int ya]) (by rfl) ?_
      refine Pa.if2 (a := ya.toInt) (b := yk.toInt) (t := 35) (by rfl) (by rfl) (rfl) (rfl) (fun h7 => ?_) (fun h8 => ?_)
      · have h7 : ya.toInt ≠ yk.toInt := h7
        refine Pa.ic (x := 0) (pc' := 36) (by rfl) (by rfl) (by decide) ?_
        refine Pa.iret (by rfl) ?_
        exact l3 h2 h5 h7
      · have h8 : ya.toInt = yk.toInt := h8
        refine Pa.ic (x := 1) (pc' := 32) (by rfl) (by rfl) (by decide) ?_
        refine Pa.mp 1 (pc' := 36) (l' := [(0, .int yt), (1, .int yk), (2, .int ya), (3, .int yu)]) (st' := [.int 1]) (by rfl) ?_
        refine Pa.iret (by rfl) ?_
        exact l4 h2 h5 h8
    · have h6 : yk.toInt < ya.toInt := h6
      refine Pa.mp 1 (pc' := 16) (l' := [(0, .int yt), (1, .int yk), (2, .int ya), (3, .int yu)]) (st' := [.int ya]) (by rfl) ?_
      refine Pa.ist (by rfl) (by rfl) (.inl rfl) (by rfl) (by rfl) ?_
      show Pa N 24 0 [(0, .int ya)] [] yA _
      refine Pa.mp 1 (pc' := 1) (l' := [(0, .int ya)]) (st' := [.int ya]) (by rfl) ?_
      refine Pa.if1 (a := ya.toInt) (t := 18) (by rfl) (by rfl) (rfl) (fun h9 => ?_) (fun h10 => ?_)
      · have h9 : ya.toInt < 0 := h9
        refine Pa.ic (x := (-1)) (pc' := 19) (by rfl) (by rfl) (by decide) ?_
        refine Pa.iret (by rfl) ?_
        show Pa N 25 19 [(0, .int yt), (1, .int yk), (2, .int ya), (3, .int yu)] [.int (-1)] yA _
        refine Pa.mp 1 (pc' := 20) (l' := [(2, .int (-1)), (0, .int yt), (1, .int yk), (3, .int yu)]) (st' := []) (by rfl) ?_
        refine Pa.iinc (x := yu) (c := 1) (v := (yu + 1)) (l' := [(3, .int (yu + 1)), (2, .int (-1)), (0, .int yt), (1, .int yk)]) (by rfl) (by rfl) (by decide) (by rfl) (by rfl) ?_
        refine Pa.mp 1 (pc' := 4) (l' := [(3, .int (yu + 1)), (2, .int (-1)), (0, .int yt), (1, .int yk)]) (st' := []) (by rfl) ?_
        refine Pa.lv (l' := [(0, .int yt), (1, .int yk), (2, .int (-1)), (3, .int (yu + 1))]) (lvS_c rfl (lvS_c rfl (lvS_c rfl (lvS_c rfl (lvS_nil))))) rfl ?_
        exact l5 h2 h6 h9
      · have h10 : 0 ≤ ya.toInt := h10
        refine Pa.mp 1 (pc' := 5) (l' := [(0, .int ya)]) (st' := [.int ya]) (by rfl) ?_
        refine Pa.ic (x := 7) (pc' := 7) (by rfl) (by rfl) (by decide) ?_
        refine Pa.if2 (a := ya.toInt) (b := 7) (t := 18) (by rfl) (by rfl) (rfl) (by decide) (fun h11 => ?_) (fun h12 => ?_)
        · have h11 : 7 ≤ ya.toInt := h11
          refine Pa.ic (x := (-1)) (pc' := 19) (by rfl) (by rfl) (by decide) ?_
          refine Pa.iret (by rfl) ?_
          show Pa N 25 19 [(0, .int yt), (1, .int yk), (2, .int ya), (3, .int yu)] [.int (-1)] yA _
          refine Pa.mp 1 (pc' := 20) (l' := [(2, .int (-1)), (0, .int yt), (1, .int yk), (3, .int yu)]) (st' := []) (by rfl) ?_
          refine Pa.iinc (x := yu) (c := 1) (v := (yu + 1)) (l' := [(3, .int (yu + 1)), (2, .int (-1)), (0, .int yt), (1, .int yk)]) (by rfl) (by rfl) (by decide) (by rfl) (by rfl) ?_
          refine Pa.mp 1 (pc' := 4) (l' := [(3, .int (yu + 1)), (2, .int (-1)), (0, .int yt), (1, .int yk)]) (st' := []) (by rfl) ?_
          refine Pa.lv (l' := [(0, .int yt), (1, .int yk), (2, .int (-1)), (3, .int (yu + 1))]) (lvS_c rfl (lvS_c rfl (lvS_c rfl (lvS_c rfl (lvS_nil))))) rfl ?_
          exact l6 h2 h6 h10 h11
        · have h12 : ya.toInt < 7 := h12
          refine Pa.cst (pc' := 13) (l' := [(0, .int ya)]) (st' := [.retAddr 1]) (by rfl) (fun _ _ _ => by rfl) ?_
          refine Pa.mp 1 (pc' := 14) (l' := [(0, .int ya)]) (st' := [.int ya, .retAddr 1]) (by rfl) ?_
          refine Pa.xld (v := x_tab 1 ya.toInt.toNat) (by rfl) (by decide) (by rfl) (fun h13 => ?_)
          refine Pa.mp 1 (pc' := 19) (l' := [(0, .int ya)]) (st' := [.int (x_tab 1 ya.toInt.toNat)]) (by rfl) ?_
          refine Pa.iret (by rfl) ?_
          show Pa N 25 19 [(0, .int yt), (1, .int yk), (2, .int ya), (3, .int yu)] [.int (x_tab 1 ya.toInt.toNat)] yA _
          refine Pa.mp 1 (pc' := 20) (l' := [(2, .int (x_tab 1 ya.toInt.toNat)), (0, .int yt), (1, .int yk), (3, .int yu)]) (st' := []) (by rfl) ?_
          refine Pa.iinc (x := yu) (c := 1) (v := (yu + 1)) (l' := [(3, .int (yu + 1)), (2, .int (x_tab 1 ya.toInt.toNat)), (0, .int yt), (1, .int yk)]) (by rfl) (by rfl) (by decide) (by rfl) (by rfl) ?_
          refine Pa.mp 1 (pc' := 4) (l' := [(3, .int (yu + 1)), (2, .int (x_tab 1 ya.toInt.toNat)), (0, .int yt), (1, .int yk)]) (st' := []) (by rfl) ?_
          refine Pa.lv (l' := [(0, .int yt), (1, .int yk), (2, .int (x_tab 1 ya.toInt.toNat)), (3, .int (yu + 1))]) (lvS_c rfl (lvS_c rfl (lvS_c rfl (lvS_c rfl (lvS_nil))))) rfl ?_
          exact l7 h2 h6 h10 h12
def abv (ya : Int32) : Int32 := if 0 ≤ ya.toInt ∧ ya.toInt < 7 then x_tab 1 ya.toInt.toNat else -1
def isUf : Nat → Int32 → Int32 → Int32
  | 0, ya, _ => ya
  | yn + 1, ya, yk => if yk.toInt < ya.toInt then isUf yn (abv ya) yk else ya
def isUx (yt yk : Int32) : Int32 := if (isUf 7 yt yk).toInt = yk.toInt then 1 else 0
theorem isUf_no {yn : Nat} {ya yk : Int32} (yh : ya.toInt ≤ yk.toInt) : isUf yn ya yk = ya := by
  cases yn with
  | zero => rfl
  | succ yn =>
    show (if yk.toInt < ya.toInt then isUf yn (abv ya) yk else ya) = ya
    rw [if_neg (by omega)]
theorem isUf_st {ym : Nat} {ya yk : Int32} (yhm : ym < 7) (yh : yk.toInt < ya.toInt) : isUf (7 - (ym + 1)) (abv ya) yk = isUf (7 - ym) ya yk := by
  obtain ⟨yp, hp⟩ : ∃ yp, 7 - ym = yp + 1 := ⟨6 - ym, by omega⟩
  rw [hp, show 7 - (ym + 1) = yp by omega]
  show _ = (if yk.toInt < ya.toInt then isUf yp (abv ya) yk else ya)
  rw [if_pos yh]
theorem c_isUnder (N : Nat) (yA : AW) (yt yk : Int32) : Pa N 25 0 [(0, .int yt), (1, .int yk)] [] yA (fun yu A1 => yu = some (.int (isUx yt yk)) ∧ A1 = yA) := by
  have ykey : ∀ N ym ya, ym ≤ 7 → isUf (7 - ym) ya yk = isUf 7 yt yk → Pa N 25 4 [(0, .int yt), (1, .int yk), (2, .int ya), (3, .int (Int32.ofNat ym))] [] yA (fun yu A1 => yu = some (.int (isUx yt yk)) ∧ A1 = yA) := by
    intro N
    induction N with
    | zero => intro ym ya _ _; exact Pa.zero
    | succ N yih =>
      intro ym ya yhm he
      have ye1 : (Int32.ofNat ym).toInt = ym := i32_nat (by omega)
      refine bx_isUnder yt yk ya _ ?_ ?_ ?_ ?_ ?_ ?_ ?_ <;> rw [ye1]
      · intro h1 h2
        have hm7 : ym = 7 := by omega
        subst hm7
        have he : ya = isUf 7 yt yk := he
        exact ⟨by unfold isUx; rw [← he, if_neg h2], rfl⟩
      · intro h1 h2
        have hm7 : ym = 7 := by omega
        subst hm7
        have he : ya = isUf 7 yt yk := he
        exact ⟨by unfold isUx; rw [← he, if_pos h2], rfl⟩
      · intro h1 h2 h3
        rw [isUf_no h2] at he
        exact ⟨by unfold isUx; rw [← he, if_neg h3], rfl⟩
      · intro h1 h2 h3
        rw [isUf_no h2] at he
        exact ⟨by unfold isUx; rw [← he, if_pos h3], rfl⟩
      · intro h1 h2 h3
        have yh := yih (ym + 1) (-1) (by omega) (by rw [← he, ← isUf_st (by omega) h2, show abv ya = -1 from if_neg (by omega)])
        rw [on_succ] at yh
        exact yh
      · intro h1 h2 h3 h4
        have yh := yih (ym + 1) (-1) (by omega) (by rw [← he, ← isUf_st (by omega) h2, show abv ya = -1 from if_neg (by omega)])
        rw [on_succ] at yh
        exact yh
      · intro h1 h2 h3 h4
        have yh := yih (ym + 1) (x_tab 1 ya.toInt.toNat) (by omega) (by rw [← he, ← isUf_st (by omega) h2, show abv ya = x_tab 1 ya.toInt.toNat from if_pos ⟨h3, h4⟩])
        rw [on_succ] at yh
        exact yh
  exact bx_isUnder0 yt yk (ykey N 0 yt (by omega) rfl)
theorem k_six {yk : Int32} (h1 : 1 ≤ yk.toInt) (h2 : yk.toInt ≤ 6) : yk = 1 ∨ yk = 2 ∨ yk = 3 ∨ yk = 4 ∨ yk = 5 ∨ yk = 6 := by
  rcases (by omega : yk.toInt = 1 ∨ yk.toInt = 2 ∨ yk.toInt = 3 ∨ yk.toInt = 4 ∨ yk.toInt = 5 ∨ yk.toInt = 6) with yh | yh | yh | yh | yh | yh
  · exact .inl (i32_ext yh)
  · exact .inr (.inl (i32_ext yh))
  · exact .inr (.inr (.inl (i32_ext yh)))
  · exact .inr (.inr (.inr (.inl (i32_ext yh))))
  · exact .inr (.inr (.inr (.inr (.inl (i32_ext yh)))))
  · exact .inr (.inr (.inr (.inr (.inr (i32_ext yh)))))
def toH (yk : Int32) : Prop := yk.toInt = 2 ∨ yk.toInt = 3 ∨ yk.toInt = 5
theorem isUx2 (yk : Int32) (h1 : 1 ≤ yk.toInt) (h2 : yk.toInt ≤ 6) : (toH yk ∧ (isUx yk 2).toInt = 1) ∨ (¬ toH yk ∧ (isUx yk 2).toInt = 0) := by
  unfold toH
  rcases k_six h1 h2 with yh | yh | yh | yh | yh | yh <;> subst yh <;> decide +kernel
theorem ix7 {T yi : Int32} (h1 : 0 ≤ T.toInt) (h2 : T.toInt < 150) (h3 : 0 ≤ yi.toInt) (h4 : yi.toInt < 7) : (7 * T + yi).toInt = 7 * T.toInt + yi.toInt := by
  have ye : (7 * T).toInt = 7 * T.toInt := by
    rw [Int32.toInt_mul, show (7 : Int32).toInt = 7 from rfl]
    exact z_bm0 ⟨by show (-2147483648 : Int) ≤ _; omega, by show _ ≤ (2147483647 : Int); omega⟩
  rw [Int32.toInt_add, ye]
  exact z_bm0 ⟨by show (-2147483648 : Int) ≤ _; omega, by show _ ≤ (2147483647 : Int); omega⟩
def cT (yA : AW) : Nat := (yA.1 69 31).toInt.toNat
def audF (yA : AW) (yf : Int32) (yc : Nat) : Int32 := if (yf.toInt < 0 ∨ (yA.1 90 (7 * yc)).toInt = yf.toInt) ∧ 0 ≤ (yA.1 93 yc).toInt then 1 else 0
def audM (yA : AW) (yf : Int32) : Int32 := sumN (audF yA yf) (cT yA)
theorem c_audited (N : Nat) (yA : AW) (yf : Int32) (yhT : (yA.1 69 31).toInt ≤ 150) : Pa N 241 0 [(0, .ref 69), (1, .int yf)] [] yA (fun yu A1 => yu = some (.int (audM yA yf)) ∧ A1 = yA) := by
  have ykey : ∀ N yn, yn ≤ cT yA → Pa N 241 4 [(0, .ref 69), (1, .int yf), (2, .int (sumN (audF yA yf) yn)), (3, .int (Int32.ofNat yn))] [] yA (fun yu A1 => yu = some (.int (audM yA yf)) ∧ A1 = yA) := by
    intro N
    induction N with
    | zero => intro yn _; exact Pa.zero
    | succ N yih =>
      intro yn hn
      have ye1 := on_nat hn
      unfold cT at hn yih
      have ye7 : yn < 150 → (7 * Int32.ofNat yn).toInt = ((7 * yn : Nat) : Int) := fun yh => by
        have yq := ix7 (T := Int32.ofNat yn) (yi := 0) (by omega) (by omega) (by decide) (by decide)
        rw [Int32.add_zero, ye1, show (0 : Int32).toInt = 0 from rfl] at yq
        rw [yq]
        omega
      refine bm_audited yf _ _ ?_ ?_ ?_ ?_ ?_ ?_ <;> rw [ye1] <;> (try rw [Int.toNat_natCast]) <;> (try simp only [Int32.add_zero])
      · intro h1
        refine ⟨?_, by first | trivial | rfl⟩
        unfold audM cT
        rw [show (yA.1 69 31).toInt.toNat = yn by omega]
      · intro h1 h2 h3 h4 h5
        have yh := yih (yn + 1) (by omega)
        rw [sumN_0 (show audF yA yf yn = 0 from if_neg (fun yq => by omega)), on_succ] at yh
        exact yh
      · intro h1 h2 h3 h4 h5
        have yh := yih (yn + 1) (by omega)
        rw [sumN_s (show audF yA yf yn = 1 from if_pos ⟨.inl h2, h5⟩), on_succ] at yh
        exact yh
      · intro h1 h2
        rw [ye7 (by omega), Int.toNat_natCast]
        intro h3 h4 h5
        have yh := yih (yn + 1) (by omega)
        rw [sumN_0 (show audF yA yf yn = 0 from if_neg (fun yq => by omega)), on_succ] at yh
        exact yh
      · intro h1 h2
        rw [ye7 (by omega), Int.toNat_natCast]
        intro h3 h4 h5 h6 h7 h8
        have yh := yih (yn + 1) (by omega)
        rw [sumN_0 (show audF yA yf yn = 0 from if_neg (fun yq => by omega)), on_succ] at yh
        exact yh
      · intro h1 h2
        rw [ye7 (by omega), Int.toNat_natCast]
        intro h3 h4 h5 h6 h7 h8
        have yh := yih (yn + 1) (by omega)
        rw [sumN_s (show audF yA yf yn = 1 from if_pos ⟨.inr h5, h8⟩), on_succ] at yh
        exact yh
  exact bm_audited0 yf (ykey N 0 (Nat.zero_le _))
