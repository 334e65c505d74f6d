/-! LOTS, DRAW: the left-th open ycost of ya film -/
theorem bx_dr0 {N : Nat} {yA : AW} {yQ : Option Value → AW → Prop} (yf : Int32)
    (l1 : Pa N 33 4 [(0, .ref 30), (1, .int yf), (2, .int 0), (3, .int 0), (4, .int 0)] [] yA yQ) :
    Pa N 33 0 [(0, .ref 30), (1, .int yf)] [] yA yQ := by
  refine Pa.ic (x := 0) (pc' := 1) (by rfl) (by rfl) (by decide) ?_
  refine Pa.mp 1 (pc' := 2) (l' := [(2, .int 0), (0, .ref 30), (1, .int yf)]) (st' := []) (by rfl) ?_
  refine Pa.ic (x := 0) (pc' := 3) (by rfl) (by rfl) (by decide) ?_
  refine Pa.mp 1 (pc' := 4) (l' := [(3, .int 0), (2, .int 0), (0, .ref 30), (1, .int yf)]) (st' := []) (by rfl) ?_
  refine Pa.lv (l' := [(0, .ref 30), (1, .int yf), (2, .int 0), (3, .int 0), (4, .int 0)]) (lvS_c rfl (lvS_c rfl (lvS_c rfl (lvS_c rfl (lvS_nil))))) rfl ?_
  exact l1
theorem bx_dr1 {N : Nat} {yA : AW} {yQ : Option Value → AW → Prop} (yf ym yi yj : Int32)
    (l1 : (yA.1 30 4).toInt ≤ yi.toInt → ym.toInt ≠ 0 → Pa N 33 65 [(0, .ref 30), (1, .int yf), (2, .int ym), (3, .int ((((((yA.1 30 7) * 1103515245) + 12345).toUInt32 >>> ((8 : Int32).toUInt32 &&& Int32.toUInt32 31)).toInt32) - (((((yA.1 30 7) * 1103515245) + 12345).toUInt32 >>> ((8 : Int32).toUInt32 &&& Int32.toUInt32 31)).toInt32) / ym * ym)), (4, .int 0)] [] (uI yA 30 7 (((yA.1 30 7) * 1103515245) + 12345)) yQ)
    (l2 : (yA.1 30 4).toInt ≤ yi.toInt → ym.toInt = 0 → yQ (some (.int (-4))) yA)
    (l3 : yi.toInt < (yA.1 30 4).toInt → yi.toInt < 0 → Pa N 33 4 [(0, .ref 30), (1, .int yf), (2, .int ym), (3, .int (yi + 1)), (4, .int yj)] [] yA yQ)
    (l4 : yi.toInt < (yA.1 30 4).toInt → 0 ≤ yi.toInt → yi.toInt < 150 → ∀ ya1, yA.2.2.1 31 yi.toInt.toNat = some ya1 → 129 ≤ ya1 → ya1 < yA.2.2.2.2 → (yA.1 ya1 4).toInt ≠ yf.toInt → Pa N 33 4 [(0, .ref 30), (1, .int yf), (2, .int ym), (3, .int (yi + 1)), (4, .int yj)] [] yA yQ)
    (l5 : yi.toInt < (yA.1 30 4).toInt → 0 ≤ yi.toInt → yi.toInt < 150 → ∀ ya1, yA.2.2.1 31 yi.toInt.toNat = some ya1 → 129 ≤ ya1 → ya1 < yA.2.2.2.2 → (yA.1 ya1 4).toInt = yf.toInt → 0 ≤ (yA.1 ya1 11).toInt → Pa N 33 4 [(0, .ref 30), (1, .int yf), (2, .int ym), (3, .int (yi + 1)), (4, .int yj)] [] yA yQ)
    (l6 : yi.toInt < (yA.1 30 4).toInt → 0 ≤ yi.toInt → yi.toInt < 150 → ∀ ya1, yA.2.2.1 31 yi.toInt.toNat = some ya1 → 129 ≤ ya1 → ya1 < yA.2.2.2.2 → (yA.1 ya1 4).toInt = yf.toInt → (yA.1 ya1 11).toInt < 0 → Pa N 33 4 [(0, .ref 30), (1, .int yf), (2, .int (ym + 1)), (3, .int (yi + 1)), (4, .int yj)] [] yA yQ)
    (l7 : yi.toInt < (yA.1 30 4).toInt → 0 ≤ yi.toInt → yi.toInt < 150 → yA.2.2.1 31 yi.toInt.toNat = none → Pa N 33 4 [(0, .ref 30), (1, .int yf), (2, .int ym), (3, .int (yi + 1)), (4, .int yj)] [] yA yQ) :
    Pa (N + 1) 33 4 [(0, .ref 30), (1, .int yf), (2, .int ym), (3, .int yi), (4, .int yj)] [] yA yQ := by
  refine Pa.mp1 1 (pc' := 6) (l' := [(0, .ref 30), (1, .int yf), (2, .int ym), (3, .int yi), (4, .int yj)]) (st' := [.ref 30, .int yi]) (by rfl) ?_
  refine Pa.gfI (v := yA.1 30 4) (by rfl) (by rfl) (.inl rfl) (by rfl) (by rfl) ?_
  refine Pa.if2 (a := yi.toInt) (b := (yA.1 30 4).toInt) (t := 30) (by rfl) (by rfl) (rfl) (rfl) (fun h1 => ?_) (fun h2 => ?_)
  · have h1 : (yA.1 30 4).toInt ≤ yi.toInt := h1
    refine Pa.mp 1 (pc' := 31) (l' := [(0, .ref 30), (1, .int yf), (2, .int ym), (3, .int yi), (4, .int yj)]) (st' := [.int ym]) (by rfl) ?_
    refine Pa.if1 (a := ym.toInt) (t := 37) (by rfl) (by rfl) (rfl) (fun h3 => ?_) (fun h4 => ?_)
    · have h3 : ym.toInt ≠ 0 := h3
      refine Pa.mp 2 (pc' := 39) (l' := [(0, .ref 30), (1, .int yf), (2, .int ym), (3, .int yi), (4, .int yj)]) (st' := [.ref 30, .ref 30]) (by rfl) ?_
      refine Pa.gfI (v := yA.1 30 7) (by rfl) (by rfl) (.inl rfl) (by rfl) (by rfl) ?_
      refine Pa.icl (x := 1103515245) (pc' := 44) (by rfl) (fun _ _ _ => by rfl) (by decide) ?_
      refine Pa.mp 1 (pc' := 45) (l' := [(0, .ref 30), (1, .int yf), (2, .int ym), (3, .int yi), (4, .int yj)]) (st' := [.int ((yA.1 30 7) * 1103515245), .ref 30]) (by rfl) ?_
      refine Pa.ic (x := 12345) (pc' := 48) (by rfl) (by rfl) (by decide) ?_
      refine Pa.mp 1 (pc' := 49) (l' := [(0, .ref 30), (1, .int yf), (2, .int ym), (3, .int yi), (4, .int yj)]) (st' := [.int (((yA.1 30 7) * 1103515245) + 12345), .ref 30]) (by rfl) ?_
      refine Pa.pfI (by rfl) (by rfl) (.inl rfl) (by rfl) ?_
      show Pa N 33 52 [(0, .ref 30), (1, .int yf), (2, .int ym), (3, .int yi), (4, .int yj)] [] (uI yA 30 7 (((yA.1 30 7) * 1103515245) + 12345)) _
      refine Pa.mp 1 (pc' := 53) (l' := [(0, .ref 30), (1, .int yf), (2, .int ym), (3, .int yi), (4, .int yj)]) (st' := [.ref 30]) (by rfl) ?_
      refine Pa.gfI (v := ((yA.1 30 7) * 1103515245) + 12345) (by rfl) (by rfl) (.inl rfl) (by rfl) (by show (uI yA 30 7 (((yA.1 30 7) * 1103515245) + 12345)).1 30 7 = ((yA.1 30 7) * 1103515245) + 12345; rw [uI_h]) ?_
      refine Pa.ic (x := 8) (pc' := 58) (by rfl) (by rfl) (by decide) ?_
      refine Pa.mp 2 (pc' := 60) (l' := [(0, .ref 30), (1, .int yf), (2, .int ym), (3, .int yi), (4, .int yj)]) (st' := [.int ym, .int (((((yA.1 30 7) * 1103515245) + 12345).toUInt32 >>> ((8 : Int32).toUInt32 &&& Int32.toUInt32 31)).toInt32)]) (by rfl) ?_
      refine Pa.irem (by rfl) ?_
      refine Pa.mp 1 (pc' := 62) (l' := [(3, .int ((((((yA.1 30 7) * 1103515245) + 12345).toUInt32 >>> ((8 : Int32).toUInt32 &&& Int32.toUInt32 31)).toInt32) - (((((yA.1 30 7) * 1103515245) + 12345).toUInt32 >>> ((8 : Int32).toUInt32 &&& Int32.toUInt32 31)).toInt32) / ym * ym)), (0, .ref 30), (1, .int yf), (2, .int ym), (4, .int yj)]) (st' := []) (by rfl) ?_
      refine Pa.ic (x := 0) (pc' := 63) (by rfl) (by rfl) (by decide) ?_
      refine Pa.mp 1 (pc' := 65) (l' := [(4, .int 0), (3, .int ((((((yA.1 30 7) * 1103515245) + 12345).toUInt32 >>> ((8 : Int32).toUInt32 &&& Int32.toUInt32 31)).toInt32) - (((((yA.1 30 7) * 1103515245) + 12345).toUInt32 >>> ((8 : Int32).toUInt32 &&& Int32.toUInt32 31)).toInt32) / ym * ym)), (0, .ref 30), (1, .int yf), (2, .int ym)]) (st' := []) (by rfl) ?_
      refine Pa.lv (l' := [(0, .ref 30), (1, .int yf), (2, .int ym), (3, .int ((((((yA.1 30 7) * 1103515245) + 12345).toUInt32 >>> ((8 : Int32).toUInt32 &&& Int32.toUInt32 31)).toInt32) - (((((yA.1 30 7) * 1103515245) + 12345).toUInt32 >>> ((8 : Int32).toUInt32 &&& Int32.toUInt32 31)).toInt32) / ym * ym)), (4, .int 0)]) (lvS_c rfl (lvS_c rfl (lvS_c rfl (lvS_c rfl (lvS_c rfl (lvS_nil)))))) rfl ?_
      exact l1 h1 h3
    · have h4 : ym.toInt = 0 := h4
      refine Pa.ic (x := (-4)) (pc' := 36) (by rfl) (by rfl) (by decide) ?_
      refine Pa.iret (by rfl) ?_
      exact l2 h1 h4
  · have h2 : yi.toInt < (yA.1 30 4).toInt := h2
    refine Pa.mp 3 (pc' := 15) (l' := [(0, .ref 30), (1, .int yf), (2, .int ym), (3, .int yi), (4, .int yj)]) (st' := [.int yf, .int yi, .ref 30]) (by rfl) ?_
    refine Pa.inv (by rfl) (by rfl) (.inl rfl) (by rfl) ?_
    show Pa N 32 0 [(0, .ref 30), (1, .int yi), (2, .int yf)] [] yA _
    refine Pa.mp 2 (pc' := 2) (l' := [(0, .ref 30), (1, .int yi), (2, .int yf)]) (st' := [.int yi, .ref 30]) (by rfl) ?_
    refine Pa.inv (by rfl) (by rfl) (.inl rfl) (by rfl) ?_
    show Pa N 26 0 [(0, .ref 30), (1, .int yi)] [] yA _
    refine Pa.mp 1 (pc' := 1) (l' := [(0, .ref 30), (1, .int yi)]) (st' := [.int yi]) (by rfl) ?_
    refine Pa.if1 (a := yi.toInt) (t := 21) (by rfl) (by rfl) (rfl) (fun h5 => ?_) (fun h6 => ?_)
    · have h5 : yi.toInt < 0 := h5
      refine Pa.mp 1 (pc' := 22) (l' := [(0, .ref 30), (1, .int yi)]) (st' := [.null]) (by rfl) ?_
      refine Pa.nret (by rfl) ?_
      show Pa N 32 5 [(0, .ref 30), (1, .int yi), (2, .int yf)] [.null] yA _
      refine Pa.mp 2 (pc' := 7) (l' := [(3, .null), (0, .ref 30), (1, .int yi), (2, .int yf)]) (st' := [.null]) (by rfl) ?_
      refine Pa.mp 1 (pc' := 29) (l' := [(3, .null), (0, .ref 30), (1, .int yi), (2, .int yf)]) (st' := []) (by rfl) ?_
      refine Pa.ic (x := 0) (pc' := 30) (by rfl) (by rfl) (by decide) ?_
      refine Pa.iret (by rfl) ?_
      show Pa N 33 18 [(0, .ref 30), (1, .int yf), (2, .int ym), (3, .int yi), (4, .int yj)] [.int 0] yA _
      refine Pa.if1k true (by rfl) (by rfl) (by decide) ?_
      show Pa N 33 24 [(0, .ref 30), (1, .int yf), (2, .int ym), (3, .int yi), (4, .int yj)] [] yA _
      refine Pa.iinc (x := yi) (c := 1) (v := (yi + 1)) (l' := [(3, .int (yi + 1)), (0, .ref 30), (1, .int yf), (2, .int ym), (4, .int yj)]) (by rfl) (by rfl) (by decide) (by rfl) (by rfl) ?_
      refine Pa.mp 1 (pc' := 4) (l' := [(3, .int (yi + 1)), (0, .ref 30), (1, .int yf), (2, .int ym), (4, .int yj)]) (st' := []) (by rfl) ?_
      refine Pa.lv (l' := [(0, .ref 30), (1, .int yf), (2, .int ym), (3, .int (yi + 1)), (4, .int yj)]) (lvS_c rfl (lvS_c rfl (lvS_c rfl (lvS_c rfl (lvS_c rfl (lvS_nil)))))) rfl ?_
      exact l3 h2 h5
    · have h6 : 0 ≤ yi.toInt := h6
      refine Pa.mp 2 (pc' := 6) (l' := [(0, .ref 30), (1, .int yi)]) (st' := [.ref 30, .int yi]) (by rfl) ?_
      refine Pa.gfI (v := yA.1 30 4) (by rfl) (by rfl) (.inl rfl) (by rfl) (by rfl) ?_
      refine Pa.if2 (a := yi.toInt) (b := (yA.1 30 4).toInt) (t := 21) (by rfl) (by rfl) (rfl) (rfl) (fun yh => (by exfalso; have h' : (yA.1 30 4).toInt ≤ yi.toInt := yh; omega)) (fun _ => ?_)
      refine Pa.mp 1 (pc' := 13) (l' := [(0, .ref 30), (1, .int yi)]) (st' := [.ref 30]) (by rfl) ?_
      refine Pa.gfR (by rfl) (by rfl) (.inl rfl) (by rfl) ?_
      show Pa N 26 16 [(0, .ref 30), (1, .int yi)] [.ref 31] yA _
      refine Pa.mp 1 (pc' := 17) (l' := [(0, .ref 30), (1, .int yi)]) (st' := [.int yi, .ref 31]) (by rfl) ?_
      refine Pa.olds (o := yA.2.2.1 31 yi.toInt.toNat) (by rfl) (by rfl) (by rfl) (fun h8 h9 ya1 h10 h12 h13 => ?_) (fun h8 h9 h11 => ?_)
      · skip
        refine Pa.mp 1 (pc' := 22) (l' := [(0, .ref 30), (1, .int yi)]) (st' := [.ref ya1]) (by rfl) ?_
        refine Pa.aret (by rfl) ?_
        show Pa N 32 5 [(0, .ref 30), (1, .int yi), (2, .int yf)] [.ref ya1] yA _
        refine Pa.mp 2 (pc' := 7) (l' := [(3, .ref ya1), (0, .ref 30), (1, .int yi), (2, .int yf)]) (st' := [.ref ya1]) (by rfl) ?_
        refine Pa.mp 1 (pc' := 10) (l' := [(3, .ref ya1), (0, .ref 30), (1, .int yi), (2, .int yf)]) (st' := []) (by rfl) ?_
        refine Pa.mp 1 (pc' := 11) (l' := [(3, .ref ya1), (0, .ref 30), (1, .int yi), (2, .int yf)]) (st' := [.ref ya1]) (by rfl) ?_
        refine Pa.gfI (v := yA.1 ya1 4) (by rfl) (by rfl) (.inr rfl) (by rfl) (by rfl) ?_
        refine Pa.mp 1 (pc' := 15) (l' := [(3, .ref ya1), (0, .ref 30), (1, .int yi), (2, .int yf)]) (st' := [.int yf, .int (yA.1 ya1 4)]) (by rfl) ?_
        refine Pa.if2 (a := (yA.1 ya1 4).toInt) (b := yf.toInt) (t := 29) (by rfl) (by rfl) (rfl) (rfl) (fun h14 => ?_) (fun h15 => ?_)
        · have h14 : (yA.1 ya1 4).toInt ≠ yf.toInt := h14
          refine Pa.ic (x := 0) (pc' := 30) (by rfl) (by rfl) (by decide) ?_
          refine Pa.iret (by rfl) ?_
          show Pa N 33 18 [(0, .ref 30), (1, .int yf), (2, .int ym), (3, .int yi), (4, .int yj)] [.int 0] yA _
          refine Pa.if1k true (by rfl) (by rfl) (by decide) ?_
          show Pa N 33 24 [(0, .ref 30), (1, .int yf), (2, .int ym), (3, .int yi), (4, .int yj)] [] yA _
          refine Pa.iinc (x := yi) (c := 1) (v := (yi + 1)) (l' := [(3, .int (yi + 1)), (0, .ref 30), (1, .int yf), (2, .int ym), (4, .int yj)]) (by rfl) (by rfl) (by decide) (by rfl) (by rfl) ?_
          refine Pa.mp 1 (pc' := 4) (l' := [(3, .int (yi + 1)), (0, .ref 30), (1, .int yf), (2, .int ym), (4, .int yj)]) (st' := []) (by rfl) ?_
          refine Pa.lv (l' := [(0, .ref 30), (1, .int yf), (2, .int ym), (3, .int (yi + 1)), (4, .int yj)]) (lvS_c rfl (lvS_c rfl (lvS_c rfl (lvS_c rfl (lvS_c rfl (lvS_nil)))))) rfl ?_
          exact l4 h2 h6 h9 ya1 h10 h12 h13 h14
        · have h15 : (yA.1 ya1 4).toInt = yf.toInt := h15
          refine Pa.mp 1 (pc' := 19) (l' := [(3, .ref ya1), (0, .ref 30), (1, .int yi), (2, .int yf)]) (st' := [.ref ya1]) (by rfl) ?_
          refine Pa.gfI (v := yA.1 ya1 11) (by rfl) (by rfl) (.inr rfl) (by rfl) (by rfl) ?_
          refine Pa.if1 (a := (yA.1 ya1 11).toInt) (t := 29) (by rfl) (by rfl) (rfl) (fun yh16 => ?_) (fun h17 => ?_)
          · have yh16 : 0 ≤ (yA.1 ya1 11).toInt := yh16
            refine Pa.ic (x := 0) (pc' := 30) (by rfl) (by rfl) (by decide) ?_
            refine Pa.iret (by rfl) ?_
            show Pa N 33 18 [(0, .ref 30), (1, .int yf), (2, .int ym), (3, .int yi), (4, .int yj)] [.int 0] yA _
            refine Pa.if1k true (by rfl) (by rfl) (by decide) ?_
            show Pa N 33 24 [(0, .ref 30), (1, .int yf), (2, .int ym), (3, .int yi), (4, .int yj)] [] yA _
            refine Pa.iinc (x := yi) (c := 1) (v := (yi + 1)) (l' := [(3, .int (yi + 1)), (0, .ref 30), (1, .int yf), (2, .int ym), (4, .int yj)]) (by rfl) (by rfl) (by decide) (by rfl) (by rfl) ?_
            refine Pa.mp 1 (pc' := 4) (l' := [(3, .int (yi + 1)), (0, .ref 30), (1, .int yf), (2, .int ym), (4, .int yj)]) (st' := []) (by rfl) ?_
            refine Pa.lv (l' := [(0, .ref 30), (1, .int yf), (2, .int ym), (3, .int (yi + 1)), (4, .int yj)]) (lvS_c rfl (lvS_c rfl (lvS_c rfl (lvS_c rfl (lvS_c rfl (lvS_nil)))))) rfl ?_
            exact l5 h2 h6 h9 ya1 h10 h12 h13 h15 yh16
          · have h17 : (yA.1 ya1 11).toInt < 0 := h17
            refine Pa.ic (x := 1) (pc' := 26) (by rfl) (by rfl) (by decide) ?_
            refine Pa.mp 1 (pc' := 30) (l' := [(3, .ref ya1), (0, .ref 30), (1, .int yi), (2, .int yf)]) (st' := [.int 1]) (by rfl) ?_
            refine Pa.iret (by rfl) ?_
            show Pa N 33 18 [(0, .ref 30), (1, .int yf), (2, .int ym), (3, .int yi), (4, .int yj)] [.int 1] yA _
            refine Pa.if1k false (by rfl) (by rfl) (by decide) ?_
            show Pa N 33 21 [(0, .ref 30), (1, .int yf), (2, .int ym), (3, .int yi), (4, .int yj)] [] yA _
            refine Pa.iinc (x := ym) (c := 1) (v := (ym + 1)) (l' := [(2, .int (ym + 1)), (0, .ref 30), (1, .int yf), (3, .int yi), (4, .int yj)]) (by rfl) (by rfl) (by decide) (by rfl) (by rfl) ?_
            refine Pa.iinc (x := yi) (c := 1) (v := (yi + 1)) (l' := [(3, .int (yi + 1)), (2, .int (ym + 1)), (0, .ref 30), (1, .int yf), (4, .int yj)]) (by rfl) (by rfl) (by decide) (by rfl) (by rfl) ?_
            refine Pa.mp 1 (pc' := 4) (l' := [(3, .int (yi + 1)), (2, .int (ym + 1)), (0, .ref 30), (1, .int yf), (4, .int yj)]) (st' := []) (by rfl) ?_
            refine Pa.lv (l' := [(0, .ref 30), (1, .int yf), (2, .int (ym + 1)), (3, .int (yi + 1)), (4, .int yj)]) (lvS_c rfl (lvS_c rfl (lvS_c rfl (lvS_c rfl (lvS_c rfl (lvS_nil)))))) rfl ?_
            exact l6 h2 h6 h9 ya1 h10 h12 h13 h15 h17
      · skip
        refine Pa.mp 1 (pc' := 22) (l' := [(0, .ref 30), (1, .int yi)]) (st' := [.null]) (by rfl) ?_
        refine Pa.nret (by rfl) ?_
        show Pa N 32 5 [(0, .ref 30), (1, .int yi), (2, .int yf)] [.null] yA _
        refine Pa.mp 2 (pc' := 7) (l' := [(3, .null), (0, .ref 30), (1, .int yi), (2, .int yf)]) (st' := [.null]) (by rfl) ?_
        refine Pa.mp 1 (pc' := 29) (l' := [(3, .null), (0, .ref 30), (1, .int yi), (2, .int yf)]) (st' := []) (by rfl) ?_
        refine Pa.ic (x := 0) (pc' := 30) (by rfl) (by rfl) (by decide) ?_
        refine Pa.iret (by rfl) ?_
        show Pa N 33 18 [(0, .ref 30), (1, .int yf), (2, .int ym), (3, .int yi), (4, .int yj)] [.int 0] yA _
        refine Pa.if1k true (by rfl) (by rfl) (by decide) ?_
        show Pa N 33 24 [(0, .ref 30), (1, .int yf), (2, .int ym), (3, .int yi), (4, .int yj)] [] yA _
        refine Pa.iinc (x := yi) (c := 1) (v := (yi + 1)) (l' := [(3, .int (yi + 1)), (0, .ref 30), (1, .int yf), (2, .int ym), (4, .int yj)]) (by rfl) (by rfl) (by decide) (by rfl) (by rfl) ?_
        refine Pa.mp 1 (pc' := 4) (l' := [(3, .int (yi + 1)), (0, .ref 30), (1, .int yf), (2, .int ym), (4, .int yj)]) (st' := []) (by rfl) ?_
        refine Pa.lv (l' := [(0, .ref 30), (1, .int yf), (2, .int ym), (3, .int (yi + 1)), (4, .int yj)]) (lvS_c rfl (lvS_c rfl (lvS_c rfl (lvS_c rfl (lvS_c rfl (lvS_nil)))))) rfl ?_
        exact l7 h2 h6 h9 h11
theorem bx_dr2 {N : Nat} {yA : AW} {yQ : Option Value → AW → Prop} (yf ym yi yj yz : Int32)
    (l1 : (yA.1 30 4).toInt ≤ yj.toInt → yQ (some (.int (-4))) (uI yA 30 7 yz))
    (l2 : yj.toInt < (yA.1 30 4).toInt → yj.toInt < 0 → Pa N 33 65 [(0, .ref 30), (1, .int yf), (2, .int ym), (3, .int yi), (4, .int (yj + 1))] [] (uI yA 30 7 yz) yQ)
    (l3 : yj.toInt < (yA.1 30 4).toInt → 0 ≤ yj.toInt → yj.toInt < 150 → ∀ ya1, yA.2.2.1 31 yj.toInt.toNat = some ya1 → 129 ≤ ya1 → ya1 < (uI yA 30 7 yz).2.2.2.2 → (yA.1 ya1 4).toInt ≠ yf.toInt → Pa N 33 65 [(0, .ref 30), (1, .int yf), (2, .int ym), (3, .int yi), (4, .int (yj + 1))] [] (uI yA 30 7 yz) yQ)
    (l4 : yj.toInt < (yA.1 30 4).toInt → 0 ≤ yj.toInt → yj.toInt < 150 → ∀ ya1, yA.2.2.1 31 yj.toInt.toNat = some ya1 → 129 ≤ ya1 → ya1 < (uI yA 30 7 yz).2.2.2.2 → (yA.1 ya1 4).toInt = yf.toInt → 0 ≤ (yA.1 ya1 11).toInt → Pa N 33 65 [(0, .ref 30), (1, .int yf), (2, .int ym), (3, .int yi), (4, .int (yj + 1))] [] (uI yA 30 7 yz) yQ)
    (l5 : yj.toInt < (yA.1 30 4).toInt → 0 ≤ yj.toInt → yj.toInt < 150 → ∀ ya1, yA.2.2.1 31 yj.toInt.toNat = some ya1 → 129 ≤ ya1 → ya1 < (uI yA 30 7 yz).2.2.2.2 → (yA.1 ya1 4).toInt = yf.toInt → (yA.1 ya1 11).toInt < 0 → yi.toInt ≠ 0 → Pa N 33 65 [(0, .ref 30), (1, .int yf), (2, .int ym), (3, .int (yi + (-1))), (4, .int (yj + 1))] [] (uI yA 30 7 yz) yQ)
    (l6 : yj.toInt < (yA.1 30 4).toInt → 0 ≤ yj.toInt → yj.toInt < 150 → ∀ ya1, yA.2.2.1 31 yj.toInt.toNat = some ya1 → 129 ≤ ya1 → ya1 < (uI yA 30 7 yz).2.2.2.2 → (yA.1 ya1 4).toInt = yf.toInt → (yA.1 ya1 11).toInt < 0 → yi.toInt = 0 → yQ (some (.int yj)) (uI yA 30 7 yz))
    (l7 : yj.toInt < (yA.1 30 4).toInt → 0 ≤ yj.toInt → yj.toInt < 150 → yA.2.2.1 31 yj.toInt.toNat = none → Pa N 33 65 [(0, .ref 30), (1, .int yf), (2, .int ym), (3, .int yi), (4, .int (yj + 1))] [] (uI yA 30 7 yz) yQ) :
    Pa (N + 1) 33 65 [(0, .ref 30), (1, .int yf), (2, .int ym), (3, .int yi), (4, .int yj)] [] (uI yA 30 7 yz) yQ := by
  refine Pa.mp1 1 (pc' := 68) (l' := [(0, .ref 30), (1, .int yf), (2, .int ym), (3, .int yi), (4, .int yj)]) (st' := [.ref 30, .int yj]) (by rfl) ?_
  refine Pa.gfI (v := yA.1 30 4) (by rfl) (by rfl) (.inl rfl) (by rfl) (by show (uI yA 30 7 yz).1 30 4 = yA.1 30 4; rw [uI_k (by decide)]) ?_
  refine Pa.if2 (a := yj.toInt) (b := (yA.1 30 4).toInt) (t := 100) (by rfl) (by rfl) (rfl) (rfl) (fun h1 => ?_) (fun h2 => ?_)
  · have h1 : (yA.1 30 4).toInt ≤ yj.toInt := h1
    refine Pa.ic (x := (-4)) (pc' := 102) (by rfl) (by rfl) (by decide) ?_
    refine Pa.iret (by rfl) ?_
    exact l1 h1
  · have h2 : yj.toInt < (yA.1 30 4).toInt := h2
    refine Pa.mp 3 (pc' := 78) (l' := [(0, .ref 30), (1, .int yf), (2, .int ym), (3, .int yi), (4, .int yj)]) (st' := [.int yf, .int yj, .ref 30]) (by rfl) ?_
    refine Pa.inv (by rfl) (by rfl) (.inl rfl) (by rfl) ?_
    show Pa N 32 0 [(0, .ref 30), (1, .int yj), (2, .int yf)] [] (uI yA 30 7 yz) _
    refine Pa.mp 2 (pc' := 2) (l' := [(0, .ref 30), (1, .int yj), (2, .int yf)]) (st' := [.int yj, .ref 30]) (by rfl) ?_
    refine Pa.inv (by rfl) (by rfl) (.inl rfl) (by rfl) ?_
    show Pa N 26 0 [(0, .ref 30), (1, .int yj)] [] (uI yA 30 7 yz) _
    refine Pa.mp 1 (pc' := 1) (l' := [(0, .ref 30), (1, .int yj)]) (st' := [.int yj]) (by rfl) ?_
    refine Pa.if1 (a := yj.toInt) (t := 21) (by rfl) (by rfl) (rfl) (fun h3 => ?_) (fun h4 => ?_)
    · have h3 : yj.toInt < 0 := h3
      refine Pa.mp 1 (pc' := 22) (l' := [(0, .ref 30), (1, .int yj)]) (st' := [.null]) (by rfl) ?_
      refine Pa.nret (by rfl) ?_
      show Pa N 32 5 [(0, .ref 30), (1, .int yj), (2, .int yf)] [.null] (uI yA 30 7 yz) _
      refine Pa.mp 2 (pc' := 7) (l' := [(3, .null), (0, .ref 30), (1, .int yj), (2, .int yf)]) (st' := [.null]) (by rfl) ?_
      refine Pa.mp 1 (pc' := 29) (l' := [(3, .null), (0, .ref 30), (1, .int yj), (2, .int yf)]) (st' := []) (by rfl) ?_
      refine Pa.ic (x := 0) (pc' := 30) (by rfl) (by rfl) (by decide) ?_
      refine Pa.iret (by rfl) ?_
      show Pa N 33 81 [(0, .ref 30), (1, .int yf), (2, .int ym), (3, .int yi), (4, .int yj)] [.int 0] (uI yA 30 7 yz) _
      refine Pa.if1k true (by rfl) (by rfl) (by decide) ?_
      show Pa N 33 94 [(0, .ref 30), (1, .int yf), (2, .int ym), (3, .int yi), (4, .int yj)] [] (uI yA 30 7 yz) _
      refine Pa.iinc (x := yj) (c := 1) (v := (yj + 1)) (l' := [(4, .int (yj + 1)), (0, .ref 30), (1, .int yf), (2, .int ym), (3, .int yi)]) (by rfl) (by rfl) (by decide) (by rfl) (by rfl) ?_
      refine Pa.mp 1 (pc' := 65) (l' := [(4, .int (yj + 1)), (0, .ref 30), (1, .int yf), (2, .int ym), (3, .int yi)]) (st' := []) (by rfl) ?_
      refine Pa.lv (l' := [(0, .ref 30), (1, .int yf), (2, .int ym), (3, .int yi), (4, .int (yj + 1))]) (lvS_c rfl (lvS_c rfl (lvS_c rfl (lvS_c rfl (lvS_c rfl (lvS_nil)))))) rfl ?_
      exact l2 h2 h3
    · have h4 : 0 ≤ yj.toInt := h4
      refine Pa.mp 2 (pc' := 6) (l' := [(0, .ref 30), (1, .int yj)]) (st' := [.ref 30, .int yj]) (by rfl) ?_
      refine Pa.gfI (v := yA.1 30 4) (by rfl) (by rfl) (.inl rfl) (by rfl) (by show (uI yA 30 7 yz).1 30 4 = yA.1 30 4; rw [uI_k (by decide)]) ?_
      refine Pa.if2 (a := yj.toInt) (b := (yA.1 30 4).toInt) (t := 21) (by rfl) (by rfl) (rfl) (rfl) (fun yh => (by exfalso; have h' : (yA.1 30 4).toInt ≤ yj.toInt := yh; omega)) (fun _ => ?_)
      refine Pa.mp 1 (pc' := 13) (l' := [(0, .ref 30), (1, .int yj)]) (st' := [.ref 30]) (by rfl) ?_
      refine Pa.gfR (by rfl) (by rfl) (.inl rfl) (by rfl) ?_
      show Pa N 26 16 [(0, .ref 30), (1, .int yj)] [.ref 31] (uI yA 30 7 yz) _
      refine Pa.mp 1 (pc' := 17) (l' := [(0, .ref 30), (1, .int yj)]) (st' := [.int yj, .ref 31]) (by rfl) ?_
      refine Pa.olds (o := yA.2.2.1 31 yj.toInt.toNat) (by rfl) (by rfl) (by show (uI yA 30 7 yz).2.2.1 31 yj.toInt.toNat = yA.2.2.1 31 yj.toInt.toNat; rw [uI_O]) (fun h6 h7 ya1 h8 h10 h11 => ?_) (fun h6 h7 h9 => ?_)
      · skip
        refine Pa.mp 1 (pc' := 22) (l' := [(0, .ref 30), (1, .int yj)]) (st' := [.ref ya1]) (by rfl) ?_
        refine Pa.aret (by rfl) ?_
        show Pa N 32 5 [(0, .ref 30), (1, .int yj), (2, .int yf)] [.ref ya1] (uI yA 30 7 yz) _
        refine Pa.mp 2 (pc' := 7) (l' := [(3, .ref ya1), (0, .ref 30), (1, .int yj), (2, .int yf)]) (st' := [.ref ya1]) (by rfl) ?_
        refine Pa.mp 1 (pc' := 10) (l' := [(3, .ref ya1), (0, .ref 30), (1, .int yj), (2, .int yf)]) (st' := []) (by rfl) ?_
        refine Pa.mp 1 (pc' := 11) (l' := [(3, .ref ya1), (0, .ref 30), (1, .int yj), (2, .int yf)]) (st' := [.ref ya1]) (by rfl) ?_
        refine Pa.gfI (v := yA.1 ya1 4) (by rfl) (by rfl) (.inr rfl) (by rfl) (by show (uI yA 30 7 yz).1 ya1 4 = yA.1 ya1 4; rw [uI_c (by omega)]) ?_
        refine Pa.mp 1 (pc' := 15) (l' := [(3, .ref ya1), (0, .ref 30), (1, .int yj), (2, .int yf)]) (st' := [.int yf, .int (yA.1 ya1 4)]) (by rfl) ?_
        refine Pa.if2 (a := (yA.1 ya1 4).toInt) (b := yf.toInt) (t := 29) (by rfl) (by rfl) (rfl) (rfl) (fun h12 => ?_) (fun h13 => ?_)
        · have h12 : (yA.1 ya1 4).toInt ≠ yf.toInt := h12
          refine Pa.ic (x := 0) (pc' := 30) (by rfl) (by rfl) (by decide) ?_
          refine Pa.iret (by rfl) ?_
          show Pa N 33 81 [(0, .ref 30), (1, .int yf), (2, .int ym), (3, .int yi), (4, .int yj)] [.int 0] (uI yA 30 7 yz) _
          refine Pa.if1k true (by rfl) (by rfl) (by decide) ?_
          show Pa N 33 94 [(0, .ref 30), (1, .int yf), (2, .int ym), (3, .int yi), (4, .int yj)] [] (uI yA 30 7 yz) _
          refine Pa.iinc (x := yj) (c := 1) (v := (yj + 1)) (l' := [(4, .int (yj + 1)), (0, .ref 30), (1, .int yf), (2, .int ym), (3, .int yi)]) (by rfl) (by rfl) (by decide) (by rfl) (by rfl) ?_
          refine Pa.mp 1 (pc' := 65) (l' := [(4, .int (yj + 1)), (0, .ref 30), (1, .int yf), (2, .int ym), (3, .int yi)]) (st' := []) (by rfl) ?_
          refine Pa.lv (l' := [(0, .ref 30), (1, .int yf), (2, .int ym), (3, .int yi), (4, .int (yj + 1))]) (lvS_c rfl (lvS_c rfl (lvS_c rfl (lvS_c rfl (lvS_c rfl (lvS_nil)))))) rfl ?_
          exact l3 h2 h4 h7 ya1 h8 h10 h11 h12
        · have h13 : (yA.1 ya1 4).toInt = yf.toInt := h13
          refine Pa.mp 1 (pc' := 19) (l' := [(3, .ref ya1), (0, .ref 30), (1, .int yj), (2, .int yf)]) (st' := [.ref ya1]) (by rfl) ?_
          refine Pa.gfI (v := yA.1 ya1 11) (by rfl) (by rfl) (.inr rfl) (by rfl) (by show (uI yA 30 7 yz).1 ya1 11 = yA.1 ya1 11; rw [uI_c (by omega)]) ?_
          refine Pa.if1 (a := (yA.1 ya1 11).toInt) (t := 29) (by rfl) (by rfl) (rfl) (fun h14 => ?_) (fun h15 => ?_)
          · have h14 : 0 ≤ (yA.1 ya1 11).toInt := h14
            refine Pa.ic (x := 0) (pc' := 30) (by rfl) (by rfl) (by decide) ?_
            refine Pa.iret (by rfl) ?_
            show Pa N 33 81 [(0, .ref 30), (1, .int yf), (2, .int ym), (3, .int yi), (4, .int yj)] [.int 0] (uI yA 30 7 yz) _
            refine Pa.if1k true (by rfl) (by rfl) (by decide) ?_
            show Pa N 33 94 [(0, .ref 30), (1, .int yf), (2, .int ym), (3, .int yi), (4, .int yj)] [] (uI yA 30 7 yz) _
            refine Pa.iinc (x := yj) (c := 1) (v := (yj + 1)) (l' := [(4, .int (yj + 1)), (0, .ref 30), (1, .int yf), (2, .int ym), (3, .int yi)]) (by rfl) (by rfl) (by decide) (by rfl) (by rfl) ?_
            refine Pa.mp 1 (pc' := 65) (l' := [(4, .int (yj + 1)), (0, .ref 30), (1, .int yf), (2, .int ym), (3, .int yi)]) (st' := []) (by rfl) ?_
            refine Pa.lv (l' := [(0, .ref 30), (1, .int yf), (2, .int ym), (3, .int yi), (4, .int (yj + 1))]) (lvS_c rfl (lvS_c rfl (lvS_c rfl (lvS_c rfl (lvS_c rfl (lvS_nil)))))) rfl ?_
            exact l4 h2 h4 h7 ya1 h8 h10 h11 h13 h14
          · have h15 : (yA.1 ya1 11).toInt < 0 := h15
            refine Pa.ic (x := 1) (pc' := 26) (by rfl) (by rfl) (by decide) ?_
            refine Pa.mp 1 (pc' := 30) (l' := [(3, .ref ya1), (0, .ref 30), (1, .int yj), (2, .int yf)]) (st' := [.int 1]) (by rfl) ?_
            refine Pa.iret (by rfl) ?_
            show Pa N 33 81 [(0, .ref 30), (1, .int yf), (2, .int ym), (3, .int yi), (4, .int yj)] [.int 1] (uI yA 30 7 yz) _
            refine Pa.if1k false (by rfl) (by rfl) (by decide) ?_
            show Pa N 33 84 [(0, .ref 30), (1, .int yf), (2, .int ym), (3, .int yi), (4, .int yj)] [] (uI yA 30 7 yz) _
            refine Pa.mp 1 (pc' := 85) (l' := [(0, .ref 30), (1, .int yf), (2, .int ym), (3, .int yi), (4, .int yj)]) (st' := [.int yi]) (by rfl) ?_
            refine Pa.if1 (a := yi.toInt) (t := 91) (by rfl) (by rfl) (rfl) (fun yh16 => ?_) (fun h17 => ?_)
            · have yh16 : yi.toInt ≠ 0 := yh16
              refine Pa.iinc (x := yi) (c := (-1)) (v := (yi + (-1))) (l' := [(3, .int (yi + (-1))), (0, .ref 30), (1, .int yf), (2, .int ym), (4, .int yj)]) (by rfl) (by rfl) (by decide) (by rfl) (by rfl) ?_
              refine Pa.iinc (x := yj) (c := 1) (v := (yj + 1)) (l' := [(4, .int (yj + 1)), (3, .int (yi + (-1))), (0, .ref 30), (1, .int yf), (2, .int ym)]) (by rfl) (by rfl) (by decide) (by rfl) (by rfl) ?_
              refine Pa.mp 1 (pc' := 65) (l' := [(4, .int (yj + 1)), (3, .int (yi + (-1))), (0, .ref 30), (1, .int yf), (2, .int ym)]) (st' := []) (by rfl) ?_
              refine Pa.lv (l' := [(0, .ref 30), (1, .int yf), (2, .int ym), (3, .int (yi + (-1))), (4, .int (yj + 1))]) (lvS_c rfl (lvS_c rfl (lvS_c rfl (lvS_c rfl (lvS_c rfl (lvS_nil)))))) rfl ?_
              exact l5 h2 h4 h7 ya1 h8 h10 h11 h13 h15 yh16
            · have h17 : yi.toInt = 0 := h17
              refine Pa.mp 1 (pc' := 90) (l' := [(0, .ref 30), (1, .int yf), (2, .int ym), (3, .int yi), (4, .int yj)]) (st' := [.int yj]) (by rfl) ?_
              refine Pa.iret (by rfl) ?_
              exact l6 h2 h4 h7 ya1 h8 h10 h11 h13 h15 h17
      · skip
        refine Pa.mp 1 (pc' := 22) (l' := [(0, .ref 30), (1, .int yj)]) (st' := [.null]) (by rfl) ?_
        refine Pa.nret (by rfl) ?_
        show Pa N 32 5 [(0, .ref 30), (1, .int yj), (2, .int yf)] [.null] (uI yA 30 7 yz) _
        refine Pa.mp 2 (pc' := 7) (l' := [(3, .null), (0, .ref 30), (1, .int yj), (2, .int yf)]) (st' := [.null]) (by rfl) ?_
        refine Pa.mp 1 (pc' := 29) (l' := [(3, .null), (0, .ref 30), (1, .int yj), (2, .int yf)]) (st' := []) (by rfl) ?_
        refine Pa.ic (x := 0) (pc' := 30) (by rfl) (by rfl) (by decide) ?_
        refine Pa.iret (by rfl) ?_
        show Pa N 33 81 [(0, .ref 30), (1, .int yf), (2, .int ym), (3, .int yi), (4, .int yj)] [.int 0] (uI yA 30 7 yz) _
        refine Pa.if1k true (by rfl) (by rfl) (by decide) ?_
        show Pa N 33 94 [(0, .ref 30), (1, .int yf), (2, .int ym), (3, .int yi), (4, .int yj)] [] (uI yA 30 7 yz) _
        refine Pa.iinc (x := yj) (c := 1) (v := (yj + 1)) (l' := [(4, .int (yj + 1)), (0, .ref 30), (1, .int yf), (2, .int ym), (3, .int yi)]) (by rfl) (by rfl) (by decide) (by rfl) (by rfl) ?_
        refine Pa.mp 1 (pc' := 65) (l' := [(4, .int (yj + 1)), (0, .ref 30), (1, .int yf), (2, .int ym), (3, .int yi)]) (st' := []) (by rfl) ?_
        refine Pa.lv (l' := [(0, .ref 30), (1, .int yf), (2, .int ym), (3, .int yi), (4, .int (yj + 1))]) (lvS_c rfl (lvS_c rfl (lvS_c rfl (lvS_c rfl (lvS_c rfl (lvS_nil)))))) rfl ?_
        exact l7 h2 h4 h7 h9
theorem bm_co0 {N : Nat} {yA : AW} {yQ : Option Value → AW → Prop} (yf : Int32)
    (l1 : Pa N 244 4 [(0, .ref 69), (1, .int yf), (2, .int 0), (3, .int 0)] [] yA yQ) :
    Pa N 244 0 [(0, .ref 69), (1, .int yf)] [] yA yQ := by
  refine Pa.ic (x := 0) (pc' := 1) (by rfl) (by rfl) (by decide) ?_
  refine Pa.mp 1 (pc' := 2) (l' := [(2, .int 0), (0, .ref 69), (1, .int yf)]) (st' := []) (by rfl) ?_
  refine Pa.ic (x := 0) (pc' := 3) (by rfl) (by rfl) (by decide) ?_
  refine Pa.mp 1 (pc' := 4) (l' := [(3, .int 0), (2, .int 0), (0, .ref 69), (1, .int yf)]) (st' := []) (by rfl) ?_
  refine Pa.lv (l' := [(0, .ref 69), (1, .int yf), (2, .int 0), (3, .int 0)]) (lvS_c rfl (lvS_c rfl (lvS_c rfl (lvS_c rfl (lvS_nil))))) rfl ?_
  exact l1
theorem bm_co {N : Nat} {yA : AW} {yQ : Option Value → AW → Prop} (yf yn yc : Int32)
    (l1 : (yA.1 69 31).toInt ≤ yc.toInt → yQ (some (.int yn)) yA)
    (l2 : yc.toInt < (yA.1 69 31).toInt → 0 ≤ ((7 * yc) + 0).toInt → ((7 * yc) + 0).toInt < 1050 → (yA.1 90 (((7 * yc) + 0).toInt.toNat)).toInt ≠ yf.toInt → Pa N 244 4 [(0, .ref 69), (1, .int yf), (2, .int (yn + 0)), (3, .int (yc + 1))] [] yA yQ)
    (l3 : yc.toInt < (yA.1 69 31).toInt → 0 ≤ ((7 * yc) + 0).toInt → ((7 * yc) + 0).toInt < 1050 → (yA.1 90 (((7 * yc) + 0).toInt.toNat)).toInt = yf.toInt → Pa N 244 4 [(0, .ref 69), (1, .int yf), (2, .int (yn + 1)), (3, .int (yc + 1))] [] yA yQ) :
    Pa (N + 1) 244 4 [(0, .ref 69), (1, .int yf), (2, .int yn), (3, .int yc)] [] yA yQ := by
  refine Pa.mp1 1 (pc' := 6) (l' := [(0, .ref 69), (1, .int yf), (2, .int yn), (3, .int yc)]) (st' := [.ref 69, .int yc]) (by rfl) ?_
  refine Pa.gfI (v := yA.1 69 31) (by rfl) (by rfl) (.inl rfl) (by rfl) (by rfl) ?_
  refine Pa.if2 (a := yc.toInt) (b := (yA.1 69 31).toInt) (t := 36) (by rfl) (by rfl) (rfl) (rfl) (fun h1 => ?_) (fun h2 => ?_)
  · have h1 : (yA.1 69 31).toInt ≤ yc.toInt := h1
    refine Pa.mp 1 (pc' := 37) (l' := [(0, .ref 69), (1, .int yf), (2, .int yn), (3, .int yc)]) (st' := [.int yn]) (by rfl) ?_
    refine Pa.iret (by rfl) ?_
    exact l1 h1
  · have h2 : yc.toInt < (yA.1 69 31).toInt := h2
    refine Pa.mp 3 (pc' := 15) (l' := [(0, .ref 69), (1, .int yf), (2, .int yn), (3, .int yc)]) (st' := [.int yc, .ref 69, .int yn]) (by rfl) ?_
    refine Pa.ic (x := 0) (pc' := 16) (by rfl) (by rfl) (by decide) ?_
    refine Pa.inv (by rfl) (by rfl) (.inl rfl) (by rfl) ?_
    show Pa N 181 0 [(0, .ref 69), (1, .int yc), (2, .int 0)] [] yA _
    refine Pa.mp 1 (pc' := 1) (l' := [(0, .ref 69), (1, .int yc), (2, .int 0)]) (st' := [.ref 69]) (by rfl) ?_
    refine Pa.gfR (by rfl) (by rfl) (.inl rfl) (by rfl) ?_
    show Pa N 181 4 [(0, .ref 69), (1, .int yc), (2, .int 0)] [.ref 90] yA _
    refine Pa.ic (x := 7) (pc' := 6) (by rfl) (by rfl) (by decide) ?_
    refine Pa.mp 4 (pc' := 10) (l' := [(0, .ref 69), (1, .int yc), (2, .int 0)]) (st' := [.int ((7 * yc) + 0), .ref 90]) (by rfl) ?_
    refine Pa.alds (v := yA.1 90 (((7 * yc) + 0).toInt.toNat)) (by rfl) (by rfl) (by rfl) (fun h3 h4 => ?_)
    have h3 : 0 ≤ ((7 * yc) + 0).toInt := h3
    have h4 : ((7 * yc) + 0).toInt < 1050 := h4
    refine Pa.iret (by rfl) ?_
    show Pa N 244 19 [(0, .ref 69), (1, .int yf), (2, .int yn), (3, .int yc)] [.int (yA.1 90 (((7 * yc) + 0).toInt.toNat)), .int yn] yA _
    refine Pa.mp 1 (pc' := 20) (l' := [(0, .ref 69), (1, .int yf), (2, .int yn), (3, .int yc)]) (st' := [.int yf, .int (yA.1 90 (((7 * yc) + 0).toInt.toNat)), .int yn]) (by rfl) ?_
    refine Pa.if2 (a := (yA.1 90 (((7 * yc) + 0).toInt.toNat)).toInt) (b := yf.toInt) (t := 27) (by rfl) (by rfl) (rfl) (rfl) (fun h5 => ?_) (fun h6 => ?_)
    · have h5 : (yA.1 90 (((7 * yc) + 0).toInt.toNat)).toInt ≠ yf.toInt := h5
      refine Pa.ic (x := 0) (pc' := 28) (by rfl) (by rfl) (by decide) ?_
      refine Pa.mp 2 (pc' := 30) (l' := [(2, .int (yn + 0)), (0, .ref 69), (1, .int yf), (3, .int yc)]) (st' := []) (by rfl) ?_
      refine Pa.iinc (x := yc) (c := 1) (v := (yc + 1)) (l' := [(3, .int (yc + 1)), (2, .int (yn + 0)), (0, .ref 69), (1, .int yf)]) (by rfl) (by rfl) (by decide) (by rfl) (by rfl) ?_
      refine Pa.mp 1 (pc' := 4) (l' := [(3, .int (yc + 1)), (2, .int (yn + 0)), (0, .ref 69), (1, .int yf)]) (st' := []) (by rfl) ?_
      refine Pa.lv (l' := [(0, .ref 69), (1, .int yf), (2, .int (yn + 0)), (3, .int (yc + 1))]) (lvS_c rfl (lvS_c rfl (lvS_c rfl (lvS_c rfl (lvS_nil))))) rfl ?_
      exact l2 h2 h3 h4 h5
    · have h6 : (yA.1 90 (((7 * yc) + 0).toInt.toNat)).toInt = yf.toInt := h6
      refine Pa.ic (x := 1) (pc' := 24) (by rfl) (by rfl) (by decide) ?_
      refine Pa.mp 3 (pc' := 30) (l' := [(2, .int (yn + 1)), (0, .ref 69), (1, .int yf), (3, .int yc)]) (st' := []) (by rfl) ?_
      refine Pa.iinc (x := yc) (c := 1) (v := (yc + 1)) (l' := [(3, .int (yc + 1)), (2, .int (yn + 1)), (0, .ref 69), (1, .int yf)]) (by rfl) (by rfl) (by decide) (by rfl) (by rfl) ?_
      refine Pa.mp 1 (pc' := 4) (l' := [(3, .int (yc + 1)), (2, .int (yn + 1)), (0, .ref 69), (1, .int yf)]) (st' := []) (by rfl) ?_
      refine Pa.lv (l' := [(0, .ref 69), (1, .int yf), (2, .int (yn + 1)), (3, .int (yc + 1))]) (lvS_c rfl (lvS_c rfl (lvS_c rfl (lvS_c rfl (lvS_nil))))) rfl ?_
      exact l3 h2 h3 h4 h6
def opnD (yA : AW) (yf : Int32) : Nat → Bool := drO (yA.1 90) (yA.1 93) yf
theorem opn_iff {yA : AW} {yf : Int32} {yn : Nat} : opnD yA yf yn = true ↔ (yA.1 90 (7 * yn) = yf ∧ (yA.1 93 yn).toInt < 0) := by
  unfold opnD drO drF drA
  rw [Bool.and_eq_true, decide_eq_true_iff, Bool.not_eq_true', Bool.and_eq_false_iff, decide_eq_false_iff_not, decide_eq_false_iff_not]
  constructor
  · rintro ⟨h1, h2⟩
    refine ⟨h1, ?_⟩
    rcases h2 with h2 | h2
    · exact absurd h1 h2
    · omega
  · rintro ⟨h1, h2⟩
    exact ⟨h1, .inr (by omega)⟩
theorem dc_1 {yP : Nat → Bool} {yn : Nat} (yh : yP yn = true) : dr_cnt yP (yn + 1) = dr_cnt yP yn + 1 := by
  show dr_cnt yP yn + (bif yP yn then 1 else 0) = dr_cnt yP yn + 1
  rw [yh]
  rfl
theorem dc_0 {yP : Nat → Bool} {yn : Nat} (yh : ¬ yP yn = true) : dr_cnt yP (yn + 1) = dr_cnt yP yn := by
  show dr_cnt yP yn + (bif yP yn then 1 else 0) = dr_cnt yP yn
  rw [Bool.eq_false_iff.mpr yh]
  rfl
def drZ (yz : Int32) : Int32 := (yz * 1103515245) + 12345
def drR (yz ym : Int32) : Int32 := ((yz.toUInt32 >>> ((8 : Int32).toUInt32 &&& Int32.toUInt32 31)).toInt32) - ((yz.toUInt32 >>> ((8 : Int32).toUInt32 &&& Int32.toUInt32 31)).toInt32) / ym * ym
theorem rem_i {yx yy : Int32} (h0 : 0 ≤ yx.toInt) (h1 : 0 < yy.toInt) : 0 ≤ (yx - yx / yy * yy).toInt ∧ (yx - yx / yy * yy).toInt < yy.toInt := by
  obtain ⟨yq, yq1, yq2⟩ := m_i2_op (ins := .irem) (o := 4) rfl yx yy (fun _ => by omega)
  have hy : ¬ yy = 0 := fun ye => by rw [ye] at h1; exact absurd h1 (by decide)
  have ye : m_i2 .irem yx yy = some (yx - yx / yy * yy) := if_neg hy
  rw [ye] at yq1
  cases yq1
  have yq3 := yq2.2 h0 h1
  rw [yq3]
  exact ⟨Int.emod_nonneg _ (by omega), Int.emod_lt_of_pos _ h1⟩
theorem drR_lt {yz : Int32} {ym : Nat} (h0 : ym ≠ 0) (h1 : ym ≤ 150) : 0 ≤ (drR yz (Int32.ofNat ym)).toInt ∧ (drR yz (Int32.ofNat ym)).toInt < (ym : Int) := by
  have ye : (Int32.ofNat ym).toInt = (ym : Int) := i32_nat (by omega)
  have yh := rem_i (yx := (yz.toUInt32 >>> ((8 : Int32).toUInt32 &&& Int32.toUInt32 31)).toInt32) (yy := Int32.ofNat ym) (i32_ushr (by decide) (by decide)) (by omega)
  rw [ye] at yh
  exact yh
theorem rowAt {yA : AW} (hX : RZc yA) {yj ya : Nat} (hj : yj < cT yA) (yh : yA.2.2.1 31 yj = some ya) : rowR yA ya yj := by
  obtain ⟨yb, yq1, yq2, yq3, yq4⟩ := hX.1 yj hj
  rw [yh] at yq1
  cases yq1
  exact yq4
theorem slotAt {yA : AW} (hX : RZc yA) {yj : Nat} (hj : yj < cT yA) (yh : yA.2.2.1 31 yj = none) : False := by
  obtain ⟨yb, yq1, -⟩ := hX.1 yj hj
  rw [yh] at yq1
  cases yq1
/-- the ycost that is drawn -/
def hitD (yA : AW) (yf : Int32) (yr : Nat) (yh : Nat) : Prop := yh < 150 ∧ opnD yA yf yh = true ∧ dr_cnt (opnD yA yf) yh = yr
theorem hit_one {yA : AW} {yf : Int32} {yr yh yg : Nat} (h1 : hitD yA yf yr yh) (h2 : hitD yA yf yr yg) : yh = yg := by
  obtain ⟨ya1, a2, a3⟩ := h1
  obtain ⟨b1, b2, b3⟩ := h2
  have ea := dc_1 a2
  have eb := dc_1 b2
  rcases Nat.lt_trichotomy yh yg with yq | yq | yq
  · have := dr_cnt_mono (opnD yA yf) (show yh + 1 ≤ yg from yq)
    omega
  · exact yq
  · have := dr_cnt_mono (opnD yA yf) (show yg + 1 ≤ yh from yq)
    omega
def drwX (yA : AW) (yf : Int32) (yz : Int32) (yr : Nat) (yc yk : Nat) (yx : Int32) (A1 : AW) : Prop := ∃ yh, hitD yA yf yr yh ∧ yx = Int32.ofNat yh ∧ A1 = uI yA yc yk yz
theorem c_dr2 (yA : AW) (yf ym yz : Int32) (yr : Nat) (hX : RZc yA) (yf5 : yA.1 30 4 = yA.1 69 31) (yhT : (yA.1 69 31).toInt ≤ 150) (hr : yr < dr_cnt (opnD yA yf) (cT yA)) : ∀ N yn (yi : Int32), yn ≤ cT yA → dr_cnt (opnD yA yf) yn ≤ yr → yi.toInt = (yr : Int) - (dr_cnt (opnD yA yf) yn : Int) → Pa N 33 65 [(0, .ref 30), (1, .int yf), (2, .int ym), (3, .int yi), (4, .int (Int32.ofNat yn))] [] (uI yA 30 7 yz) (fun yu A1 => ∃ yx, yu = some (.int yx) ∧ drwX yA yf yz yr 30 7 yx A1) := by
  have hT0 : cT yA ≤ 150 := by unfold cT; omega
  have hTe : (yA.1 30 4).toInt = (yA.1 69 31).toInt := by rw [yf5]
  have hcl := dr_cnt_le (opnD yA yf) (cT yA)
  intro N
  induction N with
  | zero => intro yn yi _ _ _; exact Pa.zero
  | succ N yih =>
    intro yn yi hn yhc yhi
    have ye1 : (Int32.ofNat yn).toInt = (yn : Int) := i32_nat (by omega)
    have hl := dr_cnt_le (opnD yA yf) yn
    refine bx_dr2 yf ym yi _ yz ?_ ?_ ?_ ?_ ?_ ?_ ?_ <;> rw [ye1] <;> (try rw [Int.toNat_natCast])
    · intro h1
      exfalso
      rw [hTe] at h1
      have : yn = cT yA := by unfold cT at hn ⊢; omega
      rw [this] at yhc
      omega
    · intro h1 h2
      omega
    · intro h1 h2 h3 ya h4 h5 h6 h7
      rw [hTe] at h1
      have hlt : yn < cT yA := by unfold cT; omega
      have yrow := rowAt hX hlt h4
      have no : ¬ opnD yA yf yn = true := fun yq => h7 (by rw [yrow.2.2.2.2.1, (opn_iff.mp yq).1])
      have yh := yih (yn + 1) yi hlt (by rw [dc_0 no]; exact yhc) (by rw [dc_0 no]; exact yhi)
      rw [on_succ] at yh
      exact yh
    · intro h1 h2 h3 ya h4 h5 h6 h7 h8
      rw [hTe] at h1
      have hlt : yn < cT yA := by unfold cT; omega
      have yrow := rowAt hX hlt h4
      have no : ¬ opnD yA yf yn = true := fun yq => by
        have := (opn_iff.mp yq).2
        rw [yrow.2.2.2.2.2.2.2.2.2.2.2.1] at h8
        omega
      have yh := yih (yn + 1) yi hlt (by rw [dc_0 no]; exact yhc) (by rw [dc_0 no]; exact yhi)
      rw [on_succ] at yh
      exact yh
    · intro h1 h2 h3 ya h4 h5 h6 h7 h8 h9
      rw [hTe] at h1
      have hlt : yn < cT yA := by unfold cT; omega
      have yrow := rowAt hX hlt h4
      rw [yrow.2.2.2.2.1] at h7
      rw [yrow.2.2.2.2.2.2.2.2.2.2.2.1] at h8
      have yyes : opnD yA yf yn = true := opn_iff.mpr ⟨i32_ext h7, h8⟩
      have ye2 := dc_1 yyes
      have yh := yih (yn + 1) (yi + (-1)) hlt (by omega) (by rw [i_addx (x := yi.toInt - 1) (by rw [show (-1 : Int32).toInt = -1 from by decide]; omega) (by omega) (by omega)]; omega)
      rw [on_succ] at yh
      exact yh
    · intro h1 h2 h3 ya h4 h5 h6 h7 h8 h9
      rw [hTe] at h1
      have hlt : yn < cT yA := by unfold cT; omega
      have yrow := rowAt hX hlt h4
      rw [yrow.2.2.2.2.1] at h7
      rw [yrow.2.2.2.2.2.2.2.2.2.2.2.1] at h8
      have yyes : opnD yA yf yn = true := opn_iff.mpr ⟨i32_ext h7, h8⟩
      exact ⟨_, rfl, yn, ⟨by omega, yyes, by omega⟩, rfl, rfl⟩
    · intro h1 h2 h3 h4
      rw [hTe] at h1
      exact (slotAt hX (show yn < cT yA by unfold cT; omega) h4).elim
def drawX (yA : AW) (yf yx : Int32) (A1 : AW) : Prop := (dr_cnt (opnD yA yf) (cT yA) = 0 ∧ yx = -4 ∧ A1 = yA) ∨ (dr_cnt (opnD yA yf) (cT yA) ≠ 0 ∧ drwX yA yf (drZ (yA.1 30 7)) (drR (drZ (yA.1 30 7)) (Int32.ofNat (dr_cnt (opnD yA yf) (cT yA)))).toInt.toNat 30 7 yx A1)
theorem c_drawOf (N : Nat) (yA : AW) (yf : Int32) (hX : RZc yA) (yf5 : yA.1 30 4 = yA.1 69 31) (yhT : (yA.1 69 31).toInt ≤ 150) : Pa N 33 0 [(0, .ref 30), (1, .int yf)] [] yA (fun yu A1 => ∃ yx, yu = some (.int yx) ∧ drawX yA yf yx A1) := by
  have hT0 : cT yA ≤ 150 := by unfold cT; omega
  have hTe : (yA.1 30 4).toInt = (yA.1 69 31).toInt := by rw [yf5]
  have ykey : ∀ N yn yq, yn ≤ cT yA → Pa N 33 4 [(0, .ref 30), (1, .int yf), (2, .int (Int32.ofNat (dr_cnt (opnD yA yf) yn))), (3, .int (Int32.ofNat yn)), (4, .int yq)] [] yA (fun yu A1 => ∃ yx, yu = some (.int yx) ∧ drawX yA yf yx A1) := by
    intro N
    induction N with
    | zero => intro yn yq _; exact Pa.zero
    | succ N yih =>
      intro yn yq hn
      have hl := dr_cnt_le (opnD yA yf) yn
      have ye1 : (Int32.ofNat yn).toInt = (yn : Int) := i32_nat (by omega)
      have em : (Int32.ofNat (dr_cnt (opnD yA yf) yn)).toInt = (dr_cnt (opnD yA yf) yn : Int) := i32_nat (by omega)
      refine bx_dr1 yf _ _ yq ?_ ?_ ?_ ?_ ?_ ?_ ?_ <;> rw [ye1] <;> (try rw [Int.toNat_natCast])
      · intro h1 h2
        rw [em] at h2
        rw [hTe] at h1
        have hnT : yn = cT yA := by unfold cT at hn ⊢; omega
        subst hnT
        have hz : dr_cnt (opnD yA yf) (cT yA) ≠ 0 := by omega
        obtain ⟨yr1, r2⟩ := drR_lt (yz := drZ (yA.1 30 7)) hz (by omega)
        refine Pa.mono (c_dr2 yA yf (Int32.ofNat (dr_cnt (opnD yA yf) (cT yA))) (drZ (yA.1 30 7)) (drR (drZ (yA.1 30 7)) (Int32.ofNat (dr_cnt (opnD yA yf) (cT yA)))).toInt.toNat hX yf5 yhT (by omega) N 0 (drR (drZ (yA.1 30 7)) (Int32.ofNat (dr_cnt (opnD yA yf) (cT yA)))) (Nat.zero_le _) (Nat.zero_le _) (by show _ = _ - (0 : Int); omega)) (fun yu A1 hu => ?_)
        obtain ⟨yx, hx, h9⟩ := hu
        exact ⟨yx, hx, .inr ⟨hz, h9⟩⟩
      · intro h1 h2
        rw [em] at h2
        rw [hTe] at h1
        have hnT : yn = cT yA := by unfold cT at hn ⊢; omega
        subst hnT
        exact ⟨_, rfl, .inl ⟨by omega, rfl, rfl⟩⟩
      · intro h1 h2
        omega
      · intro h1 h2 h3 ya h4 h5 h6 h7
        rw [hTe] at h1
        have hlt : yn < cT yA := by unfold cT; omega
        have yrow := rowAt hX hlt h4
        have no : ¬ opnD yA yf yn = true := fun yq => h7 (by rw [yrow.2.2.2.2.1, (opn_iff.mp yq).1])
        have yh := yih (yn + 1) yq hlt
        rw [dc_0 no, on_succ] at yh
        exact yh
      · intro h1 h2 h3 ya h4 h5 h6 h7 h8
        rw [hTe] at h1
        have hlt : yn < cT yA := by unfold cT; omega
        have yrow := rowAt hX hlt h4
        have no : ¬ opnD yA yf yn = true := fun yq => by
          have := (opn_iff.mp yq).2
          rw [yrow.2.2.2.2.2.2.2.2.2.2.2.1] at h8
          omega
        have yh := yih (yn + 1) yq hlt
        rw [dc_0 no, on_succ] at yh
        exact yh
      · intro h1 h2 h3 ya h4 h5 h6 h7 h8
        rw [hTe] at h1
        have hlt : yn < cT yA := by unfold cT; omega
        have yrow := rowAt hX hlt h4
        rw [yrow.2.2.2.2.1] at h7
        rw [yrow.2.2.2.2.2.2.2.2.2.2.2.1] at h8
        have yyes : opnD yA yf yn = true := opn_iff.mpr ⟨i32_ext h7, h8⟩
        have yh := yih (yn + 1) yq hlt
        rw [dc_1 yyes, on_succ, on_succ] at yh
        exact yh
      · intro h1 h2 h3 h4
        rw [hTe] at h1
        exact (slotAt hX (show yn < cT yA by unfold cT; omega) h4).elim
  exact bx_dr0 yf (ykey N 0 0 (Nat.zero_le _))
def cosM (yA : AW) (yf : Int32) : Int32 := Int32.ofNat (dr_cnt (drF (yA.1 90) yf) (cT yA))
theorem c_costsOf (N : Nat) (yA : AW) (yf : Int32) (yhT : (yA.1 69 31).toInt ≤ 150) : Pa N 244 0 [(0, .ref 69), (1, .int yf)] [] yA (fun yu A1 => yu = some (.int (cosM yA yf)) ∧ A1 = yA) := by
  have hT0 : cT yA ≤ 150 := by unfold cT; omega
  have ykey : ∀ N yn, yn ≤ cT yA → Pa N 244 4 [(0, .ref 69), (1, .int yf), (2, .int (Int32.ofNat (dr_cnt (drF (yA.1 90) yf) yn))), (3, .int (Int32.ofNat yn))] [] yA (fun yu A1 => yu = some (.int (cosM yA yf)) ∧ A1 = yA) := by
    intro N
    induction N with
    | zero => intro yn _; exact Pa.zero
    | succ N yih =>
      intro yn hn
      have ye1 : (Int32.ofNat yn).toInt = (yn : Int) := i32_nat (by omega)
      refine bm_co yf _ _ ?_ ?_ ?_ <;> rw [ye1]
      · intro h1
        have hnT : yn = cT yA := by unfold cT at hn ⊢; omega
        rw [hnT]
        exact ⟨rfl, rfl⟩
      · intro h1 h2 h3 h4
        have hlt : yn < cT yA := by unfold cT; omega
        have yi0 : ((7 * Int32.ofNat yn) + 0).toInt.toNat = 7 * yn := (i7n (T := Int32.ofNat yn) (yi := 0) (yt := yn) (yq := 0) (by omega) (by omega) (by omega) (by decide) (by decide) (by decide)).trans (Nat.add_zero _)
        rw [yi0] at h4
        have no : ¬ drF (yA.1 90) yf yn = true := fun yq => h4 (by rw [show yA.1 90 (7 * yn) = yf from of_decide_eq_true yq])
        have yh := yih (yn + 1) hlt
        rw [dc_0 no, on_succ] at yh
        rw [Int32.add_zero]
        exact yh
      · intro h1 h2 h3 h4
        have hlt : yn < cT yA := by unfold cT; omega
        have yi0 : ((7 * Int32.ofNat yn) + 0).toInt.toNat = 7 * yn := (i7n (T := Int32.ofNat yn) (yi := 0) (yt := yn) (yq := 0) (by omega) (by omega) (by omega) (by decide) (by decide) (by decide)).trans (Nat.add_zero _)
        rw [yi0] at h4
        have yyes : drF (yA.1 90) yf yn = true := decide_eq_true (i32_ext h4)
        have yh := yih (yn + 1) hlt
        rw [dc_1 yyes, on_succ, on_succ] at yh
        exact yh
  exact bm_co0 yf (ykey N 0 (Nat.zero_le _))
theorem aud_cnt {yA : AW} {yf : Int32} (hf : 0 ≤ yf.toInt) : ∀ yn, sumN (audF yA yf) yn = Int32.ofNat (dr_cnt (drA (yA.1 90) (yA.1 93) yf) yn)
  | 0 => rfl
  | yn + 1 => by
    show sumN (audF yA yf) yn + audF yA yf yn = _
    rw [aud_cnt hf yn]
    by_cases ye : yA.1 90 (7 * yn) = yf ∧ 0 ≤ (yA.1 93 yn).toInt
    · have ye1 : drA (yA.1 90) (yA.1 93) yf yn = true := by
        unfold drA
        rw [decide_eq_true ye.1, decide_eq_true ye.2]
        rfl
      have ye2 : audF yA yf yn = 1 := if_pos ⟨.inr (by rw [ye.1]), ye.2⟩
      rw [dc_1 ye1, ye2, on_succ]
    · have ye1 : ¬ drA (yA.1 90) (yA.1 93) yf yn = true := fun yq => by
        unfold drA at yq
        rw [Bool.and_eq_true, decide_eq_true_iff, decide_eq_true_iff] at yq
        exact ye yq
      have ye2 : audF yA yf yn = 0 := if_neg (fun yq => ye ⟨i32_ext (yq.1.resolve_left (by omega)), yq.2⟩)
      rw [dc_0 ye1, ye2, Int32.add_zero]
theorem sub_on {ya yb : Nat} (yh : ya + yb < 1000) : Int32.ofNat (ya + yb) - Int32.ofNat ya = Int32.ofNat yb := i32_ext (by
  have ye1 : (Int32.ofNat (ya + yb)).toInt = ((ya + yb : Nat) : Int) := i32_nat (by omega)
  have ye2 : (Int32.ofNat ya).toInt = (ya : Int) := i32_nat (by omega)
  have ye3 : (Int32.ofNat yb).toInt = (yb : Int) := i32_nat (by omega)
  rw [i_subx (x := (yb : Int)) (by rw [ye1, ye2]; omega) (by omega) (by omega), ye3])
theorem cos_aud {yA : AW} {yf : Int32} (hf : 0 ≤ yf.toInt) (yhT : (yA.1 69 31).toInt ≤ 150) : cosM yA yf - audM yA yf = Int32.ofNat (dr_cnt (opnD yA yf) (cT yA)) := by
  have hT0 : cT yA ≤ 150 := by unfold cT; omega
  have h1 := dr_cnt_sub (drF (yA.1 90) yf) (drA (yA.1 90) (yA.1 93) yf) (fun yi yq => by
    unfold drA at yq
    rw [Bool.and_eq_true] at yq
    exact yq.1) (cT yA)
  have h2 : dr_cnt (fun yi => drF (yA.1 90) yf yi && !(drA (yA.1 90) (yA.1 93) yf yi)) (cT yA) = dr_cnt (opnD yA yf) (cT yA) := rfl
  have h3 := dr_cnt_le (drF (yA.1 90) yf) (cT yA)
  unfold cosM audM
  rw [aud_cnt hf, h1, h2]
  exact sub_on (by omega)
theorem bm_dr0 {N : Nat} {yA : AW} {yQ : Option Value → AW → Prop} (yf : Int32) (yhT : (yA.1 69 31).toInt ≤ 150)
    (l1 : yf.toInt < 0 → yQ (some (.int (-1))) yA)
    (l2 : 0 ≤ yf.toInt → (yA.1 69 11).toInt ≤ yf.toInt → yQ (some (.int (-1))) yA)
    (l3 : 0 ≤ yf.toInt → yf.toInt < (yA.1 69 11).toInt → ((cosM yA yf) - (audM yA yf)).toInt ≠ 0 → Pa N 245 58 [(0, .ref 69), (1, .int yf), (2, .int ((cosM yA yf) - (audM yA yf))), (3, .int ((((((yA.1 69 1) * 1103515245) + 12345).toUInt32 >>> ((8 : Int32).toUInt32 &&& Int32.toUInt32 31)).toInt32) - (((((yA.1 69 1) * 1103515245) + 12345).toUInt32 >>> ((8 : Int32).toUInt32 &&& Int32.toUInt32 31)).toInt32) / ((cosM yA yf) - (audM yA yf)) * ((cosM yA yf) - (audM yA yf)))), (4, .int 0)] [] (uI yA 69 1 (((yA.1 69 1) * 1103515245) + 12345)) yQ)
    (l4 : 0 ≤ yf.toInt → yf.toInt < (yA.1 69 11).toInt → ((cosM yA yf) - (audM yA yf)).toInt = 0 → yQ (some (.int (-4))) yA) :
    Pa N 245 0 [(0, .ref 69), (1, .int yf)] [] yA yQ := by
  refine Pa.mp 2 (pc' := 2) (l' := [(0, .ref 69), (1, .int yf)]) (st' := [.int yf, .ref 69]) (by rfl) ?_
  refine Pa.inv (by rfl) (by rfl) (.inl rfl) (by rfl) ?_
  show Pa N 157 0 [(0, .ref 69), (1, .int yf)] [] yA _
  refine Pa.mp 1 (pc' := 1) (l' := [(0, .ref 69), (1, .int yf)]) (st' := [.int yf]) (by rfl) ?_
  refine Pa.if1 (a := yf.toInt) (t := 16) (by rfl) (by rfl) (rfl) (fun h1 => ?_) (fun h2 => ?_)
  · have h1 : yf.toInt < 0 := h1
    refine Pa.ic (x := 0) (pc' := 17) (by rfl) (by rfl) (by decide) ?_
    refine Pa.iret (by rfl) ?_
    show Pa N 245 5 [(0, .ref 69), (1, .int yf)] [.int 0] yA _
    refine Pa.if1k false (by rfl) (by rfl) (by decide) ?_
    show Pa N 245 8 [(0, .ref 69), (1, .int yf)] [] yA _
    refine Pa.ic (x := (-1)) (pc' := 9) (by rfl) (by rfl) (by decide) ?_
    refine Pa.iret (by rfl) ?_
    exact l1 h1
  · have h2 : 0 ≤ yf.toInt := h2
    refine Pa.mp 2 (pc' := 6) (l' := [(0, .ref 69), (1, .int yf)]) (st' := [.ref 69, .int yf]) (by rfl) ?_
    refine Pa.gfI (v := yA.1 69 11) (by rfl) (by rfl) (.inl rfl) (by rfl) (by rfl) ?_
    refine Pa.if2 (a := yf.toInt) (b := (yA.1 69 11).toInt) (t := 16) (by rfl) (by rfl) (rfl) (rfl) (fun h3 => ?_) (fun h4 => ?_)
    · have h3 : (yA.1 69 11).toInt ≤ yf.toInt := h3
      refine Pa.ic (x := 0) (pc' := 17) (by rfl) (by rfl) (by decide) ?_
      refine Pa.iret (by rfl) ?_
      show Pa N 245 5 [(0, .ref 69), (1, .int yf)] [.int 0] yA _
      refine Pa.if1k false (by rfl) (by rfl) (by decide) ?_
      show Pa N 245 8 [(0, .ref 69), (1, .int yf)] [] yA _
      refine Pa.ic (x := (-1)) (pc' := 9) (by rfl) (by rfl) (by decide) ?_
      refine Pa.iret (by rfl) ?_
      exact l2 h2 h3
    · have h4 : yf.toInt < (yA.1 69 11).toInt := h4
      refine Pa.ic (x := 1) (pc' := 13) (by rfl) (by rfl) (by decide) ?_
      refine Pa.mp 1 (pc' := 17) (l' := [(0, .ref 69), (1, .int yf)]) (st' := [.int 1]) (by rfl) ?_
      refine Pa.iret (by rfl) ?_
      show Pa N 245 5 [(0, .ref 69), (1, .int yf)] [.int 1] yA _
      refine Pa.if1k true (by rfl) (by rfl) (by decide) ?_
      show Pa N 245 10 [(0, .ref 69), (1, .int yf)] [] yA _
      refine Pa.mp 2 (pc' := 12) (l' := [(0, .ref 69), (1, .int yf)]) (st' := [.int yf, .ref 69]) (by rfl) ?_
      refine Pa.inv (by rfl) (by rfl) (.inl rfl) (by rfl) ?_
      refine Pa.mono (c_costsOf N yA yf yhT) (fun yu A1 hu => ?_)
      obtain ⟨rfl, hu⟩ := hu
      rw [hu]
      show Pa N 245 15 [(0, .ref 69), (1, .int yf)] [.int (cosM yA yf)] yA _
      refine Pa.mp 2 (pc' := 17) (l' := [(0, .ref 69), (1, .int yf)]) (st' := [.int yf, .ref 69, .int (cosM yA yf)]) (by rfl) ?_
      refine Pa.inv (by rfl) (by rfl) (.inl rfl) (by rfl) ?_
      refine Pa.mono (c_audited N yA yf yhT) (fun yu A1 hu => ?_)
      obtain ⟨rfl, hu⟩ := hu
      rw [hu]
      show Pa N 245 20 [(0, .ref 69), (1, .int yf)] [.int (audM yA yf), .int (cosM yA yf)] yA _
      refine Pa.mp 3 (pc' := 23) (l' := [(2, .int ((cosM yA yf) - (audM yA yf))), (0, .ref 69), (1, .int yf)]) (st' := [.int ((cosM yA yf) - (audM yA yf))]) (by rfl) ?_
      refine Pa.if1 (a := ((cosM yA yf) - (audM yA yf)).toInt) (t := 29) (by rfl) (by rfl) (rfl) (fun h5 => ?_) (fun h6 => ?_)
      · have h5 : ((cosM yA yf) - (audM yA yf)).toInt ≠ 0 := h5
        refine Pa.mp 2 (pc' := 31) (l' := [(2, .int ((cosM yA yf) - (audM yA yf))), (0, .ref 69), (1, .int yf)]) (st' := [.ref 69, .ref 69]) (by rfl) ?_
        refine Pa.gfI (v := yA.1 69 1) (by rfl) (by rfl) (.inl rfl) (by rfl) (by rfl) ?_
        refine Pa.icl (x := 1103515245) (pc' := 37) (by rfl) (fun _ _ _ => by rfl) (by decide) ?_
        refine Pa.mp 1 (pc' := 38) (l' := [(2, .int ((cosM yA yf) - (audM yA yf))), (0, .ref 69), (1, .int yf)]) (st' := [.int ((yA.1 69 1) * 1103515245), .ref 69]) (by rfl) ?_
        refine Pa.ic (x := 12345) (pc' := 41) (by rfl) (by rfl) (by decide) ?_
        refine Pa.mp 1 (pc' := 42) (l' := [(2, .int ((cosM yA yf) - (audM yA yf))), (0, .ref 69), (1, .int yf)]) (st' := [.int (((yA.1 69 1) * 1103515245) + 12345), .ref 69]) (by rfl) ?_
        refine Pa.pfI (by rfl) (by rfl) (.inl rfl) (by rfl) ?_
        show Pa N 245 45 [(2, .int ((cosM yA yf) - (audM yA yf))), (0, .ref 69), (1, .int yf)] [] (uI yA 69 1 (((yA.1 69 1) * 1103515245) + 12345)) _
        refine Pa.mp 1 (pc' := 46) (l' := [(2, .int ((cosM yA yf) - (audM yA yf))), (0, .ref 69), (1, .int yf)]) (st' := [.ref 69]) (by rfl) ?_
        refine Pa.gfI (v := ((yA.1 69 1) * 1103515245) + 12345) (by rfl) (by rfl) (.inl rfl) (by rfl) (by show (uI yA 69 1 (((yA.1 69 1) * 1103515245) + 12345)).1 69 1 = ((yA.1 69 1) * 1103515245) + 12345; rw [uI_h]) ?_
        refine Pa.ic (x := 8) (pc' := 51) (by rfl) (by rfl) (by decide) ?_
        refine Pa.mp 2 (pc' := 53) (l' := [(2, .int ((cosM yA yf) - (audM yA yf))), (0, .ref 69), (1, .int yf)]) (st' := [.int ((cosM yA yf) - (audM yA yf)), .int (((((yA.1 69 1) * 1103515245) + 12345).toUInt32 >>> ((8 : Int32).toUInt32 &&& Int32.toUInt32 31)).toInt32)]) (by rfl) ?_
        refine Pa.irem (by rfl) ?_
        refine Pa.mp 1 (pc' := 55) (l' := [(3, .int ((((((yA.1 69 1) * 1103515245) + 12345).toUInt32 >>> ((8 : Int32).toUInt32 &&& Int32.toUInt32 31)).toInt32) - (((((yA.1 69 1) * 1103515245) + 12345).toUInt32 >>> ((8 : Int32).toUInt32 &&& Int32.toUInt32 31)).toInt32) / ((cosM yA yf) - (audM yA yf)) * ((cosM yA yf) - (audM yA yf)))), (2, .int ((cosM yA yf) - (audM yA yf))), (0, .ref 69), (1, .int yf)]) (st' := []) (by rfl) ?_
        refine Pa.ic (x := 0) (pc' := 56) (by rfl) (by rfl) (by decide) ?_
        refine Pa.mp 1 (pc' := 58) (l' := [(4, .int 0), (3, .int ((((((yA.1 69 1) * 1103515245) + 12345).toUInt32 >>> ((8 : Int32).toUInt32 &&& Int32.toUInt32 31)).toInt32) - (((((yA.1 69 1) * 1103515245) + 12345).toUInt32 >>> ((8 : Int32).toUInt32 &&& Int32.toUInt32 31)).toInt32) / ((cosM yA yf) - (audM yA yf)) * ((cosM yA yf) - (audM yA yf)))), (2, .int ((cosM yA yf) - (audM yA yf))), (0, .ref 69), (1, .int yf)]) (st' := []) (by rfl) ?_
        refine Pa.lv (l' := [(0, .ref 69), (1, .int yf), (2, .int ((cosM yA yf) - (audM yA yf))), (3, .int ((((((yA.1 69 1) * 1103515245) + 12345).toUInt32 >>> ((8 : Int32).toUInt32 &&& Int32.toUInt32 31)).toInt32) - (((((yA.1 69 1) * 1103515245) + 12345).toUInt32 >>> ((8 : Int32).toUInt32 &&& Int32.toUInt32 31)).toInt32) / ((cosM yA yf) - (audM yA yf)) * ((cosM yA yf) - (audM yA yf)))), (4, .int 0)]) (lvS_c rfl (lvS_c rfl (lvS_c rfl (lvS_c rfl (lvS_c rfl (lvS_nil)))))) rfl ?_
        exact l3 h2 h4 h5
      · have h6 : ((cosM yA yf) - (audM yA yf)).toInt = 0 := h6
        refine Pa.ic (x := (-4)) (pc' := 28) (by rfl) (by rfl) (by decide) ?_
        refine Pa.iret (by rfl) ?_
        exact l4 h2 h4 h6
theorem bm_dr1 {N : Nat} {yA : AW} {yQ : Option Value → AW → Prop} (yf ym yr yc yz : Int32)
    (l1 : 0 ≤ ((7 * yc) + 0).toInt → ((7 * yc) + 0).toInt < 1050 → (yA.1 90 (((7 * yc) + 0).toInt.toNat)).toInt ≠ yf.toInt → Pa N 245 58 [(0, .ref 69), (1, .int yf), (2, .int ym), (3, .int (yr - 0)), (4, .int (yc + 1))] [] (uI yA 69 1 yz) yQ)
    (l2 : 0 ≤ ((7 * yc) + 0).toInt → ((7 * yc) + 0).toInt < 1050 → (yA.1 90 (((7 * yc) + 0).toInt.toNat)).toInt = yf.toInt → 0 ≤ yc.toInt → yc.toInt < 150 → 0 ≤ (yA.1 93 yc.toInt.toNat).toInt → Pa N 245 58 [(0, .ref 69), (1, .int yf), (2, .int ym), (3, .int (yr - 0)), (4, .int (yc + 1))] [] (uI yA 69 1 yz) yQ)
    (l3 : 0 ≤ ((7 * yc) + 0).toInt → ((7 * yc) + 0).toInt < 1050 → (yA.1 90 (((7 * yc) + 0).toInt.toNat)).toInt = yf.toInt → 0 ≤ yc.toInt → yc.toInt < 150 → (yA.1 93 yc.toInt.toNat).toInt < 0 → yr.toInt ≤ 0 → yQ (some (.int yc)) (uI yA 69 1 yz))
    (l4 : 0 ≤ ((7 * yc) + 0).toInt → ((7 * yc) + 0).toInt < 1050 → (yA.1 90 (((7 * yc) + 0).toInt.toNat)).toInt = yf.toInt → 0 ≤ yc.toInt → yc.toInt < 150 → (yA.1 93 yc.toInt.toNat).toInt < 0 → 0 < yr.toInt → Pa N 245 58 [(0, .ref 69), (1, .int yf), (2, .int ym), (3, .int (yr - 1)), (4, .int (yc + 1))] [] (uI yA 69 1 yz) yQ) :
    Pa (N + 1) 245 58 [(0, .ref 69), (1, .int yf), (2, .int ym), (3, .int yr), (4, .int yc)] [] (uI yA 69 1 yz) yQ := by
  refine Pa.mp1 1 (pc' := 61) (l' := [(0, .ref 69), (1, .int yf), (2, .int ym), (3, .int yr), (4, .int yc)]) (st' := [.int yc, .ref 69]) (by rfl) ?_
  refine Pa.ic (x := 0) (pc' := 62) (by rfl) (by rfl) (by decide) ?_
  refine Pa.inv (by rfl) (by rfl) (.inl rfl) (by rfl) ?_
  show Pa N 181 0 [(0, .ref 69), (1, .int yc), (2, .int 0)] [] (uI yA 69 1 yz) _
  refine Pa.mp 1 (pc' := 1) (l' := [(0, .ref 69), (1, .int yc), (2, .int 0)]) (st' := [.ref 69]) (by rfl) ?_
  refine Pa.gfR (by rfl) (by rfl) (.inl rfl) (by rfl) ?_
  show Pa N 181 4 [(0, .ref 69), (1, .int yc), (2, .int 0)] [.ref 90] (uI yA 69 1 yz) _
  refine Pa.ic (x := 7) (pc' := 6) (by rfl) (by rfl) (by decide) ?_
  refine Pa.mp 4 (pc' := 10) (l' := [(0, .ref 69), (1, .int yc), (2, .int 0)]) (st' := [.int ((7 * yc) + 0), .ref 90]) (by rfl) ?_
  refine Pa.alds (v := yA.1 90 (((7 * yc) + 0).toInt.toNat)) (by rfl) (by rfl) (by show (uI yA 69 1 yz).1 90 (((7 * yc) + 0).toInt.toNat) = yA.1 90 (((7 * yc) + 0).toInt.toNat); rw [uI_c (by decide)]) (fun h1 h2 => ?_)
  have h1 : 0 ≤ ((7 * yc) + 0).toInt := h1
  have h2 : ((7 * yc) + 0).toInt < 1050 := h2
  refine Pa.iret (by rfl) ?_
  show Pa N 245 65 [(0, .ref 69), (1, .int yf), (2, .int ym), (3, .int yr), (4, .int yc)] [.int (yA.1 90 (((7 * yc) + 0).toInt.toNat))] (uI yA 69 1 yz) _
  refine Pa.mp 1 (pc' := 66) (l' := [(0, .ref 69), (1, .int yf), (2, .int ym), (3, .int yr), (4, .int yc)]) (st' := [.int yf, .int (yA.1 90 (((7 * yc) + 0).toInt.toNat))]) (by rfl) ?_
  refine Pa.if2 (a := (yA.1 90 (((7 * yc) + 0).toInt.toNat)).toInt) (b := yf.toInt) (t := 83) (by rfl) (by rfl) (rfl) (rfl) (fun h3 => ?_) (fun h4 => ?_)
  · have h3 : (yA.1 90 (((7 * yc) + 0).toInt.toNat)).toInt ≠ yf.toInt := h3
    refine Pa.mp 3 (pc' := 87) (l' := [(0, .ref 69), (1, .int yf), (2, .int ym), (3, .int yr), (4, .int yc)]) (st' := [.int yc, .ref 69, .int yr]) (by rfl) ?_
    refine Pa.ic (x := 0) (pc' := 88) (by rfl) (by rfl) (by decide) ?_
    refine Pa.inv (by rfl) (by rfl) (.inl rfl) (by rfl) ?_
    show Pa N 181 0 [(0, .ref 69), (1, .int yc), (2, .int 0)] [] (uI yA 69 1 yz) _
    refine Pa.mp 1 (pc' := 1) (l' := [(0, .ref 69), (1, .int yc), (2, .int 0)]) (st' := [.ref 69]) (by rfl) ?_
    refine Pa.gfR (by rfl) (by rfl) (.inl rfl) (by rfl) ?_
    show Pa N 181 4 [(0, .ref 69), (1, .int yc), (2, .int 0)] [.ref 90] (uI yA 69 1 yz) _
    refine Pa.ic (x := 7) (pc' := 6) (by rfl) (by rfl) (by decide) ?_
    refine Pa.mp 4 (pc' := 10) (l' := [(0, .ref 69), (1, .int yc), (2, .int 0)]) (st' := [.int ((7 * yc) + 0), .ref 90]) (by rfl) ?_
    refine Pa.alds (v := yA.1 90 (((7 * yc) + 0).toInt.toNat)) (by rfl) (by rfl) (by show (uI yA 69 1 yz).1 90 (((7 * yc) + 0).toInt.toNat) = yA.1 90 (((7 * yc) + 0).toInt.toNat); rw [uI_c (by decide)]) (fun h5 h6 => ?_)
    have h5 : 0 ≤ ((7 * yc) + 0).toInt := h5
    have h6 : ((7 * yc) + 0).toInt < 1050 := h6
    refine Pa.iret (by rfl) ?_
    show Pa N 245 91 [(0, .ref 69), (1, .int yf), (2, .int ym), (3, .int yr), (4, .int yc)] [.int (yA.1 90 (((7 * yc) + 0).toInt.toNat)), .int yr] (uI yA 69 1 yz) _
    refine Pa.mp 1 (pc' := 92) (l' := [(0, .ref 69), (1, .int yf), (2, .int ym), (3, .int yr), (4, .int yc)]) (st' := [.int yf, .int (yA.1 90 (((7 * yc) + 0).toInt.toNat)), .int yr]) (by rfl) ?_
    refine Pa.if2 (a := (yA.1 90 (((7 * yc) + 0).toInt.toNat)).toInt) (b := yf.toInt) (t := 109) (by rfl) (by rfl) (rfl) (rfl) (fun _ => ?_) (fun yh => (by exfalso; have h' : (yA.1 90 (((7 * yc) + 0).toInt.toNat)).toInt = yf.toInt := yh; omega))
    refine Pa.ic (x := 0) (pc' := 110) (by rfl) (by rfl) (by decide) ?_
    refine Pa.mp 2 (pc' := 112) (l' := [(3, .int (yr - 0)), (0, .ref 69), (1, .int yf), (2, .int ym), (4, .int yc)]) (st' := []) (by rfl) ?_
    refine Pa.iinc (x := yc) (c := 1) (v := (yc + 1)) (l' := [(4, .int (yc + 1)), (3, .int (yr - 0)), (0, .ref 69), (1, .int yf), (2, .int ym)]) (by rfl) (by rfl) (by decide) (by rfl) (by rfl) ?_
    refine Pa.mp 1 (pc' := 58) (l' := [(4, .int (yc + 1)), (3, .int (yr - 0)), (0, .ref 69), (1, .int yf), (2, .int ym)]) (st' := []) (by rfl) ?_
    refine Pa.lv (l' := [(0, .ref 69), (1, .int yf), (2, .int ym), (3, .int (yr - 0)), (4, .int (yc + 1))]) (lvS_c rfl (lvS_c rfl (lvS_c rfl (lvS_c rfl (lvS_c rfl (lvS_nil)))))) rfl ?_
    exact l1 h1 h2 h3
  · have h4 : (yA.1 90 (((7 * yc) + 0).toInt.toNat)).toInt = yf.toInt := h4
    refine Pa.mp 1 (pc' := 70) (l' := [(0, .ref 69), (1, .int yf), (2, .int ym), (3, .int yr), (4, .int yc)]) (st' := [.ref 69]) (by rfl) ?_
    refine Pa.gfR (by rfl) (by rfl) (.inl rfl) (by rfl) ?_
    show Pa N 245 73 [(0, .ref 69), (1, .int yf), (2, .int ym), (3, .int yr), (4, .int yc)] [.ref 93] (uI yA 69 1 yz) _
    refine Pa.mp 1 (pc' := 75) (l' := [(0, .ref 69), (1, .int yf), (2, .int ym), (3, .int yr), (4, .int yc)]) (st' := [.int yc, .ref 93]) (by rfl) ?_
    refine Pa.alds (v := yA.1 93 yc.toInt.toNat) (by rfl) (by rfl) (by show (uI yA 69 1 yz).1 93 yc.toInt.toNat = yA.1 93 yc.toInt.toNat; rw [uI_c (by decide)]) (fun h8 h9 => ?_)
    have h8 : 0 ≤ yc.toInt := h8
    have h9 : yc.toInt < 150 := h9
    refine Pa.if1 (a := (yA.1 93 yc.toInt.toNat).toInt) (t := 83) (by rfl) (by rfl) (rfl) (fun h10 => ?_) (fun h11 => ?_)
    · have h10 : 0 ≤ (yA.1 93 yc.toInt.toNat).toInt := h10
      refine Pa.mp 3 (pc' := 87) (l' := [(0, .ref 69), (1, .int yf), (2, .int ym), (3, .int yr), (4, .int yc)]) (st' := [.int yc, .ref 69, .int yr]) (by rfl) ?_
      refine Pa.ic (x := 0) (pc' := 88) (by rfl) (by rfl) (by decide) ?_
      refine Pa.inv (by rfl) (by rfl) (.inl rfl) (by rfl) ?_
      show Pa N 181 0 [(0, .ref 69), (1, .int yc), (2, .int 0)] [] (uI yA 69 1 yz) _
      refine Pa.mp 1 (pc' := 1) (l' := [(0, .ref 69), (1, .int yc), (2, .int 0)]) (st' := [.ref 69]) (by rfl) ?_
      refine Pa.gfR (by rfl) (by rfl) (.inl rfl) (by rfl) ?_
      show Pa N 181 4 [(0, .ref 69), (1, .int yc), (2, .int 0)] [.ref 90] (uI yA 69 1 yz) _
      refine Pa.ic (x := 7) (pc' := 6) (by rfl) (by rfl) (by decide) ?_
      refine Pa.mp 4 (pc' := 10) (l' := [(0, .ref 69), (1, .int yc), (2, .int 0)]) (st' := [.int ((7 * yc) + 0), .ref 90]) (by rfl) ?_
      refine Pa.alds (v := yA.1 90 (((7 * yc) + 0).toInt.toNat)) (by rfl) (by rfl) (by show (uI yA 69 1 yz).1 90 (((7 * yc) + 0).toInt.toNat) = yA.1 90 (((7 * yc) + 0).toInt.toNat); rw [uI_c (by decide)]) (fun h12 h13 => ?_)
      have h12 : 0 ≤ ((7 * yc) + 0).toInt := h12
      have h13 : ((7 * yc) + 0).toInt < 1050 := h13
      refine Pa.iret (by rfl) ?_
      show Pa N 245 91 [(0, .ref 69), (1, .int yf), (2, .int ym), (3, .int yr), (4, .int yc)] [.int (yA.1 90 (((7 * yc) + 0).toInt.toNat)), .int yr] (uI yA 69 1 yz) _
      refine Pa.mp 1 (pc' := 92) (l' := [(0, .ref 69), (1, .int yf), (2, .int ym), (3, .int yr), (4, .int yc)]) (st' := [.int yf, .int (yA.1 90 (((7 * yc) + 0).toInt.toNat)), .int yr]) (by rfl) ?_
      refine Pa.if2 (a := (yA.1 90 (((7 * yc) + 0).toInt.toNat)).toInt) (b := yf.toInt) (t := 109) (by rfl) (by rfl) (rfl) (rfl) (fun yh => (by exfalso; have h' : (yA.1 90 (((7 * yc) + 0).toInt.toNat)).toInt ≠ yf.toInt := yh; omega)) (fun _ => ?_)
      refine Pa.mp 1 (pc' := 96) (l' := [(0, .ref 69), (1, .int yf), (2, .int ym), (3, .int yr), (4, .int yc)]) (st' := [.ref 69, .int yr]) (by rfl) ?_
      refine Pa.gfR (by rfl) (by rfl) (.inl rfl) (by rfl) ?_
      show Pa N 245 99 [(0, .ref 69), (1, .int yf), (2, .int ym), (3, .int yr), (4, .int yc)] [.ref 93, .int yr] (uI yA 69 1 yz) _
      refine Pa.mp 1 (pc' := 101) (l' := [(0, .ref 69), (1, .int yf), (2, .int ym), (3, .int yr), (4, .int yc)]) (st' := [.int yc, .ref 93, .int yr]) (by rfl) ?_
      refine Pa.alds (v := yA.1 93 yc.toInt.toNat) (by rfl) (by rfl) (by show (uI yA 69 1 yz).1 93 yc.toInt.toNat = yA.1 93 yc.toInt.toNat; rw [uI_c (by decide)]) (fun h15 yh16 => ?_)
      have h15 : 0 ≤ yc.toInt := h15
      have yh16 : yc.toInt < 150 := yh16
      refine Pa.if1 (a := (yA.1 93 yc.toInt.toNat).toInt) (t := 109) (by rfl) (by rfl) (rfl) (fun _ => ?_) (fun yh => (by exfalso; have h' : (yA.1 93 yc.toInt.toNat).toInt < 0 := yh; omega))
      refine Pa.ic (x := 0) (pc' := 110) (by rfl) (by rfl) (by decide) ?_
      refine Pa.mp 2 (pc' := 112) (l' := [(3, .int (yr - 0)), (0, .ref 69), (1, .int yf), (2, .int ym), (4, .int yc)]) (st' := []) (by rfl) ?_
      refine Pa.iinc (x := yc) (c := 1) (v := (yc + 1)) (l' := [(4, .int (yc + 1)), (3, .int (yr - 0)), (0, .ref 69), (1, .int yf), (2, .int ym)]) (by rfl) (by rfl) (by decide) (by rfl) (by rfl) ?_
      refine Pa.mp 1 (pc' := 58) (l' := [(4, .int (yc + 1)), (3, .int (yr - 0)), (0, .ref 69), (1, .int yf), (2, .int ym)]) (st' := []) (by rfl) ?_
      refine Pa.lv (l' := [(0, .ref 69), (1, .int yf), (2, .int ym), (3, .int (yr - 0)), (4, .int (yc + 1))]) (lvS_c rfl (lvS_c rfl (lvS_c rfl (lvS_c rfl (lvS_c rfl (lvS_nil)))))) rfl ?_
      exact l2 h1 h2 h4 h8 h9 h10
    · have h11 : (yA.1 93 yc.toInt.toNat).toInt < 0 := h11
      refine Pa.mp 1 (pc' := 80) (l' := [(0, .ref 69), (1, .int yf), (2, .int ym), (3, .int yr), (4, .int yc)]) (st' := [.int yr]) (by rfl) ?_
      refine Pa.if1 (a := yr.toInt) (t := 118) (by rfl) (by rfl) (rfl) (fun h18 => ?_) (fun h19 => ?_)
      · have h18 : yr.toInt ≤ 0 := h18
        refine Pa.mp 1 (pc' := 120) (l' := [(0, .ref 69), (1, .int yf), (2, .int ym), (3, .int yr), (4, .int yc)]) (st' := [.int yc]) (by rfl) ?_
        refine Pa.iret (by rfl) ?_
        exact l3 h1 h2 h4 h8 h9 h11 h18
      · have h19 : 0 < yr.toInt := h19
        refine Pa.mp 3 (pc' := 87) (l' := [(0, .ref 69), (1, .int yf), (2, .int ym), (3, .int yr), (4, .int yc)]) (st' := [.int yc, .ref 69, .int yr]) (by rfl) ?_
        refine Pa.ic (x := 0) (pc' := 88) (by rfl) (by rfl) (by decide) ?_
        refine Pa.inv (by rfl) (by rfl) (.inl rfl) (by rfl) ?_
        show Pa N 181 0 [(0, .ref 69), (1, .int yc), (2, .int 0)] [] (uI yA 69 1 yz) _
        refine Pa.mp 1 (pc' := 1) (l' := [(0, .ref 69), (1, .int yc), (2, .int 0)]) (st' := [.ref 69]) (by rfl) ?_
        refine Pa.gfR (by rfl) (by rfl) (.inl rfl) (by rfl) ?_
        show Pa N 181 4 [(0, .ref 69), (1, .int yc), (2, .int 0)] [.ref 90] (uI yA 69 1 yz) _
        refine Pa.ic (x := 7) (pc' := 6) (by rfl) (by rfl) (by decide) ?_
        refine Pa.mp 4 (pc' := 10) (l' := [(0, .ref 69), (1, .int yc), (2, .int 0)]) (st' := [.int ((7 * yc) + 0), .ref 90]) (by rfl) ?_
        refine Pa.alds (v := yA.1 90 (((7 * yc) + 0).toInt.toNat)) (by rfl) (by rfl) (by show (uI yA 69 1 yz).1 90 (((7 * yc) + 0).toInt.toNat) = yA.1 90 (((7 * yc) + 0).toInt.toNat); rw [uI_c (by decide)]) (fun h20 h21 => ?_)
        have h20 : 0 ≤ ((7 * yc) + 0).toInt := h20
        have h21 : ((7 * yc) + 0).toInt < 1050 := h21
        refine Pa.iret (by rfl) ?_
        show Pa N 245 91 [(0, .ref 69), (1, .int yf), (2, .int ym), (3, .int yr), (4, .int yc)] [.int (yA.1 90 (((7 * yc) + 0).toInt.toNat)), .int yr] (uI yA 69 1 yz) _
        refine Pa.mp 1 (pc' := 92) (l' := [(0, .ref 69), (1, .int yf), (2, .int ym), (3, .int yr), (4, .int yc)]) (st' := [.int yf, .int (yA.1 90 (((7 * yc) + 0).toInt.toNat)), .int yr]) (by rfl) ?_
        refine Pa.if2 (a := (yA.1 90 (((7 * yc) + 0).toInt.toNat)).toInt) (b := yf.toInt) (t := 109) (by rfl) (by rfl) (rfl) (rfl) (fun yh => (by exfalso; have h' : (yA.1 90 (((7 * yc) + 0).toInt.toNat)).toInt ≠ yf.toInt := yh; omega)) (fun _ => ?_)
        refine Pa.mp 1 (pc' := 96) (l' := [(0, .ref 69), (1, .int yf), (2, .int ym), (3, .int yr), (4, .int yc)]) (st' := [.ref 69, .int yr]) (by rfl) ?_
        refine Pa.gfR (by rfl) (by rfl) (.inl rfl) (by rfl) ?_
        show Pa N 245 99 [(0, .ref 69), (1, .int yf), (2, .int ym), (3, .int yr), (4, .int yc)] [.ref 93, .int yr] (uI yA 69 1 yz) _
        refine Pa.mp 1 (pc' := 101) (l' := [(0, .ref 69), (1, .int yf), (2, .int ym), (3, .int yr), (4, .int yc)]) (st' := [.int yc, .ref 93, .int yr]) (by rfl) ?_
        refine Pa.alds (v := yA.1 93 yc.toInt.toNat) (by rfl) (by rfl) (by show (uI yA 69 1 yz).1 93 yc.toInt.toNat = yA.1 93 yc.toInt.toNat; rw [uI_c (by decide)]) (fun h23 h24 => ?_)
        have h23 : 0 ≤ yc.toInt := h23
        have h24 : yc.toInt < 150 := h24
        refine Pa.if1 (a := (yA.1 93 yc.toInt.toNat).toInt) (t := 109) (by rfl) (by rfl) (rfl) (fun yh => (by exfalso; have h' : 0 ≤ (yA.1 93 yc.toInt.toNat).toInt := yh; omega)) (fun _ => ?_)
        refine Pa.ic (x := 1) (pc' := 106) (by rfl) (by rfl) (by decide) ?_
        refine Pa.mp 3 (pc' := 112) (l' := [(3, .int (yr - 1)), (0, .ref 69), (1, .int yf), (2, .int ym), (4, .int yc)]) (st' := []) (by rfl) ?_
        refine Pa.iinc (x := yc) (c := 1) (v := (yc + 1)) (l' := [(4, .int (yc + 1)), (3, .int (yr - 1)), (0, .ref 69), (1, .int yf), (2, .int ym)]) (by rfl) (by rfl) (by decide) (by rfl) (by rfl) ?_
        refine Pa.mp 1 (pc' := 58) (l' := [(4, .int (yc + 1)), (3, .int (yr - 1)), (0, .ref 69), (1, .int yf), (2, .int ym)]) (st' := []) (by rfl) ?_
        refine Pa.lv (l' := [(0, .ref 69), (1, .int yf), (2, .int ym), (3, .int (yr - 1)), (4, .int (yc + 1))]) (lvS_c rfl (lvS_c rfl (lvS_c rfl (lvS_c rfl (lvS_c rfl (lvS_nil)))))) rfl ?_
        exact l4 h1 h2 h4 h8 h9 h11 h19
theorem c_dr3 (yA : AW) (yf ym yz : Int32) (yr : Nat) : ∀ N yn (yi : Int32), yn ≤ 150 → yi.toInt + (dr_cnt (opnD yA yf) yn : Int) = (yr : Int) → 0 ≤ yi.toInt → yr ≤ 150 → Pa N 245 58 [(0, .ref 69), (1, .int yf), (2, .int ym), (3, .int yi), (4, .int (Int32.ofNat yn))] [] (uI yA 69 1 yz) (fun yu A1 => ∃ yx, yu = some (.int yx) ∧ drwX yA yf yz yr 69 1 yx A1) := by
  intro N
  induction N with
  | zero => intro yn yi _ _ _ _; exact Pa.zero
  | succ N yih =>
    intro yn yi hn yhi h0 hr
    have ye1 : (Int32.ofNat yn).toInt = (yn : Int) := i32_nat (by omega)
    by_cases hx : yn = 150
    · subst hx
      refine bm_dr1 yf ym yi _ yz ?_ ?_ ?_ ?_
      · intro h1 h2; exact absurd h2 (by decide)
      · intro h1 h2; exact absurd h2 (by decide)
      · intro h1 h2; exact absurd h2 (by decide)
      · intro h1 h2; exact absurd h2 (by decide)
    · have yi0 : ((7 * Int32.ofNat yn) + 0).toInt.toNat = 7 * yn := (i7n (T := Int32.ofNat yn) (yi := 0) (yt := yn) (yq := 0) (by omega) (by omega) (by omega) (by decide) (by decide) (by decide)).trans (Nat.add_zero _)
      refine bm_dr1 yf ym yi _ yz ?_ ?_ ?_ ?_ <;> rw [yi0] <;> (try rw [ye1]) <;> (try rw [Int.toNat_natCast])
      · intro h1 h2 h3
        have no : ¬ opnD yA yf yn = true := fun yq => h3 (by rw [(opn_iff.mp yq).1])
        have yh := yih (yn + 1) yi (by omega) (by rw [dc_0 no]; exact yhi) h0 hr
        rw [on_succ] at yh
        rw [Int32.sub_zero]
        exact yh
      · intro h1 h2 h3 h4 h5 h6
        have no : ¬ opnD yA yf yn = true := fun yq => by have := (opn_iff.mp yq).2; omega
        have yh := yih (yn + 1) yi (by omega) (by rw [dc_0 no]; exact yhi) h0 hr
        rw [on_succ] at yh
        rw [Int32.sub_zero]
        exact yh
      · intro h1 h2 h3 h4 h5 h6 h7
        have yyes : opnD yA yf yn = true := opn_iff.mpr ⟨i32_ext h3, h6⟩
        exact ⟨_, rfl, yn, ⟨by omega, yyes, by omega⟩, rfl, rfl⟩
      · intro h1 h2 h3 h4 h5 h6 h7
        have yyes : opnD yA yf yn = true := opn_iff.mpr ⟨i32_ext h3, h6⟩
        have ye2 := dc_1 yyes
        have ye3 : (yi - 1).toInt = yi.toInt - 1 := i_subx (by rw [show (1 : Int32).toInt = 1 from by decide]) (by omega) (by omega)
        have yh := yih (yn + 1) (yi - 1) (by omega) (by rw [ye3, ye2]; omega) (by omega) hr
        rw [on_succ] at yh
        exact yh
theorem bx_draw {N : Nat} {yA : AW} {yQ : Option Value → AW → Prop} (yf : Int32) (hX : RZc yA) (yf5 : yA.1 30 4 = yA.1 69 31) (yhT : (yA.1 69 31).toInt ≤ 150)
    (l1 : yf.toInt < 0 → yQ (some (.int (-1))) yA)
    (l2 : 0 ≤ yf.toInt → (yA.1 5 6).toInt ≤ yf.toInt → yQ (some (.int (-1))) yA)
    (l3 : 0 ≤ yf.toInt → yf.toInt < (yA.1 5 6).toInt → ∀ A1, ∀ r2, drawX yA yf r2 A1 → yQ (some (.int r2)) A1) :
    Pa N 138 0 [(0, .ref 0), (1, .int yf)] [] yA yQ := by
  refine Pa.mp 1 (pc' := 1) (l' := [(0, .ref 0), (1, .int yf)]) (st' := [.ref 0]) (by rfl) ?_
  refine Pa.gfR (by rfl) (by rfl) (.inl rfl) (by rfl) ?_
  show Pa N 138 4 [(0, .ref 0), (1, .int yf)] [.ref 5] yA _
  refine Pa.mp 1 (pc' := 5) (l' := [(0, .ref 0), (1, .int yf)]) (st' := [.int yf, .ref 5]) (by rfl) ?_
  refine Pa.inv (by rfl) (by rfl) (.inr rfl) (by rfl) ?_
  show Pa N 41 0 [(0, .ref 5), (1, .int yf)] [] yA _
  refine Pa.mp 1 (pc' := 1) (l' := [(0, .ref 5), (1, .int yf)]) (st' := [.int yf]) (by rfl) ?_
  refine Pa.if1 (a := yf.toInt) (t := 16) (by rfl) (by rfl) (rfl) (fun h1 => ?_) (fun h2 => ?_)
  · have h1 : yf.toInt < 0 := h1
    refine Pa.ic (x := 0) (pc' := 17) (by rfl) (by rfl) (by decide) ?_
    refine Pa.iret (by rfl) ?_
    show Pa N 138 8 [(0, .ref 0), (1, .int yf)] [.int 0] yA _
    refine Pa.if1k false (by rfl) (by rfl) (by decide) ?_
    show Pa N 138 11 [(0, .ref 0), (1, .int yf)] [] yA _
    refine Pa.ic (x := (-1)) (pc' := 12) (by rfl) (by rfl) (by decide) ?_
    refine Pa.iret (by rfl) ?_
    exact l1 h1
  · have h2 : 0 ≤ yf.toInt := h2
    refine Pa.mp 2 (pc' := 6) (l' := [(0, .ref 5), (1, .int yf)]) (st' := [.ref 5, .int yf]) (by rfl) ?_
    refine Pa.gfI (v := yA.1 5 6) (by rfl) (by rfl) (.inl rfl) (by rfl) (by rfl) ?_
    refine Pa.if2 (a := yf.toInt) (b := (yA.1 5 6).toInt) (t := 16) (by rfl) (by rfl) (rfl) (rfl) (fun h3 => ?_) (fun h4 => ?_)
    · have h3 : (yA.1 5 6).toInt ≤ yf.toInt := h3
      refine Pa.ic (x := 0) (pc' := 17) (by rfl) (by rfl) (by decide) ?_
      refine Pa.iret (by rfl) ?_
      show Pa N 138 8 [(0, .ref 0), (1, .int yf)] [.int 0] yA _
      refine Pa.if1k false (by rfl) (by rfl) (by decide) ?_
      show Pa N 138 11 [(0, .ref 0), (1, .int yf)] [] yA _
      refine Pa.ic (x := (-1)) (pc' := 12) (by rfl) (by rfl) (by decide) ?_
      refine Pa.iret (by rfl) ?_
      exact l2 h2 h3
    · have h4 : yf.toInt < (yA.1 5 6).toInt := h4
      refine Pa.ic (x := 1) (pc' := 13) (by rfl) (by rfl) (by decide) ?_
      refine Pa.mp 1 (pc' := 17) (l' := [(0, .ref 5), (1, .int yf)]) (st' := [.int 1]) (by rfl) ?_
      refine Pa.iret (by rfl) ?_
      show Pa N 138 8 [(0, .ref 0), (1, .int yf)] [.int 1] yA _
      refine Pa.if1k true (by rfl) (by rfl) (by decide) ?_
      show Pa N 138 13 [(0, .ref 0), (1, .int yf)] [] yA _
      refine Pa.mp 1 (pc' := 14) (l' := [(0, .ref 0), (1, .int yf)]) (st' := [.ref 0]) (by rfl) ?_
      refine Pa.gfR (by rfl) (by rfl) (.inl rfl) (by rfl) ?_
      show Pa N 138 17 [(0, .ref 0), (1, .int yf)] [.ref 30] yA _
      refine Pa.mp 1 (pc' := 18) (l' := [(0, .ref 0), (1, .int yf)]) (st' := [.int yf, .ref 30]) (by rfl) ?_
      refine Pa.inv (by rfl) (by rfl) (.inr rfl) (by rfl) ?_
      refine Pa.mono (c_drawOf N yA yf hX yf5 yhT) (fun yu A1 hu => ?_)
      obtain ⟨r2, rfl, h5⟩ := hu
      show Pa N 138 21 [(0, .ref 0), (1, .int yf)] [.int r2] A1 _
      refine Pa.iret (by rfl) ?_
      exact l3 h2 h4 A1 r2 h5
theorem bx_lots {N : Nat} {yA : AW} {yQ : Option Value → AW → Prop} (yv : Int32)
    (l1 : yQ (some (.int 1)) (uI yA 30 7 yv)) :
    Pa N 137 0 [(0, .ref 0), (1, .int yv)] [] yA yQ := by
  refine Pa.mp 1 (pc' := 1) (l' := [(0, .ref 0), (1, .int yv)]) (st' := [.ref 0]) (by rfl) ?_
  refine Pa.gfR (by rfl) (by rfl) (.inl rfl) (by rfl) ?_
  show Pa N 137 4 [(0, .ref 0), (1, .int yv)] [.ref 30] yA _
  refine Pa.mp 1 (pc' := 5) (l' := [(0, .ref 0), (1, .int yv)]) (st' := [.int yv, .ref 30]) (by rfl) ?_
  refine Pa.pfI (by rfl) (by rfl) (.inr rfl) (by rfl) ?_
  show Pa N 137 8 [(0, .ref 0), (1, .int yv)] [] (uI yA 30 7 yv) _
  refine Pa.ic (x := 1) (pc' := 9) (by rfl) (by rfl) (by decide) ?_
  refine Pa.iret (by rfl) ?_
  exact l1
theorem bm_lots {N : Nat} {yA : AW} {yQ : Option Value → AW → Prop} (yv : Int32)
    (l1 : yQ (some (.int 1)) (uI yA 69 1 yv)) :
    Pa N 243 0 [(0, .ref 69), (1, .int yv)] [] yA yQ := by
  refine Pa.mp 2 (pc' := 2) (l' := [(0, .ref 69), (1, .int yv)]) (st' := [.int yv, .ref 69]) (by rfl) ?_
  refine Pa.pfI (by rfl) (by rfl) (.inl rfl) (by rfl) ?_
  show Pa N 243 5 [(0, .ref 69), (1, .int yv)] [] (uI yA 69 1 yv) _
  refine Pa.ic (x := 1) (pc' := 6) (by rfl) (by rfl) (by decide) ?_
  refine Pa.iret (by rfl) ?_
  exact l1
def fOk (yF yf : Int32) : Prop := 0 ≤ yf.toInt ∧ yf.toInt < yF.toInt
def dDraw (yf : Int32) (yA : AW) (yu : Option Value) (A1 : AW) : Prop := (¬ fOk (yA.1 5 6) yf ∧ yu = some (.int (-1)) ∧ A1 = yA) ∨ (fOk (yA.1 5 6) yf ∧ ∃ yx, yu = some (.int yx) ∧ drawX yA yf yx A1)
theorem d_draw (N : Nat) (yA : AW) (yf : Int32) (hX : RZc yA) (yf5 : yA.1 30 4 = yA.1 69 31) (yhT : (yA.1 69 31).toInt ≤ 150) : Pa N 138 0 [(0, .ref 0), (1, .int yf)] [] yA (dDraw yf yA) := by
  refine bx_draw yf hX yf5 yhT ?_ ?_ ?_
  · intro h1
    exact .inl ⟨by unfold fOk; omega, rfl, rfl⟩
  · intro h1 h2
    exact .inl ⟨by unfold fOk; omega, rfl, rfl⟩
  · intro h1 h2 A1 yx h3
    exact .inr ⟨⟨h1, h2⟩, yx, rfl, h3⟩
def eDraw (yf : Int32) (yA : AW) (yu : Option Value) (A1 : AW) : Prop := (¬ fOk (yA.1 69 11) yf ∧ yu = some (.int (-1)) ∧ A1 = yA) ∨ (fOk (yA.1 69 11) yf ∧ ((dr_cnt (opnD yA yf) (cT yA) = 0 ∧ yu = some (.int (-4)) ∧ A1 = yA) ∨ (dr_cnt (opnD yA yf) (cT yA) ≠ 0 ∧ ∃ yx, yu = some (.int yx) ∧ drwX yA yf (drZ (yA.1 69 1)) (drR (drZ (yA.1 69 1)) (Int32.ofNat (dr_cnt (opnD yA yf) (cT yA)))).toInt.toNat 69 1 yx A1)))
theorem e_draw (N : Nat) (yA : AW) (yf : Int32) (yhT : (yA.1 69 31).toInt ≤ 150) : Pa N 245 0 [(0, .ref 69), (1, .int yf)] [] yA (eDraw yf yA) := by
  have hT0 : cT yA ≤ 150 := by unfold cT; omega
  have hl := dr_cnt_le (opnD yA yf) (cT yA)
  have em : (Int32.ofNat (dr_cnt (opnD yA yf) (cT yA))).toInt = (dr_cnt (opnD yA yf) (cT yA) : Int) := i32_nat (by omega)
  refine bm_dr0 yf yhT ?_ ?_ ?_ ?_
  · intro h1
    exact .inl ⟨by unfold fOk; omega, rfl, rfl⟩
  · intro h1 h2
    exact .inl ⟨by unfold fOk; omega, rfl, rfl⟩
  · intro h1 h2
    rw [cos_aud h1 yhT]
    intro h3
    rw [em] at h3
    have hz : dr_cnt (opnD yA yf) (cT yA) ≠ 0 := by omega
    obtain ⟨yr1, r2⟩ := drR_lt (yz := drZ (yA.1 69 1)) hz (by omega)
    refine Pa.mono (c_dr3 yA yf (Int32.ofNat (dr_cnt (opnD yA yf) (cT yA))) (drZ (yA.1 69 1)) (drR (drZ (yA.1 69 1)) (Int32.ofNat (dr_cnt (opnD yA yf) (cT yA)))).toInt.toNat N 0 (drR (drZ (yA.1 69 1)) (Int32.ofNat (dr_cnt (opnD yA yf) (cT yA)))) (Nat.zero_le _) (by show _ + (0 : Int) = _; omega) yr1 (by omega)) (fun yu A1 hu => ?_)
    exact .inr ⟨⟨h1, h2⟩, .inr ⟨hz, hu⟩⟩
  · intro h1 h2
    rw [cos_aud h1 yhT]
    intro h3
    rw [em] at h3
    exact .inr ⟨⟨h1, h2⟩, .inl ⟨by omega, rfl, rfl⟩⟩
def RX42 (yA : AW) : Prop := yA.1 30 7 = yA.1 69 1
def S42 : zSu := ([(30, 7), (69, 1)], [])
theorem RX42_s (yA yB : AW) (yh : AgS S42 yA yB) (hX : RX42 yA) : RX42 yB := by
  unfold RX42 at hX ⊢
  rw [← yh.1 (30, 7) (by simp [S42]), ← yh.1 (69, 1) (by simp [S42])]
  exact hX
def RXd (yA : AW) : Prop := RZc yA ∧ RX42 yA
def kRd (ywr : zWr) : Bool := kRc ywr && kpS S42 ywr
theorem keepD : Keeps RXd kRd := Keeps.and RZc_keep (Keeps.of RX42_s)
theorem opn_w {yA : AW} {yf yz : Int32} : opnD (uI yA 30 7 yz) yf = opnD yA yf := by
  unfold opnD
  rw [show (uI yA 30 7 yz).1 90 = yA.1 90 from funext fun yj => uI_c (by decide), show (uI yA 30 7 yz).1 93 = yA.1 93 from funext fun yj => uI_c (by decide)]
theorem cT_w {yA : AW} {yz : Int32} : cT (uI yA 30 7 yz) = cT yA := by
  unfold cT
  rw [uI_c (by decide)]
theorem hit_w {yA : AW} {yf yz : Int32} {yr yh : Nat} (yq : hitD (uI yA 30 7 yz) yf yr yh) : hitD yA yf yr yh := by
  unfold hitD at yq ⊢
  rw [opn_w] at yq
  exact yq
theorem k_draw {yA A1 A2 : AW} {yf yx yy : Int32} (hF : eqF Fc yA) (hZ : RX42 yA) (ys1 : dDraw yf yA (some (.int yx)) A1) (ys2 : eDraw yf A1 (some (.int yy)) A2) : RX42 A2 ∧ yx = yy := by
  have yf6 : yA.1 5 6 = yA.1 69 11 := hF ((5, 6), (69, 11)) (by simp [Fc])
  unfold RX42 at hZ ⊢
  rcases ys1 with ⟨ya1, a2, rfl⟩ | ⟨ya1, yx1, a2, a3⟩
  · rw [yf6] at ya1
    rcases ys2 with ⟨b1, b2, rfl⟩ | ⟨b1, -⟩
    · exact ⟨hZ, by rw [some_int a2, some_int b2]⟩
    · exact absurd b1 ya1
  · cases some_int a2
    rw [yf6] at ya1
    rcases a3 with ⟨yc1, rfl, rfl⟩ | ⟨yc1, yh, yc2, rfl, rfl⟩
    · rcases ys2 with ⟨b1, b2, rfl⟩ | ⟨b1, ⟨b2, b3, rfl⟩ | ⟨b2, b3⟩⟩
      · exact absurd ya1 b1
      · exact ⟨hZ, (some_int b3).symm⟩
      · exact absurd yc1 b2
    · unfold eDraw at ys2
      rw [opn_w, cT_w, show (uI yA 30 7 (drZ (yA.1 30 7))).1 69 11 = yA.1 69 11 from uI_c (by decide), show (uI yA 30 7 (drZ (yA.1 30 7))).1 69 1 = yA.1 69 1 from uI_c (by decide), ← hZ] at ys2
      rcases ys2 with ⟨b1, b2, -⟩ | ⟨b1, ⟨b2, b3, -⟩ | ⟨b2, y1, b3, yg, b4, b5, rfl⟩⟩
      · exact absurd ya1 b1
      · exact absurd b2 yc1
      · refine ⟨?_, ?_⟩
        · rw [uI_h, uI_c (by decide), uI_h]
        · rw [some_int b3, b5, hit_one yc2 (hit_w b4)]
theorem h_draw {yp : zPr} (hp : yp.1 = 138 ∧ yp.2.1 = 245 ∧ yp.2.2.1 = 1) (yhc : c_rm yp = true) (yq1 : (ri_wr zZ Fc Arc (c_get1 yp.1 0 yp.2.2.1).2.2.2 && kRc (c_get1 yp.1 0 yp.2.2.1).2.2.2) = true) (yq2 : (ri_wr zZ Fc Arc (c_get1 yp.2.1 69 yp.2.2.1).2.2.2 && kRc (c_get1 yp.2.1 69 yp.2.2.1).2.2.2) = true) : PairOK (RR Fc Arc RXd) yp := by
  obtain ⟨yp1, yp2, yp3⟩ := hp
  refine pairG (RX := RZc) (R2 := RX42) (D := on1 dDraw) (E := on1 eDraw) (by decide +kernel) (by decide +kernel) yhc RZc_keep yq1 yq2 (fun N yA yas hA hF _ hX hl => ?_) (fun N yA yas hA _ _ _ hl => ?_) (fun yA A1 A2 yas yx yy _ _ _ hF _ _ hZ _ _ _ hl ys1 ys2 => ?_)
  · rw [yp3] at hl
    obtain ⟨ya, rfl⟩ := as1 hl
    rw [yp1]
    exact d_draw N yA ya hX (hF ((30, 4), (69, 31)) (by simp [Fc])) (hA.fld (i := 69) (k := 31) (lo := 0) (hi := 150) (by decide +kernel)).2
  · rw [yp3] at hl
    obtain ⟨ya, rfl⟩ := as1 hl
    rw [yp2]
    exact e_draw N yA ya (hA.fld (i := 69) (k := 31) (lo := 0) (hi := 150) (by decide +kernel)).2
  · rw [yp3] at hl
    obtain ⟨ya, rfl⟩ := as1 hl
    obtain ⟨yr1, r2⟩ := k_draw hF hZ ys1 ys2
    exact ⟨yr1, fun _ => r2⟩
def dLots (yv : Int32) (yA : AW) (yu : Option Value) (A1 : AW) : Prop := yu = some (.int 1) ∧ A1 = uI yA 30 7 yv
def eLots (yv : Int32) (yA : AW) (yu : Option Value) (A1 : AW) : Prop := yu = some (.int 1) ∧ A1 = uI yA 69 1 yv
theorem h_lots {yp : zPr} (hp : yp.1 = 137 ∧ yp.2.1 = 243 ∧ yp.2.2.1 = 1) (yhc : c_rm yp = true) (yq1 : (ri_wr zZ Fc Arc (c_get1 yp.1 0 yp.2.2.1).2.2.2 && kRc (c_get1 yp.1 0 yp.2.2.1).2.2.2) = true) (yq2 : (ri_wr zZ Fc Arc (c_get1 yp.2.1 69 yp.2.2.1).2.2.2 && kRc (c_get1 yp.2.1 69 yp.2.2.1).2.2.2) = true) : PairOK (RR Fc Arc RXd) yp := by
  obtain ⟨yp1, yp2, yp3⟩ := hp
  refine pairG (RX := RZc) (R2 := RX42) (D := on1 dLots) (E := on1 eLots) (by decide +kernel) (by decide +kernel) yhc RZc_keep yq1 yq2 (fun N yA yas _ _ _ _ hl => ?_) (fun N yA yas _ _ _ _ hl => ?_) (fun yA A1 A2 yas yx yy _ _ _ _ _ _ _ _ _ _ hl ys1 ys2 => ?_)
  · rw [yp3] at hl
    obtain ⟨ya, rfl⟩ := as1 hl
    rw [yp1]
    exact bx_lots ya ⟨rfl, rfl⟩
  · rw [yp3] at hl
    obtain ⟨ya, rfl⟩ := as1 hl
    rw [yp2]
    exact bm_lots ya ⟨rfl, rfl⟩
  · rw [yp3] at hl
    obtain ⟨ya, rfl⟩ := as1 hl
    obtain ⟨ya1, rfl⟩ := ys1
    obtain ⟨b1, rfl⟩ := ys2
    refine ⟨?_, fun _ => by rw [some_int ya1, some_int b1]⟩
    show (uI (uI yA 30 7 ya) 69 1 ya).1 30 7 = (uI (uI yA 30 7 ya) 69 1 ya).1 69 1
    rw [uI_h, uI_c (by decide), uI_h]
