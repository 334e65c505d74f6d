/-! PAIRS OVER COSTS, POINTS AND TEXTS TOGETHER -/
theorem PairOK.exr {yF1 F2 : zRF} {A1 A2 : zRA} {R1 R2 : AW → Prop} {yk1 : zWr → Bool} {yp : zPr} (yh : PairOK (RR F2 A2 R2) yp) (yhc : c_rm yp = true) (hs : Keeps R1 yk1) (yq1 : (ri_wr zZ yF1 A1 (c_get1 yp.1 0 yp.2.2.1).2.2.2 && yk1 (c_get1 yp.1 0 yp.2.2.1).2.2.2) = true) (yq2 : (ri_wr zZ yF1 A1 (c_get1 yp.2.1 69 yp.2.2.1).2.2.2 && yk1 (c_get1 yp.2.1 69 yp.2.2.1).2.2.2) = true) : PairOK (RR (yF1 ++ F2) (A1 ++ A2) (fun yA => R1 yA ∧ R2 yA)) yp :=
  (PairOK.fr (k2 := fun ywr => ri_wr zZ yF1 A1 ywr && yk1 ywr) yh yhc (fun ywr yw yw1 ya yb yc ye yf => kpRR hs ywr yw yw1 ya yb yc ye yf) yq1 yq2).cong (fun yw => ⟨fun yq => RR_app.mpr ⟨yq.2, yq.1⟩, fun yq => ⟨(RR_app.mp yq).2, (RR_app.mp yq).1⟩⟩)
def Fe : zRF := Fc ++ (F14 ++ Ft)
def Are : zRA := Arc ++ ([] ++ Art)
def RXe0 (yA : AW) : Prop := RZl yA ∧ (RX14 yA ∧ RXt yA)
def RXe (yA : AW) : Prop := RXe0 yA ∧ R24 yA
def kR2 (ywr : zWr) : Bool := kpS S14 ywr && kRt ywr
def kRe0 (ywr : zWr) : Bool := kRl ywr && kR2 ywr
def kRe (ywr : zWr) : Bool := kRe0 ywr && kpS S24 ywr
theorem keep2 : Keeps (fun yA => RX14 yA ∧ RXt yA) kR2 := Keeps.and (Keeps.of RX14_s) RXt_keep
theorem keepE0 : Keeps RXe0 kRe0 := Keeps.and keepL keep2
theorem keepE : Keeps RXe kRe := Keeps.and keepE0 (Keeps.of R24_s)
def wX (yp : zPr) : zWr := (c_get1 yp.1 0 yp.2.2.1).2.2.2
def wM (yp : zPr) : zWr := (c_get1 yp.2.1 69 yp.2.2.1).2.2.2
theorem up1 {yp : zPr} (yh : PairOK (RR Fc Arc RZl) yp) (yhc : c_rm yp = true) (ya1 : (ri_wr zZ (F14 ++ Ft) ([] ++ Art) (wX yp) && kR2 (wX yp)) = true) (a2 : (ri_wr zZ (F14 ++ Ft) ([] ++ Art) (wM yp) && kR2 (wM yp)) = true) (b1 : kpS S24 (wX yp) = true) (b2 : kpS S24 (wM yp) = true) : PairOK (RR Fe Are RXe) yp :=
  PairOK.ex0 (PairOK.ext (F1 := Fc) (F2 := F14 ++ Ft) (A1 := Arc) (A2 := [] ++ Art) yh yhc keep2 ya1 a2) yhc (Keeps.of R24_s) b1 b2
theorem up2 {yp : zPr} (yh : PairOK (RR F14 [] RX14) yp) (yhc : c_rm yp = true) (ya1 : (ri_wr zZ Ft Art (wX yp) && kRt (wX yp)) = true) (a2 : (ri_wr zZ Ft Art (wM yp) && kRt (wM yp)) = true) (yc1 : (ri_wr zZ Fc Arc (wX yp) && kRl (wX yp)) = true) (yc2 : (ri_wr zZ Fc Arc (wM yp) && kRl (wM yp)) = true) (b1 : kpS S24 (wX yp) = true) (b2 : kpS S24 (wM yp) = true) : PairOK (RR Fe Are RXe) yp :=
  PairOK.ex0 (PairOK.exr (yF1 := Fc) (F2 := F14 ++ Ft) (A1 := Arc) (A2 := [] ++ Art) (PairOK.ext (F1 := F14) (F2 := Ft) (A1 := []) (A2 := Art) yh yhc RXt_keep ya1 a2) yhc keepL yc1 yc2) yhc (Keeps.of R24_s) b1 b2
theorem up3 {yp : zPr} (yh : PairOK (RR Ft Art RXt) yp) (yhc : c_rm yp = true) (ya1 : (ri_wr zZ F14 [] (wX yp) && kpS S14 (wX yp)) = true) (a2 : (ri_wr zZ F14 [] (wM yp) && kpS S14 (wM yp)) = true) (yc1 : (ri_wr zZ Fc Arc (wX yp) && kRl (wX yp)) = true) (yc2 : (ri_wr zZ Fc Arc (wM yp) && kRl (wM yp)) = true) (b1 : kpS S24 (wX yp) = true) (b2 : kpS S24 (wM yp) = true) : PairOK (RR Fe Are RXe) yp :=
  PairOK.ex0 (PairOK.exr (yF1 := Fc) (F2 := F14 ++ Ft) (A1 := Arc) (A2 := [] ++ Art) (PairOK.exr (yF1 := F14) (F2 := Ft) (A1 := []) (A2 := Art) yh yhc (Keeps.of RX14_s) ya1 a2) yhc keepL yc1 yc2) yhc (Keeps.of R24_s) b1 b2
/-! LAW -/
def okLw (yF l yf yd yk yu : Int32) : Prop := 0 ≤ l.toInt ∧ l.toInt ≤ 5 ∧ 0 ≤ yf.toInt ∧ yf.toInt < yF.toInt ∧ 0 ≤ yd.toInt ∧ yd.toInt ≤ 3599 ∧ 0 ≤ yk.toInt ∧ yk.toInt ≤ 3599 ∧ 1 ≤ yu.toInt ∧ yu.toInt ≤ 3
def dLaw (l yf yd yk yu : Int32) (yA : AW) (yv : Option Value) (A1 : AW) : Prop := (¬ okLw (yA.1 5 6) l yf yd yk yu ∧ yv = some (.int (-1)) ∧ A1 = yA) ∨ (okLw (yA.1 5 6) l yf yd yk yu ∧ lwP yA yu l yf yd yk yv A1)
def eLaw (l yf yd yk yu : Int32) (yA : AW) (yv : Option Value) (A1 : AW) : Prop := (¬ okLw (yA.1 69 11) l yf yd yk yu ∧ yv = some (.int (-1))) ∨ (okLw (yA.1 69 11) l yf yd yk yu ∧ lmP yA yu l yf yd yk yv A1)
theorem bx_law {N : Nat} {yA : AW} {yQ : Option Value → AW → Prop} (l yf yd yk us : Int32)
    (l1 : l.toInt < 0 → yQ (some (.int (-1))) yA)
    (l2 : 0 ≤ l.toInt → 5 < l.toInt → yQ (some (.int (-1))) yA)
    (l3 : 0 ≤ l.toInt → l.toInt ≤ 5 → yf.toInt < 0 → yQ (some (.int (-1))) yA)
    (l4 : 0 ≤ l.toInt → l.toInt ≤ 5 → 0 ≤ yf.toInt → (yA.1 5 6).toInt ≤ yf.toInt → yQ (some (.int (-1))) yA)
    (l5 : 0 ≤ l.toInt → l.toInt ≤ 5 → 0 ≤ yf.toInt → yf.toInt < (yA.1 5 6).toInt → yd.toInt < 0 → yQ (some (.int (-1))) yA)
    (l6 : 0 ≤ l.toInt → l.toInt ≤ 5 → 0 ≤ yf.toInt → yf.toInt < (yA.1 5 6).toInt → 0 ≤ yd.toInt → 3599 < yd.toInt → yQ (some (.int (-1))) yA)
    (l7 : 0 ≤ l.toInt → l.toInt ≤ 5 → 0 ≤ yf.toInt → yf.toInt < (yA.1 5 6).toInt → 0 ≤ yd.toInt → yd.toInt ≤ 3599 → yk.toInt < 0 → yQ (some (.int (-1))) yA)
    (l8 : 0 ≤ l.toInt → l.toInt ≤ 5 → 0 ≤ yf.toInt → yf.toInt < (yA.1 5 6).toInt → 0 ≤ yd.toInt → yd.toInt ≤ 3599 → 0 ≤ yk.toInt → 3599 < yk.toInt → yQ (some (.int (-1))) yA)
    (l9 : 0 ≤ l.toInt → l.toInt ≤ 5 → 0 ≤ yf.toInt → yf.toInt < (yA.1 5 6).toInt → 0 ≤ yd.toInt → yd.toInt ≤ 3599 → 0 ≤ yk.toInt → yk.toInt ≤ 3599 → us.toInt < 1 → yQ (some (.int (-1))) yA)
    (l10 : 0 ≤ l.toInt → l.toInt ≤ 5 → 0 ≤ yf.toInt → yf.toInt < (yA.1 5 6).toInt → 0 ≤ yd.toInt → yd.toInt ≤ 3599 → 0 ≤ yk.toInt → yk.toInt ≤ 3599 → 1 ≤ us.toInt → 3 < us.toInt → yQ (some (.int (-1))) yA)
    (l11 : 0 ≤ l.toInt → l.toInt ≤ 5 → 0 ≤ yf.toInt → yf.toInt < (yA.1 5 6).toInt → 0 ≤ yd.toInt → yd.toInt ≤ 3599 → 0 ≤ yk.toInt → yk.toInt ≤ 3599 → 1 ≤ us.toInt → us.toInt ≤ 3 → Pa N 15 0 [(0, .ref 46), (1, .int us), (2, .int l), (3, .int yf), (4, .int yd), (5, .int yk)] [] yA (fun yu A1 => Pa N 121 59 [(0, .ref 0), (1, .int l), (2, .int yf), (3, .int yd), (4, .int yk), (5, .int us)] (yu.toList ++ []) A1 yQ)) :
    Pa N 121 0 [(0, .ref 0), (1, .int l), (2, .int yf), (3, .int yd), (4, .int yk), (5, .int us)] [] yA yQ := by
  refine Pa.mp 1 (pc' := 1) (l' := [(0, .ref 0), (1, .int l), (2, .int yf), (3, .int yd), (4, .int yk), (5, .int us)]) (st' := [.int l]) (by rfl) ?_
  refine Pa.ist (by rfl) (by rfl) (.inl rfl) (by rfl) (by rfl) ?_
  show Pa N 147 0 [(0, .int l)] [] yA _
  refine Pa.mp 1 (pc' := 1) (l' := [(0, .int l)]) (st' := [.int l]) (by rfl) ?_
  refine Pa.ic (x := 0) (pc' := 2) (by rfl) (by rfl) (by decide) ?_
  refine Pa.ic (x := 5) (pc' := 3) (by rfl) (by rfl) (by decide) ?_
  refine Pa.ist (by rfl) (by rfl) (.inl rfl) (by rfl) (by rfl) ?_
  show Pa N 146 0 [(0, .int l), (1, .int 0), (2, .int 5)] [] yA _
  refine Pa.mp 2 (pc' := 2) (l' := [(0, .int l), (1, .int 0), (2, .int 5)]) (st' := [.int 0, .int l]) (by rfl) ?_
  refine Pa.if2 (a := l.toInt) (b := 0) (t := 14) (by rfl) (by rfl) (rfl) (by decide) (fun h1 => ?_) (fun h2 => ?_)
  · have h1 : l.toInt < 0 := h1
    refine Pa.ic (x := 0) (pc' := 15) (by rfl) (by rfl) (by decide) ?_
    refine Pa.iret (by rfl) ?_
    show Pa N 147 6 [(0, .int l)] [.int 0] yA _
    refine Pa.iret (by rfl) ?_
    show Pa N 121 4 [(0, .ref 0), (1, .int l), (2, .int yf), (3, .int yd), (4, .int yk), (5, .int us)] [.int 0] yA _
    refine Pa.if1k true (by rfl) (by rfl) (by decide) ?_
    show Pa N 121 43 [(0, .ref 0), (1, .int l), (2, .int yf), (3, .int yd), (4, .int yk), (5, .int us)] [] yA _
    refine Pa.ic (x := (-1)) (pc' := 44) (by rfl) (by rfl) (by decide) ?_
    refine Pa.iret (by rfl) ?_
    exact l1 h1
  · have h2 : 0 ≤ l.toInt := h2
    refine Pa.mp 2 (pc' := 7) (l' := [(0, .int l), (1, .int 0), (2, .int 5)]) (st' := [.int 5, .int l]) (by rfl) ?_
    refine Pa.if2 (a := l.toInt) (b := 5) (t := 14) (by rfl) (by rfl) (rfl) (by decide) (fun h3 => ?_) (fun h4 => ?_)
    · have h3 : 5 < l.toInt := h3
      refine Pa.ic (x := 0) (pc' := 15) (by rfl) (by rfl) (by decide) ?_
      refine Pa.iret (by rfl) ?_
      show Pa N 147 6 [(0, .int l)] [.int 0] yA _
      refine Pa.iret (by rfl) ?_
      show Pa N 121 4 [(0, .ref 0), (1, .int l), (2, .int yf), (3, .int yd), (4, .int yk), (5, .int us)] [.int 0] yA _
      refine Pa.if1k true (by rfl) (by rfl) (by decide) ?_
      show Pa N 121 43 [(0, .ref 0), (1, .int l), (2, .int yf), (3, .int yd), (4, .int yk), (5, .int us)] [] yA _
      refine Pa.ic (x := (-1)) (pc' := 44) (by rfl) (by rfl) (by decide) ?_
      refine Pa.iret (by rfl) ?_
      exact l2 h2 h3
    · have h4 : l.toInt ≤ 5 := h4
      refine Pa.ic (x := 1) (pc' := 11) (by rfl) (by rfl) (by decide) ?_
      refine Pa.mp 1 (pc' := 15) (l' := [(0, .int l), (1, .int 0), (2, .int 5)]) (st' := [.int 1]) (by rfl) ?_
      refine Pa.iret (by rfl) ?_
      show Pa N 147 6 [(0, .int l)] [.int 1] yA _
      refine Pa.iret (by rfl) ?_
      show Pa N 121 4 [(0, .ref 0), (1, .int l), (2, .int yf), (3, .int yd), (4, .int yk), (5, .int us)] [.int 1] yA _
      refine Pa.if1k false (by rfl) (by rfl) (by decide) ?_
      show Pa N 121 7 [(0, .ref 0), (1, .int l), (2, .int yf), (3, .int yd), (4, .int yk), (5, .int us)] [] yA _
      refine Pa.mp 1 (pc' := 8) (l' := [(0, .ref 0), (1, .int l), (2, .int yf), (3, .int yd), (4, .int yk), (5, .int us)]) (st' := [.ref 0]) (by rfl) ?_
      refine Pa.gfR (by rfl) (by rfl) (.inl rfl) (by rfl) ?_
      show Pa N 121 11 [(0, .ref 0), (1, .int l), (2, .int yf), (3, .int yd), (4, .int yk), (5, .int us)] [.ref 5] yA _
      refine Pa.mp 1 (pc' := 12) (l' := [(0, .ref 0), (1, .int l), (2, .int yf), (3, .int yd), (4, .int yk), (5, .int us)]) (st' := [.int yf, .ref 5]) (by rfl) ?_
      refine Pa.inv (by rfl) (by rfl) (.inr rfl) (by rfl) ?_
      show Pa N 41 0 [(0, .ref 5), (1, .int yf)] [] yA _
      refine Pa.mp 1 (pc' := 1) (l' := [(0, .ref 5), (1, .int yf)]) (st' := [.int yf]) (by rfl) ?_
      refine Pa.if1 (a := yf.toInt) (t := 16) (by rfl) (by rfl) (rfl) (fun h5 => ?_) (fun h6 => ?_)
      · have h5 : yf.toInt < 0 := h5
        refine Pa.ic (x := 0) (pc' := 17) (by rfl) (by rfl) (by decide) ?_
        refine Pa.iret (by rfl) ?_
        show Pa N 121 15 [(0, .ref 0), (1, .int l), (2, .int yf), (3, .int yd), (4, .int yk), (5, .int us)] [.int 0] yA _
        refine Pa.if1k true (by rfl) (by rfl) (by decide) ?_
        show Pa N 121 43 [(0, .ref 0), (1, .int l), (2, .int yf), (3, .int yd), (4, .int yk), (5, .int us)] [] yA _
        refine Pa.ic (x := (-1)) (pc' := 44) (by rfl) (by rfl) (by decide) ?_
        refine Pa.iret (by rfl) ?_
        exact l3 h2 h4 h5
      · have h6 : 0 ≤ yf.toInt := h6
        refine Pa.mp 2 (pc' := 6) (l' := [(0, .ref 5), (1, .int yf)]) (st' := [.ref 5, .int yf]) (by rfl) ?_
        refine Pa.gfI (v := yA.1 5 6) (by rfl) (by rfl) (.inl rfl) (by rfl) (by rfl) ?_
        refine Pa.if2 (a := yf.toInt) (b := (yA.1 5 6).toInt) (t := 16) (by rfl) (by rfl) (rfl) (rfl) (fun h7 => ?_) (fun h8 => ?_)
        · have h7 : (yA.1 5 6).toInt ≤ yf.toInt := h7
          refine Pa.ic (x := 0) (pc' := 17) (by rfl) (by rfl) (by decide) ?_
          refine Pa.iret (by rfl) ?_
          show Pa N 121 15 [(0, .ref 0), (1, .int l), (2, .int yf), (3, .int yd), (4, .int yk), (5, .int us)] [.int 0] yA _
          refine Pa.if1k true (by rfl) (by rfl) (by decide) ?_
          show Pa N 121 43 [(0, .ref 0), (1, .int l), (2, .int yf), (3, .int yd), (4, .int yk), (5, .int us)] [] yA _
          refine Pa.ic (x := (-1)) (pc' := 44) (by rfl) (by rfl) (by decide) ?_
          refine Pa.iret (by rfl) ?_
          exact l4 h2 h4 h6 h7
        · have h8 : yf.toInt < (yA.1 5 6).toInt := h8
          refine Pa.ic (x := 1) (pc' := 13) (by rfl) (by rfl) (by decide) ?_
          refine Pa.mp 1 (pc' := 17) (l' := [(0, .ref 5), (1, .int yf)]) (st' := [.int 1]) (by rfl) ?_
          refine Pa.iret (by rfl) ?_
          show Pa N 121 15 [(0, .ref 0), (1, .int l), (2, .int yf), (3, .int yd), (4, .int yk), (5, .int us)] [.int 1] yA _
          refine Pa.if1k false (by rfl) (by rfl) (by decide) ?_
          show Pa N 121 18 [(0, .ref 0), (1, .int l), (2, .int yf), (3, .int yd), (4, .int yk), (5, .int us)] [] yA _
          refine Pa.mp 1 (pc' := 19) (l' := [(0, .ref 0), (1, .int l), (2, .int yf), (3, .int yd), (4, .int yk), (5, .int us)]) (st' := [.int yd]) (by rfl) ?_
          refine Pa.ist (by rfl) (by rfl) (.inl rfl) (by rfl) (by rfl) ?_
          show Pa N 148 0 [(0, .int yd)] [] yA _
          refine Pa.mp 1 (pc' := 1) (l' := [(0, .int yd)]) (st' := [.int yd]) (by rfl) ?_
          refine Pa.ic (x := 0) (pc' := 2) (by rfl) (by rfl) (by decide) ?_
          refine Pa.ic (x := 3599) (pc' := 5) (by rfl) (by rfl) (by decide) ?_
          refine Pa.ist (by rfl) (by rfl) (.inl rfl) (by rfl) (by rfl) ?_
          show Pa N 146 0 [(0, .int yd), (1, .int 0), (2, .int 3599)] [] yA _
          refine Pa.mp 2 (pc' := 2) (l' := [(0, .int yd), (1, .int 0), (2, .int 3599)]) (st' := [.int 0, .int yd]) (by rfl) ?_
          refine Pa.if2 (a := yd.toInt) (b := 0) (t := 14) (by rfl) (by rfl) (rfl) (by decide) (fun h9 => ?_) (fun h10 => ?_)
          · have h9 : yd.toInt < 0 := h9
            refine Pa.ic (x := 0) (pc' := 15) (by rfl) (by rfl) (by decide) ?_
            refine Pa.iret (by rfl) ?_
            show Pa N 148 8 [(0, .int yd)] [.int 0] yA _
            refine Pa.iret (by rfl) ?_
            show Pa N 121 22 [(0, .ref 0), (1, .int l), (2, .int yf), (3, .int yd), (4, .int yk), (5, .int us)] [.int 0] yA _
            refine Pa.if1k true (by rfl) (by rfl) (by decide) ?_
            show Pa N 121 43 [(0, .ref 0), (1, .int l), (2, .int yf), (3, .int yd), (4, .int yk), (5, .int us)] [] yA _
            refine Pa.ic (x := (-1)) (pc' := 44) (by rfl) (by rfl) (by decide) ?_
            refine Pa.iret (by rfl) ?_
            exact l5 h2 h4 h6 h8 h9
          · have h10 : 0 ≤ yd.toInt := h10
            refine Pa.mp 2 (pc' := 7) (l' := [(0, .int yd), (1, .int 0), (2, .int 3599)]) (st' := [.int 3599, .int yd]) (by rfl) ?_
            refine Pa.if2 (a := yd.toInt) (b := 3599) (t := 14) (by rfl) (by rfl) (rfl) (by decide) (fun h11 => ?_) (fun h12 => ?_)
            · have h11 : 3599 < yd.toInt := h11
              refine Pa.ic (x := 0) (pc' := 15) (by rfl) (by rfl) (by decide) ?_
              refine Pa.iret (by rfl) ?_
              show Pa N 148 8 [(0, .int yd)] [.int 0] yA _
              refine Pa.iret (by rfl) ?_
              show Pa N 121 22 [(0, .ref 0), (1, .int l), (2, .int yf), (3, .int yd), (4, .int yk), (5, .int us)] [.int 0] yA _
              refine Pa.if1k true (by rfl) (by rfl) (by decide) ?_
              show Pa N 121 43 [(0, .ref 0), (1, .int l), (2, .int yf), (3, .int yd), (4, .int yk), (5, .int us)] [] yA _
              refine Pa.ic (x := (-1)) (pc' := 44) (by rfl) (by rfl) (by decide) ?_
              refine Pa.iret (by rfl) ?_
              exact l6 h2 h4 h6 h8 h10 h11
            · have h12 : yd.toInt ≤ 3599 := h12
              refine Pa.ic (x := 1) (pc' := 11) (by rfl) (by rfl) (by decide) ?_
              refine Pa.mp 1 (pc' := 15) (l' := [(0, .int yd), (1, .int 0), (2, .int 3599)]) (st' := [.int 1]) (by rfl) ?_
              refine Pa.iret (by rfl) ?_
              show Pa N 148 8 [(0, .int yd)] [.int 1] yA _
              refine Pa.iret (by rfl) ?_
              show Pa N 121 22 [(0, .ref 0), (1, .int l), (2, .int yf), (3, .int yd), (4, .int yk), (5, .int us)] [.int 1] yA _
              refine Pa.if1k false (by rfl) (by rfl) (by decide) ?_
              show Pa N 121 25 [(0, .ref 0), (1, .int l), (2, .int yf), (3, .int yd), (4, .int yk), (5, .int us)] [] yA _
              refine Pa.mp 1 (pc' := 27) (l' := [(0, .ref 0), (1, .int l), (2, .int yf), (3, .int yd), (4, .int yk), (5, .int us)]) (st' := [.int yk]) (by rfl) ?_
              refine Pa.ist (by rfl) (by rfl) (.inl rfl) (by rfl) (by rfl) ?_
              show Pa N 148 0 [(0, .int yk)] [] yA _
              refine Pa.mp 1 (pc' := 1) (l' := [(0, .int yk)]) (st' := [.int yk]) (by rfl) ?_
              refine Pa.ic (x := 0) (pc' := 2) (by rfl) (by rfl) (by decide) ?_
              refine Pa.ic (x := 3599) (pc' := 5) (by rfl) (by rfl) (by decide) ?_
              refine Pa.ist (by rfl) (by rfl) (.inl rfl) (by rfl) (by rfl) ?_
              show Pa N 146 0 [(0, .int yk), (1, .int 0), (2, .int 3599)] [] yA _
              refine Pa.mp 2 (pc' := 2) (l' := [(0, .int yk), (1, .int 0), (2, .int 3599)]) (st' := [.int 0, .int yk]) (by rfl) ?_
              refine Pa.if2 (a := yk.toInt) (b := 0) (t := 14) (by rfl) (by rfl) (rfl) (by decide) (fun h13 => ?_) (fun h14 => ?_)
              · have h13 : yk.toInt < 0 := h13
                refine Pa.ic (x := 0) (pc' := 15) (by rfl) (by rfl) (by decide) ?_
                refine Pa.iret (by rfl) ?_
                show Pa N 148 8 [(0, .int yk)] [.int 0] yA _
                refine Pa.iret (by rfl) ?_
                show Pa N 121 30 [(0, .ref 0), (1, .int l), (2, .int yf), (3, .int yd), (4, .int yk), (5, .int us)] [.int 0] yA _
                refine Pa.if1k true (by rfl) (by rfl) (by decide) ?_
                show Pa N 121 43 [(0, .ref 0), (1, .int l), (2, .int yf), (3, .int yd), (4, .int yk), (5, .int us)] [] yA _
                refine Pa.ic (x := (-1)) (pc' := 44) (by rfl) (by rfl) (by decide) ?_
                refine Pa.iret (by rfl) ?_
                exact l7 h2 h4 h6 h8 h10 h12 h13
              · have h14 : 0 ≤ yk.toInt := h14
                refine Pa.mp 2 (pc' := 7) (l' := [(0, .int yk), (1, .int 0), (2, .int 3599)]) (st' := [.int 3599, .int yk]) (by rfl) ?_
                refine Pa.if2 (a := yk.toInt) (b := 3599) (t := 14) (by rfl) (by rfl) (rfl) (by decide) (fun h15 => ?_) (fun yh16 => ?_)
                · have h15 : 3599 < yk.toInt := h15
                  refine Pa.ic (x := 0) (pc' := 15) (by rfl) (by rfl) (by decide) ?_
                  refine Pa.iret (by rfl) ?_
                  show Pa N 148 8 [(0, .int yk)] [.int 0] yA _
                  refine Pa.iret (by rfl) ?_
                  show Pa N 121 30 [(0, .ref 0), (1, .int l), (2, .int yf), (3, .int yd), (4, .int yk), (5, .int us)] [.int 0] yA _
                  refine Pa.if1k true (by rfl) (by rfl) (by decide) ?_
                  show Pa N 121 43 [(0, .ref 0), (1, .int l), (2, .int yf), (3, .int yd), (4, .int yk), (5, .int us)] [] yA _
                  refine Pa.ic (x := (-1)) (pc' := 44) (by rfl) (by rfl) (by decide) ?_
                  refine Pa.iret (by rfl) ?_
                  exact l8 h2 h4 h6 h8 h10 h12 h14 h15
                · have yh16 : yk.toInt ≤ 3599 := yh16
                  refine Pa.ic (x := 1) (pc' := 11) (by rfl) (by rfl) (by decide) ?_
                  refine Pa.mp 1 (pc' := 15) (l' := [(0, .int yk), (1, .int 0), (2, .int 3599)]) (st' := [.int 1]) (by rfl) ?_
                  refine Pa.iret (by rfl) ?_
                  show Pa N 148 8 [(0, .int yk)] [.int 1] yA _
                  refine Pa.iret (by rfl) ?_
                  show Pa N 121 30 [(0, .ref 0), (1, .int l), (2, .int yf), (3, .int yd), (4, .int yk), (5, .int us)] [.int 1] yA _
                  refine Pa.if1k false (by rfl) (by rfl) (by decide) ?_
                  show Pa N 121 33 [(0, .ref 0), (1, .int l), (2, .int yf), (3, .int yd), (4, .int yk), (5, .int us)] [] yA _
                  refine Pa.mp 1 (pc' := 35) (l' := [(0, .ref 0), (1, .int l), (2, .int yf), (3, .int yd), (4, .int yk), (5, .int us)]) (st' := [.int us]) (by rfl) ?_
                  refine Pa.ic (x := 1) (pc' := 36) (by rfl) (by rfl) (by decide) ?_
                  refine Pa.ic (x := 3) (pc' := 37) (by rfl) (by rfl) (by decide) ?_
                  refine Pa.ist (by rfl) (by rfl) (.inl rfl) (by rfl) (by rfl) ?_
                  show Pa N 146 0 [(0, .int us), (1, .int 1), (2, .int 3)] [] yA _
                  refine Pa.mp 2 (pc' := 2) (l' := [(0, .int us), (1, .int 1), (2, .int 3)]) (st' := [.int 1, .int us]) (by rfl) ?_
                  refine Pa.if2 (a := us.toInt) (b := 1) (t := 14) (by rfl) (by rfl) (rfl) (by decide) (fun h17 => ?_) (fun h18 => ?_)
                  · have h17 : us.toInt < 1 := h17
                    refine Pa.ic (x := 0) (pc' := 15) (by rfl) (by rfl) (by decide) ?_
                    refine Pa.iret (by rfl) ?_
                    show Pa N 121 40 [(0, .ref 0), (1, .int l), (2, .int yf), (3, .int yd), (4, .int yk), (5, .int us)] [.int 0] yA _
                    refine Pa.if1k false (by rfl) (by rfl) (by decide) ?_
                    show Pa N 121 43 [(0, .ref 0), (1, .int l), (2, .int yf), (3, .int yd), (4, .int yk), (5, .int us)] [] yA _
                    refine Pa.ic (x := (-1)) (pc' := 44) (by rfl) (by rfl) (by decide) ?_
                    refine Pa.iret (by rfl) ?_
                    exact l9 h2 h4 h6 h8 h10 h12 h14 yh16 h17
                  · have h18 : 1 ≤ us.toInt := h18
                    refine Pa.mp 2 (pc' := 7) (l' := [(0, .int us), (1, .int 1), (2, .int 3)]) (st' := [.int 3, .int us]) (by rfl) ?_
                    refine Pa.if2 (a := us.toInt) (b := 3) (t := 14) (by rfl) (by rfl) (rfl) (by decide) (fun h19 => ?_) (fun h20 => ?_)
                    · have h19 : 3 < us.toInt := h19
                      refine Pa.ic (x := 0) (pc' := 15) (by rfl) (by rfl) (by decide) ?_
                      refine Pa.iret (by rfl) ?_
                      show Pa N 121 40 [(0, .ref 0), (1, .int l), (2, .int yf), (3, .int yd), (4, .int yk), (5, .int us)] [.int 0] yA _
                      refine Pa.if1k false (by rfl) (by rfl) (by decide) ?_
                      show Pa N 121 43 [(0, .ref 0), (1, .int l), (2, .int yf), (3, .int yd), (4, .int yk), (5, .int us)] [] yA _
                      refine Pa.ic (x := (-1)) (pc' := 44) (by rfl) (by rfl) (by decide) ?_
                      refine Pa.iret (by rfl) ?_
                      exact l10 h2 h4 h6 h8 h10 h12 h14 yh16 h18 h19
                    · have h20 : us.toInt ≤ 3 := h20
                      refine Pa.ic (x := 1) (pc' := 11) (by rfl) (by rfl) (by decide) ?_
                      refine Pa.mp 1 (pc' := 15) (l' := [(0, .int us), (1, .int 1), (2, .int 3)]) (st' := [.int 1]) (by rfl) ?_
                      refine Pa.iret (by rfl) ?_
                      show Pa N 121 40 [(0, .ref 0), (1, .int l), (2, .int yf), (3, .int yd), (4, .int yk), (5, .int us)] [.int 1] yA _
                      refine Pa.if1k true (by rfl) (by rfl) (by decide) ?_
                      show Pa N 121 45 [(0, .ref 0), (1, .int l), (2, .int yf), (3, .int yd), (4, .int yk), (5, .int us)] [] yA _
                      refine Pa.mp 1 (pc' := 46) (l' := [(0, .ref 0), (1, .int l), (2, .int yf), (3, .int yd), (4, .int yk), (5, .int us)]) (st' := [.ref 0]) (by rfl) ?_
                      refine Pa.gfR (by rfl) (by rfl) (.inl rfl) (by rfl) ?_
                      show Pa N 121 49 [(0, .ref 0), (1, .int l), (2, .int yf), (3, .int yd), (4, .int yk), (5, .int us)] [.ref 46] yA _
                      refine Pa.mp 5 (pc' := 56) (l' := [(0, .ref 0), (1, .int l), (2, .int yf), (3, .int yd), (4, .int yk), (5, .int us)]) (st' := [.int yk, .int yd, .int yf, .int l, .int us, .ref 46]) (by rfl) ?_
                      refine Pa.inv (by rfl) (by rfl) (.inr rfl) (by rfl) ?_
                      exact l11 h2 h4 h6 h8 h10 h12 h14 yh16 h18 h20

theorem bm_law {N : Nat} {yA : AW} {yQ : Option Value → AW → Prop} (l yf yd yk us : Int32)
    (l1 : l.toInt < 0 → yQ (some (.int (-1))) yA)
    (l2 : 0 ≤ l.toInt → 5 < l.toInt → yQ (some (.int (-1))) yA)
    (l3 : 0 ≤ l.toInt → l.toInt ≤ 5 → yf.toInt < 0 → yQ (some (.int (-1))) yA)
    (l4 : 0 ≤ l.toInt → l.toInt ≤ 5 → 0 ≤ yf.toInt → (yA.1 69 11).toInt ≤ yf.toInt → yQ (some (.int (-1))) yA)
    (l5 : 0 ≤ l.toInt → l.toInt ≤ 5 → 0 ≤ yf.toInt → yf.toInt < (yA.1 69 11).toInt → yd.toInt < 0 → yQ (some (.int (-1))) yA)
    (l6 : 0 ≤ l.toInt → l.toInt ≤ 5 → 0 ≤ yf.toInt → yf.toInt < (yA.1 69 11).toInt → 0 ≤ yd.toInt → 3599 < yd.toInt → yQ (some (.int (-1))) yA)
    (l7 : 0 ≤ l.toInt → l.toInt ≤ 5 → 0 ≤ yf.toInt → yf.toInt < (yA.1 69 11).toInt → 0 ≤ yd.toInt → yd.toInt ≤ 3599 → yk.toInt < 0 → yQ (some (.int (-1))) yA)
    (l8 : 0 ≤ l.toInt → l.toInt ≤ 5 → 0 ≤ yf.toInt → yf.toInt < (yA.1 69 11).toInt → 0 ≤ yd.toInt → yd.toInt ≤ 3599 → 0 ≤ yk.toInt → 3599 < yk.toInt → yQ (some (.int (-1))) yA)
    (l9 : 0 ≤ l.toInt → l.toInt ≤ 5 → 0 ≤ yf.toInt → yf.toInt < (yA.1 69 11).toInt → 0 ≤ yd.toInt → yd.toInt ≤ 3599 → 0 ≤ yk.toInt → yk.toInt ≤ 3599 → us.toInt < 1 → yQ (some (.int (-1))) yA)
    (l10 : 0 ≤ l.toInt → l.toInt ≤ 5 → 0 ≤ yf.toInt → yf.toInt < (yA.1 69 11).toInt → 0 ≤ yd.toInt → yd.toInt ≤ 3599 → 0 ≤ yk.toInt → yk.toInt ≤ 3599 → 1 ≤ us.toInt → 3 < us.toInt → yQ (some (.int (-1))) yA)
    (l11 : 0 ≤ l.toInt → l.toInt ≤ 5 → 0 ≤ yf.toInt → yf.toInt < (yA.1 69 11).toInt → 0 ≤ yd.toInt → yd.toInt ≤ 3599 → 0 ≤ yk.toInt → yk.toInt ≤ 3599 → 1 ≤ us.toInt → us.toInt ≤ 3 → Pa N 211 0 [(0, .ref 69), (1, .int l), (2, .int yf), (3, .int yd), (4, .int yk), (5, .int us)] [] yA (fun yu A1 => Pa N 212 51 [(0, .ref 69), (1, .int l), (2, .int yf), (3, .int yd), (4, .int yk), (5, .int us)] (yu.toList ++ []) A1 yQ)) :
    Pa N 212 0 [(0, .ref 69), (1, .int l), (2, .int yf), (3, .int yd), (4, .int yk), (5, .int us)] [] yA yQ := by
  refine Pa.mp 1 (pc' := 1) (l' := [(0, .ref 69), (1, .int l), (2, .int yf), (3, .int yd), (4, .int yk), (5, .int us)]) (st' := [.int l]) (by rfl) ?_
  refine Pa.ist (by rfl) (by rfl) (.inl rfl) (by rfl) (by rfl) ?_
  show Pa N 154 0 [(0, .int l)] [] yA _
  refine Pa.mp 1 (pc' := 1) (l' := [(0, .int l)]) (st' := [.int l]) (by rfl) ?_
  refine Pa.ic (x := 0) (pc' := 2) (by rfl) (by rfl) (by decide) ?_
  refine Pa.ic (x := 5) (pc' := 3) (by rfl) (by rfl) (by decide) ?_
  refine Pa.ist (by rfl) (by rfl) (.inl rfl) (by rfl) (by rfl) ?_
  show Pa N 152 0 [(0, .int l), (1, .int 0), (2, .int 5)] [] yA _
  refine Pa.mp 2 (pc' := 2) (l' := [(0, .int l), (1, .int 0), (2, .int 5)]) (st' := [.int 0, .int l]) (by rfl) ?_
  refine Pa.if2 (a := l.toInt) (b := 0) (t := 14) (by rfl) (by rfl) (rfl) (by decide) (fun h1 => ?_) (fun h2 => ?_)
  · have h1 : l.toInt < 0 := h1
    refine Pa.ic (x := 0) (pc' := 15) (by rfl) (by rfl) (by decide) ?_
    refine Pa.iret (by rfl) ?_
    show Pa N 154 6 [(0, .int l)] [.int 0] yA _
    refine Pa.iret (by rfl) ?_
    show Pa N 212 4 [(0, .ref 69), (1, .int l), (2, .int yf), (3, .int yd), (4, .int yk), (5, .int us)] [.int 0] yA _
    refine Pa.if1k true (by rfl) (by rfl) (by decide) ?_
    show Pa N 212 54 [(0, .ref 69), (1, .int l), (2, .int yf), (3, .int yd), (4, .int yk), (5, .int us)] [] yA _
    refine Pa.ic (x := (-1)) (pc' := 55) (by rfl) (by rfl) (by decide) ?_
    refine Pa.iret (by rfl) ?_
    exact l1 h1
  · have h2 : 0 ≤ l.toInt := h2
    refine Pa.mp 2 (pc' := 7) (l' := [(0, .int l), (1, .int 0), (2, .int 5)]) (st' := [.int 5, .int l]) (by rfl) ?_
    refine Pa.if2 (a := l.toInt) (b := 5) (t := 14) (by rfl) (by rfl) (rfl) (by decide) (fun h3 => ?_) (fun h4 => ?_)
    · have h3 : 5 < l.toInt := h3
      refine Pa.ic (x := 0) (pc' := 15) (by rfl) (by rfl) (by decide) ?_
      refine Pa.iret (by rfl) ?_
      show Pa N 154 6 [(0, .int l)] [.int 0] yA _
      refine Pa.iret (by rfl) ?_
      show Pa N 212 4 [(0, .ref 69), (1, .int l), (2, .int yf), (3, .int yd), (4, .int yk), (5, .int us)] [.int 0] yA _
      refine Pa.if1k true (by rfl) (by rfl) (by decide) ?_
      show Pa N 212 54 [(0, .ref 69), (1, .int l), (2, .int yf), (3, .int yd), (4, .int yk), (5, .int us)] [] yA _
      refine Pa.ic (x := (-1)) (pc' := 55) (by rfl) (by rfl) (by decide) ?_
      refine Pa.iret (by rfl) ?_
      exact l2 h2 h3
    · have h4 : l.toInt ≤ 5 := h4
      refine Pa.ic (x := 1) (pc' := 11) (by rfl) (by rfl) (by decide) ?_
      refine Pa.mp 1 (pc' := 15) (l' := [(0, .int l), (1, .int 0), (2, .int 5)]) (st' := [.int 1]) (by rfl) ?_
      refine Pa.iret (by rfl) ?_
      show Pa N 154 6 [(0, .int l)] [.int 1] yA _
      refine Pa.iret (by rfl) ?_
      show Pa N 212 4 [(0, .ref 69), (1, .int l), (2, .int yf), (3, .int yd), (4, .int yk), (5, .int us)] [.int 1] yA _
      refine Pa.if1k false (by rfl) (by rfl) (by decide) ?_
      show Pa N 212 7 [(0, .ref 69), (1, .int l), (2, .int yf), (3, .int yd), (4, .int yk), (5, .int us)] [] yA _
      refine Pa.mp 2 (pc' := 9) (l' := [(0, .ref 69), (1, .int l), (2, .int yf), (3, .int yd), (4, .int yk), (5, .int us)]) (st' := [.int yf, .ref 69]) (by rfl) ?_
      refine Pa.inv (by rfl) (by rfl) (.inl rfl) (by rfl) ?_
      show Pa N 157 0 [(0, .ref 69), (1, .int yf)] [] yA _
      refine Pa.mp 1 (pc' := 1) (l' := [(0, .ref 69), (1, .int yf)]) (st' := [.int yf]) (by rfl) ?_
      refine Pa.if1 (a := yf.toInt) (t := 16) (by rfl) (by rfl) (rfl) (fun h5 => ?_) (fun h6 => ?_)
      · have h5 : yf.toInt < 0 := h5
        refine Pa.ic (x := 0) (pc' := 17) (by rfl) (by rfl) (by decide) ?_
        refine Pa.iret (by rfl) ?_
        show Pa N 212 12 [(0, .ref 69), (1, .int l), (2, .int yf), (3, .int yd), (4, .int yk), (5, .int us)] [.int 0] yA _
        refine Pa.if1k true (by rfl) (by rfl) (by decide) ?_
        show Pa N 212 54 [(0, .ref 69), (1, .int l), (2, .int yf), (3, .int yd), (4, .int yk), (5, .int us)] [] yA _
        refine Pa.ic (x := (-1)) (pc' := 55) (by rfl) (by rfl) (by decide) ?_
        refine Pa.iret (by rfl) ?_
        exact l3 h2 h4 h5
      · have h6 : 0 ≤ yf.toInt := h6
        refine Pa.mp 2 (pc' := 6) (l' := [(0, .ref 69), (1, .int yf)]) (st' := [.ref 69, .int yf]) (by rfl) ?_
        refine Pa.gfI (v := yA.1 69 11) (by rfl) (by rfl) (.inl rfl) (by rfl) (by rfl) ?_
        refine Pa.if2 (a := yf.toInt) (b := (yA.1 69 11).toInt) (t := 16) (by rfl) (by rfl) (rfl) (rfl) (fun h7 => ?_) (fun h8 => ?_)
        · have h7 : (yA.1 69 11).toInt ≤ yf.toInt := h7
          refine Pa.ic (x := 0) (pc' := 17) (by rfl) (by rfl) (by decide) ?_
          refine Pa.iret (by rfl) ?_
          show Pa N 212 12 [(0, .ref 69), (1, .int l), (2, .int yf), (3, .int yd), (4, .int yk), (5, .int us)] [.int 0] yA _
          refine Pa.if1k true (by rfl) (by rfl) (by decide) ?_
          show Pa N 212 54 [(0, .ref 69), (1, .int l), (2, .int yf), (3, .int yd), (4, .int yk), (5, .int us)] [] yA _
          refine Pa.ic (x := (-1)) (pc' := 55) (by rfl) (by rfl) (by decide) ?_
          refine Pa.iret (by rfl) ?_
          exact l4 h2 h4 h6 h7
        · have h8 : yf.toInt < (yA.1 69 11).toInt := h8
          refine Pa.ic (x := 1) (pc' := 13) (by rfl) (by rfl) (by decide) ?_
          refine Pa.mp 1 (pc' := 17) (l' := [(0, .ref 69), (1, .int yf)]) (st' := [.int 1]) (by rfl) ?_
          refine Pa.iret (by rfl) ?_
          show Pa N 212 12 [(0, .ref 69), (1, .int l), (2, .int yf), (3, .int yd), (4, .int yk), (5, .int us)] [.int 1] yA _
          refine Pa.if1k false (by rfl) (by rfl) (by decide) ?_
          show Pa N 212 15 [(0, .ref 69), (1, .int l), (2, .int yf), (3, .int yd), (4, .int yk), (5, .int us)] [] yA _
          refine Pa.mp 1 (pc' := 16) (l' := [(0, .ref 69), (1, .int l), (2, .int yf), (3, .int yd), (4, .int yk), (5, .int us)]) (st' := [.int yd]) (by rfl) ?_
          refine Pa.ist (by rfl) (by rfl) (.inl rfl) (by rfl) (by rfl) ?_
          show Pa N 153 0 [(0, .int yd)] [] yA _
          refine Pa.mp 1 (pc' := 1) (l' := [(0, .int yd)]) (st' := [.int yd]) (by rfl) ?_
          refine Pa.ic (x := 0) (pc' := 2) (by rfl) (by rfl) (by decide) ?_
          refine Pa.ic (x := 3599) (pc' := 5) (by rfl) (by rfl) (by decide) ?_
          refine Pa.ist (by rfl) (by rfl) (.inl rfl) (by rfl) (by rfl) ?_
          show Pa N 152 0 [(0, .int yd), (1, .int 0), (2, .int 3599)] [] yA _
          refine Pa.mp 2 (pc' := 2) (l' := [(0, .int yd), (1, .int 0), (2, .int 3599)]) (st' := [.int 0, .int yd]) (by rfl) ?_
          refine Pa.if2 (a := yd.toInt) (b := 0) (t := 14) (by rfl) (by rfl) (rfl) (by decide) (fun h9 => ?_) (fun h10 => ?_)
          · have h9 : yd.toInt < 0 := h9
            refine Pa.ic (x := 0) (pc' := 15) (by rfl) (by rfl) (by decide) ?_
            refine Pa.iret (by rfl) ?_
            show Pa N 153 8 [(0, .int yd)] [.int 0] yA _
            refine Pa.iret (by rfl) ?_
            show Pa N 212 19 [(0, .ref 69), (1, .int l), (2, .int yf), (3, .int yd), (4, .int yk), (5, .int us)] [.int 0] yA _
            refine Pa.if1k true (by rfl) (by rfl) (by decide) ?_
            show Pa N 212 54 [(0, .ref 69), (1, .int l), (2, .int yf), (3, .int yd), (4, .int yk), (5, .int us)] [] yA _
            refine Pa.ic (x := (-1)) (pc' := 55) (by rfl) (by rfl) (by decide) ?_
            refine Pa.iret (by rfl) ?_
            exact l5 h2 h4 h6 h8 h9
          · have h10 : 0 ≤ yd.toInt := h10
            refine Pa.mp 2 (pc' := 7) (l' := [(0, .int yd), (1, .int 0), (2, .int 3599)]) (st' := [.int 3599, .int yd]) (by rfl) ?_
            refine Pa.if2 (a := yd.toInt) (b := 3599) (t := 14) (by rfl) (by rfl) (rfl) (by decide) (fun h11 => ?_) (fun h12 => ?_)
            · have h11 : 3599 < yd.toInt := h11
              refine Pa.ic (x := 0) (pc' := 15) (by rfl) (by rfl) (by decide) ?_
              refine Pa.iret (by rfl) ?_
              show Pa N 153 8 [(0, .int yd)] [.int 0] yA _
              refine Pa.iret (by rfl) ?_
              show Pa N 212 19 [(0, .ref 69), (1, .int l), (2, .int yf), (3, .int yd), (4, .int yk), (5, .int us)] [.int 0] yA _
              refine Pa.if1k true (by rfl) (by rfl) (by decide) ?_
              show Pa N 212 54 [(0, .ref 69), (1, .int l), (2, .int yf), (3, .int yd), (4, .int yk), (5, .int us)] [] yA _
              refine Pa.ic (x := (-1)) (pc' := 55) (by rfl) (by rfl) (by decide) ?_
              refine Pa.iret (by rfl) ?_
              exact l6 h2 h4 h6 h8 h10 h11
            · have h12 : yd.toInt ≤ 3599 := h12
              refine Pa.ic (x := 1) (pc' := 11) (by rfl) (by rfl) (by decide) ?_
              refine Pa.mp 1 (pc' := 15) (l' := [(0, .int yd), (1, .int 0), (2, .int 3599)]) (st' := [.int 1]) (by rfl) ?_
              refine Pa.iret (by rfl) ?_
              show Pa N 153 8 [(0, .int yd)] [.int 1] yA _
              refine Pa.iret (by rfl) ?_
              show Pa N 212 19 [(0, .ref 69), (1, .int l), (2, .int yf), (3, .int yd), (4, .int yk), (5, .int us)] [.int 1] yA _
              refine Pa.if1k false (by rfl) (by rfl) (by decide) ?_
              show Pa N 212 22 [(0, .ref 69), (1, .int l), (2, .int yf), (3, .int yd), (4, .int yk), (5, .int us)] [] yA _
              refine Pa.mp 1 (pc' := 24) (l' := [(0, .ref 69), (1, .int l), (2, .int yf), (3, .int yd), (4, .int yk), (5, .int us)]) (st' := [.int yk]) (by rfl) ?_
              refine Pa.ist (by rfl) (by rfl) (.inl rfl) (by rfl) (by rfl) ?_
              show Pa N 153 0 [(0, .int yk)] [] yA _
              refine Pa.mp 1 (pc' := 1) (l' := [(0, .int yk)]) (st' := [.int yk]) (by rfl) ?_
              refine Pa.ic (x := 0) (pc' := 2) (by rfl) (by rfl) (by decide) ?_
              refine Pa.ic (x := 3599) (pc' := 5) (by rfl) (by rfl) (by decide) ?_
              refine Pa.ist (by rfl) (by rfl) (.inl rfl) (by rfl) (by rfl) ?_
              show Pa N 152 0 [(0, .int yk), (1, .int 0), (2, .int 3599)] [] yA _
              refine Pa.mp 2 (pc' := 2) (l' := [(0, .int yk), (1, .int 0), (2, .int 3599)]) (st' := [.int 0, .int yk]) (by rfl) ?_
              refine Pa.if2 (a := yk.toInt) (b := 0) (t := 14) (by rfl) (by rfl) (rfl) (by decide) (fun h13 => ?_) (fun h14 => ?_)
              · have h13 : yk.toInt < 0 := h13
                refine Pa.ic (x := 0) (pc' := 15) (by rfl) (by rfl) (by decide) ?_
                refine Pa.iret (by rfl) ?_
                show Pa N 153 8 [(0, .int yk)] [.int 0] yA _
                refine Pa.iret (by rfl) ?_
                show Pa N 212 27 [(0, .ref 69), (1, .int l), (2, .int yf), (3, .int yd), (4, .int yk), (5, .int us)] [.int 0] yA _
                refine Pa.if1k true (by rfl) (by rfl) (by decide) ?_
                show Pa N 212 54 [(0, .ref 69), (1, .int l), (2, .int yf), (3, .int yd), (4, .int yk), (5, .int us)] [] yA _
                refine Pa.ic (x := (-1)) (pc' := 55) (by rfl) (by rfl) (by decide) ?_
                refine Pa.iret (by rfl) ?_
                exact l7 h2 h4 h6 h8 h10 h12 h13
              · have h14 : 0 ≤ yk.toInt := h14
                refine Pa.mp 2 (pc' := 7) (l' := [(0, .int yk), (1, .int 0), (2, .int 3599)]) (st' := [.int 3599, .int yk]) (by rfl) ?_
                refine Pa.if2 (a := yk.toInt) (b := 3599) (t := 14) (by rfl) (by rfl) (rfl) (by decide) (fun h15 => ?_) (fun yh16 => ?_)
                · have h15 : 3599 < yk.toInt := h15
                  refine Pa.ic (x := 0) (pc' := 15) (by rfl) (by rfl) (by decide) ?_
                  refine Pa.iret (by rfl) ?_
                  show Pa N 153 8 [(0, .int yk)] [.int 0] yA _
                  refine Pa.iret (by rfl) ?_
                  show Pa N 212 27 [(0, .ref 69), (1, .int l), (2, .int yf), (3, .int yd), (4, .int yk), (5, .int us)] [.int 0] yA _
                  refine Pa.if1k true (by rfl) (by rfl) (by decide) ?_
                  show Pa N 212 54 [(0, .ref 69), (1, .int l), (2, .int yf), (3, .int yd), (4, .int yk), (5, .int us)] [] yA _
                  refine Pa.ic (x := (-1)) (pc' := 55) (by rfl) (by rfl) (by decide) ?_
                  refine Pa.iret (by rfl) ?_
                  exact l8 h2 h4 h6 h8 h10 h12 h14 h15
                · have yh16 : yk.toInt ≤ 3599 := yh16
                  refine Pa.ic (x := 1) (pc' := 11) (by rfl) (by rfl) (by decide) ?_
                  refine Pa.mp 1 (pc' := 15) (l' := [(0, .int yk), (1, .int 0), (2, .int 3599)]) (st' := [.int 1]) (by rfl) ?_
                  refine Pa.iret (by rfl) ?_
                  show Pa N 153 8 [(0, .int yk)] [.int 1] yA _
                  refine Pa.iret (by rfl) ?_
                  show Pa N 212 27 [(0, .ref 69), (1, .int l), (2, .int yf), (3, .int yd), (4, .int yk), (5, .int us)] [.int 1] yA _
                  refine Pa.if1k false (by rfl) (by rfl) (by decide) ?_
                  show Pa N 212 30 [(0, .ref 69), (1, .int l), (2, .int yf), (3, .int yd), (4, .int yk), (5, .int us)] [] yA _
                  refine Pa.mp 1 (pc' := 32) (l' := [(0, .ref 69), (1, .int l), (2, .int yf), (3, .int yd), (4, .int yk), (5, .int us)]) (st' := [.int us]) (by rfl) ?_
                  refine Pa.ic (x := 1) (pc' := 33) (by rfl) (by rfl) (by decide) ?_
                  refine Pa.ic (x := 3) (pc' := 34) (by rfl) (by rfl) (by decide) ?_
                  refine Pa.ist (by rfl) (by rfl) (.inl rfl) (by rfl) (by rfl) ?_
                  show Pa N 152 0 [(0, .int us), (1, .int 1), (2, .int 3)] [] yA _
                  refine Pa.mp 2 (pc' := 2) (l' := [(0, .int us), (1, .int 1), (2, .int 3)]) (st' := [.int 1, .int us]) (by rfl) ?_
                  refine Pa.if2 (a := us.toInt) (b := 1) (t := 14) (by rfl) (by rfl) (rfl) (by decide) (fun h17 => ?_) (fun h18 => ?_)
                  · have h17 : us.toInt < 1 := h17
                    refine Pa.ic (x := 0) (pc' := 15) (by rfl) (by rfl) (by decide) ?_
                    refine Pa.iret (by rfl) ?_
                    show Pa N 212 37 [(0, .ref 69), (1, .int l), (2, .int yf), (3, .int yd), (4, .int yk), (5, .int us)] [.int 0] yA _
                    refine Pa.if1k true (by rfl) (by rfl) (by decide) ?_
                    show Pa N 212 54 [(0, .ref 69), (1, .int l), (2, .int yf), (3, .int yd), (4, .int yk), (5, .int us)] [] yA _
                    refine Pa.ic (x := (-1)) (pc' := 55) (by rfl) (by rfl) (by decide) ?_
                    refine Pa.iret (by rfl) ?_
                    exact l9 h2 h4 h6 h8 h10 h12 h14 yh16 h17
                  · have h18 : 1 ≤ us.toInt := h18
                    refine Pa.mp 2 (pc' := 7) (l' := [(0, .int us), (1, .int 1), (2, .int 3)]) (st' := [.int 3, .int us]) (by rfl) ?_
                    refine Pa.if2 (a := us.toInt) (b := 3) (t := 14) (by rfl) (by rfl) (rfl) (by decide) (fun h19 => ?_) (fun h20 => ?_)
                    · have h19 : 3 < us.toInt := h19
                      refine Pa.ic (x := 0) (pc' := 15) (by rfl) (by rfl) (by decide) ?_
                      refine Pa.iret (by rfl) ?_
                      show Pa N 212 37 [(0, .ref 69), (1, .int l), (2, .int yf), (3, .int yd), (4, .int yk), (5, .int us)] [.int 0] yA _
                      refine Pa.if1k true (by rfl) (by rfl) (by decide) ?_
                      show Pa N 212 54 [(0, .ref 69), (1, .int l), (2, .int yf), (3, .int yd), (4, .int yk), (5, .int us)] [] yA _
                      refine Pa.ic (x := (-1)) (pc' := 55) (by rfl) (by rfl) (by decide) ?_
                      refine Pa.iret (by rfl) ?_
                      exact l10 h2 h4 h6 h8 h10 h12 h14 yh16 h18 h19
                    · have h20 : us.toInt ≤ 3 := h20
                      refine Pa.ic (x := 1) (pc' := 11) (by rfl) (by rfl) (by decide) ?_
                      refine Pa.mp 1 (pc' := 15) (l' := [(0, .int us), (1, .int 1), (2, .int 3)]) (st' := [.int 1]) (by rfl) ?_
                      refine Pa.iret (by rfl) ?_
                      show Pa N 212 37 [(0, .ref 69), (1, .int l), (2, .int yf), (3, .int yd), (4, .int yk), (5, .int us)] [.int 1] yA _
                      refine Pa.if1k false (by rfl) (by rfl) (by decide) ?_
                      show Pa N 212 40 [(0, .ref 69), (1, .int l), (2, .int yf), (3, .int yd), (4, .int yk), (5, .int us)] [] yA _
                      refine Pa.mp 6 (pc' := 48) (l' := [(0, .ref 69), (1, .int l), (2, .int yf), (3, .int yd), (4, .int yk), (5, .int us)]) (st' := [.int us, .int yk, .int yd, .int yf, .int l, .ref 69]) (by rfl) ?_
                      refine Pa.inv (by rfl) (by rfl) (.inl rfl) (by rfl) ?_
                      exact l11 h2 h4 h6 h8 h10 h12 h14 yh16 h18 h20

theorem d_law (N : Nat) (yA : AW) (l yf yd yk yu : Int32) (h8 : (yA.1 38 8).toInt = -1) (hs0 : 0 ≤ (yA.1 38 7).toInt) (hs1 : (yA.1 38 7).toInt ≤ 20) (hx : ∀ yi, yi < (yA.1 38 7).toInt.toNat → txR yA yi) : Pa N 121 0 [(0, .ref 0), (1, .int l), (2, .int yf), (3, .int yd), (4, .int yk), (5, .int yu)] [] yA (dLaw l yf yd yk yu yA) := by
  have no : ¬ okLw (yA.1 5 6) l yf yd yk yu → dLaw l yf yd yk yu yA (some (.int (-1))) yA := fun yz => .inl ⟨yz, rfl, rfl⟩
  refine bx_law l yf yd yk yu ?_ ?_ ?_ ?_ ?_ ?_ ?_ ?_ ?_ ?_ ?_
  · intros; exact no (fun yz => by unfold okLw at yz; omega)
  · intros; exact no (fun yz => by unfold okLw at yz; omega)
  · intros; exact no (fun yz => by unfold okLw at yz; omega)
  · intros; exact no (fun yz => by unfold okLw at yz; omega)
  · intros; exact no (fun yz => by unfold okLw at yz; omega)
  · intros; exact no (fun yz => by unfold okLw at yz; omega)
  · intros; exact no (fun yz => by unfold okLw at yz; omega)
  · intros; exact no (fun yz => by unfold okLw at yz; omega)
  · intros; exact no (fun yz => by unfold okLw at yz; omega)
  · intros; exact no (fun yz => by unfold okLw at yz; omega)
  · intro yq1 yq2 yq3 yq4 yq5 yq6 yq7 yq8 yq9 yq10
    refine Pa.mono (c_lawOf N yA yu l yf yd yk h8 hs0 hs1 hx yq3 yq4) (fun yv A1 hv => ?_)
    have hv2 := hv
    obtain ⟨yx, rfl, -⟩ := hv
    refine Pa.iret (by rfl) ?_
    exact .inr ⟨⟨yq1, yq2, yq3, yq4, yq5, yq6, yq7, yq8, yq9, yq10⟩, hv2⟩
theorem e_law (N : Nat) (yA : AW) (l yf yd yk yu : Int32) (h8 : (yA.1 69 69).toInt = -1) (hs0 : 0 ≤ (yA.1 69 45).toInt) (hs1 : (yA.1 69 45).toInt ≤ 20) (hx : ∀ yi, yi < (yA.1 69 45).toInt.toNat → txR yA yi) (yhT : (yA.1 69 31).toInt ≤ 150) : Pa N 212 0 [(0, .ref 69), (1, .int l), (2, .int yf), (3, .int yd), (4, .int yk), (5, .int yu)] [] yA (eLaw l yf yd yk yu yA) := by
  have no : ¬ okLw (yA.1 69 11) l yf yd yk yu → eLaw l yf yd yk yu yA (some (.int (-1))) yA := fun yz => .inl ⟨yz, rfl⟩
  refine bm_law l yf yd yk yu ?_ ?_ ?_ ?_ ?_ ?_ ?_ ?_ ?_ ?_ ?_
  · intros; exact no (fun yz => by unfold okLw at yz; omega)
  · intros; exact no (fun yz => by unfold okLw at yz; omega)
  · intros; exact no (fun yz => by unfold okLw at yz; omega)
  · intros; exact no (fun yz => by unfold okLw at yz; omega)
  · intros; exact no (fun yz => by unfold okLw at yz; omega)
  · intros; exact no (fun yz => by unfold okLw at yz; omega)
  · intros; exact no (fun yz => by unfold okLw at yz; omega)
  · intros; exact no (fun yz => by unfold okLw at yz; omega)
  · intros; exact no (fun yz => by unfold okLw at yz; omega)
  · intros; exact no (fun yz => by unfold okLw at yz; omega)
  · intro yq1 yq2 yq3 yq4 yq5 yq6 yq7 yq8 yq9 yq10
    refine Pa.mono (c_lawM N yA yu l yf yd yk h8 hs0 hs1 hx yhT yq9 yq10) (fun yv A1 hv => ?_)
    have hv2 := hv
    obtain ⟨yy, rfl, -⟩ := hv
    refine Pa.mp 1 (pc' := 55) (l' := [(0, .ref 69), (1, .int l), (2, .int yf), (3, .int yd), (4, .int yk), (5, .int yu)]) (st' := [.int yy]) (by rfl) ?_
    refine Pa.iret (by rfl) ?_
    exact .inr ⟨⟨yq1, yq2, yq3, yq4, yq5, yq6, yq7, yq8, yq9, yq10⟩, hv2⟩
theorem cl_mx {ym yv : Int32} (yhm : 0 < ym.toInt) : i_max 0 (i_min yv ym) = clM ym yv := by
  have z0 : (0 : Int32).toInt = 0 := by decide
  unfold i_max i_min clM
  by_cases yh : ym.toInt < yv.toInt
  · rw [if_pos (Int32.lt_iff_toInt_lt.mpr yh), if_pos (Int32.lt_iff_toInt_lt.mpr (by rw [z0]; exact yhm)), if_neg (by omega), if_pos yh]
  · rw [if_neg (fun yq => yh (Int32.lt_iff_toInt_lt.mp yq))]
    by_cases h0 : 0 < yv.toInt
    · rw [if_pos (Int32.lt_iff_toInt_lt.mpr (by rw [z0]; exact h0)), if_neg (by omega), if_neg yh]
    · rw [if_neg (fun yq => h0 (by have := Int32.lt_iff_toInt_lt.mp yq; omega))]
      by_cases h1 : yv.toInt < 0
      · rw [if_pos h1]
      · rw [if_neg h1, if_neg yh]
        exact i32_ext (by rw [z0]; omega)
theorem cl_eq {yu yv : Int32} (h1 : 1 ≤ yu.toInt) (h2 : yu.toInt ≤ 3) : clX yu yv = clM (if yu.toInt = 1 then 100 else 99999999) yv := by
  unfold clX
  rw [if_neg (by omega)]
  by_cases yh : yu.toInt = 1
  · rw [if_pos yh, if_pos yh]
    exact cl_mx (by decide)
  · rw [if_neg yh, if_neg yh]
    exact cl_mx (by decide)
theorem tab_eq {yu : Int32} (h1 : 1 ≤ yu.toInt) (h2 : yu.toInt ≤ 3) : x_tab 3 yu.toInt.toNat = (if yu.toInt = 1 then 30 else if yu.toInt = 2 then 0 else 99999999) := by
  rcases (by omega : yu.toInt = 1 ∨ yu.toInt = 2 ∨ yu.toInt = 3) with yh | yh | yh
  · rw [if_pos yh, yh]; rfl
  · rw [if_neg (by omega), if_pos yh, yh]; rfl
  · rw [if_neg (by omega), if_neg (by omega), yh]; rfl
/-- the ytext that stands is the same one -/
theorem ltG_rel {yA : AW} (yf1 : yA.1 38 7 = yA.1 69 45) (hR : eqRs Art yA) (yhT : (yA.1 69 45).toInt ≤ 20) (yw yd yk : Int32) : ltG (gdT 40 yA yw yd yk) (yA.1 38 7).toInt.toNat = ltG (gdT 102 yA yw yd yk) (yA.1 69 45).toInt.toNat := by
  rw [yf1]
  refine ltG_cg _ (fun yj hj => ?_)
  have r0 : yA.1 40 yj = yA.1 102 yj := hR (40, 102) (by simp [Art]) 20 (by decide +kernel) yj (by omega)
  have yr1 : yA.1 41 yj = yA.1 103 yj := hR (41, 103) (by simp [Art]) 20 (by decide +kernel) yj (by omega)
  have r2 : yA.1 42 yj = yA.1 104 yj := hR (42, 104) (by simp [Art]) 20 (by decide +kernel) yj (by omega)
  unfold gdT
  rw [r0, show yA.1 (40 + 1) yj = yA.1 (102 + 1) yj from yr1, show yA.1 (40 + 2) yj = yA.1 (102 + 2) yj from r2]
/-- the lands of ya film are counted alike -/
theorem lnd_rel {yA : AW} (hA : okA yA) (hL : R34 yA) {yf : Int32} (h0 : 0 ≤ yf.toInt) (h1 : yf.toInt < 20) : bcX (yA.1 34 yf.toInt.toNat) = cnM (lnB yA yf (cT yA)) := by
  have yhT := (hA.fld (i := 69) (k := 31) (lo := 0) (hi := 150) (by decide +kernel))
  have ye := hL yf.toInt.toNat (by omega)
  rw [i32_of h0] at ye
  obtain ⟨ym, yhm⟩ := lnB_64 (yA := yA) (yf := yf) (cT yA) (fun yc yhc => hA.per (i := 90) (t := 0) (n := 1050) (j := 7 * yc + 2) (a := 0) (b := 0) (lo := 0) (hi := 5) (by rfl) (by unfold cT at yhc; omega) (by
    show (0, zZ.2.2.getD ((7 * yc + 2) % 7) (0, 0)) = ((0 : Nat), ((0 : Int), (5 : Int)))
    rw [show (7 * yc + 2) % 7 = 2 from by omega]
    decide +kernel))
  rw [ye, yhm]
  exact bc_cn ym
/-- what the reference's law is ytold of the world behind the class's -/
theorem lm_lw {yA A1 : AW} (hw : lwW yA A1) (yw yd yk : Int32) : ltG (gdT 102 A1 yw yd yk) (A1.1 69 45).toInt.toNat = ltG (gdT 102 yA yw yd yk) (yA.1 69 45).toInt.toNat := by
  rw [lwW_c hw (by decide) (by decide) (by decide)]
  refine ltG_cg _ (fun yj _ => ?_)
  unfold gdT
  rw [lwW_c hw (yc := 102) (by decide) (by decide) (by decide), lwW_c hw (yc := 102 + 1) (by decide) (by decide) (by decide), lwW_c hw (yc := 102 + 2) (by decide) (by decide) (by decide)]
theorem txD_lw {yA A1 : AW} (hw : lwW yA A1) {yq : Nat} {ds : List Int32} (yh : txD A1 yq ds) : txD yA yq ds := by
  obtain ⟨yn, yd, b1, b2, b3⟩ := yh
  exact ⟨yn, yd, by rw [← lwW_c hw (yc := 101) (by decide) (by decide) (by decide)]; exact b1, b2, RT_cg (fun yj _ => lwW_c hw (by decide) (by decide) (by decide)) b3⟩
theorem pts_lw {yA A1 : AW} (hw : lwW yA A1) (yf l yk : Int32) : ptsM A1 yf l yk = ptsM yA yf l yk := by
  unfold ptsM
  rw [lwW_c hw (by decide) (by decide) (by decide)]
  refine sumN_congr (fun yj _ => ?_)
  unfold ptFM
  rw [lwW_c hw (yc := 84) (by decide) (by decide) (by decide), lwW_c hw (yc := 85) (by decide) (by decide) (by decide), lwW_c hw (yc := 86) (by decide) (by decide) (by decide), lwW_c hw (yc := 87) (by decide) (by decide) (by decide)]
theorem lnB_lw {yA A1 : AW} (hw : lwW yA A1) (yf : Int32) : lnB A1 yf (cT A1) = lnB yA yf (cT yA) := by
  have ye : cT A1 = cT yA := by
    unfold cT
    rw [lwW_c hw (by decide) (by decide) (by decide)]
  rw [ye]
  exact lnB_cg _ (fun yj _ => lwW_c hw (by decide) (by decide) (by decide))
theorem k_law {yA A1 : AW} {l yf yd yk yu yx yy : Int32} {v2 : AW} (hA : okA yA) (hF : eqF Fe yA) (hR : eqRs Are yA) (hX : RXe yA) (hk : yk.toInt ≤ 3599) (hu1 : 1 ≤ yu.toInt) (hu2 : yu.toInt ≤ 3) (hf0 : 0 ≤ yf.toInt) (hf1 : yf.toInt < (yA.1 5 6).toInt) (ys1 : lwP yA yu l yf yd yk (some (.int yx)) A1) (ys2 : lmP A1 yu l yf yd yk (some (.int yy)) v2) : yx = yy := by
  have yf1 : yA.1 38 7 = yA.1 69 45 := hF ((38, 7), (69, 45)) (by simp [Fe, Ft])
  have yf7 : yA.1 5 7 = yA.1 69 24 := hF ((5, 7), (69, 24)) (by simp [Fe, F14])
  have g1 := hA.fld (i := 69) (k := 45) (lo := 0) (hi := 20) (by decide +kernel)
  have g2 := hA.fld (i := 69) (k := 24) (lo := 0) (hi := 100) (by decide +kernel)
  have yg3 := hA.fld (i := 5) (k := 6) (lo := 0) (hi := 20) (by decide +kernel)
  have hRt : eqRs Art yA := fun yp hp => hR yp (by simp only [Are, List.mem_append]; exact .inr (.inr hp))
  have r77 : yA.1 7 yf.toInt.toNat = yA.1 77 yf.toInt.toNat := hR (7, 77) (by simp [Are, Arc]) 20 (by decide +kernel) _ (by omega)
  obtain ⟨x', ye1, hw, ys1⟩ := ys1
  obtain ⟨y', ye2, -, ys2⟩ := ys2
  cases some_int ye1
  cases some_int ye2
  rw [lm_lw hw, show (10 : Int32) * l = l * 10 from Int32.mul_comm _ _, ← ltG_rel yf1 hRt g1.2] at ys2
  rcases ys1 with ⟨ya1, a2⟩ | ⟨yq, ds, ya1, a2, a3⟩
  · rcases ys2 with ⟨b1, b2⟩ | ⟨yq2, es, b1, b2, b3⟩
    · rw [a2, b2, tab_eq hu1 hu2]
    · rw [ya1] at b1
      cases b1
  · rcases ys2 with ⟨b1, b2⟩ | ⟨yq2, es, b1, b2, b3⟩
    · rw [ya1] at b1
      cases b1
    · rw [ya1] at b1
      cases b1
      cases txD_one a2 (txD_lw hw b2)
      rw [a3, b3, cl_eq hu1 hu2, pts_lw hw, lnB_lw hw, pts_eq hX.1.2.1 yf7 g2.2 hk, lnd_rel hA hX.1.1.2 hf0 (by omega), r77, lwW_c hw (yc := 77) (by decide) (by decide) (by decide)]
theorem h_law {yp : zPr} (hp : yp.1 = 121 ∧ yp.2.1 = 212 ∧ yp.2.2.1 = 5) (yhc : c_rm yp = true) (yq1 : (ri_wr zZ Fe Are (c_get1 yp.1 0 yp.2.2.1).2.2.2 && kRe (c_get1 yp.1 0 yp.2.2.1).2.2.2) = true) (yq2 : (ri_wr zZ Fe Are (c_get1 yp.2.1 69 yp.2.2.1).2.2.2 && kRe (c_get1 yp.2.1 69 yp.2.2.1).2.2.2) = true) : PairOK (RR Fe Are RXe) yp := by
  obtain ⟨yp1, yp2, yp3⟩ := hp
  refine pairF (D := on5 dLaw) (E := on5 eLaw) (by decide +kernel) (by decide +kernel) yhc keepE yq1 yq2 (fun N yA yas o hF _ hX hl => ?_) (fun N yA yas o hF _ hX hl => ?_) (fun yA A1 A2 yas yx yy o _ _ hF hR hX hF1 _ _ hl ys1 ys2 _ => ?_)
  · rw [yp3] at hl
    obtain ⟨l, yf, yd, yk, yu, rfl⟩ := as5 hl
    have yf1 : yA.1 38 7 = yA.1 69 45 := hF ((38, 7), (69, 45)) (by simp [Fe, Ft])
    have yg := o.fld (i := 38) (k := 7) (lo := 0) (hi := 20) (by decide +kernel)
    rw [yp1]
    exact d_law N yA l yf yd yk yu hX.2.1 yg.1 yg.2 (fun yi yhi => hX.1.2.2.2 yi (by unfold tT; rw [← yf1]; exact yhi))
  · rw [yp3] at hl
    obtain ⟨l, yf, yd, yk, yu, rfl⟩ := as5 hl
    have yg := o.fld (i := 69) (k := 45) (lo := 0) (hi := 20) (by decide +kernel)
    have gT := o.fld (i := 69) (k := 31) (lo := 0) (hi := 150) (by decide +kernel)
    rw [yp2]
    exact e_law N yA l yf yd yk yu hX.2.2 yg.1 yg.2 (fun yi yhi => hX.1.2.2.2 yi yhi) gT.2
  · rw [yp3] at hl
    obtain ⟨l, yf, yd, yk, yu, rfl⟩ := as5 hl
    have yf6 : yA.1 5 6 = yA.1 69 11 := hF ((5, 6), (69, 11)) (by simp [Fe, Fc])
    rcases ys1 with ⟨ya1, a2, rfl⟩ | ⟨ya1, a2⟩
    · rcases ys2 with ⟨b1, b2⟩ | ⟨b1, b2⟩
      · rw [some_int a2, some_int b2]
      · rw [← yf6] at b1
        exact absurd b1 ya1
    · obtain ⟨z1, z2, z3, z4, z5, z6, z7, z8, z9, z10⟩ := ya1
      have hw : lwW yA A1 := by
        obtain ⟨_, _, hw, _⟩ := a2
        exact hw
      have ye11 : A1.1 69 11 = yA.1 69 11 := lwW_c hw (by decide) (by decide) (by decide)
      rcases ys2 with ⟨b1, b2⟩ | ⟨b1, b2⟩
      · rw [ye11, ← yf6] at b1
        exact absurd ⟨z1, z2, z3, z4, z5, z6, z7, z8, z9, z10⟩ b1
      · exact k_law o hF hR hX z8 z9 z10 z3 z4 a2 b2
