/-! SPLITS: the pairs -/
/-- what yboth sides hold alike yfor splits -/
def Rsx (yA : AW) : Prop := Rgx yA ∧ Rtr yA ∧ (∀ yj, yj < 9 → yA.1 62 yj = yA.1 122 yj) ∧ (∀ yj, yj < 9 → yA.1 63 yj = yA.1 123 yj)
theorem Rsx.gx {yA : AW} (yh : Rsx yA) : Rgx yA := yh.1
theorem Rsx.tr {yA : AW} (yh : Rsx yA) : Rtr yA := yh.2.1
theorem Rsx.r62 {yA : AW} (yh : Rsx yA) : ∀ yj, yj < 9 → yA.1 62 yj = yA.1 122 yj := yh.2.2.1
theorem Rsx.r63 {yA : AW} (yh : Rsx yA) : ∀ yj, yj < 9 → yA.1 63 yj = yA.1 123 yj := yh.2.2.2
theorem Rsx.tV {yA : AW} (yg : Rsx yA) : 0 ≤ (yA.1 69 76).toInt ∧ (yA.1 69 76).toInt ≤ 9 := yg.gx.gl.ok.fld (i := 69) (k := 76) (lo := 0) (hi := 9) (by decide +kernel)
def qN (yA : AW) : Nat := (yA.1 69 76).toInt.toNat
def bN (yb : Int32) : Nat := yb.toInt.toNat
def mB (yA : AW) (yi : Nat) : Nat := (yA.1 123 yi).toInt.toNat
theorem Rsx.n9 {yA : AW} (yg : Rsx yA) : (yA.1 69 76).toInt = (qN yA : Int) ∧ qN yA ≤ 9 := by
  have := yg.tV
  unfold qN
  omega
theorem Rsx.yC {yA : AW} (yg : Rsx yA) : ∀ yi, yi < qN yA → 0 ≤ (yA.1 122 yi).toInt ∧ (yA.1 122 yi).toInt ≤ 9999 := fun yi yhi => by
  have := yg.tr.2.2.2.2.2 yi yhi
  omega
theorem Rsx.yM {yA : AW} (yg : Rsx yA) : ∀ yi, yi < qN yA → yA.1 123 yi = Int32.ofNat (mB yA yi) ∧ mB yA yi < 64 := fun yi yhi => by
  have := yg.tr.2.2.2.2.2 yi yhi
  unfold mB
  exact ⟨i32_ext (by rw [i32_nat (by omega)]; omega), by omega⟩
noncomputable def sF (yA : AW) (yf yb ym : Int32) : wS := fS (yA.1 122) (rtV yA yf) (mB yA) (bN yb) (cb (bN yb) 6) (qN yA) (ym * sumN (yA.1 122) (qN yA)) (cb (bN yb) 6 ^ qN yA)
noncomputable def s0F (yA : AW) (yf yb : Int32) : wS := fS (yA.1 122) (rtV yA yf) (mB yA) (bN yb) (cb (bN yb) 6) (qN yA) 0 (cb (bN yb) 6 ^ qN yA)
def okSp (yF yf yb ym : Int32) : Prop := (0 ≤ yf.toInt ∧ yf.toInt < yF.toInt) ∧ (0 ≤ yb.toInt ∧ yb.toInt ≤ 63) ∧ (2 ≤ cb (bN yb) 6 ∧ cb (bN yb) 6 ≤ 3) ∧ 0 ≤ ym.toInt ∧ ym.toInt ≤ 50
def dSp (yf yb ym : Int32) (yA : AW) (yu : Option Value) (yU : AW) : Prop := (¬ okSp (yA.1 69 11) yf yb ym ∧ yu = some (.int (-1)) ∧ yU = yA) ∨ (okSp (yA.1 69 11) yf yb ym ∧ fbQ yA (yA.1 122) (rtV yA yf) (mB yA) (bN yb) (cb (bN yb) 6) (qN yA) (ym * sumN (yA.1 122) (qN yA)) yA yu yU)
theorem bN_eq {yb : Int32} (h0 : 0 ≤ yb.toInt) (h1 : yb.toInt ≤ 63) : yb = Int32.ofNat (bN yb) ∧ bN yb < 64 := by
  unfold bN
  exact ⟨i32_ext (by rw [i32_nat (by omega)]; omega), by omega⟩
theorem bc_cb {yb : Int32} (h0 : 0 ≤ yb.toInt) (h1 : yb.toInt ≤ 63) : (bcX yb).toInt = (cb (bN yb) 6 : Int) ∧ (cnM yb).toInt = (cb (bN yb) 6 : Int) := by
  have ye := bN_eq h0 h1
  have yh := cb_6 ⟨bN yb, ye.2⟩
  have h2 : (cnM (Int32.ofNat (bN yb))).toInt = (cb (bN yb) 6 : Int) := yh.2.1
  have h3 : (bcX (Int32.ofNat (bN yb))).toInt = (cb (bN yb) 6 : Int) := yh.2.2
  rw [← ye.1] at h2 h3
  exact ⟨h3, h2⟩
theorem bx_spl {N : Nat} {yA : AW} {yQ : Option Value → AW → Prop} (yf yb ym : Int32)
    (l1 : yf.toInt < 0 → yQ (some (.int (-1))) yA)
    (l2 : 0 ≤ yf.toInt → (yA.1 5 6).toInt ≤ yf.toInt → yQ (some (.int (-1))) yA)
    (l3 : 0 ≤ yf.toInt → yf.toInt < (yA.1 5 6).toInt → yb.toInt < 1 → yQ (some (.int (-1))) yA)
    (l4 : 0 ≤ yf.toInt → yf.toInt < (yA.1 5 6).toInt → 1 ≤ yb.toInt → 63 < yb.toInt → yQ (some (.int (-1))) yA)
    (l5 : 0 ≤ yf.toInt → yf.toInt < (yA.1 5 6).toInt → 1 ≤ yb.toInt → yb.toInt ≤ 63 → ym.toInt < 0 → yQ (some (.int (-1))) yA)
    (l6 : 0 ≤ yf.toInt → yf.toInt < (yA.1 5 6).toInt → 1 ≤ yb.toInt → yb.toInt ≤ 63 → 0 ≤ ym.toInt → 50 < ym.toInt → yQ (some (.int (-1))) yA)
    (l7 : 0 ≤ yf.toInt → yf.toInt < (yA.1 5 6).toInt → 1 ≤ yb.toInt → yb.toInt ≤ 63 → 0 ≤ ym.toInt → ym.toInt ≤ 50 → (bcX yb).toInt < 2 → yQ (some (.int (-1))) yA)
    (l8 : 0 ≤ yf.toInt → yf.toInt < (yA.1 5 6).toInt → 1 ≤ yb.toInt → yb.toInt ≤ 63 → 0 ≤ ym.toInt → ym.toInt ≤ 50 → 2 ≤ (bcX yb).toInt → 3 < (bcX yb).toInt → yQ (some (.int (-1))) yA)
    (l9 : 0 ≤ yf.toInt → yf.toInt < (yA.1 5 6).toInt → 1 ≤ yb.toInt → yb.toInt ≤ 63 → 0 ≤ ym.toInt → ym.toInt ≤ 50 → 2 ≤ (bcX yb).toInt → (bcX yb).toInt ≤ 3 → Pa N 92 0 [(0, .ref 61), (1, .int yf), (2, .int yb), (3, .int ym), (4, .int (yA.1 0 10))] [] yA (fun yu A1 => Pa N 132 61 [(0, .ref 0), (1, .int yf), (2, .int yb), (3, .int ym)] (yu.toList ++ []) A1 yQ)) :
    Pa N 132 0 [(0, .ref 0), (1, .int yf), (2, .int yb), (3, .int ym)] [] yA yQ := by
  refine Pa.mp 1 (pc' := 1) (l' := [(0, .ref 0), (1, .int yf), (2, .int yb), (3, .int ym)]) (st' := [.ref 0]) (by rfl) ?_
  refine Pa.gfR (by rfl) (by rfl) (.inl rfl) (by rfl) ?_
  show Pa N 132 4 [(0, .ref 0), (1, .int yf), (2, .int yb), (3, .int ym)] [.ref 5] yA _
  refine Pa.mp 1 (pc' := 5) (l' := [(0, .ref 0), (1, .int yf), (2, .int yb), (3, .int ym)]) (st' := [.int yf, .ref 5]) (by rfl) ?_
  refine Pa.inv (by rfl) (by rfl) (.inr rfl) (by rfl) ?_
  show Pa N 41 0 [(0, .ref 5), (1, .int yf)] [] yA _
  refine Pa.mp 1 (pc' := 1) (l' := [(0, .ref 5), (1, .int yf)]) (st' := [.int yf]) (by rfl) ?_
  refine Pa.if1 (a := yf.toInt) (t := 16) (by rfl) (by rfl) (rfl) (fun h1 => ?_) (fun h2 => ?_)
  · have h1 : yf.toInt < 0 := h1
    refine Pa.ic (x := 0) (pc' := 17) (by rfl) (by rfl) (by decide) ?_
    refine Pa.iret (by rfl) ?_
    show Pa N 132 8 [(0, .ref 0), (1, .int yf), (2, .int yb), (3, .int ym)] [.int 0] yA _
    refine Pa.if1k true (by rfl) (by rfl) (by decide) ?_
    show Pa N 132 31 [(0, .ref 0), (1, .int yf), (2, .int yb), (3, .int ym)] [] yA _
    refine Pa.ic (x := (-1)) (pc' := 32) (by rfl) (by rfl) (by decide) ?_
    refine Pa.iret (by rfl) ?_
    exact l1 h1
  · have h2 : 0 ≤ yf.toInt := h2
    refine Pa.mp 2 (pc' := 6) (l' := [(0, .ref 5), (1, .int yf)]) (st' := [.ref 5, .int yf]) (by rfl) ?_
    refine Pa.gfI (v := yA.1 5 6) (by rfl) (by rfl) (.inl rfl) (by rfl) (by rfl) ?_
    refine Pa.if2 (a := yf.toInt) (b := (yA.1 5 6).toInt) (t := 16) (by rfl) (by rfl) (rfl) (rfl) (fun h3 => ?_) (fun h4 => ?_)
    · have h3 : (yA.1 5 6).toInt ≤ yf.toInt := h3
      refine Pa.ic (x := 0) (pc' := 17) (by rfl) (by rfl) (by decide) ?_
      refine Pa.iret (by rfl) ?_
      show Pa N 132 8 [(0, .ref 0), (1, .int yf), (2, .int yb), (3, .int ym)] [.int 0] yA _
      refine Pa.if1k true (by rfl) (by rfl) (by decide) ?_
      show Pa N 132 31 [(0, .ref 0), (1, .int yf), (2, .int yb), (3, .int ym)] [] yA _
      refine Pa.ic (x := (-1)) (pc' := 32) (by rfl) (by rfl) (by decide) ?_
      refine Pa.iret (by rfl) ?_
      exact l2 h2 h3
    · have h4 : yf.toInt < (yA.1 5 6).toInt := h4
      refine Pa.ic (x := 1) (pc' := 13) (by rfl) (by rfl) (by decide) ?_
      refine Pa.mp 1 (pc' := 17) (l' := [(0, .ref 5), (1, .int yf)]) (st' := [.int 1]) (by rfl) ?_
      refine Pa.iret (by rfl) ?_
      show Pa N 132 8 [(0, .ref 0), (1, .int yf), (2, .int yb), (3, .int ym)] [.int 1] yA _
      refine Pa.if1k false (by rfl) (by rfl) (by decide) ?_
      show Pa N 132 11 [(0, .ref 0), (1, .int yf), (2, .int yb), (3, .int ym)] [] yA _
      refine Pa.mp 1 (pc' := 12) (l' := [(0, .ref 0), (1, .int yf), (2, .int yb), (3, .int ym)]) (st' := [.int yb]) (by rfl) ?_
      refine Pa.ic (x := 1) (pc' := 13) (by rfl) (by rfl) (by decide) ?_
      refine Pa.ic (x := 63) (pc' := 15) (by rfl) (by rfl) (by decide) ?_
      refine Pa.ist (by rfl) (by rfl) (.inl rfl) (by rfl) (by rfl) ?_
      show Pa N 146 0 [(0, .int yb), (1, .int 1), (2, .int 63)] [] yA _
      refine Pa.mp 2 (pc' := 2) (l' := [(0, .int yb), (1, .int 1), (2, .int 63)]) (st' := [.int 1, .int yb]) (by rfl) ?_
      refine Pa.if2 (a := yb.toInt) (b := 1) (t := 14) (by rfl) (by rfl) (rfl) (by decide) (fun h5 => ?_) (fun h6 => ?_)
      · have h5 : yb.toInt < 1 := h5
        refine Pa.ic (x := 0) (pc' := 15) (by rfl) (by rfl) (by decide) ?_
        refine Pa.iret (by rfl) ?_
        show Pa N 132 18 [(0, .ref 0), (1, .int yf), (2, .int yb), (3, .int ym)] [.int 0] yA _
        refine Pa.if1k true (by rfl) (by rfl) (by decide) ?_
        show Pa N 132 31 [(0, .ref 0), (1, .int yf), (2, .int yb), (3, .int ym)] [] yA _
        refine Pa.ic (x := (-1)) (pc' := 32) (by rfl) (by rfl) (by decide) ?_
        refine Pa.iret (by rfl) ?_
        exact l3 h2 h4 h5
      · have h6 : 1 ≤ yb.toInt := h6
        refine Pa.mp 2 (pc' := 7) (l' := [(0, .int yb), (1, .int 1), (2, .int 63)]) (st' := [.int 63, .int yb]) (by rfl) ?_
        refine Pa.if2 (a := yb.toInt) (b := 63) (t := 14) (by rfl) (by rfl) (rfl) (by decide) (fun h7 => ?_) (fun h8 => ?_)
        · have h7 : 63 < yb.toInt := h7
          refine Pa.ic (x := 0) (pc' := 15) (by rfl) (by rfl) (by decide) ?_
          refine Pa.iret (by rfl) ?_
          show Pa N 132 18 [(0, .ref 0), (1, .int yf), (2, .int yb), (3, .int ym)] [.int 0] yA _
          refine Pa.if1k true (by rfl) (by rfl) (by decide) ?_
          show Pa N 132 31 [(0, .ref 0), (1, .int yf), (2, .int yb), (3, .int ym)] [] yA _
          refine Pa.ic (x := (-1)) (pc' := 32) (by rfl) (by rfl) (by decide) ?_
          refine Pa.iret (by rfl) ?_
          exact l4 h2 h4 h6 h7
        · have h8 : yb.toInt ≤ 63 := h8
          refine Pa.ic (x := 1) (pc' := 11) (by rfl) (by rfl) (by decide) ?_
          refine Pa.mp 1 (pc' := 15) (l' := [(0, .int yb), (1, .int 1), (2, .int 63)]) (st' := [.int 1]) (by rfl) ?_
          refine Pa.iret (by rfl) ?_
          show Pa N 132 18 [(0, .ref 0), (1, .int yf), (2, .int yb), (3, .int ym)] [.int 1] yA _
          refine Pa.if1k false (by rfl) (by rfl) (by decide) ?_
          show Pa N 132 21 [(0, .ref 0), (1, .int yf), (2, .int yb), (3, .int ym)] [] yA _
          refine Pa.mp 1 (pc' := 22) (l' := [(0, .ref 0), (1, .int yf), (2, .int yb), (3, .int ym)]) (st' := [.int ym]) (by rfl) ?_
          refine Pa.ic (x := 0) (pc' := 23) (by rfl) (by rfl) (by decide) ?_
          refine Pa.ic (x := 50) (pc' := 25) (by rfl) (by rfl) (by decide) ?_
          refine Pa.ist (by rfl) (by rfl) (.inl rfl) (by rfl) (by rfl) ?_
          show Pa N 146 0 [(0, .int ym), (1, .int 0), (2, .int 50)] [] yA _
          refine Pa.mp 2 (pc' := 2) (l' := [(0, .int ym), (1, .int 0), (2, .int 50)]) (st' := [.int 0, .int ym]) (by rfl) ?_
          refine Pa.if2 (a := ym.toInt) (b := 0) (t := 14) (by rfl) (by rfl) (rfl) (by decide) (fun h9 => ?_) (fun h10 => ?_)
          · have h9 : ym.toInt < 0 := h9
            refine Pa.ic (x := 0) (pc' := 15) (by rfl) (by rfl) (by decide) ?_
            refine Pa.iret (by rfl) ?_
            show Pa N 132 28 [(0, .ref 0), (1, .int yf), (2, .int yb), (3, .int ym)] [.int 0] yA _
            refine Pa.if1k false (by rfl) (by rfl) (by decide) ?_
            show Pa N 132 31 [(0, .ref 0), (1, .int yf), (2, .int yb), (3, .int ym)] [] yA _
            refine Pa.ic (x := (-1)) (pc' := 32) (by rfl) (by rfl) (by decide) ?_
            refine Pa.iret (by rfl) ?_
            exact l5 h2 h4 h6 h8 h9
          · have h10 : 0 ≤ ym.toInt := h10
            refine Pa.mp 2 (pc' := 7) (l' := [(0, .int ym), (1, .int 0), (2, .int 50)]) (st' := [.int 50, .int ym]) (by rfl) ?_
            refine Pa.if2 (a := ym.toInt) (b := 50) (t := 14) (by rfl) (by rfl) (rfl) (by decide) (fun h11 => ?_) (fun h12 => ?_)
            · have h11 : 50 < ym.toInt := h11
              refine Pa.ic (x := 0) (pc' := 15) (by rfl) (by rfl) (by decide) ?_
              refine Pa.iret (by rfl) ?_
              show Pa N 132 28 [(0, .ref 0), (1, .int yf), (2, .int yb), (3, .int ym)] [.int 0] yA _
              refine Pa.if1k false (by rfl) (by rfl) (by decide) ?_
              show Pa N 132 31 [(0, .ref 0), (1, .int yf), (2, .int yb), (3, .int ym)] [] yA _
              refine Pa.ic (x := (-1)) (pc' := 32) (by rfl) (by rfl) (by decide) ?_
              refine Pa.iret (by rfl) ?_
              exact l6 h2 h4 h6 h8 h10 h11
            · have h12 : ym.toInt ≤ 50 := h12
              refine Pa.ic (x := 1) (pc' := 11) (by rfl) (by rfl) (by decide) ?_
              refine Pa.mp 1 (pc' := 15) (l' := [(0, .int ym), (1, .int 0), (2, .int 50)]) (st' := [.int 1]) (by rfl) ?_
              refine Pa.iret (by rfl) ?_
              show Pa N 132 28 [(0, .ref 0), (1, .int yf), (2, .int yb), (3, .int ym)] [.int 1] yA _
              refine Pa.if1k true (by rfl) (by rfl) (by decide) ?_
              show Pa N 132 33 [(0, .ref 0), (1, .int yf), (2, .int yb), (3, .int ym)] [] yA _
              refine Pa.mp 1 (pc' := 34) (l' := [(0, .ref 0), (1, .int yf), (2, .int yb), (3, .int ym)]) (st' := [.int yb]) (by rfl) ?_
              refine Pa.ist (by rfl) (by rfl) (.inl rfl) (by rfl) (by rfl) ?_
              refine Pa.mono (c_bits N yA yb) (fun yu A1 hu => ?_)
              obtain ⟨rfl, hu⟩ := hu
              rw [hu]
              show Pa N 132 37 [(0, .ref 0), (1, .int yf), (2, .int yb), (3, .int ym)] [.int (bcX yb)] yA _
              refine Pa.ic (x := 2) (pc' := 38) (by rfl) (by rfl) (by decide) ?_
              refine Pa.ic (x := 3) (pc' := 39) (by rfl) (by rfl) (by decide) ?_
              refine Pa.ist (by rfl) (by rfl) (.inl rfl) (by rfl) (by rfl) ?_
              show Pa N 146 0 [(0, .int (bcX yb)), (1, .int 2), (2, .int 3)] [] yA _
              refine Pa.mp 2 (pc' := 2) (l' := [(0, .int (bcX yb)), (1, .int 2), (2, .int 3)]) (st' := [.int 2, .int (bcX yb)]) (by rfl) ?_
              refine Pa.if2 (a := (bcX yb).toInt) (b := 2) (t := 14) (by rfl) (by rfl) (rfl) (by decide) (fun h13 => ?_) (fun h14 => ?_)
              · have h13 : (bcX yb).toInt < 2 := h13
                refine Pa.ic (x := 0) (pc' := 15) (by rfl) (by rfl) (by decide) ?_
                refine Pa.iret (by rfl) ?_
                show Pa N 132 42 [(0, .ref 0), (1, .int yf), (2, .int yb), (3, .int ym)] [.int 0] yA _
                refine Pa.if1k false (by rfl) (by rfl) (by decide) ?_
                show Pa N 132 45 [(0, .ref 0), (1, .int yf), (2, .int yb), (3, .int ym)] [] yA _
                refine Pa.ic (x := (-1)) (pc' := 46) (by rfl) (by rfl) (by decide) ?_
                refine Pa.iret (by rfl) ?_
                exact l7 h2 h4 h6 h8 h10 h12 h13
              · have h14 : 2 ≤ (bcX yb).toInt := h14
                refine Pa.mp 2 (pc' := 7) (l' := [(0, .int (bcX yb)), (1, .int 2), (2, .int 3)]) (st' := [.int 3, .int (bcX yb)]) (by rfl) ?_
                refine Pa.if2 (a := (bcX yb).toInt) (b := 3) (t := 14) (by rfl) (by rfl) (rfl) (by decide) (fun h15 => ?_) (fun yh16 => ?_)
                · have h15 : 3 < (bcX yb).toInt := h15
                  refine Pa.ic (x := 0) (pc' := 15) (by rfl) (by rfl) (by decide) ?_
                  refine Pa.iret (by rfl) ?_
                  show Pa N 132 42 [(0, .ref 0), (1, .int yf), (2, .int yb), (3, .int ym)] [.int 0] yA _
                  refine Pa.if1k false (by rfl) (by rfl) (by decide) ?_
                  show Pa N 132 45 [(0, .ref 0), (1, .int yf), (2, .int yb), (3, .int ym)] [] yA _
                  refine Pa.ic (x := (-1)) (pc' := 46) (by rfl) (by rfl) (by decide) ?_
                  refine Pa.iret (by rfl) ?_
                  exact l8 h2 h4 h6 h8 h10 h12 h14 h15
                · have yh16 : (bcX yb).toInt ≤ 3 := yh16
                  refine Pa.ic (x := 1) (pc' := 11) (by rfl) (by rfl) (by decide) ?_
                  refine Pa.mp 1 (pc' := 15) (l' := [(0, .int (bcX yb)), (1, .int 2), (2, .int 3)]) (st' := [.int 1]) (by rfl) ?_
                  refine Pa.iret (by rfl) ?_
                  show Pa N 132 42 [(0, .ref 0), (1, .int yf), (2, .int yb), (3, .int ym)] [.int 1] yA _
                  refine Pa.if1k true (by rfl) (by rfl) (by decide) ?_
                  show Pa N 132 47 [(0, .ref 0), (1, .int yf), (2, .int yb), (3, .int ym)] [] yA _
                  refine Pa.mp 1 (pc' := 48) (l' := [(0, .ref 0), (1, .int yf), (2, .int yb), (3, .int ym)]) (st' := [.ref 0]) (by rfl) ?_
                  refine Pa.gfR (by rfl) (by rfl) (.inl rfl) (by rfl) ?_
                  show Pa N 132 51 [(0, .ref 0), (1, .int yf), (2, .int yb), (3, .int ym)] [.ref 61] yA _
                  refine Pa.mp 4 (pc' := 55) (l' := [(0, .ref 0), (1, .int yf), (2, .int yb), (3, .int ym)]) (st' := [.ref 0, .int ym, .int yb, .int yf, .ref 61]) (by rfl) ?_
                  refine Pa.gfI (v := yA.1 0 10) (by rfl) (by rfl) (.inl rfl) (by rfl) (by rfl) ?_
                  refine Pa.inv (by rfl) (by rfl) (.inr rfl) (by rfl) ?_
                  exact l9 h2 h4 h6 h8 h10 h12 h14 yh16

theorem d_split {yA : AW} (yg : Rsx yA) (N : Nat) (yf yb ym : Int32) : Pa N 132 0 [(0, .ref 0), (1, .int yf), (2, .int yb), (3, .int ym)] [] yA (dSp yf yb ym yA) := by
  have e56 := yg.gx.gl.f5
  have no : ¬ okSp (yA.1 69 11) yf yb ym → dSp yf yb ym yA (some (.int (-1))) yA := fun yh => .inl ⟨yh, rfl, rfl⟩
  have z0 : ∀ yb : Int32, yb.toInt = 0 → cb (bN yb) 6 = 0 := fun yb yh => by
    have ye : bN yb = 0 := by
      unfold bN
      omega
    rw [ye]
    decide
  refine bx_spl yf yb ym ?_ ?_ ?_ ?_ ?_ ?_ ?_ ?_ ?_
  · exact fun _ => no (fun yz => by have := yz.1; omega)
  · exact fun _ yy => no (fun yz => by have := yz.1; rw [e56] at yy; omega)
  · exact fun _ _ _ => no (fun yz => by
      have z1 := yz.2.1
      have z2 := yz.2.2.1
      have := z0 yb (by omega)
      omega)
  · exact fun _ _ _ _ => no (fun yz => by have := yz.2.1; omega)
  · exact fun _ _ _ _ _ => no (fun yz => by have := yz.2.2.2; omega)
  · exact fun _ _ _ _ _ _ => no (fun yz => by have := yz.2.2.2; omega)
  · intro y1 y2 y3 y4 y5 y6 y7
    rw [(bc_cb (by omega) y4).1] at y7
    exact no (fun yz => by have := yz.2.2.1; omega)
  · intro y1 y2 y3 y4 y5 y6 y7 y8
    rw [(bc_cb (by omega) y4).1] at y8
    exact no (fun yz => by have := yz.2.2.1; omega)
  · intro y1 y2 y3 y4 y5 y6 y7 y8
    have hbc := (bc_cb (yb := yb) (by omega) y4).1
    rw [hbc] at y7 y8
    rw [e56] at y2
    have eb := bN_eq (yb := yb) (by omega) y4
    have hn := yg.n9
    have yok : okSp (yA.1 69 11) yf yb ym := ⟨⟨y1, y2⟩, ⟨by omega, y4⟩, ⟨by omega, by omega⟩, y5, y6⟩
    have yh := c_fbX (yW := yA) yg.gx (scX_refl yA) (yC := yA.1 122) (yM := mB yA) (yb := bN yb) (yn := qN yA) eb.2 (by omega) (by omega) hn.2 yf ym y1 y2 (by rw [yg.tr.1]; exact hn.1) (fun yi yhi => yg.r62 yi (by omega)) (fun yi yhi => ⟨(yg.r63 yi (by omega)).trans (yg.yM yi yhi).1, (yg.yM yi yhi).2⟩) yg.yC N
    rw [← eb.1] at yh
    rw [yg.gx.F11 ((0, 10), (69, 0)) (by simp [F11])]
    refine Pa.mono yh (fun yv yU hv => ?_)
    have yfin : ∀ yx : Int32, yv = some (.int yx) → Pa N 132 61 [(0, .ref 0), (1, .int yf), (2, .int yb), (3, .int ym)] (yv.toList ++ []) yU (dSp yf yb ym yA) := fun yx hx => by
      rw [hx] at hv ⊢
      exact Pa.iret (by rfl) (.inr ⟨yok, hv⟩)
    rcases hv with ⟨_, h2, _⟩ | ⟨_, _, ⟨_, h2, _⟩ | ⟨yw, _, _, h2, _⟩⟩
    · exact yfin _ h2
    · exact yfin _ h2
    · exact yfin _ h2
/-- the class's cells, and what is ytold of movable costs, are yas they were -/
def lkE (yW yU : AW) : Prop := ∀ yd yj, yd < 69 ∨ yd = 122 ∨ yd = 123 → yU.1 yd yj = yW.1 yd yj
theorem lkE_tr {yW yU V : AW} (yh : lkE yW yU) (yg : lkE yU V) : lkE yW V := fun yd yj yp => (yg yd yj yp).trans (yh yd yj yp)
theorem lkE_mv {yW yU : AW} (yh : mvE yW yU) : lkE yW yU := fun yd yj yp => yh.1 yd yj (by omega) (by omega) (by omega) (by omega)
def eSp (yf yb ym : Int32) (yA yW : AW) (yu : Option Value) (yU : AW) : Prop := (¬ okSp (yA.1 69 11) yf yb ym ∧ yu = some (.int (-1)) ∧ yU = yW) ∨ (okSp (yA.1 69 11) yf yb ym ∧ ((qN yA = 0 ∧ yu = some (.int (-3)) ∧ yU = yW) ∨ (qN yA ≠ 0 ∧ lkE yW yU ∧ (((sF yA yf yb ym).1.toInt < 0 ∧ yu = some (.int (-4)) ∧ (∀ yi, yU.1 125 yi = yW.1 125 yi) ∧ ∀ yj, yj = 76 ∨ yj = 79 ∨ yj = 80 → yU.1 69 yj = yW.1 69 yj) ∨ (∃ yw, (sF yA yf yb ym).2 = some yw ∧ 0 ≤ (sF yA yf yb ym).1.toInt ∧ yu = some (.int (sF yA yf yb ym).1) ∧ (∀ yi, yi < qN yA → yU.1 125 yi = Int32.ofNat (lnd (bN yb) (cb (bN yb) 6) (qN yA) yw yi)) ∧ yU.1 69 79 = yA.1 69 76 ∧ yU.1 69 80 = (s0F yA yf yb).1 - (sF yA yf yb ym).1 ∧ yU.1 69 76 = 0)))))
theorem bm_sp0 {N : Nat} {yA : AW} {yQ : Option Value → AW → Prop} (yf yb ym : Int32)
    (l1 : yf.toInt < 0 → yQ (some (.int (-1))) yA)
    (l2 : 0 ≤ yf.toInt → (yA.1 69 11).toInt ≤ yf.toInt → yQ (some (.int (-1))) yA)
    (l3 : 0 ≤ yf.toInt → yf.toInt < (yA.1 69 11).toInt → yb.toInt < 0 → yQ (some (.int (-1))) yA)
    (l4 : 0 ≤ yf.toInt → yf.toInt < (yA.1 69 11).toInt → 0 ≤ yb.toInt → 63 < yb.toInt → yQ (some (.int (-1))) yA)
    (l5 : 0 ≤ yf.toInt → yf.toInt < (yA.1 69 11).toInt → 0 ≤ yb.toInt → yb.toInt ≤ 63 → (cnM yb).toInt < 2 → yQ (some (.int (-1))) yA)
    (l6 : 0 ≤ yf.toInt → yf.toInt < (yA.1 69 11).toInt → 0 ≤ yb.toInt → yb.toInt ≤ 63 → 2 ≤ (cnM yb).toInt → 3 < (cnM yb).toInt → yQ (some (.int (-1))) yA)
    (l7 : 0 ≤ yf.toInt → yf.toInt < (yA.1 69 11).toInt → 0 ≤ yb.toInt → yb.toInt ≤ 63 → 2 ≤ (cnM yb).toInt → (cnM yb).toInt ≤ 3 → ym.toInt < 0 → yQ (some (.int (-1))) yA)
    (l8 : 0 ≤ yf.toInt → yf.toInt < (yA.1 69 11).toInt → 0 ≤ yb.toInt → yb.toInt ≤ 63 → 2 ≤ (cnM yb).toInt → (cnM yb).toInt ≤ 3 → 0 ≤ ym.toInt → 50 < ym.toInt → yQ (some (.int (-1))) yA)
    (l9 : 0 ≤ yf.toInt → yf.toInt < (yA.1 69 11).toInt → 0 ≤ yb.toInt → yb.toInt ≤ 63 → 2 ≤ (cnM yb).toInt → (cnM yb).toInt ≤ 3 → 0 ≤ ym.toInt → ym.toInt ≤ 50 → (yA.1 69 76).toInt ≠ 0 → Pa N 237 58 [(0, .ref 69), (1, .int yf), (2, .int yb), (3, .int ym), (4, .int 0), (5, .int 0)] [] yA yQ)
    (l10 : 0 ≤ yf.toInt → yf.toInt < (yA.1 69 11).toInt → 0 ≤ yb.toInt → yb.toInt ≤ 63 → 2 ≤ (cnM yb).toInt → (cnM yb).toInt ≤ 3 → 0 ≤ ym.toInt → ym.toInt ≤ 50 → (yA.1 69 76).toInt = 0 → yQ (some (.int (-3))) yA) :
    Pa N 237 0 [(0, .ref 69), (1, .int yf), (2, .int yb), (3, .int ym)] [] yA yQ := by
  refine Pa.mp 2 (pc' := 2) (l' := [(0, .ref 69), (1, .int yf), (2, .int yb), (3, .int ym)]) (st' := [.int yf, .ref 69]) (by rfl) ?_
  refine Pa.inv (by rfl) (by rfl) (.inl rfl) (by rfl) ?_
  show Pa N 157 0 [(0, .ref 69), (1, .int yf)] [] yA _
  refine Pa.mp 1 (pc' := 1) (l' := [(0, .ref 69), (1, .int yf)]) (st' := [.int yf]) (by rfl) ?_
  refine Pa.if1 (a := yf.toInt) (t := 16) (by rfl) (by rfl) (rfl) (fun h1 => ?_) (fun h2 => ?_)
  · have h1 : yf.toInt < 0 := h1
    refine Pa.ic (x := 0) (pc' := 17) (by rfl) (by rfl) (by decide) ?_
    refine Pa.iret (by rfl) ?_
    show Pa N 237 5 [(0, .ref 69), (1, .int yf), (2, .int yb), (3, .int ym)] [.int 0] yA _
    refine Pa.if1k true (by rfl) (by rfl) (by decide) ?_
    show Pa N 237 40 [(0, .ref 69), (1, .int yf), (2, .int yb), (3, .int ym)] [] yA _
    refine Pa.ic (x := (-1)) (pc' := 41) (by rfl) (by rfl) (by decide) ?_
    refine Pa.iret (by rfl) ?_
    exact l1 h1
  · have h2 : 0 ≤ yf.toInt := h2
    refine Pa.mp 2 (pc' := 6) (l' := [(0, .ref 69), (1, .int yf)]) (st' := [.ref 69, .int yf]) (by rfl) ?_
    refine Pa.gfI (v := yA.1 69 11) (by rfl) (by rfl) (.inl rfl) (by rfl) (by rfl) ?_
    refine Pa.if2 (a := yf.toInt) (b := (yA.1 69 11).toInt) (t := 16) (by rfl) (by rfl) (rfl) (rfl) (fun h3 => ?_) (fun h4 => ?_)
    · have h3 : (yA.1 69 11).toInt ≤ yf.toInt := h3
      refine Pa.ic (x := 0) (pc' := 17) (by rfl) (by rfl) (by decide) ?_
      refine Pa.iret (by rfl) ?_
      show Pa N 237 5 [(0, .ref 69), (1, .int yf), (2, .int yb), (3, .int ym)] [.int 0] yA _
      refine Pa.if1k true (by rfl) (by rfl) (by decide) ?_
      show Pa N 237 40 [(0, .ref 69), (1, .int yf), (2, .int yb), (3, .int ym)] [] yA _
      refine Pa.ic (x := (-1)) (pc' := 41) (by rfl) (by rfl) (by decide) ?_
      refine Pa.iret (by rfl) ?_
      exact l2 h2 h3
    · have h4 : yf.toInt < (yA.1 69 11).toInt := h4
      refine Pa.ic (x := 1) (pc' := 13) (by rfl) (by rfl) (by decide) ?_
      refine Pa.mp 1 (pc' := 17) (l' := [(0, .ref 69), (1, .int yf)]) (st' := [.int 1]) (by rfl) ?_
      refine Pa.iret (by rfl) ?_
      show Pa N 237 5 [(0, .ref 69), (1, .int yf), (2, .int yb), (3, .int ym)] [.int 1] yA _
      refine Pa.if1k false (by rfl) (by rfl) (by decide) ?_
      show Pa N 237 8 [(0, .ref 69), (1, .int yf), (2, .int yb), (3, .int ym)] [] yA _
      refine Pa.mp 1 (pc' := 9) (l' := [(0, .ref 69), (1, .int yf), (2, .int yb), (3, .int ym)]) (st' := [.int yb]) (by rfl) ?_
      refine Pa.ic (x := 0) (pc' := 10) (by rfl) (by rfl) (by decide) ?_
      refine Pa.ic (x := 63) (pc' := 12) (by rfl) (by rfl) (by decide) ?_
      refine Pa.ist (by rfl) (by rfl) (.inl rfl) (by rfl) (by rfl) ?_
      show Pa N 152 0 [(0, .int yb), (1, .int 0), (2, .int 63)] [] yA _
      refine Pa.mp 2 (pc' := 2) (l' := [(0, .int yb), (1, .int 0), (2, .int 63)]) (st' := [.int 0, .int yb]) (by rfl) ?_
      refine Pa.if2 (a := yb.toInt) (b := 0) (t := 14) (by rfl) (by rfl) (rfl) (by decide) (fun h5 => ?_) (fun h6 => ?_)
      · have h5 : yb.toInt < 0 := h5
        refine Pa.ic (x := 0) (pc' := 15) (by rfl) (by rfl) (by decide) ?_
        refine Pa.iret (by rfl) ?_
        show Pa N 237 15 [(0, .ref 69), (1, .int yf), (2, .int yb), (3, .int ym)] [.int 0] yA _
        refine Pa.if1k true (by rfl) (by rfl) (by decide) ?_
        show Pa N 237 40 [(0, .ref 69), (1, .int yf), (2, .int yb), (3, .int ym)] [] yA _
        refine Pa.ic (x := (-1)) (pc' := 41) (by rfl) (by rfl) (by decide) ?_
        refine Pa.iret (by rfl) ?_
        exact l3 h2 h4 h5
      · have h6 : 0 ≤ yb.toInt := h6
        refine Pa.mp 2 (pc' := 7) (l' := [(0, .int yb), (1, .int 0), (2, .int 63)]) (st' := [.int 63, .int yb]) (by rfl) ?_
        refine Pa.if2 (a := yb.toInt) (b := 63) (t := 14) (by rfl) (by rfl) (rfl) (by decide) (fun h7 => ?_) (fun h8 => ?_)
        · have h7 : 63 < yb.toInt := h7
          refine Pa.ic (x := 0) (pc' := 15) (by rfl) (by rfl) (by decide) ?_
          refine Pa.iret (by rfl) ?_
          show Pa N 237 15 [(0, .ref 69), (1, .int yf), (2, .int yb), (3, .int ym)] [.int 0] yA _
          refine Pa.if1k true (by rfl) (by rfl) (by decide) ?_
          show Pa N 237 40 [(0, .ref 69), (1, .int yf), (2, .int yb), (3, .int ym)] [] yA _
          refine Pa.ic (x := (-1)) (pc' := 41) (by rfl) (by rfl) (by decide) ?_
          refine Pa.iret (by rfl) ?_
          exact l4 h2 h4 h6 h7
        · have h8 : yb.toInt ≤ 63 := h8
          refine Pa.ic (x := 1) (pc' := 11) (by rfl) (by rfl) (by decide) ?_
          refine Pa.mp 1 (pc' := 15) (l' := [(0, .int yb), (1, .int 0), (2, .int 63)]) (st' := [.int 1]) (by rfl) ?_
          refine Pa.iret (by rfl) ?_
          show Pa N 237 15 [(0, .ref 69), (1, .int yf), (2, .int yb), (3, .int ym)] [.int 1] yA _
          refine Pa.if1k false (by rfl) (by rfl) (by decide) ?_
          show Pa N 237 18 [(0, .ref 69), (1, .int yf), (2, .int yb), (3, .int ym)] [] yA _
          refine Pa.mp 1 (pc' := 19) (l' := [(0, .ref 69), (1, .int yf), (2, .int yb), (3, .int ym)]) (st' := [.int yb]) (by rfl) ?_
          refine Pa.ist (by rfl) (by rfl) (.inl rfl) (by rfl) (by rfl) ?_
          refine Pa.mono (c_countOf yA yb N) (fun yu A1 hu => ?_)
          obtain ⟨rfl, hu⟩ := hu
          rw [hu]
          show Pa N 237 22 [(0, .ref 69), (1, .int yf), (2, .int yb), (3, .int ym)] [.int (cnM yb)] yA _
          refine Pa.ic (x := 2) (pc' := 23) (by rfl) (by rfl) (by decide) ?_
          refine Pa.ic (x := 3) (pc' := 24) (by rfl) (by rfl) (by decide) ?_
          refine Pa.ist (by rfl) (by rfl) (.inl rfl) (by rfl) (by rfl) ?_
          show Pa N 152 0 [(0, .int (cnM yb)), (1, .int 2), (2, .int 3)] [] yA _
          refine Pa.mp 2 (pc' := 2) (l' := [(0, .int (cnM yb)), (1, .int 2), (2, .int 3)]) (st' := [.int 2, .int (cnM yb)]) (by rfl) ?_
          refine Pa.if2 (a := (cnM yb).toInt) (b := 2) (t := 14) (by rfl) (by rfl) (rfl) (by decide) (fun h9 => ?_) (fun h10 => ?_)
          · have h9 : (cnM yb).toInt < 2 := h9
            refine Pa.ic (x := 0) (pc' := 15) (by rfl) (by rfl) (by decide) ?_
            refine Pa.iret (by rfl) ?_
            show Pa N 237 27 [(0, .ref 69), (1, .int yf), (2, .int yb), (3, .int ym)] [.int 0] yA _
            refine Pa.if1k true (by rfl) (by rfl) (by decide) ?_
            show Pa N 237 40 [(0, .ref 69), (1, .int yf), (2, .int yb), (3, .int ym)] [] yA _
            refine Pa.ic (x := (-1)) (pc' := 41) (by rfl) (by rfl) (by decide) ?_
            refine Pa.iret (by rfl) ?_
            exact l5 h2 h4 h6 h8 h9
          · have h10 : 2 ≤ (cnM yb).toInt := h10
            refine Pa.mp 2 (pc' := 7) (l' := [(0, .int (cnM yb)), (1, .int 2), (2, .int 3)]) (st' := [.int 3, .int (cnM yb)]) (by rfl) ?_
            refine Pa.if2 (a := (cnM yb).toInt) (b := 3) (t := 14) (by rfl) (by rfl) (rfl) (by decide) (fun h11 => ?_) (fun h12 => ?_)
            · have h11 : 3 < (cnM yb).toInt := h11
              refine Pa.ic (x := 0) (pc' := 15) (by rfl) (by rfl) (by decide) ?_
              refine Pa.iret (by rfl) ?_
              show Pa N 237 27 [(0, .ref 69), (1, .int yf), (2, .int yb), (3, .int ym)] [.int 0] yA _
              refine Pa.if1k true (by rfl) (by rfl) (by decide) ?_
              show Pa N 237 40 [(0, .ref 69), (1, .int yf), (2, .int yb), (3, .int ym)] [] yA _
              refine Pa.ic (x := (-1)) (pc' := 41) (by rfl) (by rfl) (by decide) ?_
              refine Pa.iret (by rfl) ?_
              exact l6 h2 h4 h6 h8 h10 h11
            · have h12 : (cnM yb).toInt ≤ 3 := h12
              refine Pa.ic (x := 1) (pc' := 11) (by rfl) (by rfl) (by decide) ?_
              refine Pa.mp 1 (pc' := 15) (l' := [(0, .int (cnM yb)), (1, .int 2), (2, .int 3)]) (st' := [.int 1]) (by rfl) ?_
              refine Pa.iret (by rfl) ?_
              show Pa N 237 27 [(0, .ref 69), (1, .int yf), (2, .int yb), (3, .int ym)] [.int 1] yA _
              refine Pa.if1k false (by rfl) (by rfl) (by decide) ?_
              show Pa N 237 30 [(0, .ref 69), (1, .int yf), (2, .int yb), (3, .int ym)] [] yA _
              refine Pa.mp 1 (pc' := 31) (l' := [(0, .ref 69), (1, .int yf), (2, .int yb), (3, .int ym)]) (st' := [.int ym]) (by rfl) ?_
              refine Pa.ic (x := 0) (pc' := 32) (by rfl) (by rfl) (by decide) ?_
              refine Pa.ic (x := 50) (pc' := 34) (by rfl) (by rfl) (by decide) ?_
              refine Pa.ist (by rfl) (by rfl) (.inl rfl) (by rfl) (by rfl) ?_
              show Pa N 152 0 [(0, .int ym), (1, .int 0), (2, .int 50)] [] yA _
              refine Pa.mp 2 (pc' := 2) (l' := [(0, .int ym), (1, .int 0), (2, .int 50)]) (st' := [.int 0, .int ym]) (by rfl) ?_
              refine Pa.if2 (a := ym.toInt) (b := 0) (t := 14) (by rfl) (by rfl) (rfl) (by decide) (fun h13 => ?_) (fun h14 => ?_)
              · have h13 : ym.toInt < 0 := h13
                refine Pa.ic (x := 0) (pc' := 15) (by rfl) (by rfl) (by decide) ?_
                refine Pa.iret (by rfl) ?_
                show Pa N 237 37 [(0, .ref 69), (1, .int yf), (2, .int yb), (3, .int ym)] [.int 0] yA _
                refine Pa.if1k false (by rfl) (by rfl) (by decide) ?_
                show Pa N 237 40 [(0, .ref 69), (1, .int yf), (2, .int yb), (3, .int ym)] [] yA _
                refine Pa.ic (x := (-1)) (pc' := 41) (by rfl) (by rfl) (by decide) ?_
                refine Pa.iret (by rfl) ?_
                exact l7 h2 h4 h6 h8 h10 h12 h13
              · have h14 : 0 ≤ ym.toInt := h14
                refine Pa.mp 2 (pc' := 7) (l' := [(0, .int ym), (1, .int 0), (2, .int 50)]) (st' := [.int 50, .int ym]) (by rfl) ?_
                refine Pa.if2 (a := ym.toInt) (b := 50) (t := 14) (by rfl) (by rfl) (rfl) (by decide) (fun h15 => ?_) (fun yh16 => ?_)
                · have h15 : 50 < ym.toInt := h15
                  refine Pa.ic (x := 0) (pc' := 15) (by rfl) (by rfl) (by decide) ?_
                  refine Pa.iret (by rfl) ?_
                  show Pa N 237 37 [(0, .ref 69), (1, .int yf), (2, .int yb), (3, .int ym)] [.int 0] yA _
                  refine Pa.if1k false (by rfl) (by rfl) (by decide) ?_
                  show Pa N 237 40 [(0, .ref 69), (1, .int yf), (2, .int yb), (3, .int ym)] [] yA _
                  refine Pa.ic (x := (-1)) (pc' := 41) (by rfl) (by rfl) (by decide) ?_
                  refine Pa.iret (by rfl) ?_
                  exact l8 h2 h4 h6 h8 h10 h12 h14 h15
                · have yh16 : ym.toInt ≤ 50 := yh16
                  refine Pa.ic (x := 1) (pc' := 11) (by rfl) (by rfl) (by decide) ?_
                  refine Pa.mp 1 (pc' := 15) (l' := [(0, .int ym), (1, .int 0), (2, .int 50)]) (st' := [.int 1]) (by rfl) ?_
                  refine Pa.iret (by rfl) ?_
                  show Pa N 237 37 [(0, .ref 69), (1, .int yf), (2, .int yb), (3, .int ym)] [.int 1] yA _
                  refine Pa.if1k true (by rfl) (by rfl) (by decide) ?_
                  show Pa N 237 42 [(0, .ref 69), (1, .int yf), (2, .int yb), (3, .int ym)] [] yA _
                  refine Pa.mp 1 (pc' := 43) (l' := [(0, .ref 69), (1, .int yf), (2, .int yb), (3, .int ym)]) (st' := [.ref 69]) (by rfl) ?_
                  refine Pa.gfI (v := yA.1 69 76) (by rfl) (by rfl) (.inl rfl) (by rfl) (by rfl) ?_
                  refine Pa.if1 (a := (yA.1 69 76).toInt) (t := 52) (by rfl) (by rfl) (rfl) (fun h17 => ?_) (fun h18 => ?_)
                  · have h17 : (yA.1 69 76).toInt ≠ 0 := h17
                    refine Pa.ic (x := 0) (pc' := 53) (by rfl) (by rfl) (by decide) ?_
                    refine Pa.mp 1 (pc' := 55) (l' := [(4, .int 0), (0, .ref 69), (1, .int yf), (2, .int yb), (3, .int ym)]) (st' := []) (by rfl) ?_
                    refine Pa.ic (x := 0) (pc' := 56) (by rfl) (by rfl) (by decide) ?_
                    refine Pa.mp 1 (pc' := 58) (l' := [(5, .int 0), (4, .int 0), (0, .ref 69), (1, .int yf), (2, .int yb), (3, .int ym)]) (st' := []) (by rfl) ?_
                    refine Pa.lv (l' := [(0, .ref 69), (1, .int yf), (2, .int yb), (3, .int ym), (4, .int 0), (5, .int 0)]) (lvS_c rfl (lvS_c rfl (lvS_c rfl (lvS_c rfl (lvS_c rfl (lvS_c rfl (lvS_nil))))))) rfl ?_
                    exact l9 h2 h4 h6 h8 h10 h12 h14 yh16 h17
                  · have h18 : (yA.1 69 76).toInt = 0 := h18
                    refine Pa.ic (x := (-3)) (pc' := 51) (by rfl) (by rfl) (by decide) ?_
                    refine Pa.iret (by rfl) ?_
                    exact l10 h2 h4 h6 h8 h10 h12 h14 yh16 h18

theorem bm_sp1 {N : Nat} {yA : AW} {yQ : Option Value → AW → Prop} (yf yb ym ya yi : Int32)
    (l1 : (yA.1 69 76).toInt ≤ yi.toInt → Pa N 237 88 [(0, .ref 69), (1, .int yf), (2, .int yb), (3, .int ym), (4, .int ya), (5, .int 0)] [] yA yQ)
    (l2 : yi.toInt < (yA.1 69 76).toInt → 0 ≤ yi.toInt → yi.toInt < 9 → Pa N 237 58 [(0, .ref 69), (1, .int yf), (2, .int yb), (3, .int ym), (4, .int (ya + (yA.1 122 yi.toInt.toNat))), (5, .int (yi + 1))] [] yA yQ) :
    Pa (N + 1) 237 58 [(0, .ref 69), (1, .int yf), (2, .int yb), (3, .int ym), (4, .int ya), (5, .int yi)] [] yA yQ := by
  refine Pa.mp1 1 (pc' := 61) (l' := [(0, .ref 69), (1, .int yf), (2, .int yb), (3, .int ym), (4, .int ya), (5, .int yi)]) (st' := [.ref 69, .int yi]) (by rfl) ?_
  refine Pa.gfI (v := yA.1 69 76) (by rfl) (by rfl) (.inl rfl) (by rfl) (by rfl) ?_
  refine Pa.if2 (a := yi.toInt) (b := (yA.1 69 76).toInt) (t := 85) (by rfl) (by rfl) (rfl) (rfl) (fun h1 => ?_) (fun h2 => ?_)
  · have h1 : (yA.1 69 76).toInt ≤ yi.toInt := h1
    refine Pa.ic (x := 0) (pc' := 86) (by rfl) (by rfl) (by decide) ?_
    refine Pa.mp 1 (pc' := 88) (l' := [(5, .int 0), (0, .ref 69), (1, .int yf), (2, .int yb), (3, .int ym), (4, .int ya)]) (st' := []) (by rfl) ?_
    refine Pa.lv (l' := [(0, .ref 69), (1, .int yf), (2, .int yb), (3, .int ym), (4, .int ya), (5, .int 0)]) (lvS_c rfl (lvS_c rfl (lvS_c rfl (lvS_c rfl (lvS_c rfl (lvS_c rfl (lvS_nil))))))) rfl ?_
    exact l1 h1
  · have h2 : yi.toInt < (yA.1 69 76).toInt := h2
    refine Pa.mp 2 (pc' := 70) (l' := [(0, .ref 69), (1, .int yf), (2, .int yb), (3, .int ym), (4, .int ya), (5, .int yi)]) (st' := [.ref 69, .int ya]) (by rfl) ?_
    refine Pa.gfR (by rfl) (by rfl) (.inl rfl) (by rfl) ?_
    show Pa N 237 73 [(0, .ref 69), (1, .int yf), (2, .int yb), (3, .int ym), (4, .int ya), (5, .int yi)] [.ref 122, .int ya] yA _
    refine Pa.mp 1 (pc' := 75) (l' := [(0, .ref 69), (1, .int yf), (2, .int yb), (3, .int ym), (4, .int ya), (5, .int yi)]) (st' := [.int yi, .ref 122, .int ya]) (by rfl) ?_
    refine Pa.alds (v := yA.1 122 yi.toInt.toNat) (by rfl) (by rfl) (by rfl) (fun h3 h4 => ?_)
    have h3 : 0 ≤ yi.toInt := h3
    have h4 : yi.toInt < 9 := h4
    refine Pa.mp 2 (pc' := 79) (l' := [(4, .int (ya + (yA.1 122 yi.toInt.toNat))), (0, .ref 69), (1, .int yf), (2, .int yb), (3, .int ym), (5, .int yi)]) (st' := []) (by rfl) ?_
    refine Pa.iinc (x := yi) (c := 1) (v := (yi + 1)) (l' := [(5, .int (yi + 1)), (4, .int (ya + (yA.1 122 yi.toInt.toNat))), (0, .ref 69), (1, .int yf), (2, .int yb), (3, .int ym)]) (by rfl) (by rfl) (by decide) (by rfl) (by rfl) ?_
    refine Pa.mp 1 (pc' := 58) (l' := [(5, .int (yi + 1)), (4, .int (ya + (yA.1 122 yi.toInt.toNat))), (0, .ref 69), (1, .int yf), (2, .int yb), (3, .int ym)]) (st' := []) (by rfl) ?_
    refine Pa.lv (l' := [(0, .ref 69), (1, .int yf), (2, .int yb), (3, .int ym), (4, .int (ya + (yA.1 122 yi.toInt.toNat))), (5, .int (yi + 1))]) (lvS_c rfl (lvS_c rfl (lvS_c rfl (lvS_c rfl (lvS_c rfl (lvS_c rfl (lvS_nil))))))) rfl ?_
    exact l2 h2 h3 h4

theorem bm_sp2 {N : Nat} {yA : AW} {yQ : Option Value → AW → Prop} (yf yb ym ya yi : Int32)
    (l1 : 6 ≤ yi.toInt → Pa N 236 0 [(0, .ref 69), (1, .int 0), (2, .int yb), (3, .int 0), (4, .int ya), (5, .int 0)] [] (uI yA 69 83 (-1)) (fun yu A1 => Pa N 237 147 [(0, .ref 69), (1, .int yf), (2, .int yb), (3, .int ym), (4, .int ya), (5, .int yi)] (yu.toList ++ []) A1 yQ))
    (l2 : yi.toInt < 6 → Pa N 211 0 [(0, .ref 69), (1, .int yi), (2, .int yf), (3, .int (yA.1 69 0)), (4, .int (yA.1 69 0)), (5, .int 1)] [] yA (fun yu A1 => Pa N 237 117 [(0, .ref 69), (1, .int yf), (2, .int yb), (3, .int ym), (4, .int ya), (5, .int yi)] (yu.toList ++ [.int yi, .ref 126]) A1 yQ)) :
    Pa (N + 1) 237 88 [(0, .ref 69), (1, .int yf), (2, .int yb), (3, .int ym), (4, .int ya), (5, .int yi)] [] yA yQ := by
  refine Pa.mp1 0 (pc' := 90) (l' := [(0, .ref 69), (1, .int yf), (2, .int yb), (3, .int ym), (4, .int ya), (5, .int yi)]) (st' := [.int yi]) (by rfl) ?_
  refine Pa.ic (x := 6) (pc' := 92) (by rfl) (by rfl) (by decide) ?_
  refine Pa.if2 (a := yi.toInt) (b := 6) (t := 132) (by rfl) (by rfl) (rfl) (by decide) (fun h1 => ?_) (fun h2 => ?_)
  · have h1 : 6 ≤ yi.toInt := h1
    refine Pa.mp 1 (pc' := 133) (l' := [(0, .ref 69), (1, .int yf), (2, .int yb), (3, .int ym), (4, .int ya), (5, .int yi)]) (st' := [.ref 69]) (by rfl) ?_
    refine Pa.ic (x := (-1)) (pc' := 134) (by rfl) (by rfl) (by decide) ?_
    refine Pa.pfI (by rfl) (by rfl) (.inl rfl) (by rfl) ?_
    show Pa N 237 137 [(0, .ref 69), (1, .int yf), (2, .int yb), (3, .int ym), (4, .int ya), (5, .int yi)] [] (uI yA 69 83 (-1)) _
    refine Pa.mp 1 (pc' := 138) (l' := [(0, .ref 69), (1, .int yf), (2, .int yb), (3, .int ym), (4, .int ya), (5, .int yi)]) (st' := [.ref 69]) (by rfl) ?_
    refine Pa.ic (x := 0) (pc' := 139) (by rfl) (by rfl) (by decide) ?_
    refine Pa.mp 1 (pc' := 140) (l' := [(0, .ref 69), (1, .int yf), (2, .int yb), (3, .int ym), (4, .int ya), (5, .int yi)]) (st' := [.int yb, .int 0, .ref 69]) (by rfl) ?_
    refine Pa.ic (x := 0) (pc' := 141) (by rfl) (by rfl) (by decide) ?_
    refine Pa.mp 1 (pc' := 143) (l' := [(0, .ref 69), (1, .int yf), (2, .int yb), (3, .int ym), (4, .int ya), (5, .int yi)]) (st' := [.int ya, .int 0, .int yb, .int 0, .ref 69]) (by rfl) ?_
    refine Pa.ic (x := 0) (pc' := 144) (by rfl) (by rfl) (by decide) ?_
    refine Pa.inv (by rfl) (by rfl) (.inl rfl) (by rfl) ?_
    exact l1 h1
  · have h2 : yi.toInt < 6 := h2
    refine Pa.mp 1 (pc' := 96) (l' := [(0, .ref 69), (1, .int yf), (2, .int yb), (3, .int ym), (4, .int ya), (5, .int yi)]) (st' := [.ref 69]) (by rfl) ?_
    refine Pa.gfR (by rfl) (by rfl) (.inl rfl) (by rfl) ?_
    show Pa N 237 99 [(0, .ref 69), (1, .int yf), (2, .int yb), (3, .int ym), (4, .int ya), (5, .int yi)] [.ref 126] yA _
    refine Pa.mp 5 (pc' := 106) (l' := [(0, .ref 69), (1, .int yf), (2, .int yb), (3, .int ym), (4, .int ya), (5, .int yi)]) (st' := [.ref 69, .int yf, .int yi, .ref 69, .int yi, .ref 126]) (by rfl) ?_
    refine Pa.gfI (v := yA.1 69 0) (by rfl) (by rfl) (.inl rfl) (by rfl) (by rfl) ?_
    refine Pa.mp 1 (pc' := 110) (l' := [(0, .ref 69), (1, .int yf), (2, .int yb), (3, .int ym), (4, .int ya), (5, .int yi)]) (st' := [.ref 69, .int (yA.1 69 0), .int yf, .int yi, .ref 69, .int yi, .ref 126]) (by rfl) ?_
    refine Pa.gfI (v := yA.1 69 0) (by rfl) (by rfl) (.inl rfl) (by rfl) (by rfl) ?_
    refine Pa.ic (x := 1) (pc' := 114) (by rfl) (by rfl) (by decide) ?_
    refine Pa.inv (by rfl) (by rfl) (.inl rfl) (by rfl) ?_
    exact l2 h2

theorem bm_sp3 {N : Nat} {yA : AW} {yQ : Option Value → AW → Prop} (yf yb ym ya yi yv l : Int32)
    (l1 : 0 ≤ l.toInt → l.toInt < 6 → 0 ≤ yi.toInt → yi.toInt < 6 → Pa N 237 88 [(0, .ref 69), (1, .int yf), (2, .int yb), (3, .int ym), (4, .int ya), (5, .int (yi + 1))] [] (uI (uI yA 126 l.toInt.toNat yv) 127 yi.toInt.toNat 0) yQ) :
    Pa N 237 117 [(0, .ref 69), (1, .int yf), (2, .int yb), (3, .int ym), (4, .int ya), (5, .int yi)] [.int yv, .int l, .ref 126] yA yQ := by
  refine Pa.asts (j' := l.toInt.toNat) (by rfl) (by rfl) (by rfl) (fun h1 h2 => ?_)
  have h1 : 0 ≤ l.toInt := h1
  have h2 : l.toInt < 6 := h2
  show Pa N 237 118 [(0, .ref 69), (1, .int yf), (2, .int yb), (3, .int ym), (4, .int ya), (5, .int yi)] [] (uI yA 126 l.toInt.toNat yv) _
  refine Pa.mp 1 (pc' := 119) (l' := [(0, .ref 69), (1, .int yf), (2, .int yb), (3, .int ym), (4, .int ya), (5, .int yi)]) (st' := [.ref 69]) (by rfl) ?_
  refine Pa.gfR (by rfl) (by rfl) (.inl rfl) (by rfl) ?_
  show Pa N 237 122 [(0, .ref 69), (1, .int yf), (2, .int yb), (3, .int ym), (4, .int ya), (5, .int yi)] [.ref 127] (uI yA 126 l.toInt.toNat yv) _
  refine Pa.mp 1 (pc' := 124) (l' := [(0, .ref 69), (1, .int yf), (2, .int yb), (3, .int ym), (4, .int ya), (5, .int yi)]) (st' := [.int yi, .ref 127]) (by rfl) ?_
  refine Pa.ic (x := 0) (pc' := 125) (by rfl) (by rfl) (by decide) ?_
  refine Pa.asts (j' := yi.toInt.toNat) (by rfl) (by rfl) (by rfl) (fun h3 h4 => ?_)
  have h3 : 0 ≤ yi.toInt := h3
  have h4 : yi.toInt < 6 := h4
  show Pa N 237 126 [(0, .ref 69), (1, .int yf), (2, .int yb), (3, .int ym), (4, .int ya), (5, .int yi)] [] (uI (uI yA 126 l.toInt.toNat yv) 127 yi.toInt.toNat 0) _
  refine Pa.iinc (x := yi) (c := 1) (v := (yi + 1)) (l' := [(5, .int (yi + 1)), (0, .ref 69), (1, .int yf), (2, .int yb), (3, .int ym), (4, .int ya)]) (by rfl) (by rfl) (by decide) (by rfl) (by rfl) ?_
  refine Pa.mp 1 (pc' := 88) (l' := [(5, .int (yi + 1)), (0, .ref 69), (1, .int yf), (2, .int yb), (3, .int ym), (4, .int ya)]) (st' := []) (by rfl) ?_
  refine Pa.lv (l' := [(0, .ref 69), (1, .int yf), (2, .int yb), (3, .int ym), (4, .int ya), (5, .int (yi + 1))]) (lvS_c rfl (lvS_c rfl (lvS_c rfl (lvS_c rfl (lvS_c rfl (lvS_c rfl (lvS_nil))))))) rfl ?_
  exact l1 h1 h2 h3 h4

theorem bm_sp4 {N : Nat} {yA : AW} {yQ : Option Value → AW → Prop} (yf yb ym ya yi : Int32)
    (l1 : Pa N 236 0 [(0, .ref 69), (1, .int 0), (2, .int yb), (3, .int ym), (4, .int ya), (5, .int 1)] [] (uI yA 69 83 (-1)) (fun yu A1 => Pa N 237 168 [(0, .ref 69), (1, .int yf), (2, .int yb), (3, .int ym), (4, .int ya), (5, .int (yA.1 69 83))] (yu.toList ++ []) A1 yQ)) :
    Pa N 237 147 [(0, .ref 69), (1, .int yf), (2, .int yb), (3, .int ym), (4, .int ya), (5, .int yi)] [] yA yQ := by
  refine Pa.mp 1 (pc' := 148) (l' := [(0, .ref 69), (1, .int yf), (2, .int yb), (3, .int ym), (4, .int ya), (5, .int yi)]) (st' := [.ref 69]) (by rfl) ?_
  refine Pa.gfI (v := yA.1 69 83) (by rfl) (by rfl) (.inl rfl) (by rfl) (by rfl) ?_
  refine Pa.mp 2 (pc' := 154) (l' := [(5, .int (yA.1 69 83)), (0, .ref 69), (1, .int yf), (2, .int yb), (3, .int ym), (4, .int ya)]) (st' := [.ref 69]) (by rfl) ?_
  refine Pa.ic (x := (-1)) (pc' := 155) (by rfl) (by rfl) (by decide) ?_
  refine Pa.pfI (by rfl) (by rfl) (.inl rfl) (by rfl) ?_
  show Pa N 237 158 [(5, .int (yA.1 69 83)), (0, .ref 69), (1, .int yf), (2, .int yb), (3, .int ym), (4, .int ya)] [] (uI yA 69 83 (-1)) _
  refine Pa.mp 1 (pc' := 159) (l' := [(5, .int (yA.1 69 83)), (0, .ref 69), (1, .int yf), (2, .int yb), (3, .int ym), (4, .int ya)]) (st' := [.ref 69]) (by rfl) ?_
  refine Pa.ic (x := 0) (pc' := 160) (by rfl) (by rfl) (by decide) ?_
  refine Pa.mp 3 (pc' := 164) (l' := [(5, .int (yA.1 69 83)), (0, .ref 69), (1, .int yf), (2, .int yb), (3, .int ym), (4, .int ya)]) (st' := [.int ya, .int ym, .int yb, .int 0, .ref 69]) (by rfl) ?_
  refine Pa.ic (x := 1) (pc' := 165) (by rfl) (by rfl) (by decide) ?_
  refine Pa.lv (l' := [(0, .ref 69), (1, .int yf), (2, .int yb), (3, .int ym), (4, .int ya), (5, .int (yA.1 69 83))]) (lvS_c rfl (lvS_c rfl (lvS_c rfl (lvS_c rfl (lvS_c rfl (lvS_c rfl (lvS_nil))))))) rfl ?_
  refine Pa.inv (by rfl) (by rfl) (.inl rfl) (by rfl) ?_
  exact l1

theorem bm_sp5 {N : Nat} {yA : AW} {yQ : Option Value → AW → Prop} (yf yb ym ya yi : Int32)
    (l1 : 0 ≤ (yA.1 69 83).toInt → yQ (some (.int (yA.1 69 83))) (uI (uI (uI yA 69 80 (yi - (yA.1 69 83))) 69 79 (yA.1 69 76)) 69 76 0))
    (l2 : (yA.1 69 83).toInt < 0 → yQ (some (.int (-4))) yA) :
    Pa N 237 168 [(0, .ref 69), (1, .int yf), (2, .int yb), (3, .int ym), (4, .int ya), (5, .int yi)] [] yA yQ := by
  refine Pa.mp 1 (pc' := 169) (l' := [(0, .ref 69), (1, .int yf), (2, .int yb), (3, .int ym), (4, .int ya), (5, .int yi)]) (st' := [.ref 69]) (by rfl) ?_
  refine Pa.gfI (v := yA.1 69 83) (by rfl) (by rfl) (.inl rfl) (by rfl) (by rfl) ?_
  refine Pa.if1 (a := (yA.1 69 83).toInt) (t := 178) (by rfl) (by rfl) (rfl) (fun h1 => ?_) (fun h2 => ?_)
  · have h1 : 0 ≤ (yA.1 69 83).toInt := h1
    refine Pa.mp 3 (pc' := 182) (l' := [(0, .ref 69), (1, .int yf), (2, .int yb), (3, .int ym), (4, .int ya), (5, .int yi)]) (st' := [.ref 69, .int yi, .ref 69]) (by rfl) ?_
    refine Pa.gfI (v := yA.1 69 83) (by rfl) (by rfl) (.inl rfl) (by rfl) (by rfl) ?_
    refine Pa.mp 1 (pc' := 186) (l' := [(0, .ref 69), (1, .int yf), (2, .int yb), (3, .int ym), (4, .int ya), (5, .int yi)]) (st' := [.int (yi - (yA.1 69 83)), .ref 69]) (by rfl) ?_
    refine Pa.pfI (by rfl) (by rfl) (.inl rfl) (by rfl) ?_
    show Pa N 237 189 [(0, .ref 69), (1, .int yf), (2, .int yb), (3, .int ym), (4, .int ya), (5, .int yi)] [] (uI yA 69 80 (yi - (yA.1 69 83))) _
    refine Pa.mp 2 (pc' := 191) (l' := [(0, .ref 69), (1, .int yf), (2, .int yb), (3, .int ym), (4, .int ya), (5, .int yi)]) (st' := [.ref 69, .ref 69]) (by rfl) ?_
    refine Pa.gfI (v := yA.1 69 76) (by rfl) (by rfl) (.inl rfl) (by rfl) (by show (uI yA 69 80 (yi - (yA.1 69 83))).1 69 76 = yA.1 69 76; rw [uI_k (by decide)]) ?_
    refine Pa.pfI (by rfl) (by rfl) (.inl rfl) (by rfl) ?_
    show Pa N 237 197 [(0, .ref 69), (1, .int yf), (2, .int yb), (3, .int ym), (4, .int ya), (5, .int yi)] [] (uI (uI yA 69 80 (yi - (yA.1 69 83))) 69 79 (yA.1 69 76)) _
    refine Pa.mp 1 (pc' := 198) (l' := [(0, .ref 69), (1, .int yf), (2, .int yb), (3, .int ym), (4, .int ya), (5, .int yi)]) (st' := [.ref 69]) (by rfl) ?_
    refine Pa.ic (x := 0) (pc' := 199) (by rfl) (by rfl) (by decide) ?_
    refine Pa.pfI (by rfl) (by rfl) (.inl rfl) (by rfl) ?_
    show Pa N 237 202 [(0, .ref 69), (1, .int yf), (2, .int yb), (3, .int ym), (4, .int ya), (5, .int yi)] [] (uI (uI (uI yA 69 80 (yi - (yA.1 69 83))) 69 79 (yA.1 69 76)) 69 76 0) _
    refine Pa.mp 1 (pc' := 203) (l' := [(0, .ref 69), (1, .int yf), (2, .int yb), (3, .int ym), (4, .int ya), (5, .int yi)]) (st' := [.ref 69]) (by rfl) ?_
    refine Pa.gfI (v := yA.1 69 83) (by rfl) (by rfl) (.inl rfl) (by rfl) (by show (uI (uI (uI yA 69 80 (yi - (yA.1 69 83))) 69 79 (yA.1 69 76)) 69 76 0).1 69 83 = yA.1 69 83; rw [uI_k (by decide), uI_k (by decide), uI_k (by decide)]) ?_
    refine Pa.iret (by rfl) ?_
    exact l1 h1
  · have h2 : (yA.1 69 83).toInt < 0 := h2
    refine Pa.ic (x := (-4)) (pc' := 177) (by rfl) (by rfl) (by decide) ?_
    refine Pa.iret (by rfl) ?_
    exact l2 h2

theorem e_split0 {yA yW : AW} (yg : Rsx yA) (hs : smM yW yA yW) (hk : ∀ yd yj, 118 ≤ yd → yd ≤ 127 → yW.1 yd yj = yA.1 yd yj) (N : Nat) (yf yb ym : Int32) : Pa N 237 0 [(0, .ref 69), (1, .int yf), (2, .int yb), (3, .int ym)] [] yW (eSp yf yb ym yA yW) := by
  have ye11 : yW.1 69 11 = yA.1 69 11 := hs.2.1 11 (by decide) (by decide) (by decide) (by decide) (by decide) (by decide) (by decide) (by decide)
  have e76 : yW.1 69 76 = yA.1 69 76 := hs.2.1 76 (by decide) (by decide) (by decide) (by decide) (by decide) (by decide) (by decide) (by decide)
  have hn := yg.n9
  have no : ¬ okSp (yA.1 69 11) yf yb ym → eSp yf yb ym yA yW (some (.int (-1))) yW := fun yh => .inl ⟨yh, rfl, rfl⟩
  refine bm_sp0 yf yb ym ?_ ?_ ?_ ?_ ?_ ?_ ?_ ?_ ?_ ?_
  · exact fun _ => no (fun yz => by have := yz.1; omega)
  · exact fun _ yy => no (fun yz => by have := yz.1; rw [ye11] at yy; omega)
  · exact fun _ _ _ => no (fun yz => by have := yz.2.1; omega)
  · exact fun _ _ _ _ => no (fun yz => by have := yz.2.1; omega)
  · intro y1 y2 y3 y4 y5
    rw [(bc_cb y3 y4).2] at y5
    exact no (fun yz => by have := yz.2.2.1; omega)
  · intro y1 y2 y3 y4 y5 y6
    rw [(bc_cb y3 y4).2] at y6
    exact no (fun yz => by have := yz.2.2.1; omega)
  · exact fun _ _ _ _ _ _ _ => no (fun yz => by have := yz.2.2.2; omega)
  · exact fun _ _ _ _ _ _ _ _ => no (fun yz => by have := yz.2.2.2; omega)
  · intro y1 y2 y3 y4 y5 y6 y7 y8 y9
    rw [(bc_cb y3 y4).2] at y5 y6
    rw [ye11] at y2
    rw [e76] at y9
    have eb := bN_eq y3 y4
    have yok : okSp (yA.1 69 11) yf yb ym := ⟨⟨y1, y2⟩, ⟨y3, y4⟩, ⟨by omega, by omega⟩, y7, y8⟩
    have hn0 : qN yA ≠ 0 := by omega
    have hb2 : 2 ≤ cb (bN yb) 6 := by omega
    obtain ⟨ya, ea⟩ : ∃ ya, sumN (yA.1 122) (qN yA) = ya := ⟨_, rfl⟩
    -- the lands, one by one
    have key2 : ∀ (N yi : Nat) (yU : AW), yi ≤ 6 → smM yU yA yU → lkE yW yU → (∀ yj, yU.1 125 yj = yW.1 125 yj) → (∀ l, l < yi → yU.1 126 l = rtV yA yf l ∧ yU.1 127 l = 0) → Pa N 237 88 [(0, .ref 69), (1, .int yf), (2, .int yb), (3, .int ym), (4, .int ya), (5, .int (Int32.ofNat yi))] [] yU (eSp yf yb ym yA yW) := by
      intro N
      induction N with
      | zero => intros; exact Pa.zero
      | succ N yih =>
        intro yi yU yhi hu hl h125 hr
        have ei : (Int32.ofNat yi).toInt = (yi : Int) := i32_nat (by omega)
        refine bm_sp2 yf yb ym ya (Int32.ofNat yi) ?_ ?_ <;> rw [ei]
        · intro yz
          have ye : yi = 6 := by omega
          subst ye
          have u76 : yU.1 69 76 = yA.1 69 76 := hu.2.1 76 (by decide) (by decide) (by decide) (by decide) (by decide) (by decide) (by decide) (by decide)
          have tm : ∀ {V : AW}, mvE yU V → tM (yA.1 122) (rtV yA yf) (mB yA) (qN yA) V := fun {V} hV => tM_e ⟨by rw [u76]; exact hn.1, fun yi _ => (hl 122 yi (.inr (.inl rfl))).trans (hk 122 yi (by decide) (by decide)), fun yi yhi => ⟨((hl 123 yi (.inr (.inr rfl))).trans (hk 123 yi (by decide) (by decide))).trans (yg.yM yi yhi).1, (yg.yM yi yhi).2⟩, fun l hl => (hr l hl).1⟩ hV
          have ym0 : mvE yU (uI yU 69 83 (-1)) := mvE_u (mvE_refl yU) (.inr (.inr (.inr ⟨rfl, rfl⟩)))
          have yh := c_tmM (yb := bN yb) eb.2 hb2 hn.2 (tm ym0) 0 ya 0 (qN yA) 0 0 (-1, none) (uI yU 69 83 (-1)) N (by omega) (fun yi yhi => absurd yhi (Nat.not_lt_zero yi)) ⟨mvE_refl _, fun l hl => by rw [uI_c (by decide), (hr l hl).2]; rfl, fun yi yhi => absurd yhi (Nat.not_lt_zero yi), by rw [uI_h], .inl ⟨by decide, fun _ => rfl⟩⟩
          rw [← eb.1, Int32.zero_mul, Nat.zero_mul] at yh
          refine Pa.mono yh (fun yv V hv => ?_)
          obtain ⟨rfl, yk1, yk2, yk3, yk4, yk5⟩ := hv
          refine bm_sp4 yf yb ym ya _ ?_
          have ym1 : mvE yU V := mvE_tr ym0 yk1
          have ym2 : mvE yU (uI V 69 83 (-1)) := mvE_u ym1 (.inr (.inr (.inr ⟨rfl, rfl⟩)))
          have h2 := c_tmM (yb := bN yb) eb.2 hb2 hn.2 (tm ym2) ym ya 1 (qN yA) 0 0 (-1, none) (uI V 69 83 (-1)) N (by omega) (fun yi yhi => absurd yhi (Nat.not_lt_zero yi)) ⟨mvE_refl _, fun l hl => by rw [uI_c (by decide)]; exact yk2 l hl, fun yi yhi => absurd yhi (Nat.not_lt_zero yi), by rw [uI_h], .inr ⟨by decide, .inl ⟨rfl, fun _ => rfl⟩⟩⟩
          rw [← eb.1, Nat.zero_mul] at h2
          refine Pa.mono h2 (fun yv V2 hv => ?_)
          obtain ⟨rfl, l1, l2, l3, l4, l5⟩ := hv
          have ym3 : mvE yU V2 := mvE_tr ym2 l1
          have es : fN (wU (yA.1 122) (rtV yA yf) (mB yA) (bN yb) (cb (bN yb) 6) (qN yA) (ym * ya)) 0 (cb (bN yb) 6 ^ qN yA) (-1, none) = sF yA yf yb ym := by rw [← ea]; rfl
          have es0 : fN (wU (yA.1 122) (rtV yA yf) (mB yA) (bN yb) (cb (bN yb) 6) (qN yA) 0) 0 (cb (bN yb) 6 ^ qN yA) (-1, none) = s0F yA yf yb := rfl
          rw [es] at l4 l5
          rw [es0] at yk4
          have hG : wG (sF yA yf yb ym) := fS_G
          have v125 : ∀ yi, (uI V 69 83 (-1)).1 125 yi = yW.1 125 yi := fun yi => by
            rw [uI_c (by decide)]
            rcases yk5 with yk5 | yk5
            · rw [yk5.2 yi, uI_c (by decide)]
              exact h125 yi
            · exact absurd (by decide) yk5.1
          have lk : lkE yW V2 := lkE_tr hl (lkE_mv ym3)
          have w69 : ∀ yj, yj = 76 ∨ yj = 79 ∨ yj = 80 → V2.1 69 yj = yA.1 69 yj := fun yj hj => (ym3.1 69 yj (by decide) (by decide) (by decide) (.inr (by omega))).trans (by
            rcases hj with yz | yz | yz <;> rw [yz]
            · exact u76
            · exact hu.2.1 79 (by decide) (by decide) (by decide) (by decide) (by decide) (by decide) (by decide) (by decide)
            · exact hu.2.1 80 (by decide) (by decide) (by decide) (by decide) (by decide) (by decide) (by decide) (by decide))
          have ww69 : ∀ yj, yj = 76 ∨ yj = 79 ∨ yj = 80 → yW.1 69 yj = yA.1 69 yj := fun yj hj => by
            rcases hj with yz | yz | yz <;> rw [yz]
            · exact e76
            · exact hs.2.1 79 (by decide) (by decide) (by decide) (by decide) (by decide) (by decide) (by decide) (by decide)
            · exact hs.2.1 80 (by decide) (by decide) (by decide) (by decide) (by decide) (by decide) (by decide) (by decide)
          refine bm_sp5 yf yb ym ya _ (fun yz => ?_) (fun yz => ?_)
          · rw [l4] at yz
            rw [l4, yk4]
            rcases hG with ⟨_, y2⟩ | ⟨yw, y1w, y2w⟩
            · exfalso
              omega
            · refine .inr ⟨yok, .inr ⟨hn0, fun yd yj yhd => ?_, .inr ⟨yw, y1w, y2w, rfl, fun yi yhi => ?_, ?_, ?_, ?_⟩⟩⟩
              · rw [uI_c (by omega), uI_c (by omega), uI_c (by omega)]
                exact lk yd yj yhd
              · rw [uI_c (by decide), uI_c (by decide), uI_c (by decide)]
                rcases l5 with l5 | ⟨_, l5 | ⟨w', l5, l6⟩⟩
                · exact absurd l5.1 (by decide)
                · rw [y1w] at l5
                  cases l5.1
                · rw [y1w] at l5
                  have ye : yw = w' := by injection l5
                  rw [ye]
                  exact l6 yi yhi
              · rw [uI_k (by decide), uI_h]
                exact w69 76 (.inl rfl)
              · rw [uI_k (by decide), uI_k (by decide), uI_h]
              · rw [uI_h]
          · rw [l4] at yz
            refine .inr ⟨yok, .inr ⟨hn0, lk, .inl ⟨yz, rfl, fun yi => ?_, fun yj hj => (w69 yj hj).trans (ww69 yj hj).symm⟩⟩⟩
            rcases l5 with l5 | ⟨_, l5 | ⟨w', l5, _⟩⟩
            · exact absurd l5.1 (by decide)
            · rw [l5.2 yi]
              exact v125 yi
            · exfalso
              rcases hG with ⟨y1w, _⟩ | ⟨yw, _, y2w⟩
              · rw [y1w] at l5
                cases l5
              · omega
        · intro yz
          have ye0 : yU.1 69 0 = yA.1 69 0 := hu.2.1 0 (by decide) (by decide) (by decide) (by decide) (by decide) (by decide) (by decide) (by decide)
          rw [ye0]
          refine Pa.mono (c_lawR yg.gx hu 1 (Int32.ofNat yi) yf (yA.1 69 0) (yA.1 69 0) (by decide) (by decide) N) (fun yv A1 hv => ?_)
          obtain ⟨rfl, ys1⟩ := hv
          refine bm_sp3 yf yb ym ya (Int32.ofNat yi) _ (Int32.ofNat yi) ?_
          rw [ei, Int.toNat_natCast]
          intro _ _ _ _
          have yk1 : ∀ yd yj, yd < 69 ∨ (118 ≤ yd ∧ yd ≤ 127) → A1.1 yd yj = yU.1 yd yj := fun yd yj yhd => ys1.2.2.2 yd yj yhd
          have yh := yih (yi + 1) (uI (uI A1 126 yi (lwV yA 1 (Int32.ofNat yi) yf (yA.1 69 0) (yA.1 69 0))) 127 yi 0) (by omega) (smM_k (smM_k (smM_rb ys1) (by decide)) (by decide)) (fun yd yj yhd => by
            rw [uI_c (by omega), uI_c (by omega), yk1 yd yj (by omega)]
            exact hl yd yj yhd) (fun yj => by
            rw [uI_c (by decide), uI_c (by decide), yk1 125 yj (by omega)]
            exact h125 yj) (fun l hl2 => by
            rw [uI_c (by decide), uI_row, uI_row, uI_c (by decide)]
            by_cases ye : l = yi
            · rw [if_pos ye, if_pos ye, ye]
              exact ⟨rfl, rfl⟩
            · rw [if_neg ye, if_neg ye, yk1 126 l (by omega), yk1 127 l (by omega)]
              exact hr l (by omega))
          rw [on_succ yi] at yh
          exact yh
    -- all coins
    have key1 : ∀ (N yi : Nat), yi ≤ qN yA → Pa N 237 58 [(0, .ref 69), (1, .int yf), (2, .int yb), (3, .int ym), (4, .int (sumN (yA.1 122) yi)), (5, .int (Int32.ofNat yi))] [] yW (eSp yf yb ym yA yW) := by
      intro N
      induction N with
      | zero => intros; exact Pa.zero
      | succ N yih =>
        intro yi yhi
        have ei : (Int32.ofNat yi).toInt = (yi : Int) := i32_nat (by omega)
        refine bm_sp1 yf yb ym _ (Int32.ofNat yi) ?_ ?_ <;> rw [ei, e76, hn.1] <;> (try rw [Int.toNat_natCast])
        · intro yz
          have ye : yi = qN yA := by omega
          rw [ye, ea]
          exact key2 N 0 yW (Nat.zero_le _) hs (fun _ _ _ => rfl) (fun _ => rfl) (fun l hl => absurd hl (Nat.not_lt_zero l))
        · intro yz _ _
          rw [hk 122 yi (by decide) (by decide)]
          have yh := yih (yi + 1) (by omega)
          rw [on_succ yi] at yh
          exact yh
    exact key1 N 0 (Nat.zero_le _)
  · intro y1 y2 y3 y4 y5 y6 y7 y8 y9
    rw [(bc_cb y3 y4).2] at y5 y6
    rw [ye11] at y2
    rw [e76] at y9
    exact .inr ⟨⟨⟨y1, y2⟩, ⟨y3, y4⟩, ⟨by omega, by omega⟩, y7, y8⟩, .inl ⟨by omega, rfl, rfl⟩⟩
/-! what ya ypair of splits leaves -/
theorem dSp_hi {yA yU : AW} {yf yb ym : Int32} {yu : Option Value} (yh : dSp yf yb ym yA yu yU) : (∀ yd yj, 69 ≤ yd → yU.1 yd yj = yA.1 yd yj) ∧ smM yU yA yU := by
  rcases yh with ⟨_, _, rfl⟩ | ⟨_, ⟨_, _, rfl⟩ | ⟨_, ys, _⟩⟩
  · exact ⟨fun _ _ _ => rfl, smM_refl _⟩
  · exact ⟨fun _ _ _ => rfl, smM_refl _⟩
  · exact ⟨fun yd yj yhd => ys.1 yd yj (scC_hi yhd), smM_sc ys⟩
def eSpd (yf yb ym : Int32) (yA : AW) (yu : Option Value) (yU : AW) : Prop := ∃ yx A1, dSp yf yb ym yA (some (.int yx)) A1 ∧ eSp yf yb ym yA A1 yu yU
theorem k_split {yA A2 : AW} {yf yb ym yy : Int32} (yg : Rsx yA) (yh : eSpd yf yb ym yA (some (.int yy)) A2) : Rtr A2 ∧ ∀ yx A1, dSp yf yb ym yA (some (.int yx)) A1 → yx = yy := by
  obtain ⟨yx0, A1, ys1, ys2⟩ := yh
  have hn := yg.n9
  have lem : ∀ (yx : Int32) (A3 : AW), dSp yf yb ym yA (some (.int yx)) A3 → yx = yy := fun yx A3 ys3 => by
    rcases ys3 with ⟨ya1, a2, _⟩ | ⟨ya1, ⟨a2, a3, _⟩ | ⟨a2, _, ⟨a3, a4, _⟩ | ⟨yw, a3, a4, a5, _⟩⟩⟩
    · rcases ys2 with ⟨b1, b2, _⟩ | ⟨b1, _⟩
      · rw [some_int a2, some_int b2]
      · exact absurd b1 ya1
    · rcases ys2 with ⟨b1, _⟩ | ⟨b1, ⟨b2, b3, _⟩ | ⟨b2, _⟩⟩
      · exact absurd ya1 b1
      · rw [some_int a3, some_int b3]
      · exact absurd a2 b2
    · rcases ys2 with ⟨b1, _⟩ | ⟨b1, ⟨b2, _⟩ | ⟨b2, _, ⟨b3, b4, _⟩ | ⟨w', b3, b4, _⟩⟩⟩
      · exact absurd ya1 b1
      · exact absurd b2 a2
      · rw [some_int a4, some_int b4]
      · have a3' : (sF yA yf yb ym).1.toInt < 0 := a3
        omega
    · rcases ys2 with ⟨b1, _⟩ | ⟨b1, ⟨b2, _⟩ | ⟨b2, _, ⟨b3, b4, _⟩ | ⟨w', b3, b4, b5, _⟩⟩⟩
      · exact absurd ya1 b1
      · exact absurd b2 a2
      · have a4' : 0 ≤ (sF yA yf yb ym).1.toInt := a4
        omega
      · rw [some_int a5, some_int b5]
        rfl
  refine ⟨?_, lem⟩
  have hhi := (dSp_hi ys1).1
  obtain ⟨yx1, yx2, x3, yx4, yx5, x6⟩ := yg.tr
  rcases ys1 with ⟨ya1, a2, rfl⟩ | ⟨ya1, ⟨a2, a3, rfl⟩ | ⟨a2, a3, ⟨a4, a5, a6⟩ | ⟨yw, a4, a5, a6, a7, a8, a9, a10, a11⟩⟩⟩
  · rcases ys2 with ⟨b1, b2, rfl⟩ | ⟨b1, _⟩
    · exact yg.tr
    · exact absurd b1 ya1
  · rcases ys2 with ⟨b1, _⟩ | ⟨b1, ⟨b2, b3, rfl⟩ | ⟨b2, _⟩⟩
    · exact absurd ya1 b1
    · exact yg.tr
    · exact absurd a2 b2
  · rcases ys2 with ⟨b1, _⟩ | ⟨b1, ⟨b2, _⟩ | ⟨b2, b3, ⟨b4, b5, b6, b7⟩ | ⟨w', b4, b5, _⟩⟩⟩
    · exact absurd ya1 b1
    · exact absurd b2 a2
    · have c61 : ∀ yj, yj ≠ 8 → A2.1 61 yj = yA.1 61 yj := fun yj hj => (b3 61 yj (by omega)).trans (a6 61 yj (.inr (.inr (.inr ⟨rfl, hj⟩))))
      have c64 : ∀ yj, A2.1 64 yj = yA.1 64 yj := fun yj => (b3 64 yj (by omega)).trans (a6 64 yj (.inr (.inr (.inl rfl))))
      have c125 : ∀ yj, A2.1 125 yj = yA.1 125 yj := fun yj => (b6 yj).trans (hhi 125 yj (by decide))
      have c69 : ∀ yj, yj = 76 ∨ yj = 79 ∨ yj = 80 → A2.1 69 yj = yA.1 69 yj := fun yj hj => (b7 yj hj).trans (hhi 69 yj (by decide))
      have c122 : ∀ yj, A2.1 122 yj = yA.1 122 yj := fun yj => (b3 122 yj (by omega)).trans (hhi 122 yj (by decide))
      have c123 : ∀ yj, A2.1 123 yj = yA.1 123 yj := fun yj => (b3 123 yj (by omega)).trans (hhi 123 yj (by decide))
      refine ⟨?_, ?_, ?_, ?_, ?_, ?_⟩
      · rw [c61 9 (by decide), c69 76 (by omega)]
        exact yx1
      · rw [c61 10 (by decide), c69 79 (by omega)]
        exact yx2
      · rw [c69 79 (by omega)]
        intro yj hj
        rw [c64, c125]
        exact x3 yj hj
      · rw [c69 79 (by omega), c69 80 (by omega)]
        exact yx4
      · rw [c69 79 (by omega), c61 11 (by decide), c69 80 (by omega)]
        exact yx5
      · rw [c69 76 (by omega)]
        intro yi yhi
        rw [c122, c123]
        exact x6 yi yhi
    · exfalso
      have a4' : (sF yA yf yb ym).1.toInt < 0 := a4
      omega
  · rcases ys2 with ⟨b1, _⟩ | ⟨b1, ⟨b2, _⟩ | ⟨b2, b3, ⟨b4, b5, _⟩ | ⟨w', b4, b5, b6, b7, b8, b9, b10⟩⟩⟩
    · exact absurd ya1 b1
    · exact absurd b2 a2
    · exfalso
      have a5' : 0 ≤ (sF yA yf yb ym).1.toInt := a5
      omega
    · have ye : yw = w' := by
        have yz : (sF yA yf yb ym).2 = some yw := a4
        rw [b4] at yz
        injection yz with yz
        exact yz.symm
      refine ⟨?_, ?_, ?_, ?_, ?_, ?_⟩
      · rw [b3 61 9 (by omega), a10, b10]
      · rw [b3 61 10 (by omega), a8, b8]
        exact yx1
      · rw [b8]
        intro yj hj
        have hj' : yj < qN yA := hj
        rw [b3 64 yj (by omega), a7 yj hj', b7 yj hj', ye]
      · rw [b8]
        intro yz
        exact absurd yz (by omega)
      · intro _
        rw [b3 61 11 (by omega), a9, b9]
        rfl
      · rw [b10]
        intro yi yhi
        exact absurd yhi (Nat.not_lt_zero yi)
def Ft9 : zRF := Fg
def At9 : zRA := Ag ++ [(62, 122), (63, 123)]
def It9 : List Nat := [0, 1, 2, 3, 4, 5, 6, 7, 13]
theorem Rsx_of {yA : AW} (hA : okA yA) (hF : eqF Ft9 yA) (hR : eqRs At9 yA) (hX : RXL Ig yA) (h13 : Rtr yA) : Rsx yA := by
  have yr : ∀ ya yb yn, (decide ((ya, yb) ∈ At9)) = true → z_aP (ya, yb) = some yn → ∀ yj, yj < yn → yA.1 ya yj = yA.1 yb yj := fun ya yb yn yh h2 yj hj => hR (ya, yb) (of_decide_eq_true yh) yn h2 yj hj
  exact ⟨Rgx_of hA hF (fun yp hp => hR yp (List.mem_append_left _ hp)) hX, h13, yr 62 122 9 (by decide +kernel) (by decide +kernel), yr 63 123 9 (by decide +kernel) (by decide +kernel)⟩
theorem Rsx_t {yA : AW} (hA : okA yA) (hF : eqF Ft9 yA) (hR : eqRs At9 yA) (hX : RXL It9 yA) : Rsx yA := Rsx_of hA hF hR (fun yi yhi => hX yi (fsub_ok (yF := It9) (F' := Ig) (by decide) yhi)) (hX 13 (by decide))
theorem Pok_t {yp : zPr} (yh : PairOK (RR Ft9 At9 (fun yA => RXL Ig yA ∧ Rtr yA)) yp) : PairOK (RR Ft9 At9 (RXL It9)) yp := yh.cong (fun yw => ⟨fun yq => ⟨yq.1, fun yi yhi => by
    by_cases ye : yi = 13
    · rw [ye]
      exact yq.2.2
    · refine yq.2.1 yi ?_
      simp only [It9, Ig, List.mem_cons, List.not_mem_nil, or_false] at yhi ⊢
      omega⟩, fun yq => ⟨yq.1, fun yi yhi => yq.2 yi (fsub_ok (yF := It9) (F' := Ig) (by decide) yhi), yq.2 13 (by decide)⟩⟩)
theorem h_split {yp : zPr} (hp : yp.1 = 132 ∧ yp.2.1 = 237 ∧ yp.2.2.1 = 3) (yhc : c_rm yp = true) (yq1 : (ri_wr zZ Ft9 At9 (wX yp) && kXL Ig (wX yp)) = true) (yq2 : (ri_wr zZ Ft9 At9 (wM yp) && kXL Ig (wM yp)) = true) : PairOK (RR Ft9 At9 (RXL It9)) yp := by
  obtain ⟨yp1, yp2, yp3⟩ := hp
  refine Pok_t (pairH (yD := on3 dSp) (yE := on3 eSpd) (by decide +kernel) (by decide +kernel) yhc (keepXL Ig) yq1 yq2 (fun N yA yas o hF hR hX h13 hl => ?_) (fun N yA A1 yas yx o hF hR hX h13 _ hl ys1 => ?_) (fun yA A1 A2 yas yx yy o hF hR hX h13 hl ys1 ys2 => ?_))
  · rw [yp3] at hl
    obtain ⟨yf, yb, ym, rfl⟩ := as3 hl
    rw [yp1]
    exact d_split (Rsx_of o hF hR hX h13) N yf yb ym
  · rw [yp3] at hl
    obtain ⟨yf, yb, ym, rfl⟩ := as3 hl
    rw [yp2]
    have ys1 : dSp yf yb ym yA (some (.int yx)) A1 := ys1
    have hh := dSp_hi ys1
    exact Pa.mono (e_split0 (Rsx_of o hF hR hX h13) hh.2 (fun yd yj h1 _ => hh.1 yd yj (by omega)) N yf yb ym) (fun yu yB yh => ⟨yx, A1, ys1, yh⟩)
  · rw [yp3] at hl
    obtain ⟨yf, yb, ym, rfl⟩ := as3 hl
    have yk := k_split (yf := yf) (yb := yb) (ym := ym) (Rsx_of o hF hR hX h13) ys2
    exact ⟨yk.1, fun _ => yk.2 yx A1 ys1⟩
/-! move, moved, without -/
def okMv (yn yb : Int32) : Prop := 1 ≤ yn.toInt ∧ yn.toInt ≤ 9999 ∧ 1 ≤ yb.toInt ∧ yb.toInt ≤ 63
def dMv (yn yb : Int32) (yA : AW) (yu : Option Value) (yB : AW) : Prop := (¬ okMv yn yb ∧ yu = some (.int (-1)) ∧ yB = yA) ∨ (okMv yn yb ∧ 9 ≤ (yA.1 61 9).toInt ∧ yu = some (.int (-2)) ∧ yB = yA) ∨ (okMv yn yb ∧ (yA.1 61 9).toInt < 9 ∧ 0 ≤ (yA.1 61 9).toInt ∧ yu = some (.int (yA.1 61 9 + 1)) ∧ yB = uI (uI (uI yA 62 ((yA.1 61 9).toInt.toNat) yn) 63 ((yA.1 61 9).toInt.toNat) yb) 61 9 (yA.1 61 9 + 1))
def eMv (yn yb : Int32) (yA : AW) (yu : Option Value) (yB : AW) : Prop := (¬ okMv yn yb ∧ yu = some (.int (-1)) ∧ yB = yA) ∨ (okMv yn yb ∧ (yA.1 69 76).toInt = 9 ∧ yu = some (.int (-2)) ∧ yB = yA) ∨ (okMv yn yb ∧ (yA.1 69 76).toInt < 9 ∧ 0 ≤ (yA.1 69 76).toInt ∧ yu = some (.int (yA.1 69 76 + 1)) ∧ yB = uI (uI (uI yA 122 ((yA.1 69 76).toInt.toNat) yn) 123 ((yA.1 69 76).toInt.toNat) yb) 69 76 (yA.1 69 76 + 1))
theorem bx_mov {N : Nat} {yA : AW} {yQ : Option Value → AW → Prop} (yn yb : Int32)
    (l1 : yn.toInt < 1 → yQ (some (.int (-1))) yA)
    (l2 : 1 ≤ yn.toInt → 9999 < yn.toInt → yQ (some (.int (-1))) yA)
    (l3 : 1 ≤ yn.toInt → yn.toInt ≤ 9999 → yb.toInt < 1 → yQ (some (.int (-1))) yA)
    (l4 : 1 ≤ yn.toInt → yn.toInt ≤ 9999 → 1 ≤ yb.toInt → 63 < yb.toInt → yQ (some (.int (-1))) yA)
    (l5 : 1 ≤ yn.toInt → yn.toInt ≤ 9999 → 1 ≤ yb.toInt → yb.toInt ≤ 63 → (yA.1 61 9).toInt < 9 → 0 ≤ (yA.1 61 9).toInt → yQ (some (.int ((yA.1 61 9) + 1))) (uI (uI (uI yA 62 ((yA.1 61 9).toInt.toNat) yn) 63 ((yA.1 61 9).toInt.toNat) yb) 61 9 ((yA.1 61 9) + 1)))
    (l6 : 1 ≤ yn.toInt → yn.toInt ≤ 9999 → 1 ≤ yb.toInt → yb.toInt ≤ 63 → 9 ≤ (yA.1 61 9).toInt → yQ (some (.int (-2))) yA) :
    Pa N 131 0 [(0, .ref 0), (1, .int yn), (2, .int yb)] [] yA yQ := by
  refine Pa.mp 1 (pc' := 1) (l' := [(0, .ref 0), (1, .int yn), (2, .int yb)]) (st' := [.int yn]) (by rfl) ?_
  refine Pa.ic (x := 1) (pc' := 2) (by rfl) (by rfl) (by decide) ?_
  refine Pa.ic (x := 9999) (pc' := 5) (by rfl) (by rfl) (by decide) ?_
  refine Pa.ist (by rfl) (by rfl) (.inl rfl) (by rfl) (by rfl) ?_
  show Pa N 146 0 [(0, .int yn), (1, .int 1), (2, .int 9999)] [] yA _
  refine Pa.mp 2 (pc' := 2) (l' := [(0, .int yn), (1, .int 1), (2, .int 9999)]) (st' := [.int 1, .int yn]) (by rfl) ?_
  refine Pa.if2 (a := yn.toInt) (b := 1) (t := 14) (by rfl) (by rfl) (rfl) (by decide) (fun h1 => ?_) (fun h2 => ?_)
  · have h1 : yn.toInt < 1 := h1
    refine Pa.ic (x := 0) (pc' := 15) (by rfl) (by rfl) (by decide) ?_
    refine Pa.iret (by rfl) ?_
    show Pa N 131 8 [(0, .ref 0), (1, .int yn), (2, .int yb)] [.int 0] yA _
    refine Pa.if1k true (by rfl) (by rfl) (by decide) ?_
    show Pa N 131 21 [(0, .ref 0), (1, .int yn), (2, .int yb)] [] yA _
    refine Pa.ic (x := (-1)) (pc' := 22) (by rfl) (by rfl) (by decide) ?_
    refine Pa.iret (by rfl) ?_
    exact l1 h1
  · have h2 : 1 ≤ yn.toInt := h2
    refine Pa.mp 2 (pc' := 7) (l' := [(0, .int yn), (1, .int 1), (2, .int 9999)]) (st' := [.int 9999, .int yn]) (by rfl) ?_
    refine Pa.if2 (a := yn.toInt) (b := 9999) (t := 14) (by rfl) (by rfl) (rfl) (by decide) (fun h3 => ?_) (fun h4 => ?_)
    · have h3 : 9999 < yn.toInt := h3
      refine Pa.ic (x := 0) (pc' := 15) (by rfl) (by rfl) (by decide) ?_
      refine Pa.iret (by rfl) ?_
      show Pa N 131 8 [(0, .ref 0), (1, .int yn), (2, .int yb)] [.int 0] yA _
      refine Pa.if1k true (by rfl) (by rfl) (by decide) ?_
      show Pa N 131 21 [(0, .ref 0), (1, .int yn), (2, .int yb)] [] yA _
      refine Pa.ic (x := (-1)) (pc' := 22) (by rfl) (by rfl) (by decide) ?_
      refine Pa.iret (by rfl) ?_
      exact l2 h2 h3
    · have h4 : yn.toInt ≤ 9999 := h4
      refine Pa.ic (x := 1) (pc' := 11) (by rfl) (by rfl) (by decide) ?_
      refine Pa.mp 1 (pc' := 15) (l' := [(0, .int yn), (1, .int 1), (2, .int 9999)]) (st' := [.int 1]) (by rfl) ?_
      refine Pa.iret (by rfl) ?_
      show Pa N 131 8 [(0, .ref 0), (1, .int yn), (2, .int yb)] [.int 1] yA _
      refine Pa.if1k false (by rfl) (by rfl) (by decide) ?_
      show Pa N 131 11 [(0, .ref 0), (1, .int yn), (2, .int yb)] [] yA _
      refine Pa.mp 1 (pc' := 12) (l' := [(0, .ref 0), (1, .int yn), (2, .int yb)]) (st' := [.int yb]) (by rfl) ?_
      refine Pa.ic (x := 1) (pc' := 13) (by rfl) (by rfl) (by decide) ?_
      refine Pa.ic (x := 63) (pc' := 15) (by rfl) (by rfl) (by decide) ?_
      refine Pa.ist (by rfl) (by rfl) (.inl rfl) (by rfl) (by rfl) ?_
      show Pa N 146 0 [(0, .int yb), (1, .int 1), (2, .int 63)] [] yA _
      refine Pa.mp 2 (pc' := 2) (l' := [(0, .int yb), (1, .int 1), (2, .int 63)]) (st' := [.int 1, .int yb]) (by rfl) ?_
      refine Pa.if2 (a := yb.toInt) (b := 1) (t := 14) (by rfl) (by rfl) (rfl) (by decide) (fun h5 => ?_) (fun h6 => ?_)
      · have h5 : yb.toInt < 1 := h5
        refine Pa.ic (x := 0) (pc' := 15) (by rfl) (by rfl) (by decide) ?_
        refine Pa.iret (by rfl) ?_
        show Pa N 131 18 [(0, .ref 0), (1, .int yn), (2, .int yb)] [.int 0] yA _
        refine Pa.if1k false (by rfl) (by rfl) (by decide) ?_
        show Pa N 131 21 [(0, .ref 0), (1, .int yn), (2, .int yb)] [] yA _
        refine Pa.ic (x := (-1)) (pc' := 22) (by rfl) (by rfl) (by decide) ?_
        refine Pa.iret (by rfl) ?_
        exact l3 h2 h4 h5
      · have h6 : 1 ≤ yb.toInt := h6
        refine Pa.mp 2 (pc' := 7) (l' := [(0, .int yb), (1, .int 1), (2, .int 63)]) (st' := [.int 63, .int yb]) (by rfl) ?_
        refine Pa.if2 (a := yb.toInt) (b := 63) (t := 14) (by rfl) (by rfl) (rfl) (by decide) (fun h7 => ?_) (fun h8 => ?_)
        · have h7 : 63 < yb.toInt := h7
          refine Pa.ic (x := 0) (pc' := 15) (by rfl) (by rfl) (by decide) ?_
          refine Pa.iret (by rfl) ?_
          show Pa N 131 18 [(0, .ref 0), (1, .int yn), (2, .int yb)] [.int 0] yA _
          refine Pa.if1k false (by rfl) (by rfl) (by decide) ?_
          show Pa N 131 21 [(0, .ref 0), (1, .int yn), (2, .int yb)] [] yA _
          refine Pa.ic (x := (-1)) (pc' := 22) (by rfl) (by rfl) (by decide) ?_
          refine Pa.iret (by rfl) ?_
          exact l4 h2 h4 h6 h7
        · have h8 : yb.toInt ≤ 63 := h8
          refine Pa.ic (x := 1) (pc' := 11) (by rfl) (by rfl) (by decide) ?_
          refine Pa.mp 1 (pc' := 15) (l' := [(0, .int yb), (1, .int 1), (2, .int 63)]) (st' := [.int 1]) (by rfl) ?_
          refine Pa.iret (by rfl) ?_
          show Pa N 131 18 [(0, .ref 0), (1, .int yn), (2, .int yb)] [.int 1] yA _
          refine Pa.if1k true (by rfl) (by rfl) (by decide) ?_
          show Pa N 131 23 [(0, .ref 0), (1, .int yn), (2, .int yb)] [] yA _
          refine Pa.mp 1 (pc' := 24) (l' := [(0, .ref 0), (1, .int yn), (2, .int yb)]) (st' := [.ref 0]) (by rfl) ?_
          refine Pa.gfR (by rfl) (by rfl) (.inl rfl) (by rfl) ?_
          show Pa N 131 27 [(0, .ref 0), (1, .int yn), (2, .int yb)] [.ref 61] yA _
          refine Pa.mp 2 (pc' := 29) (l' := [(0, .ref 0), (1, .int yn), (2, .int yb)]) (st' := [.int yb, .int yn, .ref 61]) (by rfl) ?_
          refine Pa.inv (by rfl) (by rfl) (.inr rfl) (by rfl) ?_
          show Pa N 91 0 [(0, .ref 61), (1, .int yn), (2, .int yb)] [] yA _
          refine Pa.mp 1 (pc' := 1) (l' := [(0, .ref 61), (1, .int yn), (2, .int yb)]) (st' := [.ref 61]) (by rfl) ?_
          refine Pa.gfI (v := yA.1 61 9) (by rfl) (by rfl) (.inl rfl) (by rfl) (by rfl) ?_
          refine Pa.ic (x := 9) (pc' := 6) (by rfl) (by rfl) (by decide) ?_
          refine Pa.if2 (a := (yA.1 61 9).toInt) (b := 9) (t := 12) (by rfl) (by rfl) (rfl) (by decide) (fun h9 => ?_) (fun h10 => ?_)
          · have h9 : (yA.1 61 9).toInt < 9 := h9
            refine Pa.mp 1 (pc' := 13) (l' := [(0, .ref 61), (1, .int yn), (2, .int yb)]) (st' := [.ref 61]) (by rfl) ?_
            refine Pa.gfR (by rfl) (by rfl) (.inl rfl) (by rfl) ?_
            show Pa N 91 16 [(0, .ref 61), (1, .int yn), (2, .int yb)] [.ref 62] yA _
            refine Pa.mp 1 (pc' := 17) (l' := [(0, .ref 61), (1, .int yn), (2, .int yb)]) (st' := [.ref 61, .ref 62]) (by rfl) ?_
            refine Pa.gfI (v := yA.1 61 9) (by rfl) (by rfl) (.inl rfl) (by rfl) (by rfl) ?_
            refine Pa.mp 1 (pc' := 21) (l' := [(0, .ref 61), (1, .int yn), (2, .int yb)]) (st' := [.int yn, .int (yA.1 61 9), .ref 62]) (by rfl) ?_
            refine Pa.asts (j' := ((yA.1 61 9).toInt.toNat)) (by rfl) (by rfl) (by rfl) (fun h11 h12 => ?_)
            have h11 : 0 ≤ (yA.1 61 9).toInt := h11
            have h12 : (yA.1 61 9).toInt < 9 := h12
            show Pa N 91 22 [(0, .ref 61), (1, .int yn), (2, .int yb)] [] (uI yA 62 ((yA.1 61 9).toInt.toNat) yn) _
            refine Pa.mp 1 (pc' := 23) (l' := [(0, .ref 61), (1, .int yn), (2, .int yb)]) (st' := [.ref 61]) (by rfl) ?_
            refine Pa.gfR (by rfl) (by rfl) (.inl rfl) (by rfl) ?_
            show Pa N 91 26 [(0, .ref 61), (1, .int yn), (2, .int yb)] [.ref 63] (uI yA 62 ((yA.1 61 9).toInt.toNat) yn) _
            refine Pa.mp 1 (pc' := 27) (l' := [(0, .ref 61), (1, .int yn), (2, .int yb)]) (st' := [.ref 61, .ref 63]) (by rfl) ?_
            refine Pa.gfI (v := yA.1 61 9) (by rfl) (by rfl) (.inl rfl) (by rfl) (by show (uI yA 62 ((yA.1 61 9).toInt.toNat) yn).1 61 9 = yA.1 61 9; rw [uI_c (by decide)]) ?_
            refine Pa.mp 1 (pc' := 31) (l' := [(0, .ref 61), (1, .int yn), (2, .int yb)]) (st' := [.int yb, .int (yA.1 61 9), .ref 63]) (by rfl) ?_
            refine Pa.asts (j' := ((yA.1 61 9).toInt.toNat)) (by rfl) (by rfl) (by rfl) (fun h13 h14 => ?_)
            have h13 : 0 ≤ (yA.1 61 9).toInt := h13
            have h14 : (yA.1 61 9).toInt < 9 := h14
            show Pa N 91 32 [(0, .ref 61), (1, .int yn), (2, .int yb)] [] (uI (uI yA 62 ((yA.1 61 9).toInt.toNat) yn) 63 ((yA.1 61 9).toInt.toNat) yb) _
            refine Pa.mp 2 (pc' := 34) (l' := [(0, .ref 61), (1, .int yn), (2, .int yb)]) (st' := [.ref 61, .ref 61]) (by rfl) ?_
            refine Pa.gfI (v := yA.1 61 9) (by rfl) (by rfl) (.inl rfl) (by rfl) (by show (uI (uI yA 62 ((yA.1 61 9).toInt.toNat) yn) 63 ((yA.1 61 9).toInt.toNat) yb).1 61 9 = yA.1 61 9; rw [uI_c (by decide), uI_c (by decide)]) ?_
            refine Pa.ic (x := 1) (pc' := 38) (by rfl) (by rfl) (by decide) ?_
            refine Pa.mp 1 (pc' := 39) (l' := [(0, .ref 61), (1, .int yn), (2, .int yb)]) (st' := [.int ((yA.1 61 9) + 1), .ref 61]) (by rfl) ?_
            refine Pa.pfI (by rfl) (by rfl) (.inl rfl) (by rfl) ?_
            show Pa N 91 42 [(0, .ref 61), (1, .int yn), (2, .int yb)] [] (uI (uI (uI yA 62 ((yA.1 61 9).toInt.toNat) yn) 63 ((yA.1 61 9).toInt.toNat) yb) 61 9 ((yA.1 61 9) + 1)) _
            refine Pa.mp 1 (pc' := 43) (l' := [(0, .ref 61), (1, .int yn), (2, .int yb)]) (st' := [.ref 61]) (by rfl) ?_
            refine Pa.gfI (v := (yA.1 61 9) + 1) (by rfl) (by rfl) (.inl rfl) (by rfl) (by show (uI (uI (uI yA 62 ((yA.1 61 9).toInt.toNat) yn) 63 ((yA.1 61 9).toInt.toNat) yb) 61 9 ((yA.1 61 9) + 1)).1 61 9 = (yA.1 61 9) + 1; rw [uI_h]) ?_
            refine Pa.iret (by rfl) ?_
            show Pa N 131 32 [(0, .ref 0), (1, .int yn), (2, .int yb)] [.int ((yA.1 61 9) + 1)] (uI (uI (uI yA 62 ((yA.1 61 9).toInt.toNat) yn) 63 ((yA.1 61 9).toInt.toNat) yb) 61 9 ((yA.1 61 9) + 1)) _
            refine Pa.iret (by rfl) ?_
            exact l5 h2 h4 h6 h8 h9 h11
          · have h10 : 9 ≤ (yA.1 61 9).toInt := h10
            refine Pa.ic (x := (-2)) (pc' := 11) (by rfl) (by rfl) (by decide) ?_
            refine Pa.iret (by rfl) ?_
            show Pa N 131 32 [(0, .ref 0), (1, .int yn), (2, .int yb)] [.int (-2)] yA _
            refine Pa.iret (by rfl) ?_
            exact l6 h2 h4 h6 h8 h10

theorem bm_mov {N : Nat} {yA : AW} {yQ : Option Value → AW → Prop} (yn yb : Int32)
    (l1 : yn.toInt < 1 → yQ (some (.int (-1))) yA)
    (l2 : 1 ≤ yn.toInt → 9999 < yn.toInt → yQ (some (.int (-1))) yA)
    (l3 : 1 ≤ yn.toInt → yn.toInt ≤ 9999 → yb.toInt < 1 → yQ (some (.int (-1))) yA)
    (l4 : 1 ≤ yn.toInt → yn.toInt ≤ 9999 → 1 ≤ yb.toInt → 63 < yb.toInt → yQ (some (.int (-1))) yA)
    (l5 : 1 ≤ yn.toInt → yn.toInt ≤ 9999 → 1 ≤ yb.toInt → yb.toInt ≤ 63 → (yA.1 69 76).toInt ≠ 9 → 0 ≤ (yA.1 69 76).toInt → (yA.1 69 76).toInt < 9 → yQ (some (.int ((yA.1 69 76) + 1))) (uI (uI (uI yA 122 ((yA.1 69 76).toInt.toNat) yn) 123 ((yA.1 69 76).toInt.toNat) yb) 69 76 ((yA.1 69 76) + 1)))
    (l6 : 1 ≤ yn.toInt → yn.toInt ≤ 9999 → 1 ≤ yb.toInt → yb.toInt ≤ 63 → (yA.1 69 76).toInt = 9 → yQ (some (.int (-2))) yA) :
    Pa N 235 0 [(0, .ref 69), (1, .int yn), (2, .int yb)] [] yA yQ := by
  refine Pa.mp 1 (pc' := 1) (l' := [(0, .ref 69), (1, .int yn), (2, .int yb)]) (st' := [.int yn]) (by rfl) ?_
  refine Pa.ic (x := 1) (pc' := 2) (by rfl) (by rfl) (by decide) ?_
  refine Pa.ic (x := 9999) (pc' := 5) (by rfl) (by rfl) (by decide) ?_
  refine Pa.ist (by rfl) (by rfl) (.inl rfl) (by rfl) (by rfl) ?_
  show Pa N 152 0 [(0, .int yn), (1, .int 1), (2, .int 9999)] [] yA _
  refine Pa.mp 2 (pc' := 2) (l' := [(0, .int yn), (1, .int 1), (2, .int 9999)]) (st' := [.int 1, .int yn]) (by rfl) ?_
  refine Pa.if2 (a := yn.toInt) (b := 1) (t := 14) (by rfl) (by rfl) (rfl) (by decide) (fun h1 => ?_) (fun h2 => ?_)
  · have h1 : yn.toInt < 1 := h1
    refine Pa.ic (x := 0) (pc' := 15) (by rfl) (by rfl) (by decide) ?_
    refine Pa.iret (by rfl) ?_
    show Pa N 235 8 [(0, .ref 69), (1, .int yn), (2, .int yb)] [.int 0] yA _
    refine Pa.if1k true (by rfl) (by rfl) (by decide) ?_
    show Pa N 235 21 [(0, .ref 69), (1, .int yn), (2, .int yb)] [] yA _
    refine Pa.ic (x := (-1)) (pc' := 22) (by rfl) (by rfl) (by decide) ?_
    refine Pa.iret (by rfl) ?_
    exact l1 h1
  · have h2 : 1 ≤ yn.toInt := h2
    refine Pa.mp 2 (pc' := 7) (l' := [(0, .int yn), (1, .int 1), (2, .int 9999)]) (st' := [.int 9999, .int yn]) (by rfl) ?_
    refine Pa.if2 (a := yn.toInt) (b := 9999) (t := 14) (by rfl) (by rfl) (rfl) (by decide) (fun h3 => ?_) (fun h4 => ?_)
    · have h3 : 9999 < yn.toInt := h3
      refine Pa.ic (x := 0) (pc' := 15) (by rfl) (by rfl) (by decide) ?_
      refine Pa.iret (by rfl) ?_
      show Pa N 235 8 [(0, .ref 69), (1, .int yn), (2, .int yb)] [.int 0] yA _
      refine Pa.if1k true (by rfl) (by rfl) (by decide) ?_
      show Pa N 235 21 [(0, .ref 69), (1, .int yn), (2, .int yb)] [] yA _
      refine Pa.ic (x := (-1)) (pc' := 22) (by rfl) (by rfl) (by decide) ?_
      refine Pa.iret (by rfl) ?_
      exact l2 h2 h3
    · have h4 : yn.toInt ≤ 9999 := h4
      refine Pa.ic (x := 1) (pc' := 11) (by rfl) (by rfl) (by decide) ?_
      refine Pa.mp 1 (pc' := 15) (l' := [(0, .int yn), (1, .int 1), (2, .int 9999)]) (st' := [.int 1]) (by rfl) ?_
      refine Pa.iret (by rfl) ?_
      show Pa N 235 8 [(0, .ref 69), (1, .int yn), (2, .int yb)] [.int 1] yA _
      refine Pa.if1k false (by rfl) (by rfl) (by decide) ?_
      show Pa N 235 11 [(0, .ref 69), (1, .int yn), (2, .int yb)] [] yA _
      refine Pa.mp 1 (pc' := 12) (l' := [(0, .ref 69), (1, .int yn), (2, .int yb)]) (st' := [.int yb]) (by rfl) ?_
      refine Pa.ic (x := 1) (pc' := 13) (by rfl) (by rfl) (by decide) ?_
      refine Pa.ic (x := 63) (pc' := 15) (by rfl) (by rfl) (by decide) ?_
      refine Pa.ist (by rfl) (by rfl) (.inl rfl) (by rfl) (by rfl) ?_
      show Pa N 152 0 [(0, .int yb), (1, .int 1), (2, .int 63)] [] yA _
      refine Pa.mp 2 (pc' := 2) (l' := [(0, .int yb), (1, .int 1), (2, .int 63)]) (st' := [.int 1, .int yb]) (by rfl) ?_
      refine Pa.if2 (a := yb.toInt) (b := 1) (t := 14) (by rfl) (by rfl) (rfl) (by decide) (fun h5 => ?_) (fun h6 => ?_)
      · have h5 : yb.toInt < 1 := h5
        refine Pa.ic (x := 0) (pc' := 15) (by rfl) (by rfl) (by decide) ?_
        refine Pa.iret (by rfl) ?_
        show Pa N 235 18 [(0, .ref 69), (1, .int yn), (2, .int yb)] [.int 0] yA _
        refine Pa.if1k false (by rfl) (by rfl) (by decide) ?_
        show Pa N 235 21 [(0, .ref 69), (1, .int yn), (2, .int yb)] [] yA _
        refine Pa.ic (x := (-1)) (pc' := 22) (by rfl) (by rfl) (by decide) ?_
        refine Pa.iret (by rfl) ?_
        exact l3 h2 h4 h5
      · have h6 : 1 ≤ yb.toInt := h6
        refine Pa.mp 2 (pc' := 7) (l' := [(0, .int yb), (1, .int 1), (2, .int 63)]) (st' := [.int 63, .int yb]) (by rfl) ?_
        refine Pa.if2 (a := yb.toInt) (b := 63) (t := 14) (by rfl) (by rfl) (rfl) (by decide) (fun h7 => ?_) (fun h8 => ?_)
        · have h7 : 63 < yb.toInt := h7
          refine Pa.ic (x := 0) (pc' := 15) (by rfl) (by rfl) (by decide) ?_
          refine Pa.iret (by rfl) ?_
          show Pa N 235 18 [(0, .ref 69), (1, .int yn), (2, .int yb)] [.int 0] yA _
          refine Pa.if1k false (by rfl) (by rfl) (by decide) ?_
          show Pa N 235 21 [(0, .ref 69), (1, .int yn), (2, .int yb)] [] yA _
          refine Pa.ic (x := (-1)) (pc' := 22) (by rfl) (by rfl) (by decide) ?_
          refine Pa.iret (by rfl) ?_
          exact l4 h2 h4 h6 h7
        · have h8 : yb.toInt ≤ 63 := h8
          refine Pa.ic (x := 1) (pc' := 11) (by rfl) (by rfl) (by decide) ?_
          refine Pa.mp 1 (pc' := 15) (l' := [(0, .int yb), (1, .int 1), (2, .int 63)]) (st' := [.int 1]) (by rfl) ?_
          refine Pa.iret (by rfl) ?_
          show Pa N 235 18 [(0, .ref 69), (1, .int yn), (2, .int yb)] [.int 1] yA _
          refine Pa.if1k true (by rfl) (by rfl) (by decide) ?_
          show Pa N 235 23 [(0, .ref 69), (1, .int yn), (2, .int yb)] [] yA _
          refine Pa.mp 1 (pc' := 24) (l' := [(0, .ref 69), (1, .int yn), (2, .int yb)]) (st' := [.ref 69]) (by rfl) ?_
          refine Pa.gfI (v := yA.1 69 76) (by rfl) (by rfl) (.inl rfl) (by rfl) (by rfl) ?_
          refine Pa.ic (x := 9) (pc' := 29) (by rfl) (by rfl) (by decide) ?_
          refine Pa.if2 (a := (yA.1 69 76).toInt) (b := 9) (t := 35) (by rfl) (by rfl) (rfl) (by decide) (fun h9 => ?_) (fun h10 => ?_)
          · have h9 : (yA.1 69 76).toInt ≠ 9 := h9
            refine Pa.mp 1 (pc' := 36) (l' := [(0, .ref 69), (1, .int yn), (2, .int yb)]) (st' := [.ref 69]) (by rfl) ?_
            refine Pa.gfR (by rfl) (by rfl) (.inl rfl) (by rfl) ?_
            show Pa N 235 39 [(0, .ref 69), (1, .int yn), (2, .int yb)] [.ref 122] yA _
            refine Pa.mp 1 (pc' := 40) (l' := [(0, .ref 69), (1, .int yn), (2, .int yb)]) (st' := [.ref 69, .ref 122]) (by rfl) ?_
            refine Pa.gfI (v := yA.1 69 76) (by rfl) (by rfl) (.inl rfl) (by rfl) (by rfl) ?_
            refine Pa.mp 1 (pc' := 44) (l' := [(0, .ref 69), (1, .int yn), (2, .int yb)]) (st' := [.int yn, .int (yA.1 69 76), .ref 122]) (by rfl) ?_
            refine Pa.asts (j' := ((yA.1 69 76).toInt.toNat)) (by rfl) (by rfl) (by rfl) (fun h11 h12 => ?_)
            have h11 : 0 ≤ (yA.1 69 76).toInt := h11
            have h12 : (yA.1 69 76).toInt < 9 := h12
            show Pa N 235 45 [(0, .ref 69), (1, .int yn), (2, .int yb)] [] (uI yA 122 ((yA.1 69 76).toInt.toNat) yn) _
            refine Pa.mp 1 (pc' := 46) (l' := [(0, .ref 69), (1, .int yn), (2, .int yb)]) (st' := [.ref 69]) (by rfl) ?_
            refine Pa.gfR (by rfl) (by rfl) (.inl rfl) (by rfl) ?_
            show Pa N 235 49 [(0, .ref 69), (1, .int yn), (2, .int yb)] [.ref 123] (uI yA 122 ((yA.1 69 76).toInt.toNat) yn) _
            refine Pa.mp 1 (pc' := 50) (l' := [(0, .ref 69), (1, .int yn), (2, .int yb)]) (st' := [.ref 69, .ref 123]) (by rfl) ?_
            refine Pa.gfI (v := yA.1 69 76) (by rfl) (by rfl) (.inl rfl) (by rfl) (by show (uI yA 122 ((yA.1 69 76).toInt.toNat) yn).1 69 76 = yA.1 69 76; rw [uI_c (by decide)]) ?_
            refine Pa.mp 1 (pc' := 54) (l' := [(0, .ref 69), (1, .int yn), (2, .int yb)]) (st' := [.int yb, .int (yA.1 69 76), .ref 123]) (by rfl) ?_
            refine Pa.asts (j' := ((yA.1 69 76).toInt.toNat)) (by rfl) (by rfl) (by rfl) (fun h13 h14 => ?_)
            have h13 : 0 ≤ (yA.1 69 76).toInt := h13
            have h14 : (yA.1 69 76).toInt < 9 := h14
            show Pa N 235 55 [(0, .ref 69), (1, .int yn), (2, .int yb)] [] (uI (uI yA 122 ((yA.1 69 76).toInt.toNat) yn) 123 ((yA.1 69 76).toInt.toNat) yb) _
            refine Pa.mp 2 (pc' := 57) (l' := [(0, .ref 69), (1, .int yn), (2, .int yb)]) (st' := [.ref 69, .ref 69]) (by rfl) ?_
            refine Pa.gfI (v := yA.1 69 76) (by rfl) (by rfl) (.inl rfl) (by rfl) (by show (uI (uI yA 122 ((yA.1 69 76).toInt.toNat) yn) 123 ((yA.1 69 76).toInt.toNat) yb).1 69 76 = yA.1 69 76; rw [uI_c (by decide), uI_c (by decide)]) ?_
            refine Pa.ic (x := 1) (pc' := 61) (by rfl) (by rfl) (by decide) ?_
            refine Pa.mp 1 (pc' := 62) (l' := [(0, .ref 69), (1, .int yn), (2, .int yb)]) (st' := [.int ((yA.1 69 76) + 1), .ref 69]) (by rfl) ?_
            refine Pa.pfI (by rfl) (by rfl) (.inl rfl) (by rfl) ?_
            show Pa N 235 65 [(0, .ref 69), (1, .int yn), (2, .int yb)] [] (uI (uI (uI yA 122 ((yA.1 69 76).toInt.toNat) yn) 123 ((yA.1 69 76).toInt.toNat) yb) 69 76 ((yA.1 69 76) + 1)) _
            refine Pa.mp 1 (pc' := 66) (l' := [(0, .ref 69), (1, .int yn), (2, .int yb)]) (st' := [.ref 69]) (by rfl) ?_
            refine Pa.gfI (v := (yA.1 69 76) + 1) (by rfl) (by rfl) (.inl rfl) (by rfl) (by show (uI (uI (uI yA 122 ((yA.1 69 76).toInt.toNat) yn) 123 ((yA.1 69 76).toInt.toNat) yb) 69 76 ((yA.1 69 76) + 1)).1 69 76 = (yA.1 69 76) + 1; rw [uI_h]) ?_
            refine Pa.iret (by rfl) ?_
            exact l5 h2 h4 h6 h8 h9 h11 h12
          · have h10 : (yA.1 69 76).toInt = 9 := h10
            refine Pa.ic (x := (-2)) (pc' := 34) (by rfl) (by rfl) (by decide) ?_
            refine Pa.iret (by rfl) ?_
            exact l6 h2 h4 h6 h8 h10

theorem bx_wth {N : Nat} {yA : AW} {yQ : Option Value → AW → Prop} 
    (l1 : (yA.1 61 10).toInt ≠ 0 → yQ (some (.int (yA.1 61 11))) yA)
    (l2 : (yA.1 61 10).toInt = 0 → yQ (some (.int (-1))) yA) :
    Pa N 134 0 [(0, .ref 0)] [] yA yQ := by
  refine Pa.mp 1 (pc' := 1) (l' := [(0, .ref 0)]) (st' := [.ref 0]) (by rfl) ?_
  refine Pa.gfR (by rfl) (by rfl) (.inl rfl) (by rfl) ?_
  show Pa N 134 4 [(0, .ref 0)] [.ref 61] yA _
  refine Pa.gfI (v := yA.1 61 10) (by rfl) (by rfl) (.inr rfl) (by rfl) (by rfl) ?_
  refine Pa.if1 (a := (yA.1 61 10).toInt) (t := 14) (by rfl) (by rfl) (rfl) (fun h1 => ?_) (fun h2 => ?_)
  · have h1 : (yA.1 61 10).toInt ≠ 0 := h1
    refine Pa.mp 1 (pc' := 15) (l' := [(0, .ref 0)]) (st' := [.ref 0]) (by rfl) ?_
    refine Pa.gfR (by rfl) (by rfl) (.inl rfl) (by rfl) ?_
    show Pa N 134 18 [(0, .ref 0)] [.ref 61] yA _
    refine Pa.gfI (v := yA.1 61 11) (by rfl) (by rfl) (.inr rfl) (by rfl) (by rfl) ?_
    refine Pa.iret (by rfl) ?_
    exact l1 h1
  · have h2 : (yA.1 61 10).toInt = 0 := h2
    refine Pa.ic (x := (-1)) (pc' := 11) (by rfl) (by rfl) (by decide) ?_
    refine Pa.mp 1 (pc' := 21) (l' := [(0, .ref 0)]) (st' := [.int (-1)]) (by rfl) ?_
    refine Pa.iret (by rfl) ?_
    exact l2 h2

theorem bm_wth {N : Nat} {yA : AW} {yQ : Option Value → AW → Prop} 
    (l1 : yQ (some (.int (yA.1 69 80))) yA) :
    Pa N 239 0 [(0, .ref 69)] [] yA yQ := by
  refine Pa.mp 1 (pc' := 1) (l' := [(0, .ref 69)]) (st' := [.ref 69]) (by rfl) ?_
  refine Pa.gfI (v := yA.1 69 80) (by rfl) (by rfl) (.inl rfl) (by rfl) (by rfl) ?_
  refine Pa.iret (by rfl) ?_
  exact l1
theorem d_mov (N : Nat) (yA : AW) (yn yb : Int32) : Pa N 131 0 [(0, .ref 0), (1, .int yn), (2, .int yb)] [] yA (dMv yn yb yA) :=
  bx_mov yn yb (fun _ => .inl ⟨fun yz => by unfold okMv at yz; omega, rfl, rfl⟩) (fun _ _ => .inl ⟨fun yz => by unfold okMv at yz; omega, rfl, rfl⟩) (fun _ _ _ => .inl ⟨fun yz => by unfold okMv at yz; omega, rfl, rfl⟩) (fun _ _ _ _ => .inl ⟨fun yz => by unfold okMv at yz; omega, rfl, rfl⟩) (fun y1 y2 y3 y4 y5 y6 => .inr (.inr ⟨⟨y1, y2, y3, y4⟩, y5, y6, rfl, rfl⟩)) (fun y1 y2 y3 y4 y5 => .inr (.inl ⟨⟨y1, y2, y3, y4⟩, y5, rfl, rfl⟩))
theorem e_mov (N : Nat) (yA : AW) (yn yb : Int32) : Pa N 235 0 [(0, .ref 69), (1, .int yn), (2, .int yb)] [] yA (eMv yn yb yA) :=
  bm_mov yn yb (fun _ => .inl ⟨fun yz => by unfold okMv at yz; omega, rfl, rfl⟩) (fun _ _ => .inl ⟨fun yz => by unfold okMv at yz; omega, rfl, rfl⟩) (fun _ _ _ => .inl ⟨fun yz => by unfold okMv at yz; omega, rfl, rfl⟩) (fun _ _ _ _ => .inl ⟨fun yz => by unfold okMv at yz; omega, rfl, rfl⟩) (fun y1 y2 y3 y4 _ y6 y7 => .inr (.inr ⟨⟨y1, y2, y3, y4⟩, y7, y6, rfl, rfl⟩)) (fun y1 y2 y3 y4 y5 => .inr (.inl ⟨⟨y1, y2, y3, y4⟩, y5, rfl, rfl⟩))
def Atm : zRA := [(62, 122), (63, 123)]
theorem k_mov {yA A1 A2 : AW} {yn yb yx yy : Int32} (hA : okA yA) (hR : eqRs Atm yA) (hX : Rtr yA) (ys1 : dMv yn yb yA (some (.int yx)) A1) (ys2 : eMv yn yb A1 (some (.int yy)) A2) : eqRs Atm A2 ∧ Rtr A2 ∧ yx = yy := by
  have gV := hA.fld (i := 69) (k := 76) (lo := 0) (hi := 9) (by decide +kernel)
  have yf9 : yA.1 61 9 = yA.1 69 76 := hX.1
  unfold dMv at ys1
  rw [yf9] at ys1
  rcases ys1 with ⟨ya1, a2, rfl⟩ | ⟨ya1, a2, a3, rfl⟩ | ⟨ya1, a2, a3, a4, a5⟩
  · rcases ys2 with ⟨b1, b2, rfl⟩ | ⟨b1, _⟩ | ⟨b1, _⟩
    · exact ⟨hR, hX, by rw [some_int a2, some_int b2]⟩
    · exact absurd b1 ya1
    · exact absurd b1 ya1
  · rcases ys2 with ⟨b1, b2, rfl⟩ | ⟨b1, b2, b3, rfl⟩ | ⟨b1, b2, _⟩
    · exact absurd ya1 b1
    · exact ⟨hR, hX, by rw [some_int a3, some_int b3]⟩
    · omega
  · obtain ⟨yt, ht⟩ : ∃ yt, (yA.1 69 76).toInt.toNat = yt := ⟨_, rfl⟩
    rw [ht] at a5
    have ylow : ∀ yd yj, yd ≠ 61 → yd ≠ 62 → yd ≠ 63 → A1.1 yd yj = yA.1 yd yj := fun yd yj yq1 yq2 yq3 => by
      rw [a5, uI_c yq1, uI_c yq3, uI_c yq2]
    have e76 : A1.1 69 76 = yA.1 69 76 := ylow 69 76 (by decide) (by decide) (by decide)
    unfold eMv at ys2
    rw [e76, ht] at ys2
    rcases ys2 with ⟨b1, _⟩ | ⟨b1, b2, _⟩ | ⟨b1, b2, b3, b4, b5⟩
    · exact absurd ya1 b1
    · omega
    · have hT1 : (yA.1 69 76 + 1).toInt = (yA.1 69 76).toInt + 1 := i32_add1 (by omega)
      have r62 : ∀ yj, A2.1 62 yj = if yj = yt then yn else yA.1 62 yj := fun yj => by
        rw [b5, uI_c (by decide), uI_c (by decide), uI_c (by decide), a5, uI_c (by decide), uI_c (by decide), uI_row]
      have r63 : ∀ yj, A2.1 63 yj = if yj = yt then yb else yA.1 63 yj := fun yj => by
        rw [b5, uI_c (by decide), uI_c (by decide), uI_c (by decide), a5, uI_c (by decide), uI_row, uI_c (by decide)]
      have r122 : ∀ yj, A2.1 122 yj = if yj = yt then yn else yA.1 122 yj := fun yj => by
        rw [b5, uI_c (by decide), uI_c (by decide), uI_row, ylow 122 yj (by decide) (by decide) (by decide)]
      have r123 : ∀ yj, A2.1 123 yj = if yj = yt then yb else yA.1 123 yj := fun yj => by
        rw [b5, uI_c (by decide), uI_row, uI_c (by decide), ylow 123 yj (by decide) (by decide) (by decide)]
      have r76 : A2.1 69 76 = yA.1 69 76 + 1 := by rw [b5, uI_h]
      have r69 : ∀ yj, yj ≠ 76 → A2.1 69 yj = yA.1 69 yj := fun yj hj => by
        rw [b5, uI_k hj, uI_c (by decide), uI_c (by decide)]
        exact ylow 69 yj (by decide) (by decide) (by decide)
      have r61 : ∀ yj, yj ≠ 9 → A2.1 61 yj = yA.1 61 yj := fun yj hj => by
        rw [b5, uI_c (by decide), uI_c (by decide), uI_c (by decide), a5, uI_k hj, uI_c (by decide), uI_c (by decide)]
      have r9 : A2.1 61 9 = yA.1 69 76 + 1 := by
        rw [b5, uI_c (by decide), uI_c (by decide), uI_c (by decide), a5, uI_h]
      have r64 : ∀ yj, A2.1 64 yj = yA.1 64 yj := fun yj => by
        rw [b5, uI_c (by decide), uI_c (by decide), uI_c (by decide)]
        exact ylow 64 yj (by decide) (by decide) (by decide)
      have r125 : ∀ yj, A2.1 125 yj = yA.1 125 yj := fun yj => by
        rw [b5, uI_c (by decide), uI_c (by decide), uI_c (by decide)]
        exact ylow 125 yj (by decide) (by decide) (by decide)
      obtain ⟨yx1, yx2, x3, yx4, yx5, x6⟩ := hX
      refine ⟨fun yq hq mm yhm yj hj => ?_, ⟨?_, ?_, ?_, ?_, ?_, ?_⟩, by rw [some_int a4, some_int b4]⟩
      · have hq0 := hR yq hq mm yhm yj hj
        simp only [Atm, List.mem_cons, List.not_mem_nil, or_false] at hq
        rcases hq with rfl | rfl
        · show A2.1 62 yj = A2.1 122 yj
          rw [r62, r122]
          by_cases ye : yj = yt
          · rw [if_pos ye, if_pos ye]
          · rw [if_neg ye, if_neg ye]
            exact hq0
        · show A2.1 63 yj = A2.1 123 yj
          rw [r63, r123]
          by_cases ye : yj = yt
          · rw [if_pos ye, if_pos ye]
          · rw [if_neg ye, if_neg ye]
            exact hq0
      · rw [r9, r76]
      · rw [r61 10 (by decide), r69 79 (by decide)]
        exact yx2
      · rw [r69 79 (by decide)]
        intro yj hj
        rw [r64, r125]
        exact x3 yj hj
      · rw [r69 79 (by decide), r69 80 (by decide)]
        exact yx4
      · rw [r69 79 (by decide), r61 11 (by decide), r69 80 (by decide)]
        exact yx5
      · rw [r76, hT1]
        intro yi yhi
        rw [r122, r123]
        by_cases ye : yi = yt
        · rw [if_pos ye, if_pos ye]
          have z1 := ya1.1
          have z2 := ya1.2.1
          have z3 := ya1.2.2.1
          have z4 := ya1.2.2.2
          exact ⟨⟨z1, z2⟩, z3, z4⟩
        · rw [if_neg ye, if_neg ye]
          exact x6 yi (by omega)
theorem h_mov {yp : zPr} (hp : yp.1 = 131 ∧ yp.2.1 = 235 ∧ yp.2.2.1 = 2) (yhc : c_rm yp = true) : PairOK (RR [] Atm Rtr) yp := by
  obtain ⟨yp1, yp2, yp3⟩ := hp
  refine pairK (D := on2 dMv) (E := on2 eMv) (by decide +kernel) (by decide +kernel) yhc (fun N yA yas _ hl => ?_) (fun N yA yas _ hl => ?_) (fun yA A1 A2 yas yx yy o1 _ _ hF hR hX hl ys1 ys2 => ?_)
  · rw [yp3] at hl
    obtain ⟨ya, yb, rfl⟩ := as2 hl
    rw [yp1]
    exact d_mov N yA ya yb
  · rw [yp3] at hl
    obtain ⟨ya, yb, rfl⟩ := as2 hl
    rw [yp2]
    exact e_mov N yA ya yb
  · rw [yp3] at hl
    obtain ⟨ya, yb, rfl⟩ := as2 hl
    obtain ⟨yr1, r2, r3⟩ := k_mov (yn := ya) (yb := yb) o1 hR hX ys1 ys2
    exact ⟨fun yq hq => (by cases hq), yr1, r2, fun _ => r3⟩
def dWt (yA : AW) (yu : Option Value) (A1 : AW) : Prop := A1 = yA ∧ (((yA.1 61 10).toInt = 0 ∧ yu = some (.int (-1))) ∨ ((yA.1 61 10).toInt ≠ 0 ∧ yu = some (.int (yA.1 61 11))))
theorem h_wth {yp : zPr} (hp : yp.1 = 134 ∧ yp.2.1 = 239 ∧ yp.2.2.1 = 0) (yhc : c_rm yp = true) (yq1 : (ri_wr zZ Ft9 At9 (wX yp) && kXL It9 (wX yp)) = true) (yq2 : (ri_wr zZ Ft9 At9 (wM yp) && kXL It9 (wM yp)) = true) : PairOK (RR Ft9 At9 (RXL It9)) yp := by
  obtain ⟨yp1, yp2, yp3⟩ := hp
  refine pairF (D := fun _ => dWt) (E := fun _ yA yu _ => yu = some (.int (yA.1 69 80))) (by decide +kernel) (by decide +kernel) yhc (keepXL It9) yq1 yq2 (fun N yA yas o hF hR hX hl => ?_) (fun N yA yas o hF hR hX hl => ?_) (fun yA A1 A2 yas yx yy o _ _ hF hR hX _ _ _ hl ys1 ys2 _ => ?_)
  · rw [yp3] at hl
    have ye : yas = [] := List.length_eq_zero_iff.mp hl
    subst ye
    rw [yp1]
    exact bx_wth (fun yh => ⟨rfl, .inr ⟨yh, rfl⟩⟩) (fun yh => ⟨rfl, .inl ⟨yh, rfl⟩⟩)
  · rw [yp3] at hl
    have ye : yas = [] := List.length_eq_zero_iff.mp hl
    subst ye
    rw [yp2]
    exact bm_wth rfl
  · have yg := Rsx_t o hF hR hX
    obtain ⟨rfl, ys1⟩ := ys1
    rw [yg.tr.2.1] at ys1
    rcases ys1 with ⟨ya1, a2⟩ | ⟨ya1, a2⟩
    · rw [some_int a2, some_int ys2]
      exact (yg.tr.2.2.2.1 ya1).symm
    · rw [some_int a2, some_int ys2]
      exact yg.tr.2.2.2.2.1 ya1
