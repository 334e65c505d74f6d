/-! WAYS yOF LANDS: the class's search -/
theorem i_mulN {ya yP : Nat} (yh : ya * yP < 100000) (yha : ya < 100000) (hP : yP < 100) : Int32.ofNat ya * Int32.ofNat yP = Int32.ofNat (ya * yP) := by
  have ye1 : (Int32.ofNat ya).toInt = (ya : Int) := i32_nat (by omega)
  have ye2 : (Int32.ofNat yP).toInt = (yP : Int) := i32_nat (by omega)
  apply i32_ext
  rw [i32_nat (by omega), Int32.toInt_mul, ye1, ye2, ← Int.natCast_mul]
  exact z_bm0 ⟨by show (-2147483648 : Int) ≤ _; omega, by show _ ≤ (2147483647 : Int); omega⟩
/-- the best of the ways yup to one -/
noncomputable def fS (yC yR : Nat → Int32) (yM : Nat → Nat) (yb yP yn : Nat) (yx : Int32) (yw : Nat) : wS := fN (wU yC yR yM yb yP yn yx) 0 yw (-1, none)
section FSX
variable {yC yR : Nat → Int32} {yM : Nat → Nat} {yb yP yn : Nat} {yx : Int32}
theorem fS_s {yw : Nat} : fS yC yR yM yb yP yn yx (yw + 1) = wU yC yR yM yb yP yn yx yw (fS yC yR yM yb yP yn yx yw) := by
  show wU yC yR yM yb yP yn yx (0 + yw) (fN (wU yC yR yM yb yP yn yx) 0 yw (-1, none)) = _
  rw [Nat.zero_add]
  rfl
theorem fS_G {yw : Nat} : wG (fS yC yR yM yb yP yn yx yw) := wG_f wG_0
theorem fS_v {yw yv : Nat} (yh : (fS yC yR yM yb yP yn yx yw).2 = some yv) : yv < yw := by
  have := (wG_v yh rfl).2
  omega
/-- the greatest without least parts -/
theorem fS_max {yw : Nat} {yv : Int32} (h0 : gdS yb 0 (wsp yC yb yP yn yw)) (yh : (¬ vld yM yb yP yn yw ∧ yv = -1) ∨ (vld yM yb yP yn yw ∧ yv = wbk yC yR yb yP yn yw)) : (fS yC yR yM yb yP yn 0 (yw + 1)).1 = i_max (fS yC yR yM yb yP yn 0 yw).1 yv := by
  have hg := wG_1 (fS_G (yC := yC) (yR := yR) (yM := yM) (yb := yb) (yP := yP) (yn := yn) (yx := 0) (yw := yw))
  rw [fS_s]
  unfold i_max
  rcases yh with ⟨h1, h2⟩ | ⟨h1, h2⟩
  · rw [wU_0 (fun yz => h1 yz.1.1), h2, if_neg (fun yq => by
      have := Int32.lt_iff_toInt_lt.mp yq
      rw [show (-1 : Int32).toInt = -1 from by decide] at this
      omega)]
  · by_cases yq : (fS yC yR yM yb yP yn 0 yw).1.toInt < (wbk yC yR yb yP yn yw).toInt
    · rw [wU_1 ⟨⟨h1, h0⟩, yq⟩, h2, if_pos (Int32.lt_iff_toInt_lt.mpr yq)]
    · rw [wU_0 (fun yz => yq yz.2), h2, if_neg (fun yz => yq (Int32.lt_iff_toInt_lt.mp yz))]
end FSX
/-- what the class's search leaves -/
def fbQ (yA : AW) (yC yR : Nat → Int32) (yM : Nat → Nat) (yb yP yn : Nat) (yx : Int32) (yW : AW) (yv : Option Value) (yU : AW) : Prop := (yn = 0 ∧ yv = some (.int (-3)) ∧ yU = yW) ∨ (yn ≠ 0 ∧ scX yU yA yU ∧ (((fS yC yR yM yb yP yn yx (yP ^ yn)).1.toInt < 0 ∧ yv = some (.int (-4)) ∧ tkE yW yU) ∨ (∃ yw, (fS yC yR yM yb yP yn yx (yP ^ yn)).2 = some yw ∧ 0 ≤ (fS yC yR yM yb yP yn yx (yP ^ yn)).1.toInt ∧ yv = some (.int (fS yC yR yM yb yP yn yx (yP ^ yn)).1) ∧ (∀ yi, yi < yn → yU.1 64 yi = Int32.ofNat (lnd yb yP yn yw yi)) ∧ yU.1 61 10 = yW.1 61 9 ∧ yU.1 61 11 = (fS yC yR yM yb yP yn 0 (yP ^ yn)).1 - (fS yC yR yM yb yP yn yx (yP ^ yn)).1 ∧ yU.1 61 9 = 0 ∧ ∀ yj, yU.1 62 yj = yW.1 62 yj ∧ yU.1 63 yj = yW.1 63 yj)))
theorem bx_fb0 {N : Nat} {yA : AW} {yQ : Option Value → AW → Prop} (yf yb ym yk : Int32)
    (l1 : (yA.1 61 9).toInt ≠ 0 → Pa N 93 0 [(0, .ref 61), (1, .int yf), (2, .int yb), (3, .int yk)] [] yA (fun yu A1 => Pa N 92 18 [(0, .ref 61), (1, .int yf), (2, .int yb), (3, .int ym), (4, .int yk)] (yu.toList ++ []) A1 yQ))
    (l2 : (yA.1 61 9).toInt = 0 → yQ (some (.int (-3))) yA) :
    Pa N 92 0 [(0, .ref 61), (1, .int yf), (2, .int yb), (3, .int ym), (4, .int yk)] [] yA yQ := by
  refine Pa.mp 1 (pc' := 1) (l' := [(0, .ref 61), (1, .int yf), (2, .int yb), (3, .int ym), (4, .int yk)]) (st' := [.ref 61]) (by rfl) ?_
  refine Pa.gfI (v := yA.1 61 9) (by rfl) (by rfl) (.inl rfl) (by rfl) (by rfl) ?_
  refine Pa.if1 (a := (yA.1 61 9).toInt) (t := 10) (by rfl) (by rfl) (rfl) (fun h1 => ?_) (fun h2 => ?_)
  · have h1 : (yA.1 61 9).toInt ≠ 0 := h1
    refine Pa.mp 4 (pc' := 15) (l' := [(0, .ref 61), (1, .int yf), (2, .int yb), (3, .int ym), (4, .int yk)]) (st' := [.int yk, .int yb, .int yf, .ref 61]) (by rfl) ?_
    refine Pa.inv (by rfl) (by rfl) (.inl rfl) (by rfl) ?_
    exact l1 h1
  · have h2 : (yA.1 61 9).toInt = 0 := h2
    refine Pa.ic (x := (-3)) (pc' := 9) (by rfl) (by rfl) (by decide) ?_
    refine Pa.iret (by rfl) ?_
    exact l2 h2

theorem bx_fb1 {N : Nat} {yA : AW} {yQ : Option Value → AW → Prop} (yf yb ym yk : Int32)
    (l1 : Pa N 92 24 [(0, .ref 61), (1, .int yf), (2, .int yb), (3, .int ym), (4, .int yk), (5, .int 1), (6, .int 0)] [] yA yQ) :
    Pa N 92 18 [(0, .ref 61), (1, .int yf), (2, .int yb), (3, .int ym), (4, .int yk)] [] yA yQ := by
  refine Pa.ic (x := 1) (pc' := 19) (by rfl) (by rfl) (by decide) ?_
  refine Pa.mp 1 (pc' := 21) (l' := [(5, .int 1), (0, .ref 61), (1, .int yf), (2, .int yb), (3, .int ym), (4, .int yk)]) (st' := []) (by rfl) ?_
  refine Pa.ic (x := 0) (pc' := 22) (by rfl) (by rfl) (by decide) ?_
  refine Pa.mp 1 (pc' := 24) (l' := [(6, .int 0), (5, .int 1), (0, .ref 61), (1, .int yf), (2, .int yb), (3, .int ym), (4, .int yk)]) (st' := []) (by rfl) ?_
  refine Pa.lv (l' := [(0, .ref 61), (1, .int yf), (2, .int yb), (3, .int ym), (4, .int yk), (5, .int 1), (6, .int 0)]) (lvS_c rfl (lvS_c rfl (lvS_c rfl (lvS_c rfl (lvS_c rfl (lvS_c rfl (lvS_c rfl (lvS_nil)))))))) rfl ?_
  exact l1

theorem bx_fb2 {N : Nat} {yA : AW} {yQ : Option Value → AW → Prop} (yf yb ym yk yy yi : Int32)
    (l1 : (yA.1 61 9).toInt ≤ yi.toInt → Pa N 92 60 [(0, .ref 61), (1, .int yf), (2, .int yb), (3, .int ym), (4, .int yk), (5, .int yy), (6, .int (-1)), (7, .int 0), (8, .int (-1)), (9, .int 0), (10, .int 0)] [] yA yQ)
    (l2 : yi.toInt < (yA.1 61 9).toInt → Pa N 92 24 [(0, .ref 61), (1, .int yf), (2, .int yb), (3, .int ym), (4, .int yk), (5, .int (yy * (yA.1 61 8))), (6, .int (yi + 1))] [] yA yQ) :
    Pa (N + 1) 92 24 [(0, .ref 61), (1, .int yf), (2, .int yb), (3, .int ym), (4, .int yk), (5, .int yy), (6, .int yi)] [] yA yQ := by
  refine Pa.mp1 1 (pc' := 27) (l' := [(0, .ref 61), (1, .int yf), (2, .int yb), (3, .int ym), (4, .int yk), (5, .int yy), (6, .int yi)]) (st' := [.ref 61, .int yi]) (by rfl) ?_
  refine Pa.gfI (v := yA.1 61 9) (by rfl) (by rfl) (.inl rfl) (by rfl) (by rfl) ?_
  refine Pa.if2 (a := yi.toInt) (b := (yA.1 61 9).toInt) (t := 48) (by rfl) (by rfl) (rfl) (rfl) (fun h1 => ?_) (fun h2 => ?_)
  · have h1 : (yA.1 61 9).toInt ≤ yi.toInt := h1
    refine Pa.ic (x := (-1)) (pc' := 49) (by rfl) (by rfl) (by decide) ?_
    refine Pa.mp 1 (pc' := 51) (l' := [(6, .int (-1)), (0, .ref 61), (1, .int yf), (2, .int yb), (3, .int ym), (4, .int yk), (5, .int yy)]) (st' := []) (by rfl) ?_
    refine Pa.ic (x := 0) (pc' := 52) (by rfl) (by rfl) (by decide) ?_
    refine Pa.mp 1 (pc' := 54) (l' := [(7, .int 0), (6, .int (-1)), (0, .ref 61), (1, .int yf), (2, .int yb), (3, .int ym), (4, .int yk), (5, .int yy)]) (st' := []) (by rfl) ?_
    refine Pa.ic (x := (-1)) (pc' := 55) (by rfl) (by rfl) (by decide) ?_
    refine Pa.mp 1 (pc' := 57) (l' := [(8, .int (-1)), (7, .int 0), (6, .int (-1)), (0, .ref 61), (1, .int yf), (2, .int yb), (3, .int ym), (4, .int yk), (5, .int yy)]) (st' := []) (by rfl) ?_
    refine Pa.ic (x := 0) (pc' := 58) (by rfl) (by rfl) (by decide) ?_
    refine Pa.mp 1 (pc' := 60) (l' := [(9, .int 0), (8, .int (-1)), (7, .int 0), (6, .int (-1)), (0, .ref 61), (1, .int yf), (2, .int yb), (3, .int ym), (4, .int yk), (5, .int yy)]) (st' := []) (by rfl) ?_
    refine Pa.lv (l' := [(0, .ref 61), (1, .int yf), (2, .int yb), (3, .int ym), (4, .int yk), (5, .int yy), (6, .int (-1)), (7, .int 0), (8, .int (-1)), (9, .int 0), (10, .int 0)]) (lvS_c rfl (lvS_c rfl (lvS_c rfl (lvS_c rfl (lvS_c rfl (lvS_c rfl (lvS_c rfl (lvS_c rfl (lvS_c rfl (lvS_c rfl (lvS_nil))))))))))) rfl ?_
    exact l1 h1
  · have h2 : yi.toInt < (yA.1 61 9).toInt := h2
    refine Pa.mp 2 (pc' := 36) (l' := [(0, .ref 61), (1, .int yf), (2, .int yb), (3, .int ym), (4, .int yk), (5, .int yy), (6, .int yi)]) (st' := [.ref 61, .int yy]) (by rfl) ?_
    refine Pa.gfI (v := yA.1 61 8) (by rfl) (by rfl) (.inl rfl) (by rfl) (by rfl) ?_
    refine Pa.mp 2 (pc' := 42) (l' := [(5, .int (yy * (yA.1 61 8))), (0, .ref 61), (1, .int yf), (2, .int yb), (3, .int ym), (4, .int yk), (6, .int yi)]) (st' := []) (by rfl) ?_
    refine Pa.iinc (x := yi) (c := 1) (v := (yi + 1)) (l' := [(6, .int (yi + 1)), (5, .int (yy * (yA.1 61 8))), (0, .ref 61), (1, .int yf), (2, .int yb), (3, .int ym), (4, .int yk)]) (by rfl) (by rfl) (by decide) (by rfl) (by rfl) ?_
    refine Pa.mp 1 (pc' := 24) (l' := [(6, .int (yi + 1)), (5, .int (yy * (yA.1 61 8))), (0, .ref 61), (1, .int yf), (2, .int yb), (3, .int ym), (4, .int yk)]) (st' := []) (by rfl) ?_
    refine Pa.lv (l' := [(0, .ref 61), (1, .int yf), (2, .int yb), (3, .int ym), (4, .int yk), (5, .int (yy * (yA.1 61 8))), (6, .int (yi + 1))]) (lvS_c rfl (lvS_c rfl (lvS_c rfl (lvS_c rfl (lvS_c rfl (lvS_c rfl (lvS_c rfl (lvS_nil)))))))) rfl ?_
    exact l2 h2

theorem bx_fb3 {N : Nat} {yA : AW} {yQ : Option Value → AW → Prop} (yf yb ym yk yy yt yc ye yw yz : Int32)
    (l1 : yy.toInt ≤ yw.toInt → 0 ≤ yt.toInt → Pa N 94 0 [(0, .ref 61), (1, .int yc)] [] yA (fun yu A1 => Pa N 92 127 [(0, .ref 61), (1, .int yf), (2, .int yb), (3, .int ym), (4, .int yk), (5, .int yy), (6, .int yt), (7, .int yc), (8, .int ye), (9, .int yw), (10, .int yz)] (yu.toList ++ []) A1 yQ))
    (l2 : yy.toInt ≤ yw.toInt → yt.toInt < 0 → yQ (some (.int (-4))) yA)
    (l3 : yw.toInt < yy.toInt → Pa N 95 0 [(0, .ref 61), (1, .int yw)] [] yA (fun yu A1 => Pa N 92 73 [(0, .ref 61), (1, .int yf), (2, .int yb), (3, .int ym), (4, .int yk), (5, .int yy), (6, .int yt), (7, .int yc), (8, .int ye), (9, .int yw), (10, .int yz)] (yu.toList ++ []) A1 yQ)) :
    Pa (N + 1) 92 60 [(0, .ref 61), (1, .int yf), (2, .int yb), (3, .int ym), (4, .int yk), (5, .int yy), (6, .int yt), (7, .int yc), (8, .int ye), (9, .int yw), (10, .int yz)] [] yA yQ := by
  refine Pa.mp1 1 (pc' := 64) (l' := [(0, .ref 61), (1, .int yf), (2, .int yb), (3, .int ym), (4, .int yk), (5, .int yy), (6, .int yt), (7, .int yc), (8, .int ye), (9, .int yw), (10, .int yz)]) (st' := [.int yy, .int yw]) (by rfl) ?_
  refine Pa.if2 (a := yw.toInt) (b := yy.toInt) (t := 113) (by rfl) (by rfl) (rfl) (rfl) (fun h1 => ?_) (fun h2 => ?_)
  · have h1 : yy.toInt ≤ yw.toInt := h1
    refine Pa.mp 1 (pc' := 115) (l' := [(0, .ref 61), (1, .int yf), (2, .int yb), (3, .int ym), (4, .int yk), (5, .int yy), (6, .int yt), (7, .int yc), (8, .int ye), (9, .int yw), (10, .int yz)]) (st' := [.int yt]) (by rfl) ?_
    refine Pa.if1 (a := yt.toInt) (t := 121) (by rfl) (by rfl) (rfl) (fun h3 => ?_) (fun h4 => ?_)
    · have h3 : 0 ≤ yt.toInt := h3
      refine Pa.mp 2 (pc' := 124) (l' := [(0, .ref 61), (1, .int yf), (2, .int yb), (3, .int ym), (4, .int yk), (5, .int yy), (6, .int yt), (7, .int yc), (8, .int ye), (9, .int yw), (10, .int yz)]) (st' := [.int yc, .ref 61]) (by rfl) ?_
      refine Pa.inv (by rfl) (by rfl) (.inl rfl) (by rfl) ?_
      exact l1 h1 h3
    · have h4 : yt.toInt < 0 := h4
      refine Pa.ic (x := (-4)) (pc' := 120) (by rfl) (by rfl) (by decide) ?_
      refine Pa.iret (by rfl) ?_
      exact l2 h1 h4
  · have h2 : yw.toInt < yy.toInt := h2
    refine Pa.mp 2 (pc' := 70) (l' := [(0, .ref 61), (1, .int yf), (2, .int yb), (3, .int ym), (4, .int yk), (5, .int yy), (6, .int yt), (7, .int yc), (8, .int ye), (9, .int yw), (10, .int yz)]) (st' := [.int yw, .ref 61]) (by rfl) ?_
    refine Pa.inv (by rfl) (by rfl) (.inl rfl) (by rfl) ?_
    exact l3 h2

theorem bx_fb4 {N : Nat} {yA : AW} {yQ : Option Value → AW → Prop} (yf yb ym yk yy yt yc ye yw yz yv : Int32)
    (l1 : yv.toInt ≤ yt.toInt → Pa N 92 60 [(0, .ref 61), (1, .int yf), (2, .int yb), (3, .int ym), (4, .int yk), (5, .int yy), (6, .int yt), (7, .int yc), (8, .int (i_max ye yv)), (9, .int (yw + 1)), (10, .int yv)] [] yA yQ)
    (l2 : yt.toInt < yv.toInt → Pa N 96 0 [(0, .ref 61), (1, .int ym)] [] yA (fun yu A1 => Pa N 92 96 [(0, .ref 61), (1, .int yf), (2, .int yb), (3, .int ym), (4, .int yk), (5, .int yy), (6, .int yt), (7, .int yc), (8, .int (i_max ye yv)), (9, .int yw), (10, .int yv)] (yu.toList ++ []) A1 yQ)) :
    Pa N 92 73 [(0, .ref 61), (1, .int yf), (2, .int yb), (3, .int ym), (4, .int yk), (5, .int yy), (6, .int yt), (7, .int yc), (8, .int ye), (9, .int yw), (10, .int yz)] [.int yv] yA yQ := by
  refine Pa.mp 3 (pc' := 79) (l' := [(10, .int yv), (0, .ref 61), (1, .int yf), (2, .int yb), (3, .int ym), (4, .int yk), (5, .int yy), (6, .int yt), (7, .int yc), (8, .int ye), (9, .int yw)]) (st' := [.int yv, .int ye]) (by rfl) ?_
  refine Pa.mth (by rfl) (by rfl) (by rfl) mm_max ?_
  refine Pa.mp 3 (pc' := 88) (l' := [(8, .int (i_max ye yv)), (10, .int yv), (0, .ref 61), (1, .int yf), (2, .int yb), (3, .int ym), (4, .int yk), (5, .int yy), (6, .int yt), (7, .int yc), (9, .int yw)]) (st' := [.int yt, .int yv]) (by rfl) ?_
  refine Pa.if2 (a := yv.toInt) (b := yt.toInt) (t := 107) (by rfl) (by rfl) (rfl) (rfl) (fun h1 => ?_) (fun h2 => ?_)
  · have h1 : yv.toInt ≤ yt.toInt := h1
    refine Pa.iinc (x := yw) (c := 1) (v := (yw + 1)) (l' := [(9, .int (yw + 1)), (8, .int (i_max ye yv)), (10, .int yv), (0, .ref 61), (1, .int yf), (2, .int yb), (3, .int ym), (4, .int yk), (5, .int yy), (6, .int yt), (7, .int yc)]) (by rfl) (by rfl) (by decide) (by rfl) (by rfl) ?_
    refine Pa.mp 1 (pc' := 60) (l' := [(9, .int (yw + 1)), (8, .int (i_max ye yv)), (10, .int yv), (0, .ref 61), (1, .int yf), (2, .int yb), (3, .int ym), (4, .int yk), (5, .int yy), (6, .int yt), (7, .int yc)]) (st' := []) (by rfl) ?_
    refine Pa.lv (l' := [(0, .ref 61), (1, .int yf), (2, .int yb), (3, .int ym), (4, .int yk), (5, .int yy), (6, .int yt), (7, .int yc), (8, .int (i_max ye yv)), (9, .int (yw + 1)), (10, .int yv)]) (lvS_c rfl (lvS_c rfl (lvS_c rfl (lvS_c rfl (lvS_c rfl (lvS_c rfl (lvS_c rfl (lvS_c rfl (lvS_c rfl (lvS_c rfl (lvS_c rfl (lvS_nil)))))))))))) rfl ?_
    exact l1 h1
  · have h2 : yt.toInt < yv.toInt := h2
    refine Pa.mp 2 (pc' := 93) (l' := [(8, .int (i_max ye yv)), (10, .int yv), (0, .ref 61), (1, .int yf), (2, .int yb), (3, .int ym), (4, .int yk), (5, .int yy), (6, .int yt), (7, .int yc), (9, .int yw)]) (st' := [.int ym, .ref 61]) (by rfl) ?_
    refine Pa.lv (l' := [(0, .ref 61), (1, .int yf), (2, .int yb), (3, .int ym), (4, .int yk), (5, .int yy), (6, .int yt), (7, .int yc), (8, .int (i_max ye yv)), (9, .int yw), (10, .int yv)]) (lvS_c rfl (lvS_c rfl (lvS_c rfl (lvS_c rfl (lvS_c rfl (lvS_c rfl (lvS_c rfl (lvS_c rfl (lvS_c rfl (lvS_c rfl (lvS_c rfl (lvS_nil)))))))))))) rfl ?_
    refine Pa.inv (by rfl) (by rfl) (.inl rfl) (by rfl) ?_
    exact l2 h2

theorem bx_fb5 {N : Nat} {yA : AW} {yQ : Option Value → AW → Prop} (yf yb ym yk yy yt yc ye yw yz yv : Int32)
    (l1 : yv.toInt = 0 → Pa N 92 60 [(0, .ref 61), (1, .int yf), (2, .int yb), (3, .int ym), (4, .int yk), (5, .int yy), (6, .int yt), (7, .int yc), (8, .int ye), (9, .int (yw + 1)), (10, .int yz)] [] yA yQ)
    (l2 : yv.toInt ≠ 0 → Pa N 92 60 [(0, .ref 61), (1, .int yf), (2, .int yb), (3, .int ym), (4, .int yk), (5, .int yy), (6, .int yz), (7, .int yw), (8, .int ye), (9, .int (yw + 1)), (10, .int yz)] [] yA yQ) :
    Pa N 92 96 [(0, .ref 61), (1, .int yf), (2, .int yb), (3, .int ym), (4, .int yk), (5, .int yy), (6, .int yt), (7, .int yc), (8, .int ye), (9, .int yw), (10, .int yz)] [.int yv] yA yQ := by
  refine Pa.if1 (a := yv.toInt) (t := 107) (by rfl) (by rfl) (rfl) (fun h1 => ?_) (fun h2 => ?_)
  · have h1 : yv.toInt = 0 := h1
    refine Pa.iinc (x := yw) (c := 1) (v := (yw + 1)) (l' := [(9, .int (yw + 1)), (0, .ref 61), (1, .int yf), (2, .int yb), (3, .int ym), (4, .int yk), (5, .int yy), (6, .int yt), (7, .int yc), (8, .int ye), (10, .int yz)]) (by rfl) (by rfl) (by decide) (by rfl) (by rfl) ?_
    refine Pa.mp 1 (pc' := 60) (l' := [(9, .int (yw + 1)), (0, .ref 61), (1, .int yf), (2, .int yb), (3, .int ym), (4, .int yk), (5, .int yy), (6, .int yt), (7, .int yc), (8, .int ye), (10, .int yz)]) (st' := []) (by rfl) ?_
    refine Pa.lv (l' := [(0, .ref 61), (1, .int yf), (2, .int yb), (3, .int ym), (4, .int yk), (5, .int yy), (6, .int yt), (7, .int yc), (8, .int ye), (9, .int (yw + 1)), (10, .int yz)]) (lvS_c rfl (lvS_c rfl (lvS_c rfl (lvS_c rfl (lvS_c rfl (lvS_c rfl (lvS_c rfl (lvS_c rfl (lvS_c rfl (lvS_c rfl (lvS_c rfl (lvS_nil)))))))))))) rfl ?_
    exact l1 h1
  · have h2 : yv.toInt ≠ 0 := h2
    refine Pa.mp 4 (pc' := 107) (l' := [(7, .int yw), (6, .int yz), (0, .ref 61), (1, .int yf), (2, .int yb), (3, .int ym), (4, .int yk), (5, .int yy), (8, .int ye), (9, .int yw), (10, .int yz)]) (st' := []) (by rfl) ?_
    refine Pa.iinc (x := yw) (c := 1) (v := (yw + 1)) (l' := [(9, .int (yw + 1)), (7, .int yw), (6, .int yz), (0, .ref 61), (1, .int yf), (2, .int yb), (3, .int ym), (4, .int yk), (5, .int yy), (8, .int ye), (10, .int yz)]) (by rfl) (by rfl) (by decide) (by rfl) (by rfl) ?_
    refine Pa.mp 1 (pc' := 60) (l' := [(9, .int (yw + 1)), (7, .int yw), (6, .int yz), (0, .ref 61), (1, .int yf), (2, .int yb), (3, .int ym), (4, .int yk), (5, .int yy), (8, .int ye), (10, .int yz)]) (st' := []) (by rfl) ?_
    refine Pa.lv (l' := [(0, .ref 61), (1, .int yf), (2, .int yb), (3, .int ym), (4, .int yk), (5, .int yy), (6, .int yz), (7, .int yw), (8, .int ye), (9, .int (yw + 1)), (10, .int yz)]) (lvS_c rfl (lvS_c rfl (lvS_c rfl (lvS_c rfl (lvS_c rfl (lvS_c rfl (lvS_c rfl (lvS_c rfl (lvS_c rfl (lvS_c rfl (lvS_c rfl (lvS_nil)))))))))))) rfl ?_
    exact l2 h2

theorem bx_fb6 {N : Nat} {yA : AW} {yQ : Option Value → AW → Prop} (yf yb ym yk yy yt yc ye yw yz : Int32)
    (l1 : Pa N 92 130 [(0, .ref 61), (1, .int yf), (2, .int yb), (3, .int ym), (4, .int yk), (5, .int yy), (6, .int yt), (7, .int yc), (8, .int ye), (9, .int 0), (10, .int yz)] [] yA yQ) :
    Pa N 92 127 [(0, .ref 61), (1, .int yf), (2, .int yb), (3, .int ym), (4, .int yk), (5, .int yy), (6, .int yt), (7, .int yc), (8, .int ye), (9, .int yw), (10, .int yz)] [] yA yQ := by
  refine Pa.ic (x := 0) (pc' := 128) (by rfl) (by rfl) (by decide) ?_
  refine Pa.mp 1 (pc' := 130) (l' := [(9, .int 0), (0, .ref 61), (1, .int yf), (2, .int yb), (3, .int ym), (4, .int yk), (5, .int yy), (6, .int yt), (7, .int yc), (8, .int ye), (10, .int yz)]) (st' := []) (by rfl) ?_
  refine Pa.lv (l' := [(0, .ref 61), (1, .int yf), (2, .int yb), (3, .int ym), (4, .int yk), (5, .int yy), (6, .int yt), (7, .int yc), (8, .int ye), (9, .int 0), (10, .int yz)]) (lvS_c rfl (lvS_c rfl (lvS_c rfl (lvS_c rfl (lvS_c rfl (lvS_c rfl (lvS_c rfl (lvS_c rfl (lvS_c rfl (lvS_c rfl (lvS_c rfl (lvS_nil)))))))))))) rfl ?_
  exact l1

theorem bx_fb7 {N : Nat} {yA : AW} {yQ : Option Value → AW → Prop} (yf yb ym yk yy yt yc ye yw yz : Int32)
    (l1 : (yA.1 61 9).toInt ≤ yw.toInt → yQ (some (.int yt)) (uI (uI (uI yA 61 10 (yA.1 61 9)) 61 11 (ye - yt)) 61 9 0))
    (l2 : yw.toInt < (yA.1 61 9).toInt → 0 ≤ yw.toInt → yw.toInt < 9 → 0 ≤ (yA.1 68 yw.toInt.toNat).toInt → (yA.1 68 yw.toInt.toNat).toInt < 3 → Pa N 92 130 [(0, .ref 61), (1, .int yf), (2, .int yb), (3, .int ym), (4, .int yk), (5, .int yy), (6, .int yt), (7, .int yc), (8, .int ye), (9, .int (yw + 1)), (10, .int yz)] [] (uI yA 64 yw.toInt.toNat (yA.1 65 ((yA.1 68 yw.toInt.toNat).toInt.toNat))) yQ) :
    Pa (N + 1) 92 130 [(0, .ref 61), (1, .int yf), (2, .int yb), (3, .int ym), (4, .int yk), (5, .int yy), (6, .int yt), (7, .int yc), (8, .int ye), (9, .int yw), (10, .int yz)] [] yA yQ := by
  refine Pa.mp1 1 (pc' := 133) (l' := [(0, .ref 61), (1, .int yf), (2, .int yb), (3, .int ym), (4, .int yk), (5, .int yy), (6, .int yt), (7, .int yc), (8, .int ye), (9, .int yw), (10, .int yz)]) (st' := [.ref 61, .int yw]) (by rfl) ?_
  refine Pa.gfI (v := yA.1 61 9) (by rfl) (by rfl) (.inl rfl) (by rfl) (by rfl) ?_
  refine Pa.if2 (a := yw.toInt) (b := (yA.1 61 9).toInt) (t := 164) (by rfl) (by rfl) (rfl) (rfl) (fun h1 => ?_) (fun h2 => ?_)
  · have h1 : (yA.1 61 9).toInt ≤ yw.toInt := h1
    refine Pa.mp 2 (pc' := 166) (l' := [(0, .ref 61), (1, .int yf), (2, .int yb), (3, .int ym), (4, .int yk), (5, .int yy), (6, .int yt), (7, .int yc), (8, .int ye), (9, .int yw), (10, .int yz)]) (st' := [.ref 61, .ref 61]) (by rfl) ?_
    refine Pa.gfI (v := yA.1 61 9) (by rfl) (by rfl) (.inl rfl) (by rfl) (by rfl) ?_
    refine Pa.pfI (by rfl) (by rfl) (.inl rfl) (by rfl) ?_
    show Pa N 92 172 [(0, .ref 61), (1, .int yf), (2, .int yb), (3, .int ym), (4, .int yk), (5, .int yy), (6, .int yt), (7, .int yc), (8, .int ye), (9, .int yw), (10, .int yz)] [] (uI yA 61 10 (yA.1 61 9)) _
    refine Pa.mp 4 (pc' := 178) (l' := [(0, .ref 61), (1, .int yf), (2, .int yb), (3, .int ym), (4, .int yk), (5, .int yy), (6, .int yt), (7, .int yc), (8, .int ye), (9, .int yw), (10, .int yz)]) (st' := [.int (ye - yt), .ref 61]) (by rfl) ?_
    refine Pa.pfI (by rfl) (by rfl) (.inl rfl) (by rfl) ?_
    show Pa N 92 181 [(0, .ref 61), (1, .int yf), (2, .int yb), (3, .int ym), (4, .int yk), (5, .int yy), (6, .int yt), (7, .int yc), (8, .int ye), (9, .int yw), (10, .int yz)] [] (uI (uI yA 61 10 (yA.1 61 9)) 61 11 (ye - yt)) _
    refine Pa.mp 1 (pc' := 182) (l' := [(0, .ref 61), (1, .int yf), (2, .int yb), (3, .int ym), (4, .int yk), (5, .int yy), (6, .int yt), (7, .int yc), (8, .int ye), (9, .int yw), (10, .int yz)]) (st' := [.ref 61]) (by rfl) ?_
    refine Pa.ic (x := 0) (pc' := 183) (by rfl) (by rfl) (by decide) ?_
    refine Pa.pfI (by rfl) (by rfl) (.inl rfl) (by rfl) ?_
    show Pa N 92 186 [(0, .ref 61), (1, .int yf), (2, .int yb), (3, .int ym), (4, .int yk), (5, .int yy), (6, .int yt), (7, .int yc), (8, .int ye), (9, .int yw), (10, .int yz)] [] (uI (uI (uI yA 61 10 (yA.1 61 9)) 61 11 (ye - yt)) 61 9 0) _
    refine Pa.mp 1 (pc' := 188) (l' := [(0, .ref 61), (1, .int yf), (2, .int yb), (3, .int ym), (4, .int yk), (5, .int yy), (6, .int yt), (7, .int yc), (8, .int ye), (9, .int yw), (10, .int yz)]) (st' := [.int yt]) (by rfl) ?_
    refine Pa.iret (by rfl) ?_
    exact l1 h1
  · have h2 : yw.toInt < (yA.1 61 9).toInt := h2
    refine Pa.mp 1 (pc' := 140) (l' := [(0, .ref 61), (1, .int yf), (2, .int yb), (3, .int ym), (4, .int yk), (5, .int yy), (6, .int yt), (7, .int yc), (8, .int ye), (9, .int yw), (10, .int yz)]) (st' := [.ref 61]) (by rfl) ?_
    refine Pa.gfR (by rfl) (by rfl) (.inl rfl) (by rfl) ?_
    show Pa N 92 143 [(0, .ref 61), (1, .int yf), (2, .int yb), (3, .int ym), (4, .int yk), (5, .int yy), (6, .int yt), (7, .int yc), (8, .int ye), (9, .int yw), (10, .int yz)] [.ref 64] yA _
    refine Pa.mp 2 (pc' := 146) (l' := [(0, .ref 61), (1, .int yf), (2, .int yb), (3, .int ym), (4, .int yk), (5, .int yy), (6, .int yt), (7, .int yc), (8, .int ye), (9, .int yw), (10, .int yz)]) (st' := [.ref 61, .int yw, .ref 64]) (by rfl) ?_
    refine Pa.gfR (by rfl) (by rfl) (.inl rfl) (by rfl) ?_
    show Pa N 92 149 [(0, .ref 61), (1, .int yf), (2, .int yb), (3, .int ym), (4, .int yk), (5, .int yy), (6, .int yt), (7, .int yc), (8, .int ye), (9, .int yw), (10, .int yz)] [.ref 65, .int yw, .ref 64] yA _
    refine Pa.mp 1 (pc' := 150) (l' := [(0, .ref 61), (1, .int yf), (2, .int yb), (3, .int ym), (4, .int yk), (5, .int yy), (6, .int yt), (7, .int yc), (8, .int ye), (9, .int yw), (10, .int yz)]) (st' := [.ref 61, .ref 65, .int yw, .ref 64]) (by rfl) ?_
    refine Pa.gfR (by rfl) (by rfl) (.inl rfl) (by rfl) ?_
    show Pa N 92 153 [(0, .ref 61), (1, .int yf), (2, .int yb), (3, .int ym), (4, .int yk), (5, .int yy), (6, .int yt), (7, .int yc), (8, .int ye), (9, .int yw), (10, .int yz)] [.ref 68, .ref 65, .int yw, .ref 64] yA _
    refine Pa.mp 1 (pc' := 155) (l' := [(0, .ref 61), (1, .int yf), (2, .int yb), (3, .int ym), (4, .int yk), (5, .int yy), (6, .int yt), (7, .int yc), (8, .int ye), (9, .int yw), (10, .int yz)]) (st' := [.int yw, .ref 68, .ref 65, .int yw, .ref 64]) (by rfl) ?_
    refine Pa.alds (v := yA.1 68 yw.toInt.toNat) (by rfl) (by rfl) (by rfl) (fun h3 h4 => ?_)
    have h3 : 0 ≤ yw.toInt := h3
    have h4 : yw.toInt < 9 := h4
    refine Pa.alds (v := yA.1 65 ((yA.1 68 yw.toInt.toNat).toInt.toNat)) (by rfl) (by rfl) (by rfl) (fun h5 h6 => ?_)
    have h5 : 0 ≤ (yA.1 68 yw.toInt.toNat).toInt := h5
    have h6 : (yA.1 68 yw.toInt.toNat).toInt < 3 := h6
    refine Pa.asts (j' := yw.toInt.toNat) (by rfl) (by rfl) (by rfl) (fun h7 h8 => ?_)
    have h7 : 0 ≤ yw.toInt := h7
    have h8 : yw.toInt < 9 := h8
    show Pa N 92 158 [(0, .ref 61), (1, .int yf), (2, .int yb), (3, .int ym), (4, .int yk), (5, .int yy), (6, .int yt), (7, .int yc), (8, .int ye), (9, .int yw), (10, .int yz)] [] (uI yA 64 yw.toInt.toNat (yA.1 65 ((yA.1 68 yw.toInt.toNat).toInt.toNat))) _
    refine Pa.iinc (x := yw) (c := 1) (v := (yw + 1)) (l' := [(9, .int (yw + 1)), (0, .ref 61), (1, .int yf), (2, .int yb), (3, .int ym), (4, .int yk), (5, .int yy), (6, .int yt), (7, .int yc), (8, .int ye), (10, .int yz)]) (by rfl) (by rfl) (by decide) (by rfl) (by rfl) ?_
    refine Pa.mp 1 (pc' := 130) (l' := [(9, .int (yw + 1)), (0, .ref 61), (1, .int yf), (2, .int yb), (3, .int ym), (4, .int yk), (5, .int yy), (6, .int yt), (7, .int yc), (8, .int ye), (10, .int yz)]) (st' := []) (by rfl) ?_
    refine Pa.lv (l' := [(0, .ref 61), (1, .int yf), (2, .int yb), (3, .int ym), (4, .int yk), (5, .int yy), (6, .int yt), (7, .int yc), (8, .int ye), (9, .int (yw + 1)), (10, .int yz)]) (lvS_c rfl (lvS_c rfl (lvS_c rfl (lvS_c rfl (lvS_c rfl (lvS_c rfl (lvS_c rfl (lvS_c rfl (lvS_c rfl (lvS_c rfl (lvS_c rfl (lvS_nil)))))))))))) rfl ?_
    exact l2 h2 h3 h4 h5 h6

theorem c_fbX {yA yW : AW} (yg : Rgx yA) (hs : scX yW yA yW) {yC : Nat → Int32} {yM : Nat → Nat} {yb yn : Nat} (yhb : yb < 64) (h2 : 2 ≤ cb yb 6) (h3 : cb yb 6 ≤ 3) (hn : yn ≤ 9) (yf ym : Int32) (yf0 : 0 ≤ yf.toInt) (yf1 : yf.toInt < (yA.1 69 11).toInt) (ye9 : (yW.1 61 9).toInt = (yn : Int)) (e62 : ∀ yi, yi < yn → yW.1 62 yi = yC yi) (e63 : ∀ yi, yi < yn → yW.1 63 yi = Int32.ofNat (yM yi) ∧ yM yi < 64) (hC : ∀ yi, yi < yn → 0 ≤ (yC yi).toInt ∧ (yC yi).toInt ≤ 9999) (N : Nat) : Pa N 92 0 [(0, .ref 61), (1, .int yf), (2, .int (Int32.ofNat yb)), (3, .int ym), (4, .int (yA.1 69 0))] [] yW (fbQ yA yC (rtV yA yf) yM yb (cb yb 6) yn (ym * sumN yC yn) yW) := by
  obtain ⟨yP, hP⟩ : ∃ yP, cb yb 6 = yP := ⟨_, rfl⟩
  obtain ⟨yR, hR⟩ : ∃ yR, rtV yA yf = yR := ⟨_, rfl⟩
  obtain ⟨yx, hx⟩ : ∃ yx, ym * sumN yC yn = yx := ⟨_, rfl⟩
  have pb := pow_b (yP := cb yb 6) h3 hn
  have ePn : (Int32.ofNat (cb yb 6 ^ yn)).toInt = ((cb yb 6 ^ yn : Nat) : Int) := i32_nat (by omega)
  refine bx_fb0 yf (Int32.ofNat yb) ym (yA.1 69 0) (fun yz => ?_) (fun yz => .inl ⟨by omega, rfl, rfl⟩)
  have hn0 : yn ≠ 0 := by omega
  refine Pa.mono (c_seX yg hs yhb h3 yf yf0 yf1 N) (fun yv yU1 hv => ?_)
  obtain ⟨rfl, ys1, yt1, u8, ur⟩ := hv
  have yhT : tW yC yR yM yb yn yU1 := ⟨by rw [yt1 61 9 (by decide)]; exact ye9, u8, fun yi yhi => (yt1 62 yi (.inl rfl)).trans (e62 yi yhi), fun yi yhi => ⟨(yt1 63 yi (.inr (.inl rfl))).trans (e63 yi yhi).1, (e63 yi yhi).2⟩, fun yp hp => by rw [← hR]; exact ur yp hp⟩
  rw [hR, hx]
  have ysz : ∀ {yU : AW}, tzE yU1 yU → scX yU yA yU := fun yh => scX_K ys1 (fun yd yj yp => yh.1 yd yj (fun ye => yp (by rw [ye]; decide)) (fun ye => yp (by rw [ye]; decide))) yh.2
  have tz : ∀ {yU : AW}, tzE yU1 yU → tkE yW yU := fun yh => tkE_tr yt1 (fun yd yj yhd => yh.1 yd yj (by omega) (by omega))
  -- the way that is chosen
  have key4 : ∀ (yw : Nat) (U2 : AW) (yt yc ye yy yz : Int32), (fS yC yR yM yb (cb yb 6) yn yx (cb yb 6 ^ yn)).2 = some yw → 0 ≤ (fS yC yR yM yb (cb yb 6) yn yx (cb yb 6 ^ yn)).1.toInt → yt = (fS yC yR yM yb (cb yb 6) yn yx (cb yb 6 ^ yn)).1 → ye = (fS yC yR yM yb (cb yb 6) yn 0 (cb yb 6 ^ yn)).1 → tzE yU1 U2 → (∀ yi, yi < yn → U2.1 68 yi = Int32.ofNat (dg (cb yb 6) yn yw yi)) → ∀ (N yi : Nat) (yU : AW), yi ≤ yn → exR 64 U2 yU → (∀ yq, yq < yi → yU.1 64 yq = Int32.ofNat (lnd yb (cb yb 6) yn yw yq)) → Pa N 92 130 [(0, .ref 61), (1, .int yf), (2, .int (Int32.ofNat yb)), (3, .int ym), (4, .int (yA.1 69 0)), (5, .int yy), (6, .int yt), (7, .int yc), (8, .int ye), (9, .int (Int32.ofNat yi)), (10, .int yz)] [] yU (fbQ yA yC yR yM yb (cb yb 6) yn yx yW) := by
    intro yw U2 yt yc ye yy yz hw hg et ee hz h68 N
    induction N with
    | zero => intros; exact Pa.zero
    | succ N yih =>
      intro yi yU yhi hx4 h1
      have ei : (Int32.ofNat yi).toInt = (yi : Int) := i32_nat (by omega)
      have hT2 := tW_z yhT hz
      have u9 : (yU.1 61 9).toInt = (yn : Int) := by rw [hx4.1 61 9 (by decide)]; exact hT2.1
      refine bx_fb7 yf (Int32.ofNat yb) ym (yA.1 69 0) yy yt yc ye (Int32.ofNat yi) yz ?_ ?_ <;> rw [ei, u9] <;> (try rw [Int.toNat_natCast])
      · intro yq
        have en : yi = yn := by omega
        have sU : scX yU yA yU := scX_K (ysz hz) (fun yd yj yp => hx4.1 yd yj (fun ye => yp (by rw [ye]; decide))) hx4.2
        refine .inr ⟨hn0, scX_k (scX_k (scX_k sU (by decide)) (by decide)) (by decide), .inr ⟨yw, hw, hg, by rw [et], fun yq hq => ?_, ?_, ?_, ?_, fun yj => ⟨?_, ?_⟩⟩⟩
        · rw [uI_c (by decide), uI_c (by decide), uI_c (by decide)]
          exact h1 yq (by omega)
        · rw [uI_k (by decide), uI_k (by decide), uI_h, hx4.1 61 9 (by decide), hz.1 61 9 (by decide) (by decide)]
          exact yt1 61 9 (by decide)
        · rw [uI_k (by decide), uI_h, ee, et]
        · rw [uI_h]
        · rw [uI_c (by decide), uI_c (by decide), uI_c (by decide), hx4.1 62 yj (by decide), hz.1 62 yj (by decide) (by decide)]
          exact yt1 62 yj (.inl rfl)
        · rw [uI_c (by decide), uI_c (by decide), uI_c (by decide), hx4.1 63 yj (by decide), hz.1 63 yj (by decide) (by decide)]
          exact yt1 63 yj (.inr (.inl rfl))
      · intro yq _ _ _ _
        have yhd : dg (cb yb 6) yn yw yi < cb yb 6 := dg_lt (by omega)
        have ed : (Int32.ofNat (dg (cb yb 6) yn yw yi)).toInt = (dg (cb yb 6) yn yw yi : Int) := i32_nat (by omega)
        rw [hx4.1 68 yi (by decide), h68 yi (by omega), ed, Int.toNat_natCast, hx4.1 65 _ (by decide), (hT2.2.2.2.2 _ yhd).1]
        have yh := yih (yi + 1) (uI yU 64 yi (Int32.ofNat (pL yb (dg (cb yb 6) yn yw yi)))) (by omega) (exR_u hx4) (fun yq hq => by
          rw [uI_row]
          by_cases ye : yq = yi
          · rw [if_pos ye, ye]
            rfl
          · rw [if_neg ye]
            exact h1 yq (by omega))
        rw [on_succ yi] at yh
        exact yh
  -- the ways, one by one
  have key3 : ∀ (N yw : Nat) (yU : AW) (yz : Int32), yw ≤ cb yb 6 ^ yn → tzE yU1 yU → Pa N 92 60 [(0, .ref 61), (1, .int yf), (2, .int (Int32.ofNat yb)), (3, .int ym), (4, .int (yA.1 69 0)), (5, .int (Int32.ofNat (cb yb 6 ^ yn))), (6, .int (fS yC yR yM yb (cb yb 6) yn yx yw).1), (7, .int (Int32.ofNat ((fS yC yR yM yb (cb yb 6) yn yx yw).2.getD 0))), (8, .int (fS yC yR yM yb (cb yb 6) yn 0 yw).1), (9, .int (Int32.ofNat yw)), (10, .int yz)] [] yU (fbQ yA yC yR yM yb (cb yb 6) yn yx yW) := by
    intro N
    induction N with
    | zero => intros; exact Pa.zero
    | succ N yih =>
      intro yw yU yz hw hz
      have ew : (Int32.ofNat yw).toInt = (yw : Int) := i32_nat (by omega)
      have hU := tW_z yhT hz
      refine bx_fb3 yf (Int32.ofNat yb) ym (yA.1 69 0) _ _ _ _ (Int32.ofNat yw) yz ?_ ?_ ?_ <;> rw [ePn, ew]
      · intro yq1 yq2
        have ye : yw = cb yb 6 ^ yn := by omega
        rw [ye] at yq2 ⊢
        have hg2 := fS_G (yC := yC) (yR := yR) (yM := yM) (yb := yb) (yP := cb yb 6) (yn := yn) (yx := yx) (yw := cb yb 6 ^ yn)
        rcases hg2 with ⟨_, y2⟩ | ⟨yv, y1, y2⟩
        · exfalso
          omega
        · have hv := fS_v y1
          rw [y1]
          refine Pa.mono (c_rwX (yP := cb yb 6) (yn := yn) (yw := yv) (by omega) h3 hn hU.2.1 hU.1 hv N) (fun _ U2 hv2 => ?_)
          obtain ⟨rfl, hx2, h68⟩ := hv2
          refine bx_fb6 yf (Int32.ofNat yb) ym (yA.1 69 0) _ _ _ _ _ yz ?_
          exact key4 yv U2 _ _ _ _ yz y1 y2 rfl rfl (tzE_tr hz (tzE_68 hx2)) h68 N 0 U2 (Nat.zero_le _) (exR_refl 64 U2) (fun yq hq => absurd hq (Nat.not_lt_zero yq))
      · intro yq1 yq2
        have ye : yw = cb yb 6 ^ yn := by omega
        rw [ye] at yq2
        exact .inr ⟨hn0, ysz hz, .inl ⟨yq2, rfl, tz hz⟩⟩
      · intro yq1
        have hwn : yw < cb yb 6 ^ yn := by omega
        have g0 : gdS yb 0 (wsp yC yb (cb yb 6) yn yw) := gdS_0 hC hn
        have hg := wG_1 (fS_G (yC := yC) (yR := yR) (yM := yM) (yb := yb) (yP := cb yb 6) (yn := yn) (yx := yx) (yw := yw))
        refine Pa.mono (c_woX (yR := yR) yhb h2 h3 hn hU hwn N) (fun yv U2 hv => ?_)
        obtain ⟨hz2, hv⟩ := hv
        have hz3 := tzE_tr hz hz2
        have nx : ∀ (V : AW) (yv : Int32), tzE yU1 V → ((¬ vld yM yb (cb yb 6) yn yw ∧ yv = -1) ∨ (vld yM yb (cb yb 6) yn yw ∧ yv = wbk yC yR yb (cb yb 6) yn yw)) → ¬ wOk yC yR yM yb (cb yb 6) yn yx yw (fS yC yR yM yb (cb yb 6) yn yx yw) → Pa N 92 60 [(0, .ref 61), (1, .int yf), (2, .int (Int32.ofNat yb)), (3, .int ym), (4, .int (yA.1 69 0)), (5, .int (Int32.ofNat (cb yb 6 ^ yn))), (6, .int (fS yC yR yM yb (cb yb 6) yn yx yw).1), (7, .int (Int32.ofNat ((fS yC yR yM yb (cb yb 6) yn yx yw).2.getD 0))), (8, .int (i_max (fS yC yR yM yb (cb yb 6) yn 0 yw).1 yv)), (9, .int (Int32.ofNat yw + 1)), (10, .int yv)] [] V (fbQ yA yC yR yM yb (cb yb 6) yn yx yW) := fun V yv hV hv2 hno => by
          have yh := yih (yw + 1) V yv (by omega) hV
          rw [fS_max g0 hv2, fS_s, wU_0 hno, on_succ yw] at yh
          exact yh
        rcases hv with ⟨yv1, rfl⟩ | ⟨yv1, rfl, h67⟩
        · refine bx_fb4 yf (Int32.ofNat yb) ym (yA.1 69 0) _ _ _ _ (Int32.ofNat yw) yz (-1) (fun _ => nx U2 (-1) hz3 (.inl ⟨yv1, rfl⟩) (fun yq => yv1 yq.1.1)) (fun yq => ?_)
          exfalso
          rw [show (-1 : Int32).toInt = -1 from by decide] at yq
          omega
        · refine bx_fb4 yf (Int32.ofNat yb) ym (yA.1 69 0) _ _ _ _ (Int32.ofNat yw) yz _ (fun yq => nx U2 _ hz3 (.inr ⟨yv1, rfl⟩) (fun yq2 => by have := yq2.2; omega)) (fun yq => ?_)
          have hU2 := tW_z yhT hz3
          have eall : sumN (fun yp => spL yC (dg (cb yb 6) yn yw) yp yn) (cb yb 6) = sumN yC yn := spL_all (fun yi _ => dg_lt (by omega))
          refine Pa.mono (c_faX (yb := yb) h3 hU2.2.1 ym (fun yp => spL yC (dg (cb yb 6) yn yw) yp yn) h67 N) (fun vv V hv2 => ?_)
          obtain ⟨rfl, hv2⟩ := hv2
          rw [eall, hx] at hv2
          rcases hv2 with ⟨rfl, hf⟩ | ⟨rfl, hf⟩
          · refine bx_fb5 yf (Int32.ofNat yb) ym (yA.1 69 0) _ _ _ _ (Int32.ofNat yw) _ 1 (fun yq2 => absurd yq2 (by decide)) (fun _ => ?_)
            have hok : wOk yC yR yM yb (cb yb 6) yn yx yw (fS yC yR yM yb (cb yb 6) yn yx yw) := ⟨⟨yv1, (gdS_c yhb (by omega)).mpr hf⟩, yq⟩
            have yh := yih (yw + 1) V (wbk yC yR yb (cb yb 6) yn yw) (by omega) hz3
            rw [fS_max g0 (.inr ⟨yv1, rfl⟩), fS_s, wU_1 hok, on_succ yw] at yh
            exact yh
          · refine bx_fb5 yf (Int32.ofNat yb) ym (yA.1 69 0) _ _ _ _ (Int32.ofNat yw) _ 0 (fun _ => ?_) (fun yq2 => absurd (by decide) yq2)
            exact nx V _ hz3 (.inr ⟨yv1, rfl⟩) (fun yq2 => hf ((gdS_c yhb (by omega)).mp yq2.1.2))
  -- how many ways there are
  have key1 : ∀ (N yi : Nat), yi ≤ yn → Pa N 92 24 [(0, .ref 61), (1, .int yf), (2, .int (Int32.ofNat yb)), (3, .int ym), (4, .int (yA.1 69 0)), (5, .int (Int32.ofNat (cb yb 6 ^ yi))), (6, .int (Int32.ofNat yi))] [] yU1 (fbQ yA yC yR yM yb (cb yb 6) yn yx yW) := by
    intro N
    induction N with
    | zero => intros; exact Pa.zero
    | succ N yih =>
      intro yi yhi
      have ei : (Int32.ofNat yi).toInt = (yi : Int) := i32_nat (by omega)
      refine bx_fb2 yf (Int32.ofNat yb) ym (yA.1 69 0) _ (Int32.ofNat yi) ?_ ?_ <;> rw [ei, yhT.1]
      · intro yq
        have ye : yi = yn := by omega
        rw [ye]
        exact key3 N 0 yU1 0 (Nat.zero_le _) (tzE_refl yU1)
      · intro yq
        have yp1 := pow_b (yP := cb yb 6) (yn := yi) h3 (by omega)
        have yp2 := pow_b (yP := cb yb 6) (yn := yi + 1) h3 (by omega)
        rw [Nat.pow_succ] at yp2
        rw [yhT.2.1, i_mulN (by omega) (by omega) (by omega)]
        have yh := yih (yi + 1) (by omega)
        rw [Nat.pow_succ, on_succ yi] at yh
        exact yh
  exact bx_fb1 yf (Int32.ofNat yb) ym (yA.1 69 0) (key1 N 0 (Nat.zero_le _))
