/-! LOANS REPAID: runs -/
/-- all yrows of ints but one are yas they were; yrows of longs ymay differ -/
def exI (yc : Nat) (yW yU : AW) : Prop := (∀ yd yj, yd ≠ yc → yU.1 yd yj = yW.1 yd yj) ∧ yU.2.2 = yW.2.2
theorem exI_refl (yc : Nat) (yW : AW) : exI yc yW yW := ⟨fun _ _ _ => rfl, rfl⟩
theorem exI_I {yc : Nat} {yW yU : AW} (yh : exI yc yW yU) {yq : Nat} {ym : Int32} : exI yc yW (uI yU yc yq ym) := ⟨fun yd yj yp => (uI_c yp).trans (yh.1 yd yj yp), yh.2⟩
theorem exI_J {yc : Nat} {yW yU : AW} (yh : exI yc yW yU) {yd yq : Nat} {ym : Int64} : exI yc yW (uJ yU yd yq ym) := ⟨yh.1, yh.2⟩
theorem exI_tr {yc : Nat} {yW yU V : AW} (yh : exI yc yW yU) (yg : exI yc yU V) : exI yc yW V := ⟨fun yd yj yp => (yg.1 yd yj yp).trans (yh.1 yd yj yp), yg.2.trans yh.2⟩
theorem uJ_row {yA : AW} {yc yj yk : Nat} {yx : Int64} : (uJ yA yc yk yx).2.1 yc yj = if yj = yk then yx else yA.2.1 yc yj := by
  by_cases ye : yj = yk
  · rw [if_pos ye, ye, uJ_h]
  · rw [if_neg ye, uJ_k ye]
theorem lg_1 : (Int64.ofNat 1).toInt = 1 := by decide
theorem lg_0 : (Int64.ofNat 0).toInt = 0 := by decide
theorem lg_m : (-1 : Int64).toInt = -1 := by decide
theorem l_add0 (yx : Int64) : yx + Int64.ofNat 0 = yx := Int64.add_zero yx
theorem bx_pr0 {N : Nat} {yA : AW} {yQ : Option Value → AW → Prop} (ym : Int32)
    (l1 : Pa N 78 2 [(0, .ref 47), (1, .int ym), (2, .int 0), (3, .int 0), (4, .int 0)] [] yA yQ) :
    Pa N 78 0 [(0, .ref 47), (1, .int ym)] [] yA yQ := by
  refine Pa.ic (x := 0) (pc' := 1) (by rfl) (by rfl) (by decide) ?_
  refine Pa.mp 1 (pc' := 2) (l' := [(2, .int 0), (0, .ref 47), (1, .int ym)]) (st' := []) (by rfl) ?_
  refine Pa.lv (l' := [(0, .ref 47), (1, .int ym), (2, .int 0), (3, .int 0), (4, .int 0)]) (lvS_c rfl (lvS_c rfl (lvS_c rfl (lvS_nil)))) rfl ?_
  exact l1

theorem bx_pr1 {N : Nat} {yA : AW} {yQ : Option Value → AW → Prop} (ym yn yb yi : Int32)
    (l1 : ym.toInt ≤ yn.toInt → yQ none yA)
    (l2 : yn.toInt < ym.toInt → (yA.1 47 17).toInt ≤ yn.toInt → yQ none yA)
    (l3 : yn.toInt < ym.toInt → yn.toInt < (yA.1 47 17).toInt → Pa N 78 20 [(0, .ref 47), (1, .int ym), (2, .int yn), (3, .int 0), (4, .int 1)] [] yA yQ) :
    Pa (N + 1) 78 2 [(0, .ref 47), (1, .int ym), (2, .int yn), (3, .int yb), (4, .int yi)] [] yA yQ := by
  refine Pa.mp1 1 (pc' := 4) (l' := [(0, .ref 47), (1, .int ym), (2, .int yn), (3, .int yb), (4, .int yi)]) (st' := [.int ym, .int yn]) (by rfl) ?_
  refine Pa.if2 (a := yn.toInt) (b := ym.toInt) (t := 78) (by rfl) (by rfl) (rfl) (rfl) (fun h1 => ?_) (fun h2 => ?_)
  · have h1 : ym.toInt ≤ yn.toInt := h1
    refine Pa.vret (by rfl) ?_
    exact l1 h1
  · have h2 : yn.toInt < ym.toInt := h2
    refine Pa.mp 2 (pc' := 9) (l' := [(0, .ref 47), (1, .int ym), (2, .int yn), (3, .int yb), (4, .int yi)]) (st' := [.ref 47, .int yn]) (by rfl) ?_
    refine Pa.gfI (v := yA.1 47 17) (by rfl) (by rfl) (.inl rfl) (by rfl) (by rfl) ?_
    refine Pa.if2 (a := yn.toInt) (b := (yA.1 47 17).toInt) (t := 78) (by rfl) (by rfl) (rfl) (rfl) (fun h3 => ?_) (fun h4 => ?_)
    · have h3 : (yA.1 47 17).toInt ≤ yn.toInt := h3
      refine Pa.vret (by rfl) ?_
      exact l2 h2 h3
    · have h4 : yn.toInt < (yA.1 47 17).toInt := h4
      refine Pa.ic (x := 0) (pc' := 16) (by rfl) (by rfl) (by decide) ?_
      refine Pa.mp 1 (pc' := 17) (l' := [(3, .int 0), (0, .ref 47), (1, .int ym), (2, .int yn), (4, .int yi)]) (st' := []) (by rfl) ?_
      refine Pa.ic (x := 1) (pc' := 18) (by rfl) (by rfl) (by decide) ?_
      refine Pa.mp 1 (pc' := 20) (l' := [(4, .int 1), (3, .int 0), (0, .ref 47), (1, .int ym), (2, .int yn)]) (st' := []) (by rfl) ?_
      refine Pa.lv (l' := [(0, .ref 47), (1, .int ym), (2, .int yn), (3, .int 0), (4, .int 1)]) (lvS_c rfl (lvS_c rfl (lvS_c rfl (lvS_c rfl (lvS_c rfl (lvS_nil)))))) rfl ?_
      exact l3 h2 h4

theorem bx_pr2 {N : Nat} {yA : AW} {yQ : Option Value → AW → Prop} (ym yn yb yi : Int32)
    (l1 : (yA.1 47 17).toInt ≤ yi.toInt → 0 ≤ yb.toInt → yb.toInt < 60 → Pa N 78 2 [(0, .ref 47), (1, .int ym), (2, .int (yn + 1)), (3, .int yb), (4, .int yi)] [] (uI (uJ yA 60 yb.toInt.toNat (Int64.ofNat 0)) 59 yb.toInt.toNat ((yA.1 59 yb.toInt.toNat) + 1)) yQ)
    (l2 : yi.toInt < (yA.1 47 17).toInt → 0 ≤ yi.toInt → yi.toInt < 60 → 0 ≤ yb.toInt → yb.toInt < 60 → (lg_cmp (yA.2.1 60 yi.toInt.toNat) (yA.2.1 60 yb.toInt.toNat)).toInt ≤ 0 → Pa N 78 20 [(0, .ref 47), (1, .int ym), (2, .int yn), (3, .int yb), (4, .int (yi + 1))] [] yA yQ)
    (l3 : yi.toInt < (yA.1 47 17).toInt → 0 ≤ yi.toInt → yi.toInt < 60 → 0 ≤ yb.toInt → yb.toInt < 60 → 0 < (lg_cmp (yA.2.1 60 yi.toInt.toNat) (yA.2.1 60 yb.toInt.toNat)).toInt → Pa N 78 20 [(0, .ref 47), (1, .int ym), (2, .int yn), (3, .int yi), (4, .int (yi + 1))] [] yA yQ) :
    Pa (N + 1) 78 20 [(0, .ref 47), (1, .int ym), (2, .int yn), (3, .int yb), (4, .int yi)] [] yA yQ := by
  refine Pa.mp1 1 (pc' := 23) (l' := [(0, .ref 47), (1, .int ym), (2, .int yn), (3, .int yb), (4, .int yi)]) (st' := [.ref 47, .int yi]) (by rfl) ?_
  refine Pa.gfI (v := yA.1 47 17) (by rfl) (by rfl) (.inl rfl) (by rfl) (by rfl) ?_
  refine Pa.if2 (a := yi.toInt) (b := (yA.1 47 17).toInt) (t := 55) (by rfl) (by rfl) (rfl) (rfl) (fun h1 => ?_) (fun h2 => ?_)
  · have h1 : (yA.1 47 17).toInt ≤ yi.toInt := h1
    refine Pa.mp 1 (pc' := 56) (l' := [(0, .ref 47), (1, .int ym), (2, .int yn), (3, .int yb), (4, .int yi)]) (st' := [.ref 47]) (by rfl) ?_
    refine Pa.gfR (by rfl) (by rfl) (.inl rfl) (by rfl) ?_
    show Pa N 78 59 [(0, .ref 47), (1, .int ym), (2, .int yn), (3, .int yb), (4, .int yi)] [.ref 60] yA _
    refine Pa.mp 2 (pc' := 61) (l' := [(0, .ref 47), (1, .int ym), (2, .int yn), (3, .int yb), (4, .int yi)]) (st' := [.long (Int64.ofNat 0), .int yb, .ref 60]) (by rfl) ?_
    refine Pa.jsts (j' := yb.toInt.toNat) (by rfl) (by rfl) (by rfl) (fun h3 h4 => ?_)
    have h3 : 0 ≤ yb.toInt := h3
    have h4 : yb.toInt < 60 := h4
    show Pa N 78 62 [(0, .ref 47), (1, .int ym), (2, .int yn), (3, .int yb), (4, .int yi)] [] (uJ yA 60 yb.toInt.toNat (Int64.ofNat 0)) _
    refine Pa.mp 1 (pc' := 63) (l' := [(0, .ref 47), (1, .int ym), (2, .int yn), (3, .int yb), (4, .int yi)]) (st' := [.ref 47]) (by rfl) ?_
    refine Pa.gfR (by rfl) (by rfl) (.inl rfl) (by rfl) ?_
    show Pa N 78 66 [(0, .ref 47), (1, .int ym), (2, .int yn), (3, .int yb), (4, .int yi)] [.ref 59] (uJ yA 60 yb.toInt.toNat (Int64.ofNat 0)) _
    refine Pa.mp 2 (pc' := 68) (l' := [(0, .ref 47), (1, .int ym), (2, .int yn), (3, .int yb), (4, .int yi)]) (st' := [.int yb, .ref 59, .int yb, .ref 59]) (by rfl) ?_
    refine Pa.alds (v := yA.1 59 yb.toInt.toNat) (by rfl) (by rfl) (by show (uJ yA 60 yb.toInt.toNat (Int64.ofNat 0)).1 59 yb.toInt.toNat = yA.1 59 yb.toInt.toNat; rw [uJ_I]) (fun h5 h6 => ?_)
    have h5 : 0 ≤ yb.toInt := h5
    have h6 : yb.toInt < 60 := h6
    refine Pa.ic (x := 1) (pc' := 70) (by rfl) (by rfl) (by decide) ?_
    refine Pa.mp 1 (pc' := 71) (l' := [(0, .ref 47), (1, .int ym), (2, .int yn), (3, .int yb), (4, .int yi)]) (st' := [.int ((yA.1 59 yb.toInt.toNat) + 1), .int yb, .ref 59]) (by rfl) ?_
    refine Pa.asts (j' := yb.toInt.toNat) (by rfl) (by rfl) (by rfl) (fun h7 h8 => ?_)
    have h7 : 0 ≤ yb.toInt := h7
    have h8 : yb.toInt < 60 := h8
    show Pa N 78 72 [(0, .ref 47), (1, .int ym), (2, .int yn), (3, .int yb), (4, .int yi)] [] (uI (uJ yA 60 yb.toInt.toNat (Int64.ofNat 0)) 59 yb.toInt.toNat ((yA.1 59 yb.toInt.toNat) + 1)) _
    refine Pa.iinc (x := yn) (c := 1) (v := (yn + 1)) (l' := [(2, .int (yn + 1)), (0, .ref 47), (1, .int ym), (3, .int yb), (4, .int yi)]) (by rfl) (by rfl) (by decide) (by rfl) (by rfl) ?_
    refine Pa.mp 1 (pc' := 2) (l' := [(2, .int (yn + 1)), (0, .ref 47), (1, .int ym), (3, .int yb), (4, .int yi)]) (st' := []) (by rfl) ?_
    refine Pa.lv (l' := [(0, .ref 47), (1, .int ym), (2, .int (yn + 1)), (3, .int yb), (4, .int yi)]) (lvS_c rfl (lvS_c rfl (lvS_c rfl (lvS_c rfl (lvS_c rfl (lvS_nil)))))) rfl ?_
    exact l1 h1 h3 h4
  · have h2 : yi.toInt < (yA.1 47 17).toInt := h2
    refine Pa.mp 1 (pc' := 30) (l' := [(0, .ref 47), (1, .int ym), (2, .int yn), (3, .int yb), (4, .int yi)]) (st' := [.ref 47]) (by rfl) ?_
    refine Pa.gfR (by rfl) (by rfl) (.inl rfl) (by rfl) ?_
    show Pa N 78 33 [(0, .ref 47), (1, .int ym), (2, .int yn), (3, .int yb), (4, .int yi)] [.ref 60] yA _
    refine Pa.mp 1 (pc' := 35) (l' := [(0, .ref 47), (1, .int ym), (2, .int yn), (3, .int yb), (4, .int yi)]) (st' := [.int yi, .ref 60]) (by rfl) ?_
    refine Pa.jlds (v := yA.2.1 60 yi.toInt.toNat) (by rfl) (by rfl) (by rfl) (fun h9 h10 => ?_)
    have h9 : 0 ≤ yi.toInt := h9
    have h10 : yi.toInt < 60 := h10
    refine Pa.mp 1 (pc' := 37) (l' := [(0, .ref 47), (1, .int ym), (2, .int yn), (3, .int yb), (4, .int yi)]) (st' := [.ref 47, .long (yA.2.1 60 yi.toInt.toNat)]) (by rfl) ?_
    refine Pa.gfR (by rfl) (by rfl) (.inl rfl) (by rfl) ?_
    show Pa N 78 40 [(0, .ref 47), (1, .int ym), (2, .int yn), (3, .int yb), (4, .int yi)] [.ref 60, .long (yA.2.1 60 yi.toInt.toNat)] yA _
    refine Pa.mp 1 (pc' := 41) (l' := [(0, .ref 47), (1, .int ym), (2, .int yn), (3, .int yb), (4, .int yi)]) (st' := [.int yb, .ref 60, .long (yA.2.1 60 yi.toInt.toNat)]) (by rfl) ?_
    refine Pa.jlds (v := yA.2.1 60 yb.toInt.toNat) (by rfl) (by rfl) (by rfl) (fun h11 h12 => ?_)
    have h11 : 0 ≤ yb.toInt := h11
    have h12 : yb.toInt < 60 := h12
    refine Pa.mp 1 (pc' := 43) (l' := [(0, .ref 47), (1, .int ym), (2, .int yn), (3, .int yb), (4, .int yi)]) (st' := [.int (lg_cmp (yA.2.1 60 yi.toInt.toNat) (yA.2.1 60 yb.toInt.toNat))]) (by rfl) ?_
    refine Pa.if1 (a := (lg_cmp (yA.2.1 60 yi.toInt.toNat) (yA.2.1 60 yb.toInt.toNat)).toInt) (t := 49) (by rfl) (by rfl) (rfl) (fun h13 => ?_) (fun h14 => ?_)
    · have h13 : (lg_cmp (yA.2.1 60 yi.toInt.toNat) (yA.2.1 60 yb.toInt.toNat)).toInt ≤ 0 := h13
      refine Pa.iinc (x := yi) (c := 1) (v := (yi + 1)) (l' := [(4, .int (yi + 1)), (0, .ref 47), (1, .int ym), (2, .int yn), (3, .int yb)]) (by rfl) (by rfl) (by decide) (by rfl) (by rfl) ?_
      refine Pa.mp 1 (pc' := 20) (l' := [(4, .int (yi + 1)), (0, .ref 47), (1, .int ym), (2, .int yn), (3, .int yb)]) (st' := []) (by rfl) ?_
      refine Pa.lv (l' := [(0, .ref 47), (1, .int ym), (2, .int yn), (3, .int yb), (4, .int (yi + 1))]) (lvS_c rfl (lvS_c rfl (lvS_c rfl (lvS_c rfl (lvS_c rfl (lvS_nil)))))) rfl ?_
      exact l2 h2 h9 h10 h11 h12 h13
    · have h14 : 0 < (lg_cmp (yA.2.1 60 yi.toInt.toNat) (yA.2.1 60 yb.toInt.toNat)).toInt := h14
      refine Pa.mp 2 (pc' := 49) (l' := [(3, .int yi), (0, .ref 47), (1, .int ym), (2, .int yn), (4, .int yi)]) (st' := []) (by rfl) ?_
      refine Pa.iinc (x := yi) (c := 1) (v := (yi + 1)) (l' := [(4, .int (yi + 1)), (3, .int yi), (0, .ref 47), (1, .int ym), (2, .int yn)]) (by rfl) (by rfl) (by decide) (by rfl) (by rfl) ?_
      refine Pa.mp 1 (pc' := 20) (l' := [(4, .int (yi + 1)), (3, .int yi), (0, .ref 47), (1, .int ym), (2, .int yn)]) (st' := []) (by rfl) ?_
      refine Pa.lv (l' := [(0, .ref 47), (1, .int ym), (2, .int yn), (3, .int yi), (4, .int (yi + 1))]) (lvS_c rfl (lvS_c rfl (lvS_c rfl (lvS_c rfl (lvS_c rfl (lvS_nil)))))) rfl ?_
      exact l3 h2 h9 h10 h11 h12 h14

/-- ones ygo to the greatest rests, by the class -/
theorem c_prX {yW : AW} {yn mm : Nat} {yr : Nat → Int64} {yG yF : Nat → Int32} (hn : yn ≤ 60) (eT : (yW.1 47 17).toInt = (yn : Int)) (yhm : mm ≤ pcN yr yn) (er : ∀ yj, yj < yn → yW.2.1 60 yj = yr yj) (eG : ∀ yj, yj < 60 → yW.1 59 yj = yG yj) (eF : ∀ yj, yj < 60 → dst yn mm yr yG yj = yF yj) (ym : Int32) (em : ym.toInt = (mm : Int)) (N : Nat) : Pa N 78 0 [(0, .ref 47), (1, .int ym)] [] yW (fun yv A1 => yv = none ∧ exI 59 yW A1 ∧ ∀ yj, yj < 60 → A1.1 59 yj = yF yj) := by
  have ykey : ∀ N : Nat, (∀ (yk : Nat) (yU : AW) (ys : Nat → Int64) (yH : Nat → Int32) (yb yi : Int32), yk ≤ mm → exI 59 yW yU → (∀ yj, yj < yn → yU.2.1 60 yj = ys yj) → (∀ yj, yj < 60 → yU.1 59 yj = yH yj) → mm - yk ≤ pcN ys yn → (∀ yj, yj < 60 → dst yn (mm - yk) ys yH yj = yF yj) → Pa N 78 2 [(0, .ref 47), (1, .int ym), (2, .int (Int32.ofNat yk)), (3, .int yb), (4, .int yi)] [] yU (fun yv A1 => yv = none ∧ exI 59 yW A1 ∧ ∀ yj, yj < 60 → A1.1 59 yj = yF yj)) ∧ (∀ (yk : Nat) (yU : AW) (ys : Nat → Int64) (yH : Nat → Int32) (yi : Nat), yk < mm → exI 59 yW yU → (∀ yj, yj < yn → yU.2.1 60 yj = ys yj) → (∀ yj, yj < 60 → yU.1 59 yj = yH yj) → mm - yk ≤ pcN ys yn → (∀ yj, yj < 60 → dst yn (mm - yk) ys yH yj = yF yj) → yi + 1 ≤ yn → Pa N 78 20 [(0, .ref 47), (1, .int ym), (2, .int (Int32.ofNat yk)), (3, .int (Int32.ofNat (bsI ys yi))), (4, .int (Int32.ofNat (yi + 1)))] [] yU (fun yv A1 => yv = none ∧ exI 59 yW A1 ∧ ∀ yj, yj < 60 → A1.1 59 yj = yF yj)) := by
    intro N
    induction N with
    | zero => exact ⟨fun _ _ _ _ _ _ _ _ _ _ _ _ => Pa.zero, fun _ _ _ _ _ _ _ _ _ _ _ _ => Pa.zero⟩
    | succ N yih =>
      refine ⟨fun yk yU ys yH yb yi hk hx h1 h2 h3 h4 => ?_, fun yk yU ys yH yi hk hx h1 h2 h3 h4 yhi => ?_⟩
      · have hp := pcN_le (yr := ys) (yn := yn)
        have hp0 := pcN_le (yr := yr) (yn := yn)
        have ek : (Int32.ofNat yk).toInt = (yk : Int) := i32_nat (by omega)
        have ye17 : (yU.1 47 17).toInt = (yn : Int) := by rw [hx.1 47 17 (by decide)]; exact eT
        refine bx_pr1 ym (Int32.ofNat yk) yb yi ?_ ?_ ?_ <;> rw [em, ek] <;> (try rw [ye17])
        · intro yq
          have ye : mm - yk = 0 := by omega
          refine ⟨rfl, hx, fun yj hj => ?_⟩
          rw [← h4 yj hj, ye, h2 yj hj]
          rfl
        · intro yq1 yq2
          exfalso
          omega
        · intro yq1 yq2
          exact yih.2 yk yU ys yH 0 (by omega) hx h1 h2 h3 h4 (by omega)
      · have hp := pcN_le (yr := ys) (yn := yn)
        have hp0 := pcN_le (yr := yr) (yn := yn)
        have ei : (Int32.ofNat (yi + 1)).toInt = ((yi + 1 : Nat) : Int) := i32_nat (by omega)
        have hbl := bsI_le (yr := ys) (yi := yi)
        have eb : (Int32.ofNat (bsI ys yi)).toInt = (bsI ys yi : Int) := i32_nat (by omega)
        have ye17 : (yU.1 47 17).toInt = (yn : Int) := by rw [hx.1 47 17 (by decide)]; exact eT
        refine bx_pr2 ym (Int32.ofNat yk) (Int32.ofNat (bsI ys yi)) (Int32.ofNat (yi + 1)) ?_ ?_ ?_ <;> rw [ei, ye17] <;> (try rw [eb]) <;> (try rw [Int.toNat_natCast]) <;> (try rw [Int.toNat_natCast])
        · intro yq1 _ _
          have ye : yi = yn - 1 := by omega
          have yhb := bsI_pos (yr := ys) (yn := yn) (by omega)
          rw [← ye] at yhb
          have hu := pcN_up yhb.2 (yn := yn) yhb.1
          have yh := yih.1 (yk + 1) (uI (uJ yU 60 (bsI ys yi) (Int64.ofNat 0)) 59 (bsI ys yi) (yU.1 59 (bsI ys yi) + 1)) (updJ ys (bsI ys yi) (Int64.ofNat 0)) (updF yH (bsI ys yi) (yH (bsI ys yi) + 1)) (Int32.ofNat (bsI ys yi)) (Int32.ofNat (yi + 1)) (by omega) (exI_I (exI_J hx)) (fun yj hj => by
            rw [uI_J, uJ_row]
            show _ = (if yj = bsI ys yi then Int64.ofNat 0 else ys yj)
            by_cases yz : yj = bsI ys yi
            · rw [if_pos yz, if_pos yz]
            · rw [if_neg yz, if_neg yz]
              exact h1 yj hj) (fun yj hj => by
            rw [uI_row]
            show _ = (if yj = bsI ys yi then yH (bsI ys yi) + 1 else yH yj)
            by_cases yz : yj = bsI ys yi
            · rw [if_pos yz, if_pos yz, h2 (bsI ys yi) (by omega)]
            · rw [if_neg yz, if_neg yz]
              exact h2 yj hj) (by omega) (fun yj hj => by
            rw [← h4 yj hj, show mm - yk = (mm - (yk + 1)) + 1 from by omega]
            show _ = dst yn (mm - (yk + 1)) (updJ ys (bsI ys (yn - 1)) (Int64.ofNat 0)) (updF yH (bsI ys (yn - 1)) (yH (bsI ys (yn - 1)) + 1)) yj
            rw [← ye])
          rw [on_succ yk] at yh
          exact yh
        · intro yq1 _ _ _ _ yq6
          have sg := lg_sign (yU.2.1 60 (yi + 1)) (yU.2.1 60 (bsI ys yi))
          rw [h1 (yi + 1) (by omega), h1 (bsI ys yi) (by omega)] at sg
          rw [h1 (yi + 1) (by omega), h1 (bsI ys yi) (by omega)] at yq6
          have ye : bsI ys (yi + 1) = bsI ys yi := if_neg (by omega)
          have yh := yih.2 yk yU ys yH (yi + 1) hk hx h1 h2 h3 h4 (by omega)
          rw [ye, on_succ (yi + 1)] at yh
          exact yh
        · intro yq1 _ _ _ _ yq6
          have sg := lg_sign (yU.2.1 60 (yi + 1)) (yU.2.1 60 (bsI ys yi))
          rw [h1 (yi + 1) (by omega), h1 (bsI ys yi) (by omega)] at sg
          rw [h1 (yi + 1) (by omega), h1 (bsI ys yi) (by omega)] at yq6
          have ye : bsI ys (yi + 1) = yi + 1 := if_pos (by omega)
          have yh := yih.2 yk yU ys yH (yi + 1) hk hx h1 h2 h3 h4 (by omega)
          rw [ye, on_succ (yi + 1)] at yh
          exact yh
  exact bx_pr0 ym ((ykey N).1 0 yW yr yG 0 0 (Nat.zero_le _) (exI_refl 59 yW) er eG (by omega) (fun yj hj => by rw [Nat.sub_zero]; exact eF yj hj))
theorem bx_rp0 {N : Nat} {yA : AW} {yQ : Option Value → AW → Prop} (yc yr yt : Int32)
    (l1 : Pa N 77 6 [(0, .ref 47), (1, .int yc), (2, .int yr), (3, .int yt), (4, .long (Int64.ofNat 0)), (6, .int 0)] [] yA yQ) :
    Pa N 77 0 [(0, .ref 47), (1, .int yc), (2, .int yr), (3, .int yt)] [] yA yQ := by
  refine Pa.mp 2 (pc' := 3) (l' := [(4, .long (Int64.ofNat 0)), (0, .ref 47), (1, .int yc), (2, .int yr), (3, .int yt)]) (st' := []) (by rfl) ?_
  refine Pa.ic (x := 0) (pc' := 4) (by rfl) (by rfl) (by decide) ?_
  refine Pa.mp 1 (pc' := 6) (l' := [(6, .int 0), (4, .long (Int64.ofNat 0)), (0, .ref 47), (1, .int yc), (2, .int yr), (3, .int yt)]) (st' := []) (by rfl) ?_
  refine Pa.lv (l' := [(0, .ref 47), (1, .int yc), (2, .int yr), (3, .int yt), (4, .long (Int64.ofNat 0)), (6, .int 0)]) (lvS_c rfl (lvS_c rfl (lvS_c rfl (lvS_c rfl (lvS_c rfl (lvS_c rfl (lvS_nil))))))) rfl ?_
  exact l1

theorem bx_rp1 {N : Nat} {yA : AW} {yQ : Option Value → AW → Prop} (yc yr yt yi : Int32) (ys : Int64)
    (l1 : (yA.1 47 17).toInt ≤ yi.toInt → (lg_cmp ys (Int64.ofNat 1)).toInt < 0 → yQ (some (.int yt)) yA)
    (l2 : (yA.1 47 17).toInt ≤ yi.toInt → 0 ≤ (lg_cmp ys (Int64.ofNat 1)).toInt → 1 ≤ yt.toInt → Pa N 77 88 [(0, .ref 47), (1, .int yc), (2, .int yr), (3, .int yt), (4, .long ys), (6, .int ((l_min yt.toInt64 ys).toInt32)), (7, .int ((l_min yt.toInt64 ys).toInt32)), (8, .int 0), (9, .long (Int64.ofNat 0))] [] yA yQ)
    (l3 : (yA.1 47 17).toInt ≤ yi.toInt → 0 ≤ (lg_cmp ys (Int64.ofNat 1)).toInt → yt.toInt < 1 → yQ (some (.int yt)) yA)
    (l4 : yi.toInt < (yA.1 47 17).toInt → 0 ≤ yi.toInt → yi.toInt < 60 → (yA.1 56 yi.toInt.toNat).toInt ≠ yc.toInt → Pa N 77 6 [(0, .ref 47), (1, .int yc), (2, .int yr), (3, .int yt), (4, .long (ys + (Int64.ofNat 0))), (6, .int (yi + 1))] [] yA yQ)
    (l5 : yi.toInt < (yA.1 47 17).toInt → 0 ≤ yi.toInt → yi.toInt < 60 → (yA.1 56 yi.toInt.toNat).toInt = yc.toInt → (yA.1 58 yi.toInt.toNat).toInt ≠ yr.toInt → Pa N 77 6 [(0, .ref 47), (1, .int yc), (2, .int yr), (3, .int yt), (4, .long (ys + (Int64.ofNat 0))), (6, .int (yi + 1))] [] yA yQ)
    (l6 : yi.toInt < (yA.1 47 17).toInt → 0 ≤ yi.toInt → yi.toInt < 60 → (yA.1 56 yi.toInt.toNat).toInt = yc.toInt → (yA.1 58 yi.toInt.toNat).toInt = yr.toInt → Pa N 77 6 [(0, .ref 47), (1, .int yc), (2, .int yr), (3, .int yt), (4, .long (ys + (((yA.1 57 yi.toInt.toNat) - (yA.1 59 yi.toInt.toNat)).toInt64))), (6, .int (yi + 1))] [] yA yQ) :
    Pa (N + 1) 77 6 [(0, .ref 47), (1, .int yc), (2, .int yr), (3, .int yt), (4, .long ys), (6, .int yi)] [] yA yQ := by
  refine Pa.mp1 1 (pc' := 9) (l' := [(0, .ref 47), (1, .int yc), (2, .int yr), (3, .int yt), (4, .long ys), (6, .int yi)]) (st' := [.ref 47, .int yi]) (by rfl) ?_
  refine Pa.gfI (v := yA.1 47 17) (by rfl) (by rfl) (.inl rfl) (by rfl) (by rfl) ?_
  refine Pa.if2 (a := yi.toInt) (b := (yA.1 47 17).toInt) (t := 57) (by rfl) (by rfl) (rfl) (rfl) (fun h1 => ?_) (fun h2 => ?_)
  · have h1 : (yA.1 47 17).toInt ≤ yi.toInt := h1
    refine Pa.mp 3 (pc' := 61) (l' := [(0, .ref 47), (1, .int yc), (2, .int yr), (3, .int yt), (4, .long ys), (6, .int yi)]) (st' := [.int (lg_cmp ys (Int64.ofNat 1))]) (by rfl) ?_
    refine Pa.if1 (a := (lg_cmp ys (Int64.ofNat 1)).toInt) (t := 69) (by rfl) (by rfl) (rfl) (fun h3 => ?_) (fun h4 => ?_)
    · have h3 : (lg_cmp ys (Int64.ofNat 1)).toInt < 0 := h3
      refine Pa.mp 1 (pc' := 70) (l' := [(0, .ref 47), (1, .int yc), (2, .int yr), (3, .int yt), (4, .long ys), (6, .int yi)]) (st' := [.int yt]) (by rfl) ?_
      refine Pa.iret (by rfl) ?_
      exact l1 h1 h3
    · have h4 : 0 ≤ (lg_cmp ys (Int64.ofNat 1)).toInt := h4
      refine Pa.mp 1 (pc' := 65) (l' := [(0, .ref 47), (1, .int yc), (2, .int yr), (3, .int yt), (4, .long ys), (6, .int yi)]) (st' := [.int yt]) (by rfl) ?_
      refine Pa.ic (x := 1) (pc' := 66) (by rfl) (by rfl) (by decide) ?_
      refine Pa.if2 (a := yt.toInt) (b := 1) (t := 71) (by rfl) (by rfl) (rfl) (by decide) (fun h5 => ?_) (fun h6 => ?_)
      · have h5 : 1 ≤ yt.toInt := h5
        refine Pa.mp 3 (pc' := 75) (l' := [(0, .ref 47), (1, .int yc), (2, .int yr), (3, .int yt), (4, .long ys), (6, .int yi)]) (st' := [.long ys, .long yt.toInt64]) (by rfl) ?_
        refine Pa.mth (by rfl) (by rfl) (by rfl) mm_lmin ?_
        refine Pa.mp 4 (pc' := 85) (l' := [(7, .int ((l_min yt.toInt64 ys).toInt32)), (6, .int ((l_min yt.toInt64 ys).toInt32)), (0, .ref 47), (1, .int yc), (2, .int yr), (3, .int yt), (4, .long ys)]) (st' := []) (by rfl) ?_
        refine Pa.ic (x := 0) (pc' := 86) (by rfl) (by rfl) (by decide) ?_
        refine Pa.mp 1 (pc' := 88) (l' := [(8, .int 0), (7, .int ((l_min yt.toInt64 ys).toInt32)), (6, .int ((l_min yt.toInt64 ys).toInt32)), (0, .ref 47), (1, .int yc), (2, .int yr), (3, .int yt), (4, .long ys)]) (st' := []) (by rfl) ?_
        refine Pa.lv (l' := [(0, .ref 47), (1, .int yc), (2, .int yr), (3, .int yt), (4, .long ys), (6, .int ((l_min yt.toInt64 ys).toInt32)), (7, .int ((l_min yt.toInt64 ys).toInt32)), (8, .int 0), (9, .long (Int64.ofNat 0))]) (lvS_c rfl (lvS_c rfl (lvS_c rfl (lvS_c rfl (lvS_c rfl (lvS_c rfl (lvS_c rfl (lvS_c rfl (lvS_nil))))))))) rfl ?_
        exact l2 h1 h4 h5
      · have h6 : yt.toInt < 1 := h6
        refine Pa.mp 1 (pc' := 70) (l' := [(0, .ref 47), (1, .int yc), (2, .int yr), (3, .int yt), (4, .long ys), (6, .int yi)]) (st' := [.int yt]) (by rfl) ?_
        refine Pa.iret (by rfl) ?_
        exact l3 h1 h4 h6
  · have h2 : yi.toInt < (yA.1 47 17).toInt := h2
    refine Pa.mp 5 (pc' := 22) (l' := [(0, .ref 47), (1, .int yc), (2, .int yr), (3, .int yt), (4, .long ys), (6, .int yi)]) (st' := [.int yr, .int yc, .int yi, .ref 47, .long ys]) (by rfl) ?_
    refine Pa.inv (by rfl) (by rfl) (.inl rfl) (by rfl) ?_
    show Pa N 76 0 [(0, .ref 47), (1, .int yi), (2, .int yc), (3, .int yr)] [] yA _
    refine Pa.mp 1 (pc' := 1) (l' := [(0, .ref 47), (1, .int yi), (2, .int yc), (3, .int yr)]) (st' := [.ref 47]) (by rfl) ?_
    refine Pa.gfR (by rfl) (by rfl) (.inl rfl) (by rfl) ?_
    show Pa N 76 4 [(0, .ref 47), (1, .int yi), (2, .int yc), (3, .int yr)] [.ref 56] yA _
    refine Pa.mp 1 (pc' := 5) (l' := [(0, .ref 47), (1, .int yi), (2, .int yc), (3, .int yr)]) (st' := [.int yi, .ref 56]) (by rfl) ?_
    refine Pa.alds (v := yA.1 56 yi.toInt.toNat) (by rfl) (by rfl) (by rfl) (fun h7 h8 => ?_)
    have h7 : 0 ≤ yi.toInt := h7
    have h8 : yi.toInt < 60 := h8
    refine Pa.mp 1 (pc' := 7) (l' := [(0, .ref 47), (1, .int yi), (2, .int yc), (3, .int yr)]) (st' := [.int yc, .int (yA.1 56 yi.toInt.toNat)]) (by rfl) ?_
    refine Pa.if2 (a := (yA.1 56 yi.toInt.toNat).toInt) (b := yc.toInt) (t := 24) (by rfl) (by rfl) (rfl) (rfl) (fun h9 => ?_) (fun h10 => ?_)
    · have h9 : (yA.1 56 yi.toInt.toNat).toInt ≠ yc.toInt := h9
      refine Pa.ic (x := 0) (pc' := 25) (by rfl) (by rfl) (by decide) ?_
      refine Pa.iret (by rfl) ?_
      show Pa N 77 25 [(0, .ref 47), (1, .int yc), (2, .int yr), (3, .int yt), (4, .long ys), (6, .int yi)] [.int 0, .long ys] yA _
      refine Pa.if1k true (by rfl) (by rfl) (by decide) ?_
      show Pa N 77 47 [(0, .ref 47), (1, .int yc), (2, .int yr), (3, .int yt), (4, .long ys), (6, .int yi)] [.long ys] yA _
      refine Pa.mp 3 (pc' := 51) (l' := [(4, .long (ys + (Int64.ofNat 0))), (0, .ref 47), (1, .int yc), (2, .int yr), (3, .int yt), (6, .int yi)]) (st' := []) (by rfl) ?_
      refine Pa.iinc (x := yi) (c := 1) (v := (yi + 1)) (l' := [(6, .int (yi + 1)), (4, .long (ys + (Int64.ofNat 0))), (0, .ref 47), (1, .int yc), (2, .int yr), (3, .int yt)]) (by rfl) (by rfl) (by decide) (by rfl) (by rfl) ?_
      refine Pa.mp 1 (pc' := 6) (l' := [(6, .int (yi + 1)), (4, .long (ys + (Int64.ofNat 0))), (0, .ref 47), (1, .int yc), (2, .int yr), (3, .int yt)]) (st' := []) (by rfl) ?_
      refine Pa.lv (l' := [(0, .ref 47), (1, .int yc), (2, .int yr), (3, .int yt), (4, .long (ys + (Int64.ofNat 0))), (6, .int (yi + 1))]) (lvS_c rfl (lvS_c rfl (lvS_c rfl (lvS_c rfl (lvS_c rfl (lvS_c rfl (lvS_nil))))))) rfl ?_
      exact l4 h2 h7 h8 h9
    · have h10 : (yA.1 56 yi.toInt.toNat).toInt = yc.toInt := h10
      refine Pa.mp 1 (pc' := 11) (l' := [(0, .ref 47), (1, .int yi), (2, .int yc), (3, .int yr)]) (st' := [.ref 47]) (by rfl) ?_
      refine Pa.gfR (by rfl) (by rfl) (.inl rfl) (by rfl) ?_
      show Pa N 76 14 [(0, .ref 47), (1, .int yi), (2, .int yc), (3, .int yr)] [.ref 58] yA _
      refine Pa.mp 1 (pc' := 15) (l' := [(0, .ref 47), (1, .int yi), (2, .int yc), (3, .int yr)]) (st' := [.int yi, .ref 58]) (by rfl) ?_
      refine Pa.alds (v := yA.1 58 yi.toInt.toNat) (by rfl) (by rfl) (by rfl) (fun h11 h12 => ?_)
      have h11 : 0 ≤ yi.toInt := h11
      have h12 : yi.toInt < 60 := h12
      refine Pa.mp 1 (pc' := 17) (l' := [(0, .ref 47), (1, .int yi), (2, .int yc), (3, .int yr)]) (st' := [.int yr, .int (yA.1 58 yi.toInt.toNat)]) (by rfl) ?_
      refine Pa.if2 (a := (yA.1 58 yi.toInt.toNat).toInt) (b := yr.toInt) (t := 24) (by rfl) (by rfl) (rfl) (rfl) (fun h13 => ?_) (fun h14 => ?_)
      · have h13 : (yA.1 58 yi.toInt.toNat).toInt ≠ yr.toInt := h13
        refine Pa.ic (x := 0) (pc' := 25) (by rfl) (by rfl) (by decide) ?_
        refine Pa.iret (by rfl) ?_
        show Pa N 77 25 [(0, .ref 47), (1, .int yc), (2, .int yr), (3, .int yt), (4, .long ys), (6, .int yi)] [.int 0, .long ys] yA _
        refine Pa.if1k true (by rfl) (by rfl) (by decide) ?_
        show Pa N 77 47 [(0, .ref 47), (1, .int yc), (2, .int yr), (3, .int yt), (4, .long ys), (6, .int yi)] [.long ys] yA _
        refine Pa.mp 3 (pc' := 51) (l' := [(4, .long (ys + (Int64.ofNat 0))), (0, .ref 47), (1, .int yc), (2, .int yr), (3, .int yt), (6, .int yi)]) (st' := []) (by rfl) ?_
        refine Pa.iinc (x := yi) (c := 1) (v := (yi + 1)) (l' := [(6, .int (yi + 1)), (4, .long (ys + (Int64.ofNat 0))), (0, .ref 47), (1, .int yc), (2, .int yr), (3, .int yt)]) (by rfl) (by rfl) (by decide) (by rfl) (by rfl) ?_
        refine Pa.mp 1 (pc' := 6) (l' := [(6, .int (yi + 1)), (4, .long (ys + (Int64.ofNat 0))), (0, .ref 47), (1, .int yc), (2, .int yr), (3, .int yt)]) (st' := []) (by rfl) ?_
        refine Pa.lv (l' := [(0, .ref 47), (1, .int yc), (2, .int yr), (3, .int yt), (4, .long (ys + (Int64.ofNat 0))), (6, .int (yi + 1))]) (lvS_c rfl (lvS_c rfl (lvS_c rfl (lvS_c rfl (lvS_c rfl (lvS_c rfl (lvS_nil))))))) rfl ?_
        exact l5 h2 h7 h8 h10 h13
      · have h14 : (yA.1 58 yi.toInt.toNat).toInt = yr.toInt := h14
        refine Pa.ic (x := 1) (pc' := 21) (by rfl) (by rfl) (by decide) ?_
        refine Pa.mp 1 (pc' := 25) (l' := [(0, .ref 47), (1, .int yi), (2, .int yc), (3, .int yr)]) (st' := [.int 1]) (by rfl) ?_
        refine Pa.iret (by rfl) ?_
        show Pa N 77 25 [(0, .ref 47), (1, .int yc), (2, .int yr), (3, .int yt), (4, .long ys), (6, .int yi)] [.int 1, .long ys] yA _
        refine Pa.if1k false (by rfl) (by rfl) (by decide) ?_
        show Pa N 77 28 [(0, .ref 47), (1, .int yc), (2, .int yr), (3, .int yt), (4, .long ys), (6, .int yi)] [.long ys] yA _
        refine Pa.mp 1 (pc' := 29) (l' := [(0, .ref 47), (1, .int yc), (2, .int yr), (3, .int yt), (4, .long ys), (6, .int yi)]) (st' := [.ref 47, .long ys]) (by rfl) ?_
        refine Pa.gfR (by rfl) (by rfl) (.inl rfl) (by rfl) ?_
        show Pa N 77 32 [(0, .ref 47), (1, .int yc), (2, .int yr), (3, .int yt), (4, .long ys), (6, .int yi)] [.ref 57, .long ys] yA _
        refine Pa.mp 1 (pc' := 34) (l' := [(0, .ref 47), (1, .int yc), (2, .int yr), (3, .int yt), (4, .long ys), (6, .int yi)]) (st' := [.int yi, .ref 57, .long ys]) (by rfl) ?_
        refine Pa.alds (v := yA.1 57 yi.toInt.toNat) (by rfl) (by rfl) (by rfl) (fun h15 yh16 => ?_)
        have h15 : 0 ≤ yi.toInt := h15
        have yh16 : yi.toInt < 60 := yh16
        refine Pa.mp 1 (pc' := 36) (l' := [(0, .ref 47), (1, .int yc), (2, .int yr), (3, .int yt), (4, .long ys), (6, .int yi)]) (st' := [.ref 47, .int (yA.1 57 yi.toInt.toNat), .long ys]) (by rfl) ?_
        refine Pa.gfR (by rfl) (by rfl) (.inl rfl) (by rfl) ?_
        show Pa N 77 39 [(0, .ref 47), (1, .int yc), (2, .int yr), (3, .int yt), (4, .long ys), (6, .int yi)] [.ref 59, .int (yA.1 57 yi.toInt.toNat), .long ys] yA _
        refine Pa.mp 1 (pc' := 41) (l' := [(0, .ref 47), (1, .int yc), (2, .int yr), (3, .int yt), (4, .long ys), (6, .int yi)]) (st' := [.int yi, .ref 59, .int (yA.1 57 yi.toInt.toNat), .long ys]) (by rfl) ?_
        refine Pa.alds (v := yA.1 59 yi.toInt.toNat) (by rfl) (by rfl) (by rfl) (fun h17 h18 => ?_)
        have h17 : 0 ≤ yi.toInt := h17
        have h18 : yi.toInt < 60 := h18
        refine Pa.mp 5 (pc' := 51) (l' := [(4, .long (ys + (((yA.1 57 yi.toInt.toNat) - (yA.1 59 yi.toInt.toNat)).toInt64))), (0, .ref 47), (1, .int yc), (2, .int yr), (3, .int yt), (6, .int yi)]) (st' := []) (by rfl) ?_
        refine Pa.iinc (x := yi) (c := 1) (v := (yi + 1)) (l' := [(6, .int (yi + 1)), (4, .long (ys + (((yA.1 57 yi.toInt.toNat) - (yA.1 59 yi.toInt.toNat)).toInt64))), (0, .ref 47), (1, .int yc), (2, .int yr), (3, .int yt)]) (by rfl) (by rfl) (by decide) (by rfl) (by rfl) ?_
        refine Pa.mp 1 (pc' := 6) (l' := [(6, .int (yi + 1)), (4, .long (ys + (((yA.1 57 yi.toInt.toNat) - (yA.1 59 yi.toInt.toNat)).toInt64))), (0, .ref 47), (1, .int yc), (2, .int yr), (3, .int yt)]) (st' := []) (by rfl) ?_
        refine Pa.lv (l' := [(0, .ref 47), (1, .int yc), (2, .int yr), (3, .int yt), (4, .long (ys + (((yA.1 57 yi.toInt.toNat) - (yA.1 59 yi.toInt.toNat)).toInt64))), (6, .int (yi + 1))]) (lvS_c rfl (lvS_c rfl (lvS_c rfl (lvS_c rfl (lvS_c rfl (lvS_c rfl (lvS_nil))))))) rfl ?_
        exact l6 h2 h7 h8 h10 h14

theorem bx_rp2 {N : Nat} {yA : AW} {yQ : Option Value → AW → Prop} (yc yr yt yw ym yi : Int32) (ys yz : Int64)
    (l1 : (yA.1 47 17).toInt ≤ yi.toInt → Pa N 78 0 [(0, .ref 47), (1, .int ym)] [] yA (fun yu A1 => Pa N 77 189 [(0, .ref 47), (1, .int yc), (2, .int yr), (3, .int yt), (4, .long ys), (6, .int yw), (7, .int ym), (8, .int yi), (9, .long yz)] (yu.toList ++ []) A1 yQ))
    (l2 : yi.toInt < (yA.1 47 17).toInt → 0 ≤ yi.toInt → yi.toInt < 60 → (yA.1 56 yi.toInt.toNat).toInt ≠ yc.toInt → Pa N 77 88 [(0, .ref 47), (1, .int yc), (2, .int yr), (3, .int yt), (4, .long ys), (6, .int yw), (7, .int ym), (8, .int (yi + 1)), (9, .long yz)] [] (uJ yA 60 yi.toInt.toNat (Int64.ofNat 0)) yQ)
    (l3 : yi.toInt < (yA.1 47 17).toInt → 0 ≤ yi.toInt → yi.toInt < 60 → (yA.1 56 yi.toInt.toNat).toInt = yc.toInt → (yA.1 58 yi.toInt.toNat).toInt ≠ yr.toInt → Pa N 77 88 [(0, .ref 47), (1, .int yc), (2, .int yr), (3, .int yt), (4, .long ys), (6, .int yw), (7, .int ym), (8, .int (yi + 1)), (9, .long yz)] [] (uJ yA 60 yi.toInt.toNat (Int64.ofNat 0)) yQ)
    (l4 : yi.toInt < (yA.1 47 17).toInt → 0 ≤ yi.toInt → yi.toInt < 60 → (yA.1 56 yi.toInt.toNat).toInt = yc.toInt → (yA.1 58 yi.toInt.toNat).toInt = yr.toInt → Pa N 77 88 [(0, .ref 47), (1, .int yc), (2, .int yr), (3, .int yt), (4, .long ys), (6, .int yw), (7, .int (ym - ((((((yA.1 57 yi.toInt.toNat) - (yA.1 59 yi.toInt.toNat)).toInt64) * yw.toInt64) / ys).toInt32))), (8, .int (yi + 1)), (9, .long ((((yA.1 57 yi.toInt.toNat) - (yA.1 59 yi.toInt.toNat)).toInt64) * yw.toInt64))] [] (uI (uJ (uJ yA 60 yi.toInt.toNat (Int64.ofNat 0)) 60 yi.toInt.toNat (((((yA.1 57 yi.toInt.toNat) - (yA.1 59 yi.toInt.toNat)).toInt64) * yw.toInt64) - ((((yA.1 57 yi.toInt.toNat) - (yA.1 59 yi.toInt.toNat)).toInt64) * yw.toInt64) / ys * ys)) 59 yi.toInt.toNat ((yA.1 59 yi.toInt.toNat) + ((((((yA.1 57 yi.toInt.toNat) - (yA.1 59 yi.toInt.toNat)).toInt64) * yw.toInt64) / ys).toInt32))) yQ) :
    Pa (N + 1) 77 88 [(0, .ref 47), (1, .int yc), (2, .int yr), (3, .int yt), (4, .long ys), (6, .int yw), (7, .int ym), (8, .int yi), (9, .long yz)] [] yA yQ := by
  refine Pa.mp1 1 (pc' := 91) (l' := [(0, .ref 47), (1, .int yc), (2, .int yr), (3, .int yt), (4, .long ys), (6, .int yw), (7, .int ym), (8, .int yi), (9, .long yz)]) (st' := [.ref 47, .int yi]) (by rfl) ?_
  refine Pa.gfI (v := yA.1 47 17) (by rfl) (by rfl) (.inl rfl) (by rfl) (by rfl) ?_
  refine Pa.if2 (a := yi.toInt) (b := (yA.1 47 17).toInt) (t := 183) (by rfl) (by rfl) (rfl) (rfl) (fun h1 => ?_) (fun h2 => ?_)
  · have h1 : (yA.1 47 17).toInt ≤ yi.toInt := h1
    refine Pa.mp 2 (pc' := 186) (l' := [(0, .ref 47), (1, .int yc), (2, .int yr), (3, .int yt), (4, .long ys), (6, .int yw), (7, .int ym), (8, .int yi), (9, .long yz)]) (st' := [.int ym, .ref 47]) (by rfl) ?_
    refine Pa.inv (by rfl) (by rfl) (.inl rfl) (by rfl) ?_
    exact l1 h1
  · have h2 : yi.toInt < (yA.1 47 17).toInt := h2
    refine Pa.mp 1 (pc' := 98) (l' := [(0, .ref 47), (1, .int yc), (2, .int yr), (3, .int yt), (4, .long ys), (6, .int yw), (7, .int ym), (8, .int yi), (9, .long yz)]) (st' := [.ref 47]) (by rfl) ?_
    refine Pa.gfR (by rfl) (by rfl) (.inl rfl) (by rfl) ?_
    show Pa N 77 101 [(0, .ref 47), (1, .int yc), (2, .int yr), (3, .int yt), (4, .long ys), (6, .int yw), (7, .int ym), (8, .int yi), (9, .long yz)] [.ref 60] yA _
    refine Pa.mp 2 (pc' := 104) (l' := [(0, .ref 47), (1, .int yc), (2, .int yr), (3, .int yt), (4, .long ys), (6, .int yw), (7, .int ym), (8, .int yi), (9, .long yz)]) (st' := [.long (Int64.ofNat 0), .int yi, .ref 60]) (by rfl) ?_
    refine Pa.jsts (j' := yi.toInt.toNat) (by rfl) (by rfl) (by rfl) (fun h3 h4 => ?_)
    have h3 : 0 ≤ yi.toInt := h3
    have h4 : yi.toInt < 60 := h4
    show Pa N 77 105 [(0, .ref 47), (1, .int yc), (2, .int yr), (3, .int yt), (4, .long ys), (6, .int yw), (7, .int ym), (8, .int yi), (9, .long yz)] [] (uJ yA 60 yi.toInt.toNat (Int64.ofNat 0)) _
    refine Pa.mp 4 (pc' := 110) (l' := [(0, .ref 47), (1, .int yc), (2, .int yr), (3, .int yt), (4, .long ys), (6, .int yw), (7, .int ym), (8, .int yi), (9, .long yz)]) (st' := [.int yr, .int yc, .int yi, .ref 47]) (by rfl) ?_
    refine Pa.inv (by rfl) (by rfl) (.inl rfl) (by rfl) ?_
    show Pa N 76 0 [(0, .ref 47), (1, .int yi), (2, .int yc), (3, .int yr)] [] (uJ yA 60 yi.toInt.toNat (Int64.ofNat 0)) _
    refine Pa.mp 1 (pc' := 1) (l' := [(0, .ref 47), (1, .int yi), (2, .int yc), (3, .int yr)]) (st' := [.ref 47]) (by rfl) ?_
    refine Pa.gfR (by rfl) (by rfl) (.inl rfl) (by rfl) ?_
    show Pa N 76 4 [(0, .ref 47), (1, .int yi), (2, .int yc), (3, .int yr)] [.ref 56] (uJ yA 60 yi.toInt.toNat (Int64.ofNat 0)) _
    refine Pa.mp 1 (pc' := 5) (l' := [(0, .ref 47), (1, .int yi), (2, .int yc), (3, .int yr)]) (st' := [.int yi, .ref 56]) (by rfl) ?_
    refine Pa.alds (v := yA.1 56 yi.toInt.toNat) (by rfl) (by rfl) (by show (uJ yA 60 yi.toInt.toNat (Int64.ofNat 0)).1 56 yi.toInt.toNat = yA.1 56 yi.toInt.toNat; rw [uJ_I]) (fun h5 h6 => ?_)
    have h5 : 0 ≤ yi.toInt := h5
    have h6 : yi.toInt < 60 := h6
    refine Pa.mp 1 (pc' := 7) (l' := [(0, .ref 47), (1, .int yi), (2, .int yc), (3, .int yr)]) (st' := [.int yc, .int (yA.1 56 yi.toInt.toNat)]) (by rfl) ?_
    refine Pa.if2 (a := (yA.1 56 yi.toInt.toNat).toInt) (b := yc.toInt) (t := 24) (by rfl) (by rfl) (rfl) (rfl) (fun h7 => ?_) (fun h8 => ?_)
    · have h7 : (yA.1 56 yi.toInt.toNat).toInt ≠ yc.toInt := h7
      refine Pa.ic (x := 0) (pc' := 25) (by rfl) (by rfl) (by decide) ?_
      refine Pa.iret (by rfl) ?_
      show Pa N 77 113 [(0, .ref 47), (1, .int yc), (2, .int yr), (3, .int yt), (4, .long ys), (6, .int yw), (7, .int ym), (8, .int yi), (9, .long yz)] [.int 0] (uJ yA 60 yi.toInt.toNat (Int64.ofNat 0)) _
      refine Pa.if1k true (by rfl) (by rfl) (by decide) ?_
      show Pa N 77 177 [(0, .ref 47), (1, .int yc), (2, .int yr), (3, .int yt), (4, .long ys), (6, .int yw), (7, .int ym), (8, .int yi), (9, .long yz)] [] (uJ yA 60 yi.toInt.toNat (Int64.ofNat 0)) _
      refine Pa.iinc (x := yi) (c := 1) (v := (yi + 1)) (l' := [(8, .int (yi + 1)), (0, .ref 47), (1, .int yc), (2, .int yr), (3, .int yt), (4, .long ys), (6, .int yw), (7, .int ym), (9, .long yz)]) (by rfl) (by rfl) (by decide) (by rfl) (by rfl) ?_
      refine Pa.mp 1 (pc' := 88) (l' := [(8, .int (yi + 1)), (0, .ref 47), (1, .int yc), (2, .int yr), (3, .int yt), (4, .long ys), (6, .int yw), (7, .int ym), (9, .long yz)]) (st' := []) (by rfl) ?_
      refine Pa.lv (l' := [(0, .ref 47), (1, .int yc), (2, .int yr), (3, .int yt), (4, .long ys), (6, .int yw), (7, .int ym), (8, .int (yi + 1)), (9, .long yz)]) (lvS_c rfl (lvS_c rfl (lvS_c rfl (lvS_c rfl (lvS_c rfl (lvS_c rfl (lvS_c rfl (lvS_c rfl (lvS_c rfl (lvS_nil)))))))))) rfl ?_
      exact l2 h2 h3 h4 h7
    · have h8 : (yA.1 56 yi.toInt.toNat).toInt = yc.toInt := h8
      refine Pa.mp 1 (pc' := 11) (l' := [(0, .ref 47), (1, .int yi), (2, .int yc), (3, .int yr)]) (st' := [.ref 47]) (by rfl) ?_
      refine Pa.gfR (by rfl) (by rfl) (.inl rfl) (by rfl) ?_
      show Pa N 76 14 [(0, .ref 47), (1, .int yi), (2, .int yc), (3, .int yr)] [.ref 58] (uJ yA 60 yi.toInt.toNat (Int64.ofNat 0)) _
      refine Pa.mp 1 (pc' := 15) (l' := [(0, .ref 47), (1, .int yi), (2, .int yc), (3, .int yr)]) (st' := [.int yi, .ref 58]) (by rfl) ?_
      refine Pa.alds (v := yA.1 58 yi.toInt.toNat) (by rfl) (by rfl) (by show (uJ yA 60 yi.toInt.toNat (Int64.ofNat 0)).1 58 yi.toInt.toNat = yA.1 58 yi.toInt.toNat; rw [uJ_I]) (fun h9 h10 => ?_)
      have h9 : 0 ≤ yi.toInt := h9
      have h10 : yi.toInt < 60 := h10
      refine Pa.mp 1 (pc' := 17) (l' := [(0, .ref 47), (1, .int yi), (2, .int yc), (3, .int yr)]) (st' := [.int yr, .int (yA.1 58 yi.toInt.toNat)]) (by rfl) ?_
      refine Pa.if2 (a := (yA.1 58 yi.toInt.toNat).toInt) (b := yr.toInt) (t := 24) (by rfl) (by rfl) (rfl) (rfl) (fun h11 => ?_) (fun h12 => ?_)
      · have h11 : (yA.1 58 yi.toInt.toNat).toInt ≠ yr.toInt := h11
        refine Pa.ic (x := 0) (pc' := 25) (by rfl) (by rfl) (by decide) ?_
        refine Pa.iret (by rfl) ?_
        show Pa N 77 113 [(0, .ref 47), (1, .int yc), (2, .int yr), (3, .int yt), (4, .long ys), (6, .int yw), (7, .int ym), (8, .int yi), (9, .long yz)] [.int 0] (uJ yA 60 yi.toInt.toNat (Int64.ofNat 0)) _
        refine Pa.if1k true (by rfl) (by rfl) (by decide) ?_
        show Pa N 77 177 [(0, .ref 47), (1, .int yc), (2, .int yr), (3, .int yt), (4, .long ys), (6, .int yw), (7, .int ym), (8, .int yi), (9, .long yz)] [] (uJ yA 60 yi.toInt.toNat (Int64.ofNat 0)) _
        refine Pa.iinc (x := yi) (c := 1) (v := (yi + 1)) (l' := [(8, .int (yi + 1)), (0, .ref 47), (1, .int yc), (2, .int yr), (3, .int yt), (4, .long ys), (6, .int yw), (7, .int ym), (9, .long yz)]) (by rfl) (by rfl) (by decide) (by rfl) (by rfl) ?_
        refine Pa.mp 1 (pc' := 88) (l' := [(8, .int (yi + 1)), (0, .ref 47), (1, .int yc), (2, .int yr), (3, .int yt), (4, .long ys), (6, .int yw), (7, .int ym), (9, .long yz)]) (st' := []) (by rfl) ?_
        refine Pa.lv (l' := [(0, .ref 47), (1, .int yc), (2, .int yr), (3, .int yt), (4, .long ys), (6, .int yw), (7, .int ym), (8, .int (yi + 1)), (9, .long yz)]) (lvS_c rfl (lvS_c rfl (lvS_c rfl (lvS_c rfl (lvS_c rfl (lvS_c rfl (lvS_c rfl (lvS_c rfl (lvS_c rfl (lvS_nil)))))))))) rfl ?_
        exact l3 h2 h3 h4 h8 h11
      · have h12 : (yA.1 58 yi.toInt.toNat).toInt = yr.toInt := h12
        refine Pa.ic (x := 1) (pc' := 21) (by rfl) (by rfl) (by decide) ?_
        refine Pa.mp 1 (pc' := 25) (l' := [(0, .ref 47), (1, .int yi), (2, .int yc), (3, .int yr)]) (st' := [.int 1]) (by rfl) ?_
        refine Pa.iret (by rfl) ?_
        show Pa N 77 113 [(0, .ref 47), (1, .int yc), (2, .int yr), (3, .int yt), (4, .long ys), (6, .int yw), (7, .int ym), (8, .int yi), (9, .long yz)] [.int 1] (uJ yA 60 yi.toInt.toNat (Int64.ofNat 0)) _
        refine Pa.if1k false (by rfl) (by rfl) (by decide) ?_
        show Pa N 77 116 [(0, .ref 47), (1, .int yc), (2, .int yr), (3, .int yt), (4, .long ys), (6, .int yw), (7, .int ym), (8, .int yi), (9, .long yz)] [] (uJ yA 60 yi.toInt.toNat (Int64.ofNat 0)) _
        refine Pa.mp 1 (pc' := 117) (l' := [(0, .ref 47), (1, .int yc), (2, .int yr), (3, .int yt), (4, .long ys), (6, .int yw), (7, .int ym), (8, .int yi), (9, .long yz)]) (st' := [.ref 47]) (by rfl) ?_
        refine Pa.gfR (by rfl) (by rfl) (.inl rfl) (by rfl) ?_
        show Pa N 77 120 [(0, .ref 47), (1, .int yc), (2, .int yr), (3, .int yt), (4, .long ys), (6, .int yw), (7, .int ym), (8, .int yi), (9, .long yz)] [.ref 57] (uJ yA 60 yi.toInt.toNat (Int64.ofNat 0)) _
        refine Pa.mp 1 (pc' := 122) (l' := [(0, .ref 47), (1, .int yc), (2, .int yr), (3, .int yt), (4, .long ys), (6, .int yw), (7, .int ym), (8, .int yi), (9, .long yz)]) (st' := [.int yi, .ref 57]) (by rfl) ?_
        refine Pa.alds (v := yA.1 57 yi.toInt.toNat) (by rfl) (by rfl) (by show (uJ yA 60 yi.toInt.toNat (Int64.ofNat 0)).1 57 yi.toInt.toNat = yA.1 57 yi.toInt.toNat; rw [uJ_I]) (fun h13 h14 => ?_)
        have h13 : 0 ≤ yi.toInt := h13
        have h14 : yi.toInt < 60 := h14
        refine Pa.mp 1 (pc' := 124) (l' := [(0, .ref 47), (1, .int yc), (2, .int yr), (3, .int yt), (4, .long ys), (6, .int yw), (7, .int ym), (8, .int yi), (9, .long yz)]) (st' := [.ref 47, .int (yA.1 57 yi.toInt.toNat)]) (by rfl) ?_
        refine Pa.gfR (by rfl) (by rfl) (.inl rfl) (by rfl) ?_
        show Pa N 77 127 [(0, .ref 47), (1, .int yc), (2, .int yr), (3, .int yt), (4, .long ys), (6, .int yw), (7, .int ym), (8, .int yi), (9, .long yz)] [.ref 59, .int (yA.1 57 yi.toInt.toNat)] (uJ yA 60 yi.toInt.toNat (Int64.ofNat 0)) _
        refine Pa.mp 1 (pc' := 129) (l' := [(0, .ref 47), (1, .int yc), (2, .int yr), (3, .int yt), (4, .long ys), (6, .int yw), (7, .int ym), (8, .int yi), (9, .long yz)]) (st' := [.int yi, .ref 59, .int (yA.1 57 yi.toInt.toNat)]) (by rfl) ?_
        refine Pa.alds (v := yA.1 59 yi.toInt.toNat) (by rfl) (by rfl) (by show (uJ yA 60 yi.toInt.toNat (Int64.ofNat 0)).1 59 yi.toInt.toNat = yA.1 59 yi.toInt.toNat; rw [uJ_I]) (fun h15 yh16 => ?_)
        have h15 : 0 ≤ yi.toInt := h15
        have yh16 : yi.toInt < 60 := yh16
        refine Pa.mp 7 (pc' := 139) (l' := [(9, .long ((((yA.1 57 yi.toInt.toNat) - (yA.1 59 yi.toInt.toNat)).toInt64) * yw.toInt64)), (0, .ref 47), (1, .int yc), (2, .int yr), (3, .int yt), (4, .long ys), (6, .int yw), (7, .int ym), (8, .int yi)]) (st' := [.ref 47]) (by rfl) ?_
        refine Pa.gfR (by rfl) (by rfl) (.inl rfl) (by rfl) ?_
        show Pa N 77 142 [(9, .long ((((yA.1 57 yi.toInt.toNat) - (yA.1 59 yi.toInt.toNat)).toInt64) * yw.toInt64)), (0, .ref 47), (1, .int yc), (2, .int yr), (3, .int yt), (4, .long ys), (6, .int yw), (7, .int ym), (8, .int yi)] [.ref 60] (uJ yA 60 yi.toInt.toNat (Int64.ofNat 0)) _
        refine Pa.mp 3 (pc' := 148) (l' := [(9, .long ((((yA.1 57 yi.toInt.toNat) - (yA.1 59 yi.toInt.toNat)).toInt64) * yw.toInt64)), (0, .ref 47), (1, .int yc), (2, .int yr), (3, .int yt), (4, .long ys), (6, .int yw), (7, .int ym), (8, .int yi)]) (st' := [.long ys, .long ((((yA.1 57 yi.toInt.toNat) - (yA.1 59 yi.toInt.toNat)).toInt64) * yw.toInt64), .int yi, .ref 60]) (by rfl) ?_
        refine Pa.lrem (by rfl) ?_
        refine Pa.jsts (j' := yi.toInt.toNat) (by rfl) (by rfl) (by rfl) (fun h17 h18 => ?_)
        have h17 : 0 ≤ yi.toInt := h17
        have h18 : yi.toInt < 60 := h18
        show Pa N 77 150 [(9, .long ((((yA.1 57 yi.toInt.toNat) - (yA.1 59 yi.toInt.toNat)).toInt64) * yw.toInt64)), (0, .ref 47), (1, .int yc), (2, .int yr), (3, .int yt), (4, .long ys), (6, .int yw), (7, .int ym), (8, .int yi)] [] (uJ (uJ yA 60 yi.toInt.toNat (Int64.ofNat 0)) 60 yi.toInt.toNat (((((yA.1 57 yi.toInt.toNat) - (yA.1 59 yi.toInt.toNat)).toInt64) * yw.toInt64) - ((((yA.1 57 yi.toInt.toNat) - (yA.1 59 yi.toInt.toNat)).toInt64) * yw.toInt64) / ys * ys)) _
        refine Pa.mp 1 (pc' := 151) (l' := [(9, .long ((((yA.1 57 yi.toInt.toNat) - (yA.1 59 yi.toInt.toNat)).toInt64) * yw.toInt64)), (0, .ref 47), (1, .int yc), (2, .int yr), (3, .int yt), (4, .long ys), (6, .int yw), (7, .int ym), (8, .int yi)]) (st' := [.ref 47]) (by rfl) ?_
        refine Pa.gfR (by rfl) (by rfl) (.inl rfl) (by rfl) ?_
        show Pa N 77 154 [(9, .long ((((yA.1 57 yi.toInt.toNat) - (yA.1 59 yi.toInt.toNat)).toInt64) * yw.toInt64)), (0, .ref 47), (1, .int yc), (2, .int yr), (3, .int yt), (4, .long ys), (6, .int yw), (7, .int ym), (8, .int yi)] [.ref 59] (uJ (uJ yA 60 yi.toInt.toNat (Int64.ofNat 0)) 60 yi.toInt.toNat (((((yA.1 57 yi.toInt.toNat) - (yA.1 59 yi.toInt.toNat)).toInt64) * yw.toInt64) - ((((yA.1 57 yi.toInt.toNat) - (yA.1 59 yi.toInt.toNat)).toInt64) * yw.toInt64) / ys * ys)) _
        refine Pa.mp 2 (pc' := 157) (l' := [(9, .long ((((yA.1 57 yi.toInt.toNat) - (yA.1 59 yi.toInt.toNat)).toInt64) * yw.toInt64)), (0, .ref 47), (1, .int yc), (2, .int yr), (3, .int yt), (4, .long ys), (6, .int yw), (7, .int ym), (8, .int yi)]) (st' := [.int yi, .ref 59, .int yi, .ref 59]) (by rfl) ?_
        refine Pa.alds (v := yA.1 59 yi.toInt.toNat) (by rfl) (by rfl) (by show (uJ (uJ yA 60 yi.toInt.toNat (Int64.ofNat 0)) 60 yi.toInt.toNat (((((yA.1 57 yi.toInt.toNat) - (yA.1 59 yi.toInt.toNat)).toInt64) * yw.toInt64) - ((((yA.1 57 yi.toInt.toNat) - (yA.1 59 yi.toInt.toNat)).toInt64) * yw.toInt64) / ys * ys)).1 59 yi.toInt.toNat = yA.1 59 yi.toInt.toNat; rw [uJ_I, uJ_I]) (fun h19 h20 => ?_)
        have h19 : 0 ≤ yi.toInt := h19
        have h20 : yi.toInt < 60 := h20
        refine Pa.mp 2 (pc' := 162) (l' := [(9, .long ((((yA.1 57 yi.toInt.toNat) - (yA.1 59 yi.toInt.toNat)).toInt64) * yw.toInt64)), (0, .ref 47), (1, .int yc), (2, .int yr), (3, .int yt), (4, .long ys), (6, .int yw), (7, .int ym), (8, .int yi)]) (st' := [.long ys, .long ((((yA.1 57 yi.toInt.toNat) - (yA.1 59 yi.toInt.toNat)).toInt64) * yw.toInt64), .int (yA.1 59 yi.toInt.toNat), .int yi, .ref 59]) (by rfl) ?_
        refine Pa.ldiv (by rfl) ?_
        refine Pa.mp 2 (pc' := 165) (l' := [(9, .long ((((yA.1 57 yi.toInt.toNat) - (yA.1 59 yi.toInt.toNat)).toInt64) * yw.toInt64)), (0, .ref 47), (1, .int yc), (2, .int yr), (3, .int yt), (4, .long ys), (6, .int yw), (7, .int ym), (8, .int yi)]) (st' := [.int ((yA.1 59 yi.toInt.toNat) + ((((((yA.1 57 yi.toInt.toNat) - (yA.1 59 yi.toInt.toNat)).toInt64) * yw.toInt64) / ys).toInt32)), .int yi, .ref 59]) (by rfl) ?_
        refine Pa.asts (j' := yi.toInt.toNat) (by rfl) (by rfl) (by rfl) (fun h21 h22 => ?_)
        have h21 : 0 ≤ yi.toInt := h21
        have h22 : yi.toInt < 60 := h22
        show Pa N 77 166 [(9, .long ((((yA.1 57 yi.toInt.toNat) - (yA.1 59 yi.toInt.toNat)).toInt64) * yw.toInt64)), (0, .ref 47), (1, .int yc), (2, .int yr), (3, .int yt), (4, .long ys), (6, .int yw), (7, .int ym), (8, .int yi)] [] (uI (uJ (uJ yA 60 yi.toInt.toNat (Int64.ofNat 0)) 60 yi.toInt.toNat (((((yA.1 57 yi.toInt.toNat) - (yA.1 59 yi.toInt.toNat)).toInt64) * yw.toInt64) - ((((yA.1 57 yi.toInt.toNat) - (yA.1 59 yi.toInt.toNat)).toInt64) * yw.toInt64) / ys * ys)) 59 yi.toInt.toNat ((yA.1 59 yi.toInt.toNat) + ((((((yA.1 57 yi.toInt.toNat) - (yA.1 59 yi.toInt.toNat)).toInt64) * yw.toInt64) / ys).toInt32))) _
        refine Pa.mp 3 (pc' := 172) (l' := [(9, .long ((((yA.1 57 yi.toInt.toNat) - (yA.1 59 yi.toInt.toNat)).toInt64) * yw.toInt64)), (0, .ref 47), (1, .int yc), (2, .int yr), (3, .int yt), (4, .long ys), (6, .int yw), (7, .int ym), (8, .int yi)]) (st' := [.long ys, .long ((((yA.1 57 yi.toInt.toNat) - (yA.1 59 yi.toInt.toNat)).toInt64) * yw.toInt64), .int ym]) (by rfl) ?_
        refine Pa.ldiv (by rfl) ?_
        refine Pa.mp 3 (pc' := 177) (l' := [(7, .int (ym - ((((((yA.1 57 yi.toInt.toNat) - (yA.1 59 yi.toInt.toNat)).toInt64) * yw.toInt64) / ys).toInt32))), (9, .long ((((yA.1 57 yi.toInt.toNat) - (yA.1 59 yi.toInt.toNat)).toInt64) * yw.toInt64)), (0, .ref 47), (1, .int yc), (2, .int yr), (3, .int yt), (4, .long ys), (6, .int yw), (8, .int yi)]) (st' := []) (by rfl) ?_
        refine Pa.iinc (x := yi) (c := 1) (v := (yi + 1)) (l' := [(8, .int (yi + 1)), (7, .int (ym - ((((((yA.1 57 yi.toInt.toNat) - (yA.1 59 yi.toInt.toNat)).toInt64) * yw.toInt64) / ys).toInt32))), (9, .long ((((yA.1 57 yi.toInt.toNat) - (yA.1 59 yi.toInt.toNat)).toInt64) * yw.toInt64)), (0, .ref 47), (1, .int yc), (2, .int yr), (3, .int yt), (4, .long ys), (6, .int yw)]) (by rfl) (by rfl) (by decide) (by rfl) (by rfl) ?_
        refine Pa.mp 1 (pc' := 88) (l' := [(8, .int (yi + 1)), (7, .int (ym - ((((((yA.1 57 yi.toInt.toNat) - (yA.1 59 yi.toInt.toNat)).toInt64) * yw.toInt64) / ys).toInt32))), (9, .long ((((yA.1 57 yi.toInt.toNat) - (yA.1 59 yi.toInt.toNat)).toInt64) * yw.toInt64)), (0, .ref 47), (1, .int yc), (2, .int yr), (3, .int yt), (4, .long ys), (6, .int yw)]) (st' := []) (by rfl) ?_
        refine Pa.lv (l' := [(0, .ref 47), (1, .int yc), (2, .int yr), (3, .int yt), (4, .long ys), (6, .int yw), (7, .int (ym - ((((((yA.1 57 yi.toInt.toNat) - (yA.1 59 yi.toInt.toNat)).toInt64) * yw.toInt64) / ys).toInt32))), (8, .int (yi + 1)), (9, .long ((((yA.1 57 yi.toInt.toNat) - (yA.1 59 yi.toInt.toNat)).toInt64) * yw.toInt64))]) (lvS_c rfl (lvS_c rfl (lvS_c rfl (lvS_c rfl (lvS_c rfl (lvS_c rfl (lvS_c rfl (lvS_c rfl (lvS_c rfl (lvS_nil)))))))))) rfl ?_
        exact l4 h2 h3 h4 h8 h12

theorem bx_rp3 {N : Nat} {yA : AW} {yQ : Option Value → AW → Prop} (yc yr yt yw ym yi : Int32) (ys yz : Int64)
    (l1 : yQ (some (.int (yt - yw))) yA) :
    Pa N 77 189 [(0, .ref 47), (1, .int yc), (2, .int yr), (3, .int yt), (4, .long ys), (6, .int yw), (7, .int ym), (8, .int yi), (9, .long yz)] [] yA yQ := by
  refine Pa.mp 3 (pc' := 193) (l' := [(0, .ref 47), (1, .int yc), (2, .int yr), (3, .int yt), (4, .long ys), (6, .int yw), (7, .int ym), (8, .int yi), (9, .long yz)]) (st' := [.int (yt - yw)]) (by rfl) ?_
  refine Pa.iret (by rfl) ?_
  exact l1

/-- what the class holds of loans -/
def lnW (yA yW : AW) (yG : Nat → Int32) : Prop := (yW.1 47 17).toInt = (lnT yA : Int) ∧ (∀ yj, yj < 60 → yW.1 56 yj = yA.1 111 yj) ∧ (∀ yj, yj < 60 → yW.1 57 yj = yA.1 112 yj) ∧ (∀ yj, yj < 60 → yW.1 58 yj = yA.1 113 yj) ∧ ∀ yj, yj < 60 → yW.1 59 yj = yG yj
theorem lnW_x {yA yW yU : AW} {yG yH : Nat → Int32} (yh : lnW yA yW yG) (hx : exI 59 yW yU) (h2 : ∀ yj, yj < 60 → yU.1 59 yj = yH yj) : lnW yA yU yH := ⟨by rw [hx.1 47 17 (by decide)]; exact yh.1, fun yj hj => (hx.1 56 yj (by decide)).trans (yh.2.1 yj hj), fun yj hj => (hx.1 57 yj (by decide)).trans (yh.2.2.1 yj hj), fun yj hj => (hx.1 58 yj (by decide)).trans (yh.2.2.2.1 yj hj), h2⟩
theorem c_rpX {yA yW : AW} (yc yr yt : Int32) (yG : Nat → Int32) (yg : gdG yA yG) (h60 : lnT yA ≤ 60) (hW : lnW yA yW yG) (N : Nat) : Pa N 77 0 [(0, .ref 47), (1, .int yc), (2, .int yr), (3, .int yt)] [] yW (fun yv A1 => yv = some (.int (rpL yA yc yr yt yG)) ∧ exI 59 yW A1 ∧ ∀ yj, yj < 60 → A1.1 59 yj = rpG yA yc yr yt yG yj) := by
  obtain ⟨ye17, e56, e57, e58, e59⟩ := hW
  have key2 : ¬ rpN yA yc yr yt yG → ∀ (N yi : Nat) (yU : AW) (yz : Int64), yi ≤ lnT yA → exI 59 yW yU → (∀ yj, yj < yi → yU.1 59 yj = g1V yA yc yr yG (owV yA yc yr yG (lnT yA)) (wpV yA yc yr yt yG) yj ∧ yU.2.1 60 yj = rsV yA yc yr yG (owV yA yc yr yG (lnT yA)) (wpV yA yc yr yt yG) yj) → (∀ yj, yi ≤ yj → yj < 60 → yU.1 59 yj = yG yj) → Pa N 77 88 [(0, .ref 47), (1, .int yc), (2, .int yr), (3, .int yt), (4, .long (owV yA yc yr yG (lnT yA))), (6, .int (wpV yA yc yr yt yG)), (7, .int (lfR yA yc yr yG (owV yA yc yr yG (lnT yA)) (wpV yA yc yr yt yG) yi)), (8, .int (Int32.ofNat yi)), (9, .long yz)] [] yU (fun yv A1 => yv = some (.int (rpL yA yc yr yt yG)) ∧ exI 59 yW A1 ∧ ∀ yj, yj < 60 → A1.1 59 yj = rpG yA yc yr yt yG yj) := by
    intro hn N
    obtain ⟨ho, hwt, -⟩ := rp_ok yg h60 hn
    obtain ⟨mm, ym1, ym2, ym3⟩ := lf_pc ho
    have eL : rpL yA yc yr yt yG = yt - wpV yA yc yr yt yG := if_neg hn
    have eG : rpG yA yc yr yt yG = dst (lnT yA) mm (rsV yA yc yr yG (owV yA yc yr yG (lnT yA)) (wpV yA yc yr yt yG)) (g1V yA yc yr yG (owV yA yc yr yG (lnT yA)) (wpV yA yc yr yt yG)) := by
      unfold rpG
      rw [if_neg hn, ym1, Int.toNat_natCast]
    rw [eL, eG]
    obtain ⟨yS, yhS⟩ : ∃ yS, owV yA yc yr yG (lnT yA) = yS := ⟨_, rfl⟩
    obtain ⟨yw, hw⟩ : ∃ yw, wpV yA yc yr yt yG = yw := ⟨_, rfl⟩
    rw [yhS, hw] at ym1 ym2 ⊢
    induction N with
    | zero => intros; exact Pa.zero
    | succ N yih =>
      intro yi yU yz yhi hx h1 h2
      have ei : (Int32.ofNat yi).toInt = (yi : Int) := i32_nat (by omega)
      have u17 : (yU.1 47 17).toInt = (lnT yA : Int) := by rw [hx.1 47 17 (by decide)]; exact ye17
      have u56 : yi < 60 → yU.1 56 yi = yA.1 111 yi := fun yq => (hx.1 56 yi (by decide)).trans (e56 yi yq)
      have u57 : yi < 60 → yU.1 57 yi = yA.1 112 yi := fun yq => (hx.1 57 yi (by decide)).trans (e57 yi yq)
      have u58 : yi < 60 → yU.1 58 yi = yA.1 113 yi := fun yq => (hx.1 58 yi (by decide)).trans (e58 yi yq)
      have yn0 : yi < lnT yA → ¬ lnM yA yc yr yi → Pa N 77 88 [(0, .ref 47), (1, .int yc), (2, .int yr), (3, .int yt), (4, .long yS), (6, .int yw), (7, .int (lfR yA yc yr yG yS yw yi)), (8, .int (Int32.ofNat yi + 1)), (9, .long yz)] [] (uJ yU 60 yi (Int64.ofNat 0)) (fun yv A1 => yv = some (.int (yt - yw)) ∧ exI 59 yW A1 ∧ ∀ yj, yj < 60 → A1.1 59 yj = dst (lnT yA) mm (rsV yA yc yr yG yS yw) (g1V yA yc yr yG yS yw) yj) := fun hiq hn => by
        have yh := yih (yi + 1) (uJ yU 60 yi (Int64.ofNat 0)) yz (by omega) (exI_J hx) (fun yj hj => by
          rw [uJ_I, uJ_row]
          by_cases ye : yj = yi
          · rw [if_pos ye, ye, h2 yi (Nat.le_refl yi) (by omega)]
            exact ⟨(if_neg hn : g1V yA yc yr yG yS yw yi = yG yi).symm, (if_neg hn : rsV yA yc yr yG yS yw yi = Int64.ofNat 0).symm⟩
          · rw [if_neg ye]
            exact h1 yj (by omega)) (fun yj hj hj6 => by
          rw [uJ_I]
          exact h2 yj (by omega) hj6)
        have ye : lfR yA yc yr yG yS yw (yi + 1) = lfR yA yc yr yG yS yw yi := if_neg hn
        rw [ye, on_succ yi] at yh
        exact yh
      refine bx_rp2 yc yr yt yw _ (Int32.ofNat yi) yS yz ?_ ?_ ?_ ?_ <;> rw [ei, u17] <;> (try rw [Int.toNat_natCast])
      · intro yq
        have ye : yi = lnT yA := by omega
        subst ye
        refine Pa.mono (c_prX (yW := yU) (yn := lnT yA) (mm := mm) (yr := rsV yA yc yr yG yS yw) (yG := g1V yA yc yr yG yS yw) (yF := dst (lnT yA) mm (rsV yA yc yr yG yS yw) (g1V yA yc yr yG yS yw)) h60 u17 ym2 (fun yj hj => (h1 yj hj).2) (fun yj hj => by
          by_cases ye : yj < lnT yA
          · exact (h1 yj ye).1
          · rw [h2 yj (by omega) hj]
            exact (if_neg (fun yz => ye yz.1) : g1V yA yc yr yG yS yw yj = yG yj).symm) (fun yj hj => rfl) _ ym1 N) (fun yv A1 hv => ?_)
        obtain ⟨rfl, hx1, hF⟩ := hv
        exact bx_rp3 yc yr yt yw _ _ yS yz ⟨rfl, exI_tr hx hx1, hF⟩
      · intro yq1 _ yq3 yq4
        rw [u56 (by omega)] at yq4
        exact yn0 (by omega) (fun yz => yq4 yz.2.1)
      · intro yq1 _ yq3 yq4 yq5
        rw [u58 (by omega)] at yq5
        exact yn0 (by omega) (fun yz => yq5 yz.2.2)
      · intro yq1 _ yq3 yq4 yq5
        rw [u56 (by omega)] at yq4
        rw [u58 (by omega)] at yq5
        rw [u57 (by omega), h2 yi (Nat.le_refl yi) (by omega)]
        have yhm : lnM yA yc yr yi := ⟨by omega, yq4, yq5⟩
        have yh := yih (yi + 1) (uI (uJ (uJ yU 60 yi (Int64.ofNat 0)) 60 yi (ptV yA yG yw yi - ptV yA yG yw yi / yS * yS)) 59 yi (yG yi + (ptV yA yG yw yi / yS).toInt32)) (ptV yA yG yw yi) (by omega) (exI_I (exI_J (exI_J hx))) (fun yj hj => by
          rw [uI_J, uJ_row, uI_row]
          by_cases ye : yj = yi
          · rw [if_pos ye, if_pos ye, ye]
            exact ⟨(if_pos yhm : g1V yA yc yr yG yS yw yi = _).symm, (if_pos yhm : rsV yA yc yr yG yS yw yi = _).symm⟩
          · rw [if_neg ye, if_neg ye, uJ_k ye, uJ_I, uJ_I]
            exact h1 yj (by omega)) (fun yj hj hj6 => by
          rw [uI_k (by omega), uJ_I, uJ_I]
          exact h2 yj (by omega) hj6)
        have ye : lfR yA yc yr yG yS yw (yi + 1) = lfR yA yc yr yG yS yw yi - (ptV yA yG yw yi / yS).toInt32 := if_pos yhm
        rw [ye, on_succ yi] at yh
        exact yh
  have key1 : ∀ (N yi : Nat), yi ≤ lnT yA → Pa N 77 6 [(0, .ref 47), (1, .int yc), (2, .int yr), (3, .int yt), (4, .long (owV yA yc yr yG yi)), (6, .int (Int32.ofNat yi))] [] yW (fun yv A1 => yv = some (.int (rpL yA yc yr yt yG)) ∧ exI 59 yW A1 ∧ ∀ yj, yj < 60 → A1.1 59 yj = rpG yA yc yr yt yG yj) := by
    intro N
    induction N with
    | zero => intros; exact Pa.zero
    | succ N yih =>
      intro yi yhi
      have ei : (Int32.ofNat yi).toInt = (yi : Int) := i32_nat (by omega)
      have sg := lg_sign (owV yA yc yr yG yi) (Int64.ofNat 1)
      rw [lg_1] at sg
      have yfin : rpN yA yc yr yt yG → ((fun yv A1 => yv = some (.int (rpL yA yc yr yt yG)) ∧ exI 59 yW A1 ∧ ∀ yj, yj < 60 → A1.1 59 yj = rpG yA yc yr yt yG yj) : Option Value → AW → Prop) (some (.int yt)) yW := fun yh => by
        have ye1 : rpL yA yc yr yt yG = yt := if_pos yh
        have ye2 : rpG yA yc yr yt yG = yG := if_pos yh
        rw [ye1, ye2]
        exact ⟨rfl, exI_refl 59 yW, e59⟩
      have yn0 : yi < lnT yA → ¬ lnM yA yc yr yi → Pa N 77 6 [(0, .ref 47), (1, .int yc), (2, .int yr), (3, .int yt), (4, .long (owV yA yc yr yG yi + Int64.ofNat 0)), (6, .int (Int32.ofNat yi + 1))] [] yW (fun yv A1 => yv = some (.int (rpL yA yc yr yt yG)) ∧ exI 59 yW A1 ∧ ∀ yj, yj < 60 → A1.1 59 yj = rpG yA yc yr yt yG yj) := fun hiq hn => by
        have yh := yih (yi + 1) (by omega)
        have ye : owV yA yc yr yG (yi + 1) = owV yA yc yr yG yi := if_neg hn
        rw [ye, on_succ yi] at yh
        rw [l_add0]
        exact yh
      refine bx_rp1 yc yr yt (Int32.ofNat yi) (owV yA yc yr yG yi) ?_ ?_ ?_ ?_ ?_ ?_ <;> rw [ei, ye17] <;> (try rw [Int.toNat_natCast])
      · intro yq1 yq2
        have ye : yi = lnT yA := by omega
        subst ye
        exact yfin (.inl (by omega))
      · intro yq1 yq2 yq3
        have ye : yi = lnT yA := by omega
        subst ye
        have hn : ¬ rpN yA yc yr yt yG := fun yz => by rcases yz with yz | yz <;> omega
        exact key2 hn N 0 yW (Int64.ofNat 0) (Nat.zero_le _) (exI_refl 59 yW) (fun yj hj => absurd hj (Nat.not_lt_zero yj)) (fun yj _ hj => e59 yj hj)
      · intro yq1 yq2 yq3
        exact yfin (.inr yq3)
      · intro yq1 _ yq3 yq4
        rw [e56 yi (by omega)] at yq4
        exact yn0 (by omega) (fun yz => yq4 yz.2.1)
      · intro yq1 _ yq3 yq4 yq5
        rw [e58 yi (by omega)] at yq5
        exact yn0 (by omega) (fun yz => yq5 yz.2.2)
      · intro yq1 _ yq3 yq4 yq5
        rw [e56 yi (by omega)] at yq4
        rw [e58 yi (by omega)] at yq5
        rw [e57 yi (by omega), e59 yi (by omega)]
        have yhm : lnM yA yc yr yi := ⟨by omega, yq4, yq5⟩
        have yh := yih (yi + 1) (by omega)
        have ye : owV yA yc yr yG (yi + 1) = owV yA yc yr yG yi + lnX yA yG yi := if_pos yhm
        rw [ye, on_succ yi] at yh
        exact yh
  exact bx_rp0 yc yr yt (key1 N 0 (Nat.zero_le _))
/-! the reference -/
theorem bm_rp0 {N : Nat} {yA : AW} {yQ : Option Value → AW → Prop} (yc yr yt : Int32)
    (l1 : Pa N 229 6 [(0, .ref 69), (1, .int yc), (2, .int yr), (3, .int yt), (4, .long (Int64.ofNat 0)), (6, .int 0)] [] yA yQ) :
    Pa N 229 0 [(0, .ref 69), (1, .int yc), (2, .int yr), (3, .int yt)] [] yA yQ := by
  refine Pa.mp 2 (pc' := 3) (l' := [(4, .long (Int64.ofNat 0)), (0, .ref 69), (1, .int yc), (2, .int yr), (3, .int yt)]) (st' := []) (by rfl) ?_
  refine Pa.ic (x := 0) (pc' := 4) (by rfl) (by rfl) (by decide) ?_
  refine Pa.mp 1 (pc' := 6) (l' := [(6, .int 0), (4, .long (Int64.ofNat 0)), (0, .ref 69), (1, .int yc), (2, .int yr), (3, .int yt)]) (st' := []) (by rfl) ?_
  refine Pa.lv (l' := [(0, .ref 69), (1, .int yc), (2, .int yr), (3, .int yt), (4, .long (Int64.ofNat 0)), (6, .int 0)]) (lvS_c rfl (lvS_c rfl (lvS_c rfl (lvS_c rfl (lvS_c rfl (lvS_c rfl (lvS_nil))))))) rfl ?_
  exact l1

theorem bm_rp1 {N : Nat} {yA : AW} {yQ : Option Value → AW → Prop} (yc yr yt yi : Int32) (ys : Int64)
    (l1 : (yA.1 69 57).toInt ≤ yi.toInt → (lg_cmp ys (Int64.ofNat 0)).toInt ≠ 0 → 0 ≤ (lg_cmp ys yt.toInt64).toInt → Pa N 229 101 [(0, .ref 69), (1, .int yc), (2, .int yr), (3, .int yt), (4, .long ys), (6, .int yt), (7, .int yt), (8, .int 0), (9, .long (Int64.ofNat 0)), (11, .int 0)] [] yA yQ)
    (l2 : (yA.1 69 57).toInt ≤ yi.toInt → (lg_cmp ys (Int64.ofNat 0)).toInt ≠ 0 → (lg_cmp ys yt.toInt64).toInt < 0 → Pa N 229 101 [(0, .ref 69), (1, .int yc), (2, .int yr), (3, .int yt), (4, .long ys), (6, .int ys.toInt32), (7, .int ys.toInt32), (8, .int 0), (9, .long (Int64.ofNat 0)), (11, .int 0)] [] yA yQ)
    (l3 : (yA.1 69 57).toInt ≤ yi.toInt → (lg_cmp ys (Int64.ofNat 0)).toInt = 0 → yQ (some (.int 0)) yA)
    (l4 : yi.toInt < (yA.1 69 57).toInt → 0 ≤ yi.toInt → yi.toInt < 60 → (yA.1 111 yi.toInt.toNat).toInt ≠ yc.toInt → Pa N 229 6 [(0, .ref 69), (1, .int yc), (2, .int yr), (3, .int yt), (4, .long (ys + (Int64.ofNat 0))), (6, .int (yi + 1))] [] yA yQ)
    (l5 : yi.toInt < (yA.1 69 57).toInt → 0 ≤ yi.toInt → yi.toInt < 60 → (yA.1 111 yi.toInt.toNat).toInt = yc.toInt → (yA.1 113 yi.toInt.toNat).toInt ≠ yr.toInt → Pa N 229 6 [(0, .ref 69), (1, .int yc), (2, .int yr), (3, .int yt), (4, .long (ys + (Int64.ofNat 0))), (6, .int (yi + 1))] [] yA yQ)
    (l6 : yi.toInt < (yA.1 69 57).toInt → 0 ≤ yi.toInt → yi.toInt < 60 → (yA.1 111 yi.toInt.toNat).toInt = yc.toInt → (yA.1 113 yi.toInt.toNat).toInt = yr.toInt → Pa N 229 6 [(0, .ref 69), (1, .int yc), (2, .int yr), (3, .int yt), (4, .long (ys + (((yA.1 112 yi.toInt.toNat) - (yA.1 114 yi.toInt.toNat)).toInt64))), (6, .int (yi + 1))] [] yA yQ) :
    Pa (N + 1) 229 6 [(0, .ref 69), (1, .int yc), (2, .int yr), (3, .int yt), (4, .long ys), (6, .int yi)] [] yA yQ := by
  refine Pa.mp1 1 (pc' := 9) (l' := [(0, .ref 69), (1, .int yc), (2, .int yr), (3, .int yt), (4, .long ys), (6, .int yi)]) (st' := [.ref 69, .int yi]) (by rfl) ?_
  refine Pa.gfI (v := yA.1 69 57) (by rfl) (by rfl) (.inl rfl) (by rfl) (by rfl) ?_
  refine Pa.if2 (a := yi.toInt) (b := (yA.1 69 57).toInt) (t := 68) (by rfl) (by rfl) (rfl) (rfl) (fun h1 => ?_) (fun h2 => ?_)
  · have h1 : (yA.1 69 57).toInt ≤ yi.toInt := h1
    refine Pa.mp 3 (pc' := 72) (l' := [(0, .ref 69), (1, .int yc), (2, .int yr), (3, .int yt), (4, .long ys), (6, .int yi)]) (st' := [.int (lg_cmp ys (Int64.ofNat 0))]) (by rfl) ?_
    refine Pa.if1 (a := (lg_cmp ys (Int64.ofNat 0)).toInt) (t := 77) (by rfl) (by rfl) (rfl) (fun h3 => ?_) (fun h4 => ?_)
    · have h3 : (lg_cmp ys (Int64.ofNat 0)).toInt ≠ 0 := h3
      refine Pa.mp 4 (pc' := 82) (l' := [(0, .ref 69), (1, .int yc), (2, .int yr), (3, .int yt), (4, .long ys), (6, .int yi)]) (st' := [.int (lg_cmp ys yt.toInt64)]) (by rfl) ?_
      refine Pa.if1 (a := (lg_cmp ys yt.toInt64).toInt) (t := 91) (by rfl) (by rfl) (rfl) (fun h5 => ?_) (fun h6 => ?_)
      · have h5 : 0 ≤ (lg_cmp ys yt.toInt64).toInt := h5
        refine Pa.mp 4 (pc' := 98) (l' := [(7, .int yt), (6, .int yt), (0, .ref 69), (1, .int yc), (2, .int yr), (3, .int yt), (4, .long ys)]) (st' := []) (by rfl) ?_
        refine Pa.ic (x := 0) (pc' := 99) (by rfl) (by rfl) (by decide) ?_
        refine Pa.mp 1 (pc' := 101) (l' := [(8, .int 0), (7, .int yt), (6, .int yt), (0, .ref 69), (1, .int yc), (2, .int yr), (3, .int yt), (4, .long ys)]) (st' := []) (by rfl) ?_
        refine Pa.lv (l' := [(0, .ref 69), (1, .int yc), (2, .int yr), (3, .int yt), (4, .long ys), (6, .int yt), (7, .int yt), (8, .int 0), (9, .long (Int64.ofNat 0)), (11, .int 0)]) (lvS_c rfl (lvS_c rfl (lvS_c rfl (lvS_c rfl (lvS_c rfl (lvS_c rfl (lvS_c rfl (lvS_c rfl (lvS_nil))))))))) rfl ?_
        exact l1 h1 h3 h5
      · have h6 : (lg_cmp ys yt.toInt64).toInt < 0 := h6
        refine Pa.mp 6 (pc' := 98) (l' := [(7, .int ys.toInt32), (6, .int ys.toInt32), (0, .ref 69), (1, .int yc), (2, .int yr), (3, .int yt), (4, .long ys)]) (st' := []) (by rfl) ?_
        refine Pa.ic (x := 0) (pc' := 99) (by rfl) (by rfl) (by decide) ?_
        refine Pa.mp 1 (pc' := 101) (l' := [(8, .int 0), (7, .int ys.toInt32), (6, .int ys.toInt32), (0, .ref 69), (1, .int yc), (2, .int yr), (3, .int yt), (4, .long ys)]) (st' := []) (by rfl) ?_
        refine Pa.lv (l' := [(0, .ref 69), (1, .int yc), (2, .int yr), (3, .int yt), (4, .long ys), (6, .int ys.toInt32), (7, .int ys.toInt32), (8, .int 0), (9, .long (Int64.ofNat 0)), (11, .int 0)]) (lvS_c rfl (lvS_c rfl (lvS_c rfl (lvS_c rfl (lvS_c rfl (lvS_c rfl (lvS_c rfl (lvS_c rfl (lvS_nil))))))))) rfl ?_
        exact l2 h1 h3 h6
    · have h4 : (lg_cmp ys (Int64.ofNat 0)).toInt = 0 := h4
      refine Pa.ic (x := 0) (pc' := 76) (by rfl) (by rfl) (by decide) ?_
      refine Pa.iret (by rfl) ?_
      exact l3 h1 h4
  · have h2 : yi.toInt < (yA.1 69 57).toInt := h2
    refine Pa.mp 2 (pc' := 18) (l' := [(0, .ref 69), (1, .int yc), (2, .int yr), (3, .int yt), (4, .long ys), (6, .int yi)]) (st' := [.ref 69, .long ys]) (by rfl) ?_
    refine Pa.gfR (by rfl) (by rfl) (.inl rfl) (by rfl) ?_
    show Pa N 229 21 [(0, .ref 69), (1, .int yc), (2, .int yr), (3, .int yt), (4, .long ys), (6, .int yi)] [.ref 111, .long ys] yA _
    refine Pa.mp 1 (pc' := 23) (l' := [(0, .ref 69), (1, .int yc), (2, .int yr), (3, .int yt), (4, .long ys), (6, .int yi)]) (st' := [.int yi, .ref 111, .long ys]) (by rfl) ?_
    refine Pa.alds (v := yA.1 111 yi.toInt.toNat) (by rfl) (by rfl) (by rfl) (fun h7 h8 => ?_)
    have h7 : 0 ≤ yi.toInt := h7
    have h8 : yi.toInt < 60 := h8
    refine Pa.mp 1 (pc' := 25) (l' := [(0, .ref 69), (1, .int yc), (2, .int yr), (3, .int yt), (4, .long ys), (6, .int yi)]) (st' := [.int yc, .int (yA.1 111 yi.toInt.toNat), .long ys]) (by rfl) ?_
    refine Pa.if2 (a := (yA.1 111 yi.toInt.toNat).toInt) (b := yc.toInt) (t := 58) (by rfl) (by rfl) (rfl) (rfl) (fun h9 => ?_) (fun h10 => ?_)
    · have h9 : (yA.1 111 yi.toInt.toNat).toInt ≠ yc.toInt := h9
      refine Pa.mp 3 (pc' := 62) (l' := [(4, .long (ys + (Int64.ofNat 0))), (0, .ref 69), (1, .int yc), (2, .int yr), (3, .int yt), (6, .int yi)]) (st' := []) (by rfl) ?_
      refine Pa.iinc (x := yi) (c := 1) (v := (yi + 1)) (l' := [(6, .int (yi + 1)), (4, .long (ys + (Int64.ofNat 0))), (0, .ref 69), (1, .int yc), (2, .int yr), (3, .int yt)]) (by rfl) (by rfl) (by decide) (by rfl) (by rfl) ?_
      refine Pa.mp 1 (pc' := 6) (l' := [(6, .int (yi + 1)), (4, .long (ys + (Int64.ofNat 0))), (0, .ref 69), (1, .int yc), (2, .int yr), (3, .int yt)]) (st' := []) (by rfl) ?_
      refine Pa.lv (l' := [(0, .ref 69), (1, .int yc), (2, .int yr), (3, .int yt), (4, .long (ys + (Int64.ofNat 0))), (6, .int (yi + 1))]) (lvS_c rfl (lvS_c rfl (lvS_c rfl (lvS_c rfl (lvS_c rfl (lvS_c rfl (lvS_nil))))))) rfl ?_
      exact l4 h2 h7 h8 h9
    · have h10 : (yA.1 111 yi.toInt.toNat).toInt = yc.toInt := h10
      refine Pa.mp 1 (pc' := 29) (l' := [(0, .ref 69), (1, .int yc), (2, .int yr), (3, .int yt), (4, .long ys), (6, .int yi)]) (st' := [.ref 69, .long ys]) (by rfl) ?_
      refine Pa.gfR (by rfl) (by rfl) (.inl rfl) (by rfl) ?_
      show Pa N 229 32 [(0, .ref 69), (1, .int yc), (2, .int yr), (3, .int yt), (4, .long ys), (6, .int yi)] [.ref 113, .long ys] yA _
      refine Pa.mp 1 (pc' := 34) (l' := [(0, .ref 69), (1, .int yc), (2, .int yr), (3, .int yt), (4, .long ys), (6, .int yi)]) (st' := [.int yi, .ref 113, .long ys]) (by rfl) ?_
      refine Pa.alds (v := yA.1 113 yi.toInt.toNat) (by rfl) (by rfl) (by rfl) (fun h11 h12 => ?_)
      have h11 : 0 ≤ yi.toInt := h11
      have h12 : yi.toInt < 60 := h12
      refine Pa.mp 1 (pc' := 36) (l' := [(0, .ref 69), (1, .int yc), (2, .int yr), (3, .int yt), (4, .long ys), (6, .int yi)]) (st' := [.int yr, .int (yA.1 113 yi.toInt.toNat), .long ys]) (by rfl) ?_
      refine Pa.if2 (a := (yA.1 113 yi.toInt.toNat).toInt) (b := yr.toInt) (t := 58) (by rfl) (by rfl) (rfl) (rfl) (fun h13 => ?_) (fun h14 => ?_)
      · have h13 : (yA.1 113 yi.toInt.toNat).toInt ≠ yr.toInt := h13
        refine Pa.mp 3 (pc' := 62) (l' := [(4, .long (ys + (Int64.ofNat 0))), (0, .ref 69), (1, .int yc), (2, .int yr), (3, .int yt), (6, .int yi)]) (st' := []) (by rfl) ?_
        refine Pa.iinc (x := yi) (c := 1) (v := (yi + 1)) (l' := [(6, .int (yi + 1)), (4, .long (ys + (Int64.ofNat 0))), (0, .ref 69), (1, .int yc), (2, .int yr), (3, .int yt)]) (by rfl) (by rfl) (by decide) (by rfl) (by rfl) ?_
        refine Pa.mp 1 (pc' := 6) (l' := [(6, .int (yi + 1)), (4, .long (ys + (Int64.ofNat 0))), (0, .ref 69), (1, .int yc), (2, .int yr), (3, .int yt)]) (st' := []) (by rfl) ?_
        refine Pa.lv (l' := [(0, .ref 69), (1, .int yc), (2, .int yr), (3, .int yt), (4, .long (ys + (Int64.ofNat 0))), (6, .int (yi + 1))]) (lvS_c rfl (lvS_c rfl (lvS_c rfl (lvS_c rfl (lvS_c rfl (lvS_c rfl (lvS_nil))))))) rfl ?_
        exact l5 h2 h7 h8 h10 h13
      · have h14 : (yA.1 113 yi.toInt.toNat).toInt = yr.toInt := h14
        refine Pa.mp 1 (pc' := 40) (l' := [(0, .ref 69), (1, .int yc), (2, .int yr), (3, .int yt), (4, .long ys), (6, .int yi)]) (st' := [.ref 69, .long ys]) (by rfl) ?_
        refine Pa.gfR (by rfl) (by rfl) (.inl rfl) (by rfl) ?_
        show Pa N 229 43 [(0, .ref 69), (1, .int yc), (2, .int yr), (3, .int yt), (4, .long ys), (6, .int yi)] [.ref 112, .long ys] yA _
        refine Pa.mp 1 (pc' := 45) (l' := [(0, .ref 69), (1, .int yc), (2, .int yr), (3, .int yt), (4, .long ys), (6, .int yi)]) (st' := [.int yi, .ref 112, .long ys]) (by rfl) ?_
        refine Pa.alds (v := yA.1 112 yi.toInt.toNat) (by rfl) (by rfl) (by rfl) (fun h15 yh16 => ?_)
        have h15 : 0 ≤ yi.toInt := h15
        have yh16 : yi.toInt < 60 := yh16
        refine Pa.mp 1 (pc' := 47) (l' := [(0, .ref 69), (1, .int yc), (2, .int yr), (3, .int yt), (4, .long ys), (6, .int yi)]) (st' := [.ref 69, .int (yA.1 112 yi.toInt.toNat), .long ys]) (by rfl) ?_
        refine Pa.gfR (by rfl) (by rfl) (.inl rfl) (by rfl) ?_
        show Pa N 229 50 [(0, .ref 69), (1, .int yc), (2, .int yr), (3, .int yt), (4, .long ys), (6, .int yi)] [.ref 114, .int (yA.1 112 yi.toInt.toNat), .long ys] yA _
        refine Pa.mp 1 (pc' := 52) (l' := [(0, .ref 69), (1, .int yc), (2, .int yr), (3, .int yt), (4, .long ys), (6, .int yi)]) (st' := [.int yi, .ref 114, .int (yA.1 112 yi.toInt.toNat), .long ys]) (by rfl) ?_
        refine Pa.alds (v := yA.1 114 yi.toInt.toNat) (by rfl) (by rfl) (by rfl) (fun h17 h18 => ?_)
        have h17 : 0 ≤ yi.toInt := h17
        have h18 : yi.toInt < 60 := h18
        refine Pa.mp 5 (pc' := 62) (l' := [(4, .long (ys + (((yA.1 112 yi.toInt.toNat) - (yA.1 114 yi.toInt.toNat)).toInt64))), (0, .ref 69), (1, .int yc), (2, .int yr), (3, .int yt), (6, .int yi)]) (st' := []) (by rfl) ?_
        refine Pa.iinc (x := yi) (c := 1) (v := (yi + 1)) (l' := [(6, .int (yi + 1)), (4, .long (ys + (((yA.1 112 yi.toInt.toNat) - (yA.1 114 yi.toInt.toNat)).toInt64))), (0, .ref 69), (1, .int yc), (2, .int yr), (3, .int yt)]) (by rfl) (by rfl) (by decide) (by rfl) (by rfl) ?_
        refine Pa.mp 1 (pc' := 6) (l' := [(6, .int (yi + 1)), (4, .long (ys + (((yA.1 112 yi.toInt.toNat) - (yA.1 114 yi.toInt.toNat)).toInt64))), (0, .ref 69), (1, .int yc), (2, .int yr), (3, .int yt)]) (st' := []) (by rfl) ?_
        refine Pa.lv (l' := [(0, .ref 69), (1, .int yc), (2, .int yr), (3, .int yt), (4, .long (ys + (((yA.1 112 yi.toInt.toNat) - (yA.1 114 yi.toInt.toNat)).toInt64))), (6, .int (yi + 1))]) (lvS_c rfl (lvS_c rfl (lvS_c rfl (lvS_c rfl (lvS_c rfl (lvS_c rfl (lvS_nil))))))) rfl ?_
        exact l6 h2 h7 h8 h10 h14

theorem bm_rp2 {N : Nat} {yA : AW} {yQ : Option Value → AW → Prop} (yc yr yt yw ym yi yn : Int32) (ys yz : Int64)
    (l1 : (yA.1 69 57).toInt ≤ yi.toInt → Pa N 229 209 [(0, .ref 69), (1, .int yc), (2, .int yr), (3, .int yt), (4, .long ys), (6, .int yw), (7, .int ym), (8, .int yi), (9, .long yz), (11, .int yn)] [] yA yQ)
    (l2 : yi.toInt < (yA.1 69 57).toInt → 0 ≤ yi.toInt → yi.toInt < 60 → (yA.1 111 yi.toInt.toNat).toInt ≠ yc.toInt → Pa N 229 101 [(0, .ref 69), (1, .int yc), (2, .int yr), (3, .int yt), (4, .long ys), (6, .int yw), (7, .int ym), (8, .int (yi + 1)), (9, .long yz), (11, .int yn)] [] (uJ yA 121 yi.toInt.toNat (-1)) yQ)
    (l3 : yi.toInt < (yA.1 69 57).toInt → 0 ≤ yi.toInt → yi.toInt < 60 → (yA.1 111 yi.toInt.toNat).toInt = yc.toInt → (yA.1 113 yi.toInt.toNat).toInt ≠ yr.toInt → Pa N 229 101 [(0, .ref 69), (1, .int yc), (2, .int yr), (3, .int yt), (4, .long ys), (6, .int yw), (7, .int ym), (8, .int (yi + 1)), (9, .long yz), (11, .int yn)] [] (uJ yA 121 yi.toInt.toNat (-1)) yQ)
    (l4 : yi.toInt < (yA.1 69 57).toInt → 0 ≤ yi.toInt → yi.toInt < 60 → (yA.1 111 yi.toInt.toNat).toInt = yc.toInt → (yA.1 113 yi.toInt.toNat).toInt = yr.toInt → Pa N 229 101 [(0, .ref 69), (1, .int yc), (2, .int yr), (3, .int yt), (4, .long ys), (6, .int yw), (7, .int (ym - (((yw.toInt64 * (((yA.1 112 yi.toInt.toNat) - (yA.1 114 yi.toInt.toNat)).toInt64)) / ys).toInt32))), (8, .int (yi + 1)), (9, .long (yw.toInt64 * (((yA.1 112 yi.toInt.toNat) - (yA.1 114 yi.toInt.toNat)).toInt64))), (11, .int (((yw.toInt64 * (((yA.1 112 yi.toInt.toNat) - (yA.1 114 yi.toInt.toNat)).toInt64)) / ys).toInt32))] [] (uI (uJ (uJ yA 121 yi.toInt.toNat (-1)) 121 yi.toInt.toNat ((yw.toInt64 * (((yA.1 112 yi.toInt.toNat) - (yA.1 114 yi.toInt.toNat)).toInt64)) - (yw.toInt64 * (((yA.1 112 yi.toInt.toNat) - (yA.1 114 yi.toInt.toNat)).toInt64)) / ys * ys)) 114 yi.toInt.toNat ((yA.1 114 yi.toInt.toNat) + (((yw.toInt64 * (((yA.1 112 yi.toInt.toNat) - (yA.1 114 yi.toInt.toNat)).toInt64)) / ys).toInt32))) yQ) :
    Pa (N + 1) 229 101 [(0, .ref 69), (1, .int yc), (2, .int yr), (3, .int yt), (4, .long ys), (6, .int yw), (7, .int ym), (8, .int yi), (9, .long yz), (11, .int yn)] [] yA yQ := by
  refine Pa.mp1 1 (pc' := 104) (l' := [(0, .ref 69), (1, .int yc), (2, .int yr), (3, .int yt), (4, .long ys), (6, .int yw), (7, .int ym), (8, .int yi), (9, .long yz), (11, .int yn)]) (st' := [.ref 69, .int yi]) (by rfl) ?_
  refine Pa.gfI (v := yA.1 69 57) (by rfl) (by rfl) (.inl rfl) (by rfl) (by rfl) ?_
  refine Pa.if2 (a := yi.toInt) (b := (yA.1 69 57).toInt) (t := 209) (by rfl) (by rfl) (rfl) (rfl) (fun h1 => ?_) (fun h2 => ?_)
  · have h1 : (yA.1 69 57).toInt ≤ yi.toInt := h1
    refine Pa.lv (l' := [(0, .ref 69), (1, .int yc), (2, .int yr), (3, .int yt), (4, .long ys), (6, .int yw), (7, .int ym), (8, .int yi), (9, .long yz), (11, .int yn)]) (lvS_c rfl (lvS_c rfl (lvS_c rfl (lvS_c rfl (lvS_c rfl (lvS_c rfl (lvS_c rfl (lvS_c rfl (lvS_c rfl (lvS_c rfl (lvS_nil))))))))))) rfl ?_
    exact l1 h1
  · have h2 : yi.toInt < (yA.1 69 57).toInt := h2
    refine Pa.mp 1 (pc' := 111) (l' := [(0, .ref 69), (1, .int yc), (2, .int yr), (3, .int yt), (4, .long ys), (6, .int yw), (7, .int ym), (8, .int yi), (9, .long yz), (11, .int yn)]) (st' := [.ref 69]) (by rfl) ?_
    refine Pa.gfR (by rfl) (by rfl) (.inl rfl) (by rfl) ?_
    show Pa N 229 114 [(0, .ref 69), (1, .int yc), (2, .int yr), (3, .int yt), (4, .long ys), (6, .int yw), (7, .int ym), (8, .int yi), (9, .long yz), (11, .int yn)] [.ref 121] yA _
    refine Pa.mp 1 (pc' := 116) (l' := [(0, .ref 69), (1, .int yc), (2, .int yr), (3, .int yt), (4, .long ys), (6, .int yw), (7, .int ym), (8, .int yi), (9, .long yz), (11, .int yn)]) (st' := [.int yi, .ref 121]) (by rfl) ?_
    refine Pa.jcl (x := -1) (pc' := 119) (by rfl) (fun _ _ _ => by rfl) (by decide) ?_
    refine Pa.jsts (j' := yi.toInt.toNat) (by rfl) (by rfl) (by rfl) (fun h3 h4 => ?_)
    have h3 : 0 ≤ yi.toInt := h3
    have h4 : yi.toInt < 60 := h4
    show Pa N 229 120 [(0, .ref 69), (1, .int yc), (2, .int yr), (3, .int yt), (4, .long ys), (6, .int yw), (7, .int ym), (8, .int yi), (9, .long yz), (11, .int yn)] [] (uJ yA 121 yi.toInt.toNat (-1)) _
    refine Pa.mp 1 (pc' := 121) (l' := [(0, .ref 69), (1, .int yc), (2, .int yr), (3, .int yt), (4, .long ys), (6, .int yw), (7, .int ym), (8, .int yi), (9, .long yz), (11, .int yn)]) (st' := [.ref 69]) (by rfl) ?_
    refine Pa.gfR (by rfl) (by rfl) (.inl rfl) (by rfl) ?_
    show Pa N 229 124 [(0, .ref 69), (1, .int yc), (2, .int yr), (3, .int yt), (4, .long ys), (6, .int yw), (7, .int ym), (8, .int yi), (9, .long yz), (11, .int yn)] [.ref 111] (uJ yA 121 yi.toInt.toNat (-1)) _
    refine Pa.mp 1 (pc' := 126) (l' := [(0, .ref 69), (1, .int yc), (2, .int yr), (3, .int yt), (4, .long ys), (6, .int yw), (7, .int ym), (8, .int yi), (9, .long yz), (11, .int yn)]) (st' := [.int yi, .ref 111]) (by rfl) ?_
    refine Pa.alds (v := yA.1 111 yi.toInt.toNat) (by rfl) (by rfl) (by show (uJ yA 121 yi.toInt.toNat (-1)).1 111 yi.toInt.toNat = yA.1 111 yi.toInt.toNat; rw [uJ_I]) (fun h5 h6 => ?_)
    have h5 : 0 ≤ yi.toInt := h5
    have h6 : yi.toInt < 60 := h6
    refine Pa.mp 1 (pc' := 128) (l' := [(0, .ref 69), (1, .int yc), (2, .int yr), (3, .int yt), (4, .long ys), (6, .int yw), (7, .int ym), (8, .int yi), (9, .long yz), (11, .int yn)]) (st' := [.int yc, .int (yA.1 111 yi.toInt.toNat)]) (by rfl) ?_
    refine Pa.if2 (a := (yA.1 111 yi.toInt.toNat).toInt) (b := yc.toInt) (t := 203) (by rfl) (by rfl) (rfl) (rfl) (fun h7 => ?_) (fun h8 => ?_)
    · have h7 : (yA.1 111 yi.toInt.toNat).toInt ≠ yc.toInt := h7
      refine Pa.iinc (x := yi) (c := 1) (v := (yi + 1)) (l' := [(8, .int (yi + 1)), (0, .ref 69), (1, .int yc), (2, .int yr), (3, .int yt), (4, .long ys), (6, .int yw), (7, .int ym), (9, .long yz), (11, .int yn)]) (by rfl) (by rfl) (by decide) (by rfl) (by rfl) ?_
      refine Pa.mp 1 (pc' := 101) (l' := [(8, .int (yi + 1)), (0, .ref 69), (1, .int yc), (2, .int yr), (3, .int yt), (4, .long ys), (6, .int yw), (7, .int ym), (9, .long yz), (11, .int yn)]) (st' := []) (by rfl) ?_
      refine Pa.lv (l' := [(0, .ref 69), (1, .int yc), (2, .int yr), (3, .int yt), (4, .long ys), (6, .int yw), (7, .int ym), (8, .int (yi + 1)), (9, .long yz), (11, .int yn)]) (lvS_c rfl (lvS_c rfl (lvS_c rfl (lvS_c rfl (lvS_c rfl (lvS_c rfl (lvS_c rfl (lvS_c rfl (lvS_c rfl (lvS_c rfl (lvS_nil))))))))))) rfl ?_
      exact l2 h2 h3 h4 h7
    · have h8 : (yA.1 111 yi.toInt.toNat).toInt = yc.toInt := h8
      refine Pa.mp 1 (pc' := 132) (l' := [(0, .ref 69), (1, .int yc), (2, .int yr), (3, .int yt), (4, .long ys), (6, .int yw), (7, .int ym), (8, .int yi), (9, .long yz), (11, .int yn)]) (st' := [.ref 69]) (by rfl) ?_
      refine Pa.gfR (by rfl) (by rfl) (.inl rfl) (by rfl) ?_
      show Pa N 229 135 [(0, .ref 69), (1, .int yc), (2, .int yr), (3, .int yt), (4, .long ys), (6, .int yw), (7, .int ym), (8, .int yi), (9, .long yz), (11, .int yn)] [.ref 113] (uJ yA 121 yi.toInt.toNat (-1)) _
      refine Pa.mp 1 (pc' := 137) (l' := [(0, .ref 69), (1, .int yc), (2, .int yr), (3, .int yt), (4, .long ys), (6, .int yw), (7, .int ym), (8, .int yi), (9, .long yz), (11, .int yn)]) (st' := [.int yi, .ref 113]) (by rfl) ?_
      refine Pa.alds (v := yA.1 113 yi.toInt.toNat) (by rfl) (by rfl) (by show (uJ yA 121 yi.toInt.toNat (-1)).1 113 yi.toInt.toNat = yA.1 113 yi.toInt.toNat; rw [uJ_I]) (fun h9 h10 => ?_)
      have h9 : 0 ≤ yi.toInt := h9
      have h10 : yi.toInt < 60 := h10
      refine Pa.mp 1 (pc' := 139) (l' := [(0, .ref 69), (1, .int yc), (2, .int yr), (3, .int yt), (4, .long ys), (6, .int yw), (7, .int ym), (8, .int yi), (9, .long yz), (11, .int yn)]) (st' := [.int yr, .int (yA.1 113 yi.toInt.toNat)]) (by rfl) ?_
      refine Pa.if2 (a := (yA.1 113 yi.toInt.toNat).toInt) (b := yr.toInt) (t := 203) (by rfl) (by rfl) (rfl) (rfl) (fun h11 => ?_) (fun h12 => ?_)
      · have h11 : (yA.1 113 yi.toInt.toNat).toInt ≠ yr.toInt := h11
        refine Pa.iinc (x := yi) (c := 1) (v := (yi + 1)) (l' := [(8, .int (yi + 1)), (0, .ref 69), (1, .int yc), (2, .int yr), (3, .int yt), (4, .long ys), (6, .int yw), (7, .int ym), (9, .long yz), (11, .int yn)]) (by rfl) (by rfl) (by decide) (by rfl) (by rfl) ?_
        refine Pa.mp 1 (pc' := 101) (l' := [(8, .int (yi + 1)), (0, .ref 69), (1, .int yc), (2, .int yr), (3, .int yt), (4, .long ys), (6, .int yw), (7, .int ym), (9, .long yz), (11, .int yn)]) (st' := []) (by rfl) ?_
        refine Pa.lv (l' := [(0, .ref 69), (1, .int yc), (2, .int yr), (3, .int yt), (4, .long ys), (6, .int yw), (7, .int ym), (8, .int (yi + 1)), (9, .long yz), (11, .int yn)]) (lvS_c rfl (lvS_c rfl (lvS_c rfl (lvS_c rfl (lvS_c rfl (lvS_c rfl (lvS_c rfl (lvS_c rfl (lvS_c rfl (lvS_c rfl (lvS_nil))))))))))) rfl ?_
        exact l3 h2 h3 h4 h8 h11
      · have h12 : (yA.1 113 yi.toInt.toNat).toInt = yr.toInt := h12
        refine Pa.mp 3 (pc' := 146) (l' := [(0, .ref 69), (1, .int yc), (2, .int yr), (3, .int yt), (4, .long ys), (6, .int yw), (7, .int ym), (8, .int yi), (9, .long yz), (11, .int yn)]) (st' := [.ref 69, .long yw.toInt64]) (by rfl) ?_
        refine Pa.gfR (by rfl) (by rfl) (.inl rfl) (by rfl) ?_
        show Pa N 229 149 [(0, .ref 69), (1, .int yc), (2, .int yr), (3, .int yt), (4, .long ys), (6, .int yw), (7, .int ym), (8, .int yi), (9, .long yz), (11, .int yn)] [.ref 112, .long yw.toInt64] (uJ yA 121 yi.toInt.toNat (-1)) _
        refine Pa.mp 1 (pc' := 151) (l' := [(0, .ref 69), (1, .int yc), (2, .int yr), (3, .int yt), (4, .long ys), (6, .int yw), (7, .int ym), (8, .int yi), (9, .long yz), (11, .int yn)]) (st' := [.int yi, .ref 112, .long yw.toInt64]) (by rfl) ?_
        refine Pa.alds (v := yA.1 112 yi.toInt.toNat) (by rfl) (by rfl) (by show (uJ yA 121 yi.toInt.toNat (-1)).1 112 yi.toInt.toNat = yA.1 112 yi.toInt.toNat; rw [uJ_I]) (fun h13 h14 => ?_)
        have h13 : 0 ≤ yi.toInt := h13
        have h14 : yi.toInt < 60 := h14
        refine Pa.mp 1 (pc' := 153) (l' := [(0, .ref 69), (1, .int yc), (2, .int yr), (3, .int yt), (4, .long ys), (6, .int yw), (7, .int ym), (8, .int yi), (9, .long yz), (11, .int yn)]) (st' := [.ref 69, .int (yA.1 112 yi.toInt.toNat), .long yw.toInt64]) (by rfl) ?_
        refine Pa.gfR (by rfl) (by rfl) (.inl rfl) (by rfl) ?_
        show Pa N 229 156 [(0, .ref 69), (1, .int yc), (2, .int yr), (3, .int yt), (4, .long ys), (6, .int yw), (7, .int ym), (8, .int yi), (9, .long yz), (11, .int yn)] [.ref 114, .int (yA.1 112 yi.toInt.toNat), .long yw.toInt64] (uJ yA 121 yi.toInt.toNat (-1)) _
        refine Pa.mp 1 (pc' := 158) (l' := [(0, .ref 69), (1, .int yc), (2, .int yr), (3, .int yt), (4, .long ys), (6, .int yw), (7, .int ym), (8, .int yi), (9, .long yz), (11, .int yn)]) (st' := [.int yi, .ref 114, .int (yA.1 112 yi.toInt.toNat), .long yw.toInt64]) (by rfl) ?_
        refine Pa.alds (v := yA.1 114 yi.toInt.toNat) (by rfl) (by rfl) (by show (uJ yA 121 yi.toInt.toNat (-1)).1 114 yi.toInt.toNat = yA.1 114 yi.toInt.toNat; rw [uJ_I]) (fun h15 yh16 => ?_)
        have h15 : 0 ≤ yi.toInt := h15
        have yh16 : yi.toInt < 60 := yh16
        refine Pa.mp 6 (pc' := 168) (l' := [(9, .long (yw.toInt64 * (((yA.1 112 yi.toInt.toNat) - (yA.1 114 yi.toInt.toNat)).toInt64))), (0, .ref 69), (1, .int yc), (2, .int yr), (3, .int yt), (4, .long ys), (6, .int yw), (7, .int ym), (8, .int yi), (11, .int yn)]) (st' := [.long ys, .long (yw.toInt64 * (((yA.1 112 yi.toInt.toNat) - (yA.1 114 yi.toInt.toNat)).toInt64))]) (by rfl) ?_
        refine Pa.ldiv (by rfl) ?_
        refine Pa.mp 3 (pc' := 173) (l' := [(11, .int (((yw.toInt64 * (((yA.1 112 yi.toInt.toNat) - (yA.1 114 yi.toInt.toNat)).toInt64)) / ys).toInt32)), (9, .long (yw.toInt64 * (((yA.1 112 yi.toInt.toNat) - (yA.1 114 yi.toInt.toNat)).toInt64))), (0, .ref 69), (1, .int yc), (2, .int yr), (3, .int yt), (4, .long ys), (6, .int yw), (7, .int ym), (8, .int yi)]) (st' := [.ref 69]) (by rfl) ?_
        refine Pa.gfR (by rfl) (by rfl) (.inl rfl) (by rfl) ?_
        show Pa N 229 176 [(11, .int (((yw.toInt64 * (((yA.1 112 yi.toInt.toNat) - (yA.1 114 yi.toInt.toNat)).toInt64)) / ys).toInt32)), (9, .long (yw.toInt64 * (((yA.1 112 yi.toInt.toNat) - (yA.1 114 yi.toInt.toNat)).toInt64))), (0, .ref 69), (1, .int yc), (2, .int yr), (3, .int yt), (4, .long ys), (6, .int yw), (7, .int ym), (8, .int yi)] [.ref 121] (uJ yA 121 yi.toInt.toNat (-1)) _
        refine Pa.mp 3 (pc' := 182) (l' := [(11, .int (((yw.toInt64 * (((yA.1 112 yi.toInt.toNat) - (yA.1 114 yi.toInt.toNat)).toInt64)) / ys).toInt32)), (9, .long (yw.toInt64 * (((yA.1 112 yi.toInt.toNat) - (yA.1 114 yi.toInt.toNat)).toInt64))), (0, .ref 69), (1, .int yc), (2, .int yr), (3, .int yt), (4, .long ys), (6, .int yw), (7, .int ym), (8, .int yi)]) (st' := [.long ys, .long (yw.toInt64 * (((yA.1 112 yi.toInt.toNat) - (yA.1 114 yi.toInt.toNat)).toInt64)), .int yi, .ref 121]) (by rfl) ?_
        refine Pa.lrem (by rfl) ?_
        refine Pa.jsts (j' := yi.toInt.toNat) (by rfl) (by rfl) (by rfl) (fun h17 h18 => ?_)
        have h17 : 0 ≤ yi.toInt := h17
        have h18 : yi.toInt < 60 := h18
        show Pa N 229 184 [(11, .int (((yw.toInt64 * (((yA.1 112 yi.toInt.toNat) - (yA.1 114 yi.toInt.toNat)).toInt64)) / ys).toInt32)), (9, .long (yw.toInt64 * (((yA.1 112 yi.toInt.toNat) - (yA.1 114 yi.toInt.toNat)).toInt64))), (0, .ref 69), (1, .int yc), (2, .int yr), (3, .int yt), (4, .long ys), (6, .int yw), (7, .int ym), (8, .int yi)] [] (uJ (uJ yA 121 yi.toInt.toNat (-1)) 121 yi.toInt.toNat ((yw.toInt64 * (((yA.1 112 yi.toInt.toNat) - (yA.1 114 yi.toInt.toNat)).toInt64)) - (yw.toInt64 * (((yA.1 112 yi.toInt.toNat) - (yA.1 114 yi.toInt.toNat)).toInt64)) / ys * ys)) _
        refine Pa.mp 1 (pc' := 185) (l' := [(11, .int (((yw.toInt64 * (((yA.1 112 yi.toInt.toNat) - (yA.1 114 yi.toInt.toNat)).toInt64)) / ys).toInt32)), (9, .long (yw.toInt64 * (((yA.1 112 yi.toInt.toNat) - (yA.1 114 yi.toInt.toNat)).toInt64))), (0, .ref 69), (1, .int yc), (2, .int yr), (3, .int yt), (4, .long ys), (6, .int yw), (7, .int ym), (8, .int yi)]) (st' := [.ref 69]) (by rfl) ?_
        refine Pa.gfR (by rfl) (by rfl) (.inl rfl) (by rfl) ?_
        show Pa N 229 188 [(11, .int (((yw.toInt64 * (((yA.1 112 yi.toInt.toNat) - (yA.1 114 yi.toInt.toNat)).toInt64)) / ys).toInt32)), (9, .long (yw.toInt64 * (((yA.1 112 yi.toInt.toNat) - (yA.1 114 yi.toInt.toNat)).toInt64))), (0, .ref 69), (1, .int yc), (2, .int yr), (3, .int yt), (4, .long ys), (6, .int yw), (7, .int ym), (8, .int yi)] [.ref 114] (uJ (uJ yA 121 yi.toInt.toNat (-1)) 121 yi.toInt.toNat ((yw.toInt64 * (((yA.1 112 yi.toInt.toNat) - (yA.1 114 yi.toInt.toNat)).toInt64)) - (yw.toInt64 * (((yA.1 112 yi.toInt.toNat) - (yA.1 114 yi.toInt.toNat)).toInt64)) / ys * ys)) _
        refine Pa.mp 2 (pc' := 191) (l' := [(11, .int (((yw.toInt64 * (((yA.1 112 yi.toInt.toNat) - (yA.1 114 yi.toInt.toNat)).toInt64)) / ys).toInt32)), (9, .long (yw.toInt64 * (((yA.1 112 yi.toInt.toNat) - (yA.1 114 yi.toInt.toNat)).toInt64))), (0, .ref 69), (1, .int yc), (2, .int yr), (3, .int yt), (4, .long ys), (6, .int yw), (7, .int ym), (8, .int yi)]) (st' := [.int yi, .ref 114, .int yi, .ref 114]) (by rfl) ?_
        refine Pa.alds (v := yA.1 114 yi.toInt.toNat) (by rfl) (by rfl) (by show (uJ (uJ yA 121 yi.toInt.toNat (-1)) 121 yi.toInt.toNat ((yw.toInt64 * (((yA.1 112 yi.toInt.toNat) - (yA.1 114 yi.toInt.toNat)).toInt64)) - (yw.toInt64 * (((yA.1 112 yi.toInt.toNat) - (yA.1 114 yi.toInt.toNat)).toInt64)) / ys * ys)).1 114 yi.toInt.toNat = yA.1 114 yi.toInt.toNat; rw [uJ_I, uJ_I]) (fun h19 h20 => ?_)
        have h19 : 0 ≤ yi.toInt := h19
        have h20 : yi.toInt < 60 := h20
        refine Pa.mp 2 (pc' := 195) (l' := [(11, .int (((yw.toInt64 * (((yA.1 112 yi.toInt.toNat) - (yA.1 114 yi.toInt.toNat)).toInt64)) / ys).toInt32)), (9, .long (yw.toInt64 * (((yA.1 112 yi.toInt.toNat) - (yA.1 114 yi.toInt.toNat)).toInt64))), (0, .ref 69), (1, .int yc), (2, .int yr), (3, .int yt), (4, .long ys), (6, .int yw), (7, .int ym), (8, .int yi)]) (st' := [.int ((yA.1 114 yi.toInt.toNat) + (((yw.toInt64 * (((yA.1 112 yi.toInt.toNat) - (yA.1 114 yi.toInt.toNat)).toInt64)) / ys).toInt32)), .int yi, .ref 114]) (by rfl) ?_
        refine Pa.asts (j' := yi.toInt.toNat) (by rfl) (by rfl) (by rfl) (fun h21 h22 => ?_)
        have h21 : 0 ≤ yi.toInt := h21
        have h22 : yi.toInt < 60 := h22
        show Pa N 229 196 [(11, .int (((yw.toInt64 * (((yA.1 112 yi.toInt.toNat) - (yA.1 114 yi.toInt.toNat)).toInt64)) / ys).toInt32)), (9, .long (yw.toInt64 * (((yA.1 112 yi.toInt.toNat) - (yA.1 114 yi.toInt.toNat)).toInt64))), (0, .ref 69), (1, .int yc), (2, .int yr), (3, .int yt), (4, .long ys), (6, .int yw), (7, .int ym), (8, .int yi)] [] (uI (uJ (uJ yA 121 yi.toInt.toNat (-1)) 121 yi.toInt.toNat ((yw.toInt64 * (((yA.1 112 yi.toInt.toNat) - (yA.1 114 yi.toInt.toNat)).toInt64)) - (yw.toInt64 * (((yA.1 112 yi.toInt.toNat) - (yA.1 114 yi.toInt.toNat)).toInt64)) / ys * ys)) 114 yi.toInt.toNat ((yA.1 114 yi.toInt.toNat) + (((yw.toInt64 * (((yA.1 112 yi.toInt.toNat) - (yA.1 114 yi.toInt.toNat)).toInt64)) / ys).toInt32))) _
        refine Pa.mp 4 (pc' := 203) (l' := [(7, .int (ym - (((yw.toInt64 * (((yA.1 112 yi.toInt.toNat) - (yA.1 114 yi.toInt.toNat)).toInt64)) / ys).toInt32))), (11, .int (((yw.toInt64 * (((yA.1 112 yi.toInt.toNat) - (yA.1 114 yi.toInt.toNat)).toInt64)) / ys).toInt32)), (9, .long (yw.toInt64 * (((yA.1 112 yi.toInt.toNat) - (yA.1 114 yi.toInt.toNat)).toInt64))), (0, .ref 69), (1, .int yc), (2, .int yr), (3, .int yt), (4, .long ys), (6, .int yw), (8, .int yi)]) (st' := []) (by rfl) ?_
        refine Pa.iinc (x := yi) (c := 1) (v := (yi + 1)) (l' := [(8, .int (yi + 1)), (7, .int (ym - (((yw.toInt64 * (((yA.1 112 yi.toInt.toNat) - (yA.1 114 yi.toInt.toNat)).toInt64)) / ys).toInt32))), (11, .int (((yw.toInt64 * (((yA.1 112 yi.toInt.toNat) - (yA.1 114 yi.toInt.toNat)).toInt64)) / ys).toInt32)), (9, .long (yw.toInt64 * (((yA.1 112 yi.toInt.toNat) - (yA.1 114 yi.toInt.toNat)).toInt64))), (0, .ref 69), (1, .int yc), (2, .int yr), (3, .int yt), (4, .long ys), (6, .int yw)]) (by rfl) (by rfl) (by decide) (by rfl) (by rfl) ?_
        refine Pa.mp 1 (pc' := 101) (l' := [(8, .int (yi + 1)), (7, .int (ym - (((yw.toInt64 * (((yA.1 112 yi.toInt.toNat) - (yA.1 114 yi.toInt.toNat)).toInt64)) / ys).toInt32))), (11, .int (((yw.toInt64 * (((yA.1 112 yi.toInt.toNat) - (yA.1 114 yi.toInt.toNat)).toInt64)) / ys).toInt32)), (9, .long (yw.toInt64 * (((yA.1 112 yi.toInt.toNat) - (yA.1 114 yi.toInt.toNat)).toInt64))), (0, .ref 69), (1, .int yc), (2, .int yr), (3, .int yt), (4, .long ys), (6, .int yw)]) (st' := []) (by rfl) ?_
        refine Pa.lv (l' := [(0, .ref 69), (1, .int yc), (2, .int yr), (3, .int yt), (4, .long ys), (6, .int yw), (7, .int (ym - (((yw.toInt64 * (((yA.1 112 yi.toInt.toNat) - (yA.1 114 yi.toInt.toNat)).toInt64)) / ys).toInt32))), (8, .int (yi + 1)), (9, .long (yw.toInt64 * (((yA.1 112 yi.toInt.toNat) - (yA.1 114 yi.toInt.toNat)).toInt64))), (11, .int (((yw.toInt64 * (((yA.1 112 yi.toInt.toNat) - (yA.1 114 yi.toInt.toNat)).toInt64)) / ys).toInt32))]) (lvS_c rfl (lvS_c rfl (lvS_c rfl (lvS_c rfl (lvS_c rfl (lvS_c rfl (lvS_c rfl (lvS_c rfl (lvS_c rfl (lvS_c rfl (lvS_nil))))))))))) rfl ?_
        exact l4 h2 h3 h4 h8 h12

theorem bm_rp3 {N : Nat} {yA : AW} {yQ : Option Value → AW → Prop} (yc yr yt yw ym yb yn : Int32) (ys : Int64) (yx : Value)
    (l1 : ym.toInt ≤ 0 → yQ (some (.int yw)) yA)
    (l2 : 0 < ym.toInt → Pa N 229 220 [(0, .ref 69), (1, .int yc), (2, .int yr), (3, .int yt), (4, .long ys), (6, .int yw), (7, .int ym), (8, .int 0), (9, .int 1), (11, .int yn)] [] yA yQ) :
    Pa (N + 1) 229 209 [(0, .ref 69), (1, .int yc), (2, .int yr), (3, .int yt), (4, .long ys), (6, .int yw), (7, .int ym), (8, .int yb), (9, yx), (11, .int yn)] [] yA yQ := by
  refine Pa.mp1 0 (pc' := 211) (l' := [(0, .ref 69), (1, .int yc), (2, .int yr), (3, .int yt), (4, .long ys), (6, .int yw), (7, .int ym), (8, .int yb), (9, yx), (11, .int yn)]) (st' := [.int ym]) (by rfl) ?_
  refine Pa.if1 (a := ym.toInt) (t := 289) (by rfl) (by rfl) (rfl) (fun h1 => ?_) (fun h2 => ?_)
  · have h1 : ym.toInt ≤ 0 := h1
    refine Pa.mp 1 (pc' := 291) (l' := [(0, .ref 69), (1, .int yc), (2, .int yr), (3, .int yt), (4, .long ys), (6, .int yw), (7, .int ym), (8, .int yb), (9, yx), (11, .int yn)]) (st' := [.int yw]) (by rfl) ?_
    refine Pa.iret (by rfl) ?_
    exact l1 h1
  · have h2 : 0 < ym.toInt := h2
    refine Pa.ic (x := 0) (pc' := 215) (by rfl) (by rfl) (by decide) ?_
    refine Pa.mp 1 (pc' := 217) (l' := [(8, .int 0), (0, .ref 69), (1, .int yc), (2, .int yr), (3, .int yt), (4, .long ys), (6, .int yw), (7, .int ym), (9, yx), (11, .int yn)]) (st' := []) (by rfl) ?_
    refine Pa.ic (x := 1) (pc' := 218) (by rfl) (by rfl) (by decide) ?_
    refine Pa.mp 1 (pc' := 220) (l' := [(9, .int 1), (8, .int 0), (0, .ref 69), (1, .int yc), (2, .int yr), (3, .int yt), (4, .long ys), (6, .int yw), (7, .int ym), (11, .int yn)]) (st' := []) (by rfl) ?_
    refine Pa.lv (l' := [(0, .ref 69), (1, .int yc), (2, .int yr), (3, .int yt), (4, .long ys), (6, .int yw), (7, .int ym), (8, .int 0), (9, .int 1), (11, .int yn)]) (lvS_c rfl (lvS_c rfl (lvS_c rfl (lvS_c rfl (lvS_c rfl (lvS_c rfl (lvS_c rfl (lvS_c rfl (lvS_c rfl (lvS_c rfl (lvS_nil))))))))))) rfl ?_
    exact l2 h2

theorem bm_rp4 {N : Nat} {yA : AW} {yQ : Option Value → AW → Prop} (yc yr yt yw ym yb yi yn : Int32) (ys : Int64)
    (l1 : (yA.1 69 57).toInt ≤ yi.toInt → 0 ≤ yb.toInt → yb.toInt < 60 → Pa N 229 209 [(0, .ref 69), (1, .int yc), (2, .int yr), (3, .int yt), (4, .long ys), (6, .int yw), (7, .int (ym + (-1))), (8, .int yb), (9, .int yi), (11, .int yn)] [] (uJ (uI yA 114 yb.toInt.toNat ((yA.1 114 yb.toInt.toNat) + 1)) 121 yb.toInt.toNat (-1)) yQ)
    (l2 : yi.toInt < (yA.1 69 57).toInt → 0 ≤ yi.toInt → yi.toInt < 60 → 0 ≤ yb.toInt → yb.toInt < 60 → (lg_cmp (yA.2.1 121 yi.toInt.toNat) (yA.2.1 121 yb.toInt.toNat)).toInt ≤ 0 → Pa N 229 220 [(0, .ref 69), (1, .int yc), (2, .int yr), (3, .int yt), (4, .long ys), (6, .int yw), (7, .int ym), (8, .int yb), (9, .int (yi + 1)), (11, .int yn)] [] yA yQ)
    (l3 : yi.toInt < (yA.1 69 57).toInt → 0 ≤ yi.toInt → yi.toInt < 60 → 0 ≤ yb.toInt → yb.toInt < 60 → 0 < (lg_cmp (yA.2.1 121 yi.toInt.toNat) (yA.2.1 121 yb.toInt.toNat)).toInt → Pa N 229 220 [(0, .ref 69), (1, .int yc), (2, .int yr), (3, .int yt), (4, .long ys), (6, .int yw), (7, .int ym), (8, .int yi), (9, .int (yi + 1)), (11, .int yn)] [] yA yQ) :
    Pa (N + 1) 229 220 [(0, .ref 69), (1, .int yc), (2, .int yr), (3, .int yt), (4, .long ys), (6, .int yw), (7, .int ym), (8, .int yb), (9, .int yi), (11, .int yn)] [] yA yQ := by
  refine Pa.mp1 1 (pc' := 223) (l' := [(0, .ref 69), (1, .int yc), (2, .int yr), (3, .int yt), (4, .long ys), (6, .int yw), (7, .int ym), (8, .int yb), (9, .int yi), (11, .int yn)]) (st' := [.ref 69, .int yi]) (by rfl) ?_
  refine Pa.gfI (v := yA.1 69 57) (by rfl) (by rfl) (.inl rfl) (by rfl) (by rfl) ?_
  refine Pa.if2 (a := yi.toInt) (b := (yA.1 69 57).toInt) (t := 262) (by rfl) (by rfl) (rfl) (rfl) (fun h1 => ?_) (fun h2 => ?_)
  · have h1 : (yA.1 69 57).toInt ≤ yi.toInt := h1
    refine Pa.mp 1 (pc' := 263) (l' := [(0, .ref 69), (1, .int yc), (2, .int yr), (3, .int yt), (4, .long ys), (6, .int yw), (7, .int ym), (8, .int yb), (9, .int yi), (11, .int yn)]) (st' := [.ref 69]) (by rfl) ?_
    refine Pa.gfR (by rfl) (by rfl) (.inl rfl) (by rfl) ?_
    show Pa N 229 266 [(0, .ref 69), (1, .int yc), (2, .int yr), (3, .int yt), (4, .long ys), (6, .int yw), (7, .int ym), (8, .int yb), (9, .int yi), (11, .int yn)] [.ref 114] yA _
    refine Pa.mp 2 (pc' := 269) (l' := [(0, .ref 69), (1, .int yc), (2, .int yr), (3, .int yt), (4, .long ys), (6, .int yw), (7, .int ym), (8, .int yb), (9, .int yi), (11, .int yn)]) (st' := [.int yb, .ref 114, .int yb, .ref 114]) (by rfl) ?_
    refine Pa.alds (v := yA.1 114 yb.toInt.toNat) (by rfl) (by rfl) (by rfl) (fun h3 h4 => ?_)
    have h3 : 0 ≤ yb.toInt := h3
    have h4 : yb.toInt < 60 := h4
    refine Pa.ic (x := 1) (pc' := 271) (by rfl) (by rfl) (by decide) ?_
    refine Pa.mp 1 (pc' := 272) (l' := [(0, .ref 69), (1, .int yc), (2, .int yr), (3, .int yt), (4, .long ys), (6, .int yw), (7, .int ym), (8, .int yb), (9, .int yi), (11, .int yn)]) (st' := [.int ((yA.1 114 yb.toInt.toNat) + 1), .int yb, .ref 114]) (by rfl) ?_
    refine Pa.asts (j' := yb.toInt.toNat) (by rfl) (by rfl) (by rfl) (fun h5 h6 => ?_)
    have h5 : 0 ≤ yb.toInt := h5
    have h6 : yb.toInt < 60 := h6
    show Pa N 229 273 [(0, .ref 69), (1, .int yc), (2, .int yr), (3, .int yt), (4, .long ys), (6, .int yw), (7, .int ym), (8, .int yb), (9, .int yi), (11, .int yn)] [] (uI yA 114 yb.toInt.toNat ((yA.1 114 yb.toInt.toNat) + 1)) _
    refine Pa.mp 1 (pc' := 274) (l' := [(0, .ref 69), (1, .int yc), (2, .int yr), (3, .int yt), (4, .long ys), (6, .int yw), (7, .int ym), (8, .int yb), (9, .int yi), (11, .int yn)]) (st' := [.ref 69]) (by rfl) ?_
    refine Pa.gfR (by rfl) (by rfl) (.inl rfl) (by rfl) ?_
    show Pa N 229 277 [(0, .ref 69), (1, .int yc), (2, .int yr), (3, .int yt), (4, .long ys), (6, .int yw), (7, .int ym), (8, .int yb), (9, .int yi), (11, .int yn)] [.ref 121] (uI yA 114 yb.toInt.toNat ((yA.1 114 yb.toInt.toNat) + 1)) _
    refine Pa.mp 1 (pc' := 279) (l' := [(0, .ref 69), (1, .int yc), (2, .int yr), (3, .int yt), (4, .long ys), (6, .int yw), (7, .int ym), (8, .int yb), (9, .int yi), (11, .int yn)]) (st' := [.int yb, .ref 121]) (by rfl) ?_
    refine Pa.jcl (x := -1) (pc' := 282) (by rfl) (fun _ _ _ => by rfl) (by decide) ?_
    refine Pa.jsts (j' := yb.toInt.toNat) (by rfl) (by rfl) (by rfl) (fun h7 h8 => ?_)
    have h7 : 0 ≤ yb.toInt := h7
    have h8 : yb.toInt < 60 := h8
    show Pa N 229 283 [(0, .ref 69), (1, .int yc), (2, .int yr), (3, .int yt), (4, .long ys), (6, .int yw), (7, .int ym), (8, .int yb), (9, .int yi), (11, .int yn)] [] (uJ (uI yA 114 yb.toInt.toNat ((yA.1 114 yb.toInt.toNat) + 1)) 121 yb.toInt.toNat (-1)) _
    refine Pa.iinc (x := ym) (c := (-1)) (v := (ym + (-1))) (l' := [(7, .int (ym + (-1))), (0, .ref 69), (1, .int yc), (2, .int yr), (3, .int yt), (4, .long ys), (6, .int yw), (8, .int yb), (9, .int yi), (11, .int yn)]) (by rfl) (by rfl) (by decide) (by rfl) (by rfl) ?_
    refine Pa.mp 1 (pc' := 209) (l' := [(7, .int (ym + (-1))), (0, .ref 69), (1, .int yc), (2, .int yr), (3, .int yt), (4, .long ys), (6, .int yw), (8, .int yb), (9, .int yi), (11, .int yn)]) (st' := []) (by rfl) ?_
    refine Pa.lv (l' := [(0, .ref 69), (1, .int yc), (2, .int yr), (3, .int yt), (4, .long ys), (6, .int yw), (7, .int (ym + (-1))), (8, .int yb), (9, .int yi), (11, .int yn)]) (lvS_c rfl (lvS_c rfl (lvS_c rfl (lvS_c rfl (lvS_c rfl (lvS_c rfl (lvS_c rfl (lvS_c rfl (lvS_c rfl (lvS_c rfl (lvS_nil))))))))))) rfl ?_
    exact l1 h1 h3 h4
  · have h2 : yi.toInt < (yA.1 69 57).toInt := h2
    refine Pa.mp 1 (pc' := 230) (l' := [(0, .ref 69), (1, .int yc), (2, .int yr), (3, .int yt), (4, .long ys), (6, .int yw), (7, .int ym), (8, .int yb), (9, .int yi), (11, .int yn)]) (st' := [.ref 69]) (by rfl) ?_
    refine Pa.gfR (by rfl) (by rfl) (.inl rfl) (by rfl) ?_
    show Pa N 229 233 [(0, .ref 69), (1, .int yc), (2, .int yr), (3, .int yt), (4, .long ys), (6, .int yw), (7, .int ym), (8, .int yb), (9, .int yi), (11, .int yn)] [.ref 121] yA _
    refine Pa.mp 1 (pc' := 235) (l' := [(0, .ref 69), (1, .int yc), (2, .int yr), (3, .int yt), (4, .long ys), (6, .int yw), (7, .int ym), (8, .int yb), (9, .int yi), (11, .int yn)]) (st' := [.int yi, .ref 121]) (by rfl) ?_
    refine Pa.jlds (v := yA.2.1 121 yi.toInt.toNat) (by rfl) (by rfl) (by rfl) (fun h9 h10 => ?_)
    have h9 : 0 ≤ yi.toInt := h9
    have h10 : yi.toInt < 60 := h10
    refine Pa.mp 1 (pc' := 237) (l' := [(0, .ref 69), (1, .int yc), (2, .int yr), (3, .int yt), (4, .long ys), (6, .int yw), (7, .int ym), (8, .int yb), (9, .int yi), (11, .int yn)]) (st' := [.ref 69, .long (yA.2.1 121 yi.toInt.toNat)]) (by rfl) ?_
    refine Pa.gfR (by rfl) (by rfl) (.inl rfl) (by rfl) ?_
    show Pa N 229 240 [(0, .ref 69), (1, .int yc), (2, .int yr), (3, .int yt), (4, .long ys), (6, .int yw), (7, .int ym), (8, .int yb), (9, .int yi), (11, .int yn)] [.ref 121, .long (yA.2.1 121 yi.toInt.toNat)] yA _
    refine Pa.mp 1 (pc' := 242) (l' := [(0, .ref 69), (1, .int yc), (2, .int yr), (3, .int yt), (4, .long ys), (6, .int yw), (7, .int ym), (8, .int yb), (9, .int yi), (11, .int yn)]) (st' := [.int yb, .ref 121, .long (yA.2.1 121 yi.toInt.toNat)]) (by rfl) ?_
    refine Pa.jlds (v := yA.2.1 121 yb.toInt.toNat) (by rfl) (by rfl) (by rfl) (fun h11 h12 => ?_)
    have h11 : 0 ≤ yb.toInt := h11
    have h12 : yb.toInt < 60 := h12
    refine Pa.mp 1 (pc' := 244) (l' := [(0, .ref 69), (1, .int yc), (2, .int yr), (3, .int yt), (4, .long ys), (6, .int yw), (7, .int ym), (8, .int yb), (9, .int yi), (11, .int yn)]) (st' := [.int (lg_cmp (yA.2.1 121 yi.toInt.toNat) (yA.2.1 121 yb.toInt.toNat))]) (by rfl) ?_
    refine Pa.if1 (a := (lg_cmp (yA.2.1 121 yi.toInt.toNat) (yA.2.1 121 yb.toInt.toNat)).toInt) (t := 252) (by rfl) (by rfl) (rfl) (fun h13 => ?_) (fun h14 => ?_)
    · have h13 : (lg_cmp (yA.2.1 121 yi.toInt.toNat) (yA.2.1 121 yb.toInt.toNat)).toInt ≤ 0 := h13
      refine Pa.mp 2 (pc' := 256) (l' := [(8, .int yb), (0, .ref 69), (1, .int yc), (2, .int yr), (3, .int yt), (4, .long ys), (6, .int yw), (7, .int ym), (9, .int yi), (11, .int yn)]) (st' := []) (by rfl) ?_
      refine Pa.iinc (x := yi) (c := 1) (v := (yi + 1)) (l' := [(9, .int (yi + 1)), (8, .int yb), (0, .ref 69), (1, .int yc), (2, .int yr), (3, .int yt), (4, .long ys), (6, .int yw), (7, .int ym), (11, .int yn)]) (by rfl) (by rfl) (by decide) (by rfl) (by rfl) ?_
      refine Pa.mp 1 (pc' := 220) (l' := [(9, .int (yi + 1)), (8, .int yb), (0, .ref 69), (1, .int yc), (2, .int yr), (3, .int yt), (4, .long ys), (6, .int yw), (7, .int ym), (11, .int yn)]) (st' := []) (by rfl) ?_
      refine Pa.lv (l' := [(0, .ref 69), (1, .int yc), (2, .int yr), (3, .int yt), (4, .long ys), (6, .int yw), (7, .int ym), (8, .int yb), (9, .int (yi + 1)), (11, .int yn)]) (lvS_c rfl (lvS_c rfl (lvS_c rfl (lvS_c rfl (lvS_c rfl (lvS_c rfl (lvS_c rfl (lvS_c rfl (lvS_c rfl (lvS_c rfl (lvS_nil))))))))))) rfl ?_
      exact l2 h2 h9 h10 h11 h12 h13
    · have h14 : 0 < (lg_cmp (yA.2.1 121 yi.toInt.toNat) (yA.2.1 121 yb.toInt.toNat)).toInt := h14
      refine Pa.mp 3 (pc' := 256) (l' := [(8, .int yi), (0, .ref 69), (1, .int yc), (2, .int yr), (3, .int yt), (4, .long ys), (6, .int yw), (7, .int ym), (9, .int yi), (11, .int yn)]) (st' := []) (by rfl) ?_
      refine Pa.iinc (x := yi) (c := 1) (v := (yi + 1)) (l' := [(9, .int (yi + 1)), (8, .int yi), (0, .ref 69), (1, .int yc), (2, .int yr), (3, .int yt), (4, .long ys), (6, .int yw), (7, .int ym), (11, .int yn)]) (by rfl) (by rfl) (by decide) (by rfl) (by rfl) ?_
      refine Pa.mp 1 (pc' := 220) (l' := [(9, .int (yi + 1)), (8, .int yi), (0, .ref 69), (1, .int yc), (2, .int yr), (3, .int yt), (4, .long ys), (6, .int yw), (7, .int ym), (11, .int yn)]) (st' := []) (by rfl) ?_
      refine Pa.lv (l' := [(0, .ref 69), (1, .int yc), (2, .int yr), (3, .int yt), (4, .long ys), (6, .int yw), (7, .int ym), (8, .int yi), (9, .int (yi + 1)), (11, .int yn)]) (lvS_c rfl (lvS_c rfl (lvS_c rfl (lvS_c rfl (lvS_c rfl (lvS_c rfl (lvS_c rfl (lvS_c rfl (lvS_c rfl (lvS_c rfl (lvS_nil))))))))))) rfl ?_
      exact l3 h2 h9 h10 h11 h12 h14

/-- ones ygo to the greatest rests, by the reference -/
theorem c_whM {yW : AW} {yn : Nat} {yF : Nat → Int32} (hn : yn ≤ 60) (eT : ∀ yU, exI 114 yW yU → (yU.1 69 57).toInt = (yn : Int)) (yc yr yt yw : Int32) (yS : Int64) : ∀ N : Nat, (∀ (yk : Nat) (yU : AW) (ys yq : Nat → Int64) (yH : Nat → Int32) (ym yb nn : Int32) (yx : Value), ym.toInt = (yk : Int) → yk ≤ pcN ys yn → rOK yn ys yq → exI 114 yW yU → (∀ yj, yj < yn → yU.2.1 121 yj = yq yj) → (∀ yj, yj < 60 → yU.1 114 yj = yH yj) → (∀ yj, yj < 60 → dst yn yk ys yH yj = yF yj) → Pa N 229 209 [(0, .ref 69), (1, .int yc), (2, .int yr), (3, .int yt), (4, .long yS), (6, .int yw), (7, .int ym), (8, .int yb), (9, yx), (11, .int nn)] [] yU (fun yv A1 => yv = some (.int yw) ∧ exI 114 yW A1 ∧ ∀ yj, yj < 60 → A1.1 114 yj = yF yj)) ∧ (∀ (yk : Nat) (yU : AW) (ys yq : Nat → Int64) (yH : Nat → Int32) (ym nn : Int32) (yi : Nat), ym.toInt = ((yk + 1 : Nat) : Int) → yk + 1 ≤ pcN ys yn → rOK yn ys yq → exI 114 yW yU → (∀ yj, yj < yn → yU.2.1 121 yj = yq yj) → (∀ yj, yj < 60 → yU.1 114 yj = yH yj) → (∀ yj, yj < 60 → dst yn (yk + 1) ys yH yj = yF yj) → yi + 1 ≤ yn → Pa N 229 220 [(0, .ref 69), (1, .int yc), (2, .int yr), (3, .int yt), (4, .long yS), (6, .int yw), (7, .int ym), (8, .int (Int32.ofNat (bsI yq yi))), (9, .int (Int32.ofNat (yi + 1))), (11, .int nn)] [] yU (fun yv A1 => yv = some (.int yw) ∧ exI 114 yW A1 ∧ ∀ yj, yj < 60 → A1.1 114 yj = yF yj)) := by
  intro N
  induction N with
  | zero => exact ⟨fun _ _ _ _ _ _ _ _ _ _ _ _ _ _ _ _ => Pa.zero, fun _ _ _ _ _ _ _ _ _ _ _ _ _ _ _ _ => Pa.zero⟩
  | succ N yih =>
    refine ⟨fun yk yU ys yq yH ym yb nn yx yhm hk ho hx h1 h2 h4 => ?_, fun yk yU ys yq yH ym nn yi yhm hk ho hx h1 h2 h4 yhi => ?_⟩
    · have hp := pcN_le (yr := ys) (yn := yn)
      refine bm_rp3 yc yr yt yw ym yb nn yS yx ?_ ?_ <;> rw [yhm]
      · intro yz
        have ye : yk = 0 := by omega
        subst ye
        exact ⟨rfl, hx, fun yj hj => (h2 yj hj).trans (h4 yj hj)⟩
      · intro yz
        obtain ⟨k', rfl⟩ : ∃ k', yk = k' + 1 := ⟨yk - 1, by omega⟩
        exact yih.2 k' yU ys yq yH ym nn 0 yhm hk ho hx h1 h2 h4 (by omega)
    · have hp := pcN_le (yr := ys) (yn := yn)
      have ei : (Int32.ofNat (yi + 1)).toInt = ((yi + 1 : Nat) : Int) := i32_nat (by omega)
      have hbl := bsI_le (yr := yq) (yi := yi)
      have eb : (Int32.ofNat (bsI yq yi)).toInt = (bsI yq yi : Int) := i32_nat (by omega)
      have e57 := eT yU hx
      refine bm_rp4 yc yr yt yw ym (Int32.ofNat (bsI yq yi)) (Int32.ofNat (yi + 1)) nn yS ?_ ?_ ?_ <;> rw [ei, e57] <;> (try rw [eb]) <;> (try rw [Int.toNat_natCast]) <;> (try rw [Int.toNat_natCast])
      · intro yq1 _ _
        have ye : yi = yn - 1 := by omega
        have yhb := bsI_pos (yr := ys) (yn := yn) (by omega)
        have be := rOK_bs ho (by omega)
        rw [← ye] at yhb be
        have hu := pcN_up yhb.2 (yn := yn) yhb.1
        rw [be]
        exact yih.1 yk (uJ (uI yU 114 (bsI ys yi) (yU.1 114 (bsI ys yi) + 1)) 121 (bsI ys yi) (-1)) (updJ ys (bsI ys yi) (Int64.ofNat 0)) (updJ yq (bsI ys yi) (-1)) (updF yH (bsI ys yi) (yH (bsI ys yi) + 1)) (ym + (-1)) (Int32.ofNat (bsI ys yi)) nn (.int (Int32.ofNat (yi + 1))) (i_pre yhm (by omega)).2 (by omega) (rOK_up ho (by rw [lg_m]; omega)) (exI_J (exI_I hx)) (fun yj hj => by
          rw [uJ_row, uI_J]
          show _ = (if yj = bsI ys yi then (-1 : Int64) else yq yj)
          by_cases yz : yj = bsI ys yi
          · rw [if_pos yz, if_pos yz]
          · rw [if_neg yz, if_neg yz]
            exact h1 yj hj) (fun yj hj => by
          rw [uJ_I, uI_row]
          show _ = (if yj = bsI ys yi then yH (bsI ys yi) + 1 else yH yj)
          by_cases yz : yj = bsI ys yi
          · rw [if_pos yz, if_pos yz, h2 (bsI ys yi) (by omega)]
          · rw [if_neg yz, if_neg yz]
            exact h2 yj hj) (fun yj hj => by
          rw [← h4 yj hj]
          show _ = dst yn yk (updJ ys (bsI ys (yn - 1)) (Int64.ofNat 0)) (updF yH (bsI ys (yn - 1)) (yH (bsI ys (yn - 1)) + 1)) yj
          rw [← ye])
      · intro yq1 _ _ _ _ yq6
        have sg := lg_sign (yU.2.1 121 (yi + 1)) (yU.2.1 121 (bsI yq yi))
        rw [h1 (yi + 1) (by omega), h1 (bsI yq yi) (by omega)] at sg
        rw [h1 (yi + 1) (by omega), h1 (bsI yq yi) (by omega)] at yq6
        have ye : bsI yq (yi + 1) = bsI yq yi := if_neg (by omega)
        have yh := yih.2 yk yU ys yq yH ym nn (yi + 1) yhm hk ho hx h1 h2 h4 (by omega)
        rw [ye, on_succ (yi + 1)] at yh
        exact yh
      · intro yq1 _ _ _ _ yq6
        have sg := lg_sign (yU.2.1 121 (yi + 1)) (yU.2.1 121 (bsI yq yi))
        rw [h1 (yi + 1) (by omega), h1 (bsI yq yi) (by omega)] at sg
        rw [h1 (yi + 1) (by omega), h1 (bsI yq yi) (by omega)] at yq6
        have ye : bsI yq (yi + 1) = yi + 1 := if_pos (by omega)
        have yh := yih.2 yk yU ys yq yH ym nn (yi + 1) yhm hk ho hx h1 h2 h4 (by omega)
        rw [ye, on_succ (yi + 1)] at yh
        exact yh
/-- ya rank, with the number that is dealt yout -/
theorem c_rnM {yA yW : AW} (yc yr yt yw : Int32) (yG : Nat → Int32) (yS : Int64) (T : Int) (yh : okR yA yc yr yG yS yw T) (e57 : yW.1 69 57 = yA.1 69 57) (er : ∀ yd yj, yd = 111 ∨ yd = 112 ∨ yd = 113 → yW.1 yd yj = yA.1 yd yj) (eG : ∀ yj, yj < 60 → yW.1 114 yj = yG yj) (N : Nat) : Pa N 229 101 [(0, .ref 69), (1, .int yc), (2, .int yr), (3, .int yt), (4, .long yS), (6, .int yw), (7, .int yw), (8, .int 0), (9, .long (Int64.ofNat 0)), (11, .int 0)] [] yW (fun yv A1 => yv = some (.int yw) ∧ exI 114 yW A1 ∧ ∀ yj, yj < 60 → A1.1 114 yj = dst (lnT yA) (lfR yA yc yr yG yS yw (lnT yA)).toInt.toNat (rsV yA yc yr yG yS yw) (g1V yA yc yr yG yS yw) yj) := by
  have h60 := yh.2.2.2.2.2.2
  obtain ⟨mm, ym1, ym2, ym3⟩ := lf_pc yh
  have ykey : ∀ (N yi : Nat) (yU : AW) (yz : Int64) (nn : Int32), yi ≤ lnT yA → exI 114 yW yU → (∀ yj, yj < yi → yU.1 114 yj = g1V yA yc yr yG yS yw yj ∧ ((lnM yA yc yr yj ∧ yU.2.1 121 yj = rsV yA yc yr yG yS yw yj) ∨ (¬ lnM yA yc yr yj ∧ yU.2.1 121 yj = -1))) → (∀ yj, yi ≤ yj → yj < 60 → yU.1 114 yj = yG yj) → Pa N 229 101 [(0, .ref 69), (1, .int yc), (2, .int yr), (3, .int yt), (4, .long yS), (6, .int yw), (7, .int (lfR yA yc yr yG yS yw yi)), (8, .int (Int32.ofNat yi)), (9, .long yz), (11, .int nn)] [] yU (fun yv A1 => yv = some (.int yw) ∧ exI 114 yW A1 ∧ ∀ yj, yj < 60 → A1.1 114 yj = dst (lnT yA) (lfR yA yc yr yG yS yw (lnT yA)).toInt.toNat (rsV yA yc yr yG yS yw) (g1V yA yc yr yG yS yw) yj) := by
    intro N
    rw [ym1, Int.toNat_natCast]
    induction N with
    | zero => intros; exact Pa.zero
    | succ N yih =>
      intro yi yU yz nn yhi hx h1 h2
      have ei : (Int32.ofNat yi).toInt = (yi : Int) := i32_nat (by omega)
      have eT : ∀ yU, exI 114 yW yU → (yU.1 69 57).toInt = (lnT yA : Int) := fun yU hx => by
        have yb := (sX_b yh.1 (yc := yc) (yr := yr) (yn := lnT yA)).1
        have l0 : 0 ≤ (yA.1 69 57).toInt := by
          rcases Int.lt_or_le (yA.1 69 57).toInt 0 with yq | yq
          · exfalso
            have ye0 : lnT yA = 0 := by
              unfold lnT
              omega
            have ye1 := yh.2.2.2.2.2.1
            rw [ye0] at ye1
            have ye2 : sX yA yc yr yG 0 = 0 := rfl
            have := yh.2.2.1
            omega
          · exact yq
        rw [hx.1 69 57 (by decide), e57]
        unfold lnT
        omega
      have u57 := eT yU hx
      have ur : ∀ yd, yd = 111 ∨ yd = 112 ∨ yd = 113 → yU.1 yd yi = yA.1 yd yi := fun yd yhd => (hx.1 yd yi (by omega)).trans (er yd yi yhd)
      have yn0 : yi < lnT yA → ¬ lnM yA yc yr yi → Pa N 229 101 [(0, .ref 69), (1, .int yc), (2, .int yr), (3, .int yt), (4, .long yS), (6, .int yw), (7, .int (lfR yA yc yr yG yS yw yi)), (8, .int (Int32.ofNat yi + 1)), (9, .long yz), (11, .int nn)] [] (uJ yU 121 yi (-1)) (fun yv A1 => yv = some (.int yw) ∧ exI 114 yW A1 ∧ ∀ yj, yj < 60 → A1.1 114 yj = dst (lnT yA) mm (rsV yA yc yr yG yS yw) (g1V yA yc yr yG yS yw) yj) := fun hiq hn => by
        have h' := yih (yi + 1) (uJ yU 121 yi (-1)) yz nn (by omega) (exI_J hx) (fun yj hj => by
          rw [uJ_I, uJ_row]
          by_cases ye : yj = yi
          · rw [if_pos ye, ye, h2 yi (Nat.le_refl yi) (by omega)]
            exact ⟨(if_neg hn : g1V yA yc yr yG yS yw yi = yG yi).symm, .inr ⟨hn, rfl⟩⟩
          · rw [if_neg ye]
            exact h1 yj (by omega)) (fun yj hj hj6 => by
          rw [uJ_I]
          exact h2 yj (by omega) hj6)
        have ye : lfR yA yc yr yG yS yw (yi + 1) = lfR yA yc yr yG yS yw yi := if_neg hn
        rw [ye, on_succ yi] at h'
        exact h'
      refine bm_rp2 yc yr yt yw _ (Int32.ofNat yi) nn yS yz ?_ ?_ ?_ ?_ <;> rw [ei, u57] <;> (try rw [Int.toNat_natCast])
      · intro yq
        have ye : yi = lnT yA := by omega
        subst ye
        exact (c_whM (yn := lnT yA) (yF := dst (lnT yA) mm (rsV yA yc yr yG yS yw) (g1V yA yc yr yG yS yw)) h60 eT yc yr yt yw yS N).1 mm yU (rsV yA yc yr yG yS yw) (yU.2.1 121) (g1V yA yc yr yG yS yw) _ _ nn (.long yz) ym1 ym2 (fun yj hj => by
          have yb := rsV_0 yh yj
          rcases (h1 yj hj).2 with ⟨y1, y2⟩ | ⟨y1, y2⟩
          · rw [y2]
            by_cases yq : 0 < (rsV yA yc yr yG yS yw yj).toInt
            · exact .inl ⟨yq, rfl⟩
            · exact .inr ⟨by omega, by omega⟩
          · have ye0 : rsV yA yc yr yG yS yw yj = Int64.ofNat 0 := if_neg y1
            rw [y2, ye0, lg_m, lg_0]
            exact .inr ⟨rfl, by omega⟩) hx (fun yj hj => rfl) (fun yj hj => by
          by_cases ye : yj < lnT yA
          · exact (h1 yj ye).1
          · rw [h2 yj (by omega) hj]
            exact (if_neg (fun yz => ye yz.1) : g1V yA yc yr yG yS yw yj = yG yj).symm) (fun yj hj => rfl)
      · intro yq1 _ yq3 yq4
        rw [ur 111 (.inl rfl)] at yq4
        exact yn0 (by omega) (fun yz => yq4 yz.2.1)
      · intro yq1 _ yq3 yq4 yq5
        rw [ur 113 (.inr (.inr rfl))] at yq5
        exact yn0 (by omega) (fun yz => yq5 yz.2.2)
      · intro yq1 _ yq3 yq4 yq5
        rw [ur 111 (.inl rfl)] at yq4
        rw [ur 113 (.inr (.inr rfl))] at yq5
        rw [ur 112 (.inr (.inl rfl)), h2 yi (Nat.le_refl yi) (by omega), Int64.mul_comm yw.toInt64]
        have yhm : lnM yA yc yr yi := ⟨by omega, yq4, yq5⟩
        have h' := yih (yi + 1) (uI (uJ (uJ yU 121 yi (-1)) 121 yi (ptV yA yG yw yi - ptV yA yG yw yi / yS * yS)) 114 yi (yG yi + (ptV yA yG yw yi / yS).toInt32)) (ptV yA yG yw yi) ((ptV yA yG yw yi / yS).toInt32) (by omega) (exI_I (exI_J (exI_J hx))) (fun yj hj => by
          rw [uI_J, uJ_row, uI_row]
          by_cases ye : yj = yi
          · rw [if_pos ye, if_pos ye, ye]
            exact ⟨(if_pos yhm : g1V yA yc yr yG yS yw yi = _).symm, .inl ⟨yhm, (if_pos yhm : rsV yA yc yr yG yS yw yi = _).symm⟩⟩
          · rw [if_neg ye, if_neg ye, uJ_k ye, uJ_I, uJ_I]
            exact h1 yj (by omega)) (fun yj hj hj6 => by
          rw [uI_k (by omega), uJ_I, uJ_I]
          exact h2 yj (by omega) hj6)
        have ye : lfR yA yc yr yG yS yw (yi + 1) = lfR yA yc yr yG yS yw yi - (ptV yA yG yw yi / yS).toInt32 := if_pos yhm
        rw [ye, on_succ yi] at h'
        exact h'
  exact ykey N 0 yW _ _ (Nat.zero_le _) (exI_refl 114 yW) (fun yj hj => absurd hj (Nat.not_lt_zero yj)) (fun yj _ hj => eG yj hj)
/-- nothing is dealt yout of nothing -/
theorem rp_w0 {yA : AW} {yc yr yw : Int32} {yG : Nat → Int32} {yS : Int64} {T : Int} (yh : okR yA yc yr yG yS yw T) (hw : yw.toInt = 0) (yj : Nat) : dst (lnT yA) (lfR yA yc yr yG yS yw (lnT yA)).toInt.toNat (rsV yA yc yr yG yS yw) (g1V yA yc yr yG yS yw) yj = yG yj := by
  have ye := lfR_I yh (Nat.le_refl (lnT yA))
  have q0 := (sQR yh (yn := lnT yA)).2.1
  have ye0 : (lfR yA yc yr yG yS yw (lnT yA)).toInt.toNat = 0 := by omega
  rw [ye0]
  show g1V yA yc yr yG yS yw yj = yG yj
  unfold g1V
  split
  · next yhm =>
    have yha := (yh.one yhm).1
    rw [hw, Int.mul_zero, Int.zero_ediv] at yha
    have yz : (ptV yA yG yw yj / yS).toInt32 = 0 := i32_ext (yha.trans (by decide))
    rw [yz, Int32.add_zero]
  · rfl
theorem c_rpM {yA yW : AW} (yc yr yt : Int32) (yG : Nat → Int32) (yg : gdG yA yG) (h60 : lnT yA ≤ 60) (yhT : 0 ≤ (yA.1 69 57).toInt) (ht : 0 ≤ yt.toInt) (e57 : yW.1 69 57 = yA.1 69 57) (er : ∀ yd yj, yd = 111 ∨ yd = 112 ∨ yd = 113 → yW.1 yd yj = yA.1 yd yj) (eG : ∀ yj, yj < 60 → yW.1 114 yj = yG yj) (N : Nat) : Pa N 229 0 [(0, .ref 69), (1, .int yc), (2, .int yr), (3, .int yt)] [] yW (fun yv A1 => ∃ yx : Int32, yv = some (.int yx) ∧ yt - yx = rpL yA yc yr yt yG ∧ exI 114 yW A1 ∧ ∀ yj, yj < 60 → A1.1 114 yj = rpG yA yc yr yt yG yj) := by
  have u57 : (yW.1 69 57).toInt = (lnT yA : Int) := by
    rw [e57]
    unfold lnT
    omega
  have key1 : ∀ (N yi : Nat), yi ≤ lnT yA → Pa N 229 6 [(0, .ref 69), (1, .int yc), (2, .int yr), (3, .int yt), (4, .long (owV yA yc yr yG yi)), (6, .int (Int32.ofNat yi))] [] yW (fun yv A1 => ∃ yx : Int32, yv = some (.int yx) ∧ yt - yx = rpL yA yc yr yt yG ∧ exI 114 yW A1 ∧ ∀ yj, yj < 60 → A1.1 114 yj = rpG yA yc yr yt yG yj) := by
    intro N
    induction N with
    | zero => intros; exact Pa.zero
    | succ N yih =>
      intro yi yhi
      have ei : (Int32.ofNat yi).toInt = (yi : Int) := i32_nat (by omega)
      have sg := lg_sign (owV yA yc yr yG yi) (Int64.ofNat 0)
      have ysg2 := lg_sign (owV yA yc yr yG yi) yt.toInt64
      rw [lg_0] at sg
      rw [Int32.toInt_toInt64] at ysg2
      have yn0 : yi < lnT yA → ¬ lnM yA yc yr yi → Pa N 229 6 [(0, .ref 69), (1, .int yc), (2, .int yr), (3, .int yt), (4, .long (owV yA yc yr yG yi + Int64.ofNat 0)), (6, .int (Int32.ofNat yi + 1))] [] yW (fun yv A1 => ∃ yx : Int32, yv = some (.int yx) ∧ yt - yx = rpL yA yc yr yt yG ∧ exI 114 yW A1 ∧ ∀ yj, yj < 60 → A1.1 114 yj = rpG yA yc yr yt yG yj) := fun hiq hn => by
        have yh := yih (yi + 1) (by omega)
        have ye : owV yA yc yr yG (yi + 1) = owV yA yc yr yG yi := if_neg hn
        rw [ye, on_succ yi] at yh
        rw [l_add0]
        exact yh
      refine bm_rp1 yc yr yt (Int32.ofNat yi) (owV yA yc yr yG yi) ?_ ?_ ?_ ?_ ?_ ?_ <;> rw [ei, u57] <;> (try rw [Int.toNat_natCast])
      · intro yq1 yq2 yq3
        have ye : yi = lnT yA := by omega
        subst ye
        have eo := owV_I yg (yc := yc) (yr := yr) h60
        have yb := (sX_b yg (yc := yc) (yr := yr) (yn := lnT yA)).1
        by_cases h1 : yt.toInt < 1
        · have hn : rpN yA yc yr yt yG := .inr h1
          have ho : okR yA yc yr yG (owV yA yc yr yG (lnT yA)) yt (sX yA yc yr yG (lnT yA)) := ⟨yg, eo, by omega, ht, by omega, rfl, h60⟩
          refine Pa.mono (c_rnM yc yr yt yt yG _ _ ho e57 er eG N) (fun yv A1 hv => ?_)
          obtain ⟨rfl, hx, hF⟩ := hv
          have eL : rpL yA yc yr yt yG = yt := if_pos hn
          have eR : rpG yA yc yr yt yG = yG := if_pos hn
          have yt0 : yt = 0 := i32_ext (by rw [show (0 : Int32).toInt = 0 from by decide]; omega)
          refine ⟨yt, rfl, ?_, hx, fun yj hj => ?_⟩
          · rw [eL, yt0]
            decide
          · rw [hF yj hj, rp_w0 ho (by omega) yj, eR]
        · have hn : ¬ rpN yA yc yr yt yG := fun yz => by rcases yz with yz | yz <;> omega
          have ho := (rp_ok yg h60 hn).1
          have ew : wpV yA yc yr yt yG = yt := by
            unfold wpV l_min
            rw [if_neg (fun yq => by
              have := Int64.lt_iff_toInt_lt.mp yq
              rw [Int32.toInt_toInt64] at this
              omega), Int32.toInt32_toInt64]
          rw [ew] at ho
          refine Pa.mono (c_rnM yc yr yt yt yG _ _ ho e57 er eG N) (fun yv A1 hv => ?_)
          obtain ⟨rfl, hx, hF⟩ := hv
          have eL : rpL yA yc yr yt yG = yt - wpV yA yc yr yt yG := if_neg hn
          refine ⟨yt, rfl, by rw [eL, ew], hx, fun yj hj => ?_⟩
          rw [hF yj hj]
          unfold rpG
          rw [if_neg hn, ew]
      · intro yq1 yq2 yq3
        have ye : yi = lnT yA := by omega
        subst ye
        have eo := owV_I yg (yc := yc) (yr := yr) h60
        have yb := (sX_b yg (yc := yc) (yr := yr) (yn := lnT yA)).1
        have hn : ¬ rpN yA yc yr yt yG := fun yz => by rcases yz with yz | yz <;> omega
        have ho := (rp_ok yg h60 hn).1
        have ew : wpV yA yc yr yt yG = (owV yA yc yr yG (lnT yA)).toInt32 := by
          unfold wpV l_min
          rw [if_pos (Int64.lt_iff_toInt_lt.mpr (by rw [Int32.toInt_toInt64]; omega))]
        rw [ew] at ho
        refine Pa.mono (c_rnM yc yr yt _ yG _ _ ho e57 er eG N) (fun yv A1 hv => ?_)
        obtain ⟨rfl, hx, hF⟩ := hv
        have eL : rpL yA yc yr yt yG = yt - wpV yA yc yr yt yG := if_neg hn
        refine ⟨_, rfl, by rw [eL, ew], hx, fun yj hj => ?_⟩
        rw [hF yj hj]
        unfold rpG
        rw [if_neg hn, ew]
      · intro yq1 yq2
        have ye : yi = lnT yA := by omega
        subst ye
        have hn : rpN yA yc yr yt yG := .inl (by omega)
        have eL : rpL yA yc yr yt yG = yt := if_pos hn
        have eR : rpG yA yc yr yt yG = yG := if_pos hn
        refine ⟨0, rfl, by rw [eL, Int32.sub_zero], exI_refl 114 yW, fun yj hj => ?_⟩
        rw [eR]
        exact eG yj hj
      · intro yq1 _ yq3 yq4
        rw [er 111 yi (.inl rfl)] at yq4
        exact yn0 (by omega) (fun yz => yq4 yz.2.1)
      · intro yq1 _ yq3 yq4 yq5
        rw [er 113 yi (.inr (.inr rfl))] at yq5
        exact yn0 (by omega) (fun yz => yq5 yz.2.2)
      · intro yq1 _ yq3 yq4 yq5
        rw [er 111 yi (.inl rfl)] at yq4
        rw [er 113 yi (.inr (.inr rfl))] at yq5
        rw [er 112 yi (.inr (.inl rfl)), eG yi (by omega)]
        have yhm : lnM yA yc yr yi := ⟨by omega, yq4, yq5⟩
        have yh := yih (yi + 1) (by omega)
        have ye : owV yA yc yr yG (yi + 1) = owV yA yc yr yG yi + lnX yA yG yi := if_pos yhm
        rw [ye, on_succ yi] at yh
        exact yh
  exact bm_rp0 yc yr yt (key1 N 0 (Nat.zero_le _))
