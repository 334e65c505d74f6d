/-! WHAT CERTIFICATES ARE GIVEN -/
/-- what yboth sides hold alike of the queue -/
def Rqx (yA : AW) : Prop := Rgx yA ∧ (yA.1 47 16 = yA.1 69 52) ∧ (∀ yj, yj < 60 → yA.1 49 yj = yA.1 106 yj) ∧ (∀ yj, yj < 60 → yA.1 50 yj = yA.1 107 yj) ∧ (∀ yj, yj < 60 → yA.1 48 yj = yA.1 105 yj) ∧ Rq yA
theorem Rqx.gx {yA : AW} (yh : Rqx yA) : Rgx yA := yh.1
theorem Rqx.fq {yA : AW} (yh : Rqx yA) : yA.1 47 16 = yA.1 69 52 := yh.2.1
theorem Rqx.r49 {yA : AW} (yh : Rqx yA) : ∀ yj, yj < 60 → yA.1 49 yj = yA.1 106 yj := yh.2.2.1
theorem Rqx.r50 {yA : AW} (yh : Rqx yA) : ∀ yj, yj < 60 → yA.1 50 yj = yA.1 107 yj := yh.2.2.2.1
theorem Rqx.r48 {yA : AW} (yh : Rqx yA) : ∀ yj, yj < 60 → yA.1 48 yj = yA.1 105 yj := yh.2.2.2.2.1
theorem Rqx.rq {yA : AW} (yh : Rqx yA) : Rq yA := yh.2.2.2.2.2
theorem Rqx.tQ {yA : AW} (yg : Rqx yA) : 0 ≤ (yA.1 69 52).toInt ∧ (yA.1 69 52).toInt ≤ 60 := yg.gx.gl.ok.fld (i := 69) (k := 52) (lo := 0) (hi := 60) (by decide +kernel)
theorem Rqx.l5 {yA : AW} (yg : Rqx yA) {yj : Nat} (yh : yj < 60) : 0 ≤ (yA.1 107 yj).toInt ∧ (yA.1 107 yj).toInt ≤ 5 := yg.gx.gl.ok.arr (i := 107) (t := 0) (n := 60) (by rfl) yh
theorem Rqx.f0 {yA : AW} (yg : Rqx yA) {yj : Nat} (yh : yj < 60) : 0 ≤ (yA.1 106 yj).toInt ∧ (yA.1 106 yj).toInt ≤ 19 := yg.gx.gl.ok.arr (i := 106) (t := 0) (n := 60) (by rfl) yh
theorem Rqx.dy {yA : AW} (yg : Rqx yA) : yA.1 0 10 = yA.1 69 0 := yg.gx.F11 ((0, 10), (69, 0)) (by simp [F11])
theorem Rqx.d9 {yA : AW} (yg : Rqx yA) : 0 ≤ (yA.1 69 0).toInt ∧ (yA.1 69 0).toInt ≤ 3599 := yg.gx.gl.ok.fld (i := 69) (k := 0) (lo := 0) (hi := 3599) (by decide +kernel)
def qT (yA : AW) : Nat := (yA.1 69 52).toInt.toNat
abbrev qOk (yA : AW) (l : Int32) (yy yi : Nat) : Prop := (yA.1 107 yi).toInt = l.toInt ∧ (yA.1 108 yi / 360).toInt ≤ (yy : Int)
/-- what is left of ya year's cap, ahead of the yi-th; V: what each wants yet -/
def lfV (yA : AW) (l : Int32) (yy : Nat) (V : Nat → Int32) (yt : Int32) : Nat → Int32
  | 0 => yt
  | yi + 1 => lfV yA l yy V yt yi - (if qOk yA l yy yi then i_min (V yi) (lfV yA l yy V yt yi) else 0)
def gtV (yA : AW) (l : Int32) (yy : Nat) (V : Nat → Int32) (yt : Int32) (yi : Nat) : Int32 := if qOk yA l yy yi then i_min (V yi) (lfV yA l yy V yt yi) else 0
theorem lfV_s {yA : AW} {l : Int32} {yy : Nat} {V : Nat → Int32} {yt : Int32} {yi : Nat} : lfV yA l yy V yt (yi + 1) = lfV yA l yy V yt yi - gtV yA l yy V yt yi := rfl
theorem gtV_1 {yA : AW} {l : Int32} {yy : Nat} {V : Nat → Int32} {yt : Int32} {yi : Nat} (yh : qOk yA l yy yi) : gtV yA l yy V yt yi = i_min (V yi) (lfV yA l yy V yt yi) := if_pos yh
theorem gtV_0 {yA : AW} {l : Int32} {yy : Nat} {V : Nat → Int32} {yt : Int32} {yi : Nat} (yh : ¬ qOk yA l yy yi) : gtV yA l yy V yt yi = 0 := if_neg yh
noncomputable def dqV (yA : AW) (l yk : Int32) (yi : Nat) : Int32 := if (yA.1 107 yi).toInt = l.toInt then duV yA (yA.1 106 yi) l yk else 0
theorem dqV_1 {yA : AW} {l yk : Int32} {yi : Nat} (yh : (yA.1 107 yi).toInt = l.toInt) : dqV yA l yk yi = duV yA (yA.1 106 yi) l yk := if_pos yh
theorem dqV_0 {yA : AW} {l yk : Int32} {yi : Nat} (yh : (yA.1 107 yi).toInt ≠ l.toInt) : dqV yA l yk yi = 0 := if_neg yh
def cpV (yA : AW) (l : Int32) (yy : Nat) : Int32 := yA.1 105 ((10 * l + Int32.ofNat yy).toInt.toNat)
/-- what each wants yet, ahead of ya year -/
noncomputable def wtV (yA : AW) (l yk : Int32) : Nat → Nat → Int32
  | 0 => fun yi => dqV yA l yk yi
  | yy + 1 => fun yi => wtV yA l yk yy yi - gtV yA l yy (wtV yA l yk yy) (cpV yA l yy) yi
noncomputable def gyV (yA : AW) (l yk : Int32) (yy yi : Nat) : Int32 := gtV yA l yy (wtV yA l yk yy) (cpV yA l yy) yi
/-- what each has, ahead of ya year -/
noncomputable def hsV (yA : AW) (l yk : Int32) : Nat → Nat → Int32
  | 0 => fun _ => 0
  | yy + 1 => fun yi => hsV yA l yk yy yi + gyV yA l yk yy yi
theorem wtV_s {yA : AW} {l yk : Int32} {yy yi : Nat} : wtV yA l yk (yy + 1) yi = wtV yA l yk yy yi - gyV yA l yk yy yi := rfl
theorem hsV_s {yA : AW} {l yk : Int32} {yy yi : Nat} : hsV yA l yk (yy + 1) yi = hsV yA l yk yy yi + gyV yA l yk yy yi := rfl
theorem wt_hs {yA : AW} {l yk : Int32} {yy yi : Nat} : wtV yA l yk yy yi = dqV yA l yk yi - hsV yA l yk yy yi := by
  induction yy with
  | zero => exact (Int32.sub_zero (dqV yA l yk yi)).symm
  | succ yy yih => rw [wtV_s, hsV_s, yih, Int32.sub_sub]
theorem wt_0 {yA : AW} {l yk : Int32} {yi yy : Nat} : wtV yA l yk yy yi = 0 ↔ hsV yA l yk yy yi = dqV yA l yk yi := by
  rw [wt_hs, ← Int32.sub_self (dqV yA l yk yi), Int32.sub_right_inj]
/-- the year in which one has all -/
abbrev whP (yA : AW) (l yk : Int32) (yc yy : Nat) : Prop := (yA.1 108 yc / 360).toInt ≤ (yy : Int) ∧ hsV yA l yk (yy + 1) yc = dqV yA l yk yc
noncomputable def whV (yA : AW) (l yk : Int32) (yc : Nat) : Nat → Int32
  | 0 => -4
  | yy + 1 => if whV yA l yk yc yy = -4 ∧ whP yA l yk yc yy then Int32.ofNat yy else whV yA l yk yc yy
theorem whV_1 {yA : AW} {l yk : Int32} {yc yy : Nat} (yh : whV yA l yk yc yy = -4) (h2 : whP yA l yk yc yy) : whV yA l yk yc (yy + 1) = Int32.ofNat yy := if_pos ⟨yh, h2⟩
theorem whV_0 {yA : AW} {l yk : Int32} {yc yy : Nat} (yh : ¬ (whV yA l yk yc yy = -4 ∧ whP yA l yk yc yy)) : whV yA l yk yc (yy + 1) = whV yA l yk yc yy := if_neg yh
theorem i_min1 {ya yb : Int32} (yh : yb.toInt ≤ ya.toInt) : i_min ya yb = yb := by
  unfold i_min
  by_cases yq : yb < ya
  · rw [if_pos yq]
  · have z2 : ¬ yb.toInt < ya.toInt := fun yz => yq (Int32.lt_iff_toInt_lt.mpr yz)
    rw [if_neg yq]
    exact i32_ext (by omega)
theorem i_min2 {ya yb : Int32} (yh : ya.toInt < yb.toInt) : i_min ya yb = ya := by
  unfold i_min
  rw [if_neg (fun yq => by have := Int32.lt_iff_toInt_lt.mp yq; omega)]
theorem i_d360 {yd : Int32} (h0 : 0 ≤ yd.toInt) : (yd / 360).toInt = yd.toInt / 360 := by
  rw [Int32.toInt_div_of_ne_right yd 360 (by decide), show (360 : Int32).toInt = 360 from by decide]
  exact Int.tdiv_eq_ediv_of_nonneg h0
/-! the class -/
theorem bx_dy0 {N : Nat} {yA : AW} {yQ : Option Value → AW → Prop} (yc l yy : Int32)
    (l1 : 0 ≤ ((l * 10) + yy).toInt → ((l * 10) + yy).toInt < 60 → Pa N 71 19 [(0, .ref 47), (1, .int yc), (2, .int l), (3, .int yy), (4, .int (yA.1 48 (((l * 10) + yy).toInt.toNat))), (5, .int 0), (6, .int 0)] [] yA yQ) :
    Pa N 71 0 [(0, .ref 47), (1, .int yc), (2, .int l), (3, .int yy)] [] yA yQ := by
  refine Pa.mp 1 (pc' := 1) (l' := [(0, .ref 47), (1, .int yc), (2, .int l), (3, .int yy)]) (st' := [.ref 47]) (by rfl) ?_
  refine Pa.gfR (by rfl) (by rfl) (.inl rfl) (by rfl) ?_
  show Pa N 71 4 [(0, .ref 47), (1, .int yc), (2, .int l), (3, .int yy)] [.ref 48] yA _
  refine Pa.mp 1 (pc' := 5) (l' := [(0, .ref 47), (1, .int yc), (2, .int l), (3, .int yy)]) (st' := [.int l, .ref 48]) (by rfl) ?_
  refine Pa.ic (x := 10) (pc' := 7) (by rfl) (by rfl) (by decide) ?_
  refine Pa.mp 3 (pc' := 10) (l' := [(0, .ref 47), (1, .int yc), (2, .int l), (3, .int yy)]) (st' := [.int ((l * 10) + yy), .ref 48]) (by rfl) ?_
  refine Pa.alds (v := yA.1 48 (((l * 10) + yy).toInt.toNat)) (by rfl) (by rfl) (by rfl) (fun h1 h2 => ?_)
  have h1 : 0 ≤ ((l * 10) + yy).toInt := h1
  have h2 : ((l * 10) + yy).toInt < 60 := h2
  refine Pa.mp 1 (pc' := 13) (l' := [(4, .int (yA.1 48 (((l * 10) + yy).toInt.toNat))), (0, .ref 47), (1, .int yc), (2, .int l), (3, .int yy)]) (st' := []) (by rfl) ?_
  refine Pa.ic (x := 0) (pc' := 14) (by rfl) (by rfl) (by decide) ?_
  refine Pa.mp 1 (pc' := 16) (l' := [(5, .int 0), (4, .int (yA.1 48 (((l * 10) + yy).toInt.toNat))), (0, .ref 47), (1, .int yc), (2, .int l), (3, .int yy)]) (st' := []) (by rfl) ?_
  refine Pa.ic (x := 0) (pc' := 17) (by rfl) (by rfl) (by decide) ?_
  refine Pa.mp 1 (pc' := 19) (l' := [(6, .int 0), (5, .int 0), (4, .int (yA.1 48 (((l * 10) + yy).toInt.toNat))), (0, .ref 47), (1, .int yc), (2, .int l), (3, .int yy)]) (st' := []) (by rfl) ?_
  refine Pa.lv (l' := [(0, .ref 47), (1, .int yc), (2, .int l), (3, .int yy), (4, .int (yA.1 48 (((l * 10) + yy).toInt.toNat))), (5, .int 0), (6, .int 0)]) (lvS_c rfl (lvS_c rfl (lvS_c rfl (lvS_c rfl (lvS_c rfl (lvS_c rfl (lvS_c rfl (lvS_nil)))))))) rfl ?_
  exact l1 h1 h2

theorem bx_dy {N : Nat} {yA : AW} {yQ : Option Value → AW → Prop} (yc l yy yt yg yi : Int32)
    (l1 : yc.toInt < yi.toInt → yQ (some (.int yg)) yA)
    (l2 : yi.toInt ≤ yc.toInt → 0 ≤ yi.toInt → yi.toInt < 60 → (yA.1 50 yi.toInt.toNat).toInt ≠ l.toInt → Pa N 71 19 [(0, .ref 47), (1, .int yc), (2, .int l), (3, .int yy), (4, .int (yt - 0)), (5, .int 0), (6, .int (yi + 1))] [] (uI yA 54 yi.toInt.toNat ((yA.1 54 yi.toInt.toNat) - 0)) yQ)
    (l3 : yi.toInt ≤ yc.toInt → 0 ≤ yi.toInt → yi.toInt < 60 → (yA.1 50 yi.toInt.toNat).toInt = l.toInt → yy.toInt < (yA.1 51 yi.toInt.toNat).toInt → Pa N 71 19 [(0, .ref 47), (1, .int yc), (2, .int l), (3, .int yy), (4, .int (yt - 0)), (5, .int 0), (6, .int (yi + 1))] [] (uI yA 54 yi.toInt.toNat ((yA.1 54 yi.toInt.toNat) - 0)) yQ)
    (l4 : yi.toInt ≤ yc.toInt → 0 ≤ yi.toInt → yi.toInt < 60 → (yA.1 50 yi.toInt.toNat).toInt = l.toInt → (yA.1 51 yi.toInt.toNat).toInt ≤ yy.toInt → Pa N 71 19 [(0, .ref 47), (1, .int yc), (2, .int l), (3, .int yy), (4, .int (yt - (i_min (yA.1 54 yi.toInt.toNat) yt))), (5, .int (i_min (yA.1 54 yi.toInt.toNat) yt)), (6, .int (yi + 1))] [] (uI yA 54 yi.toInt.toNat ((yA.1 54 yi.toInt.toNat) - (i_min (yA.1 54 yi.toInt.toNat) yt))) yQ) :
    Pa (N + 1) 71 19 [(0, .ref 47), (1, .int yc), (2, .int l), (3, .int yy), (4, .int yt), (5, .int yg), (6, .int yi)] [] yA yQ := by
  refine Pa.mp1 1 (pc' := 22) (l' := [(0, .ref 47), (1, .int yc), (2, .int l), (3, .int yy), (4, .int yt), (5, .int yg), (6, .int yi)]) (st' := [.int yc, .int yi]) (by rfl) ?_
  refine Pa.if2 (a := yi.toInt) (b := yc.toInt) (t := 90) (by rfl) (by rfl) (rfl) (rfl) (fun h1 => ?_) (fun h2 => ?_)
  · have h1 : yc.toInt < yi.toInt := h1
    refine Pa.mp 1 (pc' := 92) (l' := [(0, .ref 47), (1, .int yc), (2, .int l), (3, .int yy), (4, .int yt), (5, .int yg), (6, .int yi)]) (st' := [.int yg]) (by rfl) ?_
    refine Pa.iret (by rfl) ?_
    exact l1 h1
  · have h2 : yi.toInt ≤ yc.toInt := h2
    refine Pa.mp 1 (pc' := 26) (l' := [(0, .ref 47), (1, .int yc), (2, .int l), (3, .int yy), (4, .int yt), (5, .int yg), (6, .int yi)]) (st' := [.ref 47]) (by rfl) ?_
    refine Pa.gfR (by rfl) (by rfl) (.inl rfl) (by rfl) ?_
    show Pa N 71 29 [(0, .ref 47), (1, .int yc), (2, .int l), (3, .int yy), (4, .int yt), (5, .int yg), (6, .int yi)] [.ref 50] yA _
    refine Pa.mp 1 (pc' := 31) (l' := [(0, .ref 47), (1, .int yc), (2, .int l), (3, .int yy), (4, .int yt), (5, .int yg), (6, .int yi)]) (st' := [.int yi, .ref 50]) (by rfl) ?_
    refine Pa.alds (v := yA.1 50 yi.toInt.toNat) (by rfl) (by rfl) (by rfl) (fun h3 h4 => ?_)
    have h3 : 0 ≤ yi.toInt := h3
    have h4 : yi.toInt < 60 := h4
    refine Pa.mp 1 (pc' := 33) (l' := [(0, .ref 47), (1, .int yc), (2, .int l), (3, .int yy), (4, .int yt), (5, .int yg), (6, .int yi)]) (st' := [.int l, .int (yA.1 50 yi.toInt.toNat)]) (by rfl) ?_
    refine Pa.if2 (a := (yA.1 50 yi.toInt.toNat).toInt) (b := l.toInt) (t := 62) (by rfl) (by rfl) (rfl) (rfl) (fun h5 => ?_) (fun h6 => ?_)
    · have h5 : (yA.1 50 yi.toInt.toNat).toInt ≠ l.toInt := h5
      refine Pa.ic (x := 0) (pc' := 63) (by rfl) (by rfl) (by decide) ?_
      refine Pa.mp 2 (pc' := 66) (l' := [(5, .int 0), (0, .ref 47), (1, .int yc), (2, .int l), (3, .int yy), (4, .int yt), (6, .int yi)]) (st' := [.ref 47]) (by rfl) ?_
      refine Pa.gfR (by rfl) (by rfl) (.inl rfl) (by rfl) ?_
      show Pa N 71 69 [(5, .int 0), (0, .ref 47), (1, .int yc), (2, .int l), (3, .int yy), (4, .int yt), (6, .int yi)] [.ref 54] yA _
      refine Pa.mp 2 (pc' := 72) (l' := [(5, .int 0), (0, .ref 47), (1, .int yc), (2, .int l), (3, .int yy), (4, .int yt), (6, .int yi)]) (st' := [.int yi, .ref 54, .int yi, .ref 54]) (by rfl) ?_
      refine Pa.alds (v := yA.1 54 yi.toInt.toNat) (by rfl) (by rfl) (by rfl) (fun h7 h8 => ?_)
      have h7 : 0 ≤ yi.toInt := h7
      have h8 : yi.toInt < 60 := h8
      refine Pa.mp 2 (pc' := 76) (l' := [(5, .int 0), (0, .ref 47), (1, .int yc), (2, .int l), (3, .int yy), (4, .int yt), (6, .int yi)]) (st' := [.int ((yA.1 54 yi.toInt.toNat) - 0), .int yi, .ref 54]) (by rfl) ?_
      refine Pa.asts (j' := yi.toInt.toNat) (by rfl) (by rfl) (by rfl) (fun h9 h10 => ?_)
      have h9 : 0 ≤ yi.toInt := h9
      have h10 : yi.toInt < 60 := h10
      show Pa N 71 77 [(5, .int 0), (0, .ref 47), (1, .int yc), (2, .int l), (3, .int yy), (4, .int yt), (6, .int yi)] [] (uI yA 54 yi.toInt.toNat ((yA.1 54 yi.toInt.toNat) - 0)) _
      refine Pa.mp 4 (pc' := 84) (l' := [(4, .int (yt - 0)), (5, .int 0), (0, .ref 47), (1, .int yc), (2, .int l), (3, .int yy), (6, .int yi)]) (st' := []) (by rfl) ?_
      refine Pa.iinc (x := yi) (c := 1) (v := (yi + 1)) (l' := [(6, .int (yi + 1)), (4, .int (yt - 0)), (5, .int 0), (0, .ref 47), (1, .int yc), (2, .int l), (3, .int yy)]) (by rfl) (by rfl) (by decide) (by rfl) (by rfl) ?_
      refine Pa.mp 1 (pc' := 19) (l' := [(6, .int (yi + 1)), (4, .int (yt - 0)), (5, .int 0), (0, .ref 47), (1, .int yc), (2, .int l), (3, .int yy)]) (st' := []) (by rfl) ?_
      refine Pa.lv (l' := [(0, .ref 47), (1, .int yc), (2, .int l), (3, .int yy), (4, .int (yt - 0)), (5, .int 0), (6, .int (yi + 1))]) (lvS_c rfl (lvS_c rfl (lvS_c rfl (lvS_c rfl (lvS_c rfl (lvS_c rfl (lvS_c rfl (lvS_nil)))))))) rfl ?_
      exact l2 h2 h3 h4 h5
    · have h6 : (yA.1 50 yi.toInt.toNat).toInt = l.toInt := h6
      refine Pa.mp 1 (pc' := 37) (l' := [(0, .ref 47), (1, .int yc), (2, .int l), (3, .int yy), (4, .int yt), (5, .int yg), (6, .int yi)]) (st' := [.ref 47]) (by rfl) ?_
      refine Pa.gfR (by rfl) (by rfl) (.inl rfl) (by rfl) ?_
      show Pa N 71 40 [(0, .ref 47), (1, .int yc), (2, .int l), (3, .int yy), (4, .int yt), (5, .int yg), (6, .int yi)] [.ref 51] yA _
      refine Pa.mp 1 (pc' := 42) (l' := [(0, .ref 47), (1, .int yc), (2, .int l), (3, .int yy), (4, .int yt), (5, .int yg), (6, .int yi)]) (st' := [.int yi, .ref 51]) (by rfl) ?_
      refine Pa.alds (v := yA.1 51 yi.toInt.toNat) (by rfl) (by rfl) (by rfl) (fun h11 h12 => ?_)
      have h11 : 0 ≤ yi.toInt := h11
      have h12 : yi.toInt < 60 := h12
      refine Pa.mp 1 (pc' := 44) (l' := [(0, .ref 47), (1, .int yc), (2, .int l), (3, .int yy), (4, .int yt), (5, .int yg), (6, .int yi)]) (st' := [.int yy, .int (yA.1 51 yi.toInt.toNat)]) (by rfl) ?_
      refine Pa.if2 (a := (yA.1 51 yi.toInt.toNat).toInt) (b := yy.toInt) (t := 62) (by rfl) (by rfl) (rfl) (rfl) (fun h13 => ?_) (fun h14 => ?_)
      · have h13 : yy.toInt < (yA.1 51 yi.toInt.toNat).toInt := h13
        refine Pa.ic (x := 0) (pc' := 63) (by rfl) (by rfl) (by decide) ?_
        refine Pa.mp 2 (pc' := 66) (l' := [(5, .int 0), (0, .ref 47), (1, .int yc), (2, .int l), (3, .int yy), (4, .int yt), (6, .int yi)]) (st' := [.ref 47]) (by rfl) ?_
        refine Pa.gfR (by rfl) (by rfl) (.inl rfl) (by rfl) ?_
        show Pa N 71 69 [(5, .int 0), (0, .ref 47), (1, .int yc), (2, .int l), (3, .int yy), (4, .int yt), (6, .int yi)] [.ref 54] yA _
        refine Pa.mp 2 (pc' := 72) (l' := [(5, .int 0), (0, .ref 47), (1, .int yc), (2, .int l), (3, .int yy), (4, .int yt), (6, .int yi)]) (st' := [.int yi, .ref 54, .int yi, .ref 54]) (by rfl) ?_
        refine Pa.alds (v := yA.1 54 yi.toInt.toNat) (by rfl) (by rfl) (by rfl) (fun h15 yh16 => ?_)
        have h15 : 0 ≤ yi.toInt := h15
        have yh16 : yi.toInt < 60 := yh16
        refine Pa.mp 2 (pc' := 76) (l' := [(5, .int 0), (0, .ref 47), (1, .int yc), (2, .int l), (3, .int yy), (4, .int yt), (6, .int yi)]) (st' := [.int ((yA.1 54 yi.toInt.toNat) - 0), .int yi, .ref 54]) (by rfl) ?_
        refine Pa.asts (j' := yi.toInt.toNat) (by rfl) (by rfl) (by rfl) (fun h17 h18 => ?_)
        have h17 : 0 ≤ yi.toInt := h17
        have h18 : yi.toInt < 60 := h18
        show Pa N 71 77 [(5, .int 0), (0, .ref 47), (1, .int yc), (2, .int l), (3, .int yy), (4, .int yt), (6, .int yi)] [] (uI yA 54 yi.toInt.toNat ((yA.1 54 yi.toInt.toNat) - 0)) _
        refine Pa.mp 4 (pc' := 84) (l' := [(4, .int (yt - 0)), (5, .int 0), (0, .ref 47), (1, .int yc), (2, .int l), (3, .int yy), (6, .int yi)]) (st' := []) (by rfl) ?_
        refine Pa.iinc (x := yi) (c := 1) (v := (yi + 1)) (l' := [(6, .int (yi + 1)), (4, .int (yt - 0)), (5, .int 0), (0, .ref 47), (1, .int yc), (2, .int l), (3, .int yy)]) (by rfl) (by rfl) (by decide) (by rfl) (by rfl) ?_
        refine Pa.mp 1 (pc' := 19) (l' := [(6, .int (yi + 1)), (4, .int (yt - 0)), (5, .int 0), (0, .ref 47), (1, .int yc), (2, .int l), (3, .int yy)]) (st' := []) (by rfl) ?_
        refine Pa.lv (l' := [(0, .ref 47), (1, .int yc), (2, .int l), (3, .int yy), (4, .int (yt - 0)), (5, .int 0), (6, .int (yi + 1))]) (lvS_c rfl (lvS_c rfl (lvS_c rfl (lvS_c rfl (lvS_c rfl (lvS_c rfl (lvS_c rfl (lvS_nil)))))))) rfl ?_
        exact l3 h2 h3 h4 h6 h13
      · have h14 : (yA.1 51 yi.toInt.toNat).toInt ≤ yy.toInt := h14
        refine Pa.mp 1 (pc' := 48) (l' := [(0, .ref 47), (1, .int yc), (2, .int l), (3, .int yy), (4, .int yt), (5, .int yg), (6, .int yi)]) (st' := [.ref 47]) (by rfl) ?_
        refine Pa.gfR (by rfl) (by rfl) (.inl rfl) (by rfl) ?_
        show Pa N 71 51 [(0, .ref 47), (1, .int yc), (2, .int l), (3, .int yy), (4, .int yt), (5, .int yg), (6, .int yi)] [.ref 54] yA _
        refine Pa.mp 1 (pc' := 53) (l' := [(0, .ref 47), (1, .int yc), (2, .int l), (3, .int yy), (4, .int yt), (5, .int yg), (6, .int yi)]) (st' := [.int yi, .ref 54]) (by rfl) ?_
        refine Pa.alds (v := yA.1 54 yi.toInt.toNat) (by rfl) (by rfl) (by rfl) (fun h19 h20 => ?_)
        have h19 : 0 ≤ yi.toInt := h19
        have h20 : yi.toInt < 60 := h20
        refine Pa.mp 1 (pc' := 56) (l' := [(0, .ref 47), (1, .int yc), (2, .int l), (3, .int yy), (4, .int yt), (5, .int yg), (6, .int yi)]) (st' := [.int yt, .int (yA.1 54 yi.toInt.toNat)]) (by rfl) ?_
        refine Pa.mth (by rfl) (by rfl) (by rfl) mm_min ?_
        refine Pa.mp 3 (pc' := 66) (l' := [(5, .int (i_min (yA.1 54 yi.toInt.toNat) yt)), (0, .ref 47), (1, .int yc), (2, .int l), (3, .int yy), (4, .int yt), (6, .int yi)]) (st' := [.ref 47]) (by rfl) ?_
        refine Pa.gfR (by rfl) (by rfl) (.inl rfl) (by rfl) ?_
        show Pa N 71 69 [(5, .int (i_min (yA.1 54 yi.toInt.toNat) yt)), (0, .ref 47), (1, .int yc), (2, .int l), (3, .int yy), (4, .int yt), (6, .int yi)] [.ref 54] yA _
        refine Pa.mp 2 (pc' := 72) (l' := [(5, .int (i_min (yA.1 54 yi.toInt.toNat) yt)), (0, .ref 47), (1, .int yc), (2, .int l), (3, .int yy), (4, .int yt), (6, .int yi)]) (st' := [.int yi, .ref 54, .int yi, .ref 54]) (by rfl) ?_
        refine Pa.alds (v := yA.1 54 yi.toInt.toNat) (by rfl) (by rfl) (by rfl) (fun h21 h22 => ?_)
        have h21 : 0 ≤ yi.toInt := h21
        have h22 : yi.toInt < 60 := h22
        refine Pa.mp 2 (pc' := 76) (l' := [(5, .int (i_min (yA.1 54 yi.toInt.toNat) yt)), (0, .ref 47), (1, .int yc), (2, .int l), (3, .int yy), (4, .int yt), (6, .int yi)]) (st' := [.int ((yA.1 54 yi.toInt.toNat) - (i_min (yA.1 54 yi.toInt.toNat) yt)), .int yi, .ref 54]) (by rfl) ?_
        refine Pa.asts (j' := yi.toInt.toNat) (by rfl) (by rfl) (by rfl) (fun h23 h24 => ?_)
        have h23 : 0 ≤ yi.toInt := h23
        have h24 : yi.toInt < 60 := h24
        show Pa N 71 77 [(5, .int (i_min (yA.1 54 yi.toInt.toNat) yt)), (0, .ref 47), (1, .int yc), (2, .int l), (3, .int yy), (4, .int yt), (6, .int yi)] [] (uI yA 54 yi.toInt.toNat ((yA.1 54 yi.toInt.toNat) - (i_min (yA.1 54 yi.toInt.toNat) yt))) _
        refine Pa.mp 4 (pc' := 84) (l' := [(4, .int (yt - (i_min (yA.1 54 yi.toInt.toNat) yt))), (5, .int (i_min (yA.1 54 yi.toInt.toNat) yt)), (0, .ref 47), (1, .int yc), (2, .int l), (3, .int yy), (6, .int yi)]) (st' := []) (by rfl) ?_
        refine Pa.iinc (x := yi) (c := 1) (v := (yi + 1)) (l' := [(6, .int (yi + 1)), (4, .int (yt - (i_min (yA.1 54 yi.toInt.toNat) yt))), (5, .int (i_min (yA.1 54 yi.toInt.toNat) yt)), (0, .ref 47), (1, .int yc), (2, .int l), (3, .int yy)]) (by rfl) (by rfl) (by decide) (by rfl) (by rfl) ?_
        refine Pa.mp 1 (pc' := 19) (l' := [(6, .int (yi + 1)), (4, .int (yt - (i_min (yA.1 54 yi.toInt.toNat) yt))), (5, .int (i_min (yA.1 54 yi.toInt.toNat) yt)), (0, .ref 47), (1, .int yc), (2, .int l), (3, .int yy)]) (st' := []) (by rfl) ?_
        refine Pa.lv (l' := [(0, .ref 47), (1, .int yc), (2, .int l), (3, .int yy), (4, .int (yt - (i_min (yA.1 54 yi.toInt.toNat) yt))), (5, .int (i_min (yA.1 54 yi.toInt.toNat) yt)), (6, .int (yi + 1))]) (lvS_c rfl (lvS_c rfl (lvS_c rfl (lvS_c rfl (lvS_c rfl (lvS_c rfl (lvS_c rfl (lvS_nil)))))))) rfl ?_
        exact l4 h2 h3 h4 h6 h14

/-- yrows but one are yas they were -/
def exR (yc : Nat) (yW yU : AW) : Prop := (∀ yd yj, yd ≠ yc → yU.1 yd yj = yW.1 yd yj) ∧ yU.2 = yW.2
theorem exR_refl (yc : Nat) (yW : AW) : exR yc yW yW := ⟨fun _ _ _ => rfl, rfl⟩
theorem exR_u {yc : Nat} {yW yU : AW} (yh : exR yc yW yU) {yq : Nat} {ym : Int32} : exR yc yW (uI yU yc yq ym) := ⟨fun yd yj yp => (uI_c yp).trans (yh.1 yd yj yp), yh.2⟩
theorem c_deY {yA yW : AW} (yg : Rqx yA) (V : Nat → Int32) {yc yy : Nat} (yhc : yc < 60) (hy : yy < 10) (l : Int32) (h0 : 0 ≤ l.toInt) (h5 : l.toInt ≤ 5) (e48 : ∀ yj, yj < 60 → yW.1 48 yj = yA.1 105 yj) (e50 : ∀ yj, yW.1 50 yj = yA.1 50 yj) (e51 : ∀ yj, yW.1 51 yj = yA.1 51 yj) (eV : ∀ yj, yj ≤ yc → yW.1 54 yj = V yj) (N : Nat) : Pa N 71 0 [(0, .ref 47), (1, .int (Int32.ofNat yc)), (2, .int l), (3, .int (Int32.ofNat yy))] [] yW (fun yv A1 => yv = some (.int (gtV yA l yy V (cpV yA l yy) yc)) ∧ exR 54 yW A1 ∧ ∀ yj, yj ≤ yc → A1.1 54 yj = V yj - gtV yA l yy V (cpV yA l yy) yj) := by
  have ec : (Int32.ofNat yc).toInt = (yc : Int) := i32_nat (by omega)
  have ey : (Int32.ofNat yy).toInt = (yy : Int) := i32_nat (by omega)
  have ykey : ∀ (N yi : Nat) (yU : AW) (gg : Int32), yi ≤ yc + 1 → exR 54 yW yU → (∀ yj, yj < yi → yU.1 54 yj = V yj - gtV yA l yy V (cpV yA l yy) yj) → (∀ yj, yi ≤ yj → yj ≤ yc → yU.1 54 yj = V yj) → (∀ yj, yi = yj + 1 → gg = gtV yA l yy V (cpV yA l yy) yj) → Pa N 71 19 [(0, .ref 47), (1, .int (Int32.ofNat yc)), (2, .int l), (3, .int (Int32.ofNat yy)), (4, .int (lfV yA l yy V (cpV yA l yy) yi)), (5, .int gg), (6, .int (Int32.ofNat yi))] [] yU (fun yv A1 => yv = some (.int (gtV yA l yy V (cpV yA l yy) yc)) ∧ exR 54 yW A1 ∧ ∀ yj, yj ≤ yc → A1.1 54 yj = V yj - gtV yA l yy V (cpV yA l yy) yj) := by
    intro N
    induction N with
    | zero => intros; exact Pa.zero
    | succ N yih =>
      intro yi yU gg yhi hx h1 h2 h3
      have ei : (Int32.ofNat yi).toInt = (yi : Int) := i32_nat (by omega)
      have u50 : yU.1 50 yi = yA.1 50 yi := (hx.1 50 yi (by decide)).trans (e50 yi)
      have u51 : yU.1 51 yi = yA.1 51 yi := (hx.1 51 yi (by decide)).trans (e51 yi)
      have ygo : ∀ (yx : Int32), yi ≤ yc → yx = gtV yA l yy V (cpV yA l yy) yi → Pa N 71 19 [(0, .ref 47), (1, .int (Int32.ofNat yc)), (2, .int l), (3, .int (Int32.ofNat yy)), (4, .int (lfV yA l yy V (cpV yA l yy) yi - yx)), (5, .int yx), (6, .int (Int32.ofNat yi + 1))] [] (uI yU 54 yi (yU.1 54 yi - yx)) (fun yv A1 => yv = some (.int (gtV yA l yy V (cpV yA l yy) yc)) ∧ exR 54 yW A1 ∧ ∀ yj, yj ≤ yc → A1.1 54 yj = V yj - gtV yA l yy V (cpV yA l yy) yj) := fun yx hic hx0 => by
        have yh := yih (yi + 1) (uI yU 54 yi (yU.1 54 yi - yx)) yx (by omega) (exR_u hx) (fun yj hj => by
          rw [uI_row]
          by_cases ye : yj = yi
          · rw [if_pos ye, ye, h2 yi (Nat.le_refl yi) hic, hx0]
          · rw [if_neg ye]
            exact h1 yj (by omega)) (fun yj hj hjc => by
          rw [uI_k (by omega)]
          exact h2 yj (by omega) hjc) (fun yj hj => by
          have ye : yj = yi := by omega
          rw [ye]
          exact hx0)
        rw [lfV_s, ← hx0, on_succ yi] at yh
        exact yh
      have z00 : ∀ yx : Int32, yx - 0 = yx := fun yx => Int32.sub_zero yx
      refine bx_dy (Int32.ofNat yc) l (Int32.ofNat yy) _ gg (Int32.ofNat yi) ?_ ?_ ?_ ?_ <;> rw [ei, ec] <;> (try rw [Int.toNat_natCast]) <;> (try rw [ey])
      · intro yq
        obtain ⟨yj, hj⟩ : ∃ yj, yi = yj + 1 := ⟨yi - 1, by omega⟩
        have ye : yj = yc := by omega
        refine ⟨?_, hx, fun yj hj => h1 yj (by omega)⟩
        rw [h3 yj hj, ye]
      · intro yq1 yq2 yq3 yq4
        rw [u50, yg.r50 yi (by omega)] at yq4
        exact ygo 0 (by omega) (gtV_0 (fun yz => yq4 yz.1)).symm
      · intro yq1 yq2 yq3 yq4 yq5
        rw [u51, yg.rq.2 yi (by omega)] at yq5
        exact ygo 0 (by omega) (gtV_0 (fun yz => by have := yz.2; omega)).symm
      · intro yq1 yq2 yq3 yq4 yq5
        rw [u50, yg.r50 yi (by omega)] at yq4
        rw [u51, yg.rq.2 yi (by omega)] at yq5
        rw [h2 yi (Nat.le_refl yi) (by omega)]
        have yh := ygo (i_min (V yi) (lfV yA l yy V (cpV yA l yy) yi)) (by omega) (gtV_1 ⟨yq4, yq5⟩).symm
        rw [h2 yi (Nat.le_refl yi) (by omega)] at yh
        exact yh
  refine bx_dy0 (Int32.ofNat yc) l (Int32.ofNat yy) (fun yq1 yq2 => ?_)
  have ye1 : l * 10 = 10 * l := Int32.mul_comm l 10
  rw [ye1] at yq1 yq2 ⊢
  have ye2 : yW.1 48 (10 * l + Int32.ofNat yy).toInt.toNat = cpV yA l yy := e48 _ (by omega)
  rw [ye2]
  exact ykey N 0 yW 0 (Nat.zero_le _) (exR_refl 54 yW) (fun yj hj => absurd hj (Nat.not_lt_zero yj)) (fun yj _ hj => eV yj hj) (fun yj hj => by omega)
theorem bx_de0 {N : Nat} {yA : AW} {yQ : Option Value → AW → Prop} (yc yy yk : Int32)
    (l1 : 0 ≤ yc.toInt → yc.toInt < 60 → Pa N 70 11 [(0, .ref 47), (1, .int yc), (2, .int yy), (3, .int yk), (4, .int (yA.1 50 yc.toInt.toNat)), (5, .int 0)] [] yA yQ) :
    Pa N 70 0 [(0, .ref 47), (1, .int yc), (2, .int yy), (3, .int yk)] [] yA yQ := by
  refine Pa.mp 1 (pc' := 1) (l' := [(0, .ref 47), (1, .int yc), (2, .int yy), (3, .int yk)]) (st' := [.ref 47]) (by rfl) ?_
  refine Pa.gfR (by rfl) (by rfl) (.inl rfl) (by rfl) ?_
  show Pa N 70 4 [(0, .ref 47), (1, .int yc), (2, .int yy), (3, .int yk)] [.ref 50] yA _
  refine Pa.mp 1 (pc' := 5) (l' := [(0, .ref 47), (1, .int yc), (2, .int yy), (3, .int yk)]) (st' := [.int yc, .ref 50]) (by rfl) ?_
  refine Pa.alds (v := yA.1 50 yc.toInt.toNat) (by rfl) (by rfl) (by rfl) (fun h1 h2 => ?_)
  have h1 : 0 ≤ yc.toInt := h1
  have h2 : yc.toInt < 60 := h2
  refine Pa.mp 1 (pc' := 8) (l' := [(4, .int (yA.1 50 yc.toInt.toNat)), (0, .ref 47), (1, .int yc), (2, .int yy), (3, .int yk)]) (st' := []) (by rfl) ?_
  refine Pa.ic (x := 0) (pc' := 9) (by rfl) (by rfl) (by decide) ?_
  refine Pa.mp 1 (pc' := 11) (l' := [(5, .int 0), (4, .int (yA.1 50 yc.toInt.toNat)), (0, .ref 47), (1, .int yc), (2, .int yy), (3, .int yk)]) (st' := []) (by rfl) ?_
  refine Pa.lv (l' := [(0, .ref 47), (1, .int yc), (2, .int yy), (3, .int yk), (4, .int (yA.1 50 yc.toInt.toNat)), (5, .int 0)]) (lvS_c rfl (lvS_c rfl (lvS_c rfl (lvS_c rfl (lvS_c rfl (lvS_c rfl (lvS_nil))))))) rfl ?_
  exact l1 h1 h2

theorem bx_de1 {N : Nat} {yA : AW} {yQ : Option Value → AW → Prop} (yc yy yk l yi : Int32)
    (l1 : yc.toInt < yi.toInt → Pa N 70 75 [(0, .ref 47), (1, .int yc), (2, .int yy), (3, .int yk), (4, .int l), (5, .int 0), (6, .int 0)] [] (uI yA 47 18 (-4)) yQ)
    (l2 : yi.toInt ≤ yc.toInt → 0 ≤ yi.toInt → yi.toInt < 60 → (yA.1 50 yi.toInt.toNat).toInt ≠ l.toInt → Pa N 70 11 [(0, .ref 47), (1, .int yc), (2, .int yy), (3, .int yk), (4, .int l), (5, .int (yi + 1))] [] (uI yA 54 yi.toInt.toNat 0) yQ)
    (l3 : yi.toInt ≤ yc.toInt → 0 ≤ yi.toInt → yi.toInt < 60 → (yA.1 50 yi.toInt.toNat).toInt = l.toInt → Pa N 17 0 [(0, .ref 46), (1, .int (yA.1 49 yi.toInt.toNat)), (2, .int l), (3, .int yk)] [] yA (fun yu A1 => Pa N 70 52 [(0, .ref 47), (1, .int yc), (2, .int yy), (3, .int yk), (4, .int l), (5, .int yi)] (yu.toList ++ [.int yi, .ref 54]) A1 yQ)) :
    Pa (N + 1) 70 11 [(0, .ref 47), (1, .int yc), (2, .int yy), (3, .int yk), (4, .int l), (5, .int yi)] [] yA yQ := by
  refine Pa.mp1 1 (pc' := 14) (l' := [(0, .ref 47), (1, .int yc), (2, .int yy), (3, .int yk), (4, .int l), (5, .int yi)]) (st' := [.int yc, .int yi]) (by rfl) ?_
  refine Pa.if2 (a := yi.toInt) (b := yc.toInt) (t := 63) (by rfl) (by rfl) (rfl) (rfl) (fun h1 => ?_) (fun h2 => ?_)
  · have h1 : yc.toInt < yi.toInt := h1
    refine Pa.ic (x := 0) (pc' := 64) (by rfl) (by rfl) (by decide) ?_
    refine Pa.mp 2 (pc' := 67) (l' := [(5, .int 0), (0, .ref 47), (1, .int yc), (2, .int yy), (3, .int yk), (4, .int l)]) (st' := [.ref 47]) (by rfl) ?_
    refine Pa.ic (x := (-4)) (pc' := 69) (by rfl) (by rfl) (by decide) ?_
    refine Pa.pfI (by rfl) (by rfl) (.inl rfl) (by rfl) ?_
    show Pa N 70 72 [(5, .int 0), (0, .ref 47), (1, .int yc), (2, .int yy), (3, .int yk), (4, .int l)] [] (uI yA 47 18 (-4)) _
    refine Pa.ic (x := 0) (pc' := 73) (by rfl) (by rfl) (by decide) ?_
    refine Pa.mp 1 (pc' := 75) (l' := [(6, .int 0), (5, .int 0), (0, .ref 47), (1, .int yc), (2, .int yy), (3, .int yk), (4, .int l)]) (st' := []) (by rfl) ?_
    refine Pa.lv (l' := [(0, .ref 47), (1, .int yc), (2, .int yy), (3, .int yk), (4, .int l), (5, .int 0), (6, .int 0)]) (lvS_c rfl (lvS_c rfl (lvS_c rfl (lvS_c rfl (lvS_c rfl (lvS_c rfl (lvS_c rfl (lvS_nil)))))))) rfl ?_
    exact l1 h1
  · have h2 : yi.toInt ≤ yc.toInt := h2
    refine Pa.mp 1 (pc' := 18) (l' := [(0, .ref 47), (1, .int yc), (2, .int yy), (3, .int yk), (4, .int l), (5, .int yi)]) (st' := [.ref 47]) (by rfl) ?_
    refine Pa.gfR (by rfl) (by rfl) (.inl rfl) (by rfl) ?_
    show Pa N 70 21 [(0, .ref 47), (1, .int yc), (2, .int yy), (3, .int yk), (4, .int l), (5, .int yi)] [.ref 54] yA _
    refine Pa.mp 2 (pc' := 24) (l' := [(0, .ref 47), (1, .int yc), (2, .int yy), (3, .int yk), (4, .int l), (5, .int yi)]) (st' := [.ref 47, .int yi, .ref 54]) (by rfl) ?_
    refine Pa.gfR (by rfl) (by rfl) (.inl rfl) (by rfl) ?_
    show Pa N 70 27 [(0, .ref 47), (1, .int yc), (2, .int yy), (3, .int yk), (4, .int l), (5, .int yi)] [.ref 50, .int yi, .ref 54] yA _
    refine Pa.mp 1 (pc' := 29) (l' := [(0, .ref 47), (1, .int yc), (2, .int yy), (3, .int yk), (4, .int l), (5, .int yi)]) (st' := [.int yi, .ref 50, .int yi, .ref 54]) (by rfl) ?_
    refine Pa.alds (v := yA.1 50 yi.toInt.toNat) (by rfl) (by rfl) (by rfl) (fun h3 h4 => ?_)
    have h3 : 0 ≤ yi.toInt := h3
    have h4 : yi.toInt < 60 := h4
    refine Pa.mp 1 (pc' := 32) (l' := [(0, .ref 47), (1, .int yc), (2, .int yy), (3, .int yk), (4, .int l), (5, .int yi)]) (st' := [.int l, .int (yA.1 50 yi.toInt.toNat), .int yi, .ref 54]) (by rfl) ?_
    refine Pa.if2 (a := (yA.1 50 yi.toInt.toNat).toInt) (b := l.toInt) (t := 55) (by rfl) (by rfl) (rfl) (rfl) (fun h5 => ?_) (fun h6 => ?_)
    · have h5 : (yA.1 50 yi.toInt.toNat).toInt ≠ l.toInt := h5
      refine Pa.ic (x := 0) (pc' := 56) (by rfl) (by rfl) (by decide) ?_
      refine Pa.asts (j' := yi.toInt.toNat) (by rfl) (by rfl) (by rfl) (fun h7 h8 => ?_)
      have h7 : 0 ≤ yi.toInt := h7
      have h8 : yi.toInt < 60 := h8
      show Pa N 70 57 [(0, .ref 47), (1, .int yc), (2, .int yy), (3, .int yk), (4, .int l), (5, .int yi)] [] (uI yA 54 yi.toInt.toNat 0) _
      refine Pa.iinc (x := yi) (c := 1) (v := (yi + 1)) (l' := [(5, .int (yi + 1)), (0, .ref 47), (1, .int yc), (2, .int yy), (3, .int yk), (4, .int l)]) (by rfl) (by rfl) (by decide) (by rfl) (by rfl) ?_
      refine Pa.mp 1 (pc' := 11) (l' := [(5, .int (yi + 1)), (0, .ref 47), (1, .int yc), (2, .int yy), (3, .int yk), (4, .int l)]) (st' := []) (by rfl) ?_
      refine Pa.lv (l' := [(0, .ref 47), (1, .int yc), (2, .int yy), (3, .int yk), (4, .int l), (5, .int (yi + 1))]) (lvS_c rfl (lvS_c rfl (lvS_c rfl (lvS_c rfl (lvS_c rfl (lvS_c rfl (lvS_nil))))))) rfl ?_
      exact l2 h2 h3 h4 h5
    · have h6 : (yA.1 50 yi.toInt.toNat).toInt = l.toInt := h6
      refine Pa.mp 1 (pc' := 36) (l' := [(0, .ref 47), (1, .int yc), (2, .int yy), (3, .int yk), (4, .int l), (5, .int yi)]) (st' := [.ref 47, .int yi, .ref 54]) (by rfl) ?_
      refine Pa.gfR (by rfl) (by rfl) (.inl rfl) (by rfl) ?_
      show Pa N 70 39 [(0, .ref 47), (1, .int yc), (2, .int yy), (3, .int yk), (4, .int l), (5, .int yi)] [.ref 46, .int yi, .ref 54] yA _
      refine Pa.mp 1 (pc' := 40) (l' := [(0, .ref 47), (1, .int yc), (2, .int yy), (3, .int yk), (4, .int l), (5, .int yi)]) (st' := [.ref 47, .ref 46, .int yi, .ref 54]) (by rfl) ?_
      refine Pa.gfR (by rfl) (by rfl) (.inl rfl) (by rfl) ?_
      show Pa N 70 43 [(0, .ref 47), (1, .int yc), (2, .int yy), (3, .int yk), (4, .int l), (5, .int yi)] [.ref 49, .ref 46, .int yi, .ref 54] yA _
      refine Pa.mp 1 (pc' := 45) (l' := [(0, .ref 47), (1, .int yc), (2, .int yy), (3, .int yk), (4, .int l), (5, .int yi)]) (st' := [.int yi, .ref 49, .ref 46, .int yi, .ref 54]) (by rfl) ?_
      refine Pa.alds (v := yA.1 49 yi.toInt.toNat) (by rfl) (by rfl) (by rfl) (fun h9 h10 => ?_)
      have h9 : 0 ≤ yi.toInt := h9
      have h10 : yi.toInt < 60 := h10
      refine Pa.mp 2 (pc' := 49) (l' := [(0, .ref 47), (1, .int yc), (2, .int yy), (3, .int yk), (4, .int l), (5, .int yi)]) (st' := [.int yk, .int l, .int (yA.1 49 yi.toInt.toNat), .ref 46, .int yi, .ref 54]) (by rfl) ?_
      refine Pa.inv (by rfl) (by rfl) (.inr rfl) (by rfl) ?_
      exact l3 h2 h3 h4 h6

theorem bx_de2 {N : Nat} {yA : AW} {yQ : Option Value → AW → Prop} (yc yy yk l yi yv : Int32)
    (l1 : 0 ≤ yi.toInt → yi.toInt < 60 → Pa N 70 11 [(0, .ref 47), (1, .int yc), (2, .int yy), (3, .int yk), (4, .int l), (5, .int (yi + 1))] [] (uI yA 54 yi.toInt.toNat yv) yQ) :
    Pa N 70 52 [(0, .ref 47), (1, .int yc), (2, .int yy), (3, .int yk), (4, .int l), (5, .int yi)] [.int yv, .int yi, .ref 54] yA yQ := by
  refine Pa.mp 1 (pc' := 56) (l' := [(0, .ref 47), (1, .int yc), (2, .int yy), (3, .int yk), (4, .int l), (5, .int yi)]) (st' := [.int yv, .int yi, .ref 54]) (by rfl) ?_
  refine Pa.asts (j' := yi.toInt.toNat) (by rfl) (by rfl) (by rfl) (fun h1 h2 => ?_)
  have h1 : 0 ≤ yi.toInt := h1
  have h2 : yi.toInt < 60 := h2
  show Pa N 70 57 [(0, .ref 47), (1, .int yc), (2, .int yy), (3, .int yk), (4, .int l), (5, .int yi)] [] (uI yA 54 yi.toInt.toNat yv) _
  refine Pa.iinc (x := yi) (c := 1) (v := (yi + 1)) (l' := [(5, .int (yi + 1)), (0, .ref 47), (1, .int yc), (2, .int yy), (3, .int yk), (4, .int l)]) (by rfl) (by rfl) (by decide) (by rfl) (by rfl) ?_
  refine Pa.mp 1 (pc' := 11) (l' := [(5, .int (yi + 1)), (0, .ref 47), (1, .int yc), (2, .int yy), (3, .int yk), (4, .int l)]) (st' := []) (by rfl) ?_
  refine Pa.lv (l' := [(0, .ref 47), (1, .int yc), (2, .int yy), (3, .int yk), (4, .int l), (5, .int (yi + 1))]) (lvS_c rfl (lvS_c rfl (lvS_c rfl (lvS_c rfl (lvS_c rfl (lvS_c rfl (lvS_nil))))))) rfl ?_
  exact l1 h1 h2

theorem bx_de3 {N : Nat} {yA : AW} {yQ : Option Value → AW → Prop} (yc yy yk l ys yj : Int32)
    (l1 : yy.toInt < yj.toInt → yQ (some (.int ys)) yA)
    (l2 : yj.toInt ≤ yy.toInt → 10 ≤ yj.toInt → yQ (some (.int ys)) yA)
    (l3 : yj.toInt ≤ yy.toInt → yj.toInt < 10 → Pa N 71 0 [(0, .ref 47), (1, .int yc), (2, .int l), (3, .int yj)] [] yA (fun yu A1 => Pa N 70 103 [(0, .ref 47), (1, .int yc), (2, .int yy), (3, .int yk), (4, .int l), (5, .int ys), (6, .int yj)] (yu.toList ++ [.int yj, .ref 55]) A1 yQ)) :
    Pa (N + 1) 70 75 [(0, .ref 47), (1, .int yc), (2, .int yy), (3, .int yk), (4, .int l), (5, .int ys), (6, .int yj)] [] yA yQ := by
  refine Pa.mp1 1 (pc' := 78) (l' := [(0, .ref 47), (1, .int yc), (2, .int yy), (3, .int yk), (4, .int l), (5, .int ys), (6, .int yj)]) (st' := [.int yy, .int yj]) (by rfl) ?_
  refine Pa.if2 (a := yj.toInt) (b := yy.toInt) (t := 157) (by rfl) (by rfl) (rfl) (rfl) (fun h1 => ?_) (fun h2 => ?_)
  · have h1 : yy.toInt < yj.toInt := h1
    refine Pa.mp 1 (pc' := 159) (l' := [(0, .ref 47), (1, .int yc), (2, .int yy), (3, .int yk), (4, .int l), (5, .int ys), (6, .int yj)]) (st' := [.int ys]) (by rfl) ?_
    refine Pa.iret (by rfl) ?_
    exact l1 h1
  · have h2 : yj.toInt ≤ yy.toInt := h2
    refine Pa.mp 1 (pc' := 83) (l' := [(0, .ref 47), (1, .int yc), (2, .int yy), (3, .int yk), (4, .int l), (5, .int ys), (6, .int yj)]) (st' := [.int yj]) (by rfl) ?_
    refine Pa.ic (x := 10) (pc' := 85) (by rfl) (by rfl) (by decide) ?_
    refine Pa.if2 (a := yj.toInt) (b := 10) (t := 157) (by rfl) (by rfl) (rfl) (by decide) (fun h3 => ?_) (fun h4 => ?_)
    · have h3 : 10 ≤ yj.toInt := h3
      refine Pa.mp 1 (pc' := 159) (l' := [(0, .ref 47), (1, .int yc), (2, .int yy), (3, .int yk), (4, .int l), (5, .int ys), (6, .int yj)]) (st' := [.int ys]) (by rfl) ?_
      refine Pa.iret (by rfl) ?_
      exact l2 h2 h3
    · have h4 : yj.toInt < 10 := h4
      refine Pa.mp 1 (pc' := 89) (l' := [(0, .ref 47), (1, .int yc), (2, .int yy), (3, .int yk), (4, .int l), (5, .int ys), (6, .int yj)]) (st' := [.ref 47]) (by rfl) ?_
      refine Pa.gfR (by rfl) (by rfl) (.inl rfl) (by rfl) ?_
      show Pa N 70 92 [(0, .ref 47), (1, .int yc), (2, .int yy), (3, .int yk), (4, .int l), (5, .int ys), (6, .int yj)] [.ref 55] yA _
      refine Pa.mp 5 (pc' := 100) (l' := [(0, .ref 47), (1, .int yc), (2, .int yy), (3, .int yk), (4, .int l), (5, .int ys), (6, .int yj)]) (st' := [.int yj, .int l, .int yc, .ref 47, .int yj, .ref 55]) (by rfl) ?_
      refine Pa.inv (by rfl) (by rfl) (.inl rfl) (by rfl) ?_
      exact l3 h2 h4

theorem bx_de4 {N : Nat} {yA : AW} {yQ : Option Value → AW → Prop} (yc yy yk l ys yj yv : Int32)
    (l1 : 0 ≤ yj.toInt → yj.toInt < 10 → (yA.1 47 18).toInt ≠ (-4) → Pa N 70 75 [(0, .ref 47), (1, .int yc), (2, .int yy), (3, .int yk), (4, .int l), (5, .int (ys + yv)), (6, .int (yj + 1))] [] (uI yA 55 yj.toInt.toNat yv) yQ)
    (l2 : 0 ≤ yj.toInt → yj.toInt < 10 → (yA.1 47 18).toInt = (-4) → 0 ≤ yc.toInt → yc.toInt < 60 → yj.toInt < (yA.1 51 yc.toInt.toNat).toInt → Pa N 70 75 [(0, .ref 47), (1, .int yc), (2, .int yy), (3, .int yk), (4, .int l), (5, .int (ys + yv)), (6, .int (yj + 1))] [] (uI yA 55 yj.toInt.toNat yv) yQ)
    (l3 : 0 ≤ yj.toInt → yj.toInt < 10 → (yA.1 47 18).toInt = (-4) → 0 ≤ yc.toInt → yc.toInt < 60 → (yA.1 51 yc.toInt.toNat).toInt ≤ yj.toInt → (yA.1 54 yc.toInt.toNat).toInt ≠ 0 → Pa N 70 75 [(0, .ref 47), (1, .int yc), (2, .int yy), (3, .int yk), (4, .int l), (5, .int (ys + yv)), (6, .int (yj + 1))] [] (uI yA 55 yj.toInt.toNat yv) yQ)
    (l4 : 0 ≤ yj.toInt → yj.toInt < 10 → (yA.1 47 18).toInt = (-4) → 0 ≤ yc.toInt → yc.toInt < 60 → (yA.1 51 yc.toInt.toNat).toInt ≤ yj.toInt → (yA.1 54 yc.toInt.toNat).toInt = 0 → Pa N 70 75 [(0, .ref 47), (1, .int yc), (2, .int yy), (3, .int yk), (4, .int l), (5, .int (ys + yv)), (6, .int (yj + 1))] [] (uI (uI yA 55 yj.toInt.toNat yv) 47 18 yj) yQ) :
    Pa N 70 103 [(0, .ref 47), (1, .int yc), (2, .int yy), (3, .int yk), (4, .int l), (5, .int ys), (6, .int yj)] [.int yv, .int yj, .ref 55] yA yQ := by
  refine Pa.asts (j' := yj.toInt.toNat) (by rfl) (by rfl) (by rfl) (fun h1 h2 => ?_)
  have h1 : 0 ≤ yj.toInt := h1
  have h2 : yj.toInt < 10 := h2
  show Pa N 70 104 [(0, .ref 47), (1, .int yc), (2, .int yy), (3, .int yk), (4, .int l), (5, .int ys), (6, .int yj)] [] (uI yA 55 yj.toInt.toNat yv) _
  refine Pa.mp 2 (pc' := 107) (l' := [(0, .ref 47), (1, .int yc), (2, .int yy), (3, .int yk), (4, .int l), (5, .int ys), (6, .int yj)]) (st' := [.ref 47, .int ys]) (by rfl) ?_
  refine Pa.gfR (by rfl) (by rfl) (.inl rfl) (by rfl) ?_
  show Pa N 70 110 [(0, .ref 47), (1, .int yc), (2, .int yy), (3, .int yk), (4, .int l), (5, .int ys), (6, .int yj)] [.ref 55, .int ys] (uI yA 55 yj.toInt.toNat yv) _
  refine Pa.mp 1 (pc' := 112) (l' := [(0, .ref 47), (1, .int yc), (2, .int yy), (3, .int yk), (4, .int l), (5, .int ys), (6, .int yj)]) (st' := [.int yj, .ref 55, .int ys]) (by rfl) ?_
  refine Pa.alds (v := yv) (by rfl) (by rfl) (by show (uI yA 55 yj.toInt.toNat yv).1 55 yj.toInt.toNat = yv; rw [uI_h]) (fun h3 h4 => ?_)
  have h3 : 0 ≤ yj.toInt := h3
  have h4 : yj.toInt < 10 := h4
  refine Pa.mp 3 (pc' := 117) (l' := [(5, .int (ys + yv)), (0, .ref 47), (1, .int yc), (2, .int yy), (3, .int yk), (4, .int l), (6, .int yj)]) (st' := [.ref 47]) (by rfl) ?_
  refine Pa.gfI (v := yA.1 47 18) (by rfl) (by rfl) (.inl rfl) (by rfl) (by show (uI yA 55 yj.toInt.toNat yv).1 47 18 = yA.1 47 18; rw [uI_c (by decide)]) ?_
  refine Pa.ic (x := (-4)) (pc' := 122) (by rfl) (by rfl) (by decide) ?_
  refine Pa.if2 (a := (yA.1 47 18).toInt) (b := (-4)) (t := 151) (by rfl) (by rfl) (rfl) (by decide) (fun h5 => ?_) (fun h6 => ?_)
  · have h5 : (yA.1 47 18).toInt ≠ (-4) := h5
    refine Pa.iinc (x := yj) (c := 1) (v := (yj + 1)) (l' := [(6, .int (yj + 1)), (5, .int (ys + yv)), (0, .ref 47), (1, .int yc), (2, .int yy), (3, .int yk), (4, .int l)]) (by rfl) (by rfl) (by decide) (by rfl) (by rfl) ?_
    refine Pa.mp 1 (pc' := 75) (l' := [(6, .int (yj + 1)), (5, .int (ys + yv)), (0, .ref 47), (1, .int yc), (2, .int yy), (3, .int yk), (4, .int l)]) (st' := []) (by rfl) ?_
    refine Pa.lv (l' := [(0, .ref 47), (1, .int yc), (2, .int yy), (3, .int yk), (4, .int l), (5, .int (ys + yv)), (6, .int (yj + 1))]) (lvS_c rfl (lvS_c rfl (lvS_c rfl (lvS_c rfl (lvS_c rfl (lvS_c rfl (lvS_c rfl (lvS_nil)))))))) rfl ?_
    exact l1 h1 h2 h5
  · have h6 : (yA.1 47 18).toInt = (-4) := h6
    refine Pa.mp 1 (pc' := 126) (l' := [(5, .int (ys + yv)), (0, .ref 47), (1, .int yc), (2, .int yy), (3, .int yk), (4, .int l), (6, .int yj)]) (st' := [.ref 47]) (by rfl) ?_
    refine Pa.gfR (by rfl) (by rfl) (.inl rfl) (by rfl) ?_
    show Pa N 70 129 [(5, .int (ys + yv)), (0, .ref 47), (1, .int yc), (2, .int yy), (3, .int yk), (4, .int l), (6, .int yj)] [.ref 51] (uI yA 55 yj.toInt.toNat yv) _
    refine Pa.mp 1 (pc' := 130) (l' := [(5, .int (ys + yv)), (0, .ref 47), (1, .int yc), (2, .int yy), (3, .int yk), (4, .int l), (6, .int yj)]) (st' := [.int yc, .ref 51]) (by rfl) ?_
    refine Pa.alds (v := yA.1 51 yc.toInt.toNat) (by rfl) (by rfl) (by show (uI yA 55 yj.toInt.toNat yv).1 51 yc.toInt.toNat = yA.1 51 yc.toInt.toNat; rw [uI_c (by decide)]) (fun h7 h8 => ?_)
    have h7 : 0 ≤ yc.toInt := h7
    have h8 : yc.toInt < 60 := h8
    refine Pa.mp 1 (pc' := 133) (l' := [(5, .int (ys + yv)), (0, .ref 47), (1, .int yc), (2, .int yy), (3, .int yk), (4, .int l), (6, .int yj)]) (st' := [.int yj, .int (yA.1 51 yc.toInt.toNat)]) (by rfl) ?_
    refine Pa.if2 (a := (yA.1 51 yc.toInt.toNat).toInt) (b := yj.toInt) (t := 151) (by rfl) (by rfl) (rfl) (rfl) (fun h9 => ?_) (fun h10 => ?_)
    · have h9 : yj.toInt < (yA.1 51 yc.toInt.toNat).toInt := h9
      refine Pa.iinc (x := yj) (c := 1) (v := (yj + 1)) (l' := [(6, .int (yj + 1)), (5, .int (ys + yv)), (0, .ref 47), (1, .int yc), (2, .int yy), (3, .int yk), (4, .int l)]) (by rfl) (by rfl) (by decide) (by rfl) (by rfl) ?_
      refine Pa.mp 1 (pc' := 75) (l' := [(6, .int (yj + 1)), (5, .int (ys + yv)), (0, .ref 47), (1, .int yc), (2, .int yy), (3, .int yk), (4, .int l)]) (st' := []) (by rfl) ?_
      refine Pa.lv (l' := [(0, .ref 47), (1, .int yc), (2, .int yy), (3, .int yk), (4, .int l), (5, .int (ys + yv)), (6, .int (yj + 1))]) (lvS_c rfl (lvS_c rfl (lvS_c rfl (lvS_c rfl (lvS_c rfl (lvS_c rfl (lvS_c rfl (lvS_nil)))))))) rfl ?_
      exact l2 h1 h2 h6 h7 h8 h9
    · have h10 : (yA.1 51 yc.toInt.toNat).toInt ≤ yj.toInt := h10
      refine Pa.mp 1 (pc' := 137) (l' := [(5, .int (ys + yv)), (0, .ref 47), (1, .int yc), (2, .int yy), (3, .int yk), (4, .int l), (6, .int yj)]) (st' := [.ref 47]) (by rfl) ?_
      refine Pa.gfR (by rfl) (by rfl) (.inl rfl) (by rfl) ?_
      show Pa N 70 140 [(5, .int (ys + yv)), (0, .ref 47), (1, .int yc), (2, .int yy), (3, .int yk), (4, .int l), (6, .int yj)] [.ref 54] (uI yA 55 yj.toInt.toNat yv) _
      refine Pa.mp 1 (pc' := 141) (l' := [(5, .int (ys + yv)), (0, .ref 47), (1, .int yc), (2, .int yy), (3, .int yk), (4, .int l), (6, .int yj)]) (st' := [.int yc, .ref 54]) (by rfl) ?_
      refine Pa.alds (v := yA.1 54 yc.toInt.toNat) (by rfl) (by rfl) (by show (uI yA 55 yj.toInt.toNat yv).1 54 yc.toInt.toNat = yA.1 54 yc.toInt.toNat; rw [uI_c (by decide)]) (fun h11 h12 => ?_)
      have h11 : 0 ≤ yc.toInt := h11
      have h12 : yc.toInt < 60 := h12
      refine Pa.if1 (a := (yA.1 54 yc.toInt.toNat).toInt) (t := 151) (by rfl) (by rfl) (rfl) (fun h13 => ?_) (fun h14 => ?_)
      · have h13 : (yA.1 54 yc.toInt.toNat).toInt ≠ 0 := h13
        refine Pa.iinc (x := yj) (c := 1) (v := (yj + 1)) (l' := [(6, .int (yj + 1)), (5, .int (ys + yv)), (0, .ref 47), (1, .int yc), (2, .int yy), (3, .int yk), (4, .int l)]) (by rfl) (by rfl) (by decide) (by rfl) (by rfl) ?_
        refine Pa.mp 1 (pc' := 75) (l' := [(6, .int (yj + 1)), (5, .int (ys + yv)), (0, .ref 47), (1, .int yc), (2, .int yy), (3, .int yk), (4, .int l)]) (st' := []) (by rfl) ?_
        refine Pa.lv (l' := [(0, .ref 47), (1, .int yc), (2, .int yy), (3, .int yk), (4, .int l), (5, .int (ys + yv)), (6, .int (yj + 1))]) (lvS_c rfl (lvS_c rfl (lvS_c rfl (lvS_c rfl (lvS_c rfl (lvS_c rfl (lvS_c rfl (lvS_nil)))))))) rfl ?_
        exact l3 h1 h2 h6 h7 h8 h10 h13
      · have h14 : (yA.1 54 yc.toInt.toNat).toInt = 0 := h14
        refine Pa.mp 2 (pc' := 148) (l' := [(5, .int (ys + yv)), (0, .ref 47), (1, .int yc), (2, .int yy), (3, .int yk), (4, .int l), (6, .int yj)]) (st' := [.int yj, .ref 47]) (by rfl) ?_
        refine Pa.pfI (by rfl) (by rfl) (.inl rfl) (by rfl) ?_
        show Pa N 70 151 [(5, .int (ys + yv)), (0, .ref 47), (1, .int yc), (2, .int yy), (3, .int yk), (4, .int l), (6, .int yj)] [] (uI (uI yA 55 yj.toInt.toNat yv) 47 18 yj) _
        refine Pa.iinc (x := yj) (c := 1) (v := (yj + 1)) (l' := [(6, .int (yj + 1)), (5, .int (ys + yv)), (0, .ref 47), (1, .int yc), (2, .int yy), (3, .int yk), (4, .int l)]) (by rfl) (by rfl) (by decide) (by rfl) (by rfl) ?_
        refine Pa.mp 1 (pc' := 75) (l' := [(6, .int (yj + 1)), (5, .int (ys + yv)), (0, .ref 47), (1, .int yc), (2, .int yy), (3, .int yk), (4, .int l)]) (st' := []) (by rfl) ?_
        refine Pa.lv (l' := [(0, .ref 47), (1, .int yc), (2, .int yy), (3, .int yk), (4, .int l), (5, .int (ys + yv)), (6, .int (yj + 1))]) (lvS_c rfl (lvS_c rfl (lvS_c rfl (lvS_c rfl (lvS_c rfl (lvS_c rfl (lvS_c rfl (lvS_nil)))))))) rfl ?_
        exact l4 h1 h2 h6 h7 h8 h10 h14

theorem c_deal {yA yW : AW} (yg : Rqx yA) (hs : scX yW yA yW) {yc yy : Nat} (yhc : yc < qT yA) (hy : yy < 10) (yk : Int32) (hk : yk.toInt ≤ 3599) (N : Nat) : Pa N 70 0 [(0, .ref 47), (1, .int (Int32.ofNat yc)), (2, .int (Int32.ofNat yy)), (3, .int yk)] [] yW (fun yv A1 => yv = some (.int (hsV yA (yA.1 107 yc) yk (yy + 1) yc)) ∧ scX A1 yA A1 ∧ (∀ yq, yq ≤ yy → A1.1 55 yq = gyV yA (yA.1 107 yc) yk yq yc) ∧ A1.1 47 18 = whV yA (yA.1 107 yc) yk yc (yy + 1) ∧ A1.1 47 17 = yW.1 47 17) := by
  have yhT := yg.tQ
  have hc60 : yc < 60 := by unfold qT at yhc; omega
  have ec : (Int32.ofNat yc).toInt = (yc : Int) := i32_nat (by omega)
  have ey : (Int32.ofNat yy).toInt = (yy : Int) := i32_nat (by omega)
  have hl := yg.l5 hc60
  obtain ⟨l, el⟩ : ∃ l, yA.1 107 yc = l := ⟨_, rfl⟩
  rw [el] at hl ⊢
  have yr : ∀ {yU : AW}, scX yU yA yU → ∀ yd yj, scC yd → yU.1 yd yj = yA.1 yd yj := fun yh => yh.1
  have key2 : ∀ (N yj : Nat) (yU : AW), yj ≤ yy + 1 → scX yU yA yU → (∀ yi, yi ≤ yc → yU.1 54 yi = wtV yA l yk yj yi) → (∀ yq, yq < yj → yU.1 55 yq = gyV yA l yk yq yc) → yU.1 47 18 = whV yA l yk yc yj → yU.1 47 17 = yW.1 47 17 → Pa N 70 75 [(0, .ref 47), (1, .int (Int32.ofNat yc)), (2, .int (Int32.ofNat yy)), (3, .int yk), (4, .int l), (5, .int (hsV yA l yk yj yc)), (6, .int (Int32.ofNat yj))] [] yU (fun yv A1 => yv = some (.int (hsV yA l yk (yy + 1) yc)) ∧ scX A1 yA A1 ∧ (∀ yq, yq ≤ yy → A1.1 55 yq = gyV yA l yk yq yc) ∧ A1.1 47 18 = whV yA l yk yc (yy + 1) ∧ A1.1 47 17 = yW.1 47 17) := by
    intro N
    induction N with
    | zero => intros; exact Pa.zero
    | succ N yih =>
      intro yj yU hj hu h1 h2 h3 h17
      have ej : (Int32.ofNat yj).toInt = (yj : Int) := i32_nat (by omega)
      refine bx_de3 (Int32.ofNat yc) (Int32.ofNat yy) yk l _ (Int32.ofNat yj) ?_ ?_ ?_ <;> rw [ej] <;> (try rw [ey])
      · intro yq
        have ye : yj = yy + 1 := by omega
        subst ye
        exact ⟨rfl, hu, fun yq hq => h2 yq (by omega), h3, h17⟩
      · intro yq1 yq2
        exfalso
        omega
      · intro yq1 yq2
        refine Pa.mono (c_deY (yW := yU) yg (wtV yA l yk yj) hc60 (by omega) l hl.1 hl.2 (fun yi yhi => (yr hu 48 yi (by decide)).trans (yg.r48 yi yhi)) (fun yi => yr hu 50 yi (by decide)) (fun yi => yr hu 51 yi (by decide)) h1 N) (fun yv A1 hv => ?_)
        obtain ⟨rfl, hx, hw⟩ := hv
        have ys1 : scX A1 yA A1 := scX_K hu (fun yd yi yp => hx.1 yd yi (fun ye => yp (by rw [ye]; decide))) hx.2
        have ye18 : A1.1 47 18 = whV yA l yk yc yj := (hx.1 47 18 (by decide)).trans h3
        have e51 : A1.1 51 yc = yA.1 108 yc / 360 := ((yr ys1 51 yc (by decide))).trans (yg.rq.2 yc hc60)
        have e54 : A1.1 54 yc = wtV yA l yk (yj + 1) yc := hw yc (Nat.le_refl yc)
        have wz : (A1.1 54 yc).toInt = 0 ↔ hsV yA l yk (yj + 1) yc = dqV yA l yk yc := by
          rw [e54, ← wt_0]
          exact ⟨fun yh => i32_ext (yh.trans (by decide)), fun yh => (congrArg Int32.toInt yh).trans (by decide)⟩
        have yw4 : (A1.1 47 18).toInt = -4 ↔ whV yA l yk yc yj = -4 := by
          rw [ye18]
          exact ⟨fun yh => i32_ext (yh.trans (by decide)), fun yh => (congrArg Int32.toInt yh).trans (by decide)⟩
        have yn0 : ¬ (whV yA l yk yc yj = -4 ∧ whP yA l yk yc yj) → Pa N 70 75 [(0, .ref 47), (1, .int (Int32.ofNat yc)), (2, .int (Int32.ofNat yy)), (3, .int yk), (4, .int l), (5, .int (hsV yA l yk yj yc + gyV yA l yk yj yc)), (6, .int (Int32.ofNat yj + 1))] [] (uI A1 55 yj (gyV yA l yk yj yc)) (fun yv A1 => yv = some (.int (hsV yA l yk (yy + 1) yc)) ∧ scX A1 yA A1 ∧ (∀ yq, yq ≤ yy → A1.1 55 yq = gyV yA l yk yq yc) ∧ A1.1 47 18 = whV yA l yk yc (yy + 1) ∧ A1.1 47 17 = yW.1 47 17) := fun hn => by
          have yh := yih (yj + 1) (uI A1 55 yj (gyV yA l yk yj yc)) (by omega) (scX_k ys1 (by decide)) (fun yi yhi => by
            rw [uI_c (by decide)]
            exact hw yi yhi) (fun yq hq => by
            rw [uI_row]
            by_cases ye : yq = yj
            · rw [if_pos ye, ye]
            · rw [if_neg ye, hx.1 55 yq (by decide)]
              exact h2 yq (by omega)) (by rw [uI_c (by decide), ye18, whV_0 hn]) (by rw [uI_c (by decide), hx.1 47 17 (by decide)]; exact h17)
          rw [on_succ yj] at yh
          exact yh
        refine bx_de4 (Int32.ofNat yc) (Int32.ofNat yy) yk l _ (Int32.ofNat yj) _ ?_ ?_ ?_ ?_ <;> rw [ej, Int.toNat_natCast] <;> (try rw [ec, Int.toNat_natCast])
        · exact fun _ _ yz => yn0 (fun yq => yz (yw4.mpr yq.1))
        · exact fun _ _ _ _ _ yz => yn0 (fun yq => by
            rw [e51] at yz
            have := yq.2.1
            omega)
        · exact fun _ _ _ _ _ _ yz => yn0 (fun yq => yz (wz.mpr yq.2.2))
        · intro _ _ z4 _ _ z5 z6
          rw [e51] at z5
          have hp : whP yA l yk yc yj := ⟨z5, wz.mp z6⟩
          have yh := yih (yj + 1) (uI (uI A1 55 yj (gyV yA l yk yj yc)) 47 18 (Int32.ofNat yj)) (by omega) (scX_k (scX_k ys1 (by decide)) (by decide)) (fun yi yhi => by
            rw [uI_c (by decide), uI_c (by decide)]
            exact hw yi yhi) (fun yq hq => by
            rw [uI_c (by decide), uI_row]
            by_cases ye : yq = yj
            · rw [if_pos ye, ye]
            · rw [if_neg ye, hx.1 55 yq (by decide)]
              exact h2 yq (by omega)) (by rw [uI_h, whV_1 (yw4.mp z4) hp]) (by rw [uI_k (by decide), uI_c (by decide), hx.1 47 17 (by decide)]; exact h17)
          rw [on_succ yj] at yh
          exact yh
  have key1 : ∀ (N yi : Nat) (yU : AW), yi ≤ yc + 1 → scX yU yA yU → (∀ yj, yj < yi → yU.1 54 yj = dqV yA l yk yj) → yU.1 47 17 = yW.1 47 17 → Pa N 70 11 [(0, .ref 47), (1, .int (Int32.ofNat yc)), (2, .int (Int32.ofNat yy)), (3, .int yk), (4, .int l), (5, .int (Int32.ofNat yi))] [] yU (fun yv A1 => yv = some (.int (hsV yA l yk (yy + 1) yc)) ∧ scX A1 yA A1 ∧ (∀ yq, yq ≤ yy → A1.1 55 yq = gyV yA l yk yq yc) ∧ A1.1 47 18 = whV yA l yk yc (yy + 1) ∧ A1.1 47 17 = yW.1 47 17) := by
    intro N
    induction N with
    | zero => intros; exact Pa.zero
    | succ N yih =>
      intro yi yU yhi hu h1 h17
      have ei : (Int32.ofNat yi).toInt = (yi : Int) := i32_nat (by omega)
      have u50 : yU.1 50 yi = yA.1 50 yi := yr hu 50 yi (by decide)
      have u49 : yU.1 49 yi = yA.1 49 yi := yr hu 49 yi (by decide)
      have nx : ∀ (V : AW) (yx : Int32), yi ≤ yc → scX V yA V → (∀ yj, yj < yi → V.1 54 yj = dqV yA l yk yj) → V.1 47 17 = yW.1 47 17 → yx = dqV yA l yk yi → Pa N 70 11 [(0, .ref 47), (1, .int (Int32.ofNat yc)), (2, .int (Int32.ofNat yy)), (3, .int yk), (4, .int l), (5, .int (Int32.ofNat yi + 1))] [] (uI V 54 yi yx) (fun yv A1 => yv = some (.int (hsV yA l yk (yy + 1) yc)) ∧ scX A1 yA A1 ∧ (∀ yq, yq ≤ yy → A1.1 55 yq = gyV yA l yk yq yc) ∧ A1.1 47 18 = whV yA l yk yc (yy + 1) ∧ A1.1 47 17 = yW.1 47 17) := fun V yx hic hV hV1 hV17 hx => by
        have yh := yih (yi + 1) (uI V 54 yi yx) (by omega) (scX_k hV (by decide)) (fun yj hj => by
          rw [uI_row]
          by_cases ye : yj = yi
          · rw [if_pos ye, ye]
            exact hx
          · rw [if_neg ye]
            exact hV1 yj (by omega)) (by rw [uI_c (by decide)]; exact hV17)
        rw [on_succ yi] at yh
        exact yh
      refine bx_de1 (Int32.ofNat yc) (Int32.ofNat yy) yk l (Int32.ofNat yi) ?_ ?_ ?_ <;> rw [ei] <;> (try rw [ec]) <;> (try rw [Int.toNat_natCast])
      · intro yq
        have ye : yi = yc + 1 := by omega
        exact key2 N 0 (uI yU 47 18 (-4)) (Nat.zero_le _) (scX_k hu (by decide)) (fun yj hj => by
          rw [uI_c (by decide)]
          exact h1 yj (by omega)) (fun yq hq => absurd hq (Nat.not_lt_zero yq)) (by rw [uI_h]; rfl) (by rw [uI_k (by decide)]; exact h17)
      · intro yq1 yq2 yq3 yq4
        rw [u50, yg.r50 yi (by omega)] at yq4
        exact nx yU 0 (by omega) hu h1 h17 (dqV_0 yq4).symm
      · intro yq1 yq2 yq3 yq4
        rw [u50, yg.r50 yi (by omega)] at yq4
        rw [u49, yg.r49 yi (by omega)]
        have iq : yi < qT yA := by omega
        have hf := Rqx.f0 (yj := yi) yg (by omega)
        refine Pa.mono (c_duX yg.gx hu (yA.1 106 yi) l yk hf.1 (yg.rq.1 yi iq) hk N) (fun yv A1 hv => ?_)
        obtain ⟨rfl, ys1⟩ := hv
        refine bx_de2 (Int32.ofNat yc) (Int32.ofNat yy) yk l (Int32.ofNat yi) _ ?_
        rw [ei, Int.toNat_natCast]
        exact fun _ _ => nx A1 _ (by omega) (scX_rb ys1) (fun yj hj => (ys1.2.2.2.2 54 yj (by decide)).trans (h1 yj hj)) ((ys1.2.2.2.2 47 17 (by decide)).trans h17) (dqV_1 yq4).symm
  refine bx_de0 (Int32.ofNat yc) (Int32.ofNat yy) yk ?_
  rw [ec, Int.toNat_natCast]
  intro _ _
  rw [yr hs 50 yc (by decide), yg.r50 yc hc60, el]
  exact key1 N 0 yW (Nat.zero_le _) hs (fun yj hj => absurd hj (Nat.not_lt_zero yj)) rfl
