/-! WHAT IS PAID -/
/-- worths are not below 0 -/
theorem kof_0 {yA : AW} (yg : Rgl yA) (hl : Rlt yA) {yc : Nat} (yhc : yc < cT yA) (yk : Int32) : 0 ≤ (kofM yA (Int32.ofNat yc) yk).toInt := by
  have h150 : yc < 150 := by have := yg.T; unfold cT at yhc; omega
  obtain ⟨ya, ya1, a2, a3, z0, z1, z2, z3, z4, z5, z6, z7, z8, z9, z10, z11, z12, yz13, yz14⟩ := yg.rz.1 yc yhc
  have r2 := yg.ok.cst 2 0 99999 h150 ya1 (by decide) (by rfl)
  have r12 := yg.ok.cst 12 0 99999 h150 ya1 (by decide) (by rfl)
  rw [z2] at r2
  rw [z12] at r12
  have hl2 := hl yc yhc
  have ye : (Int32.ofNat yc).toInt.toNat = yc := by
    rw [i32_nat (by omega)]
    omega
  unfold kofM
  rw [ye]
  split
  · exact r2.1
  · split
    · exact r2.1
    · rw [i_subx rfl (by omega) (by omega)]
      omega
theorem fr_0 {yA : AW} (yg : Rgl yA) (hp : Rpr yA) (hl : Rlt yA) {yc : Nat} (yhc : yc < cT yA) (yk : Int32) : 0 ≤ (frV yA yc yk).toInt := by
  have yh := kof_0 yg hl yhc yk
  have h2 := mid_ge yg hp yc yk
  unfold frV
  split
  · exact yh
  · split
    · exact yh
    · exact h2
theorem cv_0 {yx yy yz : Int32} (hx0 : 0 ≤ yx.toInt) (hx : yx.toInt ≤ 99999) (y0 : 0 ≤ yy.toInt) (y1 : yy.toInt ≤ 99999) (z0 : 0 ≤ yz.toInt) (z1 : yz.toInt ≤ 100) : 0 ≤ (((yx.toInt64 * yy.toInt64) / 1000 * yz.toInt64) / 100).toInt := by
  have ea := Int.mul_le_mul_of_nonneg_right hx y0
  have eb := Int.mul_nonneg hx0 y0
  have ye1 : (yx.toInt64 * yy.toInt64).toInt = yx.toInt * yy.toInt := by
    rw [Int64.toInt_mul, Int32.toInt_toInt64, Int32.toInt_toInt64]
    exact z_bm1 ⟨by show (-9223372036854775808 : Int) ≤ _; omega, by show _ ≤ (9223372036854775807 : Int); omega⟩
  generalize hP : yx.toInt * yy.toInt = yP at ea eb ye1
  have yt1 := tdv (yx := yP) (yb := 1000) (by omega)
  have ye2 : ((yx.toInt64 * yy.toInt64) / 1000).toInt = yP.tdiv 1000 := by
    rw [Int64.toInt_div, ye1, show (1000 : Int64).toInt = 1000 from by decide]
    exact z_bm1 ⟨by show (-9223372036854775808 : Int) ≤ _; omega, by show _ ≤ (9223372036854775807 : Int); omega⟩
  generalize hV : yP.tdiv 1000 = V at ye2 yt1
  have yv0 : 0 ≤ V := by omega
  have yv1 : V ≤ 9999801 := by omega
  have ec := Int.mul_le_mul_of_nonneg_right yv1 z0
  have ed := Int.mul_nonneg yv0 z0
  have ye3 : ((yx.toInt64 * yy.toInt64) / 1000 * yz.toInt64).toInt = V * yz.toInt := by
    rw [Int64.toInt_mul, ye2, Int32.toInt_toInt64]
    exact z_bm1 ⟨by show (-9223372036854775808 : Int) ≤ _; omega, by show _ ≤ (9223372036854775807 : Int); omega⟩
  generalize yhM : V * yz.toInt = yM at ec ed ye3
  have yt2 := tdv (yx := yM) (yb := 100) (by omega)
  have ye6 : (yM.tdiv 100).bmod (2 ^ 64) = yM.tdiv 100 := z_bm1 ⟨by show (-9223372036854775808 : Int) ≤ _; omega, by show _ ≤ (9223372036854775807 : Int); omega⟩
  rw [Int64.toInt_div, ye3, show (100 : Int64).toInt = 100 from by decide, ye6]
  omega
theorem cvV_0 {yA : AW} (yg : Rgx yA) (hp : Rpr yA) (hl : Rlt yA) {yc : Nat} (yhc : yc < cT yA) (yk : Int32) : 0 ≤ (cvV yA yc yk).toInt := by
  have h150 : yc < 150 := by have := yg.gl.T; unfold cT at yhc; omega
  have gL := yg.gl.ok.per (i := 90) (n := 1050) (j := 7 * yc + 2) (a := 0) (b := 0) (lo := 0) (hi := 5) (t := 0) (by rfl) (by omega) (by
    show (0, zZ.2.2.getD ((7 * yc + 2) % 7) (0, 0)) = _
    rw [show (7 * yc + 2) % 7 = 2 by omega]
    rfl)
  have hw := cofM_rg yg.x4.2 (l := (yA.1 90 (7 * yc + 2))) (yd := (yA.1 90 (7 * yc + 3))) (by omega)
  have yhb := byV_01 (yA := yA) (yc := yc) (yk := yk)
  have yh : 0 ≤ (cvL yA yc yk).toInt := cv_0 (fr_0 yg.gl hp hl yhc yk) (fr_le yg.gl yhc yk) hw.1 hw.2 yhb.1 yhb.2
  have h2 : -9999801 ≤ (cvL yA yc yk).toInt ∧ (cvL yA yc yk).toInt ≤ 9999801 := cv_rg (fr_ge yg.gl hp yhc yk) (fr_le yg.gl yhc yk) hw.1 hw.2 yhb.1 yhb.2
  unfold cvV
  split
  · decide
  · rw [Int64.toInt_toInt32, z_bm0 ⟨by show (-2147483648 : Int) ≤ _; omega, by show _ ≤ (2147483647 : Int); omega⟩]
    exact yh
theorem smI_0g {yA : AW} (yg : Rgx yA) (hp : Rpr yA) (hl : Rlt yA) (yf l yy yk : Int32) : ∀ {yn : Nat}, yn ≤ cT yA → 0 ≤ smI yA yf l yy yk yn
  | 0, _ => Int.le_refl 0
  | yn + 1, hn => by
    have yih := smI_0g yg hp hl yf l yy yk (yn := yn) (by omega)
    have yh := cvV_0 yg hp hl (yc := yn) (by omega) yk
    by_cases yz : inB yA yf l (-1) yy yn
    · rw [smI_1 yz]
      omega
    · rw [smI_0 yz]
      exact yih
theorem clM_rg {ym yv : Int32} (yhm : 0 ≤ ym.toInt) : 0 ≤ (clM ym yv).toInt ∧ (clM ym yv).toInt ≤ ym.toInt := by
  have h0 : (0 : Int32).toInt = 0 := by decide
  unfold clM
  split
  · omega
  · split <;> omega
theorem lw_rg {yA : AW} {yu l yf yd yk : Int32} (h1 : 1 ≤ yu.toInt) (h2 : yu.toInt ≤ 3) : 0 ≤ (lwV yA yu l yf yd yk).toInt ∧ (lwV yA yu l yf yd yk).toInt ≤ 99999999 ∧ (yu.toInt = 1 → (lwV yA yu l yf yd yk).toInt ≤ 100) := by
  have a30 : (30 : Int32).toInt = 30 := by decide
  have ya0 : (0 : Int32).toInt = 0 := by decide
  have a9 : (99999999 : Int32).toInt = 99999999 := by decide
  have a100 : (100 : Int32).toInt = 100 := by decide
  cases yh : txO yA (10 * l + yu) yd yk (fmE yA yf l yd yk) with
  | none =>
    rw [lwV_0 yh, tab_eq h1 h2]
    split
    · omega
    · split <;> omega
  | some yx =>
    rw [lwV_1 yh, cl_eq h1 h2]
    split
    · have := clM_rg (ym := 100) (yv := rnV yx) (by decide)
      omega
    · have := clM_rg (ym := 99999999) (yv := rnV yx) (by decide)
      omega
theorem duV_rg {yA : AW} (yg : Rgx yA) (hp : Rpr yA) (hl : Rlt yA) (yf l yk : Int32) : 0 ≤ (duV yA yf l yk).toInt ∧ (duV yA yf l yk).toInt ≤ 99999999 := by
  unfold duV
  split
  · decide
  · have yb := bs_64 yg hp yf l (-1) yk
    have ys := smV_I yg hp yf l (-1) yk (Nat.le_refl (cT yA))
    have ys0 := smI_0g yg hp hl yf l (-1) yk (Nat.le_refl (cT yA))
    have yr1 := lw_rg (yA := yA) (yu := 1) (l := l) (yf := yf) (yd := yk) (yk := yk) (by decide) (by decide)
    have r3 := lw_rg (yA := yA) (yu := 3) (l := l) (yf := yf) (yd := yk) (yk := yk) (by decide) (by decide)
    have r11 := yr1.2.2 (by decide)
    obtain ⟨yB, yhB⟩ : ∃ yB, (smV yA yf l (-1) (-1) yk (cT yA)).toInt = yB := ⟨_, rfl⟩
    rw [yb.1]
    rw [yhB] at ys
    have b2 := yb.2
    rw [yhB] at b2
    have ye1 : (smV yA yf l (-1) (-1) yk (cT yA) * (lwV yA 1 l yf yk yk).toInt64).toInt = yB * (lwV yA 1 l yf yk yk).toInt := by
      have ym1 : yB * (lwV yA 1 l yf yk yk).toInt ≤ 1999999999 * 100 := Int.mul_le_mul (by omega) r11 yr1.1 (by omega)
      have ym0 : 0 ≤ yB * (lwV yA 1 l yf yk yk).toInt := Int.mul_nonneg (by omega) yr1.1
      rw [Int64.toInt_mul, yhB, Int32.toInt_toInt64]
      generalize yB * (lwV yA 1 l yf yk yk).toInt = yM at ym0 ym1
      exact z_bm1 ⟨by show (-9223372036854775808 : Int) ≤ _; omega, by show _ ≤ (9223372036854775807 : Int); omega⟩
    have ym1 : yB * (lwV yA 1 l yf yk yk).toInt ≤ 1999999999 * 100 := Int.mul_le_mul (by omega) r11 yr1.1 (by omega)
    have ym0 : 0 ≤ yB * (lwV yA 1 l yf yk yk).toInt := Int.mul_nonneg (by omega) yr1.1
    generalize yhM : yB * (lwV yA 1 l yf yk yk).toInt = yM at ym0 ym1 ye1
    have yt2 := tdv (yx := yM) (yb := 100) (by omega)
    have ye2 : ((smV yA yf l (-1) (-1) yk (cT yA) * (lwV yA 1 l yf yk yk).toInt64) / 100).toInt = yM.tdiv 100 := by
      rw [Int64.toInt_div, ye1, show (100 : Int64).toInt = 100 from by decide]
      exact z_bm1 ⟨by show (-9223372036854775808 : Int) ≤ _; omega, by show _ ≤ (9223372036854775807 : Int); omega⟩
    have ye3 : 0 ≤ (l_min ((smV yA yf l (-1) (-1) yk (cT yA) * (lwV yA 1 l yf yk yk).toInt64) / 100) (lwV yA 3 l yf yk yk).toInt64).toInt ∧ (l_min ((smV yA yf l (-1) (-1) yk (cT yA) * (lwV yA 1 l yf yk yk).toInt64) / 100) (lwV yA 3 l yf yk yk).toInt64).toInt ≤ 99999999 := by
      unfold l_min
      by_cases yq : (lwV yA 3 l yf yk yk).toInt64 < (smV yA yf l (-1) (-1) yk (cT yA) * (lwV yA 1 l yf yk yk).toInt64) / 100
      · rw [if_pos yq, Int32.toInt_toInt64]
        exact ⟨r3.1, r3.2.1⟩
      · have yq2 : ¬ (lwV yA 3 l yf yk yk).toInt64.toInt < ((smV yA yf l (-1) (-1) yk (cT yA) * (lwV yA 1 l yf yk yk).toInt64) / 100).toInt := fun yz => yq (Int64.lt_iff_toInt_lt.mpr yz)
        rw [Int32.toInt_toInt64] at yq2
        rw [if_neg yq]
        omega
    rw [Int64.toInt_toInt32, z_bm0 ⟨by show (-2147483648 : Int) ≤ _; omega, by show _ ≤ (2147483647 : Int); omega⟩]
    exact ye3
/-! pay -/
def hsN (yA : AW) (yc : Nat) : Nat := (yA.1 76 ((yA.1 106 yc).toInt.toNat)).toInt.toNat
/-- the film and its house are there -/
def pcOk (yA : AW) (yc : Nat) : Prop := (0 ≤ (yA.1 106 yc).toInt ∧ (yA.1 106 yc).toInt < (yA.1 69 11).toInt ∧ (yA.1 69 11).toInt ≤ 20) ∧ 0 ≤ (yA.1 76 ((yA.1 106 yc).toInt.toNat)).toInt ∧ (yA.1 76 ((yA.1 106 yc).toInt.toNat)).toInt < (yA.1 69 7).toInt ∧ (yA.1 69 7).toInt ≤ 20
def pcW (yA yW : AW) (yc : Nat) : Prop := yW.1 49 yc = yA.1 106 yc ∧ (∀ yj, yj < 20 → yW.1 6 yj = yA.1 76 yj) ∧ yW.1 5 6 = yA.1 69 11 ∧ yW.1 1 3 = yA.1 69 7
/-- what paying leaves: yp the yrow of loans, yq that of houses -/
def pyX (yp yq : Nat) (yA : AW) (yc : Nat) (yt : Int32) (yG : Nat → Int32) (yW A1 : AW) : Prop := (∀ yd yj, yd ≠ yp → yd ≠ yq → A1.1 yd yj = yW.1 yd yj) ∧ A1.2.2 = yW.2.2 ∧ (∀ yj, yj < 60 → A1.1 yp yj = (pyV yA (Int32.ofNat yc) yt yG 3).2 yj) ∧ ∀ yj, A1.1 yq yj = if yj = hsN yA yc then yW.1 yq yj + (pyV yA (Int32.ofNat yc) yt yG 3).1 else yW.1 yq yj
theorem bx_pay0 {N : Nat} {yA : AW} {yQ : Option Value → AW → Prop} (yc yt : Int32)
    (l1 : Pa N 75 5 [(0, .ref 47), (1, .int yc), (2, .int yt), (3, .int yt), (4, .int 0)] [] yA yQ) :
    Pa N 75 0 [(0, .ref 47), (1, .int yc), (2, .int yt)] [] yA yQ := by
  refine Pa.mp 2 (pc' := 2) (l' := [(3, .int yt), (0, .ref 47), (1, .int yc), (2, .int yt)]) (st' := []) (by rfl) ?_
  refine Pa.ic (x := 0) (pc' := 3) (by rfl) (by rfl) (by decide) ?_
  refine Pa.mp 1 (pc' := 5) (l' := [(4, .int 0), (3, .int yt), (0, .ref 47), (1, .int yc), (2, .int yt)]) (st' := []) (by rfl) ?_
  refine Pa.lv (l' := [(0, .ref 47), (1, .int yc), (2, .int yt), (3, .int yt), (4, .int 0)]) (lvS_c rfl (lvS_c rfl (lvS_c rfl (lvS_c rfl (lvS_c rfl (lvS_nil)))))) rfl ?_
  exact l1

theorem bx_pay1 {N : Nat} {yA : AW} {yQ : Option Value → AW → Prop} (yc yt ym yr : Int32)
    (l1 : 3 ≤ yr.toInt → 0 ≤ yc.toInt → yc.toInt < 60 → (yA.1 49 yc.toInt.toNat).toInt < 0 → yQ none yA)
    (l2 : 3 ≤ yr.toInt → 0 ≤ yc.toInt → yc.toInt < 60 → 0 ≤ (yA.1 49 yc.toInt.toNat).toInt → (yA.1 5 6).toInt ≤ (yA.1 49 yc.toInt.toNat).toInt → yQ none yA)
    (l3 : 3 ≤ yr.toInt → 0 ≤ yc.toInt → yc.toInt < 60 → 0 ≤ (yA.1 49 yc.toInt.toNat).toInt → (yA.1 49 yc.toInt.toNat).toInt < (yA.1 5 6).toInt → (yA.1 49 yc.toInt.toNat).toInt < 20 → (yA.1 6 ((yA.1 49 yc.toInt.toNat).toInt.toNat)).toInt < 0 → yQ none yA)
    (l4 : 3 ≤ yr.toInt → 0 ≤ yc.toInt → yc.toInt < 60 → 0 ≤ (yA.1 49 yc.toInt.toNat).toInt → (yA.1 49 yc.toInt.toNat).toInt < (yA.1 5 6).toInt → (yA.1 49 yc.toInt.toNat).toInt < 20 → 0 ≤ (yA.1 6 ((yA.1 49 yc.toInt.toNat).toInt.toNat)).toInt → (yA.1 1 3).toInt ≤ (yA.1 6 ((yA.1 49 yc.toInt.toNat).toInt.toNat)).toInt → yQ none yA)
    (l5 : 3 ≤ yr.toInt → 0 ≤ yc.toInt → yc.toInt < 60 → 0 ≤ (yA.1 49 yc.toInt.toNat).toInt → (yA.1 49 yc.toInt.toNat).toInt < (yA.1 5 6).toInt → (yA.1 49 yc.toInt.toNat).toInt < 20 → 0 ≤ (yA.1 6 ((yA.1 49 yc.toInt.toNat).toInt.toNat)).toInt → (yA.1 6 ((yA.1 49 yc.toInt.toNat).toInt.toNat)).toInt < (yA.1 1 3).toInt → (yA.1 6 ((yA.1 49 yc.toInt.toNat).toInt.toNat)).toInt < 20 → yQ none (uI yA 3 ((yA.1 6 ((yA.1 49 yc.toInt.toNat).toInt.toNat)).toInt.toNat) ((yA.1 3 ((yA.1 6 ((yA.1 49 yc.toInt.toNat).toInt.toNat)).toInt.toNat)) + ym)))
    (l6 : yr.toInt < 3 → Pa N 77 0 [(0, .ref 47), (1, .int yc), (2, .int yr), (3, .int ym)] [] yA (fun yu A1 => Pa N 75 19 [(0, .ref 47), (1, .int yc), (2, .int yt), (3, .int ym), (4, .int yr)] (yu.toList ++ []) A1 yQ)) :
    Pa (N + 1) 75 5 [(0, .ref 47), (1, .int yc), (2, .int yt), (3, .int ym), (4, .int yr)] [] yA yQ := by
  refine Pa.mp1 0 (pc' := 7) (l' := [(0, .ref 47), (1, .int yc), (2, .int yt), (3, .int ym), (4, .int yr)]) (st' := [.int yr]) (by rfl) ?_
  refine Pa.ic (x := 3) (pc' := 8) (by rfl) (by rfl) (by decide) ?_
  refine Pa.if2 (a := yr.toInt) (b := 3) (t := 26) (by rfl) (by rfl) (rfl) (by decide) (fun h1 => ?_) (fun h2 => ?_)
  · have h1 : 3 ≤ yr.toInt := h1
    refine Pa.mp 1 (pc' := 27) (l' := [(0, .ref 47), (1, .int yc), (2, .int yt), (3, .int ym), (4, .int yr)]) (st' := [.ref 47]) (by rfl) ?_
    refine Pa.gfR (by rfl) (by rfl) (.inl rfl) (by rfl) ?_
    show Pa N 75 30 [(0, .ref 47), (1, .int yc), (2, .int yt), (3, .int ym), (4, .int yr)] [.ref 49] yA _
    refine Pa.mp 1 (pc' := 31) (l' := [(0, .ref 47), (1, .int yc), (2, .int yt), (3, .int ym), (4, .int yr)]) (st' := [.int yc, .ref 49]) (by rfl) ?_
    refine Pa.alds (v := yA.1 49 yc.toInt.toNat) (by rfl) (by rfl) (by rfl) (fun h3 h4 => ?_)
    have h3 : 0 ≤ yc.toInt := h3
    have h4 : yc.toInt < 60 := h4
    refine Pa.mp 2 (pc' := 35) (l' := [(4, .int (yA.1 49 yc.toInt.toNat)), (0, .ref 47), (1, .int yc), (2, .int yt), (3, .int ym)]) (st' := [.ref 47]) (by rfl) ?_
    refine Pa.gfR (by rfl) (by rfl) (.inl rfl) (by rfl) ?_
    show Pa N 75 38 [(4, .int (yA.1 49 yc.toInt.toNat)), (0, .ref 47), (1, .int yc), (2, .int yt), (3, .int ym)] [.ref 5] yA _
    refine Pa.mp 1 (pc' := 40) (l' := [(4, .int (yA.1 49 yc.toInt.toNat)), (0, .ref 47), (1, .int yc), (2, .int yt), (3, .int ym)]) (st' := [.int (yA.1 49 yc.toInt.toNat), .ref 5]) (by rfl) ?_
    refine Pa.inv (by rfl) (by rfl) (.inr rfl) (by rfl) ?_
    show Pa N 41 0 [(0, .ref 5), (1, .int (yA.1 49 yc.toInt.toNat))] [] yA _
    refine Pa.mp 1 (pc' := 1) (l' := [(0, .ref 5), (1, .int (yA.1 49 yc.toInt.toNat))]) (st' := [.int (yA.1 49 yc.toInt.toNat)]) (by rfl) ?_
    refine Pa.if1 (a := (yA.1 49 yc.toInt.toNat).toInt) (t := 16) (by rfl) (by rfl) (rfl) (fun h5 => ?_) (fun h6 => ?_)
    · have h5 : (yA.1 49 yc.toInt.toNat).toInt < 0 := h5
      refine Pa.ic (x := 0) (pc' := 17) (by rfl) (by rfl) (by decide) ?_
      refine Pa.iret (by rfl) ?_
      show Pa N 75 43 [(4, .int (yA.1 49 yc.toInt.toNat)), (0, .ref 47), (1, .int yc), (2, .int yt), (3, .int ym)] [.int 0] yA _
      refine Pa.if1k true (by rfl) (by rfl) (by decide) ?_
      show Pa N 75 64 [(4, .int (yA.1 49 yc.toInt.toNat)), (0, .ref 47), (1, .int yc), (2, .int yt), (3, .int ym)] [] yA _
      refine Pa.vret (by rfl) ?_
      exact l1 h1 h3 h4 h5
    · have h6 : 0 ≤ (yA.1 49 yc.toInt.toNat).toInt := h6
      refine Pa.mp 2 (pc' := 6) (l' := [(0, .ref 5), (1, .int (yA.1 49 yc.toInt.toNat))]) (st' := [.ref 5, .int (yA.1 49 yc.toInt.toNat)]) (by rfl) ?_
      refine Pa.gfI (v := yA.1 5 6) (by rfl) (by rfl) (.inl rfl) (by rfl) (by rfl) ?_
      refine Pa.if2 (a := (yA.1 49 yc.toInt.toNat).toInt) (b := (yA.1 5 6).toInt) (t := 16) (by rfl) (by rfl) (rfl) (rfl) (fun h7 => ?_) (fun h8 => ?_)
      · have h7 : (yA.1 5 6).toInt ≤ (yA.1 49 yc.toInt.toNat).toInt := h7
        refine Pa.ic (x := 0) (pc' := 17) (by rfl) (by rfl) (by decide) ?_
        refine Pa.iret (by rfl) ?_
        show Pa N 75 43 [(4, .int (yA.1 49 yc.toInt.toNat)), (0, .ref 47), (1, .int yc), (2, .int yt), (3, .int ym)] [.int 0] yA _
        refine Pa.if1k true (by rfl) (by rfl) (by decide) ?_
        show Pa N 75 64 [(4, .int (yA.1 49 yc.toInt.toNat)), (0, .ref 47), (1, .int yc), (2, .int yt), (3, .int ym)] [] yA _
        refine Pa.vret (by rfl) ?_
        exact l2 h1 h3 h4 h6 h7
      · have h8 : (yA.1 49 yc.toInt.toNat).toInt < (yA.1 5 6).toInt := h8
        refine Pa.ic (x := 1) (pc' := 13) (by rfl) (by rfl) (by decide) ?_
        refine Pa.mp 1 (pc' := 17) (l' := [(0, .ref 5), (1, .int (yA.1 49 yc.toInt.toNat))]) (st' := [.int 1]) (by rfl) ?_
        refine Pa.iret (by rfl) ?_
        show Pa N 75 43 [(4, .int (yA.1 49 yc.toInt.toNat)), (0, .ref 47), (1, .int yc), (2, .int yt), (3, .int ym)] [.int 1] yA _
        refine Pa.if1k false (by rfl) (by rfl) (by decide) ?_
        show Pa N 75 46 [(4, .int (yA.1 49 yc.toInt.toNat)), (0, .ref 47), (1, .int yc), (2, .int yt), (3, .int ym)] [] yA _
        refine Pa.mp 1 (pc' := 47) (l' := [(4, .int (yA.1 49 yc.toInt.toNat)), (0, .ref 47), (1, .int yc), (2, .int yt), (3, .int ym)]) (st' := [.ref 47]) (by rfl) ?_
        refine Pa.gfR (by rfl) (by rfl) (.inl rfl) (by rfl) ?_
        show Pa N 75 50 [(4, .int (yA.1 49 yc.toInt.toNat)), (0, .ref 47), (1, .int yc), (2, .int yt), (3, .int ym)] [.ref 1] yA _
        refine Pa.mp 1 (pc' := 51) (l' := [(4, .int (yA.1 49 yc.toInt.toNat)), (0, .ref 47), (1, .int yc), (2, .int yt), (3, .int ym)]) (st' := [.ref 47, .ref 1]) (by rfl) ?_
        refine Pa.gfR (by rfl) (by rfl) (.inl rfl) (by rfl) ?_
        show Pa N 75 54 [(4, .int (yA.1 49 yc.toInt.toNat)), (0, .ref 47), (1, .int yc), (2, .int yt), (3, .int ym)] [.ref 5, .ref 1] yA _
        refine Pa.gfR (by rfl) (by rfl) (.inr rfl) (by rfl) ?_
        show Pa N 75 57 [(4, .int (yA.1 49 yc.toInt.toNat)), (0, .ref 47), (1, .int yc), (2, .int yt), (3, .int ym)] [.ref 6, .ref 1] yA _
        refine Pa.mp 1 (pc' := 59) (l' := [(4, .int (yA.1 49 yc.toInt.toNat)), (0, .ref 47), (1, .int yc), (2, .int yt), (3, .int ym)]) (st' := [.int (yA.1 49 yc.toInt.toNat), .ref 6, .ref 1]) (by rfl) ?_
        refine Pa.alds (v := yA.1 6 ((yA.1 49 yc.toInt.toNat).toInt.toNat)) (by rfl) (by rfl) (by rfl) (fun h9 h10 => ?_)
        have h9 : 0 ≤ (yA.1 49 yc.toInt.toNat).toInt := h9
        have h10 : (yA.1 49 yc.toInt.toNat).toInt < 20 := h10
        refine Pa.mp 1 (pc' := 61) (l' := [(4, .int (yA.1 49 yc.toInt.toNat)), (0, .ref 47), (1, .int yc), (2, .int yt), (3, .int ym)]) (st' := [.int ym, .int (yA.1 6 ((yA.1 49 yc.toInt.toNat).toInt.toNat)), .ref 1]) (by rfl) ?_
        refine Pa.inv (by rfl) (by rfl) (.inr rfl) (by rfl) ?_
        show Pa N 53 0 [(0, .ref 1), (1, .int (yA.1 6 ((yA.1 49 yc.toInt.toNat).toInt.toNat))), (2, .int ym)] [] yA _
        refine Pa.mp 2 (pc' := 2) (l' := [(0, .ref 1), (1, .int (yA.1 6 ((yA.1 49 yc.toInt.toNat).toInt.toNat))), (2, .int ym)]) (st' := [.int (yA.1 6 ((yA.1 49 yc.toInt.toNat).toInt.toNat)), .ref 1]) (by rfl) ?_
        refine Pa.inv (by rfl) (by rfl) (.inl rfl) (by rfl) ?_
        show Pa N 48 0 [(0, .ref 1), (1, .int (yA.1 6 ((yA.1 49 yc.toInt.toNat).toInt.toNat)))] [] yA _
        refine Pa.mp 1 (pc' := 1) (l' := [(0, .ref 1), (1, .int (yA.1 6 ((yA.1 49 yc.toInt.toNat).toInt.toNat)))]) (st' := [.int (yA.1 6 ((yA.1 49 yc.toInt.toNat).toInt.toNat))]) (by rfl) ?_
        refine Pa.if1 (a := (yA.1 6 ((yA.1 49 yc.toInt.toNat).toInt.toNat)).toInt) (t := 16) (by rfl) (by rfl) (rfl) (fun h11 => ?_) (fun h12 => ?_)
        · have h11 : (yA.1 6 ((yA.1 49 yc.toInt.toNat).toInt.toNat)).toInt < 0 := h11
          refine Pa.ic (x := 0) (pc' := 17) (by rfl) (by rfl) (by decide) ?_
          refine Pa.iret (by rfl) ?_
          show Pa N 53 5 [(0, .ref 1), (1, .int (yA.1 6 ((yA.1 49 yc.toInt.toNat).toInt.toNat))), (2, .int ym)] [.int 0] yA _
          refine Pa.if1k true (by rfl) (by rfl) (by decide) ?_
          show Pa N 53 18 [(0, .ref 1), (1, .int (yA.1 6 ((yA.1 49 yc.toInt.toNat).toInt.toNat))), (2, .int ym)] [] yA _
          refine Pa.vret (by rfl) ?_
          show Pa N 75 64 [(4, .int (yA.1 49 yc.toInt.toNat)), (0, .ref 47), (1, .int yc), (2, .int yt), (3, .int ym)] [] yA _
          refine Pa.vret (by rfl) ?_
          exact l3 h1 h3 h4 h6 h8 h10 h11
        · have h12 : 0 ≤ (yA.1 6 ((yA.1 49 yc.toInt.toNat).toInt.toNat)).toInt := h12
          refine Pa.mp 2 (pc' := 6) (l' := [(0, .ref 1), (1, .int (yA.1 6 ((yA.1 49 yc.toInt.toNat).toInt.toNat)))]) (st' := [.ref 1, .int (yA.1 6 ((yA.1 49 yc.toInt.toNat).toInt.toNat))]) (by rfl) ?_
          refine Pa.gfI (v := yA.1 1 3) (by rfl) (by rfl) (.inl rfl) (by rfl) (by rfl) ?_
          refine Pa.if2 (a := (yA.1 6 ((yA.1 49 yc.toInt.toNat).toInt.toNat)).toInt) (b := (yA.1 1 3).toInt) (t := 16) (by rfl) (by rfl) (rfl) (rfl) (fun h13 => ?_) (fun h14 => ?_)
          · have h13 : (yA.1 1 3).toInt ≤ (yA.1 6 ((yA.1 49 yc.toInt.toNat).toInt.toNat)).toInt := h13
            refine Pa.ic (x := 0) (pc' := 17) (by rfl) (by rfl) (by decide) ?_
            refine Pa.iret (by rfl) ?_
            show Pa N 53 5 [(0, .ref 1), (1, .int (yA.1 6 ((yA.1 49 yc.toInt.toNat).toInt.toNat))), (2, .int ym)] [.int 0] yA _
            refine Pa.if1k true (by rfl) (by rfl) (by decide) ?_
            show Pa N 53 18 [(0, .ref 1), (1, .int (yA.1 6 ((yA.1 49 yc.toInt.toNat).toInt.toNat))), (2, .int ym)] [] yA _
            refine Pa.vret (by rfl) ?_
            show Pa N 75 64 [(4, .int (yA.1 49 yc.toInt.toNat)), (0, .ref 47), (1, .int yc), (2, .int yt), (3, .int ym)] [] yA _
            refine Pa.vret (by rfl) ?_
            exact l4 h1 h3 h4 h6 h8 h10 h12 h13
          · have h14 : (yA.1 6 ((yA.1 49 yc.toInt.toNat).toInt.toNat)).toInt < (yA.1 1 3).toInt := h14
            refine Pa.ic (x := 1) (pc' := 13) (by rfl) (by rfl) (by decide) ?_
            refine Pa.mp 1 (pc' := 17) (l' := [(0, .ref 1), (1, .int (yA.1 6 ((yA.1 49 yc.toInt.toNat).toInt.toNat)))]) (st' := [.int 1]) (by rfl) ?_
            refine Pa.iret (by rfl) ?_
            show Pa N 53 5 [(0, .ref 1), (1, .int (yA.1 6 ((yA.1 49 yc.toInt.toNat).toInt.toNat))), (2, .int ym)] [.int 1] yA _
            refine Pa.if1k false (by rfl) (by rfl) (by decide) ?_
            show Pa N 53 8 [(0, .ref 1), (1, .int (yA.1 6 ((yA.1 49 yc.toInt.toNat).toInt.toNat))), (2, .int ym)] [] yA _
            refine Pa.mp 1 (pc' := 9) (l' := [(0, .ref 1), (1, .int (yA.1 6 ((yA.1 49 yc.toInt.toNat).toInt.toNat))), (2, .int ym)]) (st' := [.ref 1]) (by rfl) ?_
            refine Pa.gfR (by rfl) (by rfl) (.inl rfl) (by rfl) ?_
            show Pa N 53 12 [(0, .ref 1), (1, .int (yA.1 6 ((yA.1 49 yc.toInt.toNat).toInt.toNat))), (2, .int ym)] [.ref 3] yA _
            refine Pa.mp 2 (pc' := 14) (l' := [(0, .ref 1), (1, .int (yA.1 6 ((yA.1 49 yc.toInt.toNat).toInt.toNat))), (2, .int ym)]) (st' := [.int (yA.1 6 ((yA.1 49 yc.toInt.toNat).toInt.toNat)), .ref 3, .int (yA.1 6 ((yA.1 49 yc.toInt.toNat).toInt.toNat)), .ref 3]) (by rfl) ?_
            refine Pa.alds (v := yA.1 3 ((yA.1 6 ((yA.1 49 yc.toInt.toNat).toInt.toNat)).toInt.toNat)) (by rfl) (by rfl) (by rfl) (fun h15 yh16 => ?_)
            have h15 : 0 ≤ (yA.1 6 ((yA.1 49 yc.toInt.toNat).toInt.toNat)).toInt := h15
            have yh16 : (yA.1 6 ((yA.1 49 yc.toInt.toNat).toInt.toNat)).toInt < 20 := yh16
            refine Pa.mp 2 (pc' := 17) (l' := [(0, .ref 1), (1, .int (yA.1 6 ((yA.1 49 yc.toInt.toNat).toInt.toNat))), (2, .int ym)]) (st' := [.int ((yA.1 3 ((yA.1 6 ((yA.1 49 yc.toInt.toNat).toInt.toNat)).toInt.toNat)) + ym), .int (yA.1 6 ((yA.1 49 yc.toInt.toNat).toInt.toNat)), .ref 3]) (by rfl) ?_
            refine Pa.asts (j' := ((yA.1 6 ((yA.1 49 yc.toInt.toNat).toInt.toNat)).toInt.toNat)) (by rfl) (by rfl) (by rfl) (fun h17 h18 => ?_)
            have h17 : 0 ≤ (yA.1 6 ((yA.1 49 yc.toInt.toNat).toInt.toNat)).toInt := h17
            have h18 : (yA.1 6 ((yA.1 49 yc.toInt.toNat).toInt.toNat)).toInt < 20 := h18
            show Pa N 53 18 [(0, .ref 1), (1, .int (yA.1 6 ((yA.1 49 yc.toInt.toNat).toInt.toNat))), (2, .int ym)] [] (uI yA 3 ((yA.1 6 ((yA.1 49 yc.toInt.toNat).toInt.toNat)).toInt.toNat) ((yA.1 3 ((yA.1 6 ((yA.1 49 yc.toInt.toNat).toInt.toNat)).toInt.toNat)) + ym)) _
            refine Pa.vret (by rfl) ?_
            show Pa N 75 64 [(4, .int (yA.1 49 yc.toInt.toNat)), (0, .ref 47), (1, .int yc), (2, .int yt), (3, .int ym)] [] (uI yA 3 ((yA.1 6 ((yA.1 49 yc.toInt.toNat).toInt.toNat)).toInt.toNat) ((yA.1 3 ((yA.1 6 ((yA.1 49 yc.toInt.toNat).toInt.toNat)).toInt.toNat)) + ym)) _
            refine Pa.vret (by rfl) ?_
            exact l5 h1 h3 h4 h6 h8 h10 h12 h14 yh16
  · have h2 : yr.toInt < 3 := h2
    refine Pa.mp 4 (pc' := 16) (l' := [(0, .ref 47), (1, .int yc), (2, .int yt), (3, .int ym), (4, .int yr)]) (st' := [.int ym, .int yr, .int yc, .ref 47]) (by rfl) ?_
    refine Pa.inv (by rfl) (by rfl) (.inl rfl) (by rfl) ?_
    exact l6 h2

theorem bx_pay2 {N : Nat} {yA : AW} {yQ : Option Value → AW → Prop} (yc yt ym yr yv : Int32)
    (l1 : Pa N 75 5 [(0, .ref 47), (1, .int yc), (2, .int yt), (3, .int yv), (4, .int (yr + 1))] [] yA yQ) :
    Pa N 75 19 [(0, .ref 47), (1, .int yc), (2, .int yt), (3, .int ym), (4, .int yr)] [.int yv] yA yQ := by
  refine Pa.mp 1 (pc' := 20) (l' := [(3, .int yv), (0, .ref 47), (1, .int yc), (2, .int yt), (4, .int yr)]) (st' := []) (by rfl) ?_
  refine Pa.iinc (x := yr) (c := 1) (v := (yr + 1)) (l' := [(4, .int (yr + 1)), (3, .int yv), (0, .ref 47), (1, .int yc), (2, .int yt)]) (by rfl) (by rfl) (by decide) (by rfl) (by rfl) ?_
  refine Pa.mp 1 (pc' := 5) (l' := [(4, .int (yr + 1)), (3, .int yv), (0, .ref 47), (1, .int yc), (2, .int yt)]) (st' := []) (by rfl) ?_
  refine Pa.lv (l' := [(0, .ref 47), (1, .int yc), (2, .int yt), (3, .int yv), (4, .int (yr + 1))]) (lvS_c rfl (lvS_c rfl (lvS_c rfl (lvS_c rfl (lvS_c rfl (lvS_nil)))))) rfl ?_
  exact l1

theorem c_poX {yA yW : AW} {yc : Nat} (yt : Int32) (yG : Nat → Int32) (yg : gdG yA yG) (h60 : lnT yA ≤ 60) (yhc : yc < 60) (ht : 0 ≤ yt.toInt) (hW : lnW yA yW yG) (hP : pcW yA yW yc) (hO : pcOk yA yc) (N : Nat) : Pa N 75 0 [(0, .ref 47), (1, .int (Int32.ofNat yc)), (2, .int yt)] [] yW (fun yv A1 => yv = none ∧ pyX 59 3 yA yc yt yG yW A1) := by
  have ec : (Int32.ofNat yc).toInt = (yc : Int) := i32_nat (by omega)
  obtain ⟨yp1, yp2, yp3, yp4⟩ := hP
  obtain ⟨⟨o1, o2, yo3⟩, yo4, yo5, o6⟩ := hO
  have ykey : ∀ (N yk : Nat) (yU : AW), yk ≤ 3 → exI 59 yW yU → (∀ yj, yj < 60 → yU.1 59 yj = (pyV yA (Int32.ofNat yc) yt yG yk).2 yj) → Pa N 75 5 [(0, .ref 47), (1, .int (Int32.ofNat yc)), (2, .int yt), (3, .int (pyV yA (Int32.ofNat yc) yt yG yk).1), (4, .int (Int32.ofNat yk))] [] yU (fun yv A1 => yv = none ∧ pyX 59 3 yA yc yt yG yW A1) := by
    intro N
    induction N with
    | zero => intros; exact Pa.zero
    | succ N yih =>
      intro yk yU hk hx h1
      have ek : (Int32.ofNat yk).toInt = (yk : Int) := i32_nat (by omega)
      have u49 : yU.1 49 yc = yA.1 106 yc := (hx.1 49 yc (by decide)).trans yp1
      have u6 : yU.1 6 ((yA.1 106 yc).toInt.toNat) = yA.1 76 ((yA.1 106 yc).toInt.toNat) := (hx.1 6 _ (by decide)).trans (yp2 _ (by omega))
      have u56 : yU.1 5 6 = yA.1 69 11 := (hx.1 5 6 (by decide)).trans yp3
      have u13 : yU.1 1 3 = yA.1 69 7 := (hx.1 1 3 (by decide)).trans yp4
      refine bx_pay1 (Int32.ofNat yc) yt _ (Int32.ofNat yk) ?_ ?_ ?_ ?_ ?_ ?_ <;> rw [ek] <;> (try rw [ec]) <;> (try rw [Int.toNat_natCast])
      · intro _ _ _ yq
        exfalso
        rw [u49] at yq
        omega
      · intro _ _ _ _ yq
        exfalso
        rw [u49, u56] at yq
        omega
      · intro _ _ _ _ _ _ yq
        exfalso
        rw [u49, u6] at yq
        omega
      · intro _ _ _ _ _ _ _ yq
        exfalso
        rw [u49, u6, u13] at yq
        omega
      · intro yq _ _ _ _ _ _ _ _
        have ye : yk = 3 := by omega
        subst ye
        rw [u49, u6]
        refine ⟨rfl, fun yd yj yq1 yq2 => ?_, hx.2, fun yj hj => ?_, fun yj => ?_⟩
        · rw [uI_c yq2]
          exact hx.1 yd yj yq1
        · rw [uI_c (by decide)]
          exact h1 yj hj
        · rw [uI_row, hx.1 3 yj (by decide), hx.1 3 _ (by decide)]
          show _ = if yj = (yA.1 76 ((yA.1 106 yc).toInt.toNat)).toInt.toNat then _ else _
          by_cases ye : yj = (yA.1 76 ((yA.1 106 yc).toInt.toNat)).toInt.toNat
          · rw [if_pos ye, if_pos ye, ← ye]
          · rw [if_neg ye, if_neg ye]
      · intro yq
        have gp := py_good yg h60 ht (yc := Int32.ofNat yc) (yk := yk)
        refine Pa.mono (c_rpX (yW := yU) (Int32.ofNat yc) (Int32.ofNat yk) _ _ gp.1 h60 (lnW_x hW hx h1) N) (fun yv A1 hv => ?_)
        obtain ⟨rfl, hx1, h2⟩ := hv
        refine bx_pay2 (Int32.ofNat yc) yt _ (Int32.ofNat yk) _ ?_
        have yh := yih (yk + 1) A1 (by omega) (exI_tr hx hx1) h2
        rw [on_succ yk] at yh
        exact yh
  exact bx_pay0 (Int32.ofNat yc) yt (ykey N 0 yW (Nat.zero_le _) (exI_refl 59 yW) hW.2.2.2.2)
theorem bm_pay0 {N : Nat} {yA : AW} {yQ : Option Value → AW → Prop} (yc yt : Int32)
    (l1 : Pa N 230 5 [(0, .ref 69), (1, .int yc), (2, .int yt), (3, .int yt), (4, .int 0)] [] yA yQ) :
    Pa N 230 0 [(0, .ref 69), (1, .int yc), (2, .int yt)] [] yA yQ := by
  refine Pa.mp 2 (pc' := 2) (l' := [(3, .int yt), (0, .ref 69), (1, .int yc), (2, .int yt)]) (st' := []) (by rfl) ?_
  refine Pa.ic (x := 0) (pc' := 3) (by rfl) (by rfl) (by decide) ?_
  refine Pa.mp 1 (pc' := 5) (l' := [(4, .int 0), (3, .int yt), (0, .ref 69), (1, .int yc), (2, .int yt)]) (st' := []) (by rfl) ?_
  refine Pa.lv (l' := [(0, .ref 69), (1, .int yc), (2, .int yt), (3, .int yt), (4, .int 0)]) (lvS_c rfl (lvS_c rfl (lvS_c rfl (lvS_c rfl (lvS_c rfl (lvS_nil)))))) rfl ?_
  exact l1

theorem bm_pay1 {N : Nat} {yA : AW} {yQ : Option Value → AW → Prop} (yc yt ym yr : Int32)
    (l1 : 3 ≤ yr.toInt → 0 ≤ yc.toInt → yc.toInt < 60 → 0 ≤ (yA.1 106 yc.toInt.toNat).toInt → (yA.1 106 yc.toInt.toNat).toInt < 20 → 0 ≤ (yA.1 76 ((yA.1 106 yc.toInt.toNat).toInt.toNat)).toInt → (yA.1 76 ((yA.1 106 yc.toInt.toNat).toInt.toNat)).toInt < 20 → yQ none (uI yA 74 ((yA.1 76 ((yA.1 106 yc.toInt.toNat).toInt.toNat)).toInt.toNat) ((yA.1 74 ((yA.1 76 ((yA.1 106 yc.toInt.toNat).toInt.toNat)).toInt.toNat)) + ym)))
    (l2 : yr.toInt < 3 → Pa N 229 0 [(0, .ref 69), (1, .int yc), (2, .int yr), (3, .int ym)] [] yA (fun yu A1 => Pa N 230 20 [(0, .ref 69), (1, .int yc), (2, .int yt), (3, .int ym), (4, .int yr)] (yu.toList ++ [.int ym]) A1 yQ)) :
    Pa (N + 1) 230 5 [(0, .ref 69), (1, .int yc), (2, .int yt), (3, .int ym), (4, .int yr)] [] yA yQ := by
  refine Pa.mp1 0 (pc' := 7) (l' := [(0, .ref 69), (1, .int yc), (2, .int yt), (3, .int ym), (4, .int yr)]) (st' := [.int yr]) (by rfl) ?_
  refine Pa.ic (x := 3) (pc' := 8) (by rfl) (by rfl) (by decide) ?_
  refine Pa.if2 (a := yr.toInt) (b := 3) (t := 28) (by rfl) (by rfl) (rfl) (by decide) (fun h1 => ?_) (fun h2 => ?_)
  · have h1 : 3 ≤ yr.toInt := h1
    refine Pa.mp 1 (pc' := 29) (l' := [(0, .ref 69), (1, .int yc), (2, .int yt), (3, .int ym), (4, .int yr)]) (st' := [.ref 69]) (by rfl) ?_
    refine Pa.gfR (by rfl) (by rfl) (.inl rfl) (by rfl) ?_
    show Pa N 230 32 [(0, .ref 69), (1, .int yc), (2, .int yt), (3, .int ym), (4, .int yr)] [.ref 74] yA _
    refine Pa.mp 1 (pc' := 33) (l' := [(0, .ref 69), (1, .int yc), (2, .int yt), (3, .int ym), (4, .int yr)]) (st' := [.ref 69, .ref 74]) (by rfl) ?_
    refine Pa.gfR (by rfl) (by rfl) (.inl rfl) (by rfl) ?_
    show Pa N 230 36 [(0, .ref 69), (1, .int yc), (2, .int yt), (3, .int ym), (4, .int yr)] [.ref 76, .ref 74] yA _
    refine Pa.mp 1 (pc' := 37) (l' := [(0, .ref 69), (1, .int yc), (2, .int yt), (3, .int ym), (4, .int yr)]) (st' := [.ref 69, .ref 76, .ref 74]) (by rfl) ?_
    refine Pa.gfR (by rfl) (by rfl) (.inl rfl) (by rfl) ?_
    show Pa N 230 40 [(0, .ref 69), (1, .int yc), (2, .int yt), (3, .int ym), (4, .int yr)] [.ref 106, .ref 76, .ref 74] yA _
    refine Pa.mp 1 (pc' := 41) (l' := [(0, .ref 69), (1, .int yc), (2, .int yt), (3, .int ym), (4, .int yr)]) (st' := [.int yc, .ref 106, .ref 76, .ref 74]) (by rfl) ?_
    refine Pa.alds (v := yA.1 106 yc.toInt.toNat) (by rfl) (by rfl) (by rfl) (fun h3 h4 => ?_)
    have h3 : 0 ≤ yc.toInt := h3
    have h4 : yc.toInt < 60 := h4
    refine Pa.alds (v := yA.1 76 ((yA.1 106 yc.toInt.toNat).toInt.toNat)) (by rfl) (by rfl) (by rfl) (fun h5 h6 => ?_)
    have h5 : 0 ≤ (yA.1 106 yc.toInt.toNat).toInt := h5
    have h6 : (yA.1 106 yc.toInt.toNat).toInt < 20 := h6
    refine Pa.mp 1 (pc' := 44) (l' := [(0, .ref 69), (1, .int yc), (2, .int yt), (3, .int ym), (4, .int yr)]) (st' := [.int (yA.1 76 ((yA.1 106 yc.toInt.toNat).toInt.toNat)), .ref 74, .int (yA.1 76 ((yA.1 106 yc.toInt.toNat).toInt.toNat)), .ref 74]) (by rfl) ?_
    refine Pa.alds (v := yA.1 74 ((yA.1 76 ((yA.1 106 yc.toInt.toNat).toInt.toNat)).toInt.toNat)) (by rfl) (by rfl) (by rfl) (fun h7 h8 => ?_)
    have h7 : 0 ≤ (yA.1 76 ((yA.1 106 yc.toInt.toNat).toInt.toNat)).toInt := h7
    have h8 : (yA.1 76 ((yA.1 106 yc.toInt.toNat).toInt.toNat)).toInt < 20 := h8
    refine Pa.mp 2 (pc' := 47) (l' := [(0, .ref 69), (1, .int yc), (2, .int yt), (3, .int ym), (4, .int yr)]) (st' := [.int ((yA.1 74 ((yA.1 76 ((yA.1 106 yc.toInt.toNat).toInt.toNat)).toInt.toNat)) + ym), .int (yA.1 76 ((yA.1 106 yc.toInt.toNat).toInt.toNat)), .ref 74]) (by rfl) ?_
    refine Pa.asts (j' := ((yA.1 76 ((yA.1 106 yc.toInt.toNat).toInt.toNat)).toInt.toNat)) (by rfl) (by rfl) (by rfl) (fun h9 h10 => ?_)
    have h9 : 0 ≤ (yA.1 76 ((yA.1 106 yc.toInt.toNat).toInt.toNat)).toInt := h9
    have h10 : (yA.1 76 ((yA.1 106 yc.toInt.toNat).toInt.toNat)).toInt < 20 := h10
    show Pa N 230 48 [(0, .ref 69), (1, .int yc), (2, .int yt), (3, .int ym), (4, .int yr)] [] (uI yA 74 ((yA.1 76 ((yA.1 106 yc.toInt.toNat).toInt.toNat)).toInt.toNat) ((yA.1 74 ((yA.1 76 ((yA.1 106 yc.toInt.toNat).toInt.toNat)).toInt.toNat)) + ym)) _
    refine Pa.vret (by rfl) ?_
    exact l1 h1 h3 h4 h5 h6 h7 h8
  · have h2 : yr.toInt < 3 := h2
    refine Pa.mp 5 (pc' := 17) (l' := [(0, .ref 69), (1, .int yc), (2, .int yt), (3, .int ym), (4, .int yr)]) (st' := [.int ym, .int yr, .int yc, .ref 69, .int ym]) (by rfl) ?_
    refine Pa.inv (by rfl) (by rfl) (.inl rfl) (by rfl) ?_
    exact l2 h2

theorem bm_pay2 {N : Nat} {yA : AW} {yQ : Option Value → AW → Prop} (yc yt ym yr yv : Int32)
    (l1 : Pa N 230 5 [(0, .ref 69), (1, .int yc), (2, .int yt), (3, .int (ym - yv)), (4, .int (yr + 1))] [] yA yQ) :
    Pa N 230 20 [(0, .ref 69), (1, .int yc), (2, .int yt), (3, .int ym), (4, .int yr)] [.int yv, .int ym] yA yQ := by
  refine Pa.mp 2 (pc' := 22) (l' := [(3, .int (ym - yv)), (0, .ref 69), (1, .int yc), (2, .int yt), (4, .int yr)]) (st' := []) (by rfl) ?_
  refine Pa.iinc (x := yr) (c := 1) (v := (yr + 1)) (l' := [(4, .int (yr + 1)), (3, .int (ym - yv)), (0, .ref 69), (1, .int yc), (2, .int yt)]) (by rfl) (by rfl) (by decide) (by rfl) (by rfl) ?_
  refine Pa.mp 1 (pc' := 5) (l' := [(4, .int (yr + 1)), (3, .int (ym - yv)), (0, .ref 69), (1, .int yc), (2, .int yt)]) (st' := []) (by rfl) ?_
  refine Pa.lv (l' := [(0, .ref 69), (1, .int yc), (2, .int yt), (3, .int (ym - yv)), (4, .int (yr + 1))]) (lvS_c rfl (lvS_c rfl (lvS_c rfl (lvS_c rfl (lvS_c rfl (lvS_nil)))))) rfl ?_
  exact l1

theorem c_poM {yA yW : AW} {yc : Nat} (yt : Int32) (yG : Nat → Int32) (yg : gdG yA yG) (h60 : lnT yA ≤ 60) (yhc : yc < 60) (ht : 0 ≤ yt.toInt) (yhT : 0 ≤ (yA.1 69 57).toInt) (e57 : yW.1 69 57 = yA.1 69 57) (er : ∀ yd yj, yd = 111 ∨ yd = 112 ∨ yd = 113 ∨ yd = 106 ∨ yd = 76 → yW.1 yd yj = yA.1 yd yj) (eG : ∀ yj, yj < 60 → yW.1 114 yj = yG yj) (N : Nat) : Pa N 230 0 [(0, .ref 69), (1, .int (Int32.ofNat yc)), (2, .int yt)] [] yW (fun yv A1 => yv = none ∧ pyX 114 74 yA yc yt yG yW A1) := by
  have ec : (Int32.ofNat yc).toInt = (yc : Int) := i32_nat (by omega)
  have ykey : ∀ (N yk : Nat) (yU : AW), yk ≤ 3 → exI 114 yW yU → (∀ yj, yj < 60 → yU.1 114 yj = (pyV yA (Int32.ofNat yc) yt yG yk).2 yj) → Pa N 230 5 [(0, .ref 69), (1, .int (Int32.ofNat yc)), (2, .int yt), (3, .int (pyV yA (Int32.ofNat yc) yt yG yk).1), (4, .int (Int32.ofNat yk))] [] yU (fun yv A1 => yv = none ∧ pyX 114 74 yA yc yt yG yW A1) := by
    intro N
    induction N with
    | zero => intros; exact Pa.zero
    | succ N yih =>
      intro yk yU hk hx h1
      have ek : (Int32.ofNat yk).toInt = (yk : Int) := i32_nat (by omega)
      have u6 : yU.1 106 yc = yA.1 106 yc := (hx.1 106 yc (by decide)).trans (er 106 yc (by omega))
      have u76 : yU.1 76 ((yA.1 106 yc).toInt.toNat) = yA.1 76 ((yA.1 106 yc).toInt.toNat) := (hx.1 76 _ (by decide)).trans (er 76 _ (by omega))
      refine bm_pay1 (Int32.ofNat yc) yt _ (Int32.ofNat yk) ?_ ?_ <;> rw [ek] <;> (try rw [ec]) <;> (try rw [Int.toNat_natCast])
      · intro yq _ _ _ _ _ _
        have ye : yk = 3 := by omega
        subst ye
        rw [u6, u76]
        refine ⟨rfl, fun yd yj yq1 yq2 => ?_, hx.2, fun yj hj => ?_, fun yj => ?_⟩
        · rw [uI_c yq2]
          exact hx.1 yd yj yq1
        · rw [uI_c (by decide)]
          exact h1 yj hj
        · rw [uI_row, hx.1 74 yj (by decide), hx.1 74 _ (by decide)]
          show _ = if yj = (yA.1 76 ((yA.1 106 yc).toInt.toNat)).toInt.toNat then _ else _
          by_cases ye : yj = (yA.1 76 ((yA.1 106 yc).toInt.toNat)).toInt.toNat
          · rw [if_pos ye, if_pos ye, ← ye]
          · rw [if_neg ye, if_neg ye]
      · intro yq
        have gp := py_good yg h60 ht (yc := Int32.ofNat yc) (yk := yk)
        refine Pa.mono (c_rpM (yA := yA) (yW := yU) (Int32.ofNat yc) (Int32.ofNat yk) _ _ gp.1 h60 yhT gp.2 ((hx.1 69 57 (by decide)).trans e57) (fun yd yj yhd => (hx.1 yd yj (by omega)).trans (er yd yj (by omega))) h1 N) (fun yv A1 hv => ?_)
        obtain ⟨yx, rfl, yex, hx1, h2⟩ := hv
        refine bm_pay2 (Int32.ofNat yc) yt _ (Int32.ofNat yk) yx ?_
        rw [yex]
        have yh := yih (yk + 1) A1 (by omega) (exI_tr hx hx1) h2
        rw [on_succ yk] at yh
        exact yh
  exact bm_pay0 (Int32.ofNat yc) yt (ykey N 0 yW (Nat.zero_le _) (exI_refl 114 yW) eG)
/-! ADVANCE, SETTLE -/
/-- what yboth sides hold alike, yfor what is ypaid -/
def Rpx (yA : AW) : Prop := Rqx yA ∧ Rpr yA ∧ Rlt yA ∧ Rpy yA ∧ Rfh yA ∧ (yA.1 47 17 = yA.1 69 57) ∧ (∀ yj, yj < 60 → yA.1 56 yj = yA.1 111 yj) ∧ (∀ yj, yj < 60 → yA.1 57 yj = yA.1 112 yj) ∧ (∀ yj, yj < 60 → yA.1 58 yj = yA.1 113 yj)
theorem Rpx.q {yA : AW} (yh : Rpx yA) : Rqx yA := yh.1
theorem Rpx.pr {yA : AW} (yh : Rpx yA) : Rpr yA := yh.2.1
theorem Rpx.ylt {yA : AW} (yh : Rpx yA) : Rlt yA := yh.2.2.1
theorem Rpx.py {yA : AW} (yh : Rpx yA) : Rpy yA := yh.2.2.2.1
theorem Rpx.fh {yA : AW} (yh : Rpx yA) : Rfh yA := yh.2.2.2.2.1
theorem Rpx.fn {yA : AW} (yh : Rpx yA) : yA.1 47 17 = yA.1 69 57 := yh.2.2.2.2.2.1
theorem Rpx.r56 {yA : AW} (yh : Rpx yA) : ∀ yj, yj < 60 → yA.1 56 yj = yA.1 111 yj := yh.2.2.2.2.2.2.1
theorem Rpx.r57 {yA : AW} (yh : Rpx yA) : ∀ yj, yj < 60 → yA.1 57 yj = yA.1 112 yj := yh.2.2.2.2.2.2.2.1
theorem Rpx.r58 {yA : AW} (yh : Rpx yA) : ∀ yj, yj < 60 → yA.1 58 yj = yA.1 113 yj := yh.2.2.2.2.2.2.2.2
theorem Rpx.tN {yA : AW} (yg : Rpx yA) : 0 ≤ (yA.1 69 57).toInt ∧ (yA.1 69 57).toInt ≤ 60 := yg.q.gx.gl.ok.fld (i := 69) (k := 57) (lo := 0) (hi := 60) (by decide +kernel)
theorem Rpx.n60 {yA : AW} (yg : Rpx yA) : lnT yA ≤ 60 := by
  have := yg.tN
  unfold lnT
  omega
theorem Rpx.gd {yA : AW} (yg : Rpx yA) : gdG yA (yA.1 114) := yg.py.2.2.2.2.1
theorem Rpx.tH {yA : AW} (yg : Rpx yA) : 0 ≤ (yA.1 69 7).toInt ∧ (yA.1 69 7).toInt ≤ 20 := yg.q.gx.gl.ok.fld (i := 69) (k := 7) (lo := 0) (hi := 20) (by decide +kernel)
theorem Rpx.pc {yA : AW} (yg : Rpx yA) {yc : Nat} (yhc : yc < qT yA) : pcOk yA yc := by
  have yhT := yg.q.tQ
  have hF := yg.q.gx.tF
  have hH := yg.tH
  have yf0 := Rqx.f0 (yj := yc) yg.q (by unfold qT at yhc; omega)
  have yf1 := yg.q.rq.1 yc yhc
  have fh := yg.fh ((yA.1 106 yc).toInt.toNat) (by omega)
  exact ⟨⟨yf0.1, yf1, hF.2⟩, fh.1, fh.2, hH.2⟩
theorem Rpx.lnX {yA yW : AW} (yg : Rpx yA) (h1 : yW.1 47 17 = yA.1 47 17) (h2 : ∀ yd yj, yd = 56 ∨ yd = 57 ∨ yd = 58 ∨ yd = 59 → yW.1 yd yj = yA.1 yd yj) : lnW yA yW (yA.1 114) := by
  have yhN := yg.tN
  refine ⟨?_, fun yj hj => (h2 56 yj (by omega)).trans (yg.r56 yj hj), fun yj hj => (h2 57 yj (by omega)).trans (yg.r57 yj hj), fun yj hj => (h2 58 yj (by omega)).trans (yg.r58 yj hj), fun yj hj => (h2 59 yj (by omega)).trans (yg.py.2.2.1 yj hj)⟩
  rw [h1, yg.fn]
  unfold lnT
  omega
theorem Rpx.pcX {yA yW : AW} (yg : Rpx yA) {yc : Nat} (yhc : yc < qT yA) (yh : ∀ yd yj, yd = 49 ∨ yd = 6 ∨ yd = 5 ∨ yd = 1 → yW.1 yd yj = yA.1 yd yj) : pcW yA yW yc := by
  have yhT := yg.q.tQ
  exact ⟨(yh 49 yc (by omega)).trans (yg.q.r49 yc (by unfold qT at yhc; omega)), fun yj hj => (yh 6 yj (by omega)).trans (yg.q.gx.gl.r6 yj hj), (yh 5 6 (by omega)).trans yg.q.gx.gl.f5, (yh 1 3 (by omega)).trans yg.q.gx.gl.f1⟩
noncomputable def hfV (yA : AW) (yc : Nat) : Int32 := duV yA (yA.1 106 yc) (yA.1 107 yc) (yA.1 69 0) / 2
theorem hf_0 {yA : AW} (yg : Rpx yA) (yc : Nat) : 0 ≤ (hfV yA yc).toInt := by
  have yh := duV_rg yg.q.gx yg.pr yg.ylt (yA.1 106 yc) (yA.1 107 yc) (yA.1 69 0)
  unfold hfV
  rw [Int32.toInt_div_of_ne_right _ 2 (by decide), show (2 : Int32).toInt = 2 from by decide, Int.tdiv_eq_ediv_of_nonneg yh.1]
  omega
noncomputable def stV (yA : AW) (yc : Nat) : Int32 := hsV yA (yA.1 107 yc) (yA.1 69 0) (yrV yA + 1) yc - (if 0 ≤ (yA.1 109 yc).toInt then yA.1 109 yc else 0)
/-- yrows after paying: of advances, of settling, of loans, of houses -/
noncomputable def avR (yA : AW) (yc : Nat) (yR : Nat → Int32) (yj : Nat) : Int32 := if yj = yc then hfV yA yc else yR yj
def seR (yc : Nat) (yR : Nat → Int32) (yj : Nat) : Int32 := if yj = yc then vp_nar .boolean 1 else yR yj
def lpR (yA : AW) (yc : Nat) (yt : Int32) : Nat → Int32 := (pyV yA (Int32.ofNat yc) yt (yA.1 114) 3).2
def hpR (yA : AW) (yc : Nat) (yt : Int32) (yR : Nat → Int32) (yj : Nat) : Int32 := if yj = hsN yA yc then yR yj + (pyV yA (Int32.ofNat yc) yt (yA.1 114) 3).1 else yR yj
/-- the class's world after -/
def afX (yA : AW) (r52 r53 r59 r3 : Nat → Int32) (yB : AW) : Prop := (∀ yd yj, 69 ≤ yd → yB.1 yd yj = yA.1 yd yj) ∧ (∀ yj, yB.1 21 yj = yA.1 21 yj ∧ yB.1 23 yj = yA.1 23 yj) ∧ (∀ yj, yB.1 52 yj = r52 yj) ∧ (∀ yj, yB.1 53 yj = r53 yj) ∧ (∀ yj, yj < 60 → yB.1 59 yj = r59 yj) ∧ ∀ yj, yB.1 3 yj = r3 yj
/-- the reference's world after -/
def afM (yW : AW) (yA : AW) (r109 r110 r114 r74 : Nat → Int32) (yB : AW) : Prop := (∀ yd yj, yd = 52 ∨ yd = 53 ∨ yd = 59 ∨ yd = 3 → yB.1 yd yj = yW.1 yd yj) ∧ (∀ yj, yB.1 112 yj = yA.1 112 yj) ∧ yB.1 69 57 = yA.1 69 57 ∧ (∀ yj, yB.1 109 yj = r109 yj) ∧ (∀ yj, yB.1 110 yj = r110 yj) ∧ (∀ yj, yj < 60 → yB.1 114 yj = r114 yj) ∧ ∀ yj, yB.1 74 yj = r74 yj
theorem afX_sm {yA yB : AW} {r52 r53 r59 r3 : Nat → Int32} (yh : afX yA r52 r53 r59 r3 yB) : smM yB yA yB := ⟨fun yc yj yp => yh.1 yc yj (by have := yp.1; omega), fun yj _ _ _ _ _ _ _ _ => yh.1 69 yj (by decide), yh.2.1, fun _ _ _ => rfl⟩
theorem bx_ph0 {N : Nat} {yA : AW} {yQ : Option Value → AW → Prop} (yc yk : Int32)
    (l1 : 0 ≤ yc.toInt → yc.toInt < 60 → Pa N 17 0 [(0, .ref 46), (1, .int (yA.1 49 yc.toInt.toNat)), (2, .int (yA.1 50 yc.toInt.toNat)), (3, .int yk)] [] yA (fun yu A1 => Pa N 73 20 [(0, .ref 47), (1, .int yc), (2, .int yk)] (yu.toList ++ []) A1 yQ)) :
    Pa N 73 0 [(0, .ref 47), (1, .int yc), (2, .int yk)] [] yA yQ := by
  refine Pa.mp 1 (pc' := 1) (l' := [(0, .ref 47), (1, .int yc), (2, .int yk)]) (st' := [.ref 47]) (by rfl) ?_
  refine Pa.gfR (by rfl) (by rfl) (.inl rfl) (by rfl) ?_
  show Pa N 73 4 [(0, .ref 47), (1, .int yc), (2, .int yk)] [.ref 46] yA _
  refine Pa.mp 1 (pc' := 5) (l' := [(0, .ref 47), (1, .int yc), (2, .int yk)]) (st' := [.ref 47, .ref 46]) (by rfl) ?_
  refine Pa.gfR (by rfl) (by rfl) (.inl rfl) (by rfl) ?_
  show Pa N 73 8 [(0, .ref 47), (1, .int yc), (2, .int yk)] [.ref 49, .ref 46] yA _
  refine Pa.mp 1 (pc' := 9) (l' := [(0, .ref 47), (1, .int yc), (2, .int yk)]) (st' := [.int yc, .ref 49, .ref 46]) (by rfl) ?_
  refine Pa.alds (v := yA.1 49 yc.toInt.toNat) (by rfl) (by rfl) (by rfl) (fun h1 h2 => ?_)
  have h1 : 0 ≤ yc.toInt := h1
  have h2 : yc.toInt < 60 := h2
  refine Pa.mp 1 (pc' := 11) (l' := [(0, .ref 47), (1, .int yc), (2, .int yk)]) (st' := [.ref 47, .int (yA.1 49 yc.toInt.toNat), .ref 46]) (by rfl) ?_
  refine Pa.gfR (by rfl) (by rfl) (.inl rfl) (by rfl) ?_
  show Pa N 73 14 [(0, .ref 47), (1, .int yc), (2, .int yk)] [.ref 50, .int (yA.1 49 yc.toInt.toNat), .ref 46] yA _
  refine Pa.mp 1 (pc' := 15) (l' := [(0, .ref 47), (1, .int yc), (2, .int yk)]) (st' := [.int yc, .ref 50, .int (yA.1 49 yc.toInt.toNat), .ref 46]) (by rfl) ?_
  refine Pa.alds (v := yA.1 50 yc.toInt.toNat) (by rfl) (by rfl) (by rfl) (fun h3 h4 => ?_)
  have h3 : 0 ≤ yc.toInt := h3
  have h4 : yc.toInt < 60 := h4
  refine Pa.mp 1 (pc' := 17) (l' := [(0, .ref 47), (1, .int yc), (2, .int yk)]) (st' := [.int yk, .int (yA.1 50 yc.toInt.toNat), .int (yA.1 49 yc.toInt.toNat), .ref 46]) (by rfl) ?_
  refine Pa.inv (by rfl) (by rfl) (.inr rfl) (by rfl) ?_
  exact l1 h1 h2

theorem bx_ph1 {N : Nat} {yA : AW} {yQ : Option Value → AW → Prop} (yc yk yv : Int32)
    (l1 : 0 ≤ yc.toInt → yc.toInt < 60 → Pa N 75 0 [(0, .ref 47), (1, .int yc), (2, .int (yv / 2))] [] (uI yA 52 yc.toInt.toNat (yv / 2)) (fun yu A1 => Pa N 73 36 [(0, .ref 47), (1, .int yc), (2, .int yk), (3, .int (yv / 2))] (yu.toList ++ []) A1 yQ)) :
    Pa N 73 20 [(0, .ref 47), (1, .int yc), (2, .int yk)] [.int yv] yA yQ := by
  refine Pa.ic (x := 2) (pc' := 21) (by rfl) (by rfl) (by decide) ?_
  refine Pa.idiv (by rfl) ?_
  refine Pa.mp 2 (pc' := 24) (l' := [(3, .int (yv / 2)), (0, .ref 47), (1, .int yc), (2, .int yk)]) (st' := [.ref 47]) (by rfl) ?_
  refine Pa.gfR (by rfl) (by rfl) (.inl rfl) (by rfl) ?_
  show Pa N 73 27 [(3, .int (yv / 2)), (0, .ref 47), (1, .int yc), (2, .int yk)] [.ref 52] yA _
  refine Pa.mp 2 (pc' := 29) (l' := [(3, .int (yv / 2)), (0, .ref 47), (1, .int yc), (2, .int yk)]) (st' := [.int (yv / 2), .int yc, .ref 52]) (by rfl) ?_
  refine Pa.asts (j' := yc.toInt.toNat) (by rfl) (by rfl) (by rfl) (fun h1 h2 => ?_)
  have h1 : 0 ≤ yc.toInt := h1
  have h2 : yc.toInt < 60 := h2
  show Pa N 73 30 [(3, .int (yv / 2)), (0, .ref 47), (1, .int yc), (2, .int yk)] [] (uI yA 52 yc.toInt.toNat (yv / 2)) _
  refine Pa.mp 3 (pc' := 33) (l' := [(3, .int (yv / 2)), (0, .ref 47), (1, .int yc), (2, .int yk)]) (st' := [.int (yv / 2), .int yc, .ref 47]) (by rfl) ?_
  refine Pa.lv (l' := [(0, .ref 47), (1, .int yc), (2, .int yk), (3, .int (yv / 2))]) (lvS_c rfl (lvS_c rfl (lvS_c rfl (lvS_c rfl (lvS_nil))))) rfl ?_
  refine Pa.inv (by rfl) (by rfl) (.inl rfl) (by rfl) ?_
  exact l1 h1 h2

theorem bx_ph2 {N : Nat} {yA : AW} {yQ : Option Value → AW → Prop} (yc yk yv : Int32)
    (l1 : yQ (some (.int yv)) yA) :
    Pa N 73 36 [(0, .ref 47), (1, .int yc), (2, .int yk), (3, .int yv)] [] yA yQ := by
  refine Pa.mp 1 (pc' := 37) (l' := [(0, .ref 47), (1, .int yc), (2, .int yk), (3, .int yv)]) (st' := [.int yv]) (by rfl) ?_
  refine Pa.iret (by rfl) ?_
  exact l1

theorem c_phX {yA : AW} (yg : Rpx yA) {yc : Nat} (yhc : yc < qT yA) (N : Nat) : Pa N 73 0 [(0, .ref 47), (1, .int (Int32.ofNat yc)), (2, .int (yA.1 69 0))] [] yA (fun yv yB => yv = some (.int (hfV yA yc)) ∧ afX yA (avR yA yc (yA.1 52)) (yA.1 53) (lpR yA yc (hfV yA yc)) (hpR yA yc (hfV yA yc) (yA.1 3)) yB) := by
  have yhT := yg.q.tQ
  have h60 : yc < 60 := by unfold qT at yhc; omega
  have ec : (Int32.ofNat yc).toInt = (yc : Int) := i32_nat (by omega)
  have yf0 := Rqx.f0 (yj := yc) yg.q h60
  refine bx_ph0 (Int32.ofNat yc) (yA.1 69 0) ?_
  rw [ec, Int.toNat_natCast]
  intro _ _
  rw [yg.q.r49 yc h60, yg.q.r50 yc h60]
  refine Pa.mono (c_duX yg.q.gx (scX_refl yA) (yA.1 106 yc) (yA.1 107 yc) (yA.1 69 0) yf0.1 (yg.q.rq.1 yc yhc) yg.q.d9.2 N) (fun yv A1 hv => ?_)
  obtain ⟨rfl, ys1⟩ := hv
  refine bx_ph1 (Int32.ofNat yc) (yA.1 69 0) _ ?_
  rw [ec, Int.toNat_natCast]
  intro _ _
  have ye : ∀ yd yj, scC yd → A1.1 yd yj = yA.1 yd yj := ys1.1
  have e47 : ∀ yj, A1.1 47 yj = yA.1 47 yj := fun yj => ys1.2.2.2.2 47 yj (by decide)
  have eh : duV yA (yA.1 106 yc) (yA.1 107 yc) (yA.1 69 0) / 2 = hfV yA yc := rfl
  rw [eh]
  refine Pa.mono (c_poX (yA := yA) (yW := uI A1 52 yc (hfV yA yc)) (hfV yA yc) (yA.1 114) yg.gd yg.n60 h60 (hf_0 yg yc) (yg.lnX (by rw [uI_c (by decide)]; exact e47 17) (fun yd yj yhd => by
    rw [uI_c (by omega)]
    exact ye yd yj (by rcases yhd with yz | yz | yz | yz <;> rw [yz] <;> decide))) (yg.pcX yhc (fun yd yj yhd => by
    rw [uI_c (by omega)]
    exact ye yd yj (by rcases yhd with yz | yz | yz | yz <;> rw [yz] <;> decide))) (yg.pc yhc) N) (fun yv yB hv => ?_)
  obtain ⟨rfl, b1, b2, b3, b4⟩ := hv
  refine bx_ph2 (Int32.ofNat yc) (yA.1 69 0) (hfV yA yc) ⟨rfl, fun yd yj yhd => ?_, fun yj => ⟨?_, ?_⟩, fun yj => ?_, fun yj => ?_, b3, fun yj => ?_⟩
  · rw [b1 yd yj (by omega) (by omega), uI_c (by omega)]
    exact ye yd yj (scC_hi yhd)
  · rw [b1 21 yj (by decide) (by decide), uI_c (by decide)]
    exact ye 21 yj (by decide)
  · rw [b1 23 yj (by decide) (by decide), uI_c (by decide)]
    exact ye 23 yj (by decide)
  · rw [b1 52 yj (by decide) (by decide), uI_row]
    show _ = if yj = yc then _ else _
    by_cases yz : yj = yc
    · rw [if_pos yz, if_pos yz]
    · rw [if_neg yz, if_neg yz]
      exact ye 52 yj (by decide)
  · rw [b1 53 yj (by decide) (by decide), uI_c (by decide)]
    exact ye 53 yj (by decide)
  · rw [b4 yj, uI_c (by decide), ye 3 yj (by decide)]
    rfl
def okAv (yA : AW) (yc : Int32) : Prop := 0 ≤ yc.toInt ∧ yc.toInt < (yA.1 69 52).toInt
def avS (yA : AW) (yc : Nat) : Prop := 0 ≤ (yA.1 109 yc).toInt ∨ (yA.1 110 yc).toInt ≠ 0
def dAv (yc : Int32) (yA : AW) (yu : Option Value) (yB : AW) : Prop := (¬ okAv yA yc ∧ yu = some (.int (-1)) ∧ yB = yA) ∨ (okAv yA yc ∧ avS yA yc.toInt.toNat ∧ yu = some (.int (-3)) ∧ yB = yA) ∨ (okAv yA yc ∧ ¬ avS yA yc.toInt.toNat ∧ yu = some (.int (hfV yA yc.toInt.toNat)) ∧ afX yA (avR yA yc.toInt.toNat (yA.1 52)) (yA.1 53) (lpR yA yc.toInt.toNat (hfV yA yc.toInt.toNat)) (hpR yA yc.toInt.toNat (hfV yA yc.toInt.toNat) (yA.1 3)) yB)
theorem bx_av {N : Nat} {yA : AW} {yQ : Option Value → AW → Prop} (yc : Int32)
    (l1 : yc.toInt < 0 → yQ (some (.int (-1))) yA)
    (l2 : 0 ≤ yc.toInt → (yA.1 47 16).toInt ≤ yc.toInt → yQ (some (.int (-1))) yA)
    (l3 : 0 ≤ yc.toInt → yc.toInt < (yA.1 47 16).toInt → yc.toInt < 60 → 0 ≤ (yA.1 52 yc.toInt.toNat).toInt → yQ (some (.int (-3))) yA)
    (l4 : 0 ≤ yc.toInt → yc.toInt < (yA.1 47 16).toInt → yc.toInt < 60 → (yA.1 52 yc.toInt.toNat).toInt < 0 → (yA.1 53 yc.toInt.toNat).toInt = 0 → Pa N 73 0 [(0, .ref 47), (1, .int yc), (2, .int (yA.1 0 10))] [] yA (fun yu A1 => Pa N 127 52 [(0, .ref 0), (1, .int yc)] (yu.toList ++ []) A1 yQ))
    (l5 : 0 ≤ yc.toInt → yc.toInt < (yA.1 47 16).toInt → yc.toInt < 60 → (yA.1 52 yc.toInt.toNat).toInt < 0 → (yA.1 53 yc.toInt.toNat).toInt ≠ 0 → yQ (some (.int (-3))) yA) :
    Pa N 127 0 [(0, .ref 0), (1, .int yc)] [] yA yQ := by
  refine Pa.mp 1 (pc' := 1) (l' := [(0, .ref 0), (1, .int yc)]) (st' := [.ref 0]) (by rfl) ?_
  refine Pa.gfR (by rfl) (by rfl) (.inl rfl) (by rfl) ?_
  show Pa N 127 4 [(0, .ref 0), (1, .int yc)] [.ref 47] yA _
  refine Pa.mp 1 (pc' := 5) (l' := [(0, .ref 0), (1, .int yc)]) (st' := [.int yc, .ref 47]) (by rfl) ?_
  refine Pa.inv (by rfl) (by rfl) (.inr rfl) (by rfl) ?_
  show Pa N 68 0 [(0, .ref 47), (1, .int yc)] [] yA _
  refine Pa.mp 1 (pc' := 1) (l' := [(0, .ref 47), (1, .int yc)]) (st' := [.int yc]) (by rfl) ?_
  refine Pa.if1 (a := yc.toInt) (t := 16) (by rfl) (by rfl) (rfl) (fun h1 => ?_) (fun h2 => ?_)
  · have h1 : yc.toInt < 0 := h1
    refine Pa.ic (x := 0) (pc' := 17) (by rfl) (by rfl) (by decide) ?_
    refine Pa.iret (by rfl) ?_
    show Pa N 127 8 [(0, .ref 0), (1, .int yc)] [.int 0] yA _
    refine Pa.if1k false (by rfl) (by rfl) (by decide) ?_
    show Pa N 127 11 [(0, .ref 0), (1, .int yc)] [] yA _
    refine Pa.ic (x := (-1)) (pc' := 12) (by rfl) (by rfl) (by decide) ?_
    refine Pa.iret (by rfl) ?_
    exact l1 h1
  · have h2 : 0 ≤ yc.toInt := h2
    refine Pa.mp 2 (pc' := 6) (l' := [(0, .ref 47), (1, .int yc)]) (st' := [.ref 47, .int yc]) (by rfl) ?_
    refine Pa.gfI (v := yA.1 47 16) (by rfl) (by rfl) (.inl rfl) (by rfl) (by rfl) ?_
    refine Pa.if2 (a := yc.toInt) (b := (yA.1 47 16).toInt) (t := 16) (by rfl) (by rfl) (rfl) (rfl) (fun h3 => ?_) (fun h4 => ?_)
    · have h3 : (yA.1 47 16).toInt ≤ yc.toInt := h3
      refine Pa.ic (x := 0) (pc' := 17) (by rfl) (by rfl) (by decide) ?_
      refine Pa.iret (by rfl) ?_
      show Pa N 127 8 [(0, .ref 0), (1, .int yc)] [.int 0] yA _
      refine Pa.if1k false (by rfl) (by rfl) (by decide) ?_
      show Pa N 127 11 [(0, .ref 0), (1, .int yc)] [] yA _
      refine Pa.ic (x := (-1)) (pc' := 12) (by rfl) (by rfl) (by decide) ?_
      refine Pa.iret (by rfl) ?_
      exact l2 h2 h3
    · have h4 : yc.toInt < (yA.1 47 16).toInt := h4
      refine Pa.ic (x := 1) (pc' := 13) (by rfl) (by rfl) (by decide) ?_
      refine Pa.mp 1 (pc' := 17) (l' := [(0, .ref 47), (1, .int yc)]) (st' := [.int 1]) (by rfl) ?_
      refine Pa.iret (by rfl) ?_
      show Pa N 127 8 [(0, .ref 0), (1, .int yc)] [.int 1] yA _
      refine Pa.if1k true (by rfl) (by rfl) (by decide) ?_
      show Pa N 127 13 [(0, .ref 0), (1, .int yc)] [] yA _
      refine Pa.mp 1 (pc' := 14) (l' := [(0, .ref 0), (1, .int yc)]) (st' := [.ref 0]) (by rfl) ?_
      refine Pa.gfR (by rfl) (by rfl) (.inl rfl) (by rfl) ?_
      show Pa N 127 17 [(0, .ref 0), (1, .int yc)] [.ref 47] yA _
      refine Pa.gfR (by rfl) (by rfl) (.inr rfl) (by rfl) ?_
      show Pa N 127 20 [(0, .ref 0), (1, .int yc)] [.ref 52] yA _
      refine Pa.mp 1 (pc' := 21) (l' := [(0, .ref 0), (1, .int yc)]) (st' := [.int yc, .ref 52]) (by rfl) ?_
      refine Pa.alds (v := yA.1 52 yc.toInt.toNat) (by rfl) (by rfl) (by rfl) (fun h5 h6 => ?_)
      have h5 : 0 ≤ yc.toInt := h5
      have h6 : yc.toInt < 60 := h6
      refine Pa.if1 (a := (yA.1 52 yc.toInt.toNat).toInt) (t := 37) (by rfl) (by rfl) (rfl) (fun h7 => ?_) (fun h8 => ?_)
      · have h7 : 0 ≤ (yA.1 52 yc.toInt.toNat).toInt := h7
        refine Pa.ic (x := (-3)) (pc' := 39) (by rfl) (by rfl) (by decide) ?_
        refine Pa.iret (by rfl) ?_
        exact l3 h2 h4 h6 h7
      · have h8 : (yA.1 52 yc.toInt.toNat).toInt < 0 := h8
        refine Pa.mp 1 (pc' := 26) (l' := [(0, .ref 0), (1, .int yc)]) (st' := [.ref 0]) (by rfl) ?_
        refine Pa.gfR (by rfl) (by rfl) (.inl rfl) (by rfl) ?_
        show Pa N 127 29 [(0, .ref 0), (1, .int yc)] [.ref 47] yA _
        refine Pa.gfR (by rfl) (by rfl) (.inr rfl) (by rfl) ?_
        show Pa N 127 32 [(0, .ref 0), (1, .int yc)] [.ref 53] yA _
        refine Pa.mp 1 (pc' := 33) (l' := [(0, .ref 0), (1, .int yc)]) (st' := [.int yc, .ref 53]) (by rfl) ?_
        refine Pa.blds (v := yA.1 53 yc.toInt.toNat) (by rfl) (by rfl) (by rfl) (fun h9 h10 => ?_)
        have h9 : 0 ≤ yc.toInt := h9
        have h10 : yc.toInt < 60 := h10
        refine Pa.if1 (a := (yA.1 53 yc.toInt.toNat).toInt) (t := 40) (by rfl) (by rfl) (rfl) (fun h11 => ?_) (fun h12 => ?_)
        · have h11 : (yA.1 53 yc.toInt.toNat).toInt = 0 := h11
          refine Pa.mp 1 (pc' := 41) (l' := [(0, .ref 0), (1, .int yc)]) (st' := [.ref 0]) (by rfl) ?_
          refine Pa.gfR (by rfl) (by rfl) (.inl rfl) (by rfl) ?_
          show Pa N 127 44 [(0, .ref 0), (1, .int yc)] [.ref 47] yA _
          refine Pa.mp 2 (pc' := 46) (l' := [(0, .ref 0), (1, .int yc)]) (st' := [.ref 0, .int yc, .ref 47]) (by rfl) ?_
          refine Pa.gfI (v := yA.1 0 10) (by rfl) (by rfl) (.inl rfl) (by rfl) (by rfl) ?_
          refine Pa.inv (by rfl) (by rfl) (.inr rfl) (by rfl) ?_
          exact l4 h2 h4 h6 h8 h11
        · have h12 : (yA.1 53 yc.toInt.toNat).toInt ≠ 0 := h12
          refine Pa.ic (x := (-3)) (pc' := 39) (by rfl) (by rfl) (by decide) ?_
          refine Pa.iret (by rfl) ?_
          exact l5 h2 h4 h6 h8 h12

theorem d_adv {yA : AW} (yg : Rpx yA) (N : Nat) (yc : Int32) : Pa N 127 0 [(0, .ref 0), (1, .int yc)] [] yA (dAv yc yA) := by
  have e47 := yg.q.fq
  have yhT := yg.q.tQ
  obtain ⟨yn, hn⟩ : ∃ yn, yc.toInt.toNat = yn := ⟨_, rfl⟩
  have r52 : yn < 60 → yA.1 52 yn = yA.1 109 yn := yg.py.1 yn
  have r53 : yn < 60 → yA.1 53 yn = yA.1 110 yn := yg.py.2.1 yn
  refine bx_av yc ?_ ?_ ?_ ?_ ?_ <;> (try rw [hn])
  · exact fun y1 => .inl ⟨fun yz => by unfold okAv at yz; omega, rfl, rfl⟩
  · exact fun y1 y2 => .inl ⟨fun yz => by unfold okAv at yz; rw [e47] at y2; omega, rfl, rfl⟩
  · intro y1 y2 y3 y4
    rw [e47] at y2
    rw [r52 (by omega)] at y4
    exact .inr (.inl ⟨⟨y1, y2⟩, by rw [hn]; exact .inl y4, rfl, rfl⟩)
  · intro y1 y2 y3 y4 y5
    rw [e47] at y2
    rw [r52 (by omega)] at y4
    rw [r53 (by omega)] at y5
    have yhc : yn < qT yA := by unfold qT; omega
    have ecn : yc = Int32.ofNat yn := i32_ext (by rw [i32_nat (by omega)]; omega)
    rw [yg.q.dy]
    have gg := c_phX yg yhc N
    rw [← ecn] at gg
    refine Pa.mono gg (fun yv yB hv => ?_)
    obtain ⟨rfl, yh⟩ := hv
    refine Pa.iret (by rfl) (.inr (.inr ⟨⟨y1, y2⟩, ?_, ?_, ?_⟩))
    · rw [hn]
      exact fun yz => by rcases yz with yz | yz <;> omega
    · rw [hn]
    · rw [hn]
      exact yh
  · intro y1 y2 y3 y4 y5
    rw [e47] at y2
    rw [r53 (by omega)] at y5
    exact .inr (.inl ⟨⟨y1, y2⟩, by rw [hn]; exact .inr y5, rfl, rfl⟩)
theorem bm_av {N : Nat} {yA : AW} {yQ : Option Value → AW → Prop} (yc : Int32)
    (l1 : yc.toInt < 0 → yQ (some (.int (-1))) yA)
    (l2 : 0 ≤ yc.toInt → (yA.1 69 52).toInt ≤ yc.toInt → yQ (some (.int (-1))) yA)
    (l3 : 0 ≤ yc.toInt → yc.toInt < (yA.1 69 52).toInt → yc.toInt < 60 → 0 ≤ (yA.1 109 yc.toInt.toNat).toInt → yQ (some (.int (-3))) yA)
    (l4 : 0 ≤ yc.toInt → yc.toInt < (yA.1 69 52).toInt → yc.toInt < 60 → (yA.1 109 yc.toInt.toNat).toInt < 0 → (yA.1 110 yc.toInt.toNat).toInt = 0 → Pa N 218 0 [(0, .ref 69), (1, .int (yA.1 106 yc.toInt.toNat)), (2, .int (yA.1 107 yc.toInt.toNat)), (3, .int (yA.1 69 0))] [] yA (fun yu A1 => Pa N 231 56 [(0, .ref 69), (1, .int yc)] (yu.toList ++ [.int yc, .ref 109]) A1 yQ))
    (l5 : 0 ≤ yc.toInt → yc.toInt < (yA.1 69 52).toInt → yc.toInt < 60 → (yA.1 109 yc.toInt.toNat).toInt < 0 → (yA.1 110 yc.toInt.toNat).toInt ≠ 0 → yQ (some (.int (-3))) yA) :
    Pa N 231 0 [(0, .ref 69), (1, .int yc)] [] yA yQ := by
  refine Pa.mp 2 (pc' := 2) (l' := [(0, .ref 69), (1, .int yc)]) (st' := [.int yc, .ref 69]) (by rfl) ?_
  refine Pa.inv (by rfl) (by rfl) (.inl rfl) (by rfl) ?_
  show Pa N 224 0 [(0, .ref 69), (1, .int yc)] [] yA _
  refine Pa.mp 1 (pc' := 1) (l' := [(0, .ref 69), (1, .int yc)]) (st' := [.int yc]) (by rfl) ?_
  refine Pa.if1 (a := yc.toInt) (t := 16) (by rfl) (by rfl) (rfl) (fun h1 => ?_) (fun h2 => ?_)
  · have h1 : yc.toInt < 0 := h1
    refine Pa.ic (x := 0) (pc' := 17) (by rfl) (by rfl) (by decide) ?_
    refine Pa.iret (by rfl) ?_
    show Pa N 231 5 [(0, .ref 69), (1, .int yc)] [.int 0] yA _
    refine Pa.if1k false (by rfl) (by rfl) (by decide) ?_
    show Pa N 231 8 [(0, .ref 69), (1, .int yc)] [] yA _
    refine Pa.ic (x := (-1)) (pc' := 9) (by rfl) (by rfl) (by decide) ?_
    refine Pa.iret (by rfl) ?_
    exact l1 h1
  · have h2 : 0 ≤ yc.toInt := h2
    refine Pa.mp 2 (pc' := 6) (l' := [(0, .ref 69), (1, .int yc)]) (st' := [.ref 69, .int yc]) (by rfl) ?_
    refine Pa.gfI (v := yA.1 69 52) (by rfl) (by rfl) (.inl rfl) (by rfl) (by rfl) ?_
    refine Pa.if2 (a := yc.toInt) (b := (yA.1 69 52).toInt) (t := 16) (by rfl) (by rfl) (rfl) (rfl) (fun h3 => ?_) (fun h4 => ?_)
    · have h3 : (yA.1 69 52).toInt ≤ yc.toInt := h3
      refine Pa.ic (x := 0) (pc' := 17) (by rfl) (by rfl) (by decide) ?_
      refine Pa.iret (by rfl) ?_
      show Pa N 231 5 [(0, .ref 69), (1, .int yc)] [.int 0] yA _
      refine Pa.if1k false (by rfl) (by rfl) (by decide) ?_
      show Pa N 231 8 [(0, .ref 69), (1, .int yc)] [] yA _
      refine Pa.ic (x := (-1)) (pc' := 9) (by rfl) (by rfl) (by decide) ?_
      refine Pa.iret (by rfl) ?_
      exact l2 h2 h3
    · have h4 : yc.toInt < (yA.1 69 52).toInt := h4
      refine Pa.ic (x := 1) (pc' := 13) (by rfl) (by rfl) (by decide) ?_
      refine Pa.mp 1 (pc' := 17) (l' := [(0, .ref 69), (1, .int yc)]) (st' := [.int 1]) (by rfl) ?_
      refine Pa.iret (by rfl) ?_
      show Pa N 231 5 [(0, .ref 69), (1, .int yc)] [.int 1] yA _
      refine Pa.if1k true (by rfl) (by rfl) (by decide) ?_
      show Pa N 231 10 [(0, .ref 69), (1, .int yc)] [] yA _
      refine Pa.mp 1 (pc' := 11) (l' := [(0, .ref 69), (1, .int yc)]) (st' := [.ref 69]) (by rfl) ?_
      refine Pa.gfR (by rfl) (by rfl) (.inl rfl) (by rfl) ?_
      show Pa N 231 14 [(0, .ref 69), (1, .int yc)] [.ref 109] yA _
      refine Pa.mp 1 (pc' := 15) (l' := [(0, .ref 69), (1, .int yc)]) (st' := [.int yc, .ref 109]) (by rfl) ?_
      refine Pa.alds (v := yA.1 109 yc.toInt.toNat) (by rfl) (by rfl) (by rfl) (fun h5 h6 => ?_)
      have h5 : 0 ≤ yc.toInt := h5
      have h6 : yc.toInt < 60 := h6
      refine Pa.if1 (a := (yA.1 109 yc.toInt.toNat).toInt) (t := 28) (by rfl) (by rfl) (rfl) (fun h7 => ?_) (fun h8 => ?_)
      · have h7 : 0 ≤ (yA.1 109 yc.toInt.toNat).toInt := h7
        refine Pa.ic (x := (-3)) (pc' := 30) (by rfl) (by rfl) (by decide) ?_
        refine Pa.iret (by rfl) ?_
        exact l3 h2 h4 h6 h7
      · have h8 : (yA.1 109 yc.toInt.toNat).toInt < 0 := h8
        refine Pa.mp 1 (pc' := 20) (l' := [(0, .ref 69), (1, .int yc)]) (st' := [.ref 69]) (by rfl) ?_
        refine Pa.gfR (by rfl) (by rfl) (.inl rfl) (by rfl) ?_
        show Pa N 231 23 [(0, .ref 69), (1, .int yc)] [.ref 110] yA _
        refine Pa.mp 1 (pc' := 24) (l' := [(0, .ref 69), (1, .int yc)]) (st' := [.int yc, .ref 110]) (by rfl) ?_
        refine Pa.blds (v := yA.1 110 yc.toInt.toNat) (by rfl) (by rfl) (by rfl) (fun h9 h10 => ?_)
        have h9 : 0 ≤ yc.toInt := h9
        have h10 : yc.toInt < 60 := h10
        refine Pa.if1 (a := (yA.1 110 yc.toInt.toNat).toInt) (t := 31) (by rfl) (by rfl) (rfl) (fun h11 => ?_) (fun h12 => ?_)
        · have h11 : (yA.1 110 yc.toInt.toNat).toInt = 0 := h11
          refine Pa.mp 1 (pc' := 32) (l' := [(0, .ref 69), (1, .int yc)]) (st' := [.ref 69]) (by rfl) ?_
          refine Pa.gfR (by rfl) (by rfl) (.inl rfl) (by rfl) ?_
          show Pa N 231 35 [(0, .ref 69), (1, .int yc)] [.ref 109] yA _
          refine Pa.mp 3 (pc' := 38) (l' := [(0, .ref 69), (1, .int yc)]) (st' := [.ref 69, .ref 69, .int yc, .ref 109]) (by rfl) ?_
          refine Pa.gfR (by rfl) (by rfl) (.inl rfl) (by rfl) ?_
          show Pa N 231 41 [(0, .ref 69), (1, .int yc)] [.ref 106, .ref 69, .int yc, .ref 109] yA _
          refine Pa.mp 1 (pc' := 42) (l' := [(0, .ref 69), (1, .int yc)]) (st' := [.int yc, .ref 106, .ref 69, .int yc, .ref 109]) (by rfl) ?_
          refine Pa.alds (v := yA.1 106 yc.toInt.toNat) (by rfl) (by rfl) (by rfl) (fun h13 h14 => ?_)
          have h13 : 0 ≤ yc.toInt := h13
          have h14 : yc.toInt < 60 := h14
          refine Pa.mp 1 (pc' := 44) (l' := [(0, .ref 69), (1, .int yc)]) (st' := [.ref 69, .int (yA.1 106 yc.toInt.toNat), .ref 69, .int yc, .ref 109]) (by rfl) ?_
          refine Pa.gfR (by rfl) (by rfl) (.inl rfl) (by rfl) ?_
          show Pa N 231 47 [(0, .ref 69), (1, .int yc)] [.ref 107, .int (yA.1 106 yc.toInt.toNat), .ref 69, .int yc, .ref 109] yA _
          refine Pa.mp 1 (pc' := 48) (l' := [(0, .ref 69), (1, .int yc)]) (st' := [.int yc, .ref 107, .int (yA.1 106 yc.toInt.toNat), .ref 69, .int yc, .ref 109]) (by rfl) ?_
          refine Pa.alds (v := yA.1 107 yc.toInt.toNat) (by rfl) (by rfl) (by rfl) (fun h15 yh16 => ?_)
          have h15 : 0 ≤ yc.toInt := h15
          have yh16 : yc.toInt < 60 := yh16
          refine Pa.mp 1 (pc' := 50) (l' := [(0, .ref 69), (1, .int yc)]) (st' := [.ref 69, .int (yA.1 107 yc.toInt.toNat), .int (yA.1 106 yc.toInt.toNat), .ref 69, .int yc, .ref 109]) (by rfl) ?_
          refine Pa.gfI (v := yA.1 69 0) (by rfl) (by rfl) (.inl rfl) (by rfl) (by rfl) ?_
          refine Pa.inv (by rfl) (by rfl) (.inl rfl) (by rfl) ?_
          exact l4 h2 h4 h6 h8 h11
        · have h12 : (yA.1 110 yc.toInt.toNat).toInt ≠ 0 := h12
          refine Pa.ic (x := (-3)) (pc' := 30) (by rfl) (by rfl) (by decide) ?_
          refine Pa.iret (by rfl) ?_
          exact l5 h2 h4 h6 h8 h12

theorem bm_av1 {N : Nat} {yA : AW} {yQ : Option Value → AW → Prop} (yc yv : Int32)
    (l1 : 0 ≤ yc.toInt → yc.toInt < 60 → Pa N 230 0 [(0, .ref 69), (1, .int yc), (2, .int (yv / 2))] [] (uI yA 109 yc.toInt.toNat (yv / 2)) (fun yu A1 => Pa N 231 70 [(0, .ref 69), (1, .int yc)] (yu.toList ++ []) A1 yQ)) :
    Pa N 231 56 [(0, .ref 69), (1, .int yc)] [.int yv, .int yc, .ref 109] yA yQ := by
  refine Pa.ic (x := 2) (pc' := 57) (by rfl) (by rfl) (by decide) ?_
  refine Pa.idiv (by rfl) ?_
  refine Pa.asts (j' := yc.toInt.toNat) (by rfl) (by rfl) (by rfl) (fun h1 h2 => ?_)
  have h1 : 0 ≤ yc.toInt := h1
  have h2 : yc.toInt < 60 := h2
  show Pa N 231 59 [(0, .ref 69), (1, .int yc)] [] (uI yA 109 yc.toInt.toNat (yv / 2)) _
  refine Pa.mp 3 (pc' := 62) (l' := [(0, .ref 69), (1, .int yc)]) (st' := [.ref 69, .int yc, .ref 69]) (by rfl) ?_
  refine Pa.gfR (by rfl) (by rfl) (.inl rfl) (by rfl) ?_
  show Pa N 231 65 [(0, .ref 69), (1, .int yc)] [.ref 109, .int yc, .ref 69] (uI yA 109 yc.toInt.toNat (yv / 2)) _
  refine Pa.mp 1 (pc' := 66) (l' := [(0, .ref 69), (1, .int yc)]) (st' := [.int yc, .ref 109, .int yc, .ref 69]) (by rfl) ?_
  refine Pa.alds (v := yv / 2) (by rfl) (by rfl) (by show (uI yA 109 yc.toInt.toNat (yv / 2)).1 109 yc.toInt.toNat = yv / 2; rw [uI_h]) (fun h3 h4 => ?_)
  have h3 : 0 ≤ yc.toInt := h3
  have h4 : yc.toInt < 60 := h4
  refine Pa.inv (by rfl) (by rfl) (.inl rfl) (by rfl) ?_
  exact l1 h1 h2

theorem bm_av2 {N : Nat} {yA : AW} {yQ : Option Value → AW → Prop} (yc : Int32)
    (l1 : 0 ≤ yc.toInt → yc.toInt < 60 → yQ (some (.int (yA.1 109 yc.toInt.toNat))) yA) :
    Pa N 231 70 [(0, .ref 69), (1, .int yc)] [] yA yQ := by
  refine Pa.mp 1 (pc' := 71) (l' := [(0, .ref 69), (1, .int yc)]) (st' := [.ref 69]) (by rfl) ?_
  refine Pa.gfR (by rfl) (by rfl) (.inl rfl) (by rfl) ?_
  show Pa N 231 74 [(0, .ref 69), (1, .int yc)] [.ref 109] yA _
  refine Pa.mp 1 (pc' := 75) (l' := [(0, .ref 69), (1, .int yc)]) (st' := [.int yc, .ref 109]) (by rfl) ?_
  refine Pa.alds (v := yA.1 109 yc.toInt.toNat) (by rfl) (by rfl) (by rfl) (fun h1 h2 => ?_)
  have h1 : 0 ≤ yc.toInt := h1
  have h2 : yc.toInt < 60 := h2
  refine Pa.iret (by rfl) ?_
  exact l1 h1 h2

theorem e_adv0 {yA yW : AW} (yg : Rpx yA) (hs : smM yW yA yW) (N : Nat) (yc : Int32) : Pa N 231 0 [(0, .ref 69), (1, .int yc)] [] yW (fun yu yB => (¬ okAv yA yc ∧ yu = some (.int (-1)) ∧ yB = yW) ∨ (okAv yA yc ∧ avS yA yc.toInt.toNat ∧ yu = some (.int (-3)) ∧ yB = yW) ∨ (okAv yA yc ∧ ¬ avS yA yc.toInt.toNat ∧ yu = some (.int (hfV yA yc.toInt.toNat)) ∧ afM yW yA (avR yA yc.toInt.toNat (yA.1 109)) (yA.1 110) (lpR yA yc.toInt.toNat (hfV yA yc.toInt.toNat)) (hpR yA yc.toInt.toNat (hfV yA yc.toInt.toNat) (yA.1 74)) yB)) := by
  have e52 : yW.1 69 52 = yA.1 69 52 := hs.2.1 52 (by decide) (by decide) (by decide) (by decide) (by decide) (by decide) (by decide) (by decide)
  have ye0 : yW.1 69 0 = yA.1 69 0 := hs.2.1 0 (by decide) (by decide) (by decide) (by decide) (by decide) (by decide) (by decide) (by decide)
  have yhT := yg.q.tQ
  obtain ⟨yn, hn⟩ : ∃ yn, yc.toInt.toNat = yn := ⟨_, rfl⟩
  have yw : ∀ yd yj, 69 < yd → yd < 115 → yW.1 yd yj = yA.1 yd yj := fun yd yj h1 h2 => hs.lo h1 h2 yj
  rw [hn]
  refine bm_av yc ?_ ?_ ?_ ?_ ?_ <;> (try rw [hn])
  · exact fun y1 => .inl ⟨fun yz => by unfold okAv at yz; omega, rfl, rfl⟩
  · exact fun y1 y2 => .inl ⟨fun yz => by unfold okAv at yz; rw [e52] at y2; omega, rfl, rfl⟩
  · intro y1 y2 y3 y4
    rw [e52] at y2
    rw [yw 109 yn (by decide) (by decide)] at y4
    exact .inr (.inl ⟨⟨y1, y2⟩, .inl y4, rfl, rfl⟩)
  · intro y1 y2 y3 y4 y5
    rw [e52] at y2
    rw [yw 109 yn (by decide) (by decide)] at y4
    rw [yw 110 yn (by decide) (by decide)] at y5
    have yhc : yn < qT yA := by unfold qT; omega
    have ecn : yc = Int32.ofNat yn := i32_ext (by rw [i32_nat (by omega)]; omega)
    rw [yw 106 yn (by decide) (by decide), yw 107 yn (by decide) (by decide), ye0]
    refine Pa.mono (c_duM yg.q.gx hs (yA.1 106 yn) (yA.1 107 yn) (yA.1 69 0) yg.q.d9.1 yg.q.d9.2 N) (fun yv A1 hv => ?_)
    obtain ⟨rfl, ys1⟩ := hv
    refine bm_av1 yc _ ?_
    rw [hn]
    intro _ _
    have eh : duV yA (yA.1 106 yn) (yA.1 107 yn) (yA.1 69 0) / 2 = hfV yA yn := rfl
    rw [eh]
    have yw1 : ∀ yd yj, 69 < yd → yd < 115 → A1.1 yd yj = yA.1 yd yj := fun yd yj h1 h2 => ys1.lo h1 h2 yj
    have lo1 : ∀ yd yj, yd < 69 → A1.1 yd yj = yW.1 yd yj := fun yd yj yh => ys1.2.2.2 yd yj (.inl yh)
    have gg := c_poM (yA := yA) (yW := uI A1 109 yn (hfV yA yn)) (yc := yn) (hfV yA yn) (yA.1 114) yg.gd yg.n60 (by omega) (hf_0 yg yn) yg.tN.1 (by rw [uI_c (by decide)]; exact ys1.2.1 57 (by decide) (by decide) (by decide) (by decide) (by decide) (by decide) (by decide) (by decide)) (fun yd yj yhd => by
      rw [uI_c (by omega)]
      exact yw1 yd yj (by omega) (by omega)) (fun yj hj => by
      rw [uI_c (by decide)]
      exact yw1 114 yj (by decide) (by decide)) N
    rw [← ecn] at gg
    refine Pa.mono gg (fun yv yB hv => ?_)
    obtain ⟨rfl, b1, b2, b3, b4⟩ := hv
    refine bm_av2 yc ?_
    rw [hn]
    intro _ _
    have b109 : ∀ yj, yB.1 109 yj = avR yA yn (yA.1 109) yj := fun yj => by
      rw [b1 109 yj (by decide) (by decide), uI_row]
      show _ = if yj = yn then _ else _
      by_cases yz : yj = yn
      · rw [if_pos yz, if_pos yz]
      · rw [if_neg yz, if_neg yz]
        exact yw1 109 yj (by decide) (by decide)
    refine .inr (.inr ⟨⟨y1, y2⟩, fun yz => by rcases yz with yz | yz <;> omega, ?_, fun yd yj yhd => ?_, fun yj => ?_, ?_, b109, fun yj => ?_, b3, fun yj => ?_⟩)
    · rw [b109 yn]
      show some (Value.int (if yn = yn then _ else _)) = _
      rw [if_pos rfl]
    · rw [b1 yd yj (by omega) (by omega), uI_c (by omega)]
      exact lo1 yd yj (by omega)
    · rw [b1 112 yj (by decide) (by decide), uI_c (by decide)]
      exact yw1 112 yj (by decide) (by decide)
    · rw [b1 69 57 (by decide) (by decide), uI_c (by decide)]
      exact ys1.2.1 57 (by decide) (by decide) (by decide) (by decide) (by decide) (by decide) (by decide) (by decide)
    · rw [b1 110 yj (by decide) (by decide), uI_c (by decide)]
      exact yw1 110 yj (by decide) (by decide)
    · rw [b4 yj, uI_c (by decide), yw1 74 yj (by decide) (by decide)]
      rfl
  · intro y1 y2 y3 y4 y5
    rw [e52] at y2
    rw [yw 110 yn (by decide) (by decide)] at y5
    exact .inr (.inl ⟨⟨y1, y2⟩, .inr y5, rfl, rfl⟩)
/-! settle -/
theorem i_max0 (yx : Int32) : i_max 0 yx = if 0 ≤ yx.toInt then yx else 0 := by
  have yz : (0 : Int32).toInt = 0 := by decide
  unfold i_max
  by_cases yh : (0 : Int32) < yx
  · have h2 := Int32.lt_iff_toInt_lt.mp yh
    rw [if_pos yh, if_pos (by omega)]
  · have h2 : ¬ (0 : Int32).toInt < yx.toInt := fun yq => yh (Int32.lt_iff_toInt_lt.mpr yq)
    rw [if_neg yh]
    split
    · exact i32_ext (by omega)
    · rfl
def lqR (yA : AW) (yc : Nat) (yt : Int32) (yj : Nat) : Int32 := if yt.toInt ≤ 0 then yA.1 114 yj else lpR yA yc yt yj
def hqR (yA : AW) (yc : Nat) (yt : Int32) (yR : Nat → Int32) (yj : Nat) : Int32 := if yt.toInt ≤ 0 then yR yj else hpR yA yc yt yR yj
theorem bx_cl0 {N : Nat} {yA : AW} {yQ : Option Value → AW → Prop} (yc ya : Int32)
    (l1 : 0 ≤ yc.toInt → yc.toInt < 60 → (ya - (i_max 0 (yA.1 52 yc.toInt.toNat))).toInt ≤ 0 → yQ (some (.int (ya - (i_max 0 (yA.1 52 yc.toInt.toNat))))) (uI yA 53 yc.toInt.toNat (vp_nar .boolean 1)))
    (l2 : 0 ≤ yc.toInt → yc.toInt < 60 → 0 < (ya - (i_max 0 (yA.1 52 yc.toInt.toNat))).toInt → Pa N 75 0 [(0, .ref 47), (1, .int yc), (2, .int (ya - (i_max 0 (yA.1 52 yc.toInt.toNat))))] [] (uI yA 53 yc.toInt.toNat (vp_nar .boolean 1)) (fun yu A1 => Pa N 74 30 [(0, .ref 47), (1, .int yc), (2, .int ya), (3, .int (ya - (i_max 0 (yA.1 52 yc.toInt.toNat))))] (yu.toList ++ []) A1 yQ)) :
    Pa N 74 0 [(0, .ref 47), (1, .int yc), (2, .int ya)] [] yA yQ := by
  refine Pa.mp 1 (pc' := 1) (l' := [(0, .ref 47), (1, .int yc), (2, .int ya)]) (st' := [.int ya]) (by rfl) ?_
  refine Pa.ic (x := 0) (pc' := 2) (by rfl) (by rfl) (by decide) ?_
  refine Pa.mp 1 (pc' := 3) (l' := [(0, .ref 47), (1, .int yc), (2, .int ya)]) (st' := [.ref 47, .int 0, .int ya]) (by rfl) ?_
  refine Pa.gfR (by rfl) (by rfl) (.inl rfl) (by rfl) ?_
  show Pa N 74 6 [(0, .ref 47), (1, .int yc), (2, .int ya)] [.ref 52, .int 0, .int ya] yA _
  refine Pa.mp 1 (pc' := 7) (l' := [(0, .ref 47), (1, .int yc), (2, .int ya)]) (st' := [.int yc, .ref 52, .int 0, .int ya]) (by rfl) ?_
  refine Pa.alds (v := yA.1 52 yc.toInt.toNat) (by rfl) (by rfl) (by rfl) (fun h1 h2 => ?_)
  have h1 : 0 ≤ yc.toInt := h1
  have h2 : yc.toInt < 60 := h2
  refine Pa.mth (by rfl) (by rfl) (by rfl) mm_max ?_
  refine Pa.mp 3 (pc' := 14) (l' := [(3, .int (ya - (i_max 0 (yA.1 52 yc.toInt.toNat)))), (0, .ref 47), (1, .int yc), (2, .int ya)]) (st' := [.ref 47]) (by rfl) ?_
  refine Pa.gfR (by rfl) (by rfl) (.inl rfl) (by rfl) ?_
  show Pa N 74 17 [(3, .int (ya - (i_max 0 (yA.1 52 yc.toInt.toNat)))), (0, .ref 47), (1, .int yc), (2, .int ya)] [.ref 53] yA _
  refine Pa.mp 1 (pc' := 18) (l' := [(3, .int (ya - (i_max 0 (yA.1 52 yc.toInt.toNat)))), (0, .ref 47), (1, .int yc), (2, .int ya)]) (st' := [.int yc, .ref 53]) (by rfl) ?_
  refine Pa.ic (x := 1) (pc' := 19) (by rfl) (by rfl) (by decide) ?_
  refine Pa.bsts (j' := yc.toInt.toNat) (by rfl) (by rfl) (by rfl) (fun h3 h4 => ?_)
  have h3 : 0 ≤ yc.toInt := h3
  have h4 : yc.toInt < 60 := h4
  show Pa N 74 20 [(3, .int (ya - (i_max 0 (yA.1 52 yc.toInt.toNat)))), (0, .ref 47), (1, .int yc), (2, .int ya)] [] (uI yA 53 yc.toInt.toNat (vp_nar .boolean 1)) _
  refine Pa.mp 1 (pc' := 21) (l' := [(3, .int (ya - (i_max 0 (yA.1 52 yc.toInt.toNat)))), (0, .ref 47), (1, .int yc), (2, .int ya)]) (st' := [.int (ya - (i_max 0 (yA.1 52 yc.toInt.toNat)))]) (by rfl) ?_
  refine Pa.if1 (a := (ya - (i_max 0 (yA.1 52 yc.toInt.toNat))).toInt) (t := 30) (by rfl) (by rfl) (rfl) (fun h5 => ?_) (fun h6 => ?_)
  · have h5 : (ya - (i_max 0 (yA.1 52 yc.toInt.toNat))).toInt ≤ 0 := h5
    refine Pa.mp 1 (pc' := 31) (l' := [(3, .int (ya - (i_max 0 (yA.1 52 yc.toInt.toNat)))), (0, .ref 47), (1, .int yc), (2, .int ya)]) (st' := [.int (ya - (i_max 0 (yA.1 52 yc.toInt.toNat)))]) (by rfl) ?_
    refine Pa.iret (by rfl) ?_
    exact l1 h1 h2 h5
  · have h6 : 0 < (ya - (i_max 0 (yA.1 52 yc.toInt.toNat))).toInt := h6
    refine Pa.mp 3 (pc' := 27) (l' := [(3, .int (ya - (i_max 0 (yA.1 52 yc.toInt.toNat)))), (0, .ref 47), (1, .int yc), (2, .int ya)]) (st' := [.int (ya - (i_max 0 (yA.1 52 yc.toInt.toNat))), .int yc, .ref 47]) (by rfl) ?_
    refine Pa.lv (l' := [(0, .ref 47), (1, .int yc), (2, .int ya), (3, .int (ya - (i_max 0 (yA.1 52 yc.toInt.toNat))))]) (lvS_c rfl (lvS_c rfl (lvS_c rfl (lvS_c rfl (lvS_nil))))) rfl ?_
    refine Pa.inv (by rfl) (by rfl) (.inl rfl) (by rfl) ?_
    exact l2 h1 h2 h6

theorem bx_cl1 {N : Nat} {yA : AW} {yQ : Option Value → AW → Prop} (yc ya yv : Int32)
    (l1 : yQ (some (.int yv)) yA) :
    Pa N 74 30 [(0, .ref 47), (1, .int yc), (2, .int ya), (3, .int yv)] [] yA yQ := by
  refine Pa.mp 1 (pc' := 31) (l' := [(0, .ref 47), (1, .int yc), (2, .int ya), (3, .int yv)]) (st' := [.int yv]) (by rfl) ?_
  refine Pa.iret (by rfl) ?_
  exact l1

theorem c_clX {yA yW : AW} (yg : Rpx yA) (hs : scX yW yA yW) {yc : Nat} (yhc : yc < qT yA) (h47 : yW.1 47 17 = yA.1 47 17) (ya : Int32) (N : Nat) : Pa N 74 0 [(0, .ref 47), (1, .int (Int32.ofNat yc)), (2, .int ya)] [] yW (fun yv yB => yv = some (.int (ya - (if 0 ≤ (yA.1 109 yc).toInt then yA.1 109 yc else 0))) ∧ afX yA (yA.1 52) (seR yc (yA.1 53)) (lqR yA yc (ya - (if 0 ≤ (yA.1 109 yc).toInt then yA.1 109 yc else 0))) (hqR yA yc (ya - (if 0 ≤ (yA.1 109 yc).toInt then yA.1 109 yc else 0)) (yA.1 3)) yB) := by
  have yhT := yg.q.tQ
  have h60 : yc < 60 := by unfold qT at yhc; omega
  have ec : (Int32.ofNat yc).toInt = (yc : Int) := i32_nat (by omega)
  have ye : ∀ yd yj, scC yd → yW.1 yd yj = yA.1 yd yj := hs.1
  have w52 : yW.1 52 yc = yA.1 109 yc := (ye 52 yc (by decide)).trans (yg.py.1 yc h60)
  obtain ⟨yt, et⟩ : ∃ yt, ya - (if 0 ≤ (yA.1 109 yc).toInt then yA.1 109 yc else 0) = yt := ⟨_, rfl⟩
  have r53 : ∀ yj, (uI yW 53 yc (vp_nar .boolean 1)).1 53 yj = seR yc (yA.1 53) yj := fun yj => by
    rw [uI_row]
    show _ = if yj = yc then _ else _
    by_cases yz : yj = yc
    · rw [if_pos yz, if_pos yz]
    · rw [if_neg yz, if_neg yz]
      exact ye 53 yj (by decide)
  refine bx_cl0 (Int32.ofNat yc) ya ?_ ?_ <;> rw [ec, Int.toNat_natCast, w52, i_max0, et]
  · intro _ _ yq
    refine ⟨rfl, fun yd yj yhd => ?_, fun yj => ⟨?_, ?_⟩, fun yj => ?_, r53, fun yj hj => ?_, fun yj => ?_⟩
    · rw [uI_c (by omega)]
      exact ye yd yj (scC_hi yhd)
    · rw [uI_c (by decide)]
      exact ye 21 yj (by decide)
    · rw [uI_c (by decide)]
      exact ye 23 yj (by decide)
    · rw [uI_c (by decide)]
      exact ye 52 yj (by decide)
    · rw [uI_c (by decide), ye 59 yj (by decide), yg.py.2.2.1 yj hj]
      exact (if_pos yq : lqR yA yc yt yj = _).symm
    · rw [uI_c (by decide), ye 3 yj (by decide)]
      exact (if_pos yq : hqR yA yc yt (yA.1 3) yj = _).symm
  · intro _ _ yq
    refine Pa.mono (c_poX (yA := yA) (yW := uI yW 53 yc (vp_nar .boolean 1)) yt (yA.1 114) yg.gd yg.n60 h60 (by omega) (yg.lnX (by rw [uI_c (by decide)]; exact h47) (fun yd yj yhd => by
      rw [uI_c (by omega)]
      exact ye yd yj (by rcases yhd with yz | yz | yz | yz <;> rw [yz] <;> decide))) (yg.pcX yhc (fun yd yj yhd => by
      rw [uI_c (by omega)]
      exact ye yd yj (by rcases yhd with yz | yz | yz | yz <;> rw [yz] <;> decide))) (yg.pc yhc) N) (fun yv yB hv => ?_)
    obtain ⟨rfl, b1, b2, b3, b4⟩ := hv
    refine bx_cl1 (Int32.ofNat yc) ya yt ⟨rfl, fun yd yj yhd => ?_, fun yj => ⟨?_, ?_⟩, fun yj => ?_, fun yj => ?_, fun yj hj => ?_, fun yj => ?_⟩
    · rw [b1 yd yj (by omega) (by omega), uI_c (by omega)]
      exact ye yd yj (scC_hi yhd)
    · rw [b1 21 yj (by decide) (by decide), uI_c (by decide)]
      exact ye 21 yj (by decide)
    · rw [b1 23 yj (by decide) (by decide), uI_c (by decide)]
      exact ye 23 yj (by decide)
    · rw [b1 52 yj (by decide) (by decide), uI_c (by decide)]
      exact ye 52 yj (by decide)
    · rw [b1 53 yj (by decide) (by decide)]
      exact r53 yj
    · exact (b3 yj hj).trans (if_neg (by omega) : lqR yA yc yt yj = _).symm
    · rw [b4 yj, uI_c (by decide), ye 3 yj (by decide)]
      exact (if_neg (by omega) : hqR yA yc yt (yA.1 3) yj = _).symm
def stS (yA : AW) (yc : Nat) : Prop := (yA.1 110 yc).toInt ≠ 0
def dSt (yc : Int32) (yA : AW) (yu : Option Value) (yB : AW) : Prop := (¬ okAv yA yc ∧ yu = some (.int (-1)) ∧ yB = yA) ∨ (okAv yA yc ∧ stS yA yc.toInt.toNat ∧ yu = some (.int (-3)) ∧ yB = yA) ∨ (okAv yA yc ∧ ¬ stS yA yc.toInt.toNat ∧ yu = some (.int (stV yA yc.toInt.toNat)) ∧ afX yA (yA.1 52) (seR yc.toInt.toNat (yA.1 53)) (lqR yA yc.toInt.toNat (stV yA yc.toInt.toNat)) (hqR yA yc.toInt.toNat (stV yA yc.toInt.toNat) (yA.1 3)) yB)
theorem bx_st {N : Nat} {yA : AW} {yQ : Option Value → AW → Prop} (yc : Int32)
    (l1 : yc.toInt < 0 → yQ (some (.int (-1))) yA)
    (l2 : 0 ≤ yc.toInt → (yA.1 47 16).toInt ≤ yc.toInt → yQ (some (.int (-1))) yA)
    (l3 : 0 ≤ yc.toInt → yc.toInt < (yA.1 47 16).toInt → yc.toInt < 60 → (yA.1 53 yc.toInt.toNat).toInt = 0 → Pa N 70 0 [(0, .ref 47), (1, .int yc), (2, .int ((yA.1 0 10) / 360)), (3, .int (yA.1 0 10))] [] yA (fun yu A1 => Pa N 128 48 [(0, .ref 0), (1, .int yc)] (yu.toList ++ []) A1 yQ))
    (l4 : 0 ≤ yc.toInt → yc.toInt < (yA.1 47 16).toInt → yc.toInt < 60 → (yA.1 53 yc.toInt.toNat).toInt ≠ 0 → yQ (some (.int (-3))) yA) :
    Pa N 128 0 [(0, .ref 0), (1, .int yc)] [] yA yQ := by
  refine Pa.mp 1 (pc' := 1) (l' := [(0, .ref 0), (1, .int yc)]) (st' := [.ref 0]) (by rfl) ?_
  refine Pa.gfR (by rfl) (by rfl) (.inl rfl) (by rfl) ?_
  show Pa N 128 4 [(0, .ref 0), (1, .int yc)] [.ref 47] yA _
  refine Pa.mp 1 (pc' := 5) (l' := [(0, .ref 0), (1, .int yc)]) (st' := [.int yc, .ref 47]) (by rfl) ?_
  refine Pa.inv (by rfl) (by rfl) (.inr rfl) (by rfl) ?_
  show Pa N 68 0 [(0, .ref 47), (1, .int yc)] [] yA _
  refine Pa.mp 1 (pc' := 1) (l' := [(0, .ref 47), (1, .int yc)]) (st' := [.int yc]) (by rfl) ?_
  refine Pa.if1 (a := yc.toInt) (t := 16) (by rfl) (by rfl) (rfl) (fun h1 => ?_) (fun h2 => ?_)
  · have h1 : yc.toInt < 0 := h1
    refine Pa.ic (x := 0) (pc' := 17) (by rfl) (by rfl) (by decide) ?_
    refine Pa.iret (by rfl) ?_
    show Pa N 128 8 [(0, .ref 0), (1, .int yc)] [.int 0] yA _
    refine Pa.if1k false (by rfl) (by rfl) (by decide) ?_
    show Pa N 128 11 [(0, .ref 0), (1, .int yc)] [] yA _
    refine Pa.ic (x := (-1)) (pc' := 12) (by rfl) (by rfl) (by decide) ?_
    refine Pa.iret (by rfl) ?_
    exact l1 h1
  · have h2 : 0 ≤ yc.toInt := h2
    refine Pa.mp 2 (pc' := 6) (l' := [(0, .ref 47), (1, .int yc)]) (st' := [.ref 47, .int yc]) (by rfl) ?_
    refine Pa.gfI (v := yA.1 47 16) (by rfl) (by rfl) (.inl rfl) (by rfl) (by rfl) ?_
    refine Pa.if2 (a := yc.toInt) (b := (yA.1 47 16).toInt) (t := 16) (by rfl) (by rfl) (rfl) (rfl) (fun h3 => ?_) (fun h4 => ?_)
    · have h3 : (yA.1 47 16).toInt ≤ yc.toInt := h3
      refine Pa.ic (x := 0) (pc' := 17) (by rfl) (by rfl) (by decide) ?_
      refine Pa.iret (by rfl) ?_
      show Pa N 128 8 [(0, .ref 0), (1, .int yc)] [.int 0] yA _
      refine Pa.if1k false (by rfl) (by rfl) (by decide) ?_
      show Pa N 128 11 [(0, .ref 0), (1, .int yc)] [] yA _
      refine Pa.ic (x := (-1)) (pc' := 12) (by rfl) (by rfl) (by decide) ?_
      refine Pa.iret (by rfl) ?_
      exact l2 h2 h3
    · have h4 : yc.toInt < (yA.1 47 16).toInt := h4
      refine Pa.ic (x := 1) (pc' := 13) (by rfl) (by rfl) (by decide) ?_
      refine Pa.mp 1 (pc' := 17) (l' := [(0, .ref 47), (1, .int yc)]) (st' := [.int 1]) (by rfl) ?_
      refine Pa.iret (by rfl) ?_
      show Pa N 128 8 [(0, .ref 0), (1, .int yc)] [.int 1] yA _
      refine Pa.if1k true (by rfl) (by rfl) (by decide) ?_
      show Pa N 128 13 [(0, .ref 0), (1, .int yc)] [] yA _
      refine Pa.mp 1 (pc' := 14) (l' := [(0, .ref 0), (1, .int yc)]) (st' := [.ref 0]) (by rfl) ?_
      refine Pa.gfR (by rfl) (by rfl) (.inl rfl) (by rfl) ?_
      show Pa N 128 17 [(0, .ref 0), (1, .int yc)] [.ref 47] yA _
      refine Pa.gfR (by rfl) (by rfl) (.inr rfl) (by rfl) ?_
      show Pa N 128 20 [(0, .ref 0), (1, .int yc)] [.ref 53] yA _
      refine Pa.mp 1 (pc' := 21) (l' := [(0, .ref 0), (1, .int yc)]) (st' := [.int yc, .ref 53]) (by rfl) ?_
      refine Pa.blds (v := yA.1 53 yc.toInt.toNat) (by rfl) (by rfl) (by rfl) (fun h5 h6 => ?_)
      have h5 : 0 ≤ yc.toInt := h5
      have h6 : yc.toInt < 60 := h6
      refine Pa.if1 (a := (yA.1 53 yc.toInt.toNat).toInt) (t := 28) (by rfl) (by rfl) (rfl) (fun h7 => ?_) (fun h8 => ?_)
      · have h7 : (yA.1 53 yc.toInt.toNat).toInt = 0 := h7
        refine Pa.mp 1 (pc' := 29) (l' := [(0, .ref 0), (1, .int yc)]) (st' := [.ref 0]) (by rfl) ?_
        refine Pa.gfR (by rfl) (by rfl) (.inl rfl) (by rfl) ?_
        show Pa N 128 32 [(0, .ref 0), (1, .int yc)] [.ref 47] yA _
        refine Pa.mp 2 (pc' := 34) (l' := [(0, .ref 0), (1, .int yc)]) (st' := [.ref 0, .int yc, .ref 47]) (by rfl) ?_
        refine Pa.gfI (v := yA.1 0 10) (by rfl) (by rfl) (.inl rfl) (by rfl) (by rfl) ?_
        refine Pa.ic (x := 360) (pc' := 40) (by rfl) (by rfl) (by decide) ?_
        refine Pa.idiv (by rfl) ?_
        refine Pa.mp 1 (pc' := 42) (l' := [(0, .ref 0), (1, .int yc)]) (st' := [.ref 0, .int ((yA.1 0 10) / 360), .int yc, .ref 47]) (by rfl) ?_
        refine Pa.gfI (v := yA.1 0 10) (by rfl) (by rfl) (.inl rfl) (by rfl) (by rfl) ?_
        refine Pa.inv (by rfl) (by rfl) (.inr rfl) (by rfl) ?_
        exact l3 h2 h4 h6 h7
      · have h8 : (yA.1 53 yc.toInt.toNat).toInt ≠ 0 := h8
        refine Pa.ic (x := (-3)) (pc' := 27) (by rfl) (by rfl) (by decide) ?_
        refine Pa.iret (by rfl) ?_
        exact l4 h2 h4 h6 h8

theorem bx_st1 {N : Nat} {yA : AW} {yQ : Option Value → AW → Prop} (yc yv : Int32)
    (l1 : Pa N 74 0 [(0, .ref 47), (1, .int yc), (2, .int yv)] [] yA (fun yu A1 => Pa N 128 58 [(0, .ref 0), (1, .int yc), (2, .int yv)] (yu.toList ++ []) A1 yQ)) :
    Pa N 128 48 [(0, .ref 0), (1, .int yc)] [.int yv] yA yQ := by
  refine Pa.mp 2 (pc' := 50) (l' := [(2, .int yv), (0, .ref 0), (1, .int yc)]) (st' := [.ref 0]) (by rfl) ?_
  refine Pa.gfR (by rfl) (by rfl) (.inl rfl) (by rfl) ?_
  show Pa N 128 53 [(2, .int yv), (0, .ref 0), (1, .int yc)] [.ref 47] yA _
  refine Pa.mp 2 (pc' := 55) (l' := [(2, .int yv), (0, .ref 0), (1, .int yc)]) (st' := [.int yv, .int yc, .ref 47]) (by rfl) ?_
  refine Pa.lv (l' := [(0, .ref 0), (1, .int yc), (2, .int yv)]) (lvS_c rfl (lvS_c rfl (lvS_c rfl (lvS_nil)))) rfl ?_
  refine Pa.inv (by rfl) (by rfl) (.inr rfl) (by rfl) ?_
  exact l1

theorem d_set {yA : AW} (yg : Rpx yA) (N : Nat) (yc : Int32) : Pa N 128 0 [(0, .ref 0), (1, .int yc)] [] yA (dSt yc yA) := by
  have e47 := yg.q.fq
  have yhT := yg.q.tQ
  have hy := yr_9 yg.q
  obtain ⟨yn, hn⟩ : ∃ yn, yc.toInt.toNat = yn := ⟨_, rfl⟩
  have r53 : yn < 60 → yA.1 53 yn = yA.1 110 yn := yg.py.2.1 yn
  refine bx_st yc ?_ ?_ ?_ ?_ <;> (try rw [hn])
  · exact fun y1 => .inl ⟨fun yz => by unfold okAv at yz; omega, rfl, rfl⟩
  · exact fun y1 y2 => .inl ⟨fun yz => by unfold okAv at yz; rw [e47] at y2; omega, rfl, rfl⟩
  · intro y1 y2 y3 y4
    rw [e47] at y2
    rw [r53 (by omega)] at y4
    rw [yg.q.dy]
    have yhc : yn < qT yA := by unfold qT; omega
    have ecn : yc = Int32.ofNat yn := i32_ext (by rw [i32_nat (by omega)]; omega)
    have ey : (yA.1 69 0) / 360 = Int32.ofNat (yrV yA) := i32_ext (by rw [i32_nat (by omega)]; exact hy.1)
    have gg := c_deal (yW := yA) yg.q (scX_refl yA) yhc hy.2 (yA.1 69 0) yg.q.d9.2 N
    rw [← ecn, ← ey] at gg
    refine Pa.mono gg (fun yv A1 hv => ?_)
    obtain ⟨rfl, ys1, -, -, s47⟩ := hv
    have g2 := c_clX yg ys1 yhc s47 (hsV yA (yA.1 107 yn) (yA.1 69 0) (yrV yA + 1) yn) N
    rw [← ecn] at g2
    refine bx_st1 yc _ (Pa.mono g2 (fun yv yB hv => ?_))
    obtain ⟨rfl, yh⟩ := hv
    refine Pa.iret (by rfl) (.inr (.inr ⟨⟨y1, y2⟩, ?_, ?_, ?_⟩))
    · rw [hn]
      exact fun yz => yz y4
    · rw [hn]
      rfl
    · rw [hn]
      exact yh
  · intro y1 y2 y3 y4
    rw [e47] at y2
    rw [r53 (by omega)] at y4
    exact .inr (.inl ⟨⟨y1, y2⟩, by rw [hn]; exact y4, rfl, rfl⟩)
theorem bm_st {N : Nat} {yA : AW} {yQ : Option Value → AW → Prop} (yc : Int32)
    (l1 : yc.toInt < 0 → yQ (some (.int (-1))) yA)
    (l2 : 0 ≤ yc.toInt → (yA.1 69 52).toInt ≤ yc.toInt → yQ (some (.int (-1))) yA)
    (l3 : 0 ≤ yc.toInt → yc.toInt < (yA.1 69 52).toInt → yc.toInt < 60 → (yA.1 110 yc.toInt.toNat).toInt = 0 → Pa N 225 0 [(0, .ref 69), (1, .int yc)] [] yA (fun yu A1 => Pa N 232 27 [(0, .ref 69), (1, .int yc)] (yu.toList ++ []) A1 yQ))
    (l4 : 0 ≤ yc.toInt → yc.toInt < (yA.1 69 52).toInt → yc.toInt < 60 → (yA.1 110 yc.toInt.toNat).toInt ≠ 0 → yQ (some (.int (-3))) yA) :
    Pa N 232 0 [(0, .ref 69), (1, .int yc)] [] yA yQ := by
  refine Pa.mp 2 (pc' := 2) (l' := [(0, .ref 69), (1, .int yc)]) (st' := [.int yc, .ref 69]) (by rfl) ?_
  refine Pa.inv (by rfl) (by rfl) (.inl rfl) (by rfl) ?_
  show Pa N 224 0 [(0, .ref 69), (1, .int yc)] [] yA _
  refine Pa.mp 1 (pc' := 1) (l' := [(0, .ref 69), (1, .int yc)]) (st' := [.int yc]) (by rfl) ?_
  refine Pa.if1 (a := yc.toInt) (t := 16) (by rfl) (by rfl) (rfl) (fun h1 => ?_) (fun h2 => ?_)
  · have h1 : yc.toInt < 0 := h1
    refine Pa.ic (x := 0) (pc' := 17) (by rfl) (by rfl) (by decide) ?_
    refine Pa.iret (by rfl) ?_
    show Pa N 232 5 [(0, .ref 69), (1, .int yc)] [.int 0] yA _
    refine Pa.if1k false (by rfl) (by rfl) (by decide) ?_
    show Pa N 232 8 [(0, .ref 69), (1, .int yc)] [] yA _
    refine Pa.ic (x := (-1)) (pc' := 9) (by rfl) (by rfl) (by decide) ?_
    refine Pa.iret (by rfl) ?_
    exact l1 h1
  · have h2 : 0 ≤ yc.toInt := h2
    refine Pa.mp 2 (pc' := 6) (l' := [(0, .ref 69), (1, .int yc)]) (st' := [.ref 69, .int yc]) (by rfl) ?_
    refine Pa.gfI (v := yA.1 69 52) (by rfl) (by rfl) (.inl rfl) (by rfl) (by rfl) ?_
    refine Pa.if2 (a := yc.toInt) (b := (yA.1 69 52).toInt) (t := 16) (by rfl) (by rfl) (rfl) (rfl) (fun h3 => ?_) (fun h4 => ?_)
    · have h3 : (yA.1 69 52).toInt ≤ yc.toInt := h3
      refine Pa.ic (x := 0) (pc' := 17) (by rfl) (by rfl) (by decide) ?_
      refine Pa.iret (by rfl) ?_
      show Pa N 232 5 [(0, .ref 69), (1, .int yc)] [.int 0] yA _
      refine Pa.if1k false (by rfl) (by rfl) (by decide) ?_
      show Pa N 232 8 [(0, .ref 69), (1, .int yc)] [] yA _
      refine Pa.ic (x := (-1)) (pc' := 9) (by rfl) (by rfl) (by decide) ?_
      refine Pa.iret (by rfl) ?_
      exact l2 h2 h3
    · have h4 : yc.toInt < (yA.1 69 52).toInt := h4
      refine Pa.ic (x := 1) (pc' := 13) (by rfl) (by rfl) (by decide) ?_
      refine Pa.mp 1 (pc' := 17) (l' := [(0, .ref 69), (1, .int yc)]) (st' := [.int 1]) (by rfl) ?_
      refine Pa.iret (by rfl) ?_
      show Pa N 232 5 [(0, .ref 69), (1, .int yc)] [.int 1] yA _
      refine Pa.if1k true (by rfl) (by rfl) (by decide) ?_
      show Pa N 232 10 [(0, .ref 69), (1, .int yc)] [] yA _
      refine Pa.mp 1 (pc' := 11) (l' := [(0, .ref 69), (1, .int yc)]) (st' := [.ref 69]) (by rfl) ?_
      refine Pa.gfR (by rfl) (by rfl) (.inl rfl) (by rfl) ?_
      show Pa N 232 14 [(0, .ref 69), (1, .int yc)] [.ref 110] yA _
      refine Pa.mp 1 (pc' := 15) (l' := [(0, .ref 69), (1, .int yc)]) (st' := [.int yc, .ref 110]) (by rfl) ?_
      refine Pa.blds (v := yA.1 110 yc.toInt.toNat) (by rfl) (by rfl) (by rfl) (fun h5 h6 => ?_)
      have h5 : 0 ≤ yc.toInt := h5
      have h6 : yc.toInt < 60 := h6
      refine Pa.if1 (a := (yA.1 110 yc.toInt.toNat).toInt) (t := 22) (by rfl) (by rfl) (rfl) (fun h7 => ?_) (fun h8 => ?_)
      · have h7 : (yA.1 110 yc.toInt.toNat).toInt = 0 := h7
        refine Pa.mp 2 (pc' := 24) (l' := [(0, .ref 69), (1, .int yc)]) (st' := [.int yc, .ref 69]) (by rfl) ?_
        refine Pa.inv (by rfl) (by rfl) (.inl rfl) (by rfl) ?_
        exact l3 h2 h4 h6 h7
      · have h8 : (yA.1 110 yc.toInt.toNat).toInt ≠ 0 := h8
        refine Pa.ic (x := (-3)) (pc' := 21) (by rfl) (by rfl) (by decide) ?_
        refine Pa.iret (by rfl) ?_
        exact l4 h2 h4 h6 h8

theorem bm_st1 {N : Nat} {yA : AW} {yQ : Option Value → AW → Prop} (yc yv : Int32)
    (l1 : 0 ≤ yc.toInt → yc.toInt < 60 → 0 ≤ (yA.1 109 yc.toInt.toNat).toInt → (yv - (yA.1 109 yc.toInt.toNat)).toInt ≤ 0 → yQ (some (.int (yv - (yA.1 109 yc.toInt.toNat)))) (uI yA 110 yc.toInt.toNat (vp_nar .boolean 1)))
    (l2 : 0 ≤ yc.toInt → yc.toInt < 60 → 0 ≤ (yA.1 109 yc.toInt.toNat).toInt → 0 < (yv - (yA.1 109 yc.toInt.toNat)).toInt → Pa N 230 0 [(0, .ref 69), (1, .int yc), (2, .int (yv - (yA.1 109 yc.toInt.toNat)))] [] (uI yA 110 yc.toInt.toNat (vp_nar .boolean 1)) (fun yu A1 => Pa N 232 65 [(0, .ref 69), (1, .int yc), (2, .int (yv - (yA.1 109 yc.toInt.toNat)))] (yu.toList ++ []) A1 yQ))
    (l3 : 0 ≤ yc.toInt → yc.toInt < 60 → (yA.1 109 yc.toInt.toNat).toInt < 0 → (yv - 0).toInt ≤ 0 → yQ (some (.int (yv - 0))) (uI yA 110 yc.toInt.toNat (vp_nar .boolean 1)))
    (l4 : 0 ≤ yc.toInt → yc.toInt < 60 → (yA.1 109 yc.toInt.toNat).toInt < 0 → 0 < (yv - 0).toInt → Pa N 230 0 [(0, .ref 69), (1, .int yc), (2, .int (yv - 0))] [] (uI yA 110 yc.toInt.toNat (vp_nar .boolean 1)) (fun yu A1 => Pa N 232 65 [(0, .ref 69), (1, .int yc), (2, .int (yv - 0))] (yu.toList ++ []) A1 yQ)) :
    Pa N 232 27 [(0, .ref 69), (1, .int yc)] [.int yv] yA yQ := by
  refine Pa.mp 1 (pc' := 28) (l' := [(0, .ref 69), (1, .int yc)]) (st' := [.ref 69, .int yv]) (by rfl) ?_
  refine Pa.gfR (by rfl) (by rfl) (.inl rfl) (by rfl) ?_
  show Pa N 232 31 [(0, .ref 69), (1, .int yc)] [.ref 109, .int yv] yA _
  refine Pa.mp 1 (pc' := 32) (l' := [(0, .ref 69), (1, .int yc)]) (st' := [.int yc, .ref 109, .int yv]) (by rfl) ?_
  refine Pa.alds (v := yA.1 109 yc.toInt.toNat) (by rfl) (by rfl) (by rfl) (fun h1 h2 => ?_)
  have h1 : 0 ≤ yc.toInt := h1
  have h2 : yc.toInt < 60 := h2
  refine Pa.if1 (a := (yA.1 109 yc.toInt.toNat).toInt) (t := 40) (by rfl) (by rfl) (rfl) (fun h3 => ?_) (fun h4 => ?_)
  · have h3 : 0 ≤ (yA.1 109 yc.toInt.toNat).toInt := h3
    refine Pa.mp 1 (pc' := 41) (l' := [(0, .ref 69), (1, .int yc)]) (st' := [.ref 69, .int yv]) (by rfl) ?_
    refine Pa.gfR (by rfl) (by rfl) (.inl rfl) (by rfl) ?_
    show Pa N 232 44 [(0, .ref 69), (1, .int yc)] [.ref 109, .int yv] yA _
    refine Pa.mp 1 (pc' := 45) (l' := [(0, .ref 69), (1, .int yc)]) (st' := [.int yc, .ref 109, .int yv]) (by rfl) ?_
    refine Pa.alds (v := yA.1 109 yc.toInt.toNat) (by rfl) (by rfl) (by rfl) (fun h5 h6 => ?_)
    have h5 : 0 ≤ yc.toInt := h5
    have h6 : yc.toInt < 60 := h6
    refine Pa.mp 3 (pc' := 49) (l' := [(2, .int (yv - (yA.1 109 yc.toInt.toNat))), (0, .ref 69), (1, .int yc)]) (st' := [.ref 69]) (by rfl) ?_
    refine Pa.gfR (by rfl) (by rfl) (.inl rfl) (by rfl) ?_
    show Pa N 232 52 [(2, .int (yv - (yA.1 109 yc.toInt.toNat))), (0, .ref 69), (1, .int yc)] [.ref 110] yA _
    refine Pa.mp 1 (pc' := 53) (l' := [(2, .int (yv - (yA.1 109 yc.toInt.toNat))), (0, .ref 69), (1, .int yc)]) (st' := [.int yc, .ref 110]) (by rfl) ?_
    refine Pa.ic (x := 1) (pc' := 54) (by rfl) (by rfl) (by decide) ?_
    refine Pa.bsts (j' := yc.toInt.toNat) (by rfl) (by rfl) (by rfl) (fun h7 h8 => ?_)
    have h7 : 0 ≤ yc.toInt := h7
    have h8 : yc.toInt < 60 := h8
    show Pa N 232 55 [(2, .int (yv - (yA.1 109 yc.toInt.toNat))), (0, .ref 69), (1, .int yc)] [] (uI yA 110 yc.toInt.toNat (vp_nar .boolean 1)) _
    refine Pa.mp 1 (pc' := 56) (l' := [(2, .int (yv - (yA.1 109 yc.toInt.toNat))), (0, .ref 69), (1, .int yc)]) (st' := [.int (yv - (yA.1 109 yc.toInt.toNat))]) (by rfl) ?_
    refine Pa.if1 (a := (yv - (yA.1 109 yc.toInt.toNat)).toInt) (t := 65) (by rfl) (by rfl) (rfl) (fun h9 => ?_) (fun h10 => ?_)
    · have h9 : (yv - (yA.1 109 yc.toInt.toNat)).toInt ≤ 0 := h9
      refine Pa.mp 1 (pc' := 66) (l' := [(2, .int (yv - (yA.1 109 yc.toInt.toNat))), (0, .ref 69), (1, .int yc)]) (st' := [.int (yv - (yA.1 109 yc.toInt.toNat))]) (by rfl) ?_
      refine Pa.iret (by rfl) ?_
      exact l1 h1 h2 h3 h9
    · have h10 : 0 < (yv - (yA.1 109 yc.toInt.toNat)).toInt := h10
      refine Pa.mp 3 (pc' := 62) (l' := [(2, .int (yv - (yA.1 109 yc.toInt.toNat))), (0, .ref 69), (1, .int yc)]) (st' := [.int (yv - (yA.1 109 yc.toInt.toNat)), .int yc, .ref 69]) (by rfl) ?_
      refine Pa.lv (l' := [(0, .ref 69), (1, .int yc), (2, .int (yv - (yA.1 109 yc.toInt.toNat)))]) (lvS_c rfl (lvS_c rfl (lvS_c rfl (lvS_nil)))) rfl ?_
      refine Pa.inv (by rfl) (by rfl) (.inl rfl) (by rfl) ?_
      exact l2 h1 h2 h3 h10
  · have h4 : (yA.1 109 yc.toInt.toNat).toInt < 0 := h4
    refine Pa.ic (x := 0) (pc' := 37) (by rfl) (by rfl) (by decide) ?_
    refine Pa.mp 4 (pc' := 49) (l' := [(2, .int (yv - 0)), (0, .ref 69), (1, .int yc)]) (st' := [.ref 69]) (by rfl) ?_
    refine Pa.gfR (by rfl) (by rfl) (.inl rfl) (by rfl) ?_
    show Pa N 232 52 [(2, .int (yv - 0)), (0, .ref 69), (1, .int yc)] [.ref 110] yA _
    refine Pa.mp 1 (pc' := 53) (l' := [(2, .int (yv - 0)), (0, .ref 69), (1, .int yc)]) (st' := [.int yc, .ref 110]) (by rfl) ?_
    refine Pa.ic (x := 1) (pc' := 54) (by rfl) (by rfl) (by decide) ?_
    refine Pa.bsts (j' := yc.toInt.toNat) (by rfl) (by rfl) (by rfl) (fun h11 h12 => ?_)
    have h11 : 0 ≤ yc.toInt := h11
    have h12 : yc.toInt < 60 := h12
    show Pa N 232 55 [(2, .int (yv - 0)), (0, .ref 69), (1, .int yc)] [] (uI yA 110 yc.toInt.toNat (vp_nar .boolean 1)) _
    refine Pa.mp 1 (pc' := 56) (l' := [(2, .int (yv - 0)), (0, .ref 69), (1, .int yc)]) (st' := [.int (yv - 0)]) (by rfl) ?_
    refine Pa.if1 (a := (yv - 0).toInt) (t := 65) (by rfl) (by rfl) (rfl) (fun h13 => ?_) (fun h14 => ?_)
    · have h13 : (yv - 0).toInt ≤ 0 := h13
      refine Pa.mp 1 (pc' := 66) (l' := [(2, .int (yv - 0)), (0, .ref 69), (1, .int yc)]) (st' := [.int (yv - 0)]) (by rfl) ?_
      refine Pa.iret (by rfl) ?_
      exact l3 h1 h2 h4 h13
    · have h14 : 0 < (yv - 0).toInt := h14
      refine Pa.mp 3 (pc' := 62) (l' := [(2, .int (yv - 0)), (0, .ref 69), (1, .int yc)]) (st' := [.int (yv - 0), .int yc, .ref 69]) (by rfl) ?_
      refine Pa.lv (l' := [(0, .ref 69), (1, .int yc), (2, .int (yv - 0))]) (lvS_c rfl (lvS_c rfl (lvS_c rfl (lvS_nil)))) rfl ?_
      refine Pa.inv (by rfl) (by rfl) (.inl rfl) (by rfl) ?_
      exact l4 h1 h2 h4 h14

theorem bm_st2 {N : Nat} {yA : AW} {yQ : Option Value → AW → Prop} (yc yv : Int32)
    (l1 : yQ (some (.int yv)) yA) :
    Pa N 232 65 [(0, .ref 69), (1, .int yc), (2, .int yv)] [] yA yQ := by
  refine Pa.mp 1 (pc' := 66) (l' := [(0, .ref 69), (1, .int yc), (2, .int yv)]) (st' := [.int yv]) (by rfl) ?_
  refine Pa.iret (by rfl) ?_
  exact l1

theorem e_set0 {yA yW : AW} (yg : Rpx yA) (hs : smM yW yA yW) (N : Nat) (yc : Int32) : Pa N 232 0 [(0, .ref 69), (1, .int yc)] [] yW (fun yu yB => (¬ okAv yA yc ∧ yu = some (.int (-1)) ∧ yB = yW) ∨ (okAv yA yc ∧ stS yA yc.toInt.toNat ∧ yu = some (.int (-3)) ∧ yB = yW) ∨ (okAv yA yc ∧ ¬ stS yA yc.toInt.toNat ∧ yu = some (.int (stV yA yc.toInt.toNat)) ∧ afM yW yA (yA.1 109) (seR yc.toInt.toNat (yA.1 110)) (lqR yA yc.toInt.toNat (stV yA yc.toInt.toNat)) (hqR yA yc.toInt.toNat (stV yA yc.toInt.toNat) (yA.1 74)) yB)) := by
  have e52 : yW.1 69 52 = yA.1 69 52 := hs.2.1 52 (by decide) (by decide) (by decide) (by decide) (by decide) (by decide) (by decide) (by decide)
  have yhT := yg.q.tQ
  obtain ⟨yn, hn⟩ : ∃ yn, yc.toInt.toNat = yn := ⟨_, rfl⟩
  have yw : ∀ yd yj, 69 < yd → yd < 115 → yW.1 yd yj = yA.1 yd yj := fun yd yj h1 h2 => hs.lo h1 h2 yj
  rw [hn]
  refine bm_st yc ?_ ?_ ?_ ?_ <;> (try rw [hn])
  · exact fun y1 => .inl ⟨fun yz => by unfold okAv at yz; omega, rfl, rfl⟩
  · exact fun y1 y2 => .inl ⟨fun yz => by unfold okAv at yz; rw [e52] at y2; omega, rfl, rfl⟩
  · intro y1 y2 y3 y4
    rw [e52] at y2
    rw [yw 110 yn (by decide) (by decide)] at y4
    have yhc : yn < qT yA := by unfold qT; omega
    have ecn : yc = Int32.ofNat yn := i32_ext (by rw [i32_nat (by omega)]; omega)
    have gg := c_gtM yg.q hs yhc N
    rw [← ecn] at gg
    refine Pa.mono gg (fun yv A1 hv => ?_)
    obtain ⟨rfl, ys1, lo1⟩ := hv
    have yw1 : ∀ yd yj, 69 < yd → yd < 115 → A1.1 yd yj = yA.1 yd yj := fun yd yj h1 h2 => ys1.lo h1 h2 yj
    have e57 : A1.1 69 57 = yA.1 69 57 := ys1.2.1 57 (by decide) (by decide) (by decide) (by decide) (by decide) (by decide) (by decide) (by decide)
    have r110 : ∀ yj, (uI A1 110 yn (vp_nar .boolean 1)).1 110 yj = seR yn (yA.1 110) yj := fun yj => by
      rw [uI_row]
      show _ = if yj = yn then _ else _
      by_cases yz : yj = yn
      · rw [if_pos yz, if_pos yz]
      · rw [if_neg yz, if_neg yz]
        exact yw1 110 yj (by decide) (by decide)
    have fin0 : ∀ yt : Int32, yt = stV yA yn → yt.toInt ≤ 0 → ((¬ okAv yA yc ∧ some (Value.int yt) = some (.int (-1)) ∧ (uI A1 110 yn (vp_nar .boolean 1)) = yW) ∨ (okAv yA yc ∧ stS yA yn ∧ some (Value.int yt) = some (.int (-3)) ∧ (uI A1 110 yn (vp_nar .boolean 1)) = yW) ∨ (okAv yA yc ∧ ¬ stS yA yn ∧ some (Value.int yt) = some (.int (stV yA yn)) ∧ afM yW yA (yA.1 109) (seR yn (yA.1 110)) (lqR yA yn (stV yA yn)) (hqR yA yn (stV yA yn) (yA.1 74)) (uI A1 110 yn (vp_nar .boolean 1)))) := fun yt et yq => by
      rw [← et]
      refine .inr (.inr ⟨⟨y1, y2⟩, fun yz => yz y4, rfl, fun yd yj yhd => ?_, fun yj => ?_, ?_, fun yj => ?_, r110, fun yj hj => ?_, fun yj => ?_⟩)
      · rw [uI_c (by omega)]
        exact lo1 yd yj (by omega)
      · rw [uI_c (by decide)]
        exact yw1 112 yj (by decide) (by decide)
      · rw [uI_c (by decide)]
        exact e57
      · rw [uI_c (by decide)]
        exact yw1 109 yj (by decide) (by decide)
      · rw [uI_c (by decide), yw1 114 yj (by decide) (by decide)]
        exact (if_pos yq : lqR yA yn yt yj = _).symm
      · rw [uI_c (by decide), yw1 74 yj (by decide) (by decide)]
        exact (if_pos yq : hqR yA yn yt (yA.1 74) yj = _).symm
    have fin1 : ∀ yt : Int32, yt = stV yA yn → 0 < yt.toInt → Pa N 230 0 [(0, .ref 69), (1, .int yc), (2, .int yt)] [] (uI A1 110 yn (vp_nar .boolean 1)) (fun yu A1 => Pa N 232 65 [(0, .ref 69), (1, .int yc), (2, .int yt)] (yu.toList ++ []) A1 (fun yu yB => (¬ okAv yA yc ∧ yu = some (.int (-1)) ∧ yB = yW) ∨ (okAv yA yc ∧ stS yA yn ∧ yu = some (.int (-3)) ∧ yB = yW) ∨ (okAv yA yc ∧ ¬ stS yA yn ∧ yu = some (.int (stV yA yn)) ∧ afM yW yA (yA.1 109) (seR yn (yA.1 110)) (lqR yA yn (stV yA yn)) (hqR yA yn (stV yA yn) (yA.1 74)) yB))) := fun yt et yq => by
      have g2 := c_poM (yA := yA) (yW := uI A1 110 yn (vp_nar .boolean 1)) (yc := yn) yt (yA.1 114) yg.gd yg.n60 (by omega) (by omega) yg.tN.1 (by rw [uI_c (by decide)]; exact e57) (fun yd yj yhd => by
        rw [uI_c (by omega)]
        exact yw1 yd yj (by omega) (by omega)) (fun yj hj => by
        rw [uI_c (by decide)]
        exact yw1 114 yj (by decide) (by decide)) N
      rw [← ecn] at g2
      refine Pa.mono g2 (fun yv yB hv => ?_)
      obtain ⟨rfl, b1, b2, b3, b4⟩ := hv
      refine bm_st2 yc yt ?_
      rw [← et]
      refine .inr (.inr ⟨⟨y1, y2⟩, fun yz => yz y4, rfl, fun yd yj yhd => ?_, fun yj => ?_, ?_, fun yj => ?_, fun yj => ?_, fun yj hj => ?_, fun yj => ?_⟩)
      · rw [b1 yd yj (by omega) (by omega), uI_c (by omega)]
        exact lo1 yd yj (by omega)
      · rw [b1 112 yj (by decide) (by decide), uI_c (by decide)]
        exact yw1 112 yj (by decide) (by decide)
      · rw [b1 69 57 (by decide) (by decide), uI_c (by decide)]
        exact e57
      · rw [b1 109 yj (by decide) (by decide), uI_c (by decide)]
        exact yw1 109 yj (by decide) (by decide)
      · rw [b1 110 yj (by decide) (by decide)]
        exact r110 yj
      · exact (b3 yj hj).trans (if_neg (by omega) : lqR yA yn yt yj = _).symm
      · rw [b4 yj, uI_c (by decide), yw1 74 yj (by decide) (by decide)]
        exact (if_neg (by omega) : hqR yA yn yt (yA.1 74) yj = _).symm
    refine bm_st1 yc _ ?_ ?_ ?_ ?_ <;> rw [hn, yw1 109 yn (by decide) (by decide)]
    · intro _ _ z1 z2
      exact fin0 _ (by unfold stV; rw [if_pos z1]) z2
    · intro _ _ z1 z2
      exact fin1 _ (by unfold stV; rw [if_pos z1]) z2
    · intro _ _ z1 z2
      exact fin0 _ (by unfold stV; rw [if_neg (by omega)]) z2
    · intro _ _ z1 z2
      exact fin1 _ (by unfold stV; rw [if_neg (by omega)]) z2
  · intro y1 y2 y3 y4
    rw [e52] at y2
    rw [yw 110 yn (by decide) (by decide)] at y4
    exact .inr (.inl ⟨⟨y1, y2⟩, y4, rfl, rfl⟩)
