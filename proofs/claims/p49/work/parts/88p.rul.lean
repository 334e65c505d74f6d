/-! LOANS REPAID: the rule -/
def lnT (yA : AW) : Nat := (yA.1 69 57).toInt.toNat
abbrev lnM (yA : AW) (yc yr : Int32) (yi : Nat) : Prop := yi < lnT yA ∧ (yA.1 111 yi).toInt = yc.toInt ∧ (yA.1 113 yi).toInt = yr.toInt
def lnX (yA : AW) (yG : Nat → Int32) (yi : Nat) : Int64 := (yA.1 112 yi - yG yi).toInt64
/-- what is owed -/
def owV (yA : AW) (yc yr : Int32) (yG : Nat → Int32) : Nat → Int64
  | 0 => Int64.ofNat 0
  | yn + 1 => if lnM yA yc yr yn then owV yA yc yr yG yn + lnX yA yG yn else owV yA yc yr yG yn
def ptV (yA : AW) (yG : Nat → Int32) (yw : Int32) (yi : Nat) : Int64 := lnX yA yG yi * yw.toInt64
def g1V (yA : AW) (yc yr : Int32) (yG : Nat → Int32) (yS : Int64) (yw : Int32) (yi : Nat) : Int32 := if lnM yA yc yr yi then yG yi + (ptV yA yG yw yi / yS).toInt32 else yG yi
def rsV (yA : AW) (yc yr : Int32) (yG : Nat → Int32) (yS : Int64) (yw : Int32) (yi : Nat) : Int64 := if lnM yA yc yr yi then ptV yA yG yw yi - ptV yA yG yw yi / yS * yS else Int64.ofNat 0
def lfR (yA : AW) (yc yr : Int32) (yG : Nat → Int32) (yS : Int64) (yw : Int32) : Nat → Int32
  | 0 => yw
  | yn + 1 => if lnM yA yc yr yn then lfR yA yc yr yG yS yw yn - (ptV yA yG yw yn / yS).toInt32 else lfR yA yc yr yG yS yw yn
/-- the first of the greatest -/
def bsI (yr : Nat → Int64) : Nat → Nat
  | 0 => 0
  | yi + 1 => if (yr (bsI yr yi)).toInt < (yr (yi + 1)).toInt then yi + 1 else bsI yr yi
def updJ (yg : Nat → Int64) (yn : Nat) (yv : Int64) : Nat → Int64 := fun yj => if yj = yn then yv else yg yj
def dst (yn : Nat) : Nat → (Nat → Int64) → (Nat → Int32) → (Nat → Int32)
  | 0, _, yG => yG
  | ym + 1, yr, yG => dst yn ym (updJ yr (bsI yr (yn - 1)) (Int64.ofNat 0)) (updF yG (bsI yr (yn - 1)) (yG (bsI yr (yn - 1)) + 1))
/-- how many are above 0 -/
def pcN (yr : Nat → Int64) : Nat → Nat
  | 0 => 0
  | yn + 1 => if 0 < (yr yn).toInt then pcN yr yn + 1 else pcN yr yn
theorem updJ_h {yg : Nat → Int64} {yn : Nat} {yv : Int64} : updJ yg yn yv yn = yv := if_pos rfl
theorem updJ_n {yg : Nat → Int64} {yn yj : Nat} {yv : Int64} (yh : yj ≠ yn) : updJ yg yn yv yj = yg yj := if_neg yh
theorem bsI_le {yr : Nat → Int64} : ∀ {yi : Nat}, bsI yr yi ≤ yi
  | 0 => Nat.le_refl 0
  | yi + 1 => by
    have yih := bsI_le (yr := yr) (yi := yi)
    unfold bsI
    split <;> omega
theorem bsI_max {yr : Nat → Int64} : ∀ {yi yj : Nat}, yj ≤ yi → (yr yj).toInt ≤ (yr (bsI yr yi)).toInt
  | 0, yj, hj => by
    have ye : yj = 0 := by omega
    rw [ye]
    exact Int.le_refl _
  | yi + 1, yj, hj => by
    have yih := fun yh => bsI_max (yr := yr) (yi := yi) (yj := yj) yh
    have yi0 := bsI_max (yr := yr) (yi := yi) (yj := yi) (Nat.le_refl yi)
    unfold bsI
    split
    · by_cases ye : yj = yi + 1
      · rw [ye]
        exact Int.le_refl _
      · have := yih (by omega)
        omega
    · by_cases ye : yj = yi + 1
      · rw [ye]
        omega
      · exact yih (by omega)
theorem pcN_ex {yr : Nat → Int64} : ∀ {yn : Nat}, 1 ≤ pcN yr yn → ∃ yj, yj < yn ∧ 0 < (yr yj).toInt
  | 0, yh => absurd yh (Nat.not_succ_le_zero 0)
  | yn + 1, yh => by
    by_cases yq : 0 < (yr yn).toInt
    · exact ⟨yn, Nat.lt_succ_self yn, yq⟩
    · have ye : pcN yr (yn + 1) = pcN yr yn := if_neg yq
      rw [ye] at yh
      obtain ⟨yj, j1, yj2⟩ := pcN_ex yh
      exact ⟨yj, by omega, yj2⟩
theorem pcN_le {yr : Nat → Int64} : ∀ {yn : Nat}, pcN yr yn ≤ yn
  | 0 => Nat.le_refl 0
  | yn + 1 => by
    have yih := pcN_le (yr := yr) (yn := yn)
    unfold pcN
    split <;> omega
theorem bsI_pos {yr : Nat → Int64} {yn : Nat} (yh : 1 ≤ pcN yr yn) : bsI yr (yn - 1) < yn ∧ 0 < (yr (bsI yr (yn - 1))).toInt := by
  obtain ⟨yj, j1, yj2⟩ := pcN_ex yh
  have ya := bsI_max (yr := yr) (yi := yn - 1) (yj := yj) (by omega)
  have yb := bsI_le (yr := yr) (yi := yn - 1)
  omega
theorem pcN_cg {yr ys : Nat → Int64} : ∀ {yn : Nat}, (∀ yj, yj < yn → yr yj = ys yj) → pcN yr yn = pcN ys yn
  | 0, _ => rfl
  | yn + 1, yh => by
    unfold pcN
    rw [yh yn (Nat.lt_succ_self yn), pcN_cg (fun yj hj => yh yj (by omega))]
theorem pcN_up {yr : Nat → Int64} {yb : Nat} (yhb : 0 < (yr yb).toInt) : ∀ {yn : Nat}, yb < yn → pcN (updJ yr yb (Int64.ofNat 0)) yn + 1 = pcN yr yn
  | 0, yh => absurd yh (Nat.not_lt_zero yb)
  | yn + 1, yh => by
    by_cases ye : yb = yn
    · have ye1 : pcN yr (yn + 1) = pcN yr yn + 1 := if_pos (by rw [← ye]; exact yhb)
      have ye2 : pcN (updJ yr yb (Int64.ofNat 0)) (yn + 1) = pcN (updJ yr yb (Int64.ofNat 0)) yn := if_neg (by
        rw [← ye, updJ_h]
        decide)
      rw [ye1, ye2, pcN_cg (fun yj hj => updJ_n (by omega))]
    · have yih := pcN_up yhb (yn := yn) (by omega)
      have ye3 : updJ yr yb (Int64.ofNat 0) yn = yr yn := updJ_n (fun yz => ye yz.symm)
      unfold pcN
      rw [ye3]
      split <;> omega
/-- the rests of the reference: of those that are not of it, below 0 -/
def rOK (yn : Nat) (yr ys : Nat → Int64) : Prop := ∀ yj, yj < yn → (0 < (yr yj).toInt ∧ ys yj = yr yj) ∨ ((yr yj).toInt = 0 ∧ (ys yj).toInt ≤ 0)
theorem bsI_eq {yn : Nat} {yr ys : Nat → Int64} (yh : rOK yn yr ys) : ∀ {yi : Nat}, yi < yn → (bsI ys yi = bsI yr yi ∧ 0 < (yr (bsI yr yi)).toInt) ∨ (∀ yj, yj ≤ yi → (yr yj).toInt = 0)
  | 0, yhi => by
    rcases yh 0 yhi with yz | yz
    · exact .inl ⟨rfl, yz.1⟩
    · refine .inr (fun yj hj => ?_)
      have ye : yj = 0 := by omega
      rw [ye]
      exact yz.1
  | yi + 1, yhi => by
    have lr := bsI_le (yr := yr) (yi := yi)
    have ls := bsI_le (yr := ys) (yi := yi)
    rcases bsI_eq yh (yi := yi) (by omega) with ⟨ya1, a2⟩ | ya
    · have ysb : ys (bsI yr yi) = yr (bsI yr yi) := by
        rcases yh (bsI yr yi) (by omega) with yz | yz
        · exact yz.2
        · omega
      refine .inl ?_
      rcases yh (yi + 1) yhi with yz | yz
      · unfold bsI
        rw [ya1, ysb, yz.2]
        refine ⟨rfl, ?_⟩
        split
        · exact yz.1
        · exact a2
      · have ye1 : bsI yr (yi + 1) = bsI yr yi := if_neg (by omega)
        have ye2 : bsI ys (yi + 1) = bsI ys yi := if_neg (by rw [ya1, ysb]; omega)
        rw [ye1, ye2]
        exact ⟨ya1, a2⟩
    · rcases yh (yi + 1) yhi with yz | yz
      · have b0 := ya (bsI yr yi) lr
        have ys0 : (ys (bsI ys yi)).toInt ≤ 0 := by
          rcases yh (bsI ys yi) (by omega) with yy | yy
          · have := ya (bsI ys yi) ls
            omega
          · exact yy.2
        have ye1 : bsI yr (yi + 1) = yi + 1 := if_pos (by omega)
        have ye2 : bsI ys (yi + 1) = yi + 1 := if_pos (by rw [yz.2]; omega)
        rw [ye1, ye2]
        exact .inl ⟨rfl, yz.1⟩
      · refine .inr (fun yj hj => ?_)
        by_cases ye : yj = yi + 1
        · rw [ye]
          exact yz.1
        · exact ya yj (by omega)
theorem rOK_bs {yn : Nat} {yr ys : Nat → Int64} (yh : rOK yn yr ys) (hp : 1 ≤ pcN yr yn) : bsI ys (yn - 1) = bsI yr (yn - 1) := by
  have yhb := bsI_pos hp
  rcases bsI_eq yh (yi := yn - 1) (by omega) with yz | yz
  · exact yz.1
  · have := yz (bsI yr (yn - 1)) bsI_le
    omega
theorem rOK_up {yn yb : Nat} {yr ys : Nat → Int64} (yh : rOK yn yr ys) {yx : Int64} (hx : yx.toInt ≤ 0) : rOK yn (updJ yr yb (Int64.ofNat 0)) (updJ ys yb yx) := fun yj hj => by
  by_cases ye : yj = yb
  · rw [ye, updJ_h, updJ_h]
    exact .inr ⟨by decide, hx⟩
  · rw [updJ_n ye, updJ_n ye]
    exact yh yj hj
/-- no more than was lent -/
theorem dst_ok {yn : Nat} {yC : Nat → Int32} : ∀ {ym : Nat} {yr : Nat → Int64} {yG : Nat → Int32}, ym ≤ pcN yr yn → (∀ yj, yj < yn → 0 ≤ (yG yj).toInt ∧ (yC yj).toInt ≤ 99999999 ∧ (yG yj).toInt ≤ (yC yj).toInt ∧ (0 < (yr yj).toInt → (yG yj).toInt + 1 ≤ (yC yj).toInt)) → ∀ yj, yj < yn → 0 ≤ (dst yn ym yr yG yj).toInt ∧ (dst yn ym yr yG yj).toInt ≤ (yC yj).toInt
  | 0, yr, yG, _, yh, yj, hj => ⟨(yh yj hj).1, (yh yj hj).2.2.1⟩
  | ym + 1, yr, yG, yhm, yh, yj, hj => by
    have yhb := bsI_pos (yr := yr) (yn := yn) (by omega)
    have hu := pcN_up yhb.2 (yn := yn) yhb.1
    have gb := yh _ yhb.1
    have gb2 := gb.2.2.2 yhb.2
    refine dst_ok (yn := yn) (yC := yC) (ym := ym) (by omega) (fun yi yhi => ?_) yj hj
    by_cases ye : yi = bsI yr (yn - 1)
    · rw [ye, updF_h, updJ_h, i32_add1 (by omega)]
      exact ⟨by omega, gb.2.1, by omega, fun yz => absurd yz (by decide)⟩
    · rw [updF_n ye, updJ_n ye]
      exact yh yi yhi
theorem dst_hi {yn : Nat} : ∀ {ym : Nat} {yr : Nat → Int64} {yG : Nat → Int32}, ym ≤ pcN yr yn → ∀ yj, yn ≤ yj → dst yn ym yr yG yj = yG yj
  | 0, _, _, _, _, _ => rfl
  | ym + 1, yr, yG, yhm, yj, hj => by
    have yhb := bsI_pos (yr := yr) (yn := yn) (by omega)
    have hu := pcN_up yhb.2 (yn := yn) yhb.1
    have ye : dst yn (ym + 1) yr yG yj = dst yn ym (updJ yr (bsI yr (yn - 1)) (Int64.ofNat 0)) (updF yG (bsI yr (yn - 1)) (yG (bsI yr (yn - 1)) + 1)) yj := rfl
    rw [ye, dst_hi (by omega) yj hj, updF_n (by omega)]
/-! the numbers -/
/-- loans are within what was lent -/
def gdG (yA : AW) (yG : Nat → Int32) : Prop := ∀ yi, yi < lnT yA → 0 ≤ (yG yi).toInt ∧ (yG yi).toInt ≤ (yA.1 112 yi).toInt ∧ (yA.1 112 yi).toInt ≤ 99999999
def xI (yA : AW) (yc yr : Int32) (yG : Nat → Int32) (yi : Nat) : Int := if lnM yA yc yr yi then (yA.1 112 yi).toInt - (yG yi).toInt else 0
def sX (yA : AW) (yc yr : Int32) (yG : Nat → Int32) : Nat → Int
  | 0 => 0
  | yn + 1 => sX yA yc yr yG yn + xI yA yc yr yG yn
theorem xI_b {yA : AW} {yc yr : Int32} {yG : Nat → Int32} (yg : gdG yA yG) (yi : Nat) : 0 ≤ xI yA yc yr yG yi ∧ xI yA yc yr yG yi ≤ 99999999 := by
  unfold xI
  split
  · next yh =>
    have := yg yi yh.1
    omega
  · omega
theorem lnX_I {yA : AW} {yc yr : Int32} {yG : Nat → Int32} (yg : gdG yA yG) {yi : Nat} (yh : lnM yA yc yr yi) : (lnX yA yG yi).toInt = xI yA yc yr yG yi := by
  have hg := yg yi yh.1
  have ye : xI yA yc yr yG yi = (yA.1 112 yi).toInt - (yG yi).toInt := if_pos yh
  unfold lnX
  rw [ye, Int32.toInt_toInt64, Int32.toInt_sub]
  exact z_bm0 ⟨by show (-2147483648 : Int) ≤ _; omega, by show _ ≤ (2147483647 : Int); omega⟩
theorem sX_b {yA : AW} {yc yr : Int32} {yG : Nat → Int32} (yg : gdG yA yG) : ∀ {yn : Nat}, 0 ≤ sX yA yc yr yG yn ∧ sX yA yc yr yG yn ≤ 99999999 * (yn : Int)
  | 0 => by
    show (0 : Int) ≤ 0 ∧ (0 : Int) ≤ 99999999 * ((0 : Nat) : Int)
    omega
  | yn + 1 => by
    have yih := sX_b yg (yc := yc) (yr := yr) (yn := yn)
    have yh := xI_b yg (yc := yc) (yr := yr) yn
    have ye : sX yA yc yr yG (yn + 1) = sX yA yc yr yG yn + xI yA yc yr yG yn := rfl
    rw [ye]
    omega
theorem sX_m {yA : AW} {yc yr : Int32} {yG : Nat → Int32} (yg : gdG yA yG) {yn : Nat} : ∀ {ym : Nat}, sX yA yc yr yG yn ≤ sX yA yc yr yG (yn + ym)
  | 0 => Int.le_refl _
  | ym + 1 => by
    have yih := sX_m yg (yc := yc) (yr := yr) (yn := yn) (ym := ym)
    have yh := xI_b yg (yc := yc) (yr := yr) (yn + ym)
    have ye : sX yA yc yr yG (yn + (ym + 1)) = sX yA yc yr yG (yn + ym) + xI yA yc yr yG (yn + ym) := rfl
    rw [ye]
    omega
theorem owV_I {yA : AW} {yc yr : Int32} {yG : Nat → Int32} (yg : gdG yA yG) : ∀ {yn : Nat}, yn ≤ 60 → (owV yA yc yr yG yn).toInt = sX yA yc yr yG yn
  | 0, _ => by
    show (Int64.ofNat 0).toInt = 0
    decide
  | yn + 1, hn => by
    have yih := owV_I yg (yc := yc) (yr := yr) (yn := yn) (by omega)
    have yhb := sX_b yg (yc := yc) (yr := yr) (yn := yn)
    have hx := xI_b yg (yc := yc) (yr := yr) yn
    have ye : sX yA yc yr yG (yn + 1) = sX yA yc yr yG yn + xI yA yc yr yG yn := rfl
    by_cases yh : lnM yA yc yr yn
    · have ye2 : owV yA yc yr yG (yn + 1) = owV yA yc yr yG yn + lnX yA yG yn := if_pos yh
      rw [ye, ye2, Int64.toInt_add, yih, lnX_I yg yh]
      exact z_bm1 ⟨by show (-9223372036854775808 : Int) ≤ _; omega, by show _ ≤ (9223372036854775807 : Int); omega⟩
    · have ye2 : owV yA yc yr yG (yn + 1) = owV yA yc yr yG yn := if_neg yh
      have ye3 : xI yA yc yr yG yn = 0 := if_neg yh
      rw [ye, ye2, yih, ye3]
      omega
/-- one loan's part -/
theorem ptV_I {yA : AW} {yc yr : Int32} {yG : Nat → Int32} (yg : gdG yA yG) {yw : Int32} (hw : 0 ≤ yw.toInt) {yi : Nat} (yh : lnM yA yc yr yi) : (ptV yA yG yw yi).toInt = xI yA yc yr yG yi * yw.toInt ∧ 0 ≤ xI yA yc yr yG yi * yw.toInt ∧ xI yA yc yr yG yi * yw.toInt ≤ 99999999 * 2147483647 := by
  have hx := xI_b yg (yc := yc) (yr := yr) yi
  have h1 := i32_b yw
  have ya := Int.mul_le_mul hx.2 h1.2 hw (by omega)
  have yb := Int.mul_nonneg hx.1 hw
  refine ⟨?_, yb, ya⟩
  unfold ptV
  rw [Int64.toInt_mul, lnX_I yg yh, Int32.toInt_toInt64]
  generalize xI yA yc yr yG yi * yw.toInt = yP at ya yb
  exact z_bm1 ⟨by show (-9223372036854775808 : Int) ≤ _; omega, by show _ ≤ (9223372036854775807 : Int); omega⟩
theorem q_I {yP : Int64} {yS : Int64} {yx yW T : Int} (hP : yP.toInt = yx * yW) (yhS : yS.toInt = T) (yhT : 1 ≤ T) (hW : 0 ≤ yW) (hWT : yW ≤ T) (hx : 0 ≤ yx) (hx1 : yx ≤ 99999999) (hT9 : T ≤ 99999999 * 60) (yhb : yx * yW ≤ 99999999 * 2147483647) : (yP / yS).toInt32.toInt = yx * yW / T ∧ (yP - yP / yS * yS).toInt = yx * yW % T ∧ 0 ≤ yx * yW / T ∧ yx * yW / T ≤ yx ∧ 0 ≤ yx * yW % T ∧ yx * yW % T < T ∧ T * (yx * yW / T) + yx * yW % T = yx * yW ∧ (0 < yx * yW % T → yx * yW / T + 1 ≤ yx) := by
  have yp0 := Int.mul_nonneg hx hW
  have pT : yx * yW ≤ yx * T := Int.mul_le_mul_of_nonneg_left hWT hx
  obtain ⟨yQ, hQ⟩ : ∃ yQ, yx * yW / T = yQ := ⟨_, rfl⟩
  obtain ⟨yR, hR⟩ : ∃ yR, yx * yW % T = yR := ⟨_, rfl⟩
  have ye1 : T * yQ + yR = yx * yW := by
    rw [← hQ, ← hR]
    exact Int.mul_ediv_add_emod (yx * yW) T
  have q0 : 0 ≤ yQ := by
    rw [← hQ]
    exact Int.ediv_nonneg yp0 (by omega)
  have r0 : 0 ≤ yR := by
    rw [← hR]
    exact Int.emod_nonneg _ (by omega)
  have yr1 : yR < T := by
    rw [← hR]
    exact Int.emod_lt_of_pos _ (by omega)
  have qx : yQ ≤ yx := by
    have yz : T * yQ ≤ T * yx := by
      rw [Int.mul_comm T yx]
      omega
    exact Int.le_of_mul_le_mul_left yz (by omega)
  have qx2 : 0 < yR → yQ + 1 ≤ yx := fun hR0 => by
    have yz : T * yQ < T * yx := by
      rw [Int.mul_comm T yx]
      omega
    have := Int.lt_of_mul_lt_mul_left yz (by omega)
    omega
  have yd1 : (yP / yS).toInt = yQ := by
    rw [Int64.toInt_div, hP, yhS, Int.tdiv_eq_ediv_of_nonneg yp0, hQ]
    exact z_bm1 ⟨by show (-9223372036854775808 : Int) ≤ _; omega, by show _ ≤ (9223372036854775807 : Int); omega⟩
  have ym0 : 0 ≤ T * yQ := Int.mul_nonneg (by omega) q0
  have yd2 : (yP / yS * yS).toInt = T * yQ := by
    rw [Int64.toInt_mul, yd1, yhS, Int.mul_comm yQ T]
    exact z_bm1 ⟨by show (-9223372036854775808 : Int) ≤ _; omega, by show _ ≤ (9223372036854775807 : Int); omega⟩
  have yd3 : (yP - yP / yS * yS).toInt = yR := by
    rw [Int64.toInt_sub, hP, yd2, ← ye1]
    rw [show T * yQ + yR - T * yQ = yR from by omega]
    exact z_bm1 ⟨by show (-9223372036854775808 : Int) ≤ _; omega, by show _ ≤ (9223372036854775807 : Int); omega⟩
  have yd4 : (yP / yS).toInt32.toInt = yQ := by
    rw [Int64.toInt_toInt32, yd1]
    exact z_bm0 ⟨by show (-2147483648 : Int) ≤ _; omega, by show _ ≤ (2147483647 : Int); omega⟩
  rw [hQ, hR]
  exact ⟨yd4, yd3, q0, qx, r0, yr1, ye1, qx2⟩
section RPT
variable {yA : AW} {yc yr yw : Int32} {yG : Nat → Int32} {yS : Int64} {T : Int}
/-- what the numbers are like -/
def okR (yA : AW) (yc yr : Int32) (yG : Nat → Int32) (yS : Int64) (yw : Int32) (T : Int) : Prop := gdG yA yG ∧ yS.toInt = T ∧ 1 ≤ T ∧ 0 ≤ yw.toInt ∧ yw.toInt ≤ T ∧ T = sX yA yc yr yG (lnT yA) ∧ lnT yA ≤ 60
theorem okR.T9 (yh : okR yA yc yr yG yS yw T) : T ≤ 99999999 * 60 := by
  have := (sX_b yh.1 (yc := yc) (yr := yr) (yn := lnT yA)).2
  have := yh.2.2.2.2.2.1
  have := yh.2.2.2.2.2.2
  omega
theorem okR.one (yh : okR yA yc yr yG yS yw T) {yi : Nat} (yhm : lnM yA yc yr yi) : (ptV yA yG yw yi / yS).toInt32.toInt = xI yA yc yr yG yi * yw.toInt / T ∧ (ptV yA yG yw yi - ptV yA yG yw yi / yS * yS).toInt = xI yA yc yr yG yi * yw.toInt % T ∧ 0 ≤ xI yA yc yr yG yi * yw.toInt / T ∧ xI yA yc yr yG yi * yw.toInt / T ≤ xI yA yc yr yG yi ∧ 0 ≤ xI yA yc yr yG yi * yw.toInt % T ∧ xI yA yc yr yG yi * yw.toInt % T < T ∧ T * (xI yA yc yr yG yi * yw.toInt / T) + xI yA yc yr yG yi * yw.toInt % T = xI yA yc yr yG yi * yw.toInt ∧ (0 < xI yA yc yr yG yi * yw.toInt % T → xI yA yc yr yG yi * yw.toInt / T + 1 ≤ xI yA yc yr yG yi) := by
  have hp := ptV_I yh.1 yh.2.2.2.1 yhm
  have hx := xI_b yh.1 (yc := yc) (yr := yr) yi
  exact q_I hp.1 yh.2.1 yh.2.2.1 yh.2.2.2.1 yh.2.2.2.2.1 hx.1 hx.2 yh.T9 hp.2.2
/-- what is given, what is over, yup to ya loan -/
def sQ (yA : AW) (yc yr : Int32) (yG : Nat → Int32) (yW T : Int) : Nat → Int
  | 0 => 0
  | yn + 1 => sQ yA yc yr yG yW T yn + (if lnM yA yc yr yn then xI yA yc yr yG yn * yW / T else 0)
def sR (yA : AW) (yc yr : Int32) (yG : Nat → Int32) (yW T : Int) : Nat → Int
  | 0 => 0
  | yn + 1 => sR yA yc yr yG yW T yn + (if lnM yA yc yr yn then xI yA yc yr yG yn * yW % T else 0)
theorem sQR (yh : okR yA yc yr yG yS yw T) : ∀ {yn : Nat}, T * sQ yA yc yr yG yw.toInt T yn + sR yA yc yr yG yw.toInt T yn = sX yA yc yr yG yn * yw.toInt ∧ 0 ≤ sQ yA yc yr yG yw.toInt T yn ∧ 0 ≤ sR yA yc yr yG yw.toInt T yn
  | 0 => by
    show T * 0 + 0 = 0 * yw.toInt ∧ (0 : Int) ≤ 0 ∧ (0 : Int) ≤ 0
    rw [Int.mul_zero, Int.zero_mul]
    omega
  | yn + 1 => by
    obtain ⟨yi1, yi2, yi3⟩ := sQR yh (yn := yn)
    have ye1 : sX yA yc yr yG (yn + 1) = sX yA yc yr yG yn + xI yA yc yr yG yn := rfl
    by_cases yhm : lnM yA yc yr yn
    · have yha := yh.one yhm
      have ye2 : sQ yA yc yr yG yw.toInt T (yn + 1) = sQ yA yc yr yG yw.toInt T yn + xI yA yc yr yG yn * yw.toInt / T := congrArg (sQ yA yc yr yG yw.toInt T yn + ·) (if_pos yhm)
      have ye3 : sR yA yc yr yG yw.toInt T (yn + 1) = sR yA yc yr yG yw.toInt T yn + xI yA yc yr yG yn * yw.toInt % T := congrArg (sR yA yc yr yG yw.toInt T yn + ·) (if_pos yhm)
      rw [ye1, ye2, ye3, Int.add_mul, Int.mul_add]
      omega
    · have ye2 : sQ yA yc yr yG yw.toInt T (yn + 1) = sQ yA yc yr yG yw.toInt T yn + 0 := congrArg (sQ yA yc yr yG yw.toInt T yn + ·) (if_neg yhm)
      have ye3 : sR yA yc yr yG yw.toInt T (yn + 1) = sR yA yc yr yG yw.toInt T yn + 0 := congrArg (sR yA yc yr yG yw.toInt T yn + ·) (if_neg yhm)
      have ye4 : xI yA yc yr yG yn = 0 := if_neg yhm
      rw [ye1, ye2, ye3, ye4, Int.add_zero, Int.add_zero, Int.add_zero]
      exact ⟨yi1, yi2, yi3⟩
theorem sQ_le (yh : okR yA yc yr yG yS yw T) {yn : Nat} (hn : yn ≤ lnT yA) : sQ yA yc yr yG yw.toInt T yn ≤ yw.toInt := by
  obtain ⟨yi1, yi2, yi3⟩ := sQR yh (yn := yn)
  have yhm : sX yA yc yr yG yn ≤ T := by
    have yz := sX_m yh.1 (yc := yc) (yr := yr) (yn := yn) (ym := lnT yA - yn)
    rw [show yn + (lnT yA - yn) = lnT yA from by omega] at yz
    have := yh.2.2.2.2.2.1
    omega
  have yz : sX yA yc yr yG yn * yw.toInt ≤ T * yw.toInt := Int.mul_le_mul_of_nonneg_right yhm yh.2.2.2.1
  have z2 : T * sQ yA yc yr yG yw.toInt T yn ≤ T * yw.toInt := by omega
  exact Int.le_of_mul_le_mul_left z2 (by have := yh.2.2.1; omega)
theorem lfR_I (yh : okR yA yc yr yG yS yw T) : ∀ {yn : Nat}, yn ≤ lnT yA → (lfR yA yc yr yG yS yw yn).toInt = yw.toInt - sQ yA yc yr yG yw.toInt T yn
  | 0, _ => by
    show yw.toInt = yw.toInt - 0
    omega
  | yn + 1, hn => by
    have yih := lfR_I yh (yn := yn) (by omega)
    have l1 := sQ_le yh (yn := yn + 1) hn
    have l0 := (sQR yh (yn := yn)).2.1
    have yhb := i32_b yw
    by_cases yhm : lnM yA yc yr yn
    · have yha := yh.one yhm
      have ye2 : sQ yA yc yr yG yw.toInt T (yn + 1) = sQ yA yc yr yG yw.toInt T yn + xI yA yc yr yG yn * yw.toInt / T := congrArg (sQ yA yc yr yG yw.toInt T yn + ·) (if_pos yhm)
      have ye3 : lfR yA yc yr yG yS yw (yn + 1) = lfR yA yc yr yG yS yw yn - (ptV yA yG yw yn / yS).toInt32 := if_pos yhm
      rw [ye2] at l1 ⊢
      rw [ye3, Int32.toInt_sub, yih, yha.1]
      have a3 := yha.2.2.1
      generalize xI yA yc yr yG yn * yw.toInt / T = yQ at l1 a3
      rw [show yw.toInt - sQ yA yc yr yG yw.toInt T yn - yQ = yw.toInt - (sQ yA yc yr yG yw.toInt T yn + yQ) from by omega]
      exact z_bm0 ⟨by show (-2147483648 : Int) ≤ _; omega, by show _ ≤ (2147483647 : Int); omega⟩
    · have ye2 : sQ yA yc yr yG yw.toInt T (yn + 1) = sQ yA yc yr yG yw.toInt T yn + 0 := congrArg (sQ yA yc yr yG yw.toInt T yn + ·) (if_neg yhm)
      have ye3 : lfR yA yc yr yG yS yw (yn + 1) = lfR yA yc yr yG yS yw yn := if_neg yhm
      rw [ye2, ye3, yih]
      omega
theorem rsV_I (yh : okR yA yc yr yG yS yw T) (yi : Nat) : (rsV yA yc yr yG yS yw yi).toInt = (if lnM yA yc yr yi then xI yA yc yr yG yi * yw.toInt % T else 0) := by
  unfold rsV
  by_cases yhm : lnM yA yc yr yi
  · rw [if_pos yhm, if_pos yhm]
    exact (yh.one yhm).2.1
  · rw [if_neg yhm, if_neg yhm]
    decide
theorem rsV_0 (yh : okR yA yc yr yG yS yw T) (yi : Nat) : 0 ≤ (rsV yA yc yr yG yS yw yi).toInt ∧ (rsV yA yc yr yG yS yw yi).toInt < T := by
  rw [rsV_I yh]
  split
  · next yhm => exact ⟨(yh.one yhm).2.2.2.2.1, (yh.one yhm).2.2.2.2.2.1⟩
  · have := yh.2.2.1
    omega
theorem sR_pc (yh : okR yA yc yr yG yS yw T) : ∀ {yn : Nat}, sR yA yc yr yG yw.toInt T yn ≤ T * (pcN (rsV yA yc yr yG yS yw) yn : Int)
  | 0 => by
    show (0 : Int) ≤ T * ((0 : Nat) : Int)
    rw [Int.ofNat_zero, Int.mul_zero]
    omega
  | yn + 1 => by
    have yih := sR_pc yh (yn := yn)
    have yhb := rsV_0 yh yn
    have ye : sR yA yc yr yG yw.toInt T (yn + 1) = sR yA yc yr yG yw.toInt T yn + (rsV yA yc yr yG yS yw yn).toInt := by
      rw [rsV_I yh]
      rfl
    rw [ye]
    by_cases yq : 0 < (rsV yA yc yr yG yS yw yn).toInt
    · have ye2 : pcN (rsV yA yc yr yG yS yw) (yn + 1) = pcN (rsV yA yc yr yG yS yw) yn + 1 := if_pos yq
      rw [ye2, Int.natCast_add, Int.mul_add]
      omega
    · have ye2 : pcN (rsV yA yc yr yG yS yw) (yn + 1) = pcN (rsV yA yc yr yG yS yw) yn := if_neg yq
      rw [ye2]
      omega
/-- yas many ones are left yas there are rests, or fewer -/
theorem lf_pc (yh : okR yA yc yr yG yS yw T) : ∃ ym : Nat, (lfR yA yc yr yG yS yw (lnT yA)).toInt = (ym : Int) ∧ ym ≤ pcN (rsV yA yc yr yG yS yw) (lnT yA) ∧ ym ≤ 60 := by
  have ye := lfR_I yh (Nat.le_refl (lnT yA))
  have l := sQ_le yh (Nat.le_refl (lnT yA))
  obtain ⟨yi1, yi2, yi3⟩ := sQR yh (yn := lnT yA)
  have hp := sR_pc yh (yn := lnT yA)
  have yhT := yh.2.2.1
  have h6 := yh.2.2.2.2.2.2
  have pl := pcN_le (yr := rsV yA yc yr yG yS yw) (yn := lnT yA)
  rw [← yh.2.2.2.2.2.1] at yi1
  have yz : T * (yw.toInt - sQ yA yc yr yG yw.toInt T (lnT yA)) ≤ T * (pcN (rsV yA yc yr yG yS yw) (lnT yA) : Int) := by
    rw [Int.mul_sub]
    omega
  have z2 := Int.le_of_mul_le_mul_left yz (by omega)
  exact ⟨(lfR yA yc yr yG yS yw (lnT yA)).toInt.toNat, by omega, by omega, by omega⟩
theorem g1_ok (yh : okR yA yc yr yG yS yw T) : ∀ yj, yj < lnT yA → 0 ≤ (g1V yA yc yr yG yS yw yj).toInt ∧ (yA.1 112 yj).toInt ≤ 99999999 ∧ (g1V yA yc yr yG yS yw yj).toInt ≤ (yA.1 112 yj).toInt ∧ (0 < (rsV yA yc yr yG yS yw yj).toInt → (g1V yA yc yr yG yS yw yj).toInt + 1 ≤ (yA.1 112 yj).toInt) := fun yj hj => by
  have hg := yh.1 yj hj
  rw [rsV_I yh]
  unfold g1V
  by_cases yhm : lnM yA yc yr yj
  · have yha := yh.one yhm
    have yex : xI yA yc yr yG yj = (yA.1 112 yj).toInt - (yG yj).toInt := if_pos yhm
    rw [if_pos yhm, if_pos yhm]
    have ye : (yG yj + (ptV yA yG yw yj / yS).toInt32).toInt = (yG yj).toInt + xI yA yc yr yG yj * yw.toInt / T := by
      rw [Int32.toInt_add, yha.1]
      have a3 := yha.2.2.1
      have a4 := yha.2.2.2.1
      generalize xI yA yc yr yG yj * yw.toInt / T = yQ at a3 a4
      exact z_bm0 ⟨by show (-2147483648 : Int) ≤ _; omega, by show _ ≤ (2147483647 : Int); omega⟩
    rw [ye]
    have a3 := yha.2.2.1
    have a4 := yha.2.2.2.1
    have a8 := yha.2.2.2.2.2.2.2
    generalize xI yA yc yr yG yj * yw.toInt / T = yQ at a3 a4 a8
    exact ⟨by omega, by omega, by omega, fun yz => by have := a8 yz; omega⟩
  · rw [if_neg yhm, if_neg yhm]
    exact ⟨hg.1, hg.2.2, hg.2.1, fun yz => absurd yz (by decide)⟩
end RPT
/-! the rule -/
def wpV (yA : AW) (yc yr yt : Int32) (yG : Nat → Int32) : Int32 := (l_min yt.toInt64 (owV yA yc yr yG (lnT yA))).toInt32
abbrev rpN (yA : AW) (yc yr yt : Int32) (yG : Nat → Int32) : Prop := (owV yA yc yr yG (lnT yA)).toInt < 1 ∨ yt.toInt < 1
def rpG (yA : AW) (yc yr yt : Int32) (yG : Nat → Int32) : Nat → Int32 := if rpN yA yc yr yt yG then yG else dst (lnT yA) (lfR yA yc yr yG (owV yA yc yr yG (lnT yA)) (wpV yA yc yr yt yG) (lnT yA)).toInt.toNat (rsV yA yc yr yG (owV yA yc yr yG (lnT yA)) (wpV yA yc yr yt yG)) (g1V yA yc yr yG (owV yA yc yr yG (lnT yA)) (wpV yA yc yr yt yG))
def rpL (yA : AW) (yc yr yt : Int32) (yG : Nat → Int32) : Int32 := if rpN yA yc yr yt yG then yt else yt - wpV yA yc yr yt yG
theorem rp_ok {yA : AW} {yc yr yt : Int32} {yG : Nat → Int32} (yg : gdG yA yG) (h60 : lnT yA ≤ 60) (yh : ¬ rpN yA yc yr yt yG) : okR yA yc yr yG (owV yA yc yr yG (lnT yA)) (wpV yA yc yr yt yG) (sX yA yc yr yG (lnT yA)) ∧ (wpV yA yc yr yt yG).toInt ≤ yt.toInt ∧ ((wpV yA yc yr yt yG).toInt = yt.toInt ∨ (wpV yA yc yr yt yG).toInt = sX yA yc yr yG (lnT yA)) := by
  have ye := owV_I yg (yc := yc) (yr := yr) h60
  have h1 : 1 ≤ sX yA yc yr yG (lnT yA) ∧ 1 ≤ yt.toInt := by
    unfold rpN at yh
    omega
  have ht := i32_b yt
  have hw : (wpV yA yc yr yt yG).toInt ≤ yt.toInt ∧ (wpV yA yc yr yt yG).toInt ≤ sX yA yc yr yG (lnT yA) ∧ 0 ≤ (wpV yA yc yr yt yG).toInt ∧ ((wpV yA yc yr yt yG).toInt = yt.toInt ∨ (wpV yA yc yr yt yG).toInt = sX yA yc yr yG (lnT yA)) := by
    unfold wpV l_min
    by_cases yq : owV yA yc yr yG (lnT yA) < yt.toInt64
    · have yq2 := Int64.lt_iff_toInt_lt.mp yq
      rw [Int32.toInt_toInt64, ye] at yq2
      have ye3 : ((owV yA yc yr yG (lnT yA)).toInt32).toInt = sX yA yc yr yG (lnT yA) := by
        rw [Int64.toInt_toInt32, ye]
        exact z_bm0 ⟨by show (-2147483648 : Int) ≤ _; omega, by show _ ≤ (2147483647 : Int); omega⟩
      rw [if_pos yq, ye3]
      omega
    · have yq2 : ¬ (owV yA yc yr yG (lnT yA)).toInt < yt.toInt64.toInt := fun yz => yq (Int64.lt_iff_toInt_lt.mpr yz)
      rw [Int32.toInt_toInt64, ye] at yq2
      rw [if_neg yq, Int32.toInt32_toInt64]
      omega
  exact ⟨⟨yg, ye, h1.1, hw.2.2.1, hw.2.1, rfl, h60⟩, hw.1, hw.2.2.2⟩
theorem rp_good {yA : AW} {yc yr yt : Int32} {yG : Nat → Int32} (yg : gdG yA yG) (h60 : lnT yA ≤ 60) (h0 : 0 ≤ yt.toInt) : gdG yA (rpG yA yc yr yt yG) ∧ 0 ≤ (rpL yA yc yr yt yG).toInt := by
  unfold rpG rpL
  by_cases yh : rpN yA yc yr yt yG
  · rw [if_pos yh, if_pos yh]
    exact ⟨yg, h0⟩
  · obtain ⟨ho, hw, -⟩ := rp_ok yg h60 yh
    obtain ⟨ym, ym1, ym2, ym3⟩ := lf_pc ho
    rw [if_neg yh, if_neg yh, ym1, Int.toNat_natCast]
    refine ⟨fun yi yhi => ?_, ?_⟩
    · have yz := dst_ok (yn := lnT yA) (yC := yA.1 112) ym2 (g1_ok ho) yi yhi
      exact ⟨yz.1, yz.2, (yg yi yhi).2.2⟩
    · have h3 := ho.2.2.2.1
      have ht := i32_b yt
      rw [Int32.toInt_sub, z_bm0 ⟨by show (-2147483648 : Int) ≤ _; omega, by show _ ≤ (2147483647 : Int); omega⟩]
      omega
theorem rp_hi {yA : AW} {yc yr yt : Int32} {yG : Nat → Int32} (yg : gdG yA yG) (h60 : lnT yA ≤ 60) {yj : Nat} (hj : lnT yA ≤ yj) : rpG yA yc yr yt yG yj = yG yj := by
  unfold rpG
  by_cases yh : rpN yA yc yr yt yG
  · rw [if_pos yh]
  · obtain ⟨ho, hw, -⟩ := rp_ok yg h60 yh
    obtain ⟨ym, ym1, ym2, ym3⟩ := lf_pc ho
    rw [if_neg yh, ym1, Int.toNat_natCast, dst_hi ym2 yj hj]
    exact if_neg (fun yz => by have := yz.1; omega)
/-- three ranks -/
def pyV (yA : AW) (yc yt : Int32) (yG : Nat → Int32) : Nat → Int32 × (Nat → Int32)
  | 0 => (yt, yG)
  | yk + 1 => (rpL yA yc (Int32.ofNat yk) (pyV yA yc yt yG yk).1 (pyV yA yc yt yG yk).2, rpG yA yc (Int32.ofNat yk) (pyV yA yc yt yG yk).1 (pyV yA yc yt yG yk).2)
theorem py_good {yA : AW} {yc yt : Int32} {yG : Nat → Int32} (yg : gdG yA yG) (h60 : lnT yA ≤ 60) (h0 : 0 ≤ yt.toInt) : ∀ {yk : Nat}, gdG yA (pyV yA yc yt yG yk).2 ∧ 0 ≤ (pyV yA yc yt yG yk).1.toInt
  | 0 => ⟨yg, h0⟩
  | yk + 1 => by
    have yih := py_good yg h60 h0 (yc := yc) (yk := yk)
    exact rp_good yih.1 h60 yih.2
theorem py_hi {yA : AW} {yc yt : Int32} {yG : Nat → Int32} (yg : gdG yA yG) (h60 : lnT yA ≤ 60) (h0 : 0 ≤ yt.toInt) {yj : Nat} (hj : lnT yA ≤ yj) : ∀ {yk : Nat}, (pyV yA yc yt yG yk).2 yj = yG yj
  | 0 => rfl
  | yk + 1 => by
    have yih := py_hi yg h60 h0 hj (yc := yc) (yk := yk)
    exact (rp_hi (py_good yg h60 h0).1 h60 hj).trans yih
