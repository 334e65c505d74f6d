/-! LOANS REPAID: the rule -/
def lnT (yA : AW) : Nat := (yA.1 69 57).toInt.toNat
abbrev lnM (yA : AW) (yc yr : Int32) (yi : Nat) : Prop := yi < lnT yA ∧ (yA.1 111 yi).toInt = yc.toInt ∧ (yA.1 113 yi).toInt = yr.toInt
def lnX (yA : AW) (yG : Nat → Int32) (yi : Nat) : Int64 := (yA.1 112 yi - yG yi).toInt64
def ptV (yA : AW) (yG : Nat → Int32) (yw : Int32) (yi : Nat) : Int64 := lnX yA yG yi * yw.toInt64
/-- the first of the greatest -/
def bsI (yr : Nat → Int64) : Nat → Nat
  | 0 => 0
  | yi + 1 => if (yr (bsI yr yi)).toInt < (yr (yi + 1)).toInt then yi + 1 else bsI yr yi
def updJ (yg : Nat → Int64) (yn : Nat) (yv : Int64) : Nat → Int64 := fun yj => if yj = yn then yv else yg yj
def dst (yn : Nat) : Nat → (Nat → Int64) → (Nat → Int32) → (Nat → Int32)
  | 0, _, yG => yG
  | ym + 1, yr, yG => dst yn ym (updJ yr (bsI yr (yn - 1)) (Int64.ofNat 0)) (updF yG (bsI yr (yn - 1)) (yG (bsI yr (yn - 1)) + 1))
/-! the numbers -/
/-- loans are within what was lent -/
def gdG (yA : AW) (yG : Nat → Int32) : Prop := ∀ yi, yi < lnT yA → 0 ≤ (yG yi).toInt ∧ (yG yi).toInt ≤ (yA.1 112 yi).toInt ∧ (yA.1 112 yi).toInt ≤ 99999999
def xI (yA : AW) (yc yr : Int32) (yG : Nat → Int32) (yi : Nat) : Int := if lnM yA yc yr yi then (yA.1 112 yi).toInt - (yG yi).toInt else 0
def sX (yA : AW) (yc yr : Int32) (yG : Nat → Int32) : Nat → Int
  | 0 => 0
  | yn + 1 => sX yA yc yr yG yn + xI yA yc yr yG yn
theorem xI_b {yA : AW} {yc yr : Int32} {yG : Nat → Int32} (yg : gdG yA yG) (yi : Nat) : 0 ≤ xI yA yc yr yG yi ∧ xI yA yc yr yG yi ≤ 99999999 := by
  unfold xI
  split
  · next yh =>
    have := yg yi yh.1
    omega
  · omega
theorem lnX_I {yA : AW} {yc yr : Int32} {yG : Nat → Int32} (yg : gdG yA yG) {yi : Nat} (yh : lnM yA yc yr yi) : (lnX yA yG yi).toInt = xI yA yc yr yG yi := by
  have hg := yg yi yh.1
  have ye : xI yA yc yr yG yi = (yA.1 112 yi).toInt - (yG yi).toInt := if_pos yh
  unfold lnX
  rw [ye, Int32.toInt_toInt64, Int32.toInt_sub]
  exact z_bm0 ⟨by show (-2147483648 : Int) ≤ _; omega, by show _ ≤ (2147483647 : Int); omega⟩
theorem sX_b {yA : AW} {yc yr : Int32} {yG : Nat → Int32} (yg : gdG yA yG) : ∀ {yn : Nat}, 0 ≤ sX yA yc yr yG yn ∧ sX yA yc yr yG yn ≤ 99999999 * (yn : Int)
  | 0 => by
    show (0 : Int) ≤ 0 ∧ (0 : Int) ≤ 99999999 * ((0 : Nat) : Int)
    omega
  | yn + 1 => by
    have yih := sX_b yg (yc := yc) (yr := yr) (yn := yn)
    have yh := xI_b yg (yc := yc) (yr := yr) yn
    have ye : sX yA yc yr yG (yn + 1) = sX yA yc yr yG yn + xI yA yc yr yG yn := rfl
    rw [ye]
    omega
/-- one loan's part -/
theorem ptV_I {yA : AW} {yc yr : Int32} {yG : Nat → Int32} (yg : gdG yA yG) {yw : Int32} (hw : 0 ≤ yw.toInt) {yi : Nat} (yh : lnM yA yc yr yi) : (ptV yA yG yw yi).toInt = xI yA yc yr yG yi * yw.toInt ∧ 0 ≤ xI yA yc yr yG yi * yw.toInt ∧ xI yA yc yr yG yi * yw.toInt ≤ 99999999 * 2147483647 := by
  have hx := xI_b yg (yc := yc) (yr := yr) yi
  have h1 := i32_b yw
  have ya := Int.mul_le_mul hx.2 h1.2 hw (by omega)
  have yb := Int.mul_nonneg hx.1 hw
  refine ⟨?_, yb, ya⟩
  unfold ptV
  rw [Int64.toInt_mul, lnX_I yg yh, Int32.toInt_toInt64]
  generalize xI yA yc yr yG yi * yw.toInt = yP at ya yb
  exact z_bm1 ⟨by show (-9223372036854775808 : Int) ≤ _; omega, by show _ ≤ (9223372036854775807 : Int); omega⟩
theorem q_I {yP : Int64} {yS : Int64} {yx yW T : Int} (hP : yP.toInt = yx * yW) (yhS : yS.toInt = T) (yhT : 1 ≤ T) (hW : 0 ≤ yW) (hWT : yW ≤ T) (hx : 0 ≤ yx) (hx1 : yx ≤ 99999999) (hT9 : T ≤ 99999999 * 60) (yhb : yx * yW ≤ 99999999 * 2147483647) : (yP / yS).toInt32.toInt = yx * yW / T ∧ (yP - yP / yS * yS).toInt = yx * yW % T ∧ 0 ≤ yx * yW / T ∧ yx * yW / T ≤ yx ∧ 0 ≤ yx * yW % T ∧ yx * yW % T < T ∧ T * (yx * yW / T) + yx * yW % T = yx * yW ∧ (0 < yx * yW % T → yx * yW / T + 1 ≤ yx) := by
  have yp0 := Int.mul_nonneg hx hW
  have pT : yx * yW ≤ yx * T := Int.mul_le_mul_of_nonneg_left hWT hx
  obtain ⟨yQ, hQ⟩ : ∃ yQ, yx * yW / T = yQ := ⟨_, rfl⟩
  obtain ⟨yR, hR⟩ : ∃ yR, yx * yW % T = yR := ⟨_, rfl⟩
  have ye1 : T * yQ + yR = yx * yW := by
    rw [← hQ, ← hR]
    exact Int.mul_ediv_add_emod (yx * yW) T
  have q0 : 0 ≤ yQ := by
    rw [← hQ]
    exact Int.ediv_nonneg yp0 (by omega)
  have r0 : 0 ≤ yR := by
    rw [← hR]
    exact Int.emod_nonneg _ (by omega)
  have yr1 : yR < T := by
    rw [← hR]
    exact Int.emod_lt_of_pos _ (by omega)
  have qx : yQ ≤ yx := by
    have yz : T * yQ ≤ T * yx := by
      rw [Int.mul_comm T yx]
      omega
    exact Int.le_of_mul_le_mul_left yz (by omega)
  have qx2 : 0 < yR → yQ + 1 ≤ yx := fun hR0 => by
    have yz : T * yQ < T * yx := by
      rw [Int.mul_comm T yx]
      omega
    have := Int.lt_of_mul_lt_mul_left yz (by omega)
    omega
  have yd1 : (yP / yS).toInt = yQ := by
    rw [Int64.toInt_div, hP, yhS, Int.tdiv_eq_ediv_of_nonneg yp0, hQ]
    exact z_bm1 ⟨by show (-9223372036854775808 : Int) ≤ _; omega, by show _ ≤ (9223372036854775807 : Int); omega⟩
  have ym0 : 0 ≤ T * yQ := Int.mul_nonneg (by omega) q0
  have yd2 : (yP / yS * yS).toInt = T * yQ := by
    rw [Int64.toInt_mul, yd1, yhS, Int.mul_comm yQ T]
    exact z_bm1 ⟨by show (-9223372036854775808 : Int) ≤ _; omega, by show _ ≤ (9223372036854775807 : Int); omega⟩
  have yd3 : (yP - yP / yS * yS).toInt = yR := by
    rw [Int64.toInt_sub, hP, yd2, ← ye1]
    rw [show T * yQ + yR - T * yQ = yR from by omega]
    exact z_bm1 ⟨by show (-9223372036854775808 : Int) ≤ _; omega, by show _ ≤ (9223372036854775807 : Int); omega⟩
  have yd4 : (yP / yS).toInt32.toInt = yQ := by
    rw [Int64.toInt_toInt32, yd1]
    exact z_bm0 ⟨by show (-2147483648 : Int) ≤ _; omega, by show _ ≤ (2147483647 : Int); omega⟩
  rw [hQ, hR]
  exact ⟨yd4, yd3, q0, qx, r0, yr1, ye1, qx2⟩
section RPT
variable {yA : AW} {yc yr yw : Int32} {yG : Nat → Int32} {yS : Int64} {T : Int}
/-- what the numbers are like -/
def okR (yA : AW) (yc yr : Int32) (yG : Nat → Int32) (yS : Int64) (yw : Int32) (T : Int) : Prop := gdG yA yG ∧ yS.toInt = T ∧ 1 ≤ T ∧ 0 ≤ yw.toInt ∧ yw.toInt ≤ T ∧ T = sX yA yc yr yG (lnT yA) ∧ lnT yA ≤ 60
theorem okR.T9 (yh : okR yA yc yr yG yS yw T) : T ≤ 99999999 * 60 := by
  have := (sX_b yh.1 (yc := yc) (yr := yr) (yn := lnT yA)).2
  have := yh.2.2.2.2.2.1
  have := yh.2.2.2.2.2.2
  omega
theorem okR.one (yh : okR yA yc yr yG yS yw T) {yi : Nat} (yhm : lnM yA yc yr yi) : (ptV yA yG yw yi / yS).toInt32.toInt = xI yA yc yr yG yi * yw.toInt / T ∧ (ptV yA yG yw yi - ptV yA yG yw yi / yS * yS).toInt = xI yA yc yr yG yi * yw.toInt % T ∧ 0 ≤ xI yA yc yr yG yi * yw.toInt / T ∧ xI yA yc yr yG yi * yw.toInt / T ≤ xI yA yc yr yG yi ∧ 0 ≤ xI yA yc yr yG yi * yw.toInt % T ∧ xI yA yc yr yG yi * yw.toInt % T < T ∧ T * (xI yA yc yr yG yi * yw.toInt / T) + xI yA yc yr yG yi * yw.toInt % T = xI yA yc yr yG yi * yw.toInt ∧ (0 < xI yA yc yr yG yi * yw.toInt % T → xI yA yc yr yG yi * yw.toInt / T + 1 ≤ xI yA yc yr yG yi) := by
  have hp := ptV_I yh.1 yh.2.2.2.1 yhm
  have hx := xI_b yh.1 (yc := yc) (yr := yr) yi
  exact q_I hp.1 yh.2.1 yh.2.2.1 yh.2.2.2.1 yh.2.2.2.2.1 hx.1 hx.2 yh.T9 hp.2.2
end RPT
/-! the rule -/
