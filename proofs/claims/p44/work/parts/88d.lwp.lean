/-! PAIRS OVER COSTS, POINTS AND TEXTS TOGETHER -/
def Fe : zRF := Fc ++ (F14 ++ Ft)
def Are : zRA := Arc ++ ([] ++ Art)
def RXe0 (yA : AW) : Prop := RZl yA ∧ (RX14 yA ∧ RXt yA)
def RXe (yA : AW) : Prop := RXe0 yA ∧ R24 yA
def kR2 (ywr : zWr) : Bool := kpS S14 ywr && kRt ywr
theorem keep2 : Keeps (fun yA => RX14 yA ∧ RXt yA) kR2 := Keeps.and (Keeps.of RX14_s) RXt_keep
def wX (yp : zPr) : zWr := (c_get1 yp.1 0 yp.2.2.1).2.2.2
def wM (yp : zPr) : zWr := (c_get1 yp.2.1 69 yp.2.2.1).2.2.2
theorem up1 {yp : zPr} (yh : PairOK (RR Fc Arc RZl) yp) (yhc : c_rm yp = true) (ya1 : (ri_wr zZ (F14 ++ Ft) ([] ++ Art) (wX yp) && kR2 (wX yp)) = true) (a2 : (ri_wr zZ (F14 ++ Ft) ([] ++ Art) (wM yp) && kR2 (wM yp)) = true) (b1 : kpS S24 (wX yp) = true) (b2 : kpS S24 (wM yp) = true) : PairOK (RR Fe Are RXe) yp :=
  PairOK.ex0 (PairOK.ext (F1 := Fc) (F2 := F14 ++ Ft) (A1 := Arc) (A2 := [] ++ Art) yh yhc keep2 ya1 a2) yhc (Keeps.of R24_s) b1 b2
/-! LAW -/
theorem cl_mx {ym yv : Int32} (yhm : 0 < ym.toInt) : i_max 0 (i_min yv ym) = clM ym yv := by
  have z0 : (0 : Int32).toInt = 0 := by decide
  unfold i_max i_min clM
  by_cases yh : ym.toInt < yv.toInt
  · rw [if_pos (Int32.lt_iff_toInt_lt.mpr yh), if_pos (Int32.lt_iff_toInt_lt.mpr (by rw [z0]; exact yhm)), if_neg (by omega), if_pos yh]
  · rw [if_neg (fun yq => yh (Int32.lt_iff_toInt_lt.mp yq))]
    by_cases h0 : 0 < yv.toInt
    · rw [if_pos (Int32.lt_iff_toInt_lt.mpr (by rw [z0]; exact h0)), if_neg (by omega), if_neg yh]
    · rw [if_neg (fun yq => h0 (by have := Int32.lt_iff_toInt_lt.mp yq; omega))]
      by_cases h1 : yv.toInt < 0
      · rw [if_pos h1]
      · rw [if_neg h1, if_neg yh]
        exact i32_ext (by rw [z0]; omega)
theorem cl_eq {yu yv : Int32} (h1 : 1 ≤ yu.toInt) (h2 : yu.toInt ≤ 3) : clX yu yv = clM (if yu.toInt = 1 then 100 else 99999999) yv := by
  unfold clX
  rw [if_neg (by omega)]
  by_cases yh : yu.toInt = 1
  · rw [if_pos yh, if_pos yh]
    exact cl_mx (by decide)
  · rw [if_neg yh, if_neg yh]
    exact cl_mx (by decide)
theorem tab_eq {yu : Int32} (h1 : 1 ≤ yu.toInt) (h2 : yu.toInt ≤ 3) : x_tab 3 yu.toInt.toNat = (if yu.toInt = 1 then 30 else if yu.toInt = 2 then 0 else 99999999) := by
  rcases (by omega : yu.toInt = 1 ∨ yu.toInt = 2 ∨ yu.toInt = 3) with yh | yh | yh
  · rw [if_pos yh, yh]; rfl
  · rw [if_neg (by omega), if_pos yh, yh]; rfl
  · rw [if_neg (by omega), if_neg (by omega), yh]; rfl
/-- the lands of ya film are counted alike -/
theorem lnd_rel {yA : AW} (hA : okA yA) (hL : R34 yA) {yf : Int32} (h0 : 0 ≤ yf.toInt) (h1 : yf.toInt < 20) : bcX (yA.1 34 yf.toInt.toNat) = cnM (lnB yA yf (cT yA)) := by
  have yhT := (hA.fld (i := 69) (k := 31) (lo := 0) (hi := 150) (by decide +kernel))
  have ye := hL yf.toInt.toNat (by omega)
  rw [i32_of h0] at ye
  obtain ⟨ym, yhm⟩ := lnB_64 (yA := yA) (yf := yf) (cT yA) (fun yc yhc => hA.per (i := 90) (t := 0) (n := 1050) (j := 7 * yc + 2) (a := 0) (b := 0) (lo := 0) (hi := 5) (by rfl) (by unfold cT at yhc; omega) (by
    show (0, zZ.2.2.getD ((7 * yc + 2) % 7) (0, 0)) = ((0 : Nat), ((0 : Int), (5 : Int)))
    rw [show (7 * yc + 2) % 7 = 2 from by omega]
    decide +kernel))
  rw [ye, yhm]
  exact bc_cn ym
