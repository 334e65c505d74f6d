/-! CAPS -/
/-! PRICES yOF LIKES -/
theorem h_likep {yp : zPr} (hp : yp.1 = 114 ∧ yp.2.1 = 183 ∧ yp.2.2.1 = 4) (yhc : c_rm yp = true) : PairOK (RR F19 Ar19 (fun yA => RX19 yA ∧ Rpr yA)) yp := by
  obtain ⟨yp1, yp2, yp3⟩ := hp
  refine pairK (D := on4 dLike) (E := on4 eLike) (by decide +kernel) (by decide +kernel) yhc (fun N yA yas _ hl => ?_) (fun N yA yas _ hl => ?_) (fun yA A1 A2 yas yx yy o1 _ _ hF hR hX hl ys1 ys2 => ?_)
  · rw [yp3] at hl
    obtain ⟨ya, yb, yc, yd, rfl⟩ := as4 hl
    rw [yp1]
    exact d_like N yA ya yb yc yd
  · rw [yp3] at hl
    obtain ⟨ya, yb, yc, yd, rfl⟩ := as4 hl
    rw [yp2]
    exact e_like N yA ya yb yc yd
  · rw [yp3] at hl
    obtain ⟨ya, yb, yc, yd, rfl⟩ := as4 hl
    obtain ⟨yr1, r2, r3, r4⟩ := k_like (ys := ya) (l := yb) (yd := yc) (yv := yd) o1 hF hR hX.1 ys1 ys2
    refine ⟨yr1, r2, ⟨r3, ?_⟩, fun _ => r4⟩
    have ye1 : ∀ yj, A1.1 97 yj = yA.1 97 yj := fun yj => by
      rcases ys1 with ⟨_, _, rfl⟩ | ⟨_, _, _, rfl⟩ | ⟨_, _, _, _, rfl⟩
      · rfl
      · rfl
      · unfold likX
        rw [uI_c (by decide), uI_c (by decide), uI_c (by decide), uI_c (by decide), uI_c (by decide), uI_c (by decide)]
    have yx1 : Rpr A1 := fun yj hj => by
      rw [ye1]
      exact hX.2 yj hj
    rcases ys2 with ⟨_, _, rfl⟩ | ⟨_, _, _, rfl⟩ | ⟨b1, _, _, _, rfl⟩
    · exact yx1
    · exact yx1
    · intro yj hj
      unfold likM
      rw [uI_c (by decide), uI_c (by decide), uI_row, uI_c (by decide), uI_c (by decide), uI_c (by decide)]
      by_cases ye : yj = (A1.1 69 37).toInt.toNat
      · rw [if_pos ye]
        have := b1.2.2.2.2.2.2.1
        omega
      · rw [if_neg ye]
        exact yx1 yj hj
/-! WORTHS HELD -/
theorem insG_ge : ∀ {yn : Nat} {yg : Nat → Int32} {yv : Int32}, (∀ yj, yj < yn → 0 ≤ (yg yj).toInt) → 0 ≤ yv.toInt → ∀ yj, yj < yn + 1 → 0 ≤ (insG yn yg yv yj).toInt
  | 0, yg, yv, _, hv, yj, hj => by
    have ye : yj = 0 := by omega
    rw [ye, insG_z, updF_h]
    exact hv
  | yn + 1, yg, yv, hg, hv, yj, hj => by
    rw [insG_s]
    split
    · by_cases yq : yj < yn + 1
      · refine insG_ge (yn := yn) (fun yi yhi => ?_) hv yj yq
        rw [updF_n (by omega)]
        exact hg yi (by omega)
      · have ye : yj = yn + 1 := by omega
        rw [insG_hi (yn := yn) (by omega), ye, updF_h]
        exact hg yn (by omega)
    · by_cases yq : yj = yn + 1
      · rw [yq, updF_h]
        exact hv
      · rw [updF_n yq]
        exact hg yj (by omega)
theorem gat_ge {yP : Nat → Bool} {yq yg : Nat → Int32} : ∀ {yn : Nat}, yn ≤ 120 → (∀ yj, yj < yn → 0 ≤ (yq yj).toInt) → ∃ ym : Nat, ym ≤ yn ∧ (gatS yP yq yg yn).2 = Int32.ofNat ym ∧ ∀ yj, yj < ym → 0 ≤ ((gatS yP yq yg yn).1 yj).toInt
  | 0, _, _ => ⟨0, Nat.le_refl 0, rfl, fun yj hj => absurd hj (Nat.not_lt_zero yj)⟩
  | yn + 1, hn, hq => by
    obtain ⟨ym, ym1, ym2, ym3⟩ := gat_ge (yn := yn) (yP := yP) (yq := yq) (yg := yg) (by omega) (fun yj hj => hq yj (by omega))
    have em : (Int32.ofNat ym).toInt.toNat = ym := by
      rw [i32_nat (by omega)]
      omega
    by_cases yh : yP yn = true
    · rw [gatS_1 yh]
      refine ⟨ym + 1, by omega, ?_, fun yj hj => ?_⟩
      · show (gatS yP yq yg yn).2 + 1 = _
        rw [ym2, on_succ]
      · show 0 ≤ (insG (gatS yP yq yg yn).2.toInt.toNat (gatS yP yq yg yn).1 (yq yn) yj).toInt
        rw [ym2, em]
        exact insG_ge ym3 (hq yn (by omega)) yj hj
    · have ye : gatS yP yq yg (yn + 1) = gatS yP yq yg yn := if_neg yh
      rw [ye]
      exact ⟨ym, by omega, ym2, ym3⟩
theorem mid_ge {yA : AW} (yg : Rgl yA) (hp : Rpr yA) (yc : Nat) (yk : Int32) : 0 ≤ (midV yA yc yk).toInt := by
  have gL := yg.ok.fld (i := 69) (k := 37) (lo := 0) (hi := 120) (by decide +kernel)
  obtain ⟨ym, ym1, ym2, ym3⟩ := gat_ge (yn := (yA.1 69 37).toInt.toNat) (yP := pM yA (Int32.ofNat yc) yk) (yq := yA.1 97) (yg := yA.1 116) (by omega) (fun yj hj => hp yj (by omega))
  have ye2 : (fndM yA (Int32.ofNat yc) yk).2 = Int32.ofNat ym := ym2
  have em : (Int32.ofNat ym).toInt = (ym : Int) := i32_nat (by omega)
  unfold midV
  split
  · decide
  · next yh =>
    rw [ye2, em] at yh
    have ye3 : (Int32.ofNat ym - 1).toInt = (ym : Int) - 1 := i_subx (by rw [em, show (1 : Int32).toInt = 1 from by decide]) (by omega) (by omega)
    have ye4 : ((Int32.ofNat ym - 1) / 2).toInt = ((ym : Int) - 1) / 2 := by
      rw [Int32.toInt_div_of_ne_right _ 2 (by decide), ye3, show (2 : Int32).toInt = 2 from by decide]
      exact Int.tdiv_eq_ediv_of_nonneg (by omega)
    rw [ye2, ye4]
    exact ym3 _ (by omega)
theorem kof_ge {yA : AW} (yg : Rgl yA) {yc : Nat} (yhc : yc < cT yA) (yk : Int32) : -99999 ≤ (kofM yA (Int32.ofNat yc) yk).toInt := by
  have h150 : yc < 150 := by have := yg.T; unfold cT at yhc; omega
  obtain ⟨ya, ya1, a2, a3, z0, z1, z2, z3, z4, z5, z6, z7, z8, z9, z10, z11, z12, yz13, yz14⟩ := yg.rz.1 yc yhc
  have r2 := yg.ok.cst 2 0 99999 h150 ya1 (by decide) (by rfl)
  have r12 := yg.ok.cst 12 0 99999 h150 ya1 (by decide) (by rfl)
  rw [z2] at r2
  rw [z12] at r12
  have ye : (Int32.ofNat yc).toInt.toNat = yc := by
    rw [i32_nat (by omega)]
    omega
  unfold kofM
  rw [ye]
  split
  · omega
  · split
    · omega
    · rw [i_subx rfl (by omega) (by omega)]
      omega
theorem fr_ge {yA : AW} (yg : Rgl yA) (hp : Rpr yA) {yc : Nat} (yhc : yc < cT yA) (yk : Int32) : -99999 ≤ (frV yA yc yk).toInt := by
  have yh := kof_ge yg yhc yk
  have h2 := mid_ge yg hp yc yk
  unfold frV
  split
  · exact yh
  · split
    · exact yh
    · omega
theorem cv_rg {yx yy yz : Int32} (hx0 : -99999 ≤ yx.toInt) (hx : yx.toInt ≤ 99999) (y0 : 0 ≤ yy.toInt) (y1 : yy.toInt ≤ 99999) (z0 : 0 ≤ yz.toInt) (z1 : yz.toInt ≤ 100) : -9999801 ≤ (((yx.toInt64 * yy.toInt64) / 1000 * yz.toInt64) / 100).toInt ∧ (((yx.toInt64 * yy.toInt64) / 1000 * yz.toInt64) / 100).toInt ≤ 9999801 := by
  have ea := Int.mul_le_mul_of_nonneg_right hx y0
  have eb := Int.mul_le_mul_of_nonneg_right hx0 y0
  have ye1 : (yx.toInt64 * yy.toInt64).toInt = yx.toInt * yy.toInt := by
    rw [Int64.toInt_mul, Int32.toInt_toInt64, Int32.toInt_toInt64]
    exact z_bm1 ⟨by show (-9223372036854775808 : Int) ≤ _; omega, by show _ ≤ (9223372036854775807 : Int); omega⟩
  generalize hP : yx.toInt * yy.toInt = yP at ea eb ye1
  have yt1 := tdv (yx := yP) (yb := 1000) (by omega)
  have ye2 : ((yx.toInt64 * yy.toInt64) / 1000).toInt = yP.tdiv 1000 := by
    rw [Int64.toInt_div, ye1, show (1000 : Int64).toInt = 1000 from by decide]
    exact z_bm1 ⟨by show (-9223372036854775808 : Int) ≤ _; omega, by show _ ≤ (9223372036854775807 : Int); omega⟩
  generalize hV : yP.tdiv 1000 = V at ye2 yt1
  have yv1 : V ≤ 9999801 := by omega
  have yv0 : -9999801 ≤ V := by
    rcases yt1 with yw | yw
    · omega
    · have ye : V = -((-yP) / 1000) := by
        rw [← hV, show yP = -(-yP) from by omega, Int.neg_tdiv, Int.tdiv_eq_ediv_of_nonneg (by omega), Int.neg_neg]
      omega
  have ec := Int.mul_le_mul_of_nonneg_right yv1 z0
  have ed := Int.mul_le_mul_of_nonneg_right yv0 z0
  have ye3 : ((yx.toInt64 * yy.toInt64) / 1000 * yz.toInt64).toInt = V * yz.toInt := by
    rw [Int64.toInt_mul, ye2, Int32.toInt_toInt64]
    exact z_bm1 ⟨by show (-9223372036854775808 : Int) ≤ _; omega, by show _ ≤ (9223372036854775807 : Int); omega⟩
  generalize yhM : V * yz.toInt = yM at ec ed ye3
  have ye4 : yM.tdiv 100 = if 0 ≤ yM then yM / 100 else -((-yM) / 100) := by
    split
    · exact Int.tdiv_eq_ediv_of_nonneg (by omega)
    · rw [show yM = -(-yM) from by omega, Int.neg_tdiv, Int.tdiv_eq_ediv_of_nonneg (by omega), Int.neg_neg]
  have ye5 : -9999801 ≤ yM.tdiv 100 ∧ yM.tdiv 100 ≤ 9999801 := by
    rw [ye4]
    split <;> omega
  have ye6 : (yM.tdiv 100).bmod (2 ^ 64) = yM.tdiv 100 := z_bm1 ⟨by show (-9223372036854775808 : Int) ≤ _; omega, by show _ ≤ (9223372036854775807 : Int); omega⟩
  rw [Int64.toInt_div, ye3, show (100 : Int64).toInt = 100 from by decide, ye6]
  exact ye5
theorem cvV_rg {yA : AW} (yg : Rgx yA) (hp : Rpr yA) {yc : Nat} (yhc : yc < cT yA) (yk : Int32) : -9999801 ≤ (cvV yA yc yk).toInt ∧ (cvV yA yc yk).toInt ≤ 9999801 := by
  have h150 : yc < 150 := by have := yg.gl.T; unfold cT at yhc; omega
  have gL := yg.gl.ok.per (i := 90) (n := 1050) (j := 7 * yc + 2) (a := 0) (b := 0) (lo := 0) (hi := 5) (t := 0) (by rfl) (by omega) (by
    show (0, zZ.2.2.getD ((7 * yc + 2) % 7) (0, 0)) = _
    rw [show (7 * yc + 2) % 7 = 2 by omega]
    rfl)
  have hw := cofM_rg yg.x4.2 (l := (yA.1 90 (7 * yc + 2))) (yd := (yA.1 90 (7 * yc + 3))) (by omega)
  have yhb := byV_01 (yA := yA) (yc := yc) (yk := yk)
  have yh : -9999801 ≤ (cvL yA yc yk).toInt ∧ (cvL yA yc yk).toInt ≤ 9999801 := cv_rg (fr_ge yg.gl hp yhc yk) (fr_le yg.gl yhc yk) hw.1 hw.2 yhb.1 yhb.2
  unfold cvV
  split
  · decide
  · rw [Int64.toInt_toInt32, z_bm0 ⟨by show (-2147483648 : Int) ≤ _; omega, by show _ ≤ (2147483647 : Int); omega⟩]
    exact yh
