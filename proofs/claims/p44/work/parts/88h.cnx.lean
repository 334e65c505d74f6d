/-! WHAT COUNTS yOF yA COST: the value, and the class -/
theorem okA.cst {yA : AW} (yh : okA yA) {yc ya : Nat} (yk : Nat) (ylo yhi : Int) (yhc : yc < 150) (hO : yA.2.2.1 31 yc = some ya) (hk : yk < 13) (hz : zZ.2.1[yk]? = some (0, ylo, yhi)) : ylo ≤ (yA.1 ya yk).toInt ∧ (yA.1 ya yk).toInt ≤ yhi := by
  obtain ⟨yw, hW, rfl⟩ := yh
  obtain ⟨yf, h1, -, h3⟩ := WI_arr hW (i := 31) (t := 3) (n := 150) (e := (3, 0, 0)) (by rfl)
  have h4 := h3 yc yhc
  rw [(aw_at h1).2.2.1] at hO
  have hv : m_el yf yc = .ref ya := by
    rcases yf with yf | yf | yf | yf | yf
    · exact absurd (show (none : Option Nat) = some ya from hO) (by intro yz; cases yz)
    · exact absurd (show (none : Option Nat) = some ya from hO) (by intro yz; cases yz)
    · exact absurd (show (none : Option Nat) = some ya from hO) (by intro yz; cases yz)
    · exact absurd (show (none : Option Nat) = some ya from hO) (by intro yz; cases yz)
    · have hO2 : yf yc = some ya := hO
      show m_opt yf yc = .ref ya
      unfold m_opt
      rw [hO2]
  rw [hv] at h4
  have h5 : (Value.ref ya) = .null ∨ ∃ yi, (Value.ref ya) = .ref yi ∧ wC yw yi := h4
  rcases h5 with h5 | ⟨yi, h5, h6⟩
  · cases h5
  · cases h5
    obtain ⟨fs, ye1, ye2, ye3⟩ := WI_cost hW h6
    have ye4 : fs[yk]? = some fs[yk] := List.getElem?_eq_getElem (by omega)
    obtain ⟨yx, yx1, yx2, x3⟩ : ∃ yx, fs[yk] = .int yx ∧ ylo ≤ yx.toInt ∧ yx.toInt ≤ yhi := ye3 yk _ _ hz ye4
    have : (aw yw).1 ya yk = yx := by
      rw [(aw_at ye1).1]
      show (match fs[yk]? with | some (.int yx) => yx | _ => 0) = yx
      rw [ye4, yx1]
    rw [this]
    exact ⟨yx2, x3⟩
/-- what yboth sides hold alike, yfor laws and counts -/
def Rgx (yA : AW) : Prop := (Rgl yA) ∧ (yA.1 38 7 = yA.1 69 45) ∧ ((yA.1 38 8).toInt < (yA.1 69 45).toInt) ∧ (yA.1 5 7 = yA.1 69 24) ∧ (∀ yi, yi < tT yA → txR yA yi) ∧ (eqRs Art yA) ∧ (R34 yA) ∧ (RX14 yA) ∧ (eqF F11 yA) ∧ (eqRs Ar11 yA) ∧ (eqRs Ar4 yA) ∧ (RX4d yA) ∧ (∀ yj, yj < 20 → yA.1 7 yj = yA.1 77 yj)
theorem Rgx.gl {yA : AW} (yh : Rgx yA) : Rgl yA := yh.1
theorem Rgx.f38 {yA : AW} (yh : Rgx yA) : yA.1 38 7 = yA.1 69 45 := yh.2.1
theorem Rgx.tr {yA : AW} (yh : Rgx yA) : (yA.1 38 8).toInt < (yA.1 69 45).toInt := yh.2.2.1
theorem Rgx.f57 {yA : AW} (yh : Rgx yA) : yA.1 5 7 = yA.1 69 24 := yh.2.2.2.1
theorem Rgx.tx {yA : AW} (yh : Rgx yA) : ∀ yi, yi < tT yA → txR yA yi := yh.2.2.2.2.1
theorem Rgx.rt {yA : AW} (yh : Rgx yA) : eqRs Art yA := yh.2.2.2.2.2.1
theorem Rgx.r34 {yA : AW} (yh : Rgx yA) : R34 yA := yh.2.2.2.2.2.2.1
theorem Rgx.r14 {yA : AW} (yh : Rgx yA) : RX14 yA := yh.2.2.2.2.2.2.2.1
theorem Rgx.F11 {yA : AW} (yh : Rgx yA) : eqF F11 yA := yh.2.2.2.2.2.2.2.2.1
theorem Rgx.R11 {yA : AW} (yh : Rgx yA) : eqRs Ar11 yA := yh.2.2.2.2.2.2.2.2.2.1
theorem Rgx.R4 {yA : AW} (yh : Rgx yA) : eqRs Ar4 yA := yh.2.2.2.2.2.2.2.2.2.2.1
theorem Rgx.x4 {yA : AW} (yh : Rgx yA) : RX4d yA := yh.2.2.2.2.2.2.2.2.2.2.2.1
theorem Rgx.r7 {yA : AW} (yh : Rgx yA) : ∀ yj, yj < 20 → yA.1 7 yj = yA.1 77 yj := yh.2.2.2.2.2.2.2.2.2.2.2.2
theorem Rgx.tT {yA : AW} (yg : Rgx yA) : 0 ≤ (yA.1 69 45).toInt ∧ (yA.1 69 45).toInt ≤ 20 := yg.gl.ok.fld (i := 69) (k := 45) (lo := 0) (hi := 20) (by decide +kernel)
theorem Rgx.tF {yA : AW} (yg : Rgx yA) : 0 ≤ (yA.1 69 11).toInt ∧ (yA.1 69 11).toInt ≤ 20 := yg.gl.ok.fld (i := 69) (k := 11) (lo := 0) (hi := 20) (by decide +kernel)
/-! values -/
def fnT (yA : AW) (yw yd yk : Int32) : Option Nat := ltG (gsT 102 (yA.1 38 8) yA yw yd yk) (tT yA)
noncomputable def dsOf (yA : AW) (yq : Nat) : List Int32 := Classical.epsilon (txD yA yq)
theorem dsOf_eq {yA : AW} {yq : Nat} {ds : List Int32} (yh : txD yA yq ds) : dsOf yA yq = ds := txD_one (Classical.epsilon_spec (p := txD yA yq) ⟨ds, yh⟩) yh
def fmE (yA : AW) (yf l yd yk : Int32) : Nat → Int32 := lwE yd (ptsM yA yf l yk) (yA.1 77 yf.toInt.toNat) (cnM (lnB yA yf (cT yA)))
/-- what the ytext that stands gives: nothing, if none stands -/
noncomputable def txO (yA : AW) (yw yd yk : Int32) (yenv : Nat → Int32) : Option (Option (Int32 × Nat)) := match fnT yA yw yd yk with
  | some yq => some (rnX yenv (dsOf yA yq) false [] 0)
  | none => none
theorem txO_0 {yA : AW} {yw yd yk : Int32} {yenv : Nat → Int32} (yh : fnT yA yw yd yk = none) : txO yA yw yd yk yenv = none := by
  unfold txO
  simp only [yh]
theorem txO_1 {yA : AW} {yw yd yk : Int32} {yenv : Nat → Int32} {yq : Nat} {ds : List Int32} (yh : fnT yA yw yd yk = some yq) (yhd : txD yA yq ds) : txO yA yw yd yk yenv = some (rnX yenv ds false [] 0) := by
  unfold txO
  simp only [yh]
  rw [dsOf_eq yhd]
noncomputable def lwV (yA : AW) (yu l yf yd yk : Int32) : Int32 := match txO yA (10 * l + yu) yd yk (fmE yA yf l yd yk) with
  | some yr => clX yu (rnV yr)
  | none => x_tab 3 yu.toInt.toNat
noncomputable def twV (yA : AW) (yc : Nat) (yk : Int32) : Int32 := lwV yA 4 (yA.1 90 (7 * yc + 2)) (yA.1 90 (7 * yc)) (yA.1 90 (7 * yc + 3)) yk
noncomputable def loV (yA : AW) (yc : Nat) (yk : Int32) : Int32 := @ite _ (toH (yA.1 89 yc)) (Classical.propDecidable _) (if (yA.1 73 (yA.1 90 (7 * yc + 4)).toInt.toNat).toInt = (yA.1 90 (7 * yc + 2)).toInt then 1 else 0) (livM yA (yA.1 90 (7 * yc + 4)) (yA.1 90 (7 * yc + 2)) (yA.1 90 (7 * yc + 3)) yk)
noncomputable def cnE (yA : AW) (yc : Nat) (yk : Int32) (yi : Nat) : Int32 := if yi = 0 then yA.1 89 yc else if yi = 1 then yA.1 90 (7 * yc + 6) else if yi = 2 then kofM yA (Int32.ofNat yc) yk else if yi = 3 then yA.1 90 (7 * yc + 1) else if yi = 4 then loV yA yc yk else if yi = 5 then rlV yA yc yk else fmE yA (yA.1 90 (7 * yc)) (yA.1 90 (7 * yc + 2)) (yA.1 90 (7 * yc + 3)) yk yi
theorem cnE_0 {yA : AW} {yc : Nat} {yk : Int32} : cnE yA yc yk 0 = yA.1 89 yc := by
  unfold cnE
  rw [if_pos rfl]
theorem cnE_1 {yA : AW} {yc : Nat} {yk : Int32} : cnE yA yc yk 1 = yA.1 90 (7 * yc + 6) := by
  unfold cnE
  rw [if_neg (by decide), if_pos rfl]
theorem cnE_2 {yA : AW} {yc : Nat} {yk : Int32} : cnE yA yc yk 2 = kofM yA (Int32.ofNat yc) yk := by
  unfold cnE
  rw [if_neg (by decide), if_neg (by decide), if_pos rfl]
theorem cnE_3 {yA : AW} {yc : Nat} {yk : Int32} : cnE yA yc yk 3 = yA.1 90 (7 * yc + 1) := by
  unfold cnE
  rw [if_neg (by decide), if_neg (by decide), if_neg (by decide), if_pos rfl]
theorem cnE_4 {yA : AW} {yc : Nat} {yk : Int32} : cnE yA yc yk 4 = loV yA yc yk := by
  unfold cnE
  rw [if_neg (by decide), if_neg (by decide), if_neg (by decide), if_neg (by decide), if_pos rfl]
theorem cnE_5 {yA : AW} {yc : Nat} {yk : Int32} : cnE yA yc yk 5 = rlV yA yc yk := by
  unfold cnE
  rw [if_neg (by decide), if_neg (by decide), if_neg (by decide), if_neg (by decide), if_neg (by decide), if_pos rfl]
noncomputable def huO (yA : AW) (yc : Nat) (yk : Int32) : Option (Option (Int32 × Nat)) := txO yA (10 * (yA.1 90 (7 * yc + 2)) + 0) (yA.1 90 (7 * yc + 3)) yk (cnE yA yc yk)
noncomputable def byV (yA : AW) (yc : Nat) (yk : Int32) : Int32 := match huO yA yc yk with
  | some yr => clM 100 (rnV yr)
  | none => 100
noncomputable def byL (yA : AW) (yc : Nat) (yk : Int32) : Int32 := match huO yA yc yk with
  | some yr => rnL yr
  | none => -1
noncomputable def cvL (yA : AW) (yc : Nat) (yk : Int32) : Int64 := (((frV yA yc yk).toInt64 * (cofM yA (yA.1 90 (7 * yc + 2)) (yA.1 90 (7 * yc + 3))).toInt64) / 1000 * (byV yA yc yk).toInt64) / 100
noncomputable def cvV (yA : AW) (yc : Nat) (yk : Int32) : Int32 := if (ltV yA yc yc).toInt ≠ 0 ∧ (twV yA yc yk).toInt = 0 then 0 else (cvL yA yc yk).toInt32
noncomputable def cvN (yA : AW) (yc : Nat) (yk : Int32) : Int32 := if (ltV yA yc yc).toInt ≠ 0 ∧ (twV yA yc yk).toInt = 0 then -1 else byL yA yc yk
theorem lwV_0 {yA : AW} {yu l yf yd yk : Int32} (yh : txO yA (10 * l + yu) yd yk (fmE yA yf l yd yk) = none) : lwV yA yu l yf yd yk = x_tab 3 yu.toInt.toNat := by
  unfold lwV
  simp only [yh]
theorem lwV_1 {yA : AW} {yu l yf yd yk : Int32} {yr : Option (Int32 × Nat)} (yh : txO yA (10 * l + yu) yd yk (fmE yA yf l yd yk) = some yr) : lwV yA yu l yf yd yk = clX yu (rnV yr) := by
  unfold lwV
  simp only [yh]
theorem by_0 {yA : AW} {yc : Nat} {yk : Int32} (yh : huO yA yc yk = none) : byV yA yc yk = 100 ∧ byL yA yc yk = -1 := ⟨by unfold byV; simp only [yh], by unfold byL; simp only [yh]⟩
theorem by_1 {yA : AW} {yc : Nat} {yk : Int32} {yr : Option (Int32 × Nat)} (yh : huO yA yc yk = some yr) : byV yA yc yk = clM 100 (rnV yr) ∧ byL yA yc yk = rnL yr := ⟨by unfold byV; simp only [yh], by unfold byL; simp only [yh]⟩
theorem clM_01 {yv : Int32} : 0 ≤ (clM 100 yv).toInt ∧ (clM 100 yv).toInt ≤ 100 := by
  have h100 : (100 : Int32).toInt = 100 := by decide
  have h0 : (0 : Int32).toInt = 0 := by decide
  unfold clM
  split
  · omega
  · split <;> omega
theorem byV_01 {yA : AW} {yc : Nat} {yk : Int32} : 0 ≤ (byV yA yc yk).toInt ∧ (byV yA yc yk).toInt ≤ 100 := by
  cases yh : huO yA yc yk with
  | none =>
    rw [(by_0 yh).1]
    decide
  | some yr =>
    rw [(by_1 yh).1]
    exact clM_01
theorem rlV_01 {yA : AW} {yc : Nat} {yk : Int32} : ((rlV yA yc yk).toInt = 0 → rlV yA yc yk = 0) ∧ ((rlV yA yc yk).toInt ≠ 0 → rlV yA yc yk = 1) := by
  by_cases yh : relP yA yc yk
  · rw [rlV_1 yh]
    exact ⟨fun yz => absurd yz (by decide), fun _ => rfl⟩
  · rw [rlV_0 yh]
    exact ⟨fun _ => rfl, fun yz => absurd (by decide) yz⟩
theorem loV_h {yA : AW} {yc : Nat} {yk : Int32} (yh : toH (yA.1 89 yc)) : loV yA yc yk = if (yA.1 73 (yA.1 90 (7 * yc + 4)).toInt.toNat).toInt = (yA.1 90 (7 * yc + 2)).toInt then 1 else 0 := @if_pos _ (Classical.propDecidable _) yh _ _ _
theorem loV_p {yA : AW} {yc : Nat} {yk : Int32} (yh : ¬ toH (yA.1 89 yc)) : loV yA yc yk = livM yA (yA.1 90 (7 * yc + 4)) (yA.1 90 (7 * yc + 2)) (yA.1 90 (7 * yc + 3)) yk := @if_neg _ (Classical.propDecidable _) yh _ _ _
theorem cofM_rg {yA : AW} (hw : RX4w yA) {l yd : Int32} (hL : l.toInt.toNat < 6) : 0 ≤ (cofM yA l yd).toInt ∧ (cofM yA l yd).toInt ≤ 99999 := by
  unfold cofM
  cases ye : bst (cnF yA 70 l.toInt.toNat) yd (yA.1 72 l.toInt.toNat).toInt.toNat with
  | none =>
    show 0 ≤ (1000 : Int32).toInt ∧ (1000 : Int32).toInt ≤ 99999
    decide
  | some yq => exact hw _ hL yq (bst_lt ye)
theorem tdv {yx yb : Int} (yhb : 0 < yb) : (0 ≤ yx ∧ 0 ≤ yx.tdiv yb ∧ yx.tdiv yb ≤ yx ∧ yx.tdiv yb * yb ≤ yx) ∨ (yx < 0 ∧ yx ≤ yx.tdiv yb ∧ yx.tdiv yb ≤ 0) := by
  by_cases yh : 0 ≤ yx
  · refine .inl ?_
    rw [Int.tdiv_eq_ediv_of_nonneg yh]
    exact ⟨yh, Int.ediv_nonneg yh (by omega), Int.ediv_le_self yb yh, Int.ediv_mul_le yx (by omega)⟩
  · refine .inr ?_
    have ye : yx.tdiv yb = -((-yx) / yb) := by
      rw [show yx = -(-yx) from by omega, Int.neg_tdiv, Int.tdiv_eq_ediv_of_nonneg (by omega), Int.neg_neg]
    have h1 := Int.ediv_le_self yb (a := -yx) (by omega)
    have h2 := Int.ediv_nonneg (a := -yx) (b := yb) (by omega) (by omega)
    rw [ye]
    omega
theorem cv_le {yx yy yz : Int32} (hx : yx.toInt ≤ 99999) (y0 : 0 ≤ yy.toInt) (y1 : yy.toInt ≤ 99999) (z0 : 0 ≤ yz.toInt) (z1 : yz.toInt ≤ 100) : (((yx.toInt64 * yy.toInt64) / 1000 * yz.toInt64) / 100).toInt ≤ 1999999999 := by
  have yx0 : -2147483648 ≤ yx.toInt := Int32.le_toInt yx
  have ea := Int.mul_le_mul_of_nonneg_right hx y0
  have eb := Int.mul_le_mul_of_nonneg_right yx0 y0
  have ye1 : (yx.toInt64 * yy.toInt64).toInt = yx.toInt * yy.toInt := by
    rw [Int64.toInt_mul, Int32.toInt_toInt64, Int32.toInt_toInt64]
    exact z_bm1 ⟨by show (-9223372036854775808 : Int) ≤ _; omega, by show _ ≤ (9223372036854775807 : Int); omega⟩
  generalize hP : yx.toInt * yy.toInt = yP at ea eb ye1
  have ye2 : ((yx.toInt64 * yy.toInt64) / 1000).toInt = yP.tdiv 1000 := by
    rw [Int64.toInt_div, ye1, show (1000 : Int64).toInt = 1000 from by decide]
    have := tdv (yx := yP) (yb := 1000) (by omega)
    exact z_bm1 ⟨by show (-9223372036854775808 : Int) ≤ _; omega, by show _ ≤ (9223372036854775807 : Int); omega⟩
  have yt1 := tdv (yx := yP) (yb := 1000) (by omega)
  generalize hV : yP.tdiv 1000 = V at ye2 yt1
  have yv1 : V ≤ 9999801 := by omega
  have yv0 : -214748364800000 ≤ V := by omega
  have ec := Int.mul_le_mul_of_nonneg_right yv1 z0
  have ed := Int.mul_le_mul_of_nonneg_right yv0 z0
  have ye3 : ((yx.toInt64 * yy.toInt64) / 1000 * yz.toInt64).toInt = V * yz.toInt := by
    rw [Int64.toInt_mul, ye2, Int32.toInt_toInt64]
    exact z_bm1 ⟨by show (-9223372036854775808 : Int) ≤ _; omega, by show _ ≤ (9223372036854775807 : Int); omega⟩
  generalize yhM : V * yz.toInt = yM at ec ed ye3
  have yt2 := tdv (yx := yM) (yb := 100) (by omega)
  rw [Int64.toInt_div, ye3, show (100 : Int64).toInt = 100 from by decide, z_bm1 ⟨by show (-9223372036854775808 : Int) ≤ _; omega, by show _ ≤ (9223372036854775807 : Int); omega⟩]
  omega
theorem kof_le {yA : AW} (yg : Rgl yA) {yc : Nat} (yhc : yc < cT yA) (yk : Int32) : (kofM yA (Int32.ofNat yc) yk).toInt ≤ 99999 := by
  have h150 : yc < 150 := by have := yg.T; unfold cT at yhc; omega
  obtain ⟨ya, ya1, a2, a3, z0, z1, z2, z3, z4, z5, z6, z7, z8, z9, z10, z11, z12, yz13, yz14⟩ := yg.rz.1 yc yhc
  have r2 := yg.ok.cst 2 0 99999 h150 ya1 (by decide) (by rfl)
  have r12 := yg.ok.cst 12 0 99999 h150 ya1 (by decide) (by rfl)
  rw [z2] at r2
  rw [z12] at r12
  have ye : (Int32.ofNat yc).toInt.toNat = yc := by
    rw [i32_nat (by omega)]
    omega
  unfold kofM
  rw [ye]
  split
  · exact r2.2
  · split
    · exact r2.2
    · rw [i_subx rfl (by omega) (by omega)]
      omega
theorem fr_le {yA : AW} (yg : Rgl yA) {yc : Nat} (yhc : yc < cT yA) (yk : Int32) : (frV yA yc yk).toInt ≤ 99999 := by
  have yh := kof_le yg yhc yk
  unfold frV
  split
  · exact yh
  · split
    · exact yh
    · omega
theorem cvL_le {yA : AW} (yg : Rgx yA) {yc : Nat} (yhc : yc < cT yA) (yk : Int32) : (cvL yA yc yk).toInt ≤ 1999999999 := by
  have h150 : yc < 150 := by have := yg.gl.T; unfold cT at yhc; omega
  have gL := yg.gl.ok.per (i := 90) (n := 1050) (j := 7 * yc + 2) (a := 0) (b := 0) (lo := 0) (hi := 5) (t := 0) (by rfl) (by omega) (by
    show (0, zZ.2.2.getD ((7 * yc + 2) % 7) (0, 0)) = _
    rw [show (7 * yc + 2) % 7 = 2 by omega]
    rfl)
  have hw := cofM_rg yg.x4.2 (l := (yA.1 90 (7 * yc + 2))) (yd := (yA.1 90 (7 * yc + 3))) (by omega)
  have yhb := byV_01 (yA := yA) (yc := yc) (yk := yk)
  exact cv_le (fr_le yg.gl yhc yk) hw.1 hw.2 yhb.1 yhb.2
/-! scratch worlds -/
theorem sc_fn {B9 yA yW : AW} (yg : Rgx yA) (hs : scX B9 yA yW) (yw yd yk : Int32) : ltG (gdX yW yw yd yk) (yW.1 38 7).toInt.toNat = fnT yA yw yd yk := by
  have gT := yg.tT
  have gt := yg.tr
  show ltG (gsT 40 (yW.1 38 8) yW yw yd yk) _ = ltG (gsT 102 (yA.1 38 8) yA yw yd yk) (yA.1 69 45).toInt.toNat
  rw [hs.2.2.1 8 (by decide) (by decide), hs.2.2.1 7 (by decide) (by decide), yg.f38]
  exact ltS_cg (by omega) (fun yj hj => ⟨(hs.1 40 yj (by decide)).trans (yg.rt (40, 102) (by simp [Art]) 20 (by decide +kernel) yj (by omega)), (hs.1 (40 + 1) yj (by decide)).trans (yg.rt (41, 103) (by simp [Art]) 20 (by decide +kernel) yj (by omega)), (hs.1 (40 + 2) yj (by decide)).trans (yg.rt (42, 104) (by simp [Art]) 20 (by decide +kernel) yj (by omega))⟩)
theorem sc_tx {B9 yA yW : AW} (hs : scX B9 yA yW) {yi : Nat} (yh : txR yA yi) : txR yW yi := by
  obtain ⟨ya, n', d', es, yr1, r2, r3, r4, yr5, r6, r7, r8, r9, r10⟩ := yh
  have ye : ∀ yc yj, scC yc → yW.1 yc yj = yA.1 yc yj := hs.1
  have ye2 := hs.2.2.2.1
  refine ⟨ya, n', d', es, by rw [ye2]; exact yr1, r2, by rw [ye2]; exact r3, by rw [ye 101 yi (by decide)]; exact r4, yr5, RT_cg (fun yj _ => (ye 100 _ (by decide)).symm) r6, r7, by rw [ye2]; exact r8, fun yj hj => ?_, fun yz => ?_⟩
  · rw [sc_row hs r2]
    exact r9 yj hj
  · rw [ye 43 yi (by decide)]
    exact r10 yz
theorem txD_cg {yA yW : AW} {yi : Nat} {ds : List Int32} (h1 : yW.1 101 yi = yA.1 101 yi) (h2 : ∀ yj, yW.1 100 yj = yA.1 100 yj) (yh : txD yA yi ds) : txD yW yi ds := by
  obtain ⟨yn, yd, b1, b2, b3⟩ := yh
  exact ⟨yn, yd, by rw [h1]; exact b1, b2, RT_cg (fun yj _ => (h2 _).symm) b3⟩
theorem sc_txD {B9 yA yW : AW} (hs : scX B9 yA yW) {yi : Nat} {ds : List Int32} : txD yW yi ds ↔ txD yA yi ds := by
  have ye1 : yW.1 101 yi = yA.1 101 yi := hs.1 101 yi (by decide)
  have ye2 : ∀ yj, yW.1 100 yj = yA.1 100 yj := fun yj => hs.1 100 yj (by decide)
  exact ⟨fun yh => txD_cg ye1.symm (fun yj => (ye2 yj).symm) yh, fun yh => txD_cg ye1 ye2 yh⟩
theorem sc_pts {B9 yA yW : AW} (yg : Rgx yA) (hs : scX B9 yA yW) {yf l yk : Int32} (hk : yk.toInt ≤ 3599) : ptsX yW yf l yk = ptsM yA yf l yk := by
  have g2 := yg.gl.ok.fld (i := 69) (k := 24) (lo := 0) (hi := 100) (by decide +kernel)
  rw [← pts_eq yg.r14 yg.f57 g2.2 hk]
  have ye : ∀ yc yj, 5 ≤ yc → yc ≤ 11 → yW.1 yc yj = yA.1 yc yj := fun yc yj yp1 yp2 => hs.1 yc yj ⟨by omega, by omega, by omega, by omega, by omega, by omega, by omega, by omega, by omega, by omega, by omega⟩
  unfold ptsX
  rw [ye 5 7 (by decide) (by decide)]
  refine sumN_congr (fun yj _ => ?_)
  unfold ptFX
  rw [ye 8 _ (by decide) (by decide), ye 9 _ (by decide) (by decide), ye 10 _ (by decide) (by decide), ye 11 _ (by decide) (by decide)]
theorem sc_env {B9 yA yW : AW} (yg : Rgx yA) (hs : scX B9 yA yW) {yf l yd yk : Int32} (h0 : 0 ≤ yf.toInt) (h1 : yf.toInt < 20) (hk : yk.toInt ≤ 3599) : lwE yd (ptsX yW yf l yk) (yW.1 7 yf.toInt.toNat) (bcX (yW.1 34 yf.toInt.toNat)) = fmE yA yf l yd yk := by
  unfold fmE
  rw [sc_pts yg hs hk, hs.1 7 _ (by decide), hs.1 34 _ (by decide), yg.r7 _ (by omega), lnd_rel yg.gl.ok yg.r34 h0 h1]
/-- the class's law in ya scratch world -/
theorem c_lawS {B9 yA yW : AW} (yg : Rgx yA) (hs : scX B9 yA yW) (yu l yf yd yk : Int32) (h0 : 0 ≤ yf.toInt) (h1 : yf.toInt < (yA.1 69 11).toInt) (hk : yk.toInt ≤ 3599) (N : Nat) : Pa N 15 0 [(0, .ref 46), (1, .int yu), (2, .int l), (3, .int yf), (4, .int yd), (5, .int yk)] [] yW (fun yv A1 => yv = some (.int (lwV yA yu l yf yd yk)) ∧ scX B9 yA A1 ∧ ∀ yj, A1.1 46 yj = yW.1 46 yj) := by
  have gT := yg.tT
  have gF := yg.tF
  have ye7 : yW.1 38 7 = yA.1 69 45 := by rw [hs.2.2.1 7 (by decide) (by decide), yg.f38]
  have e8 : (yW.1 38 8).toInt < (yW.1 38 7).toInt := by rw [hs.2.2.1 8 (by decide) (by decide), ye7]; exact yg.tr
  have e56 : yW.1 5 6 = yA.1 69 11 := by rw [hs.1 5 6 (by decide), yg.gl.f5]
  refine Pa.mono (c_lawOfT N yW yu l yf yd yk e8 (by rw [ye7]; omega) (by rw [ye7]; omega) (fun yi yhi => sc_tx hs (yg.tx yi (by rw [ye7] at yhi; exact yhi))) h0 (by rw [e56]; exact h1)) (fun yv A1 hv => ?_)
  obtain ⟨yx, rfl, hw, hx⟩ := hv
  refine ⟨?_, scX_lw hs hw, fun yj => lwW_c hw (by decide) (by decide) (by decide)⟩
  rw [sc_fn yg hs, Int32.mul_comm l 10] at hx
  rcases hx with ⟨ya1, a2⟩ | ⟨yq, ds, ya1, a2, a3⟩
  · rw [a2, lwV_0 (txO_0 ya1)]
  · rw [a3, sc_env yg hs h0 (by omega) hk, lwV_1 (txO_1 ya1 ((sc_txD hs).mp a2))]
/-! lives -/
theorem styG_2 {yA yW : AW} {yp yd yk : Int32} {yg yh : Nat → Int32} {cP cL ycS cT cD qP qL qS qT qD : Nat} (hg : ∀ yj, yj < 360 → yg yj = yh yj) : ∀ {yn : Nat}, (∀ ys, ys < yn → yW.1 cP ys = yA.1 qP ys ∧ yW.1 cL ys = yA.1 qL ys ∧ yW.1 ycS ys = yA.1 qS ys ∧ yW.1 cT ys = yA.1 qT ys ∧ yW.1 cD ys = yA.1 qD ys) → ∀ yj, yj < 360 → styG yW cP cL ycS cT cD yp yd yk yg yn yj = styG yA qP qL qS qT qD yp yd yk yh yn yj
  | 0, _, yj, hj => hg yj hj
  | yn + 1, hs, yj, hj => by
    have yih := styG_2 (yp := yp) (yd := yd) (yk := yk) hg (yn := yn) (fun ys hs' => hs ys (by omega)) yj hj
    obtain ⟨ye1, ye2, ye3, ye4, ye5⟩ := hs yn (by omega)
    unfold styG
    rw [ye1, ye2, ye3, ye4, ye5]
    split
    · unfold rngF
      split
      · rfl
      · exact yih
    · exact yih
theorem livX_S {B9 yA yW : AW} (yg : Rgx yA) (hs : scX B9 yA yW) {yp l yd yk : Int32} (h0 : 0 ≤ yp.toInt) (h1 : yp.toInt < (yA.1 69 13).toInt) : livX yW yp l yd yk = livM yA yp l yd yk := by
  have hA := yg.gl.ok
  have g1 := hA.fld (i := 69) (k := 13) (lo := 0) (hi := 60) (by decide +kernel)
  have g2 := hA.fld (i := 69) (k := 19) (lo := 0) (hi := 200) (by decide +kernel)
  have yf2 : yA.1 12 8 = yA.1 69 19 := yg.F11 ((12, 8), (69, 19)) (by simp [F11])
  have r0 : eqR 60 (13, 78) yA := yg.R11 (13, 78) (by simp [Ar11]) 60 (by decide +kernel)
  have yr1 : eqR 200 (14, 79) yA := yg.R11 (14, 79) (by simp [Ar11]) 200 (by decide +kernel)
  have r2 : eqR 200 (15, 80) yA := yg.R11 (15, 80) (by simp [Ar11]) 200 (by decide +kernel)
  have r3 : eqR 200 (16, 81) yA := yg.R11 (16, 81) (by simp [Ar11]) 200 (by decide +kernel)
  have r4 : eqR 200 (17, 82) yA := yg.R11 (17, 82) (by simp [Ar11]) 200 (by decide +kernel)
  have yr5 : eqR 200 (18, 83) yA := yg.R11 (18, 83) (by simp [Ar11]) 200 (by decide +kernel)
  have ye : ∀ yc yj, 12 ≤ yc → yc ≤ 18 → yW.1 yc yj = yA.1 yc yj := fun yc yj yp1 yp2 => hs.1 yc yj ⟨by omega, by omega, by omega, by omega, by omega, by omega, by omega, by omega, by omega, by omega, by omega⟩
  have hg : ∀ yj, yj < 360 → grdX yW yp yd yk yj = grdM yA yp yd yk yj := fun yj hj => by
   unfold grdX grdM
   rw [ye 12 8 (by decide) (by decide), yf2, ye 13 _ (by decide) (by decide), show yA.1 13 yp.toInt.toNat = yA.1 78 yp.toInt.toNat from r0 _ (by omega)]
   refine styG_2 (fun yj hj => ?_) (fun ys hs' => ⟨(ye 14 ys (by decide) (by decide)).trans (yr1 ys (by omega)), (ye 15 ys (by decide) (by decide)).trans (r2 ys (by omega)), (ye 16 ys (by decide) (by decide)).trans (r3 ys (by omega)), (ye 17 ys (by decide) (by decide)).trans (r4 ys (by omega)), (ye 18 ys (by decide) (by decide)).trans (yr5 ys (by omega))⟩) yj hj
   unfold fillF
   rw [if_pos hj, if_pos hj]
  unfold livX livM
  rw [cntL_eq hg]
theorem cof_S {B9 yA yW : AW} (yg : Rgx yA) (hs : scX B9 yA yW) {l yd : Int32} (h0 : 0 ≤ l.toInt) (h5 : l.toInt ≤ 5) (yd0 : 0 ≤ yd.toInt) (yd1 : yd.toInt ≤ 3599) : cR4 yW ∧ cofX yW l yd = cofM yA l yd := by
  have ye : ∀ yc, 21 ≤ yc → yc ≤ 23 → yW.1 yc = yA.1 yc := fun yc yp1 yp2 => funext fun yj => hs.1 yc yj ⟨by omega, by omega, by omega, by omega, by omega, by omega, by omega, by omega, by omega, by omega, by omega⟩
  have ye72 : yW.1 72 = yA.1 72 := funext fun yj => hs.1 72 yj (by decide)
  have hR := cR4_of yg.gl.ok yg.R4 yg.x4.1
  have c21 : cnF yW 21 = cnF yA 21 := by
    funext yL yj
    show yW.1 21 _ = yA.1 21 _
    rw [ye 21 (by decide) (by decide)]
  have c22 : cnF yW 22 = cnF yA 22 := by
    funext yL yj
    show yW.1 22 _ = yA.1 22 _
    rw [ye 22 (by decide) (by decide)]
  constructor
  · unfold cR4 at hR ⊢
    rw [c21, ye 23 (by decide) (by decide), ye72]
    exact hR
  · have yh := (k_coinOn (l := l) (yd := yd) (yx := cofX yA l yd) (yy := cofM yA l yd) (A1 := yA) (A2 := yA) yg.gl.ok yg.R4 yg.x4.1 ⟨rfl, .inr ⟨⟨h0, h5, yd0, yd1⟩, rfl⟩⟩ ⟨rfl, .inr ⟨⟨h0, h5, yd0, yd1⟩, rfl⟩⟩).2.2
    rw [← yh]
    unfold cofX
    rw [c21, c22, ye 23 (by decide) (by decide)]
/-- ranges of ya cost's yrow -/
theorem rw_rg {yA : AW} (yg : Rgl yA) {yc : Nat} (yhc : yc < 150) : (0 ≤ (yA.1 90 (7 * yc + 2)).toInt ∧ (yA.1 90 (7 * yc + 2)).toInt ≤ 5) ∧ (0 ≤ (yA.1 90 (7 * yc + 3)).toInt ∧ (yA.1 90 (7 * yc + 3)).toInt ≤ 3599) := by
  constructor
  · exact yg.ok.per (i := 90) (n := 1050) (j := 7 * yc + 2) (a := 0) (b := 0) (lo := 0) (hi := 5) (t := 0) (by rfl) (by omega) (by
      show (0, zZ.2.2.getD ((7 * yc + 2) % 7) (0, 0)) = _
      rw [show (7 * yc + 2) % 7 = 2 by omega]
      rfl)
  · exact yg.ok.per (i := 90) (n := 1050) (j := 7 * yc + 3) (a := 0) (b := 0) (lo := 0) (hi := 3599) (t := 0) (by rfl) (by omega) (by
      show (0, zZ.2.2.getD ((7 * yc + 3) % 7) (0, 0)) = _
      rw [show (7 * yc + 3) % 7 = 3 by omega]
      rfl)
/-! hundredths -/
theorem ev1_c5 {ye e' : Nat → Int32} (yh : ∀ yi, yi < 10 → yi ≠ 4 → ye yi = e' yi) (yst : List Int32) (yx : Int32) (hx : yx ≠ -5) : ev1 ye yst yx = ev1 e' yst yx := by
  have ym5 : (-5 : Int32).toInt = -5 := by decide
  have hx2 : yx.toInt ≠ -5 := fun yz => hx (i32_ext (by rw [ym5]; exact yz))
  unfold ev1
  by_cases h0 : 0 ≤ yx.toInt
  · rw [if_pos h0, if_pos h0]
  · rw [if_neg h0, if_neg h0]
    by_cases h1 : -10 ≤ yx.toInt
    · have ye1 : (-1 - yx).toInt = -1 - yx.toInt := i_subx (by rw [show (-1 : Int32).toInt = -1 from by decide]) (by omega) (by omega)
      rw [if_pos h1, if_pos h1, yh _ (by rw [ye1]; omega) (by rw [ye1]; omega)]
    · rw [if_neg h1, if_neg h1]
theorem rnX_c5 {ye e' : Nat → Int32} (yh : ∀ yi, yi < 10 → yi ≠ 4 → ye yi = e' yi) : ∀ (ds : List Int32), (∀ yx ∈ ds, yx ≠ -5) → ∀ (sk : Bool) (yst : List Int32) (ln : Nat), rnX ye ds sk yst ln = rnX e' ds sk yst ln
  | [], _, _, _, _ => rfl
  | yx :: yr, yhd, true, yst, ln => rnX_c5 yh yr (fun yy hy => yhd yy (List.mem_cons_of_mem _ hy)) _ yst ln
  | yx :: yr, yhd, false, yst, ln => by
    have hr : ∀ yy ∈ yr, yy ≠ -5 := fun yy hy => yhd yy (List.mem_cons_of_mem _ hy)
    show (if yx.toInt = -59 then some (yst.headD 0, ln) else if yx.toInt = -63 then (if (yst.headD 0).toInt = 0 then rnX ye yr true yst.tail (ln + 1) else rnX ye yr false yst.tail ln) else rnX ye yr false (ev1 ye yst yx) ln) = (if yx.toInt = -59 then some (yst.headD 0, ln) else if yx.toInt = -63 then (if (yst.headD 0).toInt = 0 then rnX e' yr true yst.tail (ln + 1) else rnX e' yr false yst.tail ln) else rnX e' yr false (ev1 e' yst yx) ln)
    rw [ev1_c5 yh _ _ (yhd yx List.mem_cons_self), rnX_c5 yh yr hr true, rnX_c5 yh yr hr false yst.tail, rnX_c5 yh yr hr false (ev1 e' yst yx)]
theorem tx_no5 {yA : AW} {yq : Nat} {ds : List Int32} (yh : txR yA yq) (yhd : txD yA yq ds) (hz : (yA.1 43 yq).toInt = 0) : ∀ yx ∈ ds, yx ≠ -5 := by
  obtain ⟨ya, yn, yd, es, yr1, r2, r3, r4, yr5, r6, r7, r8, r9, r10⟩ := yh
  have ye : es = ds := txD_one ⟨yn, yd, r4, yr5, r6⟩ yhd
  subst ye
  intro yx hx yz
  obtain ⟨yj, hj, ye⟩ := List.mem_iff_getElem.mp hx
  refine r10 ⟨yj, hj, ?_⟩ (i32_ext (by rw [hz]; decide))
  rw [List.getD_eq_getElem?_getD, List.getElem?_eq_getElem hj]
  show es[yj] = -5
  rw [ye, yz]
theorem clX_1 (yv : Int32) : i_max 0 (i_min yv 100) = clM 100 yv := by
  have yh := cl_eq (yu := 1) (yv := yv) (by decide) (by decide)
  unfold clX at yh
  rw [if_neg (by decide), if_pos (by decide), if_pos (by decide)] at yh
  exact yh
theorem bx_pff {N : Nat} {yA : AW} {yQ : Option Value → AW → Prop} (yf l yd yk : Int32)
    (l1 : yf.toInt < 0 → yQ none (uI (uI (uI (uI yA 44 6 (yd / 360)) 44 7 (ptsX yA yf l yk)) 44 8 0) 44 9 0))
    (l2 : 0 ≤ yf.toInt → (yA.1 5 6).toInt ≤ yf.toInt → yQ none (uI (uI (uI (uI yA 44 6 (yd / 360)) 44 7 (ptsX yA yf l yk)) 44 8 0) 44 9 0))
    (l3 : 0 ≤ yf.toInt → yf.toInt < (yA.1 5 6).toInt → yf.toInt < 20 → yQ none (uI (uI (uI (uI yA 44 6 (yd / 360)) 44 7 (ptsX yA yf l yk)) 44 8 (yA.1 7 yf.toInt.toNat)) 44 9 (bcX (yA.1 34 yf.toInt.toNat)))) :
    Pa N 14 0 [(0, .ref 46), (1, .int yf), (2, .int l), (3, .int yd), (4, .int yk)] [] yA yQ := by
  refine Pa.mp 1 (pc' := 1) (l' := [(0, .ref 46), (1, .int yf), (2, .int l), (3, .int yd), (4, .int yk)]) (st' := [.ref 46]) (by rfl) ?_
  refine Pa.gfR (by rfl) (by rfl) (.inl rfl) (by rfl) ?_
  show Pa N 14 4 [(0, .ref 46), (1, .int yf), (2, .int l), (3, .int yd), (4, .int yk)] [.ref 38] yA _
  refine Pa.gfR (by rfl) (by rfl) (.inr rfl) (by rfl) ?_
  show Pa N 14 7 [(0, .ref 46), (1, .int yf), (2, .int l), (3, .int yd), (4, .int yk)] [.ref 44] yA _
  refine Pa.ic (x := 6) (pc' := 9) (by rfl) (by rfl) (by decide) ?_
  refine Pa.mp 1 (pc' := 10) (l' := [(0, .ref 46), (1, .int yf), (2, .int l), (3, .int yd), (4, .int yk)]) (st' := [.int yd, .int 6, .ref 44]) (by rfl) ?_
  refine Pa.ic (x := 360) (pc' := 13) (by rfl) (by rfl) (by decide) ?_
  refine Pa.idiv (by rfl) ?_
  refine Pa.asts (j' := 6) (by rfl) (by rfl) (by rfl) (fun h1 h2 => ?_)
  show Pa N 14 15 [(0, .ref 46), (1, .int yf), (2, .int l), (3, .int yd), (4, .int yk)] [] (uI yA 44 6 (yd / 360)) _
  refine Pa.mp 1 (pc' := 16) (l' := [(0, .ref 46), (1, .int yf), (2, .int l), (3, .int yd), (4, .int yk)]) (st' := [.ref 46]) (by rfl) ?_
  refine Pa.gfR (by rfl) (by rfl) (.inl rfl) (by rfl) ?_
  show Pa N 14 19 [(0, .ref 46), (1, .int yf), (2, .int l), (3, .int yd), (4, .int yk)] [.ref 38] (uI yA 44 6 (yd / 360)) _
  refine Pa.gfR (by rfl) (by rfl) (.inr rfl) (by rfl) ?_
  show Pa N 14 22 [(0, .ref 46), (1, .int yf), (2, .int l), (3, .int yd), (4, .int yk)] [.ref 44] (uI yA 44 6 (yd / 360)) _
  refine Pa.ic (x := 7) (pc' := 24) (by rfl) (by rfl) (by decide) ?_
  refine Pa.mp 1 (pc' := 25) (l' := [(0, .ref 46), (1, .int yf), (2, .int l), (3, .int yd), (4, .int yk)]) (st' := [.ref 46, .int 7, .ref 44]) (by rfl) ?_
  refine Pa.gfR (by rfl) (by rfl) (.inl rfl) (by rfl) ?_
  show Pa N 14 28 [(0, .ref 46), (1, .int yf), (2, .int l), (3, .int yd), (4, .int yk)] [.ref 5, .int 7, .ref 44] (uI yA 44 6 (yd / 360)) _
  refine Pa.mp 3 (pc' := 32) (l' := [(0, .ref 46), (1, .int yf), (2, .int l), (3, .int yd), (4, .int yk)]) (st' := [.int yk, .int l, .int yf, .ref 5, .int 7, .ref 44]) (by rfl) ?_
  refine Pa.inv (by rfl) (by rfl) (.inr rfl) (by rfl) ?_
  refine Pa.mono (c_ptsW N yA (uI yA 44 6 (yd / 360)) yf l yk (by first | rfl | (repeat rw [uI_c (by decide)])) (fun _ => by first | rfl | (repeat rw [uI_c (by decide)])) (fun _ => by first | rfl | (repeat rw [uI_c (by decide)])) (fun _ => by first | rfl | (repeat rw [uI_c (by decide)])) (fun _ => by first | rfl | (repeat rw [uI_c (by decide)]))) (fun yu A1 hu => ?_)
  obtain ⟨rfl, hu⟩ := hu
  rw [hu]
  show Pa N 14 35 [(0, .ref 46), (1, .int yf), (2, .int l), (3, .int yd), (4, .int yk)] [.int (ptsX yA yf l yk), .int 7, .ref 44] (uI yA 44 6 (yd / 360)) _
  refine Pa.asts (j' := 7) (by rfl) (by rfl) (by rfl) (fun h3 h4 => ?_)
  show Pa N 14 36 [(0, .ref 46), (1, .int yf), (2, .int l), (3, .int yd), (4, .int yk)] [] (uI (uI yA 44 6 (yd / 360)) 44 7 (ptsX yA yf l yk)) _
  refine Pa.mp 1 (pc' := 37) (l' := [(0, .ref 46), (1, .int yf), (2, .int l), (3, .int yd), (4, .int yk)]) (st' := [.ref 46]) (by rfl) ?_
  refine Pa.gfR (by rfl) (by rfl) (.inl rfl) (by rfl) ?_
  show Pa N 14 40 [(0, .ref 46), (1, .int yf), (2, .int l), (3, .int yd), (4, .int yk)] [.ref 38] (uI (uI yA 44 6 (yd / 360)) 44 7 (ptsX yA yf l yk)) _
  refine Pa.gfR (by rfl) (by rfl) (.inr rfl) (by rfl) ?_
  show Pa N 14 43 [(0, .ref 46), (1, .int yf), (2, .int l), (3, .int yd), (4, .int yk)] [.ref 44] (uI (uI yA 44 6 (yd / 360)) 44 7 (ptsX yA yf l yk)) _
  refine Pa.ic (x := 8) (pc' := 45) (by rfl) (by rfl) (by decide) ?_
  refine Pa.mp 1 (pc' := 46) (l' := [(0, .ref 46), (1, .int yf), (2, .int l), (3, .int yd), (4, .int yk)]) (st' := [.ref 46, .int 8, .ref 44]) (by rfl) ?_
  refine Pa.gfR (by rfl) (by rfl) (.inl rfl) (by rfl) ?_
  show Pa N 14 49 [(0, .ref 46), (1, .int yf), (2, .int l), (3, .int yd), (4, .int yk)] [.ref 5, .int 8, .ref 44] (uI (uI yA 44 6 (yd / 360)) 44 7 (ptsX yA yf l yk)) _
  refine Pa.mp 1 (pc' := 50) (l' := [(0, .ref 46), (1, .int yf), (2, .int l), (3, .int yd), (4, .int yk)]) (st' := [.int yf, .ref 5, .int 8, .ref 44]) (by rfl) ?_
  refine Pa.inv (by rfl) (by rfl) (.inr rfl) (by rfl) ?_
  show Pa N 41 0 [(0, .ref 5), (1, .int yf)] [] (uI (uI yA 44 6 (yd / 360)) 44 7 (ptsX yA yf l yk)) _
  refine Pa.mp 1 (pc' := 1) (l' := [(0, .ref 5), (1, .int yf)]) (st' := [.int yf]) (by rfl) ?_
  refine Pa.if1 (a := yf.toInt) (t := 16) (by rfl) (by rfl) (rfl) (fun h5 => ?_) (fun h6 => ?_)
  · have h5 : yf.toInt < 0 := h5
    refine Pa.ic (x := 0) (pc' := 17) (by rfl) (by rfl) (by decide) ?_
    refine Pa.iret (by rfl) ?_
    show Pa N 14 53 [(0, .ref 46), (1, .int yf), (2, .int l), (3, .int yd), (4, .int yk)] [.int 0, .int 8, .ref 44] (uI (uI yA 44 6 (yd / 360)) 44 7 (ptsX yA yf l yk)) _
    refine Pa.if1k true (by rfl) (by rfl) (by decide) ?_
    show Pa N 14 68 [(0, .ref 46), (1, .int yf), (2, .int l), (3, .int yd), (4, .int yk)] [.int 8, .ref 44] (uI (uI yA 44 6 (yd / 360)) 44 7 (ptsX yA yf l yk)) _
    refine Pa.ic (x := 0) (pc' := 69) (by rfl) (by rfl) (by decide) ?_
    refine Pa.asts (j' := 8) (by rfl) (by rfl) (by rfl) (fun h7 h8 => ?_)
    show Pa N 14 70 [(0, .ref 46), (1, .int yf), (2, .int l), (3, .int yd), (4, .int yk)] [] (uI (uI (uI yA 44 6 (yd / 360)) 44 7 (ptsX yA yf l yk)) 44 8 0) _
    refine Pa.mp 1 (pc' := 71) (l' := [(0, .ref 46), (1, .int yf), (2, .int l), (3, .int yd), (4, .int yk)]) (st' := [.ref 46]) (by rfl) ?_
    refine Pa.gfR (by rfl) (by rfl) (.inl rfl) (by rfl) ?_
    show Pa N 14 74 [(0, .ref 46), (1, .int yf), (2, .int l), (3, .int yd), (4, .int yk)] [.ref 38] (uI (uI (uI yA 44 6 (yd / 360)) 44 7 (ptsX yA yf l yk)) 44 8 0) _
    refine Pa.gfR (by rfl) (by rfl) (.inr rfl) (by rfl) ?_
    show Pa N 14 77 [(0, .ref 46), (1, .int yf), (2, .int l), (3, .int yd), (4, .int yk)] [.ref 44] (uI (uI (uI yA 44 6 (yd / 360)) 44 7 (ptsX yA yf l yk)) 44 8 0) _
    refine Pa.ic (x := 9) (pc' := 79) (by rfl) (by rfl) (by decide) ?_
    refine Pa.mp 1 (pc' := 80) (l' := [(0, .ref 46), (1, .int yf), (2, .int l), (3, .int yd), (4, .int yk)]) (st' := [.ref 46, .int 9, .ref 44]) (by rfl) ?_
    refine Pa.gfR (by rfl) (by rfl) (.inl rfl) (by rfl) ?_
    show Pa N 14 83 [(0, .ref 46), (1, .int yf), (2, .int l), (3, .int yd), (4, .int yk)] [.ref 5, .int 9, .ref 44] (uI (uI (uI yA 44 6 (yd / 360)) 44 7 (ptsX yA yf l yk)) 44 8 0) _
    refine Pa.mp 1 (pc' := 84) (l' := [(0, .ref 46), (1, .int yf), (2, .int l), (3, .int yd), (4, .int yk)]) (st' := [.int yf, .ref 5, .int 9, .ref 44]) (by rfl) ?_
    refine Pa.inv (by rfl) (by rfl) (.inr rfl) (by rfl) ?_
    show Pa N 41 0 [(0, .ref 5), (1, .int yf)] [] (uI (uI (uI yA 44 6 (yd / 360)) 44 7 (ptsX yA yf l yk)) 44 8 0) _
    refine Pa.mp 1 (pc' := 1) (l' := [(0, .ref 5), (1, .int yf)]) (st' := [.int yf]) (by rfl) ?_
    refine Pa.if1 (a := yf.toInt) (t := 16) (by rfl) (by rfl) (rfl) (fun _ => ?_) (fun yh => (by exfalso; have h' : 0 ≤ yf.toInt := yh; omega))
    refine Pa.ic (x := 0) (pc' := 17) (by rfl) (by rfl) (by decide) ?_
    refine Pa.iret (by rfl) ?_
    show Pa N 14 87 [(0, .ref 46), (1, .int yf), (2, .int l), (3, .int yd), (4, .int yk)] [.int 0, .int 9, .ref 44] (uI (uI (uI yA 44 6 (yd / 360)) 44 7 (ptsX yA yf l yk)) 44 8 0) _
    refine Pa.if1k true (by rfl) (by rfl) (by decide) ?_
    show Pa N 14 105 [(0, .ref 46), (1, .int yf), (2, .int l), (3, .int yd), (4, .int yk)] [.int 9, .ref 44] (uI (uI (uI yA 44 6 (yd / 360)) 44 7 (ptsX yA yf l yk)) 44 8 0) _
    refine Pa.ic (x := 0) (pc' := 106) (by rfl) (by rfl) (by decide) ?_
    refine Pa.asts (j' := 9) (by rfl) (by rfl) (by rfl) (fun h10 h11 => ?_)
    show Pa N 14 107 [(0, .ref 46), (1, .int yf), (2, .int l), (3, .int yd), (4, .int yk)] [] (uI (uI (uI (uI yA 44 6 (yd / 360)) 44 7 (ptsX yA yf l yk)) 44 8 0) 44 9 0) _
    refine Pa.vret (by rfl) ?_
    exact l1 h5
  · have h6 : 0 ≤ yf.toInt := h6
    refine Pa.mp 2 (pc' := 6) (l' := [(0, .ref 5), (1, .int yf)]) (st' := [.ref 5, .int yf]) (by rfl) ?_
    refine Pa.gfI (v := yA.1 5 6) (by rfl) (by rfl) (.inl rfl) (by rfl) (by show (uI (uI yA 44 6 (yd / 360)) 44 7 (ptsX yA yf l yk)).1 5 6 = yA.1 5 6; rw [uI_c (by decide), uI_c (by decide)]) ?_
    refine Pa.if2 (a := yf.toInt) (b := (yA.1 5 6).toInt) (t := 16) (by rfl) (by rfl) (rfl) (rfl) (fun h12 => ?_) (fun h13 => ?_)
    · have h12 : (yA.1 5 6).toInt ≤ yf.toInt := h12
      refine Pa.ic (x := 0) (pc' := 17) (by rfl) (by rfl) (by decide) ?_
      refine Pa.iret (by rfl) ?_
      show Pa N 14 53 [(0, .ref 46), (1, .int yf), (2, .int l), (3, .int yd), (4, .int yk)] [.int 0, .int 8, .ref 44] (uI (uI yA 44 6 (yd / 360)) 44 7 (ptsX yA yf l yk)) _
      refine Pa.if1k true (by rfl) (by rfl) (by decide) ?_
      show Pa N 14 68 [(0, .ref 46), (1, .int yf), (2, .int l), (3, .int yd), (4, .int yk)] [.int 8, .ref 44] (uI (uI yA 44 6 (yd / 360)) 44 7 (ptsX yA yf l yk)) _
      refine Pa.ic (x := 0) (pc' := 69) (by rfl) (by rfl) (by decide) ?_
      refine Pa.asts (j' := 8) (by rfl) (by rfl) (by rfl) (fun h14 h15 => ?_)
      show Pa N 14 70 [(0, .ref 46), (1, .int yf), (2, .int l), (3, .int yd), (4, .int yk)] [] (uI (uI (uI yA 44 6 (yd / 360)) 44 7 (ptsX yA yf l yk)) 44 8 0) _
      refine Pa.mp 1 (pc' := 71) (l' := [(0, .ref 46), (1, .int yf), (2, .int l), (3, .int yd), (4, .int yk)]) (st' := [.ref 46]) (by rfl) ?_
      refine Pa.gfR (by rfl) (by rfl) (.inl rfl) (by rfl) ?_
      show Pa N 14 74 [(0, .ref 46), (1, .int yf), (2, .int l), (3, .int yd), (4, .int yk)] [.ref 38] (uI (uI (uI yA 44 6 (yd / 360)) 44 7 (ptsX yA yf l yk)) 44 8 0) _
      refine Pa.gfR (by rfl) (by rfl) (.inr rfl) (by rfl) ?_
      show Pa N 14 77 [(0, .ref 46), (1, .int yf), (2, .int l), (3, .int yd), (4, .int yk)] [.ref 44] (uI (uI (uI yA 44 6 (yd / 360)) 44 7 (ptsX yA yf l yk)) 44 8 0) _
      refine Pa.ic (x := 9) (pc' := 79) (by rfl) (by rfl) (by decide) ?_
      refine Pa.mp 1 (pc' := 80) (l' := [(0, .ref 46), (1, .int yf), (2, .int l), (3, .int yd), (4, .int yk)]) (st' := [.ref 46, .int 9, .ref 44]) (by rfl) ?_
      refine Pa.gfR (by rfl) (by rfl) (.inl rfl) (by rfl) ?_
      show Pa N 14 83 [(0, .ref 46), (1, .int yf), (2, .int l), (3, .int yd), (4, .int yk)] [.ref 5, .int 9, .ref 44] (uI (uI (uI yA 44 6 (yd / 360)) 44 7 (ptsX yA yf l yk)) 44 8 0) _
      refine Pa.mp 1 (pc' := 84) (l' := [(0, .ref 46), (1, .int yf), (2, .int l), (3, .int yd), (4, .int yk)]) (st' := [.int yf, .ref 5, .int 9, .ref 44]) (by rfl) ?_
      refine Pa.inv (by rfl) (by rfl) (.inr rfl) (by rfl) ?_
      show Pa N 41 0 [(0, .ref 5), (1, .int yf)] [] (uI (uI (uI yA 44 6 (yd / 360)) 44 7 (ptsX yA yf l yk)) 44 8 0) _
      refine Pa.mp 1 (pc' := 1) (l' := [(0, .ref 5), (1, .int yf)]) (st' := [.int yf]) (by rfl) ?_
      refine Pa.if1 (a := yf.toInt) (t := 16) (by rfl) (by rfl) (rfl) (fun yh => (by exfalso; have h' : yf.toInt < 0 := yh; omega)) (fun _ => ?_)
      refine Pa.mp 2 (pc' := 6) (l' := [(0, .ref 5), (1, .int yf)]) (st' := [.ref 5, .int yf]) (by rfl) ?_
      refine Pa.gfI (v := yA.1 5 6) (by rfl) (by rfl) (.inl rfl) (by rfl) (by show (uI (uI (uI yA 44 6 (yd / 360)) 44 7 (ptsX yA yf l yk)) 44 8 0).1 5 6 = yA.1 5 6; rw [uI_c (by decide), uI_c (by decide), uI_c (by decide)]) ?_
      refine Pa.if2 (a := yf.toInt) (b := (yA.1 5 6).toInt) (t := 16) (by rfl) (by rfl) (rfl) (rfl) (fun _ => ?_) (fun yh => (by exfalso; have h' : yf.toInt < (yA.1 5 6).toInt := yh; omega))
      refine Pa.ic (x := 0) (pc' := 17) (by rfl) (by rfl) (by decide) ?_
      refine Pa.iret (by rfl) ?_
      show Pa N 14 87 [(0, .ref 46), (1, .int yf), (2, .int l), (3, .int yd), (4, .int yk)] [.int 0, .int 9, .ref 44] (uI (uI (uI yA 44 6 (yd / 360)) 44 7 (ptsX yA yf l yk)) 44 8 0) _
      refine Pa.if1k true (by rfl) (by rfl) (by decide) ?_
      show Pa N 14 105 [(0, .ref 46), (1, .int yf), (2, .int l), (3, .int yd), (4, .int yk)] [.int 9, .ref 44] (uI (uI (uI yA 44 6 (yd / 360)) 44 7 (ptsX yA yf l yk)) 44 8 0) _
      refine Pa.ic (x := 0) (pc' := 106) (by rfl) (by rfl) (by decide) ?_
      refine Pa.asts (j' := 9) (by rfl) (by rfl) (by rfl) (fun h18 h19 => ?_)
      show Pa N 14 107 [(0, .ref 46), (1, .int yf), (2, .int l), (3, .int yd), (4, .int yk)] [] (uI (uI (uI (uI yA 44 6 (yd / 360)) 44 7 (ptsX yA yf l yk)) 44 8 0) 44 9 0) _
      refine Pa.vret (by rfl) ?_
      exact l2 h6 h12
    · have h13 : yf.toInt < (yA.1 5 6).toInt := h13
      refine Pa.ic (x := 1) (pc' := 13) (by rfl) (by rfl) (by decide) ?_
      refine Pa.mp 1 (pc' := 17) (l' := [(0, .ref 5), (1, .int yf)]) (st' := [.int 1]) (by rfl) ?_
      refine Pa.iret (by rfl) ?_
      show Pa N 14 53 [(0, .ref 46), (1, .int yf), (2, .int l), (3, .int yd), (4, .int yk)] [.int 1, .int 8, .ref 44] (uI (uI yA 44 6 (yd / 360)) 44 7 (ptsX yA yf l yk)) _
      refine Pa.if1k false (by rfl) (by rfl) (by decide) ?_
      show Pa N 14 56 [(0, .ref 46), (1, .int yf), (2, .int l), (3, .int yd), (4, .int yk)] [.int 8, .ref 44] (uI (uI yA 44 6 (yd / 360)) 44 7 (ptsX yA yf l yk)) _
      refine Pa.mp 1 (pc' := 57) (l' := [(0, .ref 46), (1, .int yf), (2, .int l), (3, .int yd), (4, .int yk)]) (st' := [.ref 46, .int 8, .ref 44]) (by rfl) ?_
      refine Pa.gfR (by rfl) (by rfl) (.inl rfl) (by rfl) ?_
      show Pa N 14 60 [(0, .ref 46), (1, .int yf), (2, .int l), (3, .int yd), (4, .int yk)] [.ref 5, .int 8, .ref 44] (uI (uI yA 44 6 (yd / 360)) 44 7 (ptsX yA yf l yk)) _
      refine Pa.gfR (by rfl) (by rfl) (.inr rfl) (by rfl) ?_
      show Pa N 14 63 [(0, .ref 46), (1, .int yf), (2, .int l), (3, .int yd), (4, .int yk)] [.ref 7, .int 8, .ref 44] (uI (uI yA 44 6 (yd / 360)) 44 7 (ptsX yA yf l yk)) _
      refine Pa.mp 1 (pc' := 64) (l' := [(0, .ref 46), (1, .int yf), (2, .int l), (3, .int yd), (4, .int yk)]) (st' := [.int yf, .ref 7, .int 8, .ref 44]) (by rfl) ?_
      refine Pa.alds (v := yA.1 7 yf.toInt.toNat) (by rfl) (by rfl) (by show (uI (uI yA 44 6 (yd / 360)) 44 7 (ptsX yA yf l yk)).1 7 yf.toInt.toNat = yA.1 7 yf.toInt.toNat; rw [uI_c (by decide), uI_c (by decide)]) (fun h20 h21 => ?_)
      have h20 : 0 ≤ yf.toInt := h20
      have h21 : yf.toInt < 20 := h21
      refine Pa.mp 1 (pc' := 69) (l' := [(0, .ref 46), (1, .int yf), (2, .int l), (3, .int yd), (4, .int yk)]) (st' := [.int (yA.1 7 yf.toInt.toNat), .int 8, .ref 44]) (by rfl) ?_
      refine Pa.asts (j' := 8) (by rfl) (by rfl) (by rfl) (fun h22 h23 => ?_)
      show Pa N 14 70 [(0, .ref 46), (1, .int yf), (2, .int l), (3, .int yd), (4, .int yk)] [] (uI (uI (uI yA 44 6 (yd / 360)) 44 7 (ptsX yA yf l yk)) 44 8 (yA.1 7 yf.toInt.toNat)) _
      refine Pa.mp 1 (pc' := 71) (l' := [(0, .ref 46), (1, .int yf), (2, .int l), (3, .int yd), (4, .int yk)]) (st' := [.ref 46]) (by rfl) ?_
      refine Pa.gfR (by rfl) (by rfl) (.inl rfl) (by rfl) ?_
      show Pa N 14 74 [(0, .ref 46), (1, .int yf), (2, .int l), (3, .int yd), (4, .int yk)] [.ref 38] (uI (uI (uI yA 44 6 (yd / 360)) 44 7 (ptsX yA yf l yk)) 44 8 (yA.1 7 yf.toInt.toNat)) _
      refine Pa.gfR (by rfl) (by rfl) (.inr rfl) (by rfl) ?_
      show Pa N 14 77 [(0, .ref 46), (1, .int yf), (2, .int l), (3, .int yd), (4, .int yk)] [.ref 44] (uI (uI (uI yA 44 6 (yd / 360)) 44 7 (ptsX yA yf l yk)) 44 8 (yA.1 7 yf.toInt.toNat)) _
      refine Pa.ic (x := 9) (pc' := 79) (by rfl) (by rfl) (by decide) ?_
      refine Pa.mp 1 (pc' := 80) (l' := [(0, .ref 46), (1, .int yf), (2, .int l), (3, .int yd), (4, .int yk)]) (st' := [.ref 46, .int 9, .ref 44]) (by rfl) ?_
      refine Pa.gfR (by rfl) (by rfl) (.inl rfl) (by rfl) ?_
      show Pa N 14 83 [(0, .ref 46), (1, .int yf), (2, .int l), (3, .int yd), (4, .int yk)] [.ref 5, .int 9, .ref 44] (uI (uI (uI yA 44 6 (yd / 360)) 44 7 (ptsX yA yf l yk)) 44 8 (yA.1 7 yf.toInt.toNat)) _
      refine Pa.mp 1 (pc' := 84) (l' := [(0, .ref 46), (1, .int yf), (2, .int l), (3, .int yd), (4, .int yk)]) (st' := [.int yf, .ref 5, .int 9, .ref 44]) (by rfl) ?_
      refine Pa.inv (by rfl) (by rfl) (.inr rfl) (by rfl) ?_
      show Pa N 41 0 [(0, .ref 5), (1, .int yf)] [] (uI (uI (uI yA 44 6 (yd / 360)) 44 7 (ptsX yA yf l yk)) 44 8 (yA.1 7 yf.toInt.toNat)) _
      refine Pa.mp 1 (pc' := 1) (l' := [(0, .ref 5), (1, .int yf)]) (st' := [.int yf]) (by rfl) ?_
      refine Pa.if1 (a := yf.toInt) (t := 16) (by rfl) (by rfl) (rfl) (fun yh => (by exfalso; have h' : yf.toInt < 0 := yh; omega)) (fun _ => ?_)
      refine Pa.mp 2 (pc' := 6) (l' := [(0, .ref 5), (1, .int yf)]) (st' := [.ref 5, .int yf]) (by rfl) ?_
      refine Pa.gfI (v := yA.1 5 6) (by rfl) (by rfl) (.inl rfl) (by rfl) (by show (uI (uI (uI yA 44 6 (yd / 360)) 44 7 (ptsX yA yf l yk)) 44 8 (yA.1 7 yf.toInt.toNat)).1 5 6 = yA.1 5 6; rw [uI_c (by decide), uI_c (by decide), uI_c (by decide)]) ?_
      refine Pa.if2 (a := yf.toInt) (b := (yA.1 5 6).toInt) (t := 16) (by rfl) (by rfl) (rfl) (rfl) (fun yh => (by exfalso; have h' : (yA.1 5 6).toInt ≤ yf.toInt := yh; omega)) (fun _ => ?_)
      refine Pa.ic (x := 1) (pc' := 13) (by rfl) (by rfl) (by decide) ?_
      refine Pa.mp 1 (pc' := 17) (l' := [(0, .ref 5), (1, .int yf)]) (st' := [.int 1]) (by rfl) ?_
      refine Pa.iret (by rfl) ?_
      show Pa N 14 87 [(0, .ref 46), (1, .int yf), (2, .int l), (3, .int yd), (4, .int yk)] [.int 1, .int 9, .ref 44] (uI (uI (uI yA 44 6 (yd / 360)) 44 7 (ptsX yA yf l yk)) 44 8 (yA.1 7 yf.toInt.toNat)) _
      refine Pa.if1k false (by rfl) (by rfl) (by decide) ?_
      show Pa N 14 90 [(0, .ref 46), (1, .int yf), (2, .int l), (3, .int yd), (4, .int yk)] [.int 9, .ref 44] (uI (uI (uI yA 44 6 (yd / 360)) 44 7 (ptsX yA yf l yk)) 44 8 (yA.1 7 yf.toInt.toNat)) _
      refine Pa.mp 1 (pc' := 91) (l' := [(0, .ref 46), (1, .int yf), (2, .int l), (3, .int yd), (4, .int yk)]) (st' := [.ref 46, .int 9, .ref 44]) (by rfl) ?_
      refine Pa.gfR (by rfl) (by rfl) (.inl rfl) (by rfl) ?_
      show Pa N 14 94 [(0, .ref 46), (1, .int yf), (2, .int l), (3, .int yd), (4, .int yk)] [.ref 30, .int 9, .ref 44] (uI (uI (uI yA 44 6 (yd / 360)) 44 7 (ptsX yA yf l yk)) 44 8 (yA.1 7 yf.toInt.toNat)) _
      refine Pa.gfR (by rfl) (by rfl) (.inr rfl) (by rfl) ?_
      show Pa N 14 97 [(0, .ref 46), (1, .int yf), (2, .int l), (3, .int yd), (4, .int yk)] [.ref 34, .int 9, .ref 44] (uI (uI (uI yA 44 6 (yd / 360)) 44 7 (ptsX yA yf l yk)) 44 8 (yA.1 7 yf.toInt.toNat)) _
      refine Pa.mp 1 (pc' := 98) (l' := [(0, .ref 46), (1, .int yf), (2, .int l), (3, .int yd), (4, .int yk)]) (st' := [.int yf, .ref 34, .int 9, .ref 44]) (by rfl) ?_
      refine Pa.alds (v := yA.1 34 yf.toInt.toNat) (by rfl) (by rfl) (by show (uI (uI (uI yA 44 6 (yd / 360)) 44 7 (ptsX yA yf l yk)) 44 8 (yA.1 7 yf.toInt.toNat)).1 34 yf.toInt.toNat = yA.1 34 yf.toInt.toNat; rw [uI_c (by decide), uI_c (by decide), uI_c (by decide)]) (fun h26 h27 => ?_)
      have h26 : 0 ≤ yf.toInt := h26
      have h27 : yf.toInt < 20 := h27
      refine Pa.ist (by rfl) (by rfl) (.inl rfl) (by rfl) (by rfl) ?_
      refine Pa.mono (c_bits N (uI (uI (uI yA 44 6 (yd / 360)) 44 7 (ptsX yA yf l yk)) 44 8 (yA.1 7 yf.toInt.toNat)) (yA.1 34 yf.toInt.toNat)) (fun yu A1 hu => ?_)
      obtain ⟨rfl, hu⟩ := hu
      rw [hu]
      show Pa N 14 102 [(0, .ref 46), (1, .int yf), (2, .int l), (3, .int yd), (4, .int yk)] [.int (bcX (yA.1 34 yf.toInt.toNat)), .int 9, .ref 44] (uI (uI (uI yA 44 6 (yd / 360)) 44 7 (ptsX yA yf l yk)) 44 8 (yA.1 7 yf.toInt.toNat)) _
      refine Pa.mp 1 (pc' := 106) (l' := [(0, .ref 46), (1, .int yf), (2, .int l), (3, .int yd), (4, .int yk)]) (st' := [.int (bcX (yA.1 34 yf.toInt.toNat)), .int 9, .ref 44]) (by rfl) ?_
      refine Pa.asts (j' := 9) (by rfl) (by rfl) (by rfl) (fun h28 h29 => ?_)
      show Pa N 14 107 [(0, .ref 46), (1, .int yf), (2, .int l), (3, .int yd), (4, .int yk)] [] (uI (uI (uI (uI yA 44 6 (yd / 360)) 44 7 (ptsX yA yf l yk)) 44 8 (yA.1 7 yf.toInt.toNat)) 44 9 (bcX (yA.1 34 yf.toInt.toNat))) _
      refine Pa.vret (by rfl) ?_
      exact l3 h6 h13 h21

theorem bx_hu0 {N : Nat} {yA : AW} {yQ : Option Value → AW → Prop} (ya : Nat) (yk : Int32)
    (l1 : Pa N 3 0 [(0, .ref 38), (1, .int (((yA.1 ya 6) * 10) + 0)), (2, .int (yA.1 ya 7)), (3, .int yk)] [] yA (fun yu A1 => Pa N 13 21 [(0, .ref 46), (1, .ref ya), (2, .int yk)] (yu.toList ++ []) A1 yQ)) :
    Pa N 13 0 [(0, .ref 46), (1, .ref ya), (2, .int yk)] [] yA yQ := by
  refine Pa.mp 1 (pc' := 1) (l' := [(0, .ref 46), (1, .ref ya), (2, .int yk)]) (st' := [.ref 46]) (by rfl) ?_
  refine Pa.gfR (by rfl) (by rfl) (.inl rfl) (by rfl) ?_
  show Pa N 13 4 [(0, .ref 46), (1, .ref ya), (2, .int yk)] [.ref 38] yA _
  refine Pa.mp 1 (pc' := 5) (l' := [(0, .ref 46), (1, .ref ya), (2, .int yk)]) (st' := [.ref ya, .ref 38]) (by rfl) ?_
  refine Pa.gfI (v := yA.1 ya 6) (by rfl) (by rfl) (.inr rfl) (by rfl) (by rfl) ?_
  refine Pa.ic (x := 10) (pc' := 10) (by rfl) (by rfl) (by decide) ?_
  refine Pa.mp 1 (pc' := 11) (l' := [(0, .ref 46), (1, .ref ya), (2, .int yk)]) (st' := [.int ((yA.1 ya 6) * 10), .ref 38]) (by rfl) ?_
  refine Pa.ic (x := 0) (pc' := 12) (by rfl) (by rfl) (by decide) ?_
  refine Pa.mp 2 (pc' := 14) (l' := [(0, .ref 46), (1, .ref ya), (2, .int yk)]) (st' := [.ref ya, .int (((yA.1 ya 6) * 10) + 0), .ref 38]) (by rfl) ?_
  refine Pa.gfI (v := yA.1 ya 7) (by rfl) (by rfl) (.inr rfl) (by rfl) (by rfl) ?_
  refine Pa.mp 1 (pc' := 18) (l' := [(0, .ref 46), (1, .ref ya), (2, .int yk)]) (st' := [.int yk, .int (yA.1 ya 7), .int (((yA.1 ya 6) * 10) + 0), .ref 38]) (by rfl) ?_
  refine Pa.inv (by rfl) (by rfl) (.inr rfl) (by rfl) ?_
  exact l1

theorem bx_hu1 {N : Nat} {yA : AW} {yQ : Option Value → AW → Prop} {ya : Nat} (yk yt : Int32) (yha : 129 ≤ ya)
    (l1 : 0 ≤ yt.toInt → Pa N 20 0 [(0, .ref ya), (1, .int yk)] [] (uI (uI yA 44 0 (yA.1 ya 1)) 44 1 (yA.1 ya 10)) (fun yu A1 => Pa N 13 65 [(0, .ref 46), (1, .ref ya), (2, .int yk), (3, .int yt), (4, .ref 44)] (yu.toList ++ [.int 2, .ref 44]) A1 yQ))
    (l2 : yt.toInt < 0 → yQ (some (.int (x_tab 3 0))) yA) :
    Pa N 13 21 [(0, .ref 46), (1, .ref ya), (2, .int yk)] [.int yt] yA yQ := by
  refine Pa.mp 2 (pc' := 23) (l' := [(3, .int yt), (0, .ref 46), (1, .ref ya), (2, .int yk)]) (st' := [.int yt]) (by rfl) ?_
  refine Pa.if1 (a := yt.toInt) (t := 32) (by rfl) (by rfl) (rfl) (fun h1 => ?_) (fun h2 => ?_)
  · have h1 : 0 ≤ yt.toInt := h1
    refine Pa.mp 1 (pc' := 33) (l' := [(3, .int yt), (0, .ref 46), (1, .ref ya), (2, .int yk)]) (st' := [.ref 46]) (by rfl) ?_
    refine Pa.gfR (by rfl) (by rfl) (.inl rfl) (by rfl) ?_
    show Pa N 13 36 [(3, .int yt), (0, .ref 46), (1, .ref ya), (2, .int yk)] [.ref 38] yA _
    refine Pa.gfR (by rfl) (by rfl) (.inr rfl) (by rfl) ?_
    show Pa N 13 39 [(3, .int yt), (0, .ref 46), (1, .ref ya), (2, .int yk)] [.ref 44] yA _
    refine Pa.mp 2 (pc' := 43) (l' := [(4, .ref 44), (3, .int yt), (0, .ref 46), (1, .ref ya), (2, .int yk)]) (st' := [.ref 44]) (by rfl) ?_
    refine Pa.ic (x := 0) (pc' := 44) (by rfl) (by rfl) (by decide) ?_
    refine Pa.mp 1 (pc' := 45) (l' := [(4, .ref 44), (3, .int yt), (0, .ref 46), (1, .ref ya), (2, .int yk)]) (st' := [.ref ya, .int 0, .ref 44]) (by rfl) ?_
    refine Pa.gfI (v := yA.1 ya 1) (by rfl) (by rfl) (.inr rfl) (by rfl) (by rfl) ?_
    refine Pa.asts (j' := 0) (by rfl) (by rfl) (by rfl) (fun h3 h4 => ?_)
    show Pa N 13 49 [(4, .ref 44), (3, .int yt), (0, .ref 46), (1, .ref ya), (2, .int yk)] [] (uI yA 44 0 (yA.1 ya 1)) _
    refine Pa.mp 1 (pc' := 51) (l' := [(4, .ref 44), (3, .int yt), (0, .ref 46), (1, .ref ya), (2, .int yk)]) (st' := [.ref 44]) (by rfl) ?_
    refine Pa.ic (x := 1) (pc' := 52) (by rfl) (by rfl) (by decide) ?_
    refine Pa.mp 1 (pc' := 53) (l' := [(4, .ref 44), (3, .int yt), (0, .ref 46), (1, .ref ya), (2, .int yk)]) (st' := [.ref ya, .int 1, .ref 44]) (by rfl) ?_
    refine Pa.gfI (v := yA.1 ya 10) (by rfl) (by rfl) (.inr rfl) (by rfl) (by show (uI yA 44 0 (yA.1 ya 1)).1 ya 10 = yA.1 ya 10; rw [uI_c (by omega)]) ?_
    refine Pa.asts (j' := 1) (by rfl) (by rfl) (by rfl) (fun h5 h6 => ?_)
    show Pa N 13 57 [(4, .ref 44), (3, .int yt), (0, .ref 46), (1, .ref ya), (2, .int yk)] [] (uI (uI yA 44 0 (yA.1 ya 1)) 44 1 (yA.1 ya 10)) _
    refine Pa.mp 1 (pc' := 59) (l' := [(4, .ref 44), (3, .int yt), (0, .ref 46), (1, .ref ya), (2, .int yk)]) (st' := [.ref 44]) (by rfl) ?_
    refine Pa.ic (x := 2) (pc' := 60) (by rfl) (by rfl) (by decide) ?_
    refine Pa.mp 2 (pc' := 62) (l' := [(4, .ref 44), (3, .int yt), (0, .ref 46), (1, .ref ya), (2, .int yk)]) (st' := [.int yk, .ref ya, .int 2, .ref 44]) (by rfl) ?_
    refine Pa.lv (l' := [(0, .ref 46), (1, .ref ya), (2, .int yk), (3, .int yt), (4, .ref 44)]) (lvS_c rfl (lvS_c rfl (lvS_c rfl (lvS_c rfl (lvS_c rfl (lvS_nil)))))) rfl ?_
    refine Pa.inv (by rfl) (by rfl) (.inr rfl) (by rfl) ?_
    exact l1 h1
  · have h2 : yt.toInt < 0 := h2
    refine Pa.cst (pc' := 29) (l' := [(3, .int yt), (0, .ref 46), (1, .ref ya), (2, .int yk)]) (st' := [.retAddr 3]) (by rfl) (fun _ _ _ => by rfl) ?_
    refine Pa.ic (x := 0) (pc' := 30) (by rfl) (by rfl) (by decide) ?_
    refine Pa.xld (v := x_tab 3 0) (by rfl) (by decide) (by rfl) (fun h7 => ?_)
    refine Pa.iret (by rfl) ?_
    exact l2 h2

theorem bx_hu2 {N : Nat} {yA : AW} {yQ : Option Value → AW → Prop} {ya : Nat} (yk yt yv : Int32) (yha : 129 ≤ ya)
    (l1 : Pa N 10 0 [(0, .ref 46), (1, .ref ya), (2, .int yk)] [] (uI (uI yA 44 2 yv) 44 3 (yA.1 ya 5)) (fun yu A1 => Pa N 13 83 [(0, .ref 46), (1, .ref ya), (2, .int yk), (3, .int yt), (4, .ref 44)] (yu.toList ++ [.int 5, .ref 44]) A1 yQ)) :
    Pa N 13 65 [(0, .ref 46), (1, .ref ya), (2, .int yk), (3, .int yt), (4, .ref 44)] [.int yv, .int 2, .ref 44] yA yQ := by
  refine Pa.asts (j' := 2) (by rfl) (by rfl) (by rfl) (fun h1 h2 => ?_)
  show Pa N 13 66 [(0, .ref 46), (1, .ref ya), (2, .int yk), (3, .int yt), (4, .ref 44)] [] (uI yA 44 2 yv) _
  refine Pa.mp 1 (pc' := 68) (l' := [(0, .ref 46), (1, .ref ya), (2, .int yk), (3, .int yt), (4, .ref 44)]) (st' := [.ref 44]) (by rfl) ?_
  refine Pa.ic (x := 3) (pc' := 69) (by rfl) (by rfl) (by decide) ?_
  refine Pa.mp 1 (pc' := 70) (l' := [(0, .ref 46), (1, .ref ya), (2, .int yk), (3, .int yt), (4, .ref 44)]) (st' := [.ref ya, .int 3, .ref 44]) (by rfl) ?_
  refine Pa.gfI (v := yA.1 ya 5) (by rfl) (by rfl) (.inr rfl) (by rfl) (by show (uI yA 44 2 yv).1 ya 5 = yA.1 ya 5; rw [uI_c (by omega)]) ?_
  refine Pa.asts (j' := 3) (by rfl) (by rfl) (by rfl) (fun h3 h4 => ?_)
  show Pa N 13 74 [(0, .ref 46), (1, .ref ya), (2, .int yk), (3, .int yt), (4, .ref 44)] [] (uI (uI yA 44 2 yv) 44 3 (yA.1 ya 5)) _
  refine Pa.mp 1 (pc' := 76) (l' := [(0, .ref 46), (1, .ref ya), (2, .int yk), (3, .int yt), (4, .ref 44)]) (st' := [.ref 44]) (by rfl) ?_
  refine Pa.ic (x := 5) (pc' := 77) (by rfl) (by rfl) (by decide) ?_
  refine Pa.mp 3 (pc' := 80) (l' := [(0, .ref 46), (1, .ref ya), (2, .int yk), (3, .int yt), (4, .ref 44)]) (st' := [.int yk, .ref ya, .ref 46, .int 5, .ref 44]) (by rfl) ?_
  refine Pa.inv (by rfl) (by rfl) (.inl rfl) (by rfl) ?_
  exact l1

theorem bx_hu3 {N : Nat} {yA : AW} {yQ : Option Value → AW → Prop} {ya : Nat} (yk yt yx : Int32) (yha : 129 ≤ ya)
    (l1 : yx.toInt = 0 → (yA.1 ya 3).toInt = 0 → 0 ≤ yt.toInt → yt.toInt < 20 → (yA.1 43 yt.toInt.toNat).toInt = 0 → Pa N 14 0 [(0, .ref 46), (1, .int (yA.1 ya 4)), (2, .int (yA.1 ya 6)), (3, .int (yA.1 ya 7)), (4, .int yk)] [] (uI yA 44 5 0) (fun yu A1 => Pa N 13 190 [(0, .ref 46), (1, .ref ya), (2, .int yk), (3, .int yt), (4, .ref 44)] (yu.toList ++ []) A1 yQ))
    (l2 : yx.toInt = 0 → (yA.1 ya 3).toInt = 0 → 0 ≤ yt.toInt → yt.toInt < 20 → (yA.1 43 yt.toInt.toNat).toInt ≠ 0 → Pa N 59 0 [(0, .ref 12), (1, .int (yA.1 ya 8)), (2, .int (yA.1 ya 6)), (3, .int (yA.1 ya 7)), (4, .int yk)] [] (uI yA 44 5 0) (fun yu A1 => Pa N 13 164 [(0, .ref 46), (1, .ref ya), (2, .int yk), (3, .int yt), (4, .ref 44)] (yu.toList ++ [.int 4, .ref 44]) A1 yQ))
    (l3 : yx.toInt = 0 → (yA.1 ya 3).toInt ≠ 0 → (yA.1 ya 8).toInt < 0 → Pa N 14 0 [(0, .ref 46), (1, .int (yA.1 ya 4)), (2, .int (yA.1 ya 6)), (3, .int (yA.1 ya 7)), (4, .int yk)] [] (uI (uI yA 44 5 0) 44 4 0) (fun yu A1 => Pa N 13 190 [(0, .ref 46), (1, .ref ya), (2, .int yk), (3, .int yt), (4, .ref 44)] (yu.toList ++ []) A1 yQ))
    (l4 : yx.toInt = 0 → (yA.1 ya 3).toInt ≠ 0 → 0 ≤ (yA.1 ya 8).toInt → (yA.1 1 3).toInt ≤ (yA.1 ya 8).toInt → Pa N 14 0 [(0, .ref 46), (1, .int (yA.1 ya 4)), (2, .int (yA.1 ya 6)), (3, .int (yA.1 ya 7)), (4, .int yk)] [] (uI (uI yA 44 5 0) 44 4 0) (fun yu A1 => Pa N 13 190 [(0, .ref 46), (1, .ref ya), (2, .int yk), (3, .int yt), (4, .ref 44)] (yu.toList ++ []) A1 yQ))
    (l5 : yx.toInt = 0 → (yA.1 ya 3).toInt ≠ 0 → 0 ≤ (yA.1 ya 8).toInt → (yA.1 ya 8).toInt < (yA.1 1 3).toInt → (yA.1 ya 8).toInt < 20 → (yA.1 2 ((yA.1 ya 8).toInt.toNat)).toInt ≠ (yA.1 ya 6).toInt → Pa N 14 0 [(0, .ref 46), (1, .int (yA.1 ya 4)), (2, .int (yA.1 ya 6)), (3, .int (yA.1 ya 7)), (4, .int yk)] [] (uI (uI yA 44 5 0) 44 4 0) (fun yu A1 => Pa N 13 190 [(0, .ref 46), (1, .ref ya), (2, .int yk), (3, .int yt), (4, .ref 44)] (yu.toList ++ []) A1 yQ))
    (l6 : yx.toInt = 0 → (yA.1 ya 3).toInt ≠ 0 → 0 ≤ (yA.1 ya 8).toInt → (yA.1 ya 8).toInt < (yA.1 1 3).toInt → (yA.1 ya 8).toInt < 20 → (yA.1 2 ((yA.1 ya 8).toInt.toNat)).toInt = (yA.1 ya 6).toInt → Pa N 14 0 [(0, .ref 46), (1, .int (yA.1 ya 4)), (2, .int (yA.1 ya 6)), (3, .int (yA.1 ya 7)), (4, .int yk)] [] (uI (uI yA 44 5 0) 44 4 1) (fun yu A1 => Pa N 13 190 [(0, .ref 46), (1, .ref ya), (2, .int yk), (3, .int yt), (4, .ref 44)] (yu.toList ++ []) A1 yQ))
    (l7 : yx.toInt ≠ 0 → (yA.1 ya 3).toInt = 0 → 0 ≤ yt.toInt → yt.toInt < 20 → (yA.1 43 yt.toInt.toNat).toInt = 0 → Pa N 14 0 [(0, .ref 46), (1, .int (yA.1 ya 4)), (2, .int (yA.1 ya 6)), (3, .int (yA.1 ya 7)), (4, .int yk)] [] (uI yA 44 5 1) (fun yu A1 => Pa N 13 190 [(0, .ref 46), (1, .ref ya), (2, .int yk), (3, .int yt), (4, .ref 44)] (yu.toList ++ []) A1 yQ))
    (l8 : yx.toInt ≠ 0 → (yA.1 ya 3).toInt = 0 → 0 ≤ yt.toInt → yt.toInt < 20 → (yA.1 43 yt.toInt.toNat).toInt ≠ 0 → Pa N 59 0 [(0, .ref 12), (1, .int (yA.1 ya 8)), (2, .int (yA.1 ya 6)), (3, .int (yA.1 ya 7)), (4, .int yk)] [] (uI yA 44 5 1) (fun yu A1 => Pa N 13 164 [(0, .ref 46), (1, .ref ya), (2, .int yk), (3, .int yt), (4, .ref 44)] (yu.toList ++ [.int 4, .ref 44]) A1 yQ))
    (l9 : yx.toInt ≠ 0 → (yA.1 ya 3).toInt ≠ 0 → (yA.1 ya 8).toInt < 0 → Pa N 14 0 [(0, .ref 46), (1, .int (yA.1 ya 4)), (2, .int (yA.1 ya 6)), (3, .int (yA.1 ya 7)), (4, .int yk)] [] (uI (uI yA 44 5 1) 44 4 0) (fun yu A1 => Pa N 13 190 [(0, .ref 46), (1, .ref ya), (2, .int yk), (3, .int yt), (4, .ref 44)] (yu.toList ++ []) A1 yQ))
    (l10 : yx.toInt ≠ 0 → (yA.1 ya 3).toInt ≠ 0 → 0 ≤ (yA.1 ya 8).toInt → (yA.1 1 3).toInt ≤ (yA.1 ya 8).toInt → Pa N 14 0 [(0, .ref 46), (1, .int (yA.1 ya 4)), (2, .int (yA.1 ya 6)), (3, .int (yA.1 ya 7)), (4, .int yk)] [] (uI (uI yA 44 5 1) 44 4 0) (fun yu A1 => Pa N 13 190 [(0, .ref 46), (1, .ref ya), (2, .int yk), (3, .int yt), (4, .ref 44)] (yu.toList ++ []) A1 yQ))
    (l11 : yx.toInt ≠ 0 → (yA.1 ya 3).toInt ≠ 0 → 0 ≤ (yA.1 ya 8).toInt → (yA.1 ya 8).toInt < (yA.1 1 3).toInt → (yA.1 ya 8).toInt < 20 → (yA.1 2 ((yA.1 ya 8).toInt.toNat)).toInt ≠ (yA.1 ya 6).toInt → Pa N 14 0 [(0, .ref 46), (1, .int (yA.1 ya 4)), (2, .int (yA.1 ya 6)), (3, .int (yA.1 ya 7)), (4, .int yk)] [] (uI (uI yA 44 5 1) 44 4 0) (fun yu A1 => Pa N 13 190 [(0, .ref 46), (1, .ref ya), (2, .int yk), (3, .int yt), (4, .ref 44)] (yu.toList ++ []) A1 yQ))
    (l12 : yx.toInt ≠ 0 → (yA.1 ya 3).toInt ≠ 0 → 0 ≤ (yA.1 ya 8).toInt → (yA.1 ya 8).toInt < (yA.1 1 3).toInt → (yA.1 ya 8).toInt < 20 → (yA.1 2 ((yA.1 ya 8).toInt.toNat)).toInt = (yA.1 ya 6).toInt → Pa N 14 0 [(0, .ref 46), (1, .int (yA.1 ya 4)), (2, .int (yA.1 ya 6)), (3, .int (yA.1 ya 7)), (4, .int yk)] [] (uI (uI yA 44 5 1) 44 4 1) (fun yu A1 => Pa N 13 190 [(0, .ref 46), (1, .ref ya), (2, .int yk), (3, .int yt), (4, .ref 44)] (yu.toList ++ []) A1 yQ)) :
    Pa N 13 83 [(0, .ref 46), (1, .ref ya), (2, .int yk), (3, .int yt), (4, .ref 44)] [.int yx, .int 5, .ref 44] yA yQ := by
  refine Pa.if1 (a := yx.toInt) (t := 90) (by rfl) (by rfl) (rfl) (fun h1 => ?_) (fun h2 => ?_)
  · have h1 : yx.toInt = 0 := h1
    refine Pa.ic (x := 0) (pc' := 91) (by rfl) (by rfl) (by decide) ?_
    refine Pa.asts (j' := 5) (by rfl) (by rfl) (by rfl) (fun h3 h4 => ?_)
    show Pa N 13 92 [(0, .ref 46), (1, .ref ya), (2, .int yk), (3, .int yt), (4, .ref 44)] [] (uI yA 44 5 0) _
    refine Pa.mp 1 (pc' := 93) (l' := [(0, .ref 46), (1, .ref ya), (2, .int yk), (3, .int yt), (4, .ref 44)]) (st' := [.ref ya]) (by rfl) ?_
    refine Pa.gfI (v := yA.1 ya 3) (by rfl) (by rfl) (.inr rfl) (by rfl) (by show (uI yA 44 5 0).1 ya 3 = yA.1 ya 3; rw [uI_c (by omega)]) ?_
    refine Pa.if1 (a := (yA.1 ya 3).toInt) (t := 129) (by rfl) (by rfl) (rfl) (fun h5 => ?_) (fun h6 => ?_)
    · have h5 : (yA.1 ya 3).toInt = 0 := h5
      refine Pa.mp 1 (pc' := 130) (l' := [(0, .ref 46), (1, .ref ya), (2, .int yk), (3, .int yt), (4, .ref 44)]) (st' := [.ref 46]) (by rfl) ?_
      refine Pa.gfR (by rfl) (by rfl) (.inl rfl) (by rfl) ?_
      show Pa N 13 133 [(0, .ref 46), (1, .ref ya), (2, .int yk), (3, .int yt), (4, .ref 44)] [.ref 38] (uI yA 44 5 0) _
      refine Pa.gfR (by rfl) (by rfl) (.inr rfl) (by rfl) ?_
      show Pa N 13 136 [(0, .ref 46), (1, .ref ya), (2, .int yk), (3, .int yt), (4, .ref 44)] [.ref 43] (uI yA 44 5 0) _
      refine Pa.mp 1 (pc' := 137) (l' := [(0, .ref 46), (1, .ref ya), (2, .int yk), (3, .int yt), (4, .ref 44)]) (st' := [.int yt, .ref 43]) (by rfl) ?_
      refine Pa.blds (v := yA.1 43 yt.toInt.toNat) (by rfl) (by rfl) (by show (uI yA 44 5 0).1 43 yt.toInt.toNat = yA.1 43 yt.toInt.toNat; rw [uI_c (by decide)]) (fun h7 h8 => ?_)
      have h7 : 0 ≤ yt.toInt := h7
      have h8 : yt.toInt < 20 := h8
      refine Pa.if1 (a := (yA.1 43 yt.toInt.toNat).toInt) (t := 173) (by rfl) (by rfl) (rfl) (fun h9 => ?_) (fun h10 => ?_)
      · have h9 : (yA.1 43 yt.toInt.toNat).toInt = 0 := h9
        refine Pa.mp 2 (pc' := 175) (l' := [(0, .ref 46), (1, .ref ya), (2, .int yk), (3, .int yt), (4, .ref 44)]) (st' := [.ref ya, .ref 46]) (by rfl) ?_
        refine Pa.gfI (v := yA.1 ya 4) (by rfl) (by rfl) (.inr rfl) (by rfl) (by show (uI yA 44 5 0).1 ya 4 = yA.1 ya 4; rw [uI_c (by omega)]) ?_
        refine Pa.mp 1 (pc' := 179) (l' := [(0, .ref 46), (1, .ref ya), (2, .int yk), (3, .int yt), (4, .ref 44)]) (st' := [.ref ya, .int (yA.1 ya 4), .ref 46]) (by rfl) ?_
        refine Pa.gfI (v := yA.1 ya 6) (by rfl) (by rfl) (.inr rfl) (by rfl) (by show (uI yA 44 5 0).1 ya 6 = yA.1 ya 6; rw [uI_c (by omega)]) ?_
        refine Pa.mp 1 (pc' := 183) (l' := [(0, .ref 46), (1, .ref ya), (2, .int yk), (3, .int yt), (4, .ref 44)]) (st' := [.ref ya, .int (yA.1 ya 6), .int (yA.1 ya 4), .ref 46]) (by rfl) ?_
        refine Pa.gfI (v := yA.1 ya 7) (by rfl) (by rfl) (.inr rfl) (by rfl) (by show (uI yA 44 5 0).1 ya 7 = yA.1 ya 7; rw [uI_c (by omega)]) ?_
        refine Pa.mp 1 (pc' := 187) (l' := [(0, .ref 46), (1, .ref ya), (2, .int yk), (3, .int yt), (4, .ref 44)]) (st' := [.int yk, .int (yA.1 ya 7), .int (yA.1 ya 6), .int (yA.1 ya 4), .ref 46]) (by rfl) ?_
        refine Pa.inv (by rfl) (by rfl) (.inl rfl) (by rfl) ?_
        exact l1 h1 h5 h7 h8 h9
      · have h10 : (yA.1 43 yt.toInt.toNat).toInt ≠ 0 := h10
        refine Pa.mp 1 (pc' := 143) (l' := [(0, .ref 46), (1, .ref ya), (2, .int yk), (3, .int yt), (4, .ref 44)]) (st' := [.ref 44]) (by rfl) ?_
        refine Pa.ic (x := 4) (pc' := 144) (by rfl) (by rfl) (by decide) ?_
        refine Pa.mp 1 (pc' := 145) (l' := [(0, .ref 46), (1, .ref ya), (2, .int yk), (3, .int yt), (4, .ref 44)]) (st' := [.ref 46, .int 4, .ref 44]) (by rfl) ?_
        refine Pa.gfR (by rfl) (by rfl) (.inl rfl) (by rfl) ?_
        show Pa N 13 148 [(0, .ref 46), (1, .ref ya), (2, .int yk), (3, .int yt), (4, .ref 44)] [.ref 12, .int 4, .ref 44] (uI yA 44 5 0) _
        refine Pa.mp 1 (pc' := 149) (l' := [(0, .ref 46), (1, .ref ya), (2, .int yk), (3, .int yt), (4, .ref 44)]) (st' := [.ref ya, .ref 12, .int 4, .ref 44]) (by rfl) ?_
        refine Pa.gfI (v := yA.1 ya 8) (by rfl) (by rfl) (.inr rfl) (by rfl) (by show (uI yA 44 5 0).1 ya 8 = yA.1 ya 8; rw [uI_c (by omega)]) ?_
        refine Pa.mp 1 (pc' := 153) (l' := [(0, .ref 46), (1, .ref ya), (2, .int yk), (3, .int yt), (4, .ref 44)]) (st' := [.ref ya, .int (yA.1 ya 8), .ref 12, .int 4, .ref 44]) (by rfl) ?_
        refine Pa.gfI (v := yA.1 ya 6) (by rfl) (by rfl) (.inr rfl) (by rfl) (by show (uI yA 44 5 0).1 ya 6 = yA.1 ya 6; rw [uI_c (by omega)]) ?_
        refine Pa.mp 1 (pc' := 157) (l' := [(0, .ref 46), (1, .ref ya), (2, .int yk), (3, .int yt), (4, .ref 44)]) (st' := [.ref ya, .int (yA.1 ya 6), .int (yA.1 ya 8), .ref 12, .int 4, .ref 44]) (by rfl) ?_
        refine Pa.gfI (v := yA.1 ya 7) (by rfl) (by rfl) (.inr rfl) (by rfl) (by show (uI yA 44 5 0).1 ya 7 = yA.1 ya 7; rw [uI_c (by omega)]) ?_
        refine Pa.mp 1 (pc' := 161) (l' := [(0, .ref 46), (1, .ref ya), (2, .int yk), (3, .int yt), (4, .ref 44)]) (st' := [.int yk, .int (yA.1 ya 7), .int (yA.1 ya 6), .int (yA.1 ya 8), .ref 12, .int 4, .ref 44]) (by rfl) ?_
        refine Pa.inv (by rfl) (by rfl) (.inr rfl) (by rfl) ?_
        exact l2 h1 h5 h7 h8 h10
    · have h6 : (yA.1 ya 3).toInt ≠ 0 := h6
      refine Pa.mp 1 (pc' := 101) (l' := [(0, .ref 46), (1, .ref ya), (2, .int yk), (3, .int yt), (4, .ref 44)]) (st' := [.ref 44]) (by rfl) ?_
      refine Pa.ic (x := 4) (pc' := 102) (by rfl) (by rfl) (by decide) ?_
      refine Pa.mp 1 (pc' := 103) (l' := [(0, .ref 46), (1, .ref ya), (2, .int yk), (3, .int yt), (4, .ref 44)]) (st' := [.ref 46, .int 4, .ref 44]) (by rfl) ?_
      refine Pa.gfR (by rfl) (by rfl) (.inl rfl) (by rfl) ?_
      show Pa N 13 106 [(0, .ref 46), (1, .ref ya), (2, .int yk), (3, .int yt), (4, .ref 44)] [.ref 1, .int 4, .ref 44] (uI yA 44 5 0) _
      refine Pa.mp 1 (pc' := 107) (l' := [(0, .ref 46), (1, .ref ya), (2, .int yk), (3, .int yt), (4, .ref 44)]) (st' := [.ref ya, .ref 1, .int 4, .ref 44]) (by rfl) ?_
      refine Pa.gfI (v := yA.1 ya 8) (by rfl) (by rfl) (.inr rfl) (by rfl) (by show (uI yA 44 5 0).1 ya 8 = yA.1 ya 8; rw [uI_c (by omega)]) ?_
      refine Pa.mp 1 (pc' := 111) (l' := [(0, .ref 46), (1, .ref ya), (2, .int yk), (3, .int yt), (4, .ref 44)]) (st' := [.ref ya, .int (yA.1 ya 8), .ref 1, .int 4, .ref 44]) (by rfl) ?_
      refine Pa.gfI (v := yA.1 ya 6) (by rfl) (by rfl) (.inr rfl) (by rfl) (by show (uI yA 44 5 0).1 ya 6 = yA.1 ya 6; rw [uI_c (by omega)]) ?_
      refine Pa.inv (by rfl) (by rfl) (.inr rfl) (by rfl) ?_
      show Pa N 49 0 [(0, .ref 1), (1, .int (yA.1 ya 8)), (2, .int (yA.1 ya 6))] [] (uI yA 44 5 0) _
      refine Pa.mp 2 (pc' := 2) (l' := [(0, .ref 1), (1, .int (yA.1 ya 8)), (2, .int (yA.1 ya 6))]) (st' := [.int (yA.1 ya 8), .ref 1]) (by rfl) ?_
      refine Pa.inv (by rfl) (by rfl) (.inl rfl) (by rfl) ?_
      show Pa N 48 0 [(0, .ref 1), (1, .int (yA.1 ya 8))] [] (uI yA 44 5 0) _
      refine Pa.mp 1 (pc' := 1) (l' := [(0, .ref 1), (1, .int (yA.1 ya 8))]) (st' := [.int (yA.1 ya 8)]) (by rfl) ?_
      refine Pa.if1 (a := (yA.1 ya 8).toInt) (t := 16) (by rfl) (by rfl) (rfl) (fun h11 => ?_) (fun h12 => ?_)
      · have h11 : (yA.1 ya 8).toInt < 0 := h11
        refine Pa.ic (x := 0) (pc' := 17) (by rfl) (by rfl) (by decide) ?_
        refine Pa.iret (by rfl) ?_
        show Pa N 49 5 [(0, .ref 1), (1, .int (yA.1 ya 8)), (2, .int (yA.1 ya 6))] [.int 0] (uI yA 44 5 0) _
        refine Pa.if1k true (by rfl) (by rfl) (by decide) ?_
        show Pa N 49 22 [(0, .ref 1), (1, .int (yA.1 ya 8)), (2, .int (yA.1 ya 6))] [] (uI yA 44 5 0) _
        refine Pa.ic (x := 0) (pc' := 23) (by rfl) (by rfl) (by decide) ?_
        refine Pa.iret (by rfl) ?_
        show Pa N 13 117 [(0, .ref 46), (1, .ref ya), (2, .int yk), (3, .int yt), (4, .ref 44)] [.int 0, .int 4, .ref 44] (uI yA 44 5 0) _
        refine Pa.if1k true (by rfl) (by rfl) (by decide) ?_
        show Pa N 13 124 [(0, .ref 46), (1, .ref ya), (2, .int yk), (3, .int yt), (4, .ref 44)] [.int 4, .ref 44] (uI yA 44 5 0) _
        refine Pa.ic (x := 0) (pc' := 125) (by rfl) (by rfl) (by decide) ?_
        refine Pa.asts (j' := 4) (by rfl) (by rfl) (by rfl) (fun h13 h14 => ?_)
        show Pa N 13 126 [(0, .ref 46), (1, .ref ya), (2, .int yk), (3, .int yt), (4, .ref 44)] [] (uI (uI yA 44 5 0) 44 4 0) _
        refine Pa.mp 3 (pc' := 175) (l' := [(0, .ref 46), (1, .ref ya), (2, .int yk), (3, .int yt), (4, .ref 44)]) (st' := [.ref ya, .ref 46]) (by rfl) ?_
        refine Pa.gfI (v := yA.1 ya 4) (by rfl) (by rfl) (.inr rfl) (by rfl) (by show (uI (uI yA 44 5 0) 44 4 0).1 ya 4 = yA.1 ya 4; rw [uI_c (by omega), uI_c (by omega)]) ?_
        refine Pa.mp 1 (pc' := 179) (l' := [(0, .ref 46), (1, .ref ya), (2, .int yk), (3, .int yt), (4, .ref 44)]) (st' := [.ref ya, .int (yA.1 ya 4), .ref 46]) (by rfl) ?_
        refine Pa.gfI (v := yA.1 ya 6) (by rfl) (by rfl) (.inr rfl) (by rfl) (by show (uI (uI yA 44 5 0) 44 4 0).1 ya 6 = yA.1 ya 6; rw [uI_c (by omega), uI_c (by omega)]) ?_
        refine Pa.mp 1 (pc' := 183) (l' := [(0, .ref 46), (1, .ref ya), (2, .int yk), (3, .int yt), (4, .ref 44)]) (st' := [.ref ya, .int (yA.1 ya 6), .int (yA.1 ya 4), .ref 46]) (by rfl) ?_
        refine Pa.gfI (v := yA.1 ya 7) (by rfl) (by rfl) (.inr rfl) (by rfl) (by show (uI (uI yA 44 5 0) 44 4 0).1 ya 7 = yA.1 ya 7; rw [uI_c (by omega), uI_c (by omega)]) ?_
        refine Pa.mp 1 (pc' := 187) (l' := [(0, .ref 46), (1, .ref ya), (2, .int yk), (3, .int yt), (4, .ref 44)]) (st' := [.int yk, .int (yA.1 ya 7), .int (yA.1 ya 6), .int (yA.1 ya 4), .ref 46]) (by rfl) ?_
        refine Pa.inv (by rfl) (by rfl) (.inl rfl) (by rfl) ?_
        exact l3 h1 h6 h11
      · have h12 : 0 ≤ (yA.1 ya 8).toInt := h12
        refine Pa.mp 2 (pc' := 6) (l' := [(0, .ref 1), (1, .int (yA.1 ya 8))]) (st' := [.ref 1, .int (yA.1 ya 8)]) (by rfl) ?_
        refine Pa.gfI (v := yA.1 1 3) (by rfl) (by rfl) (.inl rfl) (by rfl) (by show (uI yA 44 5 0).1 1 3 = yA.1 1 3; rw [uI_c (by decide)]) ?_
        refine Pa.if2 (a := (yA.1 ya 8).toInt) (b := (yA.1 1 3).toInt) (t := 16) (by rfl) (by rfl) (rfl) (rfl) (fun h15 => ?_) (fun yh16 => ?_)
        · have h15 : (yA.1 1 3).toInt ≤ (yA.1 ya 8).toInt := h15
          refine Pa.ic (x := 0) (pc' := 17) (by rfl) (by rfl) (by decide) ?_
          refine Pa.iret (by rfl) ?_
          show Pa N 49 5 [(0, .ref 1), (1, .int (yA.1 ya 8)), (2, .int (yA.1 ya 6))] [.int 0] (uI yA 44 5 0) _
          refine Pa.if1k true (by rfl) (by rfl) (by decide) ?_
          show Pa N 49 22 [(0, .ref 1), (1, .int (yA.1 ya 8)), (2, .int (yA.1 ya 6))] [] (uI yA 44 5 0) _
          refine Pa.ic (x := 0) (pc' := 23) (by rfl) (by rfl) (by decide) ?_
          refine Pa.iret (by rfl) ?_
          show Pa N 13 117 [(0, .ref 46), (1, .ref ya), (2, .int yk), (3, .int yt), (4, .ref 44)] [.int 0, .int 4, .ref 44] (uI yA 44 5 0) _
          refine Pa.if1k true (by rfl) (by rfl) (by decide) ?_
          show Pa N 13 124 [(0, .ref 46), (1, .ref ya), (2, .int yk), (3, .int yt), (4, .ref 44)] [.int 4, .ref 44] (uI yA 44 5 0) _
          refine Pa.ic (x := 0) (pc' := 125) (by rfl) (by rfl) (by decide) ?_
          refine Pa.asts (j' := 4) (by rfl) (by rfl) (by rfl) (fun h17 h18 => ?_)
          show Pa N 13 126 [(0, .ref 46), (1, .ref ya), (2, .int yk), (3, .int yt), (4, .ref 44)] [] (uI (uI yA 44 5 0) 44 4 0) _
          refine Pa.mp 3 (pc' := 175) (l' := [(0, .ref 46), (1, .ref ya), (2, .int yk), (3, .int yt), (4, .ref 44)]) (st' := [.ref ya, .ref 46]) (by rfl) ?_
          refine Pa.gfI (v := yA.1 ya 4) (by rfl) (by rfl) (.inr rfl) (by rfl) (by show (uI (uI yA 44 5 0) 44 4 0).1 ya 4 = yA.1 ya 4; rw [uI_c (by omega), uI_c (by omega)]) ?_
          refine Pa.mp 1 (pc' := 179) (l' := [(0, .ref 46), (1, .ref ya), (2, .int yk), (3, .int yt), (4, .ref 44)]) (st' := [.ref ya, .int (yA.1 ya 4), .ref 46]) (by rfl) ?_
          refine Pa.gfI (v := yA.1 ya 6) (by rfl) (by rfl) (.inr rfl) (by rfl) (by show (uI (uI yA 44 5 0) 44 4 0).1 ya 6 = yA.1 ya 6; rw [uI_c (by omega), uI_c (by omega)]) ?_
          refine Pa.mp 1 (pc' := 183) (l' := [(0, .ref 46), (1, .ref ya), (2, .int yk), (3, .int yt), (4, .ref 44)]) (st' := [.ref ya, .int (yA.1 ya 6), .int (yA.1 ya 4), .ref 46]) (by rfl) ?_
          refine Pa.gfI (v := yA.1 ya 7) (by rfl) (by rfl) (.inr rfl) (by rfl) (by show (uI (uI yA 44 5 0) 44 4 0).1 ya 7 = yA.1 ya 7; rw [uI_c (by omega), uI_c (by omega)]) ?_
          refine Pa.mp 1 (pc' := 187) (l' := [(0, .ref 46), (1, .ref ya), (2, .int yk), (3, .int yt), (4, .ref 44)]) (st' := [.int yk, .int (yA.1 ya 7), .int (yA.1 ya 6), .int (yA.1 ya 4), .ref 46]) (by rfl) ?_
          refine Pa.inv (by rfl) (by rfl) (.inl rfl) (by rfl) ?_
          exact l4 h1 h6 h12 h15
        · have yh16 : (yA.1 ya 8).toInt < (yA.1 1 3).toInt := yh16
          refine Pa.ic (x := 1) (pc' := 13) (by rfl) (by rfl) (by decide) ?_
          refine Pa.mp 1 (pc' := 17) (l' := [(0, .ref 1), (1, .int (yA.1 ya 8))]) (st' := [.int 1]) (by rfl) ?_
          refine Pa.iret (by rfl) ?_
          show Pa N 49 5 [(0, .ref 1), (1, .int (yA.1 ya 8)), (2, .int (yA.1 ya 6))] [.int 1] (uI yA 44 5 0) _
          refine Pa.if1k false (by rfl) (by rfl) (by decide) ?_
          show Pa N 49 8 [(0, .ref 1), (1, .int (yA.1 ya 8)), (2, .int (yA.1 ya 6))] [] (uI yA 44 5 0) _
          refine Pa.mp 1 (pc' := 9) (l' := [(0, .ref 1), (1, .int (yA.1 ya 8)), (2, .int (yA.1 ya 6))]) (st' := [.ref 1]) (by rfl) ?_
          refine Pa.gfR (by rfl) (by rfl) (.inl rfl) (by rfl) ?_
          show Pa N 49 12 [(0, .ref 1), (1, .int (yA.1 ya 8)), (2, .int (yA.1 ya 6))] [.ref 2] (uI yA 44 5 0) _
          refine Pa.mp 1 (pc' := 13) (l' := [(0, .ref 1), (1, .int (yA.1 ya 8)), (2, .int (yA.1 ya 6))]) (st' := [.int (yA.1 ya 8), .ref 2]) (by rfl) ?_
          refine Pa.alds (v := yA.1 2 ((yA.1 ya 8).toInt.toNat)) (by rfl) (by rfl) (by show (uI yA 44 5 0).1 2 ((yA.1 ya 8).toInt.toNat) = yA.1 2 ((yA.1 ya 8).toInt.toNat); rw [uI_c (by decide)]) (fun h19 h20 => ?_)
          have h19 : 0 ≤ (yA.1 ya 8).toInt := h19
          have h20 : (yA.1 ya 8).toInt < 20 := h20
          refine Pa.mp 1 (pc' := 15) (l' := [(0, .ref 1), (1, .int (yA.1 ya 8)), (2, .int (yA.1 ya 6))]) (st' := [.int (yA.1 ya 6), .int (yA.1 2 ((yA.1 ya 8).toInt.toNat))]) (by rfl) ?_
          refine Pa.if2 (a := (yA.1 2 ((yA.1 ya 8).toInt.toNat)).toInt) (b := (yA.1 ya 6).toInt) (t := 22) (by rfl) (by rfl) (rfl) (rfl) (fun h21 => ?_) (fun h22 => ?_)
          · have h21 : (yA.1 2 ((yA.1 ya 8).toInt.toNat)).toInt ≠ (yA.1 ya 6).toInt := h21
            refine Pa.ic (x := 0) (pc' := 23) (by rfl) (by rfl) (by decide) ?_
            refine Pa.iret (by rfl) ?_
            show Pa N 13 117 [(0, .ref 46), (1, .ref ya), (2, .int yk), (3, .int yt), (4, .ref 44)] [.int 0, .int 4, .ref 44] (uI yA 44 5 0) _
            refine Pa.if1k true (by rfl) (by rfl) (by decide) ?_
            show Pa N 13 124 [(0, .ref 46), (1, .ref ya), (2, .int yk), (3, .int yt), (4, .ref 44)] [.int 4, .ref 44] (uI yA 44 5 0) _
            refine Pa.ic (x := 0) (pc' := 125) (by rfl) (by rfl) (by decide) ?_
            refine Pa.asts (j' := 4) (by rfl) (by rfl) (by rfl) (fun h23 h24 => ?_)
            show Pa N 13 126 [(0, .ref 46), (1, .ref ya), (2, .int yk), (3, .int yt), (4, .ref 44)] [] (uI (uI yA 44 5 0) 44 4 0) _
            refine Pa.mp 3 (pc' := 175) (l' := [(0, .ref 46), (1, .ref ya), (2, .int yk), (3, .int yt), (4, .ref 44)]) (st' := [.ref ya, .ref 46]) (by rfl) ?_
            refine Pa.gfI (v := yA.1 ya 4) (by rfl) (by rfl) (.inr rfl) (by rfl) (by show (uI (uI yA 44 5 0) 44 4 0).1 ya 4 = yA.1 ya 4; rw [uI_c (by omega), uI_c (by omega)]) ?_
            refine Pa.mp 1 (pc' := 179) (l' := [(0, .ref 46), (1, .ref ya), (2, .int yk), (3, .int yt), (4, .ref 44)]) (st' := [.ref ya, .int (yA.1 ya 4), .ref 46]) (by rfl) ?_
            refine Pa.gfI (v := yA.1 ya 6) (by rfl) (by rfl) (.inr rfl) (by rfl) (by show (uI (uI yA 44 5 0) 44 4 0).1 ya 6 = yA.1 ya 6; rw [uI_c (by omega), uI_c (by omega)]) ?_
            refine Pa.mp 1 (pc' := 183) (l' := [(0, .ref 46), (1, .ref ya), (2, .int yk), (3, .int yt), (4, .ref 44)]) (st' := [.ref ya, .int (yA.1 ya 6), .int (yA.1 ya 4), .ref 46]) (by rfl) ?_
            refine Pa.gfI (v := yA.1 ya 7) (by rfl) (by rfl) (.inr rfl) (by rfl) (by show (uI (uI yA 44 5 0) 44 4 0).1 ya 7 = yA.1 ya 7; rw [uI_c (by omega), uI_c (by omega)]) ?_
            refine Pa.mp 1 (pc' := 187) (l' := [(0, .ref 46), (1, .ref ya), (2, .int yk), (3, .int yt), (4, .ref 44)]) (st' := [.int yk, .int (yA.1 ya 7), .int (yA.1 ya 6), .int (yA.1 ya 4), .ref 46]) (by rfl) ?_
            refine Pa.inv (by rfl) (by rfl) (.inl rfl) (by rfl) ?_
            exact l5 h1 h6 h12 yh16 h20 h21
          · have h22 : (yA.1 2 ((yA.1 ya 8).toInt.toNat)).toInt = (yA.1 ya 6).toInt := h22
            refine Pa.ic (x := 1) (pc' := 19) (by rfl) (by rfl) (by decide) ?_
            refine Pa.mp 1 (pc' := 23) (l' := [(0, .ref 1), (1, .int (yA.1 ya 8)), (2, .int (yA.1 ya 6))]) (st' := [.int 1]) (by rfl) ?_
            refine Pa.iret (by rfl) ?_
            show Pa N 13 117 [(0, .ref 46), (1, .ref ya), (2, .int yk), (3, .int yt), (4, .ref 44)] [.int 1, .int 4, .ref 44] (uI yA 44 5 0) _
            refine Pa.if1k false (by rfl) (by rfl) (by decide) ?_
            show Pa N 13 120 [(0, .ref 46), (1, .ref ya), (2, .int yk), (3, .int yt), (4, .ref 44)] [.int 4, .ref 44] (uI yA 44 5 0) _
            refine Pa.ic (x := 1) (pc' := 121) (by rfl) (by rfl) (by decide) ?_
            refine Pa.mp 1 (pc' := 125) (l' := [(0, .ref 46), (1, .ref ya), (2, .int yk), (3, .int yt), (4, .ref 44)]) (st' := [.int 1, .int 4, .ref 44]) (by rfl) ?_
            refine Pa.asts (j' := 4) (by rfl) (by rfl) (by rfl) (fun h25 h26 => ?_)
            show Pa N 13 126 [(0, .ref 46), (1, .ref ya), (2, .int yk), (3, .int yt), (4, .ref 44)] [] (uI (uI yA 44 5 0) 44 4 1) _
            refine Pa.mp 3 (pc' := 175) (l' := [(0, .ref 46), (1, .ref ya), (2, .int yk), (3, .int yt), (4, .ref 44)]) (st' := [.ref ya, .ref 46]) (by rfl) ?_
            refine Pa.gfI (v := yA.1 ya 4) (by rfl) (by rfl) (.inr rfl) (by rfl) (by show (uI (uI yA 44 5 0) 44 4 1).1 ya 4 = yA.1 ya 4; rw [uI_c (by omega), uI_c (by omega)]) ?_
            refine Pa.mp 1 (pc' := 179) (l' := [(0, .ref 46), (1, .ref ya), (2, .int yk), (3, .int yt), (4, .ref 44)]) (st' := [.ref ya, .int (yA.1 ya 4), .ref 46]) (by rfl) ?_
            refine Pa.gfI (v := yA.1 ya 6) (by rfl) (by rfl) (.inr rfl) (by rfl) (by show (uI (uI yA 44 5 0) 44 4 1).1 ya 6 = yA.1 ya 6; rw [uI_c (by omega), uI_c (by omega)]) ?_
            refine Pa.mp 1 (pc' := 183) (l' := [(0, .ref 46), (1, .ref ya), (2, .int yk), (3, .int yt), (4, .ref 44)]) (st' := [.ref ya, .int (yA.1 ya 6), .int (yA.1 ya 4), .ref 46]) (by rfl) ?_
            refine Pa.gfI (v := yA.1 ya 7) (by rfl) (by rfl) (.inr rfl) (by rfl) (by show (uI (uI yA 44 5 0) 44 4 1).1 ya 7 = yA.1 ya 7; rw [uI_c (by omega), uI_c (by omega)]) ?_
            refine Pa.mp 1 (pc' := 187) (l' := [(0, .ref 46), (1, .ref ya), (2, .int yk), (3, .int yt), (4, .ref 44)]) (st' := [.int yk, .int (yA.1 ya 7), .int (yA.1 ya 6), .int (yA.1 ya 4), .ref 46]) (by rfl) ?_
            refine Pa.inv (by rfl) (by rfl) (.inl rfl) (by rfl) ?_
            exact l6 h1 h6 h12 yh16 h20 h22
  · have h2 : yx.toInt ≠ 0 := h2
    refine Pa.ic (x := 1) (pc' := 87) (by rfl) (by rfl) (by decide) ?_
    refine Pa.mp 1 (pc' := 91) (l' := [(0, .ref 46), (1, .ref ya), (2, .int yk), (3, .int yt), (4, .ref 44)]) (st' := [.int 1, .int 5, .ref 44]) (by rfl) ?_
    refine Pa.asts (j' := 5) (by rfl) (by rfl) (by rfl) (fun h27 h28 => ?_)
    show Pa N 13 92 [(0, .ref 46), (1, .ref ya), (2, .int yk), (3, .int yt), (4, .ref 44)] [] (uI yA 44 5 1) _
    refine Pa.mp 1 (pc' := 93) (l' := [(0, .ref 46), (1, .ref ya), (2, .int yk), (3, .int yt), (4, .ref 44)]) (st' := [.ref ya]) (by rfl) ?_
    refine Pa.gfI (v := yA.1 ya 3) (by rfl) (by rfl) (.inr rfl) (by rfl) (by show (uI yA 44 5 1).1 ya 3 = yA.1 ya 3; rw [uI_c (by omega)]) ?_
    refine Pa.if1 (a := (yA.1 ya 3).toInt) (t := 129) (by rfl) (by rfl) (rfl) (fun h29 => ?_) (fun h30 => ?_)
    · have h29 : (yA.1 ya 3).toInt = 0 := h29
      refine Pa.mp 1 (pc' := 130) (l' := [(0, .ref 46), (1, .ref ya), (2, .int yk), (3, .int yt), (4, .ref 44)]) (st' := [.ref 46]) (by rfl) ?_
      refine Pa.gfR (by rfl) (by rfl) (.inl rfl) (by rfl) ?_
      show Pa N 13 133 [(0, .ref 46), (1, .ref ya), (2, .int yk), (3, .int yt), (4, .ref 44)] [.ref 38] (uI yA 44 5 1) _
      refine Pa.gfR (by rfl) (by rfl) (.inr rfl) (by rfl) ?_
      show Pa N 13 136 [(0, .ref 46), (1, .ref ya), (2, .int yk), (3, .int yt), (4, .ref 44)] [.ref 43] (uI yA 44 5 1) _
      refine Pa.mp 1 (pc' := 137) (l' := [(0, .ref 46), (1, .ref ya), (2, .int yk), (3, .int yt), (4, .ref 44)]) (st' := [.int yt, .ref 43]) (by rfl) ?_
      refine Pa.blds (v := yA.1 43 yt.toInt.toNat) (by rfl) (by rfl) (by show (uI yA 44 5 1).1 43 yt.toInt.toNat = yA.1 43 yt.toInt.toNat; rw [uI_c (by decide)]) (fun h31 h32 => ?_)
      have h31 : 0 ≤ yt.toInt := h31
      have h32 : yt.toInt < 20 := h32
      refine Pa.if1 (a := (yA.1 43 yt.toInt.toNat).toInt) (t := 173) (by rfl) (by rfl) (rfl) (fun h33 => ?_) (fun h34 => ?_)
      · have h33 : (yA.1 43 yt.toInt.toNat).toInt = 0 := h33
        refine Pa.mp 2 (pc' := 175) (l' := [(0, .ref 46), (1, .ref ya), (2, .int yk), (3, .int yt), (4, .ref 44)]) (st' := [.ref ya, .ref 46]) (by rfl) ?_
        refine Pa.gfI (v := yA.1 ya 4) (by rfl) (by rfl) (.inr rfl) (by rfl) (by show (uI yA 44 5 1).1 ya 4 = yA.1 ya 4; rw [uI_c (by omega)]) ?_
        refine Pa.mp 1 (pc' := 179) (l' := [(0, .ref 46), (1, .ref ya), (2, .int yk), (3, .int yt), (4, .ref 44)]) (st' := [.ref ya, .int (yA.1 ya 4), .ref 46]) (by rfl) ?_
        refine Pa.gfI (v := yA.1 ya 6) (by rfl) (by rfl) (.inr rfl) (by rfl) (by show (uI yA 44 5 1).1 ya 6 = yA.1 ya 6; rw [uI_c (by omega)]) ?_
        refine Pa.mp 1 (pc' := 183) (l' := [(0, .ref 46), (1, .ref ya), (2, .int yk), (3, .int yt), (4, .ref 44)]) (st' := [.ref ya, .int (yA.1 ya 6), .int (yA.1 ya 4), .ref 46]) (by rfl) ?_
        refine Pa.gfI (v := yA.1 ya 7) (by rfl) (by rfl) (.inr rfl) (by rfl) (by show (uI yA 44 5 1).1 ya 7 = yA.1 ya 7; rw [uI_c (by omega)]) ?_
        refine Pa.mp 1 (pc' := 187) (l' := [(0, .ref 46), (1, .ref ya), (2, .int yk), (3, .int yt), (4, .ref 44)]) (st' := [.int yk, .int (yA.1 ya 7), .int (yA.1 ya 6), .int (yA.1 ya 4), .ref 46]) (by rfl) ?_
        refine Pa.inv (by rfl) (by rfl) (.inl rfl) (by rfl) ?_
        exact l7 h2 h29 h31 h32 h33
      · have h34 : (yA.1 43 yt.toInt.toNat).toInt ≠ 0 := h34
        refine Pa.mp 1 (pc' := 143) (l' := [(0, .ref 46), (1, .ref ya), (2, .int yk), (3, .int yt), (4, .ref 44)]) (st' := [.ref 44]) (by rfl) ?_
        refine Pa.ic (x := 4) (pc' := 144) (by rfl) (by rfl) (by decide) ?_
        refine Pa.mp 1 (pc' := 145) (l' := [(0, .ref 46), (1, .ref ya), (2, .int yk), (3, .int yt), (4, .ref 44)]) (st' := [.ref 46, .int 4, .ref 44]) (by rfl) ?_
        refine Pa.gfR (by rfl) (by rfl) (.inl rfl) (by rfl) ?_
        show Pa N 13 148 [(0, .ref 46), (1, .ref ya), (2, .int yk), (3, .int yt), (4, .ref 44)] [.ref 12, .int 4, .ref 44] (uI yA 44 5 1) _
        refine Pa.mp 1 (pc' := 149) (l' := [(0, .ref 46), (1, .ref ya), (2, .int yk), (3, .int yt), (4, .ref 44)]) (st' := [.ref ya, .ref 12, .int 4, .ref 44]) (by rfl) ?_
        refine Pa.gfI (v := yA.1 ya 8) (by rfl) (by rfl) (.inr rfl) (by rfl) (by show (uI yA 44 5 1).1 ya 8 = yA.1 ya 8; rw [uI_c (by omega)]) ?_
        refine Pa.mp 1 (pc' := 153) (l' := [(0, .ref 46), (1, .ref ya), (2, .int yk), (3, .int yt), (4, .ref 44)]) (st' := [.ref ya, .int (yA.1 ya 8), .ref 12, .int 4, .ref 44]) (by rfl) ?_
        refine Pa.gfI (v := yA.1 ya 6) (by rfl) (by rfl) (.inr rfl) (by rfl) (by show (uI yA 44 5 1).1 ya 6 = yA.1 ya 6; rw [uI_c (by omega)]) ?_
        refine Pa.mp 1 (pc' := 157) (l' := [(0, .ref 46), (1, .ref ya), (2, .int yk), (3, .int yt), (4, .ref 44)]) (st' := [.ref ya, .int (yA.1 ya 6), .int (yA.1 ya 8), .ref 12, .int 4, .ref 44]) (by rfl) ?_
        refine Pa.gfI (v := yA.1 ya 7) (by rfl) (by rfl) (.inr rfl) (by rfl) (by show (uI yA 44 5 1).1 ya 7 = yA.1 ya 7; rw [uI_c (by omega)]) ?_
        refine Pa.mp 1 (pc' := 161) (l' := [(0, .ref 46), (1, .ref ya), (2, .int yk), (3, .int yt), (4, .ref 44)]) (st' := [.int yk, .int (yA.1 ya 7), .int (yA.1 ya 6), .int (yA.1 ya 8), .ref 12, .int 4, .ref 44]) (by rfl) ?_
        refine Pa.inv (by rfl) (by rfl) (.inr rfl) (by rfl) ?_
        exact l8 h2 h29 h31 h32 h34
    · have h30 : (yA.1 ya 3).toInt ≠ 0 := h30
      refine Pa.mp 1 (pc' := 101) (l' := [(0, .ref 46), (1, .ref ya), (2, .int yk), (3, .int yt), (4, .ref 44)]) (st' := [.ref 44]) (by rfl) ?_
      refine Pa.ic (x := 4) (pc' := 102) (by rfl) (by rfl) (by decide) ?_
      refine Pa.mp 1 (pc' := 103) (l' := [(0, .ref 46), (1, .ref ya), (2, .int yk), (3, .int yt), (4, .ref 44)]) (st' := [.ref 46, .int 4, .ref 44]) (by rfl) ?_
      refine Pa.gfR (by rfl) (by rfl) (.inl rfl) (by rfl) ?_
      show Pa N 13 106 [(0, .ref 46), (1, .ref ya), (2, .int yk), (3, .int yt), (4, .ref 44)] [.ref 1, .int 4, .ref 44] (uI yA 44 5 1) _
      refine Pa.mp 1 (pc' := 107) (l' := [(0, .ref 46), (1, .ref ya), (2, .int yk), (3, .int yt), (4, .ref 44)]) (st' := [.ref ya, .ref 1, .int 4, .ref 44]) (by rfl) ?_
      refine Pa.gfI (v := yA.1 ya 8) (by rfl) (by rfl) (.inr rfl) (by rfl) (by show (uI yA 44 5 1).1 ya 8 = yA.1 ya 8; rw [uI_c (by omega)]) ?_
      refine Pa.mp 1 (pc' := 111) (l' := [(0, .ref 46), (1, .ref ya), (2, .int yk), (3, .int yt), (4, .ref 44)]) (st' := [.ref ya, .int (yA.1 ya 8), .ref 1, .int 4, .ref 44]) (by rfl) ?_
      refine Pa.gfI (v := yA.1 ya 6) (by rfl) (by rfl) (.inr rfl) (by rfl) (by show (uI yA 44 5 1).1 ya 6 = yA.1 ya 6; rw [uI_c (by omega)]) ?_
      refine Pa.inv (by rfl) (by rfl) (.inr rfl) (by rfl) ?_
      show Pa N 49 0 [(0, .ref 1), (1, .int (yA.1 ya 8)), (2, .int (yA.1 ya 6))] [] (uI yA 44 5 1) _
      refine Pa.mp 2 (pc' := 2) (l' := [(0, .ref 1), (1, .int (yA.1 ya 8)), (2, .int (yA.1 ya 6))]) (st' := [.int (yA.1 ya 8), .ref 1]) (by rfl) ?_
      refine Pa.inv (by rfl) (by rfl) (.inl rfl) (by rfl) ?_
      show Pa N 48 0 [(0, .ref 1), (1, .int (yA.1 ya 8))] [] (uI yA 44 5 1) _
      refine Pa.mp 1 (pc' := 1) (l' := [(0, .ref 1), (1, .int (yA.1 ya 8))]) (st' := [.int (yA.1 ya 8)]) (by rfl) ?_
      refine Pa.if1 (a := (yA.1 ya 8).toInt) (t := 16) (by rfl) (by rfl) (rfl) (fun h35 => ?_) (fun h36 => ?_)
      · have h35 : (yA.1 ya 8).toInt < 0 := h35
        refine Pa.ic (x := 0) (pc' := 17) (by rfl) (by rfl) (by decide) ?_
        refine Pa.iret (by rfl) ?_
        show Pa N 49 5 [(0, .ref 1), (1, .int (yA.1 ya 8)), (2, .int (yA.1 ya 6))] [.int 0] (uI yA 44 5 1) _
        refine Pa.if1k true (by rfl) (by rfl) (by decide) ?_
        show Pa N 49 22 [(0, .ref 1), (1, .int (yA.1 ya 8)), (2, .int (yA.1 ya 6))] [] (uI yA 44 5 1) _
        refine Pa.ic (x := 0) (pc' := 23) (by rfl) (by rfl) (by decide) ?_
        refine Pa.iret (by rfl) ?_
        show Pa N 13 117 [(0, .ref 46), (1, .ref ya), (2, .int yk), (3, .int yt), (4, .ref 44)] [.int 0, .int 4, .ref 44] (uI yA 44 5 1) _
        refine Pa.if1k true (by rfl) (by rfl) (by decide) ?_
        show Pa N 13 124 [(0, .ref 46), (1, .ref ya), (2, .int yk), (3, .int yt), (4, .ref 44)] [.int 4, .ref 44] (uI yA 44 5 1) _
        refine Pa.ic (x := 0) (pc' := 125) (by rfl) (by rfl) (by decide) ?_
        refine Pa.asts (j' := 4) (by rfl) (by rfl) (by rfl) (fun h37 h38 => ?_)
        show Pa N 13 126 [(0, .ref 46), (1, .ref ya), (2, .int yk), (3, .int yt), (4, .ref 44)] [] (uI (uI yA 44 5 1) 44 4 0) _
        refine Pa.mp 3 (pc' := 175) (l' := [(0, .ref 46), (1, .ref ya), (2, .int yk), (3, .int yt), (4, .ref 44)]) (st' := [.ref ya, .ref 46]) (by rfl) ?_
        refine Pa.gfI (v := yA.1 ya 4) (by rfl) (by rfl) (.inr rfl) (by rfl) (by show (uI (uI yA 44 5 1) 44 4 0).1 ya 4 = yA.1 ya 4; rw [uI_c (by omega), uI_c (by omega)]) ?_
        refine Pa.mp 1 (pc' := 179) (l' := [(0, .ref 46), (1, .ref ya), (2, .int yk), (3, .int yt), (4, .ref 44)]) (st' := [.ref ya, .int (yA.1 ya 4), .ref 46]) (by rfl) ?_
        refine Pa.gfI (v := yA.1 ya 6) (by rfl) (by rfl) (.inr rfl) (by rfl) (by show (uI (uI yA 44 5 1) 44 4 0).1 ya 6 = yA.1 ya 6; rw [uI_c (by omega), uI_c (by omega)]) ?_
        refine Pa.mp 1 (pc' := 183) (l' := [(0, .ref 46), (1, .ref ya), (2, .int yk), (3, .int yt), (4, .ref 44)]) (st' := [.ref ya, .int (yA.1 ya 6), .int (yA.1 ya 4), .ref 46]) (by rfl) ?_
        refine Pa.gfI (v := yA.1 ya 7) (by rfl) (by rfl) (.inr rfl) (by rfl) (by show (uI (uI yA 44 5 1) 44 4 0).1 ya 7 = yA.1 ya 7; rw [uI_c (by omega), uI_c (by omega)]) ?_
        refine Pa.mp 1 (pc' := 187) (l' := [(0, .ref 46), (1, .ref ya), (2, .int yk), (3, .int yt), (4, .ref 44)]) (st' := [.int yk, .int (yA.1 ya 7), .int (yA.1 ya 6), .int (yA.1 ya 4), .ref 46]) (by rfl) ?_
        refine Pa.inv (by rfl) (by rfl) (.inl rfl) (by rfl) ?_
        exact l9 h2 h30 h35
      · have h36 : 0 ≤ (yA.1 ya 8).toInt := h36
        refine Pa.mp 2 (pc' := 6) (l' := [(0, .ref 1), (1, .int (yA.1 ya 8))]) (st' := [.ref 1, .int (yA.1 ya 8)]) (by rfl) ?_
        refine Pa.gfI (v := yA.1 1 3) (by rfl) (by rfl) (.inl rfl) (by rfl) (by show (uI yA 44 5 1).1 1 3 = yA.1 1 3; rw [uI_c (by decide)]) ?_
        refine Pa.if2 (a := (yA.1 ya 8).toInt) (b := (yA.1 1 3).toInt) (t := 16) (by rfl) (by rfl) (rfl) (rfl) (fun h39 => ?_) (fun h40 => ?_)
        · have h39 : (yA.1 1 3).toInt ≤ (yA.1 ya 8).toInt := h39
          refine Pa.ic (x := 0) (pc' := 17) (by rfl) (by rfl) (by decide) ?_
          refine Pa.iret (by rfl) ?_
          show Pa N 49 5 [(0, .ref 1), (1, .int (yA.1 ya 8)), (2, .int (yA.1 ya 6))] [.int 0] (uI yA 44 5 1) _
          refine Pa.if1k true (by rfl) (by rfl) (by decide) ?_
          show Pa N 49 22 [(0, .ref 1), (1, .int (yA.1 ya 8)), (2, .int (yA.1 ya 6))] [] (uI yA 44 5 1) _
          refine Pa.ic (x := 0) (pc' := 23) (by rfl) (by rfl) (by decide) ?_
          refine Pa.iret (by rfl) ?_
          show Pa N 13 117 [(0, .ref 46), (1, .ref ya), (2, .int yk), (3, .int yt), (4, .ref 44)] [.int 0, .int 4, .ref 44] (uI yA 44 5 1) _
          refine Pa.if1k true (by rfl) (by rfl) (by decide) ?_
          show Pa N 13 124 [(0, .ref 46), (1, .ref ya), (2, .int yk), (3, .int yt), (4, .ref 44)] [.int 4, .ref 44] (uI yA 44 5 1) _
          refine Pa.ic (x := 0) (pc' := 125) (by rfl) (by rfl) (by decide) ?_
          refine Pa.asts (j' := 4) (by rfl) (by rfl) (by rfl) (fun h41 h42 => ?_)
          show Pa N 13 126 [(0, .ref 46), (1, .ref ya), (2, .int yk), (3, .int yt), (4, .ref 44)] [] (uI (uI yA 44 5 1) 44 4 0) _
          refine Pa.mp 3 (pc' := 175) (l' := [(0, .ref 46), (1, .ref ya), (2, .int yk), (3, .int yt), (4, .ref 44)]) (st' := [.ref ya, .ref 46]) (by rfl) ?_
          refine Pa.gfI (v := yA.1 ya 4) (by rfl) (by rfl) (.inr rfl) (by rfl) (by show (uI (uI yA 44 5 1) 44 4 0).1 ya 4 = yA.1 ya 4; rw [uI_c (by omega), uI_c (by omega)]) ?_
          refine Pa.mp 1 (pc' := 179) (l' := [(0, .ref 46), (1, .ref ya), (2, .int yk), (3, .int yt), (4, .ref 44)]) (st' := [.ref ya, .int (yA.1 ya 4), .ref 46]) (by rfl) ?_
          refine Pa.gfI (v := yA.1 ya 6) (by rfl) (by rfl) (.inr rfl) (by rfl) (by show (uI (uI yA 44 5 1) 44 4 0).1 ya 6 = yA.1 ya 6; rw [uI_c (by omega), uI_c (by omega)]) ?_
          refine Pa.mp 1 (pc' := 183) (l' := [(0, .ref 46), (1, .ref ya), (2, .int yk), (3, .int yt), (4, .ref 44)]) (st' := [.ref ya, .int (yA.1 ya 6), .int (yA.1 ya 4), .ref 46]) (by rfl) ?_
          refine Pa.gfI (v := yA.1 ya 7) (by rfl) (by rfl) (.inr rfl) (by rfl) (by show (uI (uI yA 44 5 1) 44 4 0).1 ya 7 = yA.1 ya 7; rw [uI_c (by omega), uI_c (by omega)]) ?_
          refine Pa.mp 1 (pc' := 187) (l' := [(0, .ref 46), (1, .ref ya), (2, .int yk), (3, .int yt), (4, .ref 44)]) (st' := [.int yk, .int (yA.1 ya 7), .int (yA.1 ya 6), .int (yA.1 ya 4), .ref 46]) (by rfl) ?_
          refine Pa.inv (by rfl) (by rfl) (.inl rfl) (by rfl) ?_
          exact l10 h2 h30 h36 h39
        · have h40 : (yA.1 ya 8).toInt < (yA.1 1 3).toInt := h40
          refine Pa.ic (x := 1) (pc' := 13) (by rfl) (by rfl) (by decide) ?_
          refine Pa.mp 1 (pc' := 17) (l' := [(0, .ref 1), (1, .int (yA.1 ya 8))]) (st' := [.int 1]) (by rfl) ?_
          refine Pa.iret (by rfl) ?_
          show Pa N 49 5 [(0, .ref 1), (1, .int (yA.1 ya 8)), (2, .int (yA.1 ya 6))] [.int 1] (uI yA 44 5 1) _
          refine Pa.if1k false (by rfl) (by rfl) (by decide) ?_
          show Pa N 49 8 [(0, .ref 1), (1, .int (yA.1 ya 8)), (2, .int (yA.1 ya 6))] [] (uI yA 44 5 1) _
          refine Pa.mp 1 (pc' := 9) (l' := [(0, .ref 1), (1, .int (yA.1 ya 8)), (2, .int (yA.1 ya 6))]) (st' := [.ref 1]) (by rfl) ?_
          refine Pa.gfR (by rfl) (by rfl) (.inl rfl) (by rfl) ?_
          show Pa N 49 12 [(0, .ref 1), (1, .int (yA.1 ya 8)), (2, .int (yA.1 ya 6))] [.ref 2] (uI yA 44 5 1) _
          refine Pa.mp 1 (pc' := 13) (l' := [(0, .ref 1), (1, .int (yA.1 ya 8)), (2, .int (yA.1 ya 6))]) (st' := [.int (yA.1 ya 8), .ref 2]) (by rfl) ?_
          refine Pa.alds (v := yA.1 2 ((yA.1 ya 8).toInt.toNat)) (by rfl) (by rfl) (by show (uI yA 44 5 1).1 2 ((yA.1 ya 8).toInt.toNat) = yA.1 2 ((yA.1 ya 8).toInt.toNat); rw [uI_c (by decide)]) (fun h43 h44 => ?_)
          have h43 : 0 ≤ (yA.1 ya 8).toInt := h43
          have h44 : (yA.1 ya 8).toInt < 20 := h44
          refine Pa.mp 1 (pc' := 15) (l' := [(0, .ref 1), (1, .int (yA.1 ya 8)), (2, .int (yA.1 ya 6))]) (st' := [.int (yA.1 ya 6), .int (yA.1 2 ((yA.1 ya 8).toInt.toNat))]) (by rfl) ?_
          refine Pa.if2 (a := (yA.1 2 ((yA.1 ya 8).toInt.toNat)).toInt) (b := (yA.1 ya 6).toInt) (t := 22) (by rfl) (by rfl) (rfl) (rfl) (fun h45 => ?_) (fun h46 => ?_)
          · have h45 : (yA.1 2 ((yA.1 ya 8).toInt.toNat)).toInt ≠ (yA.1 ya 6).toInt := h45
            refine Pa.ic (x := 0) (pc' := 23) (by rfl) (by rfl) (by decide) ?_
            refine Pa.iret (by rfl) ?_
            show Pa N 13 117 [(0, .ref 46), (1, .ref ya), (2, .int yk), (3, .int yt), (4, .ref 44)] [.int 0, .int 4, .ref 44] (uI yA 44 5 1) _
            refine Pa.if1k true (by rfl) (by rfl) (by decide) ?_
            show Pa N 13 124 [(0, .ref 46), (1, .ref ya), (2, .int yk), (3, .int yt), (4, .ref 44)] [.int 4, .ref 44] (uI yA 44 5 1) _
            refine Pa.ic (x := 0) (pc' := 125) (by rfl) (by rfl) (by decide) ?_
            refine Pa.asts (j' := 4) (by rfl) (by rfl) (by rfl) (fun h47 h48 => ?_)
            show Pa N 13 126 [(0, .ref 46), (1, .ref ya), (2, .int yk), (3, .int yt), (4, .ref 44)] [] (uI (uI yA 44 5 1) 44 4 0) _
            refine Pa.mp 3 (pc' := 175) (l' := [(0, .ref 46), (1, .ref ya), (2, .int yk), (3, .int yt), (4, .ref 44)]) (st' := [.ref ya, .ref 46]) (by rfl) ?_
            refine Pa.gfI (v := yA.1 ya 4) (by rfl) (by rfl) (.inr rfl) (by rfl) (by show (uI (uI yA 44 5 1) 44 4 0).1 ya 4 = yA.1 ya 4; rw [uI_c (by omega), uI_c (by omega)]) ?_
            refine Pa.mp 1 (pc' := 179) (l' := [(0, .ref 46), (1, .ref ya), (2, .int yk), (3, .int yt), (4, .ref 44)]) (st' := [.ref ya, .int (yA.1 ya 4), .ref 46]) (by rfl) ?_
            refine Pa.gfI (v := yA.1 ya 6) (by rfl) (by rfl) (.inr rfl) (by rfl) (by show (uI (uI yA 44 5 1) 44 4 0).1 ya 6 = yA.1 ya 6; rw [uI_c (by omega), uI_c (by omega)]) ?_
            refine Pa.mp 1 (pc' := 183) (l' := [(0, .ref 46), (1, .ref ya), (2, .int yk), (3, .int yt), (4, .ref 44)]) (st' := [.ref ya, .int (yA.1 ya 6), .int (yA.1 ya 4), .ref 46]) (by rfl) ?_
            refine Pa.gfI (v := yA.1 ya 7) (by rfl) (by rfl) (.inr rfl) (by rfl) (by show (uI (uI yA 44 5 1) 44 4 0).1 ya 7 = yA.1 ya 7; rw [uI_c (by omega), uI_c (by omega)]) ?_
            refine Pa.mp 1 (pc' := 187) (l' := [(0, .ref 46), (1, .ref ya), (2, .int yk), (3, .int yt), (4, .ref 44)]) (st' := [.int yk, .int (yA.1 ya 7), .int (yA.1 ya 6), .int (yA.1 ya 4), .ref 46]) (by rfl) ?_
            refine Pa.inv (by rfl) (by rfl) (.inl rfl) (by rfl) ?_
            exact l11 h2 h30 h36 h40 h44 h45
          · have h46 : (yA.1 2 ((yA.1 ya 8).toInt.toNat)).toInt = (yA.1 ya 6).toInt := h46
            refine Pa.ic (x := 1) (pc' := 19) (by rfl) (by rfl) (by decide) ?_
            refine Pa.mp 1 (pc' := 23) (l' := [(0, .ref 1), (1, .int (yA.1 ya 8)), (2, .int (yA.1 ya 6))]) (st' := [.int 1]) (by rfl) ?_
            refine Pa.iret (by rfl) ?_
            show Pa N 13 117 [(0, .ref 46), (1, .ref ya), (2, .int yk), (3, .int yt), (4, .ref 44)] [.int 1, .int 4, .ref 44] (uI yA 44 5 1) _
            refine Pa.if1k false (by rfl) (by rfl) (by decide) ?_
            show Pa N 13 120 [(0, .ref 46), (1, .ref ya), (2, .int yk), (3, .int yt), (4, .ref 44)] [.int 4, .ref 44] (uI yA 44 5 1) _
            refine Pa.ic (x := 1) (pc' := 121) (by rfl) (by rfl) (by decide) ?_
            refine Pa.mp 1 (pc' := 125) (l' := [(0, .ref 46), (1, .ref ya), (2, .int yk), (3, .int yt), (4, .ref 44)]) (st' := [.int 1, .int 4, .ref 44]) (by rfl) ?_
            refine Pa.asts (j' := 4) (by rfl) (by rfl) (by rfl) (fun h49 h50 => ?_)
            show Pa N 13 126 [(0, .ref 46), (1, .ref ya), (2, .int yk), (3, .int yt), (4, .ref 44)] [] (uI (uI yA 44 5 1) 44 4 1) _
            refine Pa.mp 3 (pc' := 175) (l' := [(0, .ref 46), (1, .ref ya), (2, .int yk), (3, .int yt), (4, .ref 44)]) (st' := [.ref ya, .ref 46]) (by rfl) ?_
            refine Pa.gfI (v := yA.1 ya 4) (by rfl) (by rfl) (.inr rfl) (by rfl) (by show (uI (uI yA 44 5 1) 44 4 1).1 ya 4 = yA.1 ya 4; rw [uI_c (by omega), uI_c (by omega)]) ?_
            refine Pa.mp 1 (pc' := 179) (l' := [(0, .ref 46), (1, .ref ya), (2, .int yk), (3, .int yt), (4, .ref 44)]) (st' := [.ref ya, .int (yA.1 ya 4), .ref 46]) (by rfl) ?_
            refine Pa.gfI (v := yA.1 ya 6) (by rfl) (by rfl) (.inr rfl) (by rfl) (by show (uI (uI yA 44 5 1) 44 4 1).1 ya 6 = yA.1 ya 6; rw [uI_c (by omega), uI_c (by omega)]) ?_
            refine Pa.mp 1 (pc' := 183) (l' := [(0, .ref 46), (1, .ref ya), (2, .int yk), (3, .int yt), (4, .ref 44)]) (st' := [.ref ya, .int (yA.1 ya 6), .int (yA.1 ya 4), .ref 46]) (by rfl) ?_
            refine Pa.gfI (v := yA.1 ya 7) (by rfl) (by rfl) (.inr rfl) (by rfl) (by show (uI (uI yA 44 5 1) 44 4 1).1 ya 7 = yA.1 ya 7; rw [uI_c (by omega), uI_c (by omega)]) ?_
            refine Pa.mp 1 (pc' := 187) (l' := [(0, .ref 46), (1, .ref ya), (2, .int yk), (3, .int yt), (4, .ref 44)]) (st' := [.int yk, .int (yA.1 ya 7), .int (yA.1 ya 6), .int (yA.1 ya 4), .ref 46]) (by rfl) ?_
            refine Pa.inv (by rfl) (by rfl) (.inl rfl) (by rfl) ?_
            exact l12 h2 h30 h36 h40 h44 h46

theorem bx_hu4 {N : Nat} {yA : AW} {yQ : Option Value → AW → Prop} (ya : Nat) (yk yt yx : Int32)
    (l1 : yx.toInt = 0 → Pa N 14 0 [(0, .ref 46), (1, .int ((uI yA 44 4 0).1 ya 4)), (2, .int (yA.1 ya 6)), (3, .int (yA.1 ya 7)), (4, .int yk)] [] (uI yA 44 4 0) (fun yu A1 => Pa N 13 190 [(0, .ref 46), (1, .ref ya), (2, .int yk), (3, .int yt), (4, .ref 44)] (yu.toList ++ []) A1 yQ))
    (l2 : yx.toInt ≠ 0 → Pa N 14 0 [(0, .ref 46), (1, .int ((uI yA 44 4 1).1 ya 4)), (2, .int (yA.1 ya 6)), (3, .int (yA.1 ya 7)), (4, .int yk)] [] (uI yA 44 4 1) (fun yu A1 => Pa N 13 190 [(0, .ref 46), (1, .ref ya), (2, .int yk), (3, .int yt), (4, .ref 44)] (yu.toList ++ []) A1 yQ)) :
    Pa N 13 164 [(0, .ref 46), (1, .ref ya), (2, .int yk), (3, .int yt), (4, .ref 44)] [.int yx, .int 4, .ref 44] yA yQ := by
  refine Pa.if1 (a := yx.toInt) (t := 171) (by rfl) (by rfl) (rfl) (fun h1 => ?_) (fun h2 => ?_)
  · have h1 : yx.toInt = 0 := h1
    refine Pa.ic (x := 0) (pc' := 172) (by rfl) (by rfl) (by decide) ?_
    refine Pa.asts (j' := 4) (by rfl) (by rfl) (by rfl) (fun h3 h4 => ?_)
    show Pa N 13 173 [(0, .ref 46), (1, .ref ya), (2, .int yk), (3, .int yt), (4, .ref 44)] [] (uI yA 44 4 0) _
    refine Pa.mp 2 (pc' := 175) (l' := [(0, .ref 46), (1, .ref ya), (2, .int yk), (3, .int yt), (4, .ref 44)]) (st' := [.ref ya, .ref 46]) (by rfl) ?_
    refine Pa.gfI (v := (uI yA 44 4 0).1 ya 4) (by rfl) (by rfl) (.inr rfl) (by rfl) (by rfl) ?_
    refine Pa.mp 1 (pc' := 179) (l' := [(0, .ref 46), (1, .ref ya), (2, .int yk), (3, .int yt), (4, .ref 44)]) (st' := [.ref ya, .int ((uI yA 44 4 0).1 ya 4), .ref 46]) (by rfl) ?_
    refine Pa.gfI (v := yA.1 ya 6) (by rfl) (by rfl) (.inr rfl) (by rfl) (by show (uI yA 44 4 0).1 ya 6 = yA.1 ya 6; rw [uI_k (by decide)]) ?_
    refine Pa.mp 1 (pc' := 183) (l' := [(0, .ref 46), (1, .ref ya), (2, .int yk), (3, .int yt), (4, .ref 44)]) (st' := [.ref ya, .int (yA.1 ya 6), .int ((uI yA 44 4 0).1 ya 4), .ref 46]) (by rfl) ?_
    refine Pa.gfI (v := yA.1 ya 7) (by rfl) (by rfl) (.inr rfl) (by rfl) (by show (uI yA 44 4 0).1 ya 7 = yA.1 ya 7; rw [uI_k (by decide)]) ?_
    refine Pa.mp 1 (pc' := 187) (l' := [(0, .ref 46), (1, .ref ya), (2, .int yk), (3, .int yt), (4, .ref 44)]) (st' := [.int yk, .int (yA.1 ya 7), .int (yA.1 ya 6), .int ((uI yA 44 4 0).1 ya 4), .ref 46]) (by rfl) ?_
    refine Pa.inv (by rfl) (by rfl) (.inl rfl) (by rfl) ?_
    exact l1 h1
  · have h2 : yx.toInt ≠ 0 := h2
    refine Pa.ic (x := 1) (pc' := 168) (by rfl) (by rfl) (by decide) ?_
    refine Pa.mp 1 (pc' := 172) (l' := [(0, .ref 46), (1, .ref ya), (2, .int yk), (3, .int yt), (4, .ref 44)]) (st' := [.int 1, .int 4, .ref 44]) (by rfl) ?_
    refine Pa.asts (j' := 4) (by rfl) (by rfl) (by rfl) (fun h5 h6 => ?_)
    show Pa N 13 173 [(0, .ref 46), (1, .ref ya), (2, .int yk), (3, .int yt), (4, .ref 44)] [] (uI yA 44 4 1) _
    refine Pa.mp 2 (pc' := 175) (l' := [(0, .ref 46), (1, .ref ya), (2, .int yk), (3, .int yt), (4, .ref 44)]) (st' := [.ref ya, .ref 46]) (by rfl) ?_
    refine Pa.gfI (v := (uI yA 44 4 1).1 ya 4) (by rfl) (by rfl) (.inr rfl) (by rfl) (by rfl) ?_
    refine Pa.mp 1 (pc' := 179) (l' := [(0, .ref 46), (1, .ref ya), (2, .int yk), (3, .int yt), (4, .ref 44)]) (st' := [.ref ya, .int ((uI yA 44 4 1).1 ya 4), .ref 46]) (by rfl) ?_
    refine Pa.gfI (v := yA.1 ya 6) (by rfl) (by rfl) (.inr rfl) (by rfl) (by show (uI yA 44 4 1).1 ya 6 = yA.1 ya 6; rw [uI_k (by decide)]) ?_
    refine Pa.mp 1 (pc' := 183) (l' := [(0, .ref 46), (1, .ref ya), (2, .int yk), (3, .int yt), (4, .ref 44)]) (st' := [.ref ya, .int (yA.1 ya 6), .int ((uI yA 44 4 1).1 ya 4), .ref 46]) (by rfl) ?_
    refine Pa.gfI (v := yA.1 ya 7) (by rfl) (by rfl) (.inr rfl) (by rfl) (by show (uI yA 44 4 1).1 ya 7 = yA.1 ya 7; rw [uI_k (by decide)]) ?_
    refine Pa.mp 1 (pc' := 187) (l' := [(0, .ref 46), (1, .ref ya), (2, .int yk), (3, .int yt), (4, .ref 44)]) (st' := [.int yk, .int (yA.1 ya 7), .int (yA.1 ya 6), .int ((uI yA 44 4 1).1 ya 4), .ref 46]) (by rfl) ?_
    refine Pa.inv (by rfl) (by rfl) (.inl rfl) (by rfl) ?_
    exact l2 h2

theorem bx_hu5 {N : Nat} {yA : AW} {yQ : Option Value → AW → Prop} (ya : Nat) (yk yt : Int32)
    (l1 : Pa N 4 0 [(0, .ref 38), (1, .int yt)] [] yA (fun yu A1 => Pa N 13 198 [(0, .ref 46), (1, .ref ya), (2, .int yk), (3, .int yt), (4, .ref 44)] (yu.toList ++ []) A1 yQ)) :
    Pa N 13 190 [(0, .ref 46), (1, .ref ya), (2, .int yk), (3, .int yt), (4, .ref 44)] [] yA yQ := by
  refine Pa.mp 1 (pc' := 191) (l' := [(0, .ref 46), (1, .ref ya), (2, .int yk), (3, .int yt), (4, .ref 44)]) (st' := [.ref 46]) (by rfl) ?_
  refine Pa.gfR (by rfl) (by rfl) (.inl rfl) (by rfl) ?_
  show Pa N 13 194 [(0, .ref 46), (1, .ref ya), (2, .int yk), (3, .int yt), (4, .ref 44)] [.ref 38] yA _
  refine Pa.mp 1 (pc' := 195) (l' := [(0, .ref 46), (1, .ref ya), (2, .int yk), (3, .int yt), (4, .ref 44)]) (st' := [.int yt, .ref 38]) (by rfl) ?_
  refine Pa.inv (by rfl) (by rfl) (.inr rfl) (by rfl) ?_
  exact l1

theorem bx_hu6 {N : Nat} {yA : AW} {yQ : Option Value → AW → Prop} (ya : Nat) (yk yt yv : Int32)
    (l1 : yQ (some (.int (i_max 0 (i_min yv 100)))) (uI yA 46 6 (yA.1 38 9))) :
    Pa N 13 198 [(0, .ref 46), (1, .ref ya), (2, .int yk), (3, .int yt), (4, .ref 44)] [.int yv] yA yQ := by
  refine Pa.mp 3 (pc' := 202) (l' := [(5, .int yv), (0, .ref 46), (1, .ref ya), (2, .int yk), (3, .int yt), (4, .ref 44)]) (st' := [.ref 46, .ref 46]) (by rfl) ?_
  refine Pa.gfR (by rfl) (by rfl) (.inl rfl) (by rfl) ?_
  show Pa N 13 205 [(5, .int yv), (0, .ref 46), (1, .ref ya), (2, .int yk), (3, .int yt), (4, .ref 44)] [.ref 38, .ref 46] yA _
  refine Pa.gfI (v := yA.1 38 9) (by rfl) (by rfl) (.inr rfl) (by rfl) (by rfl) ?_
  refine Pa.pfI (by rfl) (by rfl) (.inl rfl) (by rfl) ?_
  show Pa N 13 211 [(5, .int yv), (0, .ref 46), (1, .ref ya), (2, .int yk), (3, .int yt), (4, .ref 44)] [] (uI yA 46 6 (yA.1 38 9)) _
  refine Pa.ic (x := 0) (pc' := 212) (by rfl) (by rfl) (by decide) ?_
  refine Pa.mp 1 (pc' := 214) (l' := [(5, .int yv), (0, .ref 46), (1, .ref ya), (2, .int yk), (3, .int yt), (4, .ref 44)]) (st' := [.int yv, .int 0]) (by rfl) ?_
  refine Pa.ic (x := 100) (pc' := 216) (by rfl) (by rfl) (by decide) ?_
  refine Pa.mth (by rfl) (by rfl) (by rfl) mm_min ?_
  refine Pa.mth (by rfl) (by rfl) (by rfl) mm_max ?_
  refine Pa.iret (by rfl) ?_
  exact l1

theorem scX_m {B9 yA yW : AW} (hs : scX B9 yA yW) {l yh : Int32} {yk : Nat → Int32} : scX B9 yA (rnW yW l yh yk) := scX_lw hs ⟨yW.1 44, l, yh, yk, by rw [uG_self]⟩
theorem c_huF {B9 yA : AW} (yg : Rgx yA) {ya yc yq : Nat} {yt : Int32} {ds : List Int32} (yh : rowC yA ya yc) (yk : Int32) (hk : yk.toInt ≤ 3599) (ye : fnT yA (10 * (yA.1 90 (7 * yc + 2)) + 0) (yA.1 90 (7 * yc + 3)) yk = some yq) (hds : txD yA yq ds) (eh : huO yA yc yk = some (rnX (cnE yA yc yk) ds false [] 0)) (et : yt.toInt = (yq : Int)) (N : Nat) : ∀ (V : AW) (yx4 x6 x7 : Int32), scX B9 yA V → yx4 = (yA.1 90 (7 * yc)) → x6 = (yA.1 90 (7 * yc + 2)) → x7 = (yA.1 90 (7 * yc + 3)) → (∀ yi, yi < 6 → yi ≠ 4 → V.1 44 yi = cnE yA yc yk yi) → (V.1 44 4 = cnE yA yc yk 4 ∨ (yA.1 43 yq).toInt = 0) → Pa N 14 0 [(0, .ref 46), (1, .int yx4), (2, .int x6), (3, .int x7), (4, .int yk)] [] V (fun yu A1 => Pa N 13 190 [(0, .ref 46), (1, .ref ya), (2, .int yk), (3, .int yt), (4, .ref 44)] (yu.toList ++ []) A1 (fun yv A1 => yv = some (.int (byV yA yc yk)) ∧ scX B9 yA A1 ∧ A1.1 46 6 = byL yA yc yk)) := by
  have gT := yg.tT
  have gF := yg.tF
  have h150 := yh.c150
  have rg := rw_rg yg.gl h150
  obtain ⟨⟨yf0, yf1⟩, yw0, yw1⟩ := yg.gl.rf yc yh.c_T
  have ye7 : ∀ {V : AW}, scX B9 yA V → V.1 38 7 = yA.1 69 45 := fun ys => by rw [ys.2.2.1 7 (by decide) (by decide), yg.f38]
  have hqT : yq < tT yA := ltG_lt ye
  have en : yt.toInt.toNat = yq := by omega
  rintro V _ _ _ sV rfl rfl rfl hV h4
  have e56 : V.1 5 6 = yA.1 69 11 := by rw [sV.1 5 6 (by decide), yg.gl.f5]
  refine bx_pff _ _ _ _ (fun yy => absurd yy (by omega)) (fun _ yy => absurd yy (by rw [e56]; omega)) (fun y1 y2 y3 => ?_)
  have henv := sc_env yg sV (yf := (yA.1 90 (7 * yc))) (l := (yA.1 90 (7 * yc + 2))) (yd := (yA.1 90 (7 * yc + 3))) yf0 (by omega) hk
  generalize hU : uI (uI (uI (uI V 44 6 ((yA.1 90 (7 * yc + 3)) / 360)) 44 7 (ptsX V (yA.1 90 (7 * yc)) (yA.1 90 (7 * yc + 2)) yk)) 44 8 (V.1 7 (yA.1 90 (7 * yc)).toInt.toNat)) 44 9 (bcX (V.1 34 (yA.1 90 (7 * yc)).toInt.toNat)) = yU
  have sU : scX B9 yA yU := by
    rw [← hU]
    exact scX_44 (scX_44 (scX_44 (scX_44 sV)))
  have u3 : ∀ yi, yi < 10 → yi ≠ 4 → yU.1 44 yi = cnE yA yc yk yi := fun yi yhi hi4 => by
    rcases (by omega : yi < 6 ∨ yi = 6 ∨ yi = 7 ∨ yi = 8 ∨ yi = 9) with yz | yz
    · rw [← hU, uI_k (by omega), uI_k (by omega), uI_k (by omega), uI_k (by omega)]
      exact hV yi yz hi4
    · have ye1 : yU.1 44 yi = lwE (yA.1 90 (7 * yc + 3)) (ptsX V (yA.1 90 (7 * yc)) (yA.1 90 (7 * yc + 2)) yk) (V.1 7 (yA.1 90 (7 * yc)).toInt.toNat) (bcX (V.1 34 (yA.1 90 (7 * yc)).toInt.toNat)) yi := by
        rw [← hU]
        rcases yz with yz | yz | yz | yz <;> subst yz <;> rfl
      rw [ye1, henv]
      unfold cnE
      rw [if_neg (by omega), if_neg (by omega), if_neg (by omega), if_neg (by omega), if_neg (by omega), if_neg (by omega)]
  have yu4 : yU.1 44 4 = V.1 44 4 := by rw [← hU, uI_k (by decide), uI_k (by decide), uI_k (by decide), uI_k (by decide)]
  have hr : rnX (yU.1 44) ds false [] 0 = rnX (cnE yA yc yk) ds false [] 0 := by
    rcases h4 with h4 | h4
    · refine rnX_cg (fun yi yhi => ?_) _ _ _ _
      by_cases yz : yi = 4
      · rw [yz, yu4, h4]
      · exact u3 yi yhi yz
    · exact rnX_c5 u3 ds (tx_no5 (yg.tx yq hqT) hds h4) _ _ _
  refine bx_hu5 ya yk yt ?_
  refine Pa.mono (c_runT (yA := yU) (yB := yU) (yt := yt) (ds := ds) (by omega) (by rw [ye7 sU]; unfold tT at hqT; omega) (by rw [en]; exact sc_tx sU (yg.tx yq hqT)) (by rw [en]; exact (sc_txD sU).mpr hds) (fun _ _ _ => rfl) rfl N) (fun yv A2 hv => ?_)
  obtain ⟨rfl, q5', yk5, rfl⟩ := hv
  rw [hr]
  refine bx_hu6 ya yk yt _ ⟨?_, scX_46 (scX_m sU), ?_⟩
  · rw [(by_1 eh).1, clX_1]
  · rw [(by_1 eh).2, uI_h, rnW_9]
theorem c_huN {B9 yA yW : AW} (hs : scX B9 yA yW) {ya yc : Nat} (yh : rowC yA ya yc) (yk : Int32) (hl : yW.1 46 6 = -1) (ye : fnT yA (10 * (yA.1 90 (7 * yc + 2)) + 0) (yA.1 90 (7 * yc + 3)) yk = none) (N : Nat) : Pa N 13 21 [(0, .ref 46), (1, .ref ya), (2, .int yk)] [.int (enG (-4) none)] yW (fun yv A1 => yv = some (.int (byV yA yc yk)) ∧ scX B9 yA A1 ∧ A1.1 46 6 = byL yA yc yk) := by
  have eh : huO yA yc yk = none := txO_0 ye
  have yex : x_tab 3 0 = 100 := by decide
  refine bx_hu1 yk _ yh.a9 (fun yq => absurd yq (by decide)) (fun _ => ⟨?_, hs, ?_⟩)
  · rw [(by_0 eh).1, yex]
  · rw [(by_0 eh).2]
    exact hl
theorem c_huP {B9 yA V : AW} (yg : Rgx yA) (ys2 : scX B9 yA V) {ya yc yq : Nat} (yh : rowC yA ya yc) (yk yt : Int32) (N : Nat) (yfin : ∀ (V : AW) (yx4 x6 x7 : Int32), scX B9 yA V → yx4 = (yA.1 90 (7 * yc)) → x6 = (yA.1 90 (7 * yc + 2)) → x7 = (yA.1 90 (7 * yc + 3)) → (∀ yi, yi < 6 → yi ≠ 4 → V.1 44 yi = cnE yA yc yk yi) → (V.1 44 4 = cnE yA yc yk 4 ∨ (yA.1 43 yq).toInt = 0) → Pa N 14 0 [(0, .ref 46), (1, .int yx4), (2, .int x6), (3, .int x7), (4, .int yk)] [] V (fun yu A1 => Pa N 13 190 [(0, .ref 46), (1, .ref ya), (2, .int yk), (3, .int yt), (4, .ref 44)] (yu.toList ++ []) A1 (fun yv A1 => yv = some (.int (byV yA yc yk)) ∧ scX B9 yA A1 ∧ A1.1 46 6 = byL yA yc yk))) (facts : ∀ (yx : Int32) (yU : AW), yx = rlV yA yc yk → (∀ yi, yi ≠ 4 → yU.1 44 yi = (uI V 44 5 yx).1 44 yi) → ∀ yi, yi < 6 → yi ≠ 4 → yU.1 44 yi = cnE yA yc yk yi) : ∀ yx, yx = rlV yA yc yk → (V.1 ya 3).toInt = 0 → Pa N 59 0 [(0, .ref 12), (1, .int (V.1 ya 8)), (2, .int (V.1 ya 6)), (3, .int (V.1 ya 7)), (4, .int yk)] [] (uI V 44 5 yx) (fun yu A1 => Pa N 13 164 [(0, .ref 46), (1, .ref ya), (2, .int yk), (3, .int yt), (4, .ref 44)] (yu.toList ++ [.int 4, .ref 44]) A1 (fun yv A1 => yv = some (.int (byV yA yc yk)) ∧ scX B9 yA A1 ∧ A1.1 46 6 = byL yA yc yk)) := by
  have h150 := yh.c150
  have rg := rw_rg yg.gl h150
  obtain ⟨⟨yf0, yf1⟩, yw0, yw1⟩ := yg.gl.rf yc yh.c_T
  obtain ⟨z0, z1, z2, z3, z4, z5, z6, z7, z8, z9, z10, z11, z12, yz13, yz14⟩ := yh.row
  have yq6 : ∀ {V : AW}, scX B9 yA V → V.1 ya 6 = (yA.1 90 (7 * yc + 2)) := fun ys => (sc_row ys yh.a9 6).trans z6
  have yq7 : ∀ {V : AW}, scX B9 yA V → V.1 ya 7 = (yA.1 90 (7 * yc + 3)) := fun ys => (sc_row ys yh.a9 7).trans z7
  have yq4 : ∀ {V : AW}, scX B9 yA V → V.1 ya 4 = (yA.1 90 (7 * yc)) := fun ys => (sc_row ys yh.a9 4).trans z4
  have yq8 : ∀ {V : AW}, scX B9 yA V → V.1 ya 8 = (yA.1 90 (7 * yc + 4)) := fun ys => (sc_row ys yh.a9 8).trans z8
  have yq3 : ∀ {V : AW}, scX B9 yA V → V.1 ya 3 = isUx (yA.1 89 yc) 2 := fun ys => (sc_row ys yh.a9 3).trans z3
  have hu := isUx2 (yA.1 89 yc) yz13 yz14
  have noH : (V.1 ya 3).toInt = 0 → ¬ toH (yA.1 89 yc) := fun yy => by
    rw [yq3 ys2] at yy
    rcases hu with ⟨yu1, yu2⟩ | ⟨yu1, yu2⟩
    · omega
    · exact yu1
  intro yx hx yy
  have nh := noH yy
  have ywp : (yA.1 90 (7 * yc + 4)).toInt < (yA.1 69 13).toInt := by
    rcases yw1 with ⟨b1, -⟩ | ⟨-, b2⟩
    · exact absurd b1 nh
    · exact b2
  have ys3 := scX_44 (yq := 5) (ym := yx) ys2
  have e128 : (uI V 44 5 yx).1 12 8 = yA.1 69 19 := by
    rw [ys3.1 12 8 (by decide)]
    exact yg.F11 ((12, 8), (69, 19)) (by simp [F11])
  have ye127 : (uI V 44 5 yx).1 12 7 = yA.1 69 13 := by rw [ys3.1 12 7 (by decide), yg.gl.f12]
  have g2 := yg.gl.ok.fld (i := 69) (k := 19) (lo := 0) (hi := 200) (by decide +kernel)
  rw [yq8 ys2, yq6 ys2, yq7 ys2]
  refine Pa.mono (c_livX N (uI V 44 5 yx) (yA.1 90 (7 * yc + 4)) (yA.1 90 (7 * yc + 2)) (yA.1 90 (7 * yc + 3)) yk (by rw [e128]; exact g2.2) yw0 (by rw [ye127]; exact ywp) rg.2.1 rg.2.2) (fun yv A4 hv => ?_)
  obtain ⟨rfl, rfl⟩ := hv
  rw [livX_S yg ys3 yw0 ywp]
  have ys4 : scX B9 yA (uF (uI V 44 5 yx) 19 (grdX (uI V 44 5 yx) (yA.1 90 (7 * yc + 4)) (yA.1 90 (7 * yc + 3)) yk)) := scX_19 ys3
  have hlo : loV yA yc yk = livM yA (yA.1 90 (7 * yc + 4)) (yA.1 90 (7 * yc + 2)) (yA.1 90 (7 * yc + 3)) yk := loV_p nh
  have vf : ∀ yy yi, yi ≠ 4 → (uI (uF (uI V 44 5 yx) 19 (grdX (uI V 44 5 yx) (yA.1 90 (7 * yc + 4)) (yA.1 90 (7 * yc + 3)) yk)) 44 4 yy).1 44 yi = (uI V 44 5 yx).1 44 yi := fun yy yi yhi => by rw [uI_k yhi, uF_c (by decide)]
  refine bx_hu4 ya yk yt _ (fun y2 => ?_) (fun y2 => ?_)
  · exact yfin _ _ _ _ (scX_44 ys4) (yq4 (scX_44 ys4)) (yq6 ys4) (yq7 ys4) (facts yx _ hx (vf 0)) (.inl (by rw [uI_h, cnE_4, hlo]; exact (yes_01.1 y2).symm))
  · exact yfin _ _ _ _ (scX_44 ys4) (yq4 (scX_44 ys4)) (yq6 ys4) (yq7 ys4) (facts yx _ hx (vf 1)) (.inl (by rw [uI_h, cnE_4, hlo]; exact (yes_01.2 y2).symm))
theorem c_huX {B9 yA yW : AW} (yg : Rgx yA) (hs : scX B9 yA yW) {ya yc : Nat} (yh : rowC yA ya yc) (yk : Int32) (hk : yk.toInt ≤ 3599) (hl : yW.1 46 6 = -1) (N : Nat) : Pa N 13 0 [(0, .ref 46), (1, .ref ya), (2, .int yk)] [] yW (fun yv A1 => yv = some (.int (byV yA yc yk)) ∧ scX B9 yA A1 ∧ A1.1 46 6 = byL yA yc yk) := by
  have gT := yg.tT
  have gF := yg.tF
  have h150 := yh.c150
  have rg := rw_rg yg.gl h150
  obtain ⟨⟨yf0, yf1⟩, yw0, yw1⟩ := yg.gl.rf yc yh.c_T
  obtain ⟨z0, z1, z2, z3, z4, z5, z6, z7, z8, z9, z10, z11, z12, yz13, yz14⟩ := yh.row
  have ye7 : ∀ {V : AW}, scX B9 yA V → V.1 38 7 = yA.1 69 45 := fun ys => by rw [ys.2.2.1 7 (by decide) (by decide), yg.f38]
  have e8 : (yW.1 38 8).toInt < (yW.1 38 7).toInt := by rw [hs.2.2.1 8 (by decide) (by decide), ye7 hs]; exact yg.tr
  have yq6 : ∀ {V : AW}, scX B9 yA V → V.1 ya 6 = (yA.1 90 (7 * yc + 2)) := fun ys => (sc_row ys yh.a9 6).trans z6
  have yq7 : ∀ {V : AW}, scX B9 yA V → V.1 ya 7 = (yA.1 90 (7 * yc + 3)) := fun ys => (sc_row ys yh.a9 7).trans z7
  have yq4 : ∀ {V : AW}, scX B9 yA V → V.1 ya 4 = (yA.1 90 (7 * yc)) := fun ys => (sc_row ys yh.a9 4).trans z4
  have yq8 : ∀ {V : AW}, scX B9 yA V → V.1 ya 8 = (yA.1 90 (7 * yc + 4)) := fun ys => (sc_row ys yh.a9 8).trans z8
  have yq3 : ∀ {V : AW}, scX B9 yA V → V.1 ya 3 = isUx (yA.1 89 yc) 2 := fun ys => (sc_row ys yh.a9 3).trans z3
  have yq1 : ∀ {V : AW}, scX B9 yA V → V.1 ya 1 = yA.1 89 yc := fun ys => (sc_row ys yh.a9 1).trans z1
  have yq5 : ∀ {V : AW}, scX B9 yA V → V.1 ya 5 = yA.1 90 (7 * yc + 1) := fun ys => (sc_row ys yh.a9 5).trans z5
  have yq10 : ∀ {V : AW}, scX B9 yA V → V.1 ya 10 = yA.1 90 (7 * yc + 6) := fun ys => (sc_row ys yh.a9 10).trans z10
  have hu := isUx2 (yA.1 89 yc) yz13 yz14
  refine bx_hu0 ya yk (Pa.mono (c_findT N yW (yW.1 ya 6 * 10 + 0) (yW.1 ya 7) yk e8 (by rw [ye7 hs]; omega) (by rw [ye7 hs]; omega)) (fun yv A1w hv => ?_))
  obtain ⟨rfl, rfl⟩ := hv
  rw [sc_fn yg hs, yq6 hs, yq7 hs, Int32.mul_comm _ 10]
  cases ye : fnT yA (10 * (yA.1 90 (7 * yc + 2)) + 0) (yA.1 90 (7 * yc + 3)) yk with
  | none =>
    exact c_huN hs yh yk hl ye N
  | some yq =>
    have hq : yq < 20 := by have := ltG_lt ye; unfold tT at this; omega
    have hqT : yq < tT yA := ltG_lt ye
    have et : (enG (-4) (some yq)).toInt = (yq : Int) := i32_nat (by omega)
    obtain ⟨ds, hds⟩ := txD_of (yg.tx yq hqT)
    have eh : huO yA yc yk = some (rnX (cnE yA yc yk) ds false [] 0) := txO_1 ye hds
    generalize ht : enG (-4) (some yq) = yt at et
    have en : yt.toInt.toNat = yq := by omega
    have yfin := fun V yx4 x6 x7 => c_huF (B9 := B9) (yt := yt) yg yh yk hk ye hds eh et N V yx4 x6 x7
    refine bx_hu1 yk yt yh.a9 (fun _ => ?_) (fun yq => absurd yq (by omega))
    have ys1 : scX B9 yA (uI (uI A1w 44 0 (A1w.1 ya 1)) 44 1 (A1w.1 ya 10)) := scX_44 (scX_44 hs)
    refine Pa.mono (c_cbyS ys1 yh yk N) (fun yv A2 hv => ?_)
    obtain ⟨rfl, rfl⟩ := hv
    refine bx_hu2 yk yt _ yh.a9 ?_
    generalize hV2 : uI (uI (uI (uI A1w 44 0 (A1w.1 ya 1)) 44 1 (A1w.1 ya 10)) 44 2 (kofM yA (Int32.ofNat yc) yk)) 44 3 ((uI (uI A1w 44 0 (A1w.1 ya 1)) 44 1 (A1w.1 ya 10)).1 ya 5) = V2
    have ys2 : scX B9 yA V2 := by
      rw [← hV2]
      exact scX_44 (scX_44 ys1)
    have yv0 : V2.1 44 0 = yA.1 89 yc ∧ V2.1 44 1 = yA.1 90 (7 * yc + 6) ∧ V2.1 44 2 = kofM yA (Int32.ofNat yc) yk ∧ V2.1 44 3 = yA.1 90 (7 * yc + 1) := by
      rw [← hV2]
      refine ⟨?_, ?_, ?_, ?_⟩
      · rw [uI_k (by decide), uI_k (by decide), uI_k (by decide), uI_h, yq1 hs]
      · rw [uI_k (by decide), uI_k (by decide), uI_h, yq10 hs]
      · rw [uI_k (by decide), uI_h]
      · rw [uI_h, yq5 ys1]
    refine Pa.mono (c_relX yg.gl ys2 yh yk hk N) (fun yv A3 hv => ?_)
    obtain ⟨rfl, rfl⟩ := hv
    obtain ⟨yd0, yd1, yd2, yd3⟩ := yv0
    -- the facts are named but yfor the fourth
    have facts : ∀ (yx : Int32) (V : AW), yx = rlV yA yc yk → (∀ yi, yi ≠ 4 → V.1 44 yi = (uI A3 44 5 yx).1 44 yi) → ∀ yi, yi < 6 → yi ≠ 4 → V.1 44 yi = cnE yA yc yk yi := fun yx V hx hV yi yhi hi4 => by
      rw [hV yi hi4]
      rcases (by omega : yi = 0 ∨ yi = 1 ∨ yi = 2 ∨ yi = 3 ∨ yi = 5) with yz | yz | yz | yz | yz <;> subst yz
      · rw [uI_k (by decide), yd0, cnE_0]
      · rw [uI_k (by decide), yd1, cnE_1]
      · rw [uI_k (by decide), yd2, cnE_2]
      · rw [uI_k (by decide), yd3, cnE_3]
      · rw [uI_h, hx, cnE_5]
    have u2x : ∀ yj, A3.1 2 yj = yA.1 2 yj := fun yj => ys2.1 2 yj (by decide)
    have ye13 : A3.1 1 3 = yA.1 69 7 := by rw [ys2.1 1 3 (by decide), yg.gl.f1]
    have e43 : A3.1 43 yt.toInt.toNat = yA.1 43 yq := by rw [en]; exact ys2.1 43 yq (by decide)
    have isH : (A3.1 ya 3).toInt ≠ 0 → toH (yA.1 89 yc) := fun yy => by
      rw [yq3 ys2] at yy
      rcases hu with ⟨yu1, yu2⟩ | ⟨yu1, yu2⟩
      · exact yu1
      · exact absurd yu2 yy
    have noH : (A3.1 ya 3).toInt = 0 → ¬ toH (yA.1 89 yc) := fun yy => by
      rw [yq3 ys2] at yy
      rcases hu with ⟨yu1, yu2⟩ | ⟨yu1, yu2⟩
      · omega
      · exact yu1
    have gH := yg.gl.ok.fld (i := 69) (k := 7) (lo := 0) (hi := 20) (by decide +kernel)
    have r0 : (rlV yA yc yk).toInt = 0 → (0 : Int32) = rlV yA yc yk := fun yy => (rlV_01.1 yy).symm
    have yr1 : (rlV yA yc yk).toInt ≠ 0 → (1 : Int32) = rlV yA yc yk := fun yy => (rlV_01.2 yy).symm
    -- no home is asked
    have yc1 : ∀ yx, yx = rlV yA yc yk → (A3.1 43 yt.toInt.toNat).toInt = 0 → Pa N 14 0 [(0, .ref 46), (1, .int (A3.1 ya 4)), (2, .int (A3.1 ya 6)), (3, .int (A3.1 ya 7)), (4, .int yk)] [] (uI A3 44 5 yx) (fun yu A1 => Pa N 13 190 [(0, .ref 46), (1, .ref ya), (2, .int yk), (3, .int yt), (4, .ref 44)] (yu.toList ++ []) A1 (fun yv A1 => yv = some (.int (byV yA yc yk)) ∧ scX B9 yA A1 ∧ A1.1 46 6 = byL yA yc yk)) := fun yx hx yy =>
      yfin _ _ _ _ (scX_44 ys2) (yq4 ys2) (yq6 ys2) (yq7 ys2) (facts yx _ hx (fun _ _ => rfl)) (.inr (by rw [← e43]; exact yy))
    -- ya house
    have yc2 : ∀ yx yy, yx = rlV yA yc yk → (A3.1 ya 3).toInt ≠ 0 → yy = loV yA yc yk → Pa N 14 0 [(0, .ref 46), (1, .int (A3.1 ya 4)), (2, .int (A3.1 ya 6)), (3, .int (A3.1 ya 7)), (4, .int yk)] [] (uI (uI A3 44 5 yx) 44 4 yy) (fun yu A1 => Pa N 13 190 [(0, .ref 46), (1, .ref ya), (2, .int yk), (3, .int yt), (4, .ref 44)] (yu.toList ++ []) A1 (fun yv A1 => yv = some (.int (byV yA yc yk)) ∧ scX B9 yA A1 ∧ A1.1 46 6 = byL yA yc yk)) := fun yx yy hx _ hy =>
      yfin _ _ _ _ (scX_44 (scX_44 ys2)) (yq4 ys2) (yq6 ys2) (yq7 ys2) (facts yx _ hx (fun yi yhi => uI_k yhi)) (.inl (by rw [uI_h, hy, cnE_4]))
    have yc3 := c_huP (yq := yq) yg ys2 yh yk yt N yfin facts
    have hw : ∀ {yy : Int32}, toH (yA.1 89 yc) → ((yA.1 2 (yA.1 90 (7 * yc + 4)).toInt.toNat).toInt = (yA.1 90 (7 * yc + 2)).toInt → yy = 1) → ((yA.1 2 (yA.1 90 (7 * yc + 4)).toInt.toNat).toInt ≠ (yA.1 90 (7 * yc + 2)).toInt → yy = 0) → yy = loV yA yc yk := fun th y1 y0 => by
      have wh : (yA.1 90 (7 * yc + 4)).toInt < (yA.1 69 7).toInt := by
        rcases yw1 with ⟨-, b2⟩ | ⟨b1, -⟩
        · exact b2
        · exact absurd th b1
      rw [yg.gl.r2 _ (by omega)] at y0 y1
      rw [loV_h th]
      by_cases yz : (yA.1 73 (yA.1 90 (7 * yc + 4)).toInt.toNat).toInt = (yA.1 90 (7 * yc + 2)).toInt
      · rw [if_pos yz, y1 yz]
      · rw [if_neg yz, y0 yz]
    have wh : (A3.1 ya 3).toInt ≠ 0 → (A3.1 ya 8).toInt < 0 → False := fun y1 y2 => by
      rw [yq8 ys2] at y2
      omega
    have wh2 : (A3.1 ya 3).toInt ≠ 0 → (A3.1 1 3).toInt ≤ (A3.1 ya 8).toInt → False := fun y1 y2 => by
      rw [yq8 ys2, ye13] at y2
      rcases yw1 with ⟨-, b2⟩ | ⟨b1, -⟩
      · omega
      · exact b1 (isH y1)
    have inL : ∀ {yy : Int32}, (A3.1 ya 3).toInt ≠ 0 → ((A3.1 2 (A3.1 ya 8).toInt.toNat).toInt = (A3.1 ya 6).toInt → yy = 1) → ((A3.1 2 (A3.1 ya 8).toInt.toNat).toInt ≠ (A3.1 ya 6).toInt → yy = 0) → yy = loV yA yc yk := fun y1 y2 y3 => by
      rw [yq8 ys2, yq6 ys2, u2x] at y2 y3
      exact hw (isH y1) y2 y3
    refine bx_hu3 yk yt _ yh.a9 (fun yx1 yx2 _ _ x3 => yc1 0 (r0 yx1) x3) (fun yx1 yx2 _ _ x3 => yc3 0 (r0 yx1) yx2) (fun yx1 yx2 x3 => (wh yx2 x3).elim) (fun yx1 yx2 x3 yx4 => (wh2 yx2 yx4).elim) (fun yx1 yx2 x3 yx4 yx5 x6 => yc2 0 0 (r0 yx1) yx2 (inL yx2 (fun yz => absurd yz x6) (fun _ => rfl))) (fun yx1 yx2 x3 yx4 yx5 x6 => yc2 0 1 (r0 yx1) yx2 (inL yx2 (fun _ => rfl) (fun yz => absurd x6 yz)))
      (fun yx1 yx2 _ _ x3 => yc1 1 (yr1 yx1) x3) (fun yx1 yx2 _ _ x3 => yc3 1 (yr1 yx1) yx2) (fun yx1 yx2 x3 => (wh yx2 x3).elim) (fun yx1 yx2 x3 yx4 => (wh2 yx2 yx4).elim) (fun yx1 yx2 x3 yx4 yx5 x6 => yc2 1 0 (yr1 yx1) yx2 (inL yx2 (fun yz => absurd yz x6) (fun _ => rfl))) (fun yx1 yx2 x3 yx4 yx5 x6 => yc2 1 1 (yr1 yx1) yx2 (inL yx2 (fun _ => rfl) (fun yz => absurd x6 yz)))
theorem bx_ct0 {N : Nat} {yA : AW} {yQ : Option Value → AW → Prop} (ya : Nat) (yk : Int32)
    (l1 : Pa N 28 0 [(0, .ref 30), (1, .ref ya)] [] (uI yA 46 6 (-1)) (fun yu A1 => Pa N 12 13 [(0, .ref 46), (1, .ref ya), (2, .int yk)] (yu.toList ++ []) A1 yQ)) :
    Pa N 12 0 [(0, .ref 46), (1, .ref ya), (2, .int yk)] [] yA yQ := by
  refine Pa.mp 1 (pc' := 1) (l' := [(0, .ref 46), (1, .ref ya), (2, .int yk)]) (st' := [.ref 46]) (by rfl) ?_
  refine Pa.ic (x := (-1)) (pc' := 2) (by rfl) (by rfl) (by decide) ?_
  refine Pa.pfI (by rfl) (by rfl) (.inl rfl) (by rfl) ?_
  show Pa N 12 5 [(0, .ref 46), (1, .ref ya), (2, .int yk)] [] (uI yA 46 6 (-1)) _
  refine Pa.mp 1 (pc' := 6) (l' := [(0, .ref 46), (1, .ref ya), (2, .int yk)]) (st' := [.ref 46]) (by rfl) ?_
  refine Pa.gfR (by rfl) (by rfl) (.inl rfl) (by rfl) ?_
  show Pa N 12 9 [(0, .ref 46), (1, .ref ya), (2, .int yk)] [.ref 30] (uI yA 46 6 (-1)) _
  refine Pa.mp 1 (pc' := 10) (l' := [(0, .ref 46), (1, .ref ya), (2, .int yk)]) (st' := [.ref ya, .ref 30]) (by rfl) ?_
  refine Pa.inv (by rfl) (by rfl) (.inr rfl) (by rfl) ?_
  exact l1

theorem bx_ct1 {N : Nat} {yA : AW} {yQ : Option Value → AW → Prop} (ya : Nat) (yk yx : Int32)
    (l1 : yx.toInt = 0 → Pa N 11 0 [(0, .ref 46), (1, .ref ya), (2, .int yk)] [] yA (fun yu A1 => Pa N 12 45 [(0, .ref 46), (1, .ref ya), (2, .int yk)] (yu.toList ++ []) A1 yQ))
    (l2 : yx.toInt ≠ 0 → Pa N 15 0 [(0, .ref 46), (1, .int 4), (2, .int (yA.1 ya 6)), (3, .int (yA.1 ya 4)), (4, .int (yA.1 ya 7)), (5, .int yk)] [] yA (fun yu A1 => Pa N 12 34 [(0, .ref 46), (1, .ref ya), (2, .int yk)] (yu.toList ++ []) A1 yQ)) :
    Pa N 12 13 [(0, .ref 46), (1, .ref ya), (2, .int yk)] [.int yx] yA yQ := by
  refine Pa.if1 (a := yx.toInt) (t := 39) (by rfl) (by rfl) (rfl) (fun h1 => ?_) (fun h2 => ?_)
  · have h1 : yx.toInt = 0 := h1
    refine Pa.mp 3 (pc' := 42) (l' := [(0, .ref 46), (1, .ref ya), (2, .int yk)]) (st' := [.int yk, .ref ya, .ref 46]) (by rfl) ?_
    refine Pa.inv (by rfl) (by rfl) (.inl rfl) (by rfl) ?_
    exact l1 h1
  · have h2 : yx.toInt ≠ 0 := h2
    refine Pa.mp 1 (pc' := 17) (l' := [(0, .ref 46), (1, .ref ya), (2, .int yk)]) (st' := [.ref 46]) (by rfl) ?_
    refine Pa.ic (x := 4) (pc' := 18) (by rfl) (by rfl) (by decide) ?_
    refine Pa.mp 1 (pc' := 19) (l' := [(0, .ref 46), (1, .ref ya), (2, .int yk)]) (st' := [.ref ya, .int 4, .ref 46]) (by rfl) ?_
    refine Pa.gfI (v := yA.1 ya 6) (by rfl) (by rfl) (.inr rfl) (by rfl) (by rfl) ?_
    refine Pa.mp 1 (pc' := 23) (l' := [(0, .ref 46), (1, .ref ya), (2, .int yk)]) (st' := [.ref ya, .int (yA.1 ya 6), .int 4, .ref 46]) (by rfl) ?_
    refine Pa.gfI (v := yA.1 ya 4) (by rfl) (by rfl) (.inr rfl) (by rfl) (by rfl) ?_
    refine Pa.mp 1 (pc' := 27) (l' := [(0, .ref 46), (1, .ref ya), (2, .int yk)]) (st' := [.ref ya, .int (yA.1 ya 4), .int (yA.1 ya 6), .int 4, .ref 46]) (by rfl) ?_
    refine Pa.gfI (v := yA.1 ya 7) (by rfl) (by rfl) (.inr rfl) (by rfl) (by rfl) ?_
    refine Pa.mp 1 (pc' := 31) (l' := [(0, .ref 46), (1, .ref ya), (2, .int yk)]) (st' := [.int yk, .int (yA.1 ya 7), .int (yA.1 ya 4), .int (yA.1 ya 6), .int 4, .ref 46]) (by rfl) ?_
    refine Pa.inv (by rfl) (by rfl) (.inl rfl) (by rfl) ?_
    exact l2 h2

theorem bx_ct2 {N : Nat} {yA : AW} {yQ : Option Value → AW → Prop} (ya : Nat) (yk yx : Int32)
    (l1 : yx.toInt ≠ 0 → Pa N 11 0 [(0, .ref 46), (1, .ref ya), (2, .int yk)] [] yA (fun yu A1 => Pa N 12 45 [(0, .ref 46), (1, .ref ya), (2, .int yk)] (yu.toList ++ []) A1 yQ))
    (l2 : yx.toInt = 0 → yQ (some (.int 0)) yA) :
    Pa N 12 34 [(0, .ref 46), (1, .ref ya), (2, .int yk)] [.int yx] yA yQ := by
  refine Pa.if1 (a := yx.toInt) (t := 39) (by rfl) (by rfl) (rfl) (fun h1 => ?_) (fun h2 => ?_)
  · have h1 : yx.toInt ≠ 0 := h1
    refine Pa.mp 3 (pc' := 42) (l' := [(0, .ref 46), (1, .ref ya), (2, .int yk)]) (st' := [.int yk, .ref ya, .ref 46]) (by rfl) ?_
    refine Pa.inv (by rfl) (by rfl) (.inl rfl) (by rfl) ?_
    exact l1 h1
  · have h2 : yx.toInt = 0 := h2
    refine Pa.ic (x := 0) (pc' := 38) (by rfl) (by rfl) (by decide) ?_
    refine Pa.iret (by rfl) ?_
    exact l2 h2

theorem bx_ct3 {N : Nat} {yA : AW} {yQ : Option Value → AW → Prop} (ya : Nat) (yk yx : Int32)
    (l1 : Pa N 62 0 [(0, .ref 20), (1, .int (yA.1 ya 6)), (2, .int (yA.1 ya 7))] [] yA (fun yu A1 => Pa N 12 61 [(0, .ref 46), (1, .ref ya), (2, .int yk)] (yu.toList ++ [.long yx.toInt64]) A1 yQ)) :
    Pa N 12 45 [(0, .ref 46), (1, .ref ya), (2, .int yk)] [.int yx] yA yQ := by
  refine Pa.mp 2 (pc' := 47) (l' := [(0, .ref 46), (1, .ref ya), (2, .int yk)]) (st' := [.ref 46, .long yx.toInt64]) (by rfl) ?_
  refine Pa.gfR (by rfl) (by rfl) (.inl rfl) (by rfl) ?_
  show Pa N 12 50 [(0, .ref 46), (1, .ref ya), (2, .int yk)] [.ref 20, .long yx.toInt64] yA _
  refine Pa.mp 1 (pc' := 51) (l' := [(0, .ref 46), (1, .ref ya), (2, .int yk)]) (st' := [.ref ya, .ref 20, .long yx.toInt64]) (by rfl) ?_
  refine Pa.gfI (v := yA.1 ya 6) (by rfl) (by rfl) (.inr rfl) (by rfl) (by rfl) ?_
  refine Pa.mp 1 (pc' := 55) (l' := [(0, .ref 46), (1, .ref ya), (2, .int yk)]) (st' := [.ref ya, .int (yA.1 ya 6), .ref 20, .long yx.toInt64]) (by rfl) ?_
  refine Pa.gfI (v := yA.1 ya 7) (by rfl) (by rfl) (.inr rfl) (by rfl) (by rfl) ?_
  refine Pa.inv (by rfl) (by rfl) (.inr rfl) (by rfl) ?_
  exact l1

theorem bx_ct4 {N : Nat} {yA : AW} {yQ : Option Value → AW → Prop} (ya : Nat) (yk yy : Int32) (yx : Int64)
    (l1 : Pa N 13 0 [(0, .ref 46), (1, .ref ya), (2, .int yk)] [] yA (fun yu A1 => Pa N 12 75 [(0, .ref 46), (1, .ref ya), (2, .int yk), (3, .long ((yx * yy.toInt64) / 1000))] (yu.toList ++ [.long ((yx * yy.toInt64) / 1000)]) A1 yQ)) :
    Pa N 12 61 [(0, .ref 46), (1, .ref ya), (2, .int yk)] [.int yy, .long yx] yA yQ := by
  refine Pa.mp 2 (pc' := 63) (l' := [(0, .ref 46), (1, .ref ya), (2, .int yk)]) (st' := [.long (yx * yy.toInt64)]) (by rfl) ?_
  refine Pa.jcl (x := 1000) (pc' := 66) (by rfl) (fun _ _ _ => by rfl) (by decide) ?_
  refine Pa.ldiv (by rfl) ?_
  refine Pa.mp 5 (pc' := 72) (l' := [(3, .long ((yx * yy.toInt64) / 1000)), (0, .ref 46), (1, .ref ya), (2, .int yk)]) (st' := [.int yk, .ref ya, .ref 46, .long ((yx * yy.toInt64) / 1000)]) (by rfl) ?_
  refine Pa.lv (l' := [(0, .ref 46), (1, .ref ya), (2, .int yk), (3, .long ((yx * yy.toInt64) / 1000))]) (lvS_c rfl (lvS_c rfl (lvS_c rfl (lvS_c rfl (lvS_nil))))) rfl ?_
  refine Pa.inv (by rfl) (by rfl) (.inl rfl) (by rfl) ?_
  exact l1

theorem bx_ct5 {N : Nat} {yA : AW} {yQ : Option Value → AW → Prop} (ya : Nat) (yk yy : Int32) (yv : Int64)
    (l1 : yQ (some (.int (((yv * yy.toInt64) / 100).toInt32))) yA) :
    Pa N 12 75 [(0, .ref 46), (1, .ref ya), (2, .int yk), (3, .long yv)] [.int yy, .long yv] yA yQ := by
  refine Pa.mp 2 (pc' := 77) (l' := [(0, .ref 46), (1, .ref ya), (2, .int yk), (3, .long yv)]) (st' := [.long (yv * yy.toInt64)]) (by rfl) ?_
  refine Pa.jcl (x := 100) (pc' := 80) (by rfl) (fun _ _ _ => by rfl) (by decide) ?_
  refine Pa.ldiv (by rfl) ?_
  refine Pa.mp 1 (pc' := 82) (l' := [(0, .ref 46), (1, .ref ya), (2, .int yk), (3, .long yv)]) (st' := [.int (((yv * yy.toInt64) / 100).toInt32)]) (by rfl) ?_
  refine Pa.iret (by rfl) ?_
  exact l1

theorem c_cntX {B9 yA yW : AW} (yg : Rgx yA) (hs : scX B9 yA yW) {ya yc : Nat} (yh : rowC yA ya yc) (yk : Int32) (hk : yk.toInt ≤ 3599) (N : Nat) : Pa N 12 0 [(0, .ref 46), (1, .ref ya), (2, .int yk)] [] yW (fun yv A1 => yv = some (.int (cvV yA yc yk)) ∧ scX B9 yA A1 ∧ A1.1 46 6 = cvN yA yc yk) := by
  have h150 := yh.c150
  have rg := rw_rg yg.gl h150
  obtain ⟨⟨yf0, yf1⟩, yw0, yw1⟩ := yg.gl.rf yc yh.c_T
  obtain ⟨z0, z1, z2, z3, z4, z5, z6, z7, z8, z9, z10, z11, z12, yz13, yz14⟩ := yh.row
  have yq6 : ∀ {V : AW}, scX B9 yA V → V.1 ya 6 = (yA.1 90 (7 * yc + 2)) := fun ys => (sc_row ys yh.a9 6).trans z6
  have yq7 : ∀ {V : AW}, scX B9 yA V → V.1 ya 7 = (yA.1 90 (7 * yc + 3)) := fun ys => (sc_row ys yh.a9 7).trans z7
  have yq4 : ∀ {V : AW}, scX B9 yA V → V.1 ya 4 = (yA.1 90 (7 * yc)) := fun ys => (sc_row ys yh.a9 4).trans z4
  have ys1 : scX B9 yA (uI yW 46 6 (-1)) := scX_46 hs
  have l1 : (uI yW 46 6 (-1)).1 46 6 = -1 := uI_h
  -- from the fair price on
  have ygo : ∀ V, scX B9 yA V → V.1 46 6 = -1 → ¬ ((ltV yA yc yc).toInt ≠ 0 ∧ (twV yA yc yk).toInt = 0) → Pa N 11 0 [(0, .ref 46), (1, .ref ya), (2, .int yk)] [] V (fun yu A1 => Pa N 12 45 [(0, .ref 46), (1, .ref ya), (2, .int yk)] (yu.toList ++ []) A1 (fun yv A1 => yv = some (.int (cvV yA yc yk)) ∧ scX B9 yA A1 ∧ A1.1 46 6 = cvN yA yc yk)) := fun V sV lV hn => by
    refine Pa.mono (c_fairX yg.gl sV yh yk hk N) (fun yv A2 hv => ?_)
    obtain ⟨rfl, ys2, l2⟩ := hv
    refine bx_ct3 ya yk _ ?_
    rw [yq6 ys2, yq7 ys2]
    obtain ⟨hR, hE⟩ := cof_S yg ys2 (l := (yA.1 90 (7 * yc + 2))) (yd := (yA.1 90 (7 * yc + 3))) rg.1.1 rg.1.2 rg.2.1 rg.2.2
    refine Pa.mono (c_cof N A2 (yA.1 90 (7 * yc + 2)) (yA.1 90 (7 * yc + 3)) hR rg.1.1 rg.1.2) (fun yv A3 hv => ?_)
    obtain ⟨rfl, rfl⟩ := hv
    rw [hE]
    refine bx_ct4 ya yk _ _ ?_
    refine Pa.mono (c_huX yg ys2 yh yk hk (by rw [l2, lV]) N) (fun yv A4 hv => ?_)
    obtain ⟨rfl, ys4, l4⟩ := hv
    refine bx_ct5 ya yk _ _ ⟨?_, ys4, ?_⟩
    · unfold cvV
      rw [if_neg hn]
      rfl
    · unfold cvN
      rw [if_neg hn]
      exact l4
  refine bx_ct0 ya yk ?_
  refine Pa.mono (c_laterX yg.gl ys1 yh N) (fun yv A1 hv => ?_)
  obtain ⟨rfl, rfl⟩ := hv
  refine bx_ct1 ya yk _ (fun yy => ygo _ ys1 l1 (fun yz => yz.1 yy)) (fun yy => ?_)
  rw [yq6 ys1, yq4 ys1, yq7 ys1]
  refine Pa.mono (c_lawS yg ys1 4 (yA.1 90 (7 * yc + 2)) (yA.1 90 (7 * yc)) (yA.1 90 (7 * yc + 3)) yk yf0 yf1 hk N) (fun yv A2 hv => ?_)
  obtain ⟨rfl, ys2, l2⟩ := hv
  have l3 : A2.1 46 6 = -1 := by rw [l2, l1]
  refine bx_ct2 ya yk _ (fun y2 => ygo _ ys2 l3 (fun yz => y2 yz.2)) (fun y2 => ⟨?_, ys2, ?_⟩)
  · unfold cvV
    rw [if_pos ⟨yy, y2⟩]
  · unfold cvN
    rw [if_pos ⟨yy, y2⟩]
    exact l3
