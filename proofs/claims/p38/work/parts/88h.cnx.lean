/-! WHAT COUNTS yOF yA COST: the value, and the class -/
theorem okA.cst {yA : AW} (yh : okA yA) {yc ya : Nat} (yk : Nat) (ylo yhi : Int) (yhc : yc < 150) (hO : yA.2.2.1 31 yc = some ya) (hk : yk < 13) (hz : zZ.2.1[yk]? = some (0, ylo, yhi)) : ylo ≤ (yA.1 ya yk).toInt ∧ (yA.1 ya yk).toInt ≤ yhi := by
  obtain ⟨yw, hW, rfl⟩ := yh
  obtain ⟨yf, h1, -, h3⟩ := WI_arr hW (i := 31) (t := 3) (n := 150) (e := (3, 0, 0)) (by rfl)
  have h4 := h3 yc yhc
  rw [(aw_at h1).2.2.1] at hO
  have hv : m_el yf yc = .ref ya := by
    rcases yf with yf | yf | yf | yf | yf
    · exact absurd (show (none : Option Nat) = some ya from hO) (by intro yz; cases yz)
    · exact absurd (show (none : Option Nat) = some ya from hO) (by intro yz; cases yz)
    · exact absurd (show (none : Option Nat) = some ya from hO) (by intro yz; cases yz)
    · exact absurd (show (none : Option Nat) = some ya from hO) (by intro yz; cases yz)
    · have hO2 : yf yc = some ya := hO
      show m_opt yf yc = .ref ya
      unfold m_opt
      rw [hO2]
  rw [hv] at h4
  have h5 : (Value.ref ya) = .null ∨ ∃ yi, (Value.ref ya) = .ref yi ∧ wC yw yi := h4
  rcases h5 with h5 | ⟨yi, h5, h6⟩
  · cases h5
  · cases h5
    obtain ⟨fs, ye1, ye2, ye3⟩ := WI_cost hW h6
    have ye4 : fs[yk]? = some fs[yk] := List.getElem?_eq_getElem (by omega)
    obtain ⟨yx, yx1, yx2, x3⟩ : ∃ yx, fs[yk] = .int yx ∧ ylo ≤ yx.toInt ∧ yx.toInt ≤ yhi := ye3 yk _ _ hz ye4
    have : (aw yw).1 ya yk = yx := by
      rw [(aw_at ye1).1]
      show (match fs[yk]? with | some (.int yx) => yx | _ => 0) = yx
      rw [ye4, yx1]
    rw [this]
    exact ⟨yx2, x3⟩
/-- what yboth sides hold alike, yfor laws and counts -/
def Rgx (yA : AW) : Prop := (Rgl yA) ∧ (yA.1 38 7 = yA.1 69 45) ∧ (R24 yA) ∧ (yA.1 5 7 = yA.1 69 24) ∧ (∀ yi, yi < tT yA → txR yA yi) ∧ (eqRs Art yA) ∧ (R34 yA) ∧ (RX14 yA) ∧ (eqF F11 yA) ∧ (eqRs Ar11 yA) ∧ (eqRs Ar4 yA) ∧ (RX4d yA) ∧ (∀ yj, yj < 20 → yA.1 7 yj = yA.1 77 yj)
theorem Rgx.gl {yA : AW} (yh : Rgx yA) : Rgl yA := yh.1
theorem Rgx.f38 {yA : AW} (yh : Rgx yA) : yA.1 38 7 = yA.1 69 45 := yh.2.1
theorem Rgx.tr {yA : AW} (yh : Rgx yA) : R24 yA := yh.2.2.1
theorem Rgx.f57 {yA : AW} (yh : Rgx yA) : yA.1 5 7 = yA.1 69 24 := yh.2.2.2.1
theorem Rgx.tx {yA : AW} (yh : Rgx yA) : ∀ yi, yi < tT yA → txR yA yi := yh.2.2.2.2.1
theorem Rgx.rt {yA : AW} (yh : Rgx yA) : eqRs Art yA := yh.2.2.2.2.2.1
theorem Rgx.r34 {yA : AW} (yh : Rgx yA) : R34 yA := yh.2.2.2.2.2.2.1
theorem Rgx.r14 {yA : AW} (yh : Rgx yA) : RX14 yA := yh.2.2.2.2.2.2.2.1
theorem Rgx.F11 {yA : AW} (yh : Rgx yA) : eqF F11 yA := yh.2.2.2.2.2.2.2.2.1
theorem Rgx.x4 {yA : AW} (yh : Rgx yA) : RX4d yA := yh.2.2.2.2.2.2.2.2.2.2.2.1
theorem Rgx.r7 {yA : AW} (yh : Rgx yA) : ∀ yj, yj < 20 → yA.1 7 yj = yA.1 77 yj := yh.2.2.2.2.2.2.2.2.2.2.2.2
theorem Rgx.tT {yA : AW} (yg : Rgx yA) : 0 ≤ (yA.1 69 45).toInt ∧ (yA.1 69 45).toInt ≤ 20 := yg.gl.ok.fld (i := 69) (k := 45) (lo := 0) (hi := 20) (by decide +kernel)
theorem Rgx.tF {yA : AW} (yg : Rgx yA) : 0 ≤ (yA.1 69 11).toInt ∧ (yA.1 69 11).toInt ≤ 20 := yg.gl.ok.fld (i := 69) (k := 11) (lo := 0) (hi := 20) (by decide +kernel)
/-! values -/
def fnT (yA : AW) (yw yd yk : Int32) : Option Nat := ltG (gdT 102 yA yw yd yk) (tT yA)
noncomputable def dsOf (yA : AW) (yq : Nat) : List Int32 := Classical.epsilon (txD yA yq)
theorem dsOf_eq {yA : AW} {yq : Nat} {ds : List Int32} (yh : txD yA yq ds) : dsOf yA yq = ds := txD_one (Classical.epsilon_spec (p := txD yA yq) ⟨ds, yh⟩) yh
def fmE (yA : AW) (yf l yd yk : Int32) : Nat → Int32 := lwE yd (ptsM yA yf l yk) (yA.1 77 yf.toInt.toNat) (cnM (lnB yA yf (cT yA)))
/-- what the ytext that stands gives: nothing, if none stands -/
noncomputable def txO (yA : AW) (yw yd yk : Int32) (yenv : Nat → Int32) : Option (Option (Int32 × Nat)) := match fnT yA yw yd yk with
  | some yq => some (rnX yenv (dsOf yA yq) false [] 0)
  | none => none
theorem txO_0 {yA : AW} {yw yd yk : Int32} {yenv : Nat → Int32} (yh : fnT yA yw yd yk = none) : txO yA yw yd yk yenv = none := by
  unfold txO
  simp only [yh]
theorem txO_1 {yA : AW} {yw yd yk : Int32} {yenv : Nat → Int32} {yq : Nat} {ds : List Int32} (yh : fnT yA yw yd yk = some yq) (yhd : txD yA yq ds) : txO yA yw yd yk yenv = some (rnX yenv ds false [] 0) := by
  unfold txO
  simp only [yh]
  rw [dsOf_eq yhd]
noncomputable def lwV (yA : AW) (yu l yf yd yk : Int32) : Int32 := match txO yA (10 * l + yu) yd yk (fmE yA yf l yd yk) with
  | some yr => clX yu (rnV yr)
  | none => x_tab 3 yu.toInt.toNat
theorem lwV_0 {yA : AW} {yu l yf yd yk : Int32} (yh : txO yA (10 * l + yu) yd yk (fmE yA yf l yd yk) = none) : lwV yA yu l yf yd yk = x_tab 3 yu.toInt.toNat := by
  unfold lwV
  simp only [yh]
theorem lwV_1 {yA : AW} {yu l yf yd yk : Int32} {yr : Option (Int32 × Nat)} (yh : txO yA (10 * l + yu) yd yk (fmE yA yf l yd yk) = some yr) : lwV yA yu l yf yd yk = clX yu (rnV yr) := by
  unfold lwV
  simp only [yh]
/-! scratch worlds -/
theorem gd_cg {yA yW : AW} {yb b' : Nat} {yw yd yk : Int32} {yj : Nat} (h0 : yW.1 yb yj = yA.1 b' yj) (h1 : yW.1 (yb + 1) yj = yA.1 (b' + 1) yj) (h2 : yW.1 (yb + 2) yj = yA.1 (b' + 2) yj) : gdT yb yW yw yd yk yj = gdT b' yA yw yd yk yj := by
  unfold gdT
  rw [h0, h1, h2]
theorem sc_fn {B9 yA yW : AW} (yg : Rgx yA) (hs : scX B9 yA yW) (yw yd yk : Int32) : ltG (gdT 40 yW yw yd yk) (yW.1 38 7).toInt.toNat = fnT yA yw yd yk := by
  have gT := yg.tT
  rw [hs.2.2.1 7 (by decide) (by decide), yg.f38]
  refine ltG_cg _ (fun yj hj => gd_cg ?_ ?_ ?_)
  · rw [hs.1 40 yj (by decide)]
    exact yg.rt (40, 102) (by simp [Art]) 20 (by decide +kernel) yj (by omega)
  · rw [hs.1 (40 + 1) yj (by decide)]
    exact yg.rt (41, 103) (by simp [Art]) 20 (by decide +kernel) yj (by omega)
  · rw [hs.1 (40 + 2) yj (by decide)]
    exact yg.rt (42, 104) (by simp [Art]) 20 (by decide +kernel) yj (by omega)
theorem sc_tx {B9 yA yW : AW} (hs : scX B9 yA yW) {yi : Nat} (yh : txR yA yi) : txR yW yi := by
  obtain ⟨ya, n', d', es, yr1, r2, r3, r4, yr5, r6, r7, r8, r9, r10⟩ := yh
  have ye : ∀ yc yj, scC yc → yW.1 yc yj = yA.1 yc yj := hs.1
  have ye2 := hs.2.2.2.1
  refine ⟨ya, n', d', es, by rw [ye2]; exact yr1, r2, by rw [ye2]; exact r3, by rw [ye 101 yi (by decide)]; exact r4, yr5, RT_cg (fun yj _ => (ye 100 _ (by decide)).symm) r6, r7, by rw [ye2]; exact r8, fun yj hj => ?_, fun yz => ?_⟩
  · rw [sc_row hs r2]
    exact r9 yj hj
  · rw [ye 43 yi (by decide)]
    exact r10 yz
theorem txD_cg {yA yW : AW} {yi : Nat} {ds : List Int32} (h1 : yW.1 101 yi = yA.1 101 yi) (h2 : ∀ yj, yW.1 100 yj = yA.1 100 yj) (yh : txD yA yi ds) : txD yW yi ds := by
  obtain ⟨yn, yd, b1, b2, b3⟩ := yh
  exact ⟨yn, yd, by rw [h1]; exact b1, b2, RT_cg (fun yj _ => (h2 _).symm) b3⟩
theorem sc_txD {B9 yA yW : AW} (hs : scX B9 yA yW) {yi : Nat} {ds : List Int32} : txD yW yi ds ↔ txD yA yi ds := by
  have ye1 : yW.1 101 yi = yA.1 101 yi := hs.1 101 yi (by decide)
  have ye2 : ∀ yj, yW.1 100 yj = yA.1 100 yj := fun yj => hs.1 100 yj (by decide)
  exact ⟨fun yh => txD_cg ye1.symm (fun yj => (ye2 yj).symm) yh, fun yh => txD_cg ye1 ye2 yh⟩
theorem sc_pts {B9 yA yW : AW} (yg : Rgx yA) (hs : scX B9 yA yW) {yf l yk : Int32} (hk : yk.toInt ≤ 3599) : ptsX yW yf l yk = ptsM yA yf l yk := by
  have g2 := yg.gl.ok.fld (i := 69) (k := 24) (lo := 0) (hi := 100) (by decide +kernel)
  rw [← pts_eq yg.r14 yg.f57 g2.2 hk]
  have ye : ∀ yc yj, 5 ≤ yc → yc ≤ 11 → yW.1 yc yj = yA.1 yc yj := fun yc yj yp1 yp2 => hs.1 yc yj ⟨by omega, by omega, by omega, by omega, by omega, by omega, by omega, by omega, by omega, by omega, by omega⟩
  unfold ptsX
  rw [ye 5 7 (by decide) (by decide)]
  refine sumN_congr (fun yj _ => ?_)
  unfold ptFX
  rw [ye 8 _ (by decide) (by decide), ye 9 _ (by decide) (by decide), ye 10 _ (by decide) (by decide), ye 11 _ (by decide) (by decide)]
theorem sc_env {B9 yA yW : AW} (yg : Rgx yA) (hs : scX B9 yA yW) {yf l yd yk : Int32} (h0 : 0 ≤ yf.toInt) (h1 : yf.toInt < 20) (hk : yk.toInt ≤ 3599) : lwE yd (ptsX yW yf l yk) (yW.1 7 yf.toInt.toNat) (bcX (yW.1 34 yf.toInt.toNat)) = fmE yA yf l yd yk := by
  unfold fmE
  rw [sc_pts yg hs hk, hs.1 7 _ (by decide), hs.1 34 _ (by decide), yg.r7 _ (by omega), lnd_rel yg.gl.ok yg.r34 h0 h1]
/-- the class's law in ya scratch world -/
theorem c_lawS {B9 yA yW : AW} (yg : Rgx yA) (hs : scX B9 yA yW) (yu l yf yd yk : Int32) (h0 : 0 ≤ yf.toInt) (h1 : yf.toInt < (yA.1 69 11).toInt) (hk : yk.toInt ≤ 3599) (N : Nat) : Pa N 15 0 [(0, .ref 46), (1, .int yu), (2, .int l), (3, .int yf), (4, .int yd), (5, .int yk)] [] yW (fun yv A1 => yv = some (.int (lwV yA yu l yf yd yk)) ∧ scX B9 yA A1 ∧ ∀ yj, A1.1 46 yj = yW.1 46 yj) := by
  have gT := yg.tT
  have gF := yg.tF
  have ye7 : yW.1 38 7 = yA.1 69 45 := by rw [hs.2.2.1 7 (by decide) (by decide), yg.f38]
  have e8 : (yW.1 38 8).toInt = -1 := by rw [hs.2.2.1 8 (by decide) (by decide)]; exact yg.tr.1
  have e56 : yW.1 5 6 = yA.1 69 11 := by rw [hs.1 5 6 (by decide), yg.gl.f5]
  refine Pa.mono (c_lawOf N yW yu l yf yd yk e8 (by rw [ye7]; omega) (by rw [ye7]; omega) (fun yi yhi => sc_tx hs (yg.tx yi (by rw [ye7] at yhi; exact yhi))) h0 (by rw [e56]; exact h1)) (fun yv A1 hv => ?_)
  obtain ⟨yx, rfl, hw, hx⟩ := hv
  refine ⟨?_, scX_lw hs hw, fun yj => lwW_c hw (by decide) (by decide) (by decide)⟩
  rw [sc_fn yg hs, Int32.mul_comm l 10] at hx
  rcases hx with ⟨ya1, a2⟩ | ⟨yq, ds, ya1, a2, a3⟩
  · rw [a2, lwV_0 (txO_0 ya1)]
  · rw [a3, sc_env yg hs h0 (by omega) hk, lwV_1 (txO_1 ya1 ((sc_txD hs).mp a2))]
/-! lives -/
/-! hundredths -/
