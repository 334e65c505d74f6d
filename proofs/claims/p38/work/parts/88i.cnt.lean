/-! WHAT COUNTS yOF yA COST: the reference, the ypair -/
theorem smM.cel {B9 yA yW : AW} (yh : smM B9 yA yW) (yc : Nat) (h1 : 69 < yc) (h2 : yc < 115) (yj : Nat) : yW.1 yc yj = yA.1 yc yj := yh.lo h1 h2 yj
theorem sm_fn {B9 yA yW : AW} (hs : smM B9 yA yW) (yw yd yk : Int32) : ltG (gdT 102 yW yw yd yk) (yW.1 69 45).toInt.toNat = fnT yA yw yd yk := by
  rw [hs.2.1 45 (by decide) (by decide) (by decide) (by decide) (by decide) (by decide) (by decide) (by decide)]
  exact ltG_cg _ (fun yj _ => gd_cg (hs.lo (by decide) (by decide) yj) (hs.lo (by decide) (by decide) yj) (hs.lo (by decide) (by decide) yj))
theorem sm_txD {B9 yA yW : AW} (hs : smM B9 yA yW) {yi : Nat} {ds : List Int32} : txD yW yi ds ↔ txD yA yi ds := ⟨fun yh => txD_cg (hs.lo (by decide) (by decide) _).symm (fun yj => (hs.lo (by decide) (by decide) _).symm) yh, fun yh => txD_cg (hs.lo (by decide) (by decide) _) (fun yj => hs.lo (by decide) (by decide) _) yh⟩
theorem sm_env {B9 yA yW : AW} (hs : smM B9 yA yW) (yf l yd yk : Int32) : fmE yW yf l yd yk = fmE yA yf l yd yk := by
  have ye1 : ptsM yW yf l yk = ptsM yA yf l yk := by
    unfold ptsM
    rw [hs.2.1 24 (by decide) (by decide) (by decide) (by decide) (by decide) (by decide) (by decide) (by decide)]
    refine sumN_congr (fun yj _ => ?_)
    unfold ptFM
    rw [hs.cel 84 (by decide) (by decide), hs.cel 85 (by decide) (by decide), hs.cel 86 (by decide) (by decide), hs.cel 87 (by decide) (by decide)]
  have ye2 : lnB yW yf (cT yW) = lnB yA yf (cT yA) := by
    have ye : cT yW = cT yA := by
      unfold cT
      rw [hs.2.1 31 (by decide) (by decide) (by decide) (by decide) (by decide) (by decide) (by decide) (by decide)]
    rw [ye]
    exact lnB_cg _ (fun yj _ => hs.lo (by decide) (by decide) yj)
  unfold fmE
  rw [ye1, ye2, hs.cel 77 (by decide) (by decide)]
theorem sm_h {B9 yA yW : AW} (yg : Rgx yA) (hs : smM B9 yA yW) : ((yW.1 69 69).toInt = -1) ∧ (0 ≤ (yW.1 69 45).toInt ∧ (yW.1 69 45).toInt ≤ 20) ∧ (yW.1 69 31).toInt ≤ 150 := by
  rw [hs.2.1 69 (by decide) (by decide) (by decide) (by decide) (by decide) (by decide) (by decide) (by decide), hs.2.1 45 (by decide) (by decide) (by decide) (by decide) (by decide) (by decide) (by decide) (by decide), hs.2.1 31 (by decide) (by decide) (by decide) (by decide) (by decide) (by decide) (by decide) (by decide)]
  exact ⟨yg.tr.2, yg.tT, yg.gl.T.2⟩
/-! counted twice -/
theorem c_givesD (N : Nat) (yA : AW) (l yu yd yk o ym : Int32) (yenv : Nat → Int32) (h8 : (yA.1 69 69).toInt = -1) (hs0 : 0 ≤ (yA.1 69 45).toInt) (hs1 : (yA.1 69 45).toInt ≤ 20) (hx : ∀ yi, yi < (yA.1 69 45).toInt.toNat → ∃ ds, txD yA yi ds) (yz : Int32)
    (hl : ∀ yb yn, mLoc (woB (uI yA 69 68 (-1)) yb yn) (yA.1 69 66) (yA.1 117 3) yz) (he : ∀ yb yn yi, yi < 10 → mEv (woB (uI yA 69 68 (-1)) yb yn) yz yi = yenv yi) : Pa N 210 0 [(0, .ref 69), (1, .int l), (2, .int yu), (3, .int yd), (4, .int yk), (5, .int o), (6, .int ym)] [] yA (giP yA (10 * l + yu) yd yk o ym yenv) := by
  refine bm_gi0 l yu yd yk o ym ?_
  refine Pa.mono (c_force N yA (10 * l + yu) yd yk h8 hs0 hs1) (fun yv A1 hv => ?_)
  obtain ⟨rfl, rfl⟩ := hv
  have l0 : lmW A1 (uI A1 69 68 (-1)) := ⟨fun yc yj yp1 _ _ => uI_c yp1, fun yj _ _ _ _ _ _ _ yp8 => uI_k yp8, rfl⟩
  refine bm_gi1 l yu yd yk o ym _ (fun yq1 yq2 => ?_) (fun yq1 => ?_)
  · cases ye : ltG (gdT 102 A1 (10 * l + yu) yd yk) (A1.1 69 45).toInt.toNat with
    | none =>
      rw [ye] at yq1
      exact absurd yq1 wo_m1
    | some yq =>
      have hq := ltG_lt ye
      have et : (enG (-1) (some yq)).toInt.toNat = yq := by
        show (Int32.ofNat yq).toInt.toNat = yq
        rw [i32_nat (by omega)]
        omega
      obtain ⟨ds, hds⟩ := hx yq hq
      have e66 : (uI A1 69 68 (-1)).1 69 66 = A1.1 69 66 := uI_k (by decide)
      have ye117 : (uI A1 69 68 (-1)).1 117 3 = A1.1 117 3 := uI_c (by decide)
      have e101 : A1.1 101 yq = (uI A1 69 68 (-1)).1 101 yq := (uI_c (by decide)).symm
      rw [et, e101]
      have hds2 : txD (uI A1 69 68 (-1)) yq ds := by
        obtain ⟨yn, dd, b1, b2, b3⟩ := hds
        exact ⟨yn, dd, by rw [uI_c (by decide)]; exact b1, b2, RT_cg (fun yj _ => (uI_c (by decide)).symm) b3⟩
      refine Pa.mono (c_workT (yA := uI A1 69 68 (-1)) (yq := yq) (ds := ds) (yz := yz) (by omega) hds2 (by rw [e66, ye117]; exact hl _ _) N) (fun yv A2 hv => ?_)
      obtain ⟨rfl, aa, ft, yop, lv, yn3, wh, rfl⟩ := hv
      have l1 := lmW_tr l0 (mW_lm (yA := uI A1 69 68 (-1)) (yf := 160 * Int32.ofNat yq) (yn := (uI A1 69 68 (-1)).1 101 yq) (ya := aa) (ft := ft) (yop := yop) (lv := lv) (bl := rnL (rnX (mEv (woB (uI A1 69 68 (-1)) (160 * Int32.ofNat yq) ((uI A1 69 68 (-1)).1 101 yq)) yz) ds false [] 0)) (yn3 := yn3) (wh := wh))
      have hev := rnX_cg (he (160 * Int32.ofNat yq) ((uI A1 69 68 (-1)).1 101 yq)) ds false [] 0
      rw [hev] at l1 ⊢
      have yfin : ∀ yy, yy = clM ym (rnV (rnX yenv ds false [] 0)) → giP A1 (10 * l + yu) yd yk o ym yenv (some (.int yy)) (mW (woB (uI A1 69 68 (-1)) (160 * Int32.ofNat yq) ((uI A1 69 68 (-1)).1 101 yq)) aa ft yop lv (rnL (rnX yenv ds false [] 0)) yn3 wh) := fun yy hy => ⟨yy, rfl, l1, .inr ⟨yq, ds, ye, hds, hy, mW_68⟩⟩
      refine bm_gi2 l yu yd yk o ym _ _ (fun z1 z2 => yfin _ ?_) (fun z1 z2 => yfin _ ?_) (fun z1 => yfin _ ?_)
      · unfold clM
        rw [if_neg (by omega), if_neg (by omega)]
      · unfold clM
        rw [if_neg (by omega), if_pos z2]
      · unfold clM
        rw [if_pos z1]
  · cases ye : ltG (gdT 102 A1 (10 * l + yu) yd yk) (A1.1 69 45).toInt.toNat with
    | none => exact ⟨o, rfl, l0, .inl ⟨ye, rfl, uI_h⟩⟩
    | some yq =>
      rw [ye] at yq1
      have hq := ltG_lt ye
      exact absurd yq1 (on_nn yq (by omega))
/-! the whole -/
/-! COUNTED -/
theorem Pa.any {N ymid pc : Nat} {lv : mL} {yst : List Value} {yA : AW} {yP : AW → Prop} {yQ0 : Option Value → AW → Prop} {yQ : AW → Option Value → AW → Prop} (h0 : Pa N ymid pc lv yst yA yQ0) (yh : ∀ yB, yP yB → Pa N ymid pc lv yst yA (yQ yB)) : Pa N ymid pc lv yst yA (fun yu A1 => ∀ yB, yP yB → yQ yB yu A1) := fun yL xs yn yd yw hn yhS hA yv yw1 hr => ⟨(h0 yL xs yn yd yw hn yhS hA yv yw1 hr).1, fun yB yhB => (yh yB yhB yL xs yn yd yw hn yhS hA yv yw1 hr).2⟩
def Fg : zRF := Fe ++ (F6 ++ (F19 ++ F11))
def Ag : zRA := Are ++ (Ar4 ++ (Ar19 ++ (Ar11 ++ [(2, 73), (6, 76)])))
def Ig : List Nat := [0, 1, 2, 3, 4, 5, 6, 7]
theorem Rgx_of {yA : AW} (hA : okA yA) (hF : eqF Fg yA) (hR : eqRs Ag yA) (hX : RXL Ig yA) : Rgx yA := by
  have yf : ∀ ya yb, (decide ((ya, yb) ∈ Fg)) = true → yA.1 ya.1 ya.2 = yA.1 yb.1 yb.2 := fun ya yb yh => hF (ya, yb) (of_decide_eq_true yh)
  have yr : ∀ ya yb yn, (decide ((ya, yb) ∈ Ag)) = true → z_aP (ya, yb) = some yn → ∀ yj, yj < yn → yA.1 ya yj = yA.1 yb yj := fun ya yb yn yh h2 yj hj => hR (ya, yb) (of_decide_eq_true yh) yn h2 yj hj
  have yx0 : RZl yA := hX 0 (by decide)
  have yx1 : RX14 yA := hX 1 (by decide)
  have yx2 : RXt yA := hX 2 (by decide)
  have x3 : Rz6 yA := hX 3 (by decide)
  have yx4 : RX4d yA := hX 4 (by decide)
  have yx5 : RX19 yA := hX 5 (by decide)
  have x6 : R24 yA := hX 6 (by decide)
  have x7 : Rfl yA := hX 7 (by decide)
  have gl : Rgl yA := ⟨yf (1, 3) (69, 7) (by decide +kernel), yf (5, 6) (69, 11) (by decide +kernel), yf (12, 7) (69, 13) (by decide +kernel), yf (30, 4) (69, 31) (by decide +kernel), yf (20, 9) (69, 37) (by decide +kernel), yr 6 76 20 (by decide +kernel) (by decide +kernel), yr 2 73 20 (by decide +kernel) (by decide +kernel), fun yj hj => ⟨yr 24 94 120 (by decide +kernel) (by decide +kernel) yj hj, yr 25 95 120 (by decide +kernel) (by decide +kernel) yj hj, yr 26 96 120 (by decide +kernel) (by decide +kernel) yj hj, yr 27 97 120 (by decide +kernel) (by decide +kernel) yj hj, yr 28 98 120 (by decide +kernel) (by decide +kernel) yj hj⟩, yx5, yx0.1, x7, x3, hA⟩
  exact ⟨gl, yf (38, 7) (69, 45) (by decide +kernel), x6, yf (5, 7) (69, 24) (by decide +kernel), yx2.2, fun yp hp => hR yp (fsub_ok (yF := Ag) (F' := Art) (by decide +kernel) hp), yx0.2, yx1, fun yp hp => hF yp (fsub_ok (yF := Fg) (F' := F11) (by decide +kernel) hp), fun yp hp => hR yp (fsub_ok (yF := Ag) (F' := Ar11) (by decide +kernel) hp), fun yp hp => hR yp (fsub_ok (yF := Ag) (F' := Ar4) (by decide +kernel) hp), yx4, yr 7 77 20 (by decide +kernel) (by decide +kernel)⟩
