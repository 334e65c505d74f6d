/-! WHAT COUNTS yOF yA COST: the reference, the ypair -/
theorem mEv_i {yA : AW} {l : Int32} {yi : Nat} (h3 : yi ≠ 3) (h4 : yi ≠ 4) (h5 : yi ≠ 5) : mEv yA l yi = yA.1 117 yi := by
  unfold mEv
  rw [if_neg h3, if_neg h4, if_neg h5]
theorem mEv_3 {yA : AW} {l : Int32} : mEv yA l 3 = yA.1 117 5 := by
  unfold mEv
  rw [if_pos rfl]
theorem mEv_4 {yA : AW} {l : Int32} : mEv yA l 4 = l := by
  unfold mEv
  rw [if_neg (by decide), if_pos rfl]
theorem mEv_5 {yA : AW} {l : Int32} : mEv yA l 5 = yA.1 117 4 := by
  unfold mEv
  rw [if_neg (by decide), if_neg (by decide), if_pos rfl]
theorem mW_wh {yA : AW} {ya ft yop lv bl yn3 : Int32} {wh yG : Nat → Int32} : uF (mW yA ya ft yop lv bl yn3 wh) 115 yG = mW yA ya ft yop lv bl yn3 yG := by
  refine Prod.ext ?_ rfl
  funext c' k'
  simp only [mW, uI, uF]
  repeat' split
  all_goals first
    | rfl
    | (exfalso; omega)
theorem smM_66 {B9 yA yW : AW} (yh : smM B9 yA yW) {yq : Nat} {ym : Int32} (hq : yq = 66 ∨ yq = 67 ∨ yq = 68) : smM B9 yA (uI yW 69 yq ym) := smM_up yh (fun _ _ yp => uI_c (by have := yp.1; omega)) (fun yj yp1 yp2 yp3 yp4 yp5 yp6 yp7 yp8 => uI_k (by omega)) (fun _ _ yp => uI_c (by omega))
theorem smM.cel {B9 yA yW : AW} (yh : smM B9 yA yW) (yc : Nat) (h1 : 69 < yc) (h2 : yc < 115) (yj : Nat) : yW.1 yc yj = yA.1 yc yj := yh.lo h1 h2 yj
theorem sm_fn {B9 yA yW : AW} (hs : smM B9 yA yW) (yw yd yk : Int32) : ltG (gdM yW yw yd yk) (yW.1 69 45).toInt.toNat = fnT yA yw yd yk := by
  show ltG (gsT 102 (yW.1 69 69) yW yw yd yk) _ = ltG (gsT 102 (yA.1 38 8) yA yw yd yk) (yA.1 69 45).toInt.toNat
  rw [(hs.2.2.1 0).2.2, hs.2.1 45 (by decide) (by decide) (by decide) (by decide) (by decide) (by decide) (by decide) (by decide)]
  exact ltS_all (fun yj => ⟨hs.lo (by decide) (by decide) yj, hs.lo (by decide) (by decide) yj, hs.lo (by decide) (by decide) yj⟩)
theorem sm_txD {B9 yA yW : AW} (hs : smM B9 yA yW) {yi : Nat} {ds : List Int32} : txD yW yi ds ↔ txD yA yi ds := ⟨fun yh => txD_cg (hs.lo (by decide) (by decide) _).symm (fun yj => (hs.lo (by decide) (by decide) _).symm) yh, fun yh => txD_cg (hs.lo (by decide) (by decide) _) (fun yj => hs.lo (by decide) (by decide) _) yh⟩
theorem sm_env {B9 yA yW : AW} (hs : smM B9 yA yW) (yf l yd yk : Int32) : fmE yW yf l yd yk = fmE yA yf l yd yk := by
  have ye1 : ptsM yW yf l yk = ptsM yA yf l yk := by
    unfold ptsM
    rw [hs.2.1 24 (by decide) (by decide) (by decide) (by decide) (by decide) (by decide) (by decide) (by decide)]
    refine sumN_congr (fun yj _ => ?_)
    unfold ptFM
    rw [hs.cel 84 (by decide) (by decide), hs.cel 85 (by decide) (by decide), hs.cel 86 (by decide) (by decide), hs.cel 87 (by decide) (by decide)]
  have ye2 : lnB yW yf (cT yW) = lnB yA yf (cT yA) := by
    have ye : cT yW = cT yA := by
      unfold cT
      rw [hs.2.1 31 (by decide) (by decide) (by decide) (by decide) (by decide) (by decide) (by decide) (by decide)]
    rw [ye]
    exact lnB_cg _ (fun yj _ => hs.lo (by decide) (by decide) yj)
  unfold fmE
  rw [ye1, ye2, hs.cel 77 (by decide) (by decide)]
theorem smM_nm {B9 yA yW yB : AW} {l yf yd yk : Int32} (hs : smM B9 yA yW) (hn : nmdM yW yB l yf yd yk) : smM B9 yA yB := smM_lm hs (nmdM_lm hn)
theorem nm_fm {B9 yA yW yB : AW} {l yf yd yk : Int32} (hs : smM B9 yA yW) (hn : nmdM yW yB l yf yd yk) (yi : Nat) (yhi : yi < 10) : yB.1 117 yi = fmE yA yf l yd yk yi := by
  rw [hn.1 yi yhi, ← sm_env hs]
  rfl
theorem sm_h {B9 yA yW : AW} (yg : Rgx yA) (hs : smM B9 yA yW) : ((yW.1 69 69).toInt < (yW.1 69 45).toInt) ∧ (0 ≤ (yW.1 69 45).toInt ∧ (yW.1 69 45).toInt ≤ 20) ∧ (yW.1 69 31).toInt ≤ 150 := by
  rw [(hs.2.2.1 0).2.2, hs.2.1 45 (by decide) (by decide) (by decide) (by decide) (by decide) (by decide) (by decide) (by decide), hs.2.1 31 (by decide) (by decide) (by decide) (by decide) (by decide) (by decide) (by decide) (by decide)]
  exact ⟨yg.tr, yg.tT, yg.gl.T.2⟩
theorem loV_01 {yA : AW} {yc : Nat} {yk : Int32} : ((loV yA yc yk).toInt = 0 → loV yA yc yk = 0) ∧ ((loV yA yc yk).toInt ≠ 0 → loV yA yc yk = 1) := by
  by_cases yh : toH (yA.1 89 yc)
  · rw [loV_h yh]
    split
    · exact ⟨fun yz => absurd yz (by decide), fun _ => rfl⟩
    · exact ⟨fun _ => rfl, fun yz => absurd (by decide) yz⟩
  · rw [loV_p yh]
    exact ⟨yes_01.1, yes_01.2⟩
/-- does he live there -/
theorem livM_S {B9 yA yW : AW} (yg : Rgx yA) (hs : smM B9 yA yW) {yp l yd yk : Int32} : livM yW yp l yd yk = livM yA yp l yd yk := by
  have hg : ∀ yj, yj < 360 → grdM yW yp yd yk yj = grdM yA yp yd yk yj := fun yj hj => by
   unfold grdM
   rw [hs.2.1 19 (by decide) (by decide) (by decide) (by decide) (by decide) (by decide) (by decide) (by decide), hs.cel 78 (by decide) (by decide)]
   refine styG_2 (fun yj hj => ?_) (fun ys _ => ⟨hs.lo (by decide) (by decide) ys, hs.lo (by decide) (by decide) ys, hs.lo (by decide) (by decide) ys, hs.lo (by decide) (by decide) ys, hs.lo (by decide) (by decide) ys⟩) yj hj
   unfold fillF
   rw [if_pos hj, if_pos hj]
  unfold livM
  rw [cntL_eq hg]
theorem bm_loc {N : Nat} {yA : AW} {yQ : Option Value → AW → Prop} (yc yk : Int32)
    (l1 : 0 ≤ yc.toInt → yc.toInt < 150 → (thI (yA.1 89 yc.toInt.toNat)).toInt = 0 → Pa N 171 0 [(0, .ref 69), (1, .int (ocM yA yc 4)), (2, .int (ocM yA yc 2)), (3, .int (ocM yA yc 3)), (4, .int yk)] [] yA (fun yu A1 => Pa N 213 60 [(0, .ref 69), (1, .int yc), (2, .int yk), (3, .int (ocM yA yc 2))] (yu.toList ++ []) A1 yQ))
    (l2 : 0 ≤ yc.toInt → yc.toInt < 150 → (thI (yA.1 89 yc.toInt.toNat)).toInt ≠ 0 → 0 ≤ (ocM yA yc 4).toInt → (ocM yA yc 4).toInt < 20 → (yA.1 73 ((ocM yA yc 4).toInt.toNat)).toInt ≠ (ocM yA yc 2).toInt → yQ (some (.int 0)) yA)
    (l3 : 0 ≤ yc.toInt → yc.toInt < 150 → (thI (yA.1 89 yc.toInt.toNat)).toInt ≠ 0 → 0 ≤ (ocM yA yc 4).toInt → (ocM yA yc 4).toInt < 20 → (yA.1 73 ((ocM yA yc 4).toInt.toNat)).toInt = (ocM yA yc 2).toInt → yQ (some (.int 1)) yA) :
    Pa N 213 0 [(0, .ref 69), (1, .int yc), (2, .int yk)] [] yA yQ := by
  refine Pa.mp 2 (pc' := 2) (l' := [(0, .ref 69), (1, .int yc), (2, .int yk)]) (st' := [.int yc, .ref 69]) (by rfl) ?_
  refine Pa.ic (x := 2) (pc' := 3) (by rfl) (by rfl) (by decide) ?_
  refine Pa.inv (by rfl) (by rfl) (.inl rfl) (by rfl) ?_
  refine Pa.mono (c_oc N yA yA yc 2 (fun _ => by first | rfl | (repeat rw [uI_c (by decide)]))) (fun yu A1 hu => ?_)
  obtain ⟨rfl, hu⟩ := hu
  rw [hu]
  show Pa N 213 6 [(0, .ref 69), (1, .int yc), (2, .int yk)] [.int (ocM yA yc 2)] yA _
  refine Pa.mp 2 (pc' := 8) (l' := [(3, .int (ocM yA yc 2)), (0, .ref 69), (1, .int yc), (2, .int yk)]) (st' := [.ref 69]) (by rfl) ?_
  refine Pa.gfR (by rfl) (by rfl) (.inl rfl) (by rfl) ?_
  show Pa N 213 11 [(3, .int (ocM yA yc 2)), (0, .ref 69), (1, .int yc), (2, .int yk)] [.ref 89] yA _
  refine Pa.mp 1 (pc' := 12) (l' := [(3, .int (ocM yA yc 2)), (0, .ref 69), (1, .int yc), (2, .int yk)]) (st' := [.int yc, .ref 89]) (by rfl) ?_
  refine Pa.alds (v := yA.1 89 yc.toInt.toNat) (by rfl) (by rfl) (by rfl) (fun h1 h2 => ?_)
  have h1 : 0 ≤ yc.toInt := h1
  have h2 : yc.toInt < 150 := h2
  refine Pa.ist (by rfl) (by rfl) (.inl rfl) (by rfl) (by rfl) ?_
  refine Pa.mono (c_thI N yA (yA.1 89 yc.toInt.toNat)) (fun yu A1 hu => ?_)
  obtain ⟨rfl, hu⟩ := hu
  rw [hu]
  show Pa N 213 16 [(3, .int (ocM yA yc 2)), (0, .ref 69), (1, .int yc), (2, .int yk)] [.int (thI (yA.1 89 yc.toInt.toNat))] yA _
  refine Pa.if1 (a := (thI (yA.1 89 yc.toInt.toNat)).toInt) (t := 42) (by rfl) (by rfl) (rfl) (fun h3 => ?_) (fun h4 => ?_)
  · have h3 : (thI (yA.1 89 yc.toInt.toNat)).toInt = 0 := h3
    refine Pa.mp 3 (pc' := 45) (l' := [(3, .int (ocM yA yc 2)), (0, .ref 69), (1, .int yc), (2, .int yk)]) (st' := [.int yc, .ref 69, .ref 69]) (by rfl) ?_
    refine Pa.ic (x := 4) (pc' := 46) (by rfl) (by rfl) (by decide) ?_
    refine Pa.inv (by rfl) (by rfl) (.inl rfl) (by rfl) ?_
    refine Pa.mono (c_oc N yA yA yc 4 (fun _ => by first | rfl | (repeat rw [uI_c (by decide)]))) (fun yu A1 hu => ?_)
    obtain ⟨rfl, hu⟩ := hu
    rw [hu]
    show Pa N 213 49 [(3, .int (ocM yA yc 2)), (0, .ref 69), (1, .int yc), (2, .int yk)] [.int (ocM yA yc 4), .ref 69] yA _
    refine Pa.mp 3 (pc' := 52) (l' := [(3, .int (ocM yA yc 2)), (0, .ref 69), (1, .int yc), (2, .int yk)]) (st' := [.int yc, .ref 69, .int (ocM yA yc 2), .int (ocM yA yc 4), .ref 69]) (by rfl) ?_
    refine Pa.ic (x := 3) (pc' := 53) (by rfl) (by rfl) (by decide) ?_
    refine Pa.inv (by rfl) (by rfl) (.inl rfl) (by rfl) ?_
    refine Pa.mono (c_oc N yA yA yc 3 (fun _ => by first | rfl | (repeat rw [uI_c (by decide)]))) (fun yu A1 hu => ?_)
    obtain ⟨rfl, hu⟩ := hu
    rw [hu]
    show Pa N 213 56 [(3, .int (ocM yA yc 2)), (0, .ref 69), (1, .int yc), (2, .int yk)] [.int (ocM yA yc 3), .int (ocM yA yc 2), .int (ocM yA yc 4), .ref 69] yA _
    refine Pa.mp 1 (pc' := 57) (l' := [(3, .int (ocM yA yc 2)), (0, .ref 69), (1, .int yc), (2, .int yk)]) (st' := [.int yk, .int (ocM yA yc 3), .int (ocM yA yc 2), .int (ocM yA yc 4), .ref 69]) (by rfl) ?_
    refine Pa.lv (l' := [(0, .ref 69), (1, .int yc), (2, .int yk), (3, .int (ocM yA yc 2))]) (lvS_c rfl (lvS_c rfl (lvS_c rfl (lvS_c rfl (lvS_nil))))) rfl ?_
    refine Pa.inv (by rfl) (by rfl) (.inl rfl) (by rfl) ?_
    exact l1 h1 h2 h3
  · have h4 : (thI (yA.1 89 yc.toInt.toNat)).toInt ≠ 0 := h4
    refine Pa.mp 1 (pc' := 20) (l' := [(3, .int (ocM yA yc 2)), (0, .ref 69), (1, .int yc), (2, .int yk)]) (st' := [.ref 69]) (by rfl) ?_
    refine Pa.gfR (by rfl) (by rfl) (.inl rfl) (by rfl) ?_
    show Pa N 213 23 [(3, .int (ocM yA yc 2)), (0, .ref 69), (1, .int yc), (2, .int yk)] [.ref 73] yA _
    refine Pa.mp 2 (pc' := 25) (l' := [(3, .int (ocM yA yc 2)), (0, .ref 69), (1, .int yc), (2, .int yk)]) (st' := [.int yc, .ref 69, .ref 73]) (by rfl) ?_
    refine Pa.ic (x := 4) (pc' := 26) (by rfl) (by rfl) (by decide) ?_
    refine Pa.inv (by rfl) (by rfl) (.inl rfl) (by rfl) ?_
    refine Pa.mono (c_oc N yA yA yc 4 (fun _ => by first | rfl | (repeat rw [uI_c (by decide)]))) (fun yu A1 hu => ?_)
    obtain ⟨rfl, hu⟩ := hu
    rw [hu]
    show Pa N 213 29 [(3, .int (ocM yA yc 2)), (0, .ref 69), (1, .int yc), (2, .int yk)] [.int (ocM yA yc 4), .ref 73] yA _
    refine Pa.alds (v := yA.1 73 ((ocM yA yc 4).toInt.toNat)) (by rfl) (by rfl) (by rfl) (fun h5 h6 => ?_)
    have h5 : 0 ≤ (ocM yA yc 4).toInt := h5
    have h6 : (ocM yA yc 4).toInt < 20 := h6
    refine Pa.mp 1 (pc' := 31) (l' := [(3, .int (ocM yA yc 2)), (0, .ref 69), (1, .int yc), (2, .int yk)]) (st' := [.int (ocM yA yc 2), .int (yA.1 73 ((ocM yA yc 4).toInt.toNat))]) (by rfl) ?_
    refine Pa.if2 (a := (yA.1 73 ((ocM yA yc 4).toInt.toNat)).toInt) (b := (ocM yA yc 2).toInt) (t := 38) (by rfl) (by rfl) (rfl) (rfl) (fun h7 => ?_) (fun h8 => ?_)
    · have h7 : (yA.1 73 ((ocM yA yc 4).toInt.toNat)).toInt ≠ (ocM yA yc 2).toInt := h7
      refine Pa.ic (x := 0) (pc' := 39) (by rfl) (by rfl) (by decide) ?_
      refine Pa.mp 1 (pc' := 60) (l' := [(3, .int (ocM yA yc 2)), (0, .ref 69), (1, .int yc), (2, .int yk)]) (st' := [.int 0]) (by rfl) ?_
      refine Pa.iret (by rfl) ?_
      exact l2 h1 h2 h4 h5 h6 h7
    · have h8 : (yA.1 73 ((ocM yA yc 4).toInt.toNat)).toInt = (ocM yA yc 2).toInt := h8
      refine Pa.ic (x := 1) (pc' := 35) (by rfl) (by rfl) (by decide) ?_
      refine Pa.mp 1 (pc' := 60) (l' := [(3, .int (ocM yA yc 2)), (0, .ref 69), (1, .int yc), (2, .int yk)]) (st' := [.int 1]) (by rfl) ?_
      refine Pa.iret (by rfl) ?_
      exact l3 h1 h2 h4 h5 h6 h8

theorem c_locM {B9 yA yW : AW} (yg : Rgx yA) (hs : smM B9 yA yW) {yc : Nat} (yhc : yc < cT yA) (yk : Int32) (N : Nat) : Pa N 213 0 [(0, .ref 69), (1, .int (Int32.ofNat yc)), (2, .int yk)] [] yW (fun yu A1 => yu = some (.int (loV yA yc yk)) ∧ ∃ yG, A1 = uF yW 115 yG) := by
  have h150 : yc < 150 := by have := yg.gl.T; unfold cT at yhc; omega
  have rg := rw_rg yg.gl h150
  obtain ⟨⟨yf0, yf1⟩, yw0, yw1⟩ := yg.gl.rf yc yhc
  have ec : (Int32.ofNat yc).toInt.toNat = yc := by rw [i32_nat (by omega)]; omega
  have o2 : ocM yW (Int32.ofNat yc) 2 = (yA.1 90 (7 * yc + 2)) := ocM_at hs h150 (yn := 2) (by decide) (by decide)
  have yo3 : ocM yW (Int32.ofNat yc) 3 = (yA.1 90 (7 * yc + 3)) := ocM_at hs h150 (yn := 3) (by decide) (by decide)
  have yo4 : ocM yW (Int32.ofNat yc) 4 = (yA.1 90 (7 * yc + 4)) := ocM_at hs h150 (yn := 4) (by decide) (by decide)
  have k89 : yW.1 89 (Int32.ofNat yc).toInt.toNat = yA.1 89 yc := by rw [ec]; exact hs.lo (by decide) (by decide) yc
  have ysame : ∃ yG, yW = uF yW 115 yG := ⟨yW.1 115, uG_self.symm⟩
  refine bm_loc _ yk (fun _ _ yy => ?_) (fun _ _ yy y2 y3 y4 => ⟨?_, ysame⟩) (fun _ _ yy y2 y3 y4 => ⟨?_, ysame⟩)
  · rw [k89] at yy
    have nh : ¬ toH (yA.1 89 yc) := fun yz => thI_iff.mpr yz yy
    have ywp : (yA.1 90 (7 * yc + 4)).toInt < (yA.1 69 13).toInt := by
      rcases yw1 with ⟨b1, -⟩ | ⟨-, b2⟩
      · exact absurd b1 nh
      · exact b2
    have g2 := yg.gl.ok.fld (i := 69) (k := 19) (lo := 0) (hi := 200) (by decide +kernel)
    rw [o2, yo3, yo4]
    refine Pa.mono (c_livM N yW (yA.1 90 (7 * yc + 4)) (yA.1 90 (7 * yc + 2)) (yA.1 90 (7 * yc + 3)) yk (by rw [hs.2.1 19 (by decide) (by decide) (by decide) (by decide) (by decide) (by decide) (by decide) (by decide)]; exact g2.2) yw0 (by rw [hs.2.1 13 (by decide) (by decide) (by decide) (by decide) (by decide) (by decide) (by decide) (by decide)]; exact ywp) rg.2.1 rg.2.2) (fun yv A4 hv => ?_)
    obtain ⟨rfl, rfl⟩ := hv
    refine Pa.iret (by rfl) ⟨?_, _, rfl⟩
    rw [livM_S yg hs, loV_p nh]
  · rw [k89] at yy
    rw [yo4] at y4
    rw [o2] at y4
    rw [hs.lo (by decide) (by decide)] at y4
    rw [loV_h (thI_iff.mp yy), if_neg y4]
  · rw [k89] at yy
    rw [yo4] at y4
    rw [o2] at y4
    rw [hs.lo (by decide) (by decide)] at y4
    rw [loV_h (thI_iff.mp yy), if_pos y4]
/-! counted twice -/
theorem fm_ev {yE : Nat → Int32} {yX : AW} (yr : ∀ yi, yi < 10 → yX.1 117 yi = yE yi) (z3 : yE 3 = 0) (z4 : yE 4 = 0) (z5 : yE 5 = 0) (yi : Nat) (yhi : yi < 10) : mEv yX 0 yi = yE yi := by
  unfold mEv
  by_cases ye3 : yi = 3
  · rw [if_pos ye3, yr 5 (by decide), z5, ye3, z3]
  · rw [if_neg ye3]
    by_cases ye4 : yi = 4
    · rw [if_pos ye4, ye4, z4]
    · rw [if_neg ye4]
      by_cases ye5 : yi = 5
      · rw [if_pos ye5, yr 4 (by decide), z4, ye5, z5]
      · rw [if_neg ye5]
        exact yr yi yhi
theorem bm_tw0 {N : Nat} {yA : AW} {yQ : Option Value → AW → Prop} (yc yk : Int32)
    (l1 : Pa N 209 0 [(0, .ref 69), (1, .int (ocM yA yc 2)), (2, .int (ocM yA yc 0)), (3, .int (ocM yA yc 3)), (4, .int yk)] [] yA (fun yu A1 => Pa N 214 29 [(0, .ref 69), (1, .int yc), (2, .int yk), (3, .int (ocM yA yc 2)), (4, .int (ocM yA yc 3))] (yu.toList ++ []) A1 yQ)) :
    Pa N 214 0 [(0, .ref 69), (1, .int yc), (2, .int yk)] [] yA yQ := by
  refine Pa.mp 2 (pc' := 2) (l' := [(0, .ref 69), (1, .int yc), (2, .int yk)]) (st' := [.int yc, .ref 69]) (by rfl) ?_
  refine Pa.ic (x := 2) (pc' := 3) (by rfl) (by rfl) (by decide) ?_
  refine Pa.inv (by rfl) (by rfl) (.inl rfl) (by rfl) ?_
  refine Pa.mono (c_oc N yA yA yc 2 (fun _ => by first | rfl | (repeat rw [uI_c (by decide)]))) (fun yu A1 hu => ?_)
  obtain ⟨rfl, hu⟩ := hu
  rw [hu]
  show Pa N 214 6 [(0, .ref 69), (1, .int yc), (2, .int yk)] [.int (ocM yA yc 2)] yA _
  refine Pa.mp 3 (pc' := 9) (l' := [(3, .int (ocM yA yc 2)), (0, .ref 69), (1, .int yc), (2, .int yk)]) (st' := [.int yc, .ref 69]) (by rfl) ?_
  refine Pa.ic (x := 3) (pc' := 10) (by rfl) (by rfl) (by decide) ?_
  refine Pa.inv (by rfl) (by rfl) (.inl rfl) (by rfl) ?_
  refine Pa.mono (c_oc N yA yA yc 3 (fun _ => by first | rfl | (repeat rw [uI_c (by decide)]))) (fun yu A1 hu => ?_)
  obtain ⟨rfl, hu⟩ := hu
  rw [hu]
  show Pa N 214 13 [(3, .int (ocM yA yc 2)), (0, .ref 69), (1, .int yc), (2, .int yk)] [.int (ocM yA yc 3)] yA _
  refine Pa.mp 5 (pc' := 19) (l' := [(4, .int (ocM yA yc 3)), (3, .int (ocM yA yc 2)), (0, .ref 69), (1, .int yc), (2, .int yk)]) (st' := [.int yc, .ref 69, .int (ocM yA yc 2), .ref 69]) (by rfl) ?_
  refine Pa.ic (x := 0) (pc' := 20) (by rfl) (by rfl) (by decide) ?_
  refine Pa.inv (by rfl) (by rfl) (.inl rfl) (by rfl) ?_
  refine Pa.mono (c_oc N yA yA yc 0 (fun _ => by first | rfl | (repeat rw [uI_c (by decide)]))) (fun yu A1 hu => ?_)
  obtain ⟨rfl, hu⟩ := hu
  rw [hu]
  show Pa N 214 23 [(4, .int (ocM yA yc 3)), (3, .int (ocM yA yc 2)), (0, .ref 69), (1, .int yc), (2, .int yk)] [.int (ocM yA yc 0), .int (ocM yA yc 2), .ref 69] yA _
  refine Pa.mp 2 (pc' := 26) (l' := [(4, .int (ocM yA yc 3)), (3, .int (ocM yA yc 2)), (0, .ref 69), (1, .int yc), (2, .int yk)]) (st' := [.int yk, .int (ocM yA yc 3), .int (ocM yA yc 0), .int (ocM yA yc 2), .ref 69]) (by rfl) ?_
  refine Pa.lv (l' := [(0, .ref 69), (1, .int yc), (2, .int yk), (3, .int (ocM yA yc 2)), (4, .int (ocM yA yc 3))]) (lvS_c rfl (lvS_c rfl (lvS_c rfl (lvS_c rfl (lvS_c rfl (lvS_nil)))))) rfl ?_
  refine Pa.inv (by rfl) (by rfl) (.inl rfl) (by rfl) ?_
  exact l1

theorem bm_tw1 {N : Nat} {yA : AW} {yQ : Option Value → AW → Prop} (yc yk l yd : Int32)
    (l1 : Pa N 205 0 [(0, .ref 69), (1, .int ((10 * l) + 4)), (2, .int yd), (3, .int yk)] [] yA (fun yu A1 => Pa N 214 42 [(0, .ref 69), (1, .int yc), (2, .int yk), (3, .int l), (4, .int yd)] (yu.toList ++ []) A1 yQ)) :
    Pa N 214 29 [(0, .ref 69), (1, .int yc), (2, .int yk), (3, .int l), (4, .int yd)] [] yA yQ := by
  refine Pa.mp 1 (pc' := 30) (l' := [(0, .ref 69), (1, .int yc), (2, .int yk), (3, .int l), (4, .int yd)]) (st' := [.ref 69]) (by rfl) ?_
  refine Pa.ic (x := 10) (pc' := 32) (by rfl) (by rfl) (by decide) ?_
  refine Pa.mp 2 (pc' := 34) (l' := [(0, .ref 69), (1, .int yc), (2, .int yk), (3, .int l), (4, .int yd)]) (st' := [.int (10 * l), .ref 69]) (by rfl) ?_
  refine Pa.ic (x := 4) (pc' := 35) (by rfl) (by rfl) (by decide) ?_
  refine Pa.mp 3 (pc' := 39) (l' := [(0, .ref 69), (1, .int yc), (2, .int yk), (3, .int l), (4, .int yd)]) (st' := [.int yk, .int yd, .int ((10 * l) + 4), .ref 69]) (by rfl) ?_
  refine Pa.inv (by rfl) (by rfl) (.inl rfl) (by rfl) ?_
  exact l1

theorem bm_tw2 {N : Nat} {yA : AW} {yQ : Option Value → AW → Prop} (yc yk l yd yt : Int32)
    (l1 : yt.toInt < 0 → yQ (some (.int 0)) yA)
    (l2 : 0 ≤ yt.toInt → yt.toInt < 20 → Pa N 202 0 [(0, .ref 69), (1, .int (160 * yt)), (2, .int (yA.1 101 yt.toInt.toNat))] [] yA (fun yu A1 => Pa N 214 66 [(0, .ref 69), (1, .int yc), (2, .int yk), (3, .int l), (4, .int yd), (5, .int yt)] (yu.toList ++ []) A1 yQ)) :
    Pa N 214 42 [(0, .ref 69), (1, .int yc), (2, .int yk), (3, .int l), (4, .int yd)] [.int yt] yA yQ := by
  refine Pa.mp 2 (pc' := 46) (l' := [(5, .int yt), (0, .ref 69), (1, .int yc), (2, .int yk), (3, .int l), (4, .int yd)]) (st' := [.int yt]) (by rfl) ?_
  refine Pa.if1 (a := yt.toInt) (t := 73) (by rfl) (by rfl) (rfl) (fun h1 => ?_) (fun h2 => ?_)
  · have h1 : yt.toInt < 0 := h1
    refine Pa.ic (x := 0) (pc' := 74) (by rfl) (by rfl) (by decide) ?_
    refine Pa.iret (by rfl) ?_
    exact l1 h1
  · have h2 : 0 ≤ yt.toInt := h2
    refine Pa.mp 1 (pc' := 50) (l' := [(5, .int yt), (0, .ref 69), (1, .int yc), (2, .int yk), (3, .int l), (4, .int yd)]) (st' := [.ref 69]) (by rfl) ?_
    refine Pa.ic (x := 160) (pc' := 53) (by rfl) (by rfl) (by decide) ?_
    refine Pa.mp 3 (pc' := 57) (l' := [(5, .int yt), (0, .ref 69), (1, .int yc), (2, .int yk), (3, .int l), (4, .int yd)]) (st' := [.ref 69, .int (160 * yt), .ref 69]) (by rfl) ?_
    refine Pa.gfR (by rfl) (by rfl) (.inl rfl) (by rfl) ?_
    show Pa N 214 60 [(5, .int yt), (0, .ref 69), (1, .int yc), (2, .int yk), (3, .int l), (4, .int yd)] [.ref 101, .int (160 * yt), .ref 69] yA _
    refine Pa.mp 1 (pc' := 62) (l' := [(5, .int yt), (0, .ref 69), (1, .int yc), (2, .int yk), (3, .int l), (4, .int yd)]) (st' := [.int yt, .ref 101, .int (160 * yt), .ref 69]) (by rfl) ?_
    refine Pa.alds (v := yA.1 101 yt.toInt.toNat) (by rfl) (by rfl) (by rfl) (fun h3 h4 => ?_)
    have h3 : 0 ≤ yt.toInt := h3
    have h4 : yt.toInt < 20 := h4
    refine Pa.lv (l' := [(0, .ref 69), (1, .int yc), (2, .int yk), (3, .int l), (4, .int yd), (5, .int yt)]) (lvS_c rfl (lvS_c rfl (lvS_c rfl (lvS_c rfl (lvS_c rfl (lvS_c rfl (lvS_nil))))))) rfl ?_
    refine Pa.inv (by rfl) (by rfl) (.inl rfl) (by rfl) ?_
    exact l2 h2 h4

theorem bm_tw3 {N : Nat} {yA : AW} {yQ : Option Value → AW → Prop} (yc yk l yd yt yv : Int32)
    (l1 : yv.toInt = 0 → yQ (some (.int 0)) yA)
    (l2 : yv.toInt ≠ 0 → yQ (some (.int 1)) yA) :
    Pa N 214 66 [(0, .ref 69), (1, .int yc), (2, .int yk), (3, .int l), (4, .int yd), (5, .int yt)] [.int yv] yA yQ := by
  refine Pa.if1 (a := yv.toInt) (t := 73) (by rfl) (by rfl) (rfl) (fun h1 => ?_) (fun h2 => ?_)
  · have h1 : yv.toInt = 0 := h1
    refine Pa.ic (x := 0) (pc' := 74) (by rfl) (by rfl) (by decide) ?_
    refine Pa.iret (by rfl) ?_
    exact l1 h1
  · have h2 : yv.toInt ≠ 0 := h2
    refine Pa.ic (x := 1) (pc' := 70) (by rfl) (by rfl) (by decide) ?_
    refine Pa.mp 1 (pc' := 74) (l' := [(0, .ref 69), (1, .int yc), (2, .int yk), (3, .int l), (4, .int yd), (5, .int yt)]) (st' := [.int 1]) (by rfl) ?_
    refine Pa.iret (by rfl) ?_
    exact l2 h2

theorem c_twM {B9 yA yW : AW} (yg : Rgx yA) (hs : smM B9 yA yW) {yc : Nat} (yhc : yc < cT yA) (yk : Int32) (N : Nat) : Pa N 214 0 [(0, .ref 69), (1, .int (Int32.ofNat yc)), (2, .int yk)] [] yW (fun yu A1 => yu = some (.int (if (twV yA yc yk).toInt = 0 then 0 else 1)) ∧ smM B9 yA A1) := by
  have h150 : yc < 150 := by have := yg.gl.T; unfold cT at yhc; omega
  have gT := yg.tT
  have yo0 : ocM yW (Int32.ofNat yc) 0 = (yA.1 90 (7 * yc)) := ocM_at hs h150 (yn := 0) (by decide) (by decide)
  have o2 : ocM yW (Int32.ofNat yc) 2 = (yA.1 90 (7 * yc + 2)) := ocM_at hs h150 (yn := 2) (by decide) (by decide)
  have yo3 : ocM yW (Int32.ofNat yc) 3 = (yA.1 90 (7 * yc + 3)) := ocM_at hs h150 (yn := 3) (by decide) (by decide)
  refine bm_tw0 _ yk ?_
  rw [yo0, o2, yo3]
  refine Pa.mono (c_nameF N yW (yA.1 90 (7 * yc + 2)) (yA.1 90 (7 * yc)) (yA.1 90 (7 * yc + 3)) yk (sm_h yg hs).2.2) (fun yv yB hv => ?_)
  obtain ⟨rfl, hn⟩ := hv
  have sB := smM_nm hs hn
  refine bm_tw1 _ yk (yA.1 90 (7 * yc + 2)) (yA.1 90 (7 * yc + 3)) ?_
  refine Pa.mono (c_forceT N yB (10 * (yA.1 90 (7 * yc + 2)) + 4) (yA.1 90 (7 * yc + 3)) yk (sm_h yg sB).1 (sm_h yg sB).2.1.1 (sm_h yg sB).2.1.2) (fun yv A2 hv => ?_)
  obtain ⟨rfl, hAB⟩ := hv
  rw [hAB, sm_fn sB]
  cases ye : fnT yA (10 * (yA.1 90 (7 * yc + 2)) + 4) (yA.1 90 (7 * yc + 3)) yk with
  | none =>
    refine bm_tw2 _ yk (yA.1 90 (7 * yc + 2)) (yA.1 90 (7 * yc + 3)) _ (fun _ => ⟨?_, sB⟩) (fun yy => absurd yy (by decide))
    have ez : twV yA yc yk = 0 := (lwV_0 (yu := 4) (txO_0 ye)).trans (by decide)
    rw [ez, if_pos (by decide)]
  | some yq =>
    have hqT : yq < tT yA := ltG_lt ye
    have hq : yq < 20 := by unfold tT at hqT; omega
    have et : (enG (-1) (some yq)).toInt = (yq : Int) := i32_nat (by omega)
    have en : (enG (-1) (some yq)).toInt.toNat = yq := by omega
    obtain ⟨ds, hds⟩ := txD_of (yg.tx yq hqT)
    refine bm_tw2 _ yk (yA.1 90 (7 * yc + 2)) (yA.1 90 (7 * yc + 3)) _ (fun yy => absurd yy (by omega)) (fun _ _ => ?_)
    rw [en]
    refine Pa.mono (c_workT (yA := yB) (yq := yq) (ds := ds) (yz := 0) hq ((sm_txD sB).mpr hds) ⟨fun _ => hn.1 3 (by decide), fun yz => by
      rw [hn.2.1] at yz
      exact absurd yz wo_m1⟩ N) (fun yv A3 hv => ?_)
    obtain ⟨rfl, aa, ft, yop, lv, yn3, wh, rfl⟩ := hv
    have hev : rnX (mEv (woB yB (160 * Int32.ofNat yq) (yB.1 101 yq)) 0) ds false [] 0 = rnX (fmE yA (yA.1 90 (7 * yc)) (yA.1 90 (7 * yc + 2)) (yA.1 90 (7 * yc + 3)) yk) ds false [] 0 := rnX_cg (fm_ev (fun yi yhi => (show (woB yB (160 * Int32.ofNat yq) (yB.1 101 yq)).1 117 yi = yB.1 117 yi from by
      unfold woB
      rw [uI_c (by decide), uI_c (by decide)]).trans (nm_fm hs hn yi yhi)) rfl rfl rfl) _ _ _ _
    have sU : ∀ a' f' o' l' b' n' w', smM B9 yA (mW (woB yB (160 * Int32.ofNat yq) (yB.1 101 yq)) a' f' o' l' b' n' w') := fun _ _ _ _ _ _ _ => smM_lm sB mW_lm
    have ez : twV yA yc yk = rnV (rnX (fmE yA (yA.1 90 (7 * yc)) (yA.1 90 (7 * yc + 2)) (yA.1 90 (7 * yc + 3)) yk) ds false [] 0) := (lwV_1 (yu := 4) (txO_1 ye hds)).trans (by unfold clX; rw [if_pos (by decide)])
    rw [hev]
    refine bm_tw3 _ yk (yA.1 90 (7 * yc + 2)) (yA.1 90 (7 * yc + 3)) _ _ (fun yy => ⟨?_, sU _ _ _ _ _ _ _⟩) (fun yy => ⟨?_, sU _ _ _ _ _ _ _⟩)
    · rw [ez, if_pos yy]
    · rw [ez, if_neg yy]
theorem c_givesD (N : Nat) (yA : AW) (l yu yd yk o ym : Int32) (yenv : Nat → Int32) (h8 : (yA.1 69 69).toInt < (yA.1 69 45).toInt) (hs0 : 0 ≤ (yA.1 69 45).toInt) (hs1 : (yA.1 69 45).toInt ≤ 20) (hx : ∀ yi, yi < (yA.1 69 45).toInt.toNat → ∃ ds, txD yA yi ds) (yz : Int32)
    (hl : ∀ yb yn, mLoc (woB (uI yA 69 68 (-1)) yb yn) (yA.1 69 66) (yA.1 117 3) yz) (he : ∀ yb yn yi, yi < 10 → mEv (woB (uI yA 69 68 (-1)) yb yn) yz yi = yenv yi) : Pa N 210 0 [(0, .ref 69), (1, .int l), (2, .int yu), (3, .int yd), (4, .int yk), (5, .int o), (6, .int ym)] [] yA (giPT yA (10 * l + yu) yd yk o ym yenv) := by
  refine bm_gi0 l yu yd yk o ym ?_
  refine Pa.mono (c_forceT N yA (10 * l + yu) yd yk h8 hs0 hs1) (fun yv A1 hv => ?_)
  obtain ⟨rfl, rfl⟩ := hv
  have l0 : lmW A1 (uI A1 69 68 (-1)) := ⟨fun yc yj yp1 _ _ => uI_c yp1, fun yj _ _ _ _ _ _ _ yp8 => uI_k yp8, rfl⟩
  refine bm_gi1 l yu yd yk o ym _ (fun yq1 yq2 => ?_) (fun yq1 => ?_)
  · cases ye : ltG (gdM A1 (10 * l + yu) yd yk) (A1.1 69 45).toInt.toNat with
    | none =>
      rw [ye] at yq1
      exact absurd yq1 wo_m1
    | some yq =>
      have hq := ltG_lt ye
      have et : (enG (-1) (some yq)).toInt.toNat = yq := by
        show (Int32.ofNat yq).toInt.toNat = yq
        rw [i32_nat (by omega)]
        omega
      obtain ⟨ds, hds⟩ := hx yq hq
      have e66 : (uI A1 69 68 (-1)).1 69 66 = A1.1 69 66 := uI_k (by decide)
      have ye117 : (uI A1 69 68 (-1)).1 117 3 = A1.1 117 3 := uI_c (by decide)
      have e101 : A1.1 101 yq = (uI A1 69 68 (-1)).1 101 yq := (uI_c (by decide)).symm
      rw [et, e101]
      have hds2 : txD (uI A1 69 68 (-1)) yq ds := by
        obtain ⟨yn, dd, b1, b2, b3⟩ := hds
        exact ⟨yn, dd, by rw [uI_c (by decide)]; exact b1, b2, RT_cg (fun yj _ => (uI_c (by decide)).symm) b3⟩
      refine Pa.mono (c_workT (yA := uI A1 69 68 (-1)) (yq := yq) (ds := ds) (yz := yz) (by omega) hds2 (by rw [e66, ye117]; exact hl _ _) N) (fun yv A2 hv => ?_)
      obtain ⟨rfl, aa, ft, yop, lv, yn3, wh, rfl⟩ := hv
      have l1 := lmW_tr l0 (mW_lm (yA := uI A1 69 68 (-1)) (yf := 160 * Int32.ofNat yq) (yn := (uI A1 69 68 (-1)).1 101 yq) (ya := aa) (ft := ft) (yop := yop) (lv := lv) (bl := rnL (rnX (mEv (woB (uI A1 69 68 (-1)) (160 * Int32.ofNat yq) ((uI A1 69 68 (-1)).1 101 yq)) yz) ds false [] 0)) (yn3 := yn3) (wh := wh))
      have hev := rnX_cg (he (160 * Int32.ofNat yq) ((uI A1 69 68 (-1)).1 101 yq)) ds false [] 0
      rw [hev] at l1 ⊢
      have yfin : ∀ yy, yy = clM ym (rnV (rnX yenv ds false [] 0)) → giPT A1 (10 * l + yu) yd yk o ym yenv (some (.int yy)) (mW (woB (uI A1 69 68 (-1)) (160 * Int32.ofNat yq) ((uI A1 69 68 (-1)).1 101 yq)) aa ft yop lv (rnL (rnX yenv ds false [] 0)) yn3 wh) := fun yy hy => ⟨yy, rfl, l1, .inr ⟨yq, ds, ye, hds, hy, mW_68⟩⟩
      refine bm_gi2 l yu yd yk o ym _ _ (fun z1 z2 => yfin _ ?_) (fun z1 z2 => yfin _ ?_) (fun z1 => yfin _ ?_)
      · unfold clM
        rw [if_neg (by omega), if_neg (by omega)]
      · unfold clM
        rw [if_neg (by omega), if_pos z2]
      · unfold clM
        rw [if_pos z1]
  · cases ye : ltG (gdM A1 (10 * l + yu) yd yk) (A1.1 69 45).toInt.toNat with
    | none => exact ⟨o, rfl, l0, .inl ⟨ye, rfl, uI_h⟩⟩
    | some yq =>
      rw [ye] at yq1
      have hq := ltG_lt ye
      exact absurd yq1 (on_nn yq (by omega))
/-! the whole -/
theorem bm_ct0 {N : Nat} {yA : AW} {yQ : Option Value → AW → Prop} (yc yk : Int32)
    (l1 : Pa N 189 0 [(0, .ref 69), (1, .int yc)] [] yA (fun yu A1 => Pa N 215 20 [(0, .ref 69), (1, .int yc), (2, .int yk), (3, .int (ocM yA yc 2)), (4, .int (ocM yA yc 3))] (yu.toList ++ []) A1 yQ)) :
    Pa N 215 0 [(0, .ref 69), (1, .int yc), (2, .int yk)] [] yA yQ := by
  refine Pa.mp 2 (pc' := 2) (l' := [(0, .ref 69), (1, .int yc), (2, .int yk)]) (st' := [.int yc, .ref 69]) (by rfl) ?_
  refine Pa.ic (x := 2) (pc' := 3) (by rfl) (by rfl) (by decide) ?_
  refine Pa.inv (by rfl) (by rfl) (.inl rfl) (by rfl) ?_
  refine Pa.mono (c_oc N yA yA yc 2 (fun _ => by first | rfl | (repeat rw [uI_c (by decide)]))) (fun yu A1 hu => ?_)
  obtain ⟨rfl, hu⟩ := hu
  rw [hu]
  show Pa N 215 6 [(0, .ref 69), (1, .int yc), (2, .int yk)] [.int (ocM yA yc 2)] yA _
  refine Pa.mp 3 (pc' := 9) (l' := [(3, .int (ocM yA yc 2)), (0, .ref 69), (1, .int yc), (2, .int yk)]) (st' := [.int yc, .ref 69]) (by rfl) ?_
  refine Pa.ic (x := 3) (pc' := 10) (by rfl) (by rfl) (by decide) ?_
  refine Pa.inv (by rfl) (by rfl) (.inl rfl) (by rfl) ?_
  refine Pa.mono (c_oc N yA yA yc 3 (fun _ => by first | rfl | (repeat rw [uI_c (by decide)]))) (fun yu A1 hu => ?_)
  obtain ⟨rfl, hu⟩ := hu
  rw [hu]
  show Pa N 215 13 [(3, .int (ocM yA yc 2)), (0, .ref 69), (1, .int yc), (2, .int yk)] [.int (ocM yA yc 3)] yA _
  refine Pa.mp 3 (pc' := 17) (l' := [(4, .int (ocM yA yc 3)), (3, .int (ocM yA yc 2)), (0, .ref 69), (1, .int yc), (2, .int yk)]) (st' := [.int yc, .ref 69]) (by rfl) ?_
  refine Pa.lv (l' := [(0, .ref 69), (1, .int yc), (2, .int yk), (3, .int (ocM yA yc 2)), (4, .int (ocM yA yc 3))]) (lvS_c rfl (lvS_c rfl (lvS_c rfl (lvS_c rfl (lvS_c rfl (lvS_nil)))))) rfl ?_
  refine Pa.inv (by rfl) (by rfl) (.inl rfl) (by rfl) ?_
  exact l1

theorem bm_ct1 {N : Nat} {yA : AW} {yQ : Option Value → AW → Prop} (yc yk l yd yx : Int32)
    (l1 : yx.toInt = 0 → Pa N 209 0 [(0, .ref 69), (1, .int l), (2, .int (ocM yA yc 0)), (3, .int yd), (4, .int yk)] [] yA (fun yu A1 => Pa N 215 53 [(0, .ref 69), (1, .int yc), (2, .int yk), (3, .int l), (4, .int yd), (5, .int 0)] (yu.toList ++ []) A1 yQ))
    (l2 : yx.toInt ≠ 0 → Pa N 214 0 [(0, .ref 69), (1, .int yc), (2, .int yk)] [] yA (fun yu A1 => Pa N 215 29 [(0, .ref 69), (1, .int yc), (2, .int yk), (3, .int l), (4, .int yd)] (yu.toList ++ []) A1 yQ)) :
    Pa N 215 20 [(0, .ref 69), (1, .int yc), (2, .int yk), (3, .int l), (4, .int yd)] [.int yx] yA yQ := by
  refine Pa.if1 (a := yx.toInt) (t := 36) (by rfl) (by rfl) (rfl) (fun h1 => ?_) (fun h2 => ?_)
  · have h1 : yx.toInt = 0 := h1
    refine Pa.ic (x := 0) (pc' := 37) (by rfl) (by rfl) (by decide) ?_
    refine Pa.mp 5 (pc' := 43) (l' := [(5, .int 0), (0, .ref 69), (1, .int yc), (2, .int yk), (3, .int l), (4, .int yd)]) (st' := [.int yc, .ref 69, .int l, .ref 69]) (by rfl) ?_
    refine Pa.ic (x := 0) (pc' := 44) (by rfl) (by rfl) (by decide) ?_
    refine Pa.inv (by rfl) (by rfl) (.inl rfl) (by rfl) ?_
    refine Pa.mono (c_oc N yA yA yc 0 (fun _ => by first | rfl | (repeat rw [uI_c (by decide)]))) (fun yu A1 hu => ?_)
    obtain ⟨rfl, hu⟩ := hu
    rw [hu]
    show Pa N 215 47 [(5, .int 0), (0, .ref 69), (1, .int yc), (2, .int yk), (3, .int l), (4, .int yd)] [.int (ocM yA yc 0), .int l, .ref 69] yA _
    refine Pa.mp 2 (pc' := 50) (l' := [(5, .int 0), (0, .ref 69), (1, .int yc), (2, .int yk), (3, .int l), (4, .int yd)]) (st' := [.int yk, .int yd, .int (ocM yA yc 0), .int l, .ref 69]) (by rfl) ?_
    refine Pa.lv (l' := [(0, .ref 69), (1, .int yc), (2, .int yk), (3, .int l), (4, .int yd), (5, .int 0)]) (lvS_c rfl (lvS_c rfl (lvS_c rfl (lvS_c rfl (lvS_c rfl (lvS_c rfl (lvS_nil))))))) rfl ?_
    refine Pa.inv (by rfl) (by rfl) (.inl rfl) (by rfl) ?_
    exact l1 h1
  · have h2 : yx.toInt ≠ 0 := h2
    refine Pa.mp 3 (pc' := 26) (l' := [(0, .ref 69), (1, .int yc), (2, .int yk), (3, .int l), (4, .int yd)]) (st' := [.int yk, .int yc, .ref 69]) (by rfl) ?_
    refine Pa.inv (by rfl) (by rfl) (.inl rfl) (by rfl) ?_
    exact l2 h2

theorem bm_ct2 {N : Nat} {yA : AW} {yQ : Option Value → AW → Prop} (yc yk l yd yx : Int32)
    (l1 : yx.toInt ≠ 0 → Pa N 209 0 [(0, .ref 69), (1, .int l), (2, .int (ocM yA yc 0)), (3, .int yd), (4, .int yk)] [] yA (fun yu A1 => Pa N 215 53 [(0, .ref 69), (1, .int yc), (2, .int yk), (3, .int l), (4, .int yd), (5, .int 0)] (yu.toList ++ []) A1 yQ))
    (l2 : yx.toInt = 0 → Pa N 209 0 [(0, .ref 69), (1, .int l), (2, .int (ocM yA yc 0)), (3, .int yd), (4, .int yk)] [] yA (fun yu A1 => Pa N 215 53 [(0, .ref 69), (1, .int yc), (2, .int yk), (3, .int l), (4, .int yd), (5, .int 1)] (yu.toList ++ []) A1 yQ)) :
    Pa N 215 29 [(0, .ref 69), (1, .int yc), (2, .int yk), (3, .int l), (4, .int yd)] [.int yx] yA yQ := by
  refine Pa.if1 (a := yx.toInt) (t := 36) (by rfl) (by rfl) (rfl) (fun h1 => ?_) (fun h2 => ?_)
  · have h1 : yx.toInt ≠ 0 := h1
    refine Pa.ic (x := 0) (pc' := 37) (by rfl) (by rfl) (by decide) ?_
    refine Pa.mp 5 (pc' := 43) (l' := [(5, .int 0), (0, .ref 69), (1, .int yc), (2, .int yk), (3, .int l), (4, .int yd)]) (st' := [.int yc, .ref 69, .int l, .ref 69]) (by rfl) ?_
    refine Pa.ic (x := 0) (pc' := 44) (by rfl) (by rfl) (by decide) ?_
    refine Pa.inv (by rfl) (by rfl) (.inl rfl) (by rfl) ?_
    refine Pa.mono (c_oc N yA yA yc 0 (fun _ => by first | rfl | (repeat rw [uI_c (by decide)]))) (fun yu A1 hu => ?_)
    obtain ⟨rfl, hu⟩ := hu
    rw [hu]
    show Pa N 215 47 [(5, .int 0), (0, .ref 69), (1, .int yc), (2, .int yk), (3, .int l), (4, .int yd)] [.int (ocM yA yc 0), .int l, .ref 69] yA _
    refine Pa.mp 2 (pc' := 50) (l' := [(5, .int 0), (0, .ref 69), (1, .int yc), (2, .int yk), (3, .int l), (4, .int yd)]) (st' := [.int yk, .int yd, .int (ocM yA yc 0), .int l, .ref 69]) (by rfl) ?_
    refine Pa.lv (l' := [(0, .ref 69), (1, .int yc), (2, .int yk), (3, .int l), (4, .int yd), (5, .int 0)]) (lvS_c rfl (lvS_c rfl (lvS_c rfl (lvS_c rfl (lvS_c rfl (lvS_c rfl (lvS_nil))))))) rfl ?_
    refine Pa.inv (by rfl) (by rfl) (.inl rfl) (by rfl) ?_
    exact l1 h1
  · have h2 : yx.toInt = 0 := h2
    refine Pa.ic (x := 1) (pc' := 33) (by rfl) (by rfl) (by decide) ?_
    refine Pa.mp 6 (pc' := 43) (l' := [(5, .int 1), (0, .ref 69), (1, .int yc), (2, .int yk), (3, .int l), (4, .int yd)]) (st' := [.int yc, .ref 69, .int l, .ref 69]) (by rfl) ?_
    refine Pa.ic (x := 0) (pc' := 44) (by rfl) (by rfl) (by decide) ?_
    refine Pa.inv (by rfl) (by rfl) (.inl rfl) (by rfl) ?_
    refine Pa.mono (c_oc N yA yA yc 0 (fun _ => by first | rfl | (repeat rw [uI_c (by decide)]))) (fun yu A1 hu => ?_)
    obtain ⟨rfl, hu⟩ := hu
    rw [hu]
    show Pa N 215 47 [(5, .int 1), (0, .ref 69), (1, .int yc), (2, .int yk), (3, .int l), (4, .int yd)] [.int (ocM yA yc 0), .int l, .ref 69] yA _
    refine Pa.mp 2 (pc' := 50) (l' := [(5, .int 1), (0, .ref 69), (1, .int yc), (2, .int yk), (3, .int l), (4, .int yd)]) (st' := [.int yk, .int yd, .int (ocM yA yc 0), .int l, .ref 69]) (by rfl) ?_
    refine Pa.lv (l' := [(0, .ref 69), (1, .int yc), (2, .int yk), (3, .int l), (4, .int yd), (5, .int 1)]) (lvS_c rfl (lvS_c rfl (lvS_c rfl (lvS_c rfl (lvS_c rfl (lvS_c rfl (lvS_nil))))))) rfl ?_
    refine Pa.inv (by rfl) (by rfl) (.inl rfl) (by rfl) ?_
    exact l2 h2

theorem bm_ct3 {N : Nat} {yA : AW} {yQ : Option Value → AW → Prop} (yc yk l yd yn : Int32)
    (l1 : 0 ≤ yc.toInt → yc.toInt < 150 → Pa N 180 0 [(0, .ref 69), (1, .int yc), (2, .int yk)] [] (uI (uI yA 117 0 (yA.1 89 yc.toInt.toNat)) 117 1 (ocM yA yc 6)) (fun yu A1 => Pa N 215 89 [(0, .ref 69), (1, .int yc), (2, .int yk), (3, .int l), (4, .int yd), (5, .int yn)] (yu.toList ++ [.int 2, .ref 117]) A1 yQ)) :
    Pa N 215 53 [(0, .ref 69), (1, .int yc), (2, .int yk), (3, .int l), (4, .int yd), (5, .int yn)] [] yA yQ := by
  refine Pa.mp 1 (pc' := 54) (l' := [(0, .ref 69), (1, .int yc), (2, .int yk), (3, .int l), (4, .int yd), (5, .int yn)]) (st' := [.ref 69]) (by rfl) ?_
  refine Pa.gfR (by rfl) (by rfl) (.inl rfl) (by rfl) ?_
  show Pa N 215 57 [(0, .ref 69), (1, .int yc), (2, .int yk), (3, .int l), (4, .int yd), (5, .int yn)] [.ref 117] yA _
  refine Pa.ic (x := 0) (pc' := 58) (by rfl) (by rfl) (by decide) ?_
  refine Pa.mp 1 (pc' := 59) (l' := [(0, .ref 69), (1, .int yc), (2, .int yk), (3, .int l), (4, .int yd), (5, .int yn)]) (st' := [.ref 69, .int 0, .ref 117]) (by rfl) ?_
  refine Pa.gfR (by rfl) (by rfl) (.inl rfl) (by rfl) ?_
  show Pa N 215 62 [(0, .ref 69), (1, .int yc), (2, .int yk), (3, .int l), (4, .int yd), (5, .int yn)] [.ref 89, .int 0, .ref 117] yA _
  refine Pa.mp 1 (pc' := 63) (l' := [(0, .ref 69), (1, .int yc), (2, .int yk), (3, .int l), (4, .int yd), (5, .int yn)]) (st' := [.int yc, .ref 89, .int 0, .ref 117]) (by rfl) ?_
  refine Pa.alds (v := yA.1 89 yc.toInt.toNat) (by rfl) (by rfl) (by rfl) (fun h1 h2 => ?_)
  have h1 : 0 ≤ yc.toInt := h1
  have h2 : yc.toInt < 150 := h2
  refine Pa.asts (j' := 0) (by rfl) (by rfl) (by rfl) (fun h3 h4 => ?_)
  show Pa N 215 65 [(0, .ref 69), (1, .int yc), (2, .int yk), (3, .int l), (4, .int yd), (5, .int yn)] [] (uI yA 117 0 (yA.1 89 yc.toInt.toNat)) _
  refine Pa.mp 1 (pc' := 66) (l' := [(0, .ref 69), (1, .int yc), (2, .int yk), (3, .int l), (4, .int yd), (5, .int yn)]) (st' := [.ref 69]) (by rfl) ?_
  refine Pa.gfR (by rfl) (by rfl) (.inl rfl) (by rfl) ?_
  show Pa N 215 69 [(0, .ref 69), (1, .int yc), (2, .int yk), (3, .int l), (4, .int yd), (5, .int yn)] [.ref 117] (uI yA 117 0 (yA.1 89 yc.toInt.toNat)) _
  refine Pa.ic (x := 1) (pc' := 70) (by rfl) (by rfl) (by decide) ?_
  refine Pa.mp 2 (pc' := 72) (l' := [(0, .ref 69), (1, .int yc), (2, .int yk), (3, .int l), (4, .int yd), (5, .int yn)]) (st' := [.int yc, .ref 69, .int 1, .ref 117]) (by rfl) ?_
  refine Pa.ic (x := 6) (pc' := 74) (by rfl) (by rfl) (by decide) ?_
  refine Pa.inv (by rfl) (by rfl) (.inl rfl) (by rfl) ?_
  refine Pa.mono (c_oc N yA (uI yA 117 0 (yA.1 89 yc.toInt.toNat)) yc 6 (fun _ => by first | rfl | (repeat rw [uI_c (by decide)]))) (fun yu A1 hu => ?_)
  obtain ⟨rfl, hu⟩ := hu
  rw [hu]
  show Pa N 215 77 [(0, .ref 69), (1, .int yc), (2, .int yk), (3, .int l), (4, .int yd), (5, .int yn)] [.int (ocM yA yc 6), .int 1, .ref 117] (uI yA 117 0 (yA.1 89 yc.toInt.toNat)) _
  refine Pa.asts (j' := 1) (by rfl) (by rfl) (by rfl) (fun h5 h6 => ?_)
  show Pa N 215 78 [(0, .ref 69), (1, .int yc), (2, .int yk), (3, .int l), (4, .int yd), (5, .int yn)] [] (uI (uI yA 117 0 (yA.1 89 yc.toInt.toNat)) 117 1 (ocM yA yc 6)) _
  refine Pa.mp 1 (pc' := 79) (l' := [(0, .ref 69), (1, .int yc), (2, .int yk), (3, .int l), (4, .int yd), (5, .int yn)]) (st' := [.ref 69]) (by rfl) ?_
  refine Pa.gfR (by rfl) (by rfl) (.inl rfl) (by rfl) ?_
  show Pa N 215 82 [(0, .ref 69), (1, .int yc), (2, .int yk), (3, .int l), (4, .int yd), (5, .int yn)] [.ref 117] (uI (uI yA 117 0 (yA.1 89 yc.toInt.toNat)) 117 1 (ocM yA yc 6)) _
  refine Pa.ic (x := 2) (pc' := 83) (by rfl) (by rfl) (by decide) ?_
  refine Pa.mp 3 (pc' := 86) (l' := [(0, .ref 69), (1, .int yc), (2, .int yk), (3, .int l), (4, .int yd), (5, .int yn)]) (st' := [.int yk, .int yc, .ref 69, .int 2, .ref 117]) (by rfl) ?_
  refine Pa.inv (by rfl) (by rfl) (.inl rfl) (by rfl) ?_
  exact l1 h1 h2

theorem bm_ct4 {N : Nat} {yA : AW} {yQ : Option Value → AW → Prop} (yc yk l yd yn yv : Int32)
    (l1 : Pa N 186 0 [(0, .ref 69), (1, .int yc), (2, .int yk)] [] (uI yA 117 2 yv) (fun yu A1 => Pa N 215 101 [(0, .ref 69), (1, .int yc), (2, .int yk), (3, .int l), (4, .int yd), (5, .int yn)] (yu.toList ++ [.int 4, .ref 117]) A1 yQ)) :
    Pa N 215 89 [(0, .ref 69), (1, .int yc), (2, .int yk), (3, .int l), (4, .int yd), (5, .int yn)] [.int yv, .int 2, .ref 117] yA yQ := by
  refine Pa.asts (j' := 2) (by rfl) (by rfl) (by rfl) (fun h1 h2 => ?_)
  show Pa N 215 90 [(0, .ref 69), (1, .int yc), (2, .int yk), (3, .int l), (4, .int yd), (5, .int yn)] [] (uI yA 117 2 yv) _
  refine Pa.mp 1 (pc' := 91) (l' := [(0, .ref 69), (1, .int yc), (2, .int yk), (3, .int l), (4, .int yd), (5, .int yn)]) (st' := [.ref 69]) (by rfl) ?_
  refine Pa.gfR (by rfl) (by rfl) (.inl rfl) (by rfl) ?_
  show Pa N 215 94 [(0, .ref 69), (1, .int yc), (2, .int yk), (3, .int l), (4, .int yd), (5, .int yn)] [.ref 117] (uI yA 117 2 yv) _
  refine Pa.ic (x := 4) (pc' := 95) (by rfl) (by rfl) (by decide) ?_
  refine Pa.mp 3 (pc' := 98) (l' := [(0, .ref 69), (1, .int yc), (2, .int yk), (3, .int l), (4, .int yd), (5, .int yn)]) (st' := [.int yk, .int yc, .ref 69, .int 4, .ref 117]) (by rfl) ?_
  refine Pa.inv (by rfl) (by rfl) (.inl rfl) (by rfl) ?_
  exact l1

theorem bm_ct5 {N : Nat} {yA : AW} {yQ : Option Value → AW → Prop} (yc yk l yd yn yx : Int32)
    (l1 : yx.toInt = 0 → Pa N 210 0 [(0, .ref 69), (1, .int l), (2, .int 0), (3, .int yd), (4, .int yk), (5, .int 100), (6, .int 100)] [] (uI (uI (uI (uI yA 117 4 0) 117 5 (ocM yA yc 1)) 69 66 yc) 69 67 yk) (fun yu A1 => Pa N 215 145 [(0, .ref 69), (1, .int yc), (2, .int yk), (3, .int l), (4, .int yd), (5, .int yn)] (yu.toList ++ []) A1 yQ))
    (l2 : yx.toInt ≠ 0 → Pa N 210 0 [(0, .ref 69), (1, .int l), (2, .int 0), (3, .int yd), (4, .int yk), (5, .int 100), (6, .int 100)] [] (uI (uI (uI (uI yA 117 4 1) 117 5 (ocM yA yc 1)) 69 66 yc) 69 67 yk) (fun yu A1 => Pa N 215 145 [(0, .ref 69), (1, .int yc), (2, .int yk), (3, .int l), (4, .int yd), (5, .int yn)] (yu.toList ++ []) A1 yQ)) :
    Pa N 215 101 [(0, .ref 69), (1, .int yc), (2, .int yk), (3, .int l), (4, .int yd), (5, .int yn)] [.int yx, .int 4, .ref 117] yA yQ := by
  refine Pa.if1 (a := yx.toInt) (t := 108) (by rfl) (by rfl) (rfl) (fun h1 => ?_) (fun h2 => ?_)
  · have h1 : yx.toInt = 0 := h1
    refine Pa.ic (x := 0) (pc' := 109) (by rfl) (by rfl) (by decide) ?_
    refine Pa.asts (j' := 4) (by rfl) (by rfl) (by rfl) (fun h3 h4 => ?_)
    show Pa N 215 110 [(0, .ref 69), (1, .int yc), (2, .int yk), (3, .int l), (4, .int yd), (5, .int yn)] [] (uI yA 117 4 0) _
    refine Pa.mp 1 (pc' := 111) (l' := [(0, .ref 69), (1, .int yc), (2, .int yk), (3, .int l), (4, .int yd), (5, .int yn)]) (st' := [.ref 69]) (by rfl) ?_
    refine Pa.gfR (by rfl) (by rfl) (.inl rfl) (by rfl) ?_
    show Pa N 215 114 [(0, .ref 69), (1, .int yc), (2, .int yk), (3, .int l), (4, .int yd), (5, .int yn)] [.ref 117] (uI yA 117 4 0) _
    refine Pa.ic (x := 5) (pc' := 115) (by rfl) (by rfl) (by decide) ?_
    refine Pa.mp 2 (pc' := 117) (l' := [(0, .ref 69), (1, .int yc), (2, .int yk), (3, .int l), (4, .int yd), (5, .int yn)]) (st' := [.int yc, .ref 69, .int 5, .ref 117]) (by rfl) ?_
    refine Pa.ic (x := 1) (pc' := 118) (by rfl) (by rfl) (by decide) ?_
    refine Pa.inv (by rfl) (by rfl) (.inl rfl) (by rfl) ?_
    refine Pa.mono (c_oc N yA (uI yA 117 4 0) yc 1 (fun _ => by first | rfl | (repeat rw [uI_c (by decide)]))) (fun yu A1 hu => ?_)
    obtain ⟨rfl, hu⟩ := hu
    rw [hu]
    show Pa N 215 121 [(0, .ref 69), (1, .int yc), (2, .int yk), (3, .int l), (4, .int yd), (5, .int yn)] [.int (ocM yA yc 1), .int 5, .ref 117] (uI yA 117 4 0) _
    refine Pa.asts (j' := 5) (by rfl) (by rfl) (by rfl) (fun h5 h6 => ?_)
    show Pa N 215 122 [(0, .ref 69), (1, .int yc), (2, .int yk), (3, .int l), (4, .int yd), (5, .int yn)] [] (uI (uI yA 117 4 0) 117 5 (ocM yA yc 1)) _
    refine Pa.mp 2 (pc' := 124) (l' := [(0, .ref 69), (1, .int yc), (2, .int yk), (3, .int l), (4, .int yd), (5, .int yn)]) (st' := [.int yc, .ref 69]) (by rfl) ?_
    refine Pa.pfI (by rfl) (by rfl) (.inl rfl) (by rfl) ?_
    show Pa N 215 127 [(0, .ref 69), (1, .int yc), (2, .int yk), (3, .int l), (4, .int yd), (5, .int yn)] [] (uI (uI (uI yA 117 4 0) 117 5 (ocM yA yc 1)) 69 66 yc) _
    refine Pa.mp 2 (pc' := 129) (l' := [(0, .ref 69), (1, .int yc), (2, .int yk), (3, .int l), (4, .int yd), (5, .int yn)]) (st' := [.int yk, .ref 69]) (by rfl) ?_
    refine Pa.pfI (by rfl) (by rfl) (.inl rfl) (by rfl) ?_
    show Pa N 215 132 [(0, .ref 69), (1, .int yc), (2, .int yk), (3, .int l), (4, .int yd), (5, .int yn)] [] (uI (uI (uI (uI yA 117 4 0) 117 5 (ocM yA yc 1)) 69 66 yc) 69 67 yk) _
    refine Pa.mp 2 (pc' := 134) (l' := [(0, .ref 69), (1, .int yc), (2, .int yk), (3, .int l), (4, .int yd), (5, .int yn)]) (st' := [.int l, .ref 69]) (by rfl) ?_
    refine Pa.ic (x := 0) (pc' := 135) (by rfl) (by rfl) (by decide) ?_
    refine Pa.mp 2 (pc' := 138) (l' := [(0, .ref 69), (1, .int yc), (2, .int yk), (3, .int l), (4, .int yd), (5, .int yn)]) (st' := [.int yk, .int yd, .int 0, .int l, .ref 69]) (by rfl) ?_
    refine Pa.ic (x := 100) (pc' := 140) (by rfl) (by rfl) (by decide) ?_
    refine Pa.ic (x := 100) (pc' := 142) (by rfl) (by rfl) (by decide) ?_
    refine Pa.inv (by rfl) (by rfl) (.inl rfl) (by rfl) ?_
    exact l1 h1
  · have h2 : yx.toInt ≠ 0 := h2
    refine Pa.ic (x := 1) (pc' := 105) (by rfl) (by rfl) (by decide) ?_
    refine Pa.mp 1 (pc' := 109) (l' := [(0, .ref 69), (1, .int yc), (2, .int yk), (3, .int l), (4, .int yd), (5, .int yn)]) (st' := [.int 1, .int 4, .ref 117]) (by rfl) ?_
    refine Pa.asts (j' := 4) (by rfl) (by rfl) (by rfl) (fun h7 h8 => ?_)
    show Pa N 215 110 [(0, .ref 69), (1, .int yc), (2, .int yk), (3, .int l), (4, .int yd), (5, .int yn)] [] (uI yA 117 4 1) _
    refine Pa.mp 1 (pc' := 111) (l' := [(0, .ref 69), (1, .int yc), (2, .int yk), (3, .int l), (4, .int yd), (5, .int yn)]) (st' := [.ref 69]) (by rfl) ?_
    refine Pa.gfR (by rfl) (by rfl) (.inl rfl) (by rfl) ?_
    show Pa N 215 114 [(0, .ref 69), (1, .int yc), (2, .int yk), (3, .int l), (4, .int yd), (5, .int yn)] [.ref 117] (uI yA 117 4 1) _
    refine Pa.ic (x := 5) (pc' := 115) (by rfl) (by rfl) (by decide) ?_
    refine Pa.mp 2 (pc' := 117) (l' := [(0, .ref 69), (1, .int yc), (2, .int yk), (3, .int l), (4, .int yd), (5, .int yn)]) (st' := [.int yc, .ref 69, .int 5, .ref 117]) (by rfl) ?_
    refine Pa.ic (x := 1) (pc' := 118) (by rfl) (by rfl) (by decide) ?_
    refine Pa.inv (by rfl) (by rfl) (.inl rfl) (by rfl) ?_
    refine Pa.mono (c_oc N yA (uI yA 117 4 1) yc 1 (fun _ => by first | rfl | (repeat rw [uI_c (by decide)]))) (fun yu A1 hu => ?_)
    obtain ⟨rfl, hu⟩ := hu
    rw [hu]
    show Pa N 215 121 [(0, .ref 69), (1, .int yc), (2, .int yk), (3, .int l), (4, .int yd), (5, .int yn)] [.int (ocM yA yc 1), .int 5, .ref 117] (uI yA 117 4 1) _
    refine Pa.asts (j' := 5) (by rfl) (by rfl) (by rfl) (fun h9 h10 => ?_)
    show Pa N 215 122 [(0, .ref 69), (1, .int yc), (2, .int yk), (3, .int l), (4, .int yd), (5, .int yn)] [] (uI (uI yA 117 4 1) 117 5 (ocM yA yc 1)) _
    refine Pa.mp 2 (pc' := 124) (l' := [(0, .ref 69), (1, .int yc), (2, .int yk), (3, .int l), (4, .int yd), (5, .int yn)]) (st' := [.int yc, .ref 69]) (by rfl) ?_
    refine Pa.pfI (by rfl) (by rfl) (.inl rfl) (by rfl) ?_
    show Pa N 215 127 [(0, .ref 69), (1, .int yc), (2, .int yk), (3, .int l), (4, .int yd), (5, .int yn)] [] (uI (uI (uI yA 117 4 1) 117 5 (ocM yA yc 1)) 69 66 yc) _
    refine Pa.mp 2 (pc' := 129) (l' := [(0, .ref 69), (1, .int yc), (2, .int yk), (3, .int l), (4, .int yd), (5, .int yn)]) (st' := [.int yk, .ref 69]) (by rfl) ?_
    refine Pa.pfI (by rfl) (by rfl) (.inl rfl) (by rfl) ?_
    show Pa N 215 132 [(0, .ref 69), (1, .int yc), (2, .int yk), (3, .int l), (4, .int yd), (5, .int yn)] [] (uI (uI (uI (uI yA 117 4 1) 117 5 (ocM yA yc 1)) 69 66 yc) 69 67 yk) _
    refine Pa.mp 2 (pc' := 134) (l' := [(0, .ref 69), (1, .int yc), (2, .int yk), (3, .int l), (4, .int yd), (5, .int yn)]) (st' := [.int l, .ref 69]) (by rfl) ?_
    refine Pa.ic (x := 0) (pc' := 135) (by rfl) (by rfl) (by decide) ?_
    refine Pa.mp 2 (pc' := 138) (l' := [(0, .ref 69), (1, .int yc), (2, .int yk), (3, .int l), (4, .int yd), (5, .int yn)]) (st' := [.int yk, .int yd, .int 0, .int l, .ref 69]) (by rfl) ?_
    refine Pa.ic (x := 100) (pc' := 140) (by rfl) (by rfl) (by decide) ?_
    refine Pa.ic (x := 100) (pc' := 142) (by rfl) (by rfl) (by decide) ?_
    refine Pa.inv (by rfl) (by rfl) (.inl rfl) (by rfl) ?_
    exact l2 h2

theorem bm_ct6 {N : Nat} {yA : AW} {yQ : Option Value → AW → Prop} (yc yk l yd yn yb : Int32)
    (l1 : Pa N 187 0 [(0, .ref 69), (1, .int yc), (2, .int yk)] [] yA (fun yu A1 => Pa N 215 153 [(0, .ref 69), (1, .int yc), (2, .int yk), (3, .int l), (4, .int yd), (5, .int yn), (6, .int yb)] (yu.toList ++ []) A1 yQ)) :
    Pa N 215 145 [(0, .ref 69), (1, .int yc), (2, .int yk), (3, .int l), (4, .int yd), (5, .int yn)] [.int yb] yA yQ := by
  refine Pa.mp 4 (pc' := 150) (l' := [(6, .int yb), (0, .ref 69), (1, .int yc), (2, .int yk), (3, .int l), (4, .int yd), (5, .int yn)]) (st' := [.int yk, .int yc, .ref 69]) (by rfl) ?_
  refine Pa.lv (l' := [(0, .ref 69), (1, .int yc), (2, .int yk), (3, .int l), (4, .int yd), (5, .int yn), (6, .int yb)]) (lvS_c rfl (lvS_c rfl (lvS_c rfl (lvS_c rfl (lvS_c rfl (lvS_c rfl (lvS_c rfl (lvS_nil)))))))) rfl ?_
  refine Pa.inv (by rfl) (by rfl) (.inl rfl) (by rfl) ?_
  exact l1

theorem bm_ct7 {N : Nat} {yA : AW} {yQ : Option Value → AW → Prop} (yc yk l yd yn yb yx : Int32)
    (l1 : Pa N 162 0 [(0, .ref 69), (1, .int l), (2, .int yd)] [] yA (fun yu A1 => Pa N 215 161 [(0, .ref 69), (1, .int yc), (2, .int yk), (3, .int l), (4, .int yd), (5, .int yn), (6, .int yb)] (yu.toList ++ [.long yx.toInt64]) A1 yQ)) :
    Pa N 215 153 [(0, .ref 69), (1, .int yc), (2, .int yk), (3, .int l), (4, .int yd), (5, .int yn), (6, .int yb)] [.int yx] yA yQ := by
  refine Pa.mp 4 (pc' := 158) (l' := [(0, .ref 69), (1, .int yc), (2, .int yk), (3, .int l), (4, .int yd), (5, .int yn), (6, .int yb)]) (st' := [.int yd, .int l, .ref 69, .long yx.toInt64]) (by rfl) ?_
  refine Pa.inv (by rfl) (by rfl) (.inl rfl) (by rfl) ?_
  exact l1

theorem bm_ct8 {N : Nat} {yA : AW} {yQ : Option Value → AW → Prop} (yc yk l yd yn yb yy : Int32) (yx : Int64)
    (l1 : yn.toInt = 0 → (lg_cmp ((((yx * yy.toInt64) / 1000) * yb.toInt64) / 100) 1999999999).toInt ≤ 0 → yQ (some (.int (((((yx * yy.toInt64) / 1000) * yb.toInt64) / 100).toInt32))) (uI yA 69 68 (yA.1 69 68)))
    (l2 : yn.toInt = 0 → 0 < (lg_cmp ((((yx * yy.toInt64) / 1000) * yb.toInt64) / 100) 1999999999).toInt → yQ (some (.int (1999999999 : Int64).toInt32)) (uI yA 69 68 (yA.1 69 68)))
    (l3 : yn.toInt ≠ 0 → yQ (some (.int 0)) (uI yA 69 68 (-1))) :
    Pa N 215 161 [(0, .ref 69), (1, .int yc), (2, .int yk), (3, .int l), (4, .int yd), (5, .int yn), (6, .int yb)] [.int yy, .long yx] yA yQ := by
  refine Pa.mp 2 (pc' := 163) (l' := [(0, .ref 69), (1, .int yc), (2, .int yk), (3, .int l), (4, .int yd), (5, .int yn), (6, .int yb)]) (st' := [.long (yx * yy.toInt64)]) (by rfl) ?_
  refine Pa.jcl (x := 1000) (pc' := 166) (by rfl) (fun _ _ _ => by rfl) (by decide) ?_
  refine Pa.ldiv (by rfl) ?_
  refine Pa.mp 5 (pc' := 175) (l' := [(7, .long ((yx * yy.toInt64) / 1000)), (0, .ref 69), (1, .int yc), (2, .int yk), (3, .int l), (4, .int yd), (5, .int yn), (6, .int yb)]) (st' := [.long (((yx * yy.toInt64) / 1000) * yb.toInt64)]) (by rfl) ?_
  refine Pa.jcl (x := 100) (pc' := 178) (by rfl) (fun _ _ _ => by rfl) (by decide) ?_
  refine Pa.ldiv (by rfl) ?_
  refine Pa.mp 3 (pc' := 184) (l' := [(7, .long ((((yx * yy.toInt64) / 1000) * yb.toInt64) / 100)), (0, .ref 69), (1, .int yc), (2, .int yk), (3, .int l), (4, .int yd), (5, .int yn), (6, .int yb)]) (st' := [.int yn, .ref 69]) (by rfl) ?_
  refine Pa.if1 (a := yn.toInt) (t := 191) (by rfl) (by rfl) (rfl) (fun h1 => ?_) (fun h2 => ?_)
  · have h1 : yn.toInt = 0 := h1
    refine Pa.mp 1 (pc' := 192) (l' := [(7, .long ((((yx * yy.toInt64) / 1000) * yb.toInt64) / 100)), (0, .ref 69), (1, .int yc), (2, .int yk), (3, .int l), (4, .int yd), (5, .int yn), (6, .int yb)]) (st' := [.ref 69, .ref 69]) (by rfl) ?_
    refine Pa.gfI (v := yA.1 69 68) (by rfl) (by rfl) (.inl rfl) (by rfl) (by rfl) ?_
    refine Pa.pfI (by rfl) (by rfl) (.inl rfl) (by rfl) ?_
    show Pa N 215 198 [(7, .long ((((yx * yy.toInt64) / 1000) * yb.toInt64) / 100)), (0, .ref 69), (1, .int yc), (2, .int yk), (3, .int l), (4, .int yd), (5, .int yn), (6, .int yb)] [] (uI yA 69 68 (yA.1 69 68)) _
    refine Pa.mp 1 (pc' := 200) (l' := [(7, .long ((((yx * yy.toInt64) / 1000) * yb.toInt64) / 100)), (0, .ref 69), (1, .int yc), (2, .int yk), (3, .int l), (4, .int yd), (5, .int yn), (6, .int yb)]) (st' := [.int yn]) (by rfl) ?_
    refine Pa.if1 (a := yn.toInt) (t := 207) (by rfl) (by rfl) (rfl) (fun _ => ?_) (fun yh => (by exfalso; have h' : yn.toInt ≠ 0 := yh; omega))
    refine Pa.mp 1 (pc' := 209) (l' := [(7, .long ((((yx * yy.toInt64) / 1000) * yb.toInt64) / 100)), (0, .ref 69), (1, .int yc), (2, .int yk), (3, .int l), (4, .int yd), (5, .int yn), (6, .int yb)]) (st' := [.long ((((yx * yy.toInt64) / 1000) * yb.toInt64) / 100)]) (by rfl) ?_
    refine Pa.jcl (x := 1999999999) (pc' := 212) (by rfl) (fun _ _ _ => by rfl) (by decide) ?_
    refine Pa.mp 1 (pc' := 213) (l' := [(7, .long ((((yx * yy.toInt64) / 1000) * yb.toInt64) / 100)), (0, .ref 69), (1, .int yc), (2, .int yk), (3, .int l), (4, .int yd), (5, .int yn), (6, .int yb)]) (st' := [.int (lg_cmp ((((yx * yy.toInt64) / 1000) * yb.toInt64) / 100) 1999999999)]) (by rfl) ?_
    refine Pa.if1 (a := (lg_cmp ((((yx * yy.toInt64) / 1000) * yb.toInt64) / 100) 1999999999).toInt) (t := 222) (by rfl) (by rfl) (rfl) (fun h4 => ?_) (fun h5 => ?_)
    · have h4 : (lg_cmp ((((yx * yy.toInt64) / 1000) * yb.toInt64) / 100) 1999999999).toInt ≤ 0 := h4
      refine Pa.mp 2 (pc' := 225) (l' := [(7, .long ((((yx * yy.toInt64) / 1000) * yb.toInt64) / 100)), (0, .ref 69), (1, .int yc), (2, .int yk), (3, .int l), (4, .int yd), (5, .int yn), (6, .int yb)]) (st' := [.int (((((yx * yy.toInt64) / 1000) * yb.toInt64) / 100).toInt32)]) (by rfl) ?_
      refine Pa.iret (by rfl) ?_
      exact l1 h1 h4
    · have h5 : 0 < (lg_cmp ((((yx * yy.toInt64) / 1000) * yb.toInt64) / 100) 1999999999).toInt := h5
      refine Pa.jcl (x := 1999999999) (pc' := 219) (by rfl) (fun _ _ _ => by rfl) (by decide) ?_
      refine Pa.mp 2 (pc' := 225) (l' := [(7, .long ((((yx * yy.toInt64) / 1000) * yb.toInt64) / 100)), (0, .ref 69), (1, .int yc), (2, .int yk), (3, .int l), (4, .int yd), (5, .int yn), (6, .int yb)]) (st' := [.int (1999999999 : Int64).toInt32]) (by rfl) ?_
      refine Pa.iret (by rfl) ?_
      exact l2 h1 h5
  · have h2 : yn.toInt ≠ 0 := h2
    refine Pa.ic (x := (-1)) (pc' := 188) (by rfl) (by rfl) (by decide) ?_
    refine Pa.mp 1 (pc' := 195) (l' := [(7, .long ((((yx * yy.toInt64) / 1000) * yb.toInt64) / 100)), (0, .ref 69), (1, .int yc), (2, .int yk), (3, .int l), (4, .int yd), (5, .int yn), (6, .int yb)]) (st' := [.int (-1), .ref 69]) (by rfl) ?_
    refine Pa.pfI (by rfl) (by rfl) (.inl rfl) (by rfl) ?_
    show Pa N 215 198 [(7, .long ((((yx * yy.toInt64) / 1000) * yb.toInt64) / 100)), (0, .ref 69), (1, .int yc), (2, .int yk), (3, .int l), (4, .int yd), (5, .int yn), (6, .int yb)] [] (uI yA 69 68 (-1)) _
    refine Pa.mp 1 (pc' := 200) (l' := [(7, .long ((((yx * yy.toInt64) / 1000) * yb.toInt64) / 100)), (0, .ref 69), (1, .int yc), (2, .int yk), (3, .int l), (4, .int yd), (5, .int yn), (6, .int yb)]) (st' := [.int yn]) (by rfl) ?_
    refine Pa.if1 (a := yn.toInt) (t := 207) (by rfl) (by rfl) (rfl) (fun yh => (by exfalso; have h' : yn.toInt = 0 := yh; omega)) (fun _ => ?_)
    refine Pa.ic (x := 0) (pc' := 204) (by rfl) (by rfl) (by decide) ?_
    refine Pa.mp 1 (pc' := 225) (l' := [(7, .long ((((yx * yy.toInt64) / 1000) * yb.toInt64) / 100)), (0, .ref 69), (1, .int yc), (2, .int yk), (3, .int l), (4, .int yd), (5, .int yn), (6, .int yb)]) (st' := [.int 0]) (by rfl) ?_
    refine Pa.iret (by rfl) ?_
    exact l3 h2

theorem cof_M {B9 yA yW : AW} (yg : Rgx yA) (hs : smM B9 yA yW) {l yd : Int32} : cR4 yW ∧ cofM yW l yd = cofM yA l yd := by
  have hR := cR4_of yg.gl.ok yg.R4 yg.x4.1
  have ye21 : yW.1 21 = yA.1 21 := funext fun yj => (hs.2.2.1 yj).1
  have ye23 : yW.1 23 = yA.1 23 := funext fun yj => (hs.2.2.1 yj).2.1
  have ye : ∀ yc, 69 < yc → yc < 115 → yW.1 yc = yA.1 yc := fun yc yp1 yp2 => funext fun yj => hs.lo yp1 yp2 yj
  have c21 : cnF yW 21 = cnF yA 21 := by
    funext yL yj
    show yW.1 21 _ = yA.1 21 _
    rw [ye21]
  have c70 : cnF yW 70 = cnF yA 70 := by
    funext yL yj
    show yW.1 70 _ = yA.1 70 _
    rw [ye 70 (by decide) (by decide)]
  have c71 : cnF yW 71 = cnF yA 71 := by
    funext yL yj
    show yW.1 71 _ = yA.1 71 _
    rw [ye 71 (by decide) (by decide)]
  constructor
  · unfold cR4 at hR ⊢
    rw [c21, ye23, ye 72 (by decide) (by decide)]
    exact hR
  · unfold cofM
    rw [c70, c71, ye 72 (by decide) (by decide)]
theorem c_cntM {B9 yA yW : AW} (yg : Rgx yA) (hs : smM B9 yA yW) {yc : Nat} (yhc : yc < cT yA) (yk : Int32) (hk0 : 0 ≤ yk.toInt) (hk : yk.toInt ≤ 3599) (N : Nat) : Pa N 215 0 [(0, .ref 69), (1, .int (Int32.ofNat yc)), (2, .int yk)] [] yW (fun yu A1 => yu = some (.int (cvV yA yc yk)) ∧ smM B9 yA A1 ∧ A1.1 69 68 = cvN yA yc yk) := by
  have h150 : yc < 150 := by have := yg.gl.T; unfold cT at yhc; omega
  have rg := rw_rg yg.gl h150
  have hL := (yg.gl.ok.fld (i := 69) (k := 37) (lo := 0) (hi := 120) (by decide +kernel)).2
  have ec : (Int32.ofNat yc).toInt.toNat = yc := by rw [i32_nat (by omega)]; omega
  have o : ∀ {V : AW}, smM B9 yA V → ∀ yn : Nat, yn < 7 → ∀ yq : Int32, yq.toInt = (yn : Int) → ocM V (Int32.ofNat yc) yq = yA.1 90 (7 * yc + yn) := fun ys yn hn yq hq => ocM_at ys h150 hq hn
  -- from the naming on
  have yfin : ∀ (V : AW) (yn : Int32), smM B9 yA V → ((yn.toInt = 0 ∧ ¬ ((ltV yA yc yc).toInt ≠ 0 ∧ (twV yA yc yk).toInt = 0)) ∨ (yn.toInt ≠ 0 ∧ ((ltV yA yc yc).toInt ≠ 0 ∧ (twV yA yc yk).toInt = 0))) → Pa N 209 0 [(0, .ref 69), (1, .int (yA.1 90 (7 * yc + 2))), (2, .int (ocM V (Int32.ofNat yc) 0)), (3, .int (yA.1 90 (7 * yc + 3))), (4, .int yk)] [] V (fun yu A1 => Pa N 215 53 [(0, .ref 69), (1, .int (Int32.ofNat yc)), (2, .int yk), (3, .int (yA.1 90 (7 * yc + 2))), (4, .int (yA.1 90 (7 * yc + 3))), (5, .int yn)] (yu.toList ++ []) A1 (fun yu A1 => yu = some (.int (cvV yA yc yk)) ∧ smM B9 yA A1 ∧ A1.1 69 68 = cvN yA yc yk)) := fun V yn sV hn' => by
    rw [show ocM V (Int32.ofNat yc) 0 = (yA.1 90 (7 * yc)) from o sV 0 (by decide) 0 (by decide)]
    refine Pa.mono (c_nameF N V (yA.1 90 (7 * yc + 2)) (yA.1 90 (7 * yc)) (yA.1 90 (7 * yc + 3)) yk (sm_h yg sV).2.2) (fun yv yB hv => ?_)
    obtain ⟨rfl, hn⟩ := hv
    have sB := smM_nm sV hn
    refine bm_ct3 _ yk (yA.1 90 (7 * yc + 2)) (yA.1 90 (7 * yc + 3)) yn (fun _ _ => ?_)
    have ys1 : smM B9 yA (uI (uI yB 117 0 (yB.1 89 (Int32.ofNat yc).toInt.toNat)) 117 1 (ocM yB (Int32.ofNat yc) 6)) := smM_117 (smM_117 sB)
    refine Pa.mono (c_kofS ys1 _ yk N) (fun yv A2 hv => ?_)
    obtain ⟨rfl, rfl⟩ := hv
    refine bm_ct4 _ yk (yA.1 90 (7 * yc + 2)) (yA.1 90 (7 * yc + 3)) yn _ ?_
    refine Pa.mono (c_relM (smM_117 ys1) h150 yk hk0 hk N) (fun yv A3 hv => ?_)
    obtain ⟨rfl, rfl⟩ := hv
    generalize hV2 : uI (uI (uI yB 117 0 (yB.1 89 (Int32.ofNat yc).toInt.toNat)) 117 1 (ocM yB (Int32.ofNat yc) 6)) 117 2 (kofM yA (Int32.ofNat yc) yk) = V2
    have ys2 : smM B9 yA V2 := by
      rw [← hV2]
      exact smM_117 ys1
    have v2 : ∀ yj, yj ≠ 0 → yj ≠ 1 → yj ≠ 2 → V2.1 117 yj = yB.1 117 yj := fun yj yp0 yp1 yp2 => by rw [← hV2, uI_k yp2, uI_k yp1, uI_k yp0]
    have v20 : V2.1 117 0 = yA.1 89 yc := by
      rw [← hV2, uI_k (by decide), uI_k (by decide), uI_h, ec]
      exact sB.lo (by decide) (by decide) yc
    have v21 : V2.1 117 1 = yA.1 90 (7 * yc + 6) := by
      rw [← hV2, uI_k (by decide), uI_h]
      exact o sB 6 (by decide) 6 (by decide)
    have v22 : V2.1 117 2 = kofM yA (Int32.ofNat yc) yk := by rw [← hV2, uI_h]
    -- what the act gives
    have gv : ∀ yx : Int32, yx = rlV yA yc yk → Pa N 210 0 [(0, .ref 69), (1, .int (yA.1 90 (7 * yc + 2))), (2, .int 0), (3, .int (yA.1 90 (7 * yc + 3))), (4, .int yk), (5, .int 100), (6, .int 100)] [] (uI (uI (uI (uI V2 117 4 yx) 117 5 (ocM V2 (Int32.ofNat yc) 1)) 69 66 (Int32.ofNat yc)) 69 67 yk) (fun yu A1 => Pa N 215 145 [(0, .ref 69), (1, .int (Int32.ofNat yc)), (2, .int yk), (3, .int (yA.1 90 (7 * yc + 2))), (4, .int (yA.1 90 (7 * yc + 3))), (5, .int yn)] (yu.toList ++ []) A1 (fun yu A1 => yu = some (.int (cvV yA yc yk)) ∧ smM B9 yA A1 ∧ A1.1 69 68 = cvN yA yc yk)) := fun yx hx => by
      generalize hU : uI (uI (uI (uI V2 117 4 yx) 117 5 (ocM V2 (Int32.ofNat yc) 1)) 69 66 (Int32.ofNat yc)) 69 67 yk = yU
      have sU : smM B9 yA yU := by
        rw [← hU]
        exact smM_66 (smM_66 (smM_117 (smM_117 ys2)) (.inl rfl)) (.inr (.inl rfl))
      have u66 : yU.1 69 66 = Int32.ofNat yc := by rw [← hU, uI_k (by decide), uI_h]
      have u67 : yU.1 69 67 = yk := by rw [← hU, uI_h]
      have u5 : yU.1 117 5 = yA.1 90 (7 * yc + 1) := by
        rw [← hU, uI_c (by decide), uI_c (by decide), uI_h]
        exact o ys2 1 (by decide) 1 (by decide)
      have yu4 : yU.1 117 4 = rlV yA yc yk := by rw [← hU, uI_c (by decide), uI_c (by decide), uI_k (by decide), uI_h, hx]
      have uo : ∀ yj, yj ≠ 4 → yj ≠ 5 → yU.1 117 yj = V2.1 117 yj := fun yj yp4 yp5 => by rw [← hU, uI_c (by decide), uI_c (by decide), uI_k yp5, uI_k yp4]
      have hX : ∀ yb n' yj, (woB (uI yU 69 68 (-1)) yb n').1 117 yj = yU.1 117 yj := fun yb n' yj => by
        unfold woB
        rw [uI_c (by decide), uI_c (by decide), uI_c (by decide)]
      have hl : ∀ yb n', mLoc (woB (uI yU 69 68 (-1)) yb n') (yU.1 69 66) (yU.1 117 3) (loV yA yc yk) := fun yb n' => ⟨fun yz => by
        rw [u66] at yz
        exact absurd yz (on_nn yc (by omega)), fun _ N' a' ft yop bl yn3 wh => by
        have e67 : (woB (uI yU 69 68 (-1)) yb n').1 69 67 = yk := by
          unfold woB
          rw [uI_k (by decide), uI_k (by decide), uI_k (by decide), u67]
        rw [e67, u66]
        have sW : smM B9 yA (mW (woB (uI yU 69 68 (-1)) yb n') a' ft yop (Int32.ofNat yc) bl yn3 wh) := smM_lm (smM_66 sU (.inr (.inr rfl))) mW_lm
        refine Pa.mono (c_locM yg sW yhc yk N') (fun yv A5 hv => ?_)
        obtain ⟨rfl, yG, rfl⟩ := hv
        refine ⟨loV yA yc yk, yG, rfl, ?_, mW_wh⟩
        by_cases yz : (loV yA yc yk).toInt = 0
        · exact .inl ⟨yz, loV_01.1 yz⟩
        · exact .inr ⟨yz, loV_01.2 yz⟩⟩
      have he : ∀ yb n' yi, yi < 10 → mEv (woB (uI yU 69 68 (-1)) yb n') (loV yA yc yk) yi = cnE yA yc yk yi := fun yb n' yi yhi => by
        rcases (by omega : yi = 0 ∨ yi = 1 ∨ yi = 2 ∨ yi = 3 ∨ yi = 4 ∨ yi = 5 ∨ 6 ≤ yi) with yz | yz | yz | yz | yz | yz | yz
        · rw [yz, cnE_0, mEv_i (by decide) (by decide) (by decide), hX, uo 0 (by decide) (by decide), v20]
        · rw [yz, cnE_1, mEv_i (by decide) (by decide) (by decide), hX, uo 1 (by decide) (by decide), v21]
        · rw [yz, cnE_2, mEv_i (by decide) (by decide) (by decide), hX, uo 2 (by decide) (by decide), v22]
        · rw [yz, cnE_3, mEv_3, hX, u5]
        · rw [yz, cnE_4, mEv_4]
        · rw [yz, cnE_5, mEv_5, hX, yu4]
        · rw [mEv_i (by omega) (by omega) (by omega), hX, uo yi (by omega) (by omega), v2 yi (by omega) (by omega) (by omega), nm_fm sV hn yi yhi]
          unfold cnE
          rw [if_neg (by omega), if_neg (by omega), if_neg (by omega), if_neg (by omega), if_neg (by omega), if_neg (by omega)]
      have hh := sm_h yg sU
      refine Pa.mono (c_givesD N yU (yA.1 90 (7 * yc + 2)) 0 (yA.1 90 (7 * yc + 3)) yk 100 100 (cnE yA yc yk) hh.1 hh.2.1.1 hh.2.1.2 (fun yi yhi => by
        obtain ⟨ds, yhd⟩ := txD_of (yg.tx yi (by unfold tT; rw [← sU.2.1 45 (by decide) (by decide) (by decide) (by decide) (by decide) (by decide) (by decide) (by decide)]; exact yhi))
        exact ⟨ds, (sm_txD sU).mpr yhd⟩) (loV yA yc yk) hl he) (fun yv A4 hv => ?_)
      obtain ⟨yy, rfl, hw, hy⟩ := hv
      have ys4 : smM B9 yA A4 := smM_lm sU hw
      rw [sm_fn sU] at hy
      have hyy : yy = byV yA yc yk ∧ A4.1 69 68 = byL yA yc yk := by
        rcases hy with ⟨b1, b2, b3⟩ | ⟨yq, ds, b1, b2, b3, b4⟩
        · have ye := by_0 (yA := yA) (yc := yc) (yk := yk) (txO_0 b1)
          exact ⟨by rw [b2, ye.1], by rw [b3, ye.2]⟩
        · have ye := by_1 (yA := yA) (yc := yc) (yk := yk) (txO_1 b1 ((sm_txD sU).mp b2))
          exact ⟨by rw [b3, ye.1], by rw [b4, ye.2]⟩
      obtain ⟨rfl, y2⟩ := hyy
      refine bm_ct6 _ yk (yA.1 90 (7 * yc + 2)) (yA.1 90 (7 * yc + 3)) yn _ ?_
      refine Pa.mono (c_fairM ys4 hL h150 yk hk0 hk N) (fun yv A5 hv => ?_)
      obtain ⟨rfl, yG, rfl⟩ := hv
      refine bm_ct7 _ yk (yA.1 90 (7 * yc + 2)) (yA.1 90 (7 * yc + 3)) yn _ _ ?_
      have s5 : smM B9 yA (uF A4 116 yG) := smM_116 ys4
      obtain ⟨hR, hE⟩ := cof_M yg s5 (l := (yA.1 90 (7 * yc + 2))) (yd := (yA.1 90 (7 * yc + 3)))
      refine Pa.mono (c_cat N (uF A4 116 yG) (yA.1 90 (7 * yc + 2)) (yA.1 90 (7 * yc + 3)) hR rg.1.1 rg.1.2) (fun yv A6 hv => ?_)
      obtain ⟨rfl, rfl⟩ := hv
      rw [hE]
      have ys6 : ∀ ym, smM B9 yA (uI (uF A4 116 yG) 69 68 ym) := fun ym => smM_66 s5 (.inr (.inr rfl))
      have hle := cvL_le yg yhc yk
      refine bm_ct8 _ yk (yA.1 90 (7 * yc + 2)) (yA.1 90 (7 * yc + 3)) yn _ _ _ (fun yq _ => ⟨?_, ys6 _, ?_⟩) (fun yq yq2 => ?_) (fun yq => ⟨?_, ys6 _, ?_⟩)
      · rcases hn' with ⟨_, yz⟩ | ⟨yz, _⟩
        · unfold cvV
          rw [if_neg yz]
          rfl
        · exact absurd yq yz
      · rcases hn' with ⟨_, yz⟩ | ⟨yz, _⟩
        · unfold cvN
          rw [if_neg yz, uI_h, uF_c (by decide), y2]
        · exact absurd yq yz
      · exfalso
        have l2 := lg_sign (cvL yA yc yk) 1999999999
        have l3 : 0 < (lg_cmp (cvL yA yc yk) 1999999999).toInt := yq2
        have l4 : (1999999999 : Int64).toInt = 1999999999 := by decide
        rw [l4] at l2
        omega
      · rcases hn' with ⟨yz, _⟩ | ⟨_, yz⟩
        · exact absurd yz yq
        · unfold cvV
          rw [if_pos yz]
      · rcases hn' with ⟨yz, _⟩ | ⟨_, yz⟩
        · exact absurd yz yq
        · unfold cvN
          rw [if_pos yz, uI_h]
    refine bm_ct5 _ yk (yA.1 90 (7 * yc + 2)) (yA.1 90 (7 * yc + 3)) yn _ (fun yy => gv 0 (rlV_01.1 yy).symm) (fun yy => gv 1 (rlV_01.2 yy).symm)
  refine bm_ct0 _ yk ?_
  rw [show ocM yW (Int32.ofNat yc) 2 = (yA.1 90 (7 * yc + 2)) from o hs 2 (by decide) 2 (by decide), show ocM yW (Int32.ofNat yc) 3 = (yA.1 90 (7 * yc + 3)) from o hs 3 (by decide) 3 (by decide)]
  refine Pa.mono (c_laterM hs h150 N) (fun yv A1 hv => ?_)
  obtain ⟨rfl, hAW⟩ := hv
  rw [hAW]
  refine bm_ct1 _ yk (yA.1 90 (7 * yc + 2)) (yA.1 90 (7 * yc + 3)) _ (fun yy => yfin yW 0 hs (.inl ⟨by decide, fun yz => yz.1 yy⟩)) (fun yy => ?_)
  refine Pa.mono (c_twM yg hs yhc yk N) (fun yv A2 hv => ?_)
  obtain ⟨rfl, ys2⟩ := hv
  refine bm_ct2 _ yk (yA.1 90 (7 * yc + 2)) (yA.1 90 (7 * yc + 3)) _ (fun y2 => yfin A2 0 ys2 (.inl ⟨by decide, fun yz => ?_⟩)) (fun y2 => yfin A2 1 ys2 (.inr ⟨by decide, yy, ?_⟩))
  · rw [if_pos yz.2] at y2
    exact y2 (by decide)
  · by_cases yz : (twV yA yc yk).toInt = 0
    · exact yz
    · rw [if_neg yz] at y2
      exact absurd y2 (by decide)
/-! COUNTED -/
/-- the yrow at ya place -/
theorem row_at {yA : AW} (yg : Rgl yA) {yc ya : Nat} (yhc : yc < cT yA) (yha : yA.2.2.1 31 yc = some ya) : rowC yA ya yc := by
  obtain ⟨yb, y1, y2, y3, y4⟩ := yg.rz.1 yc yhc
  rw [yha] at y1
  cases y1
  exact ⟨y2, yhc, by have := yg.T; unfold cT at yhc; omega, y4⟩
theorem Pa.any {N ymid pc : Nat} {lv : mL} {yst : List Value} {yA : AW} {yP : AW → Prop} {yQ0 : Option Value → AW → Prop} {yQ : AW → Option Value → AW → Prop} (h0 : Pa N ymid pc lv yst yA yQ0) (yh : ∀ yB, yP yB → Pa N ymid pc lv yst yA (yQ yB)) : Pa N ymid pc lv yst yA (fun yu A1 => ∀ yB, yP yB → yQ yB yu A1) := fun yL xs yn yd yw hn yhS hA yv yw1 hr => ⟨(h0 yL xs yn yd yw hn yhS hA yv yw1 hr).1, fun yB yhB => (yh yB yhB yL xs yn yd yw hn yhS hA yv yw1 hr).2⟩
def Fg : zRF := Fe ++ (F6 ++ (F19 ++ F11))
def Ag : zRA := Are ++ (Ar4 ++ (Ar19 ++ (Ar11 ++ [(2, 73), (6, 76)])))
def Ig : List Nat := [0, 1, 2, 3, 4, 5, 6, 7]
def Ih : List Nat := [0, 1, 2, 3, 4, 5, 7]
theorem Rgx_of {yA : AW} (hA : okA yA) (hF : eqF Fg yA) (hR : eqRs Ag yA) (hX : RXL Ih yA) (ht : (yA.1 38 8).toInt < (yA.1 69 45).toInt) : Rgx yA := by
  have yf : ∀ ya yb, (decide ((ya, yb) ∈ Fg)) = true → yA.1 ya.1 ya.2 = yA.1 yb.1 yb.2 := fun ya yb yh => hF (ya, yb) (of_decide_eq_true yh)
  have yr : ∀ ya yb yn, (decide ((ya, yb) ∈ Ag)) = true → z_aP (ya, yb) = some yn → ∀ yj, yj < yn → yA.1 ya yj = yA.1 yb yj := fun ya yb yn yh h2 yj hj => hR (ya, yb) (of_decide_eq_true yh) yn h2 yj hj
  have yx0 : RZl yA := hX 0 (by decide)
  have yx1 : RX14 yA := hX 1 (by decide)
  have yx2 : RXt yA := hX 2 (by decide)
  have x3 : Rz6 yA := hX 3 (by decide)
  have yx4 : RX4d yA := hX 4 (by decide)
  have yx5 : RX19 yA := hX 5 (by decide)
  have x7 : Rfl yA := hX 7 (by decide)
  have gl : Rgl yA := ⟨yf (1, 3) (69, 7) (by decide +kernel), yf (5, 6) (69, 11) (by decide +kernel), yf (12, 7) (69, 13) (by decide +kernel), yf (30, 4) (69, 31) (by decide +kernel), yf (20, 9) (69, 37) (by decide +kernel), yr 6 76 20 (by decide +kernel) (by decide +kernel), yr 2 73 20 (by decide +kernel) (by decide +kernel), fun yj hj => ⟨yr 24 94 120 (by decide +kernel) (by decide +kernel) yj hj, yr 25 95 120 (by decide +kernel) (by decide +kernel) yj hj, yr 26 96 120 (by decide +kernel) (by decide +kernel) yj hj, yr 27 97 120 (by decide +kernel) (by decide +kernel) yj hj, yr 28 98 120 (by decide +kernel) (by decide +kernel) yj hj⟩, yx5, yx0.1, x7, x3, hA⟩
  exact ⟨gl, yf (38, 7) (69, 45) (by decide +kernel), ht, yf (5, 7) (69, 24) (by decide +kernel), yx2.2, fun yp hp => hR yp (fsub_ok (yF := Ag) (F' := Art) (by decide +kernel) hp), yx0.2, yx1, fun yp hp => hF yp (fsub_ok (yF := Fg) (F' := F11) (by decide +kernel) hp), fun yp hp => hR yp (fsub_ok (yF := Ag) (F' := Ar11) (by decide +kernel) hp), fun yp hp => hR yp (fsub_ok (yF := Ag) (F' := Ar4) (by decide +kernel) hp), yx4, yr 7 77 20 (by decide +kernel) (by decide +kernel)⟩
