/-! THE REFERENCE READS AS THE CLASS COMPILES -/
/-- what is worked yout late, or was -/
def lzI (lv0 yn30 l lv yn3 : Int32) : Prop := (lv = lv0 ∧ yn3 = yn30) ∨ (lv = -1 ∧ yn3 = l)
/-- the facts by the class's places -/
def mEv (yA : AW) (l : Int32) (yi : Nat) : Int32 := if yi = 3 then yA.1 117 5 else if yi = 4 then l else if yi = 5 then yA.1 117 4 else yA.1 117 yi
def mLoc (yA : AW) (lv0 yn30 l : Int32) : Prop := (lv0.toInt < 0 → yn30 = l) ∧ (0 ≤ lv0.toInt → ∀ (N : Nat) (ya ft yop bl yn3 : Int32) (wh : Nat → Int32), Pa N 213 0 [(0, .ref 69), (1, .int lv0), (2, .int (yA.1 69 67))] [] (mW yA ya ft yop lv0 bl yn3 wh) (fun yu A1 => ∃ yr wh', yu = some (.int yr) ∧ ((yr.toInt = 0 ∧ l = 0) ∨ (yr.toInt ≠ 0 ∧ l = 1)) ∧ A1 = mW yA ya ft yop lv0 bl yn3 wh'))
def mRq (yA : AW) (yn : Nat) (lv0 yn30 l bl : Int32) (ym o ya : Nat) (ypre : List Int32 → List Int32) (yu : Option Value) (A1 : AW) : Prop := ∃ yv lv yn3 wh, yu = some (.int yv) ∧ lzI lv0 yn30 l lv yn3 ∧ ((∃ yb cs, RP (mT yA) yn ym o ya (yb, some cs) ∧ yb ≤ yn ∧ (∀ yst, evs (mEv yA l) (ypre yst) cs = yv :: yst) ∧ A1 = mW yA (Int32.ofNat yb) (-1) (Int32.ofNat o) lv bl yn3 wh) ∨ (∃ yb at' op', RP (mT yA) yn ym o ya (yb, none) ∧ yb ≤ yn ∧ A1 = mW yA at' (Int32.ofNat yb) op' lv bl yn3 wh))
/-- ya method of the reader, at ya level -/
def mFn (yA : AW) (yn : Nat) (lv0 yn30 l bl : Int32) (N ymid ym : Nat) : Prop := ∀ (o ya : Nat) (lv yn3 : Int32) (wh : Nat → Int32), o ≤ 8 → ya ≤ yn → lzI lv0 yn30 l lv yn3 → Pa N ymid 0 [(0, .ref 69)] [] (mW yA (Int32.ofNat ya) (-1) (Int32.ofNat o) lv bl yn3 wh) (mRq yA yn lv0 yn30 l bl ym o ya (fun yst => yst))
section MQS
variable {yA : AW} {yn : Nat} {lv0 yn30 l bl : Int32} {ym o ya yb : Nat} {yv yw : Int32} {cs : List Int32} {yu : Option Value} {A2 : AW} {ypre : List Int32 → List Int32}
theorem mQ_lY (hsg : sgN (ym : Int) (rdC (mT yA) yn ya)) (yhm : ym ≠ 2) (hg : 34 ≤ (mT yA ya).toInt ∧ (mT yA ya).toInt ≤ 255) (yr1 : RP (mT yA) yn (ym + 1) o (ya + 1) (yb, some cs)) (r3 : ∀ yst, evs (mEv yA l) yst cs = yw :: yst) (hu : mRq yA yn lv0 yn30 l bl (ym + 10) o yb (fun yst => jnX (mT yA ya) yv yw :: yst) yu A2) : mRq yA yn lv0 yn30 l bl (ym + 10) o ya (fun yst => yv :: yst) yu A2 := by
  obtain ⟨yz, lv, yn3, wh, rfl, hz, hu⟩ := hu
  refine ⟨yz, lv, yn3, wh, rfl, hz, ?_⟩
  rcases hu with ⟨yd, ds, yq1, yq2, yq3, rfl⟩ | ⟨yd, at', op', yq1, yq2, rfl⟩
  · refine .inl ⟨yd, cs ++ -(mT yA ya) :: ds, RP.lY hsg yhm yr1 yq1, yq2, fun yst => ?_, rfl⟩
    rw [evs_app, r3, evs_cons, ev_sg hg.1 hg.2]
    exact yq3 yst
  · exact .inr ⟨yd, at', op', RP.lN2 hsg yhm yr1 yq1, yq2, rfl⟩
theorem mQ_pY (yhm : ym < 5) (yr1 : RP (mT yA) yn (ym + 1) o ya (yb, some cs)) (r3 : ∀ yst, evs (mEv yA l) yst cs = yw :: yst) (hu : mRq yA yn lv0 yn30 l bl (ym + 10) o yb (fun yst => yw :: yst) yu A2) : mRq yA yn lv0 yn30 l bl ym o ya (fun yst => yst) yu A2 := by
  obtain ⟨yz, lv, yn3, wh, rfl, hz, hu⟩ := hu
  refine ⟨yz, lv, yn3, wh, rfl, hz, ?_⟩
  rcases hu with ⟨yd, ds, yq1, yq2, yq3, rfl⟩ | ⟨yd, at', op', yq1, yq2, rfl⟩
  · refine .inl ⟨yd, cs ++ ds, RP.pY yhm yr1 yq1, yq2, fun yst => ?_, rfl⟩
    show evs (mEv yA l) yst (cs ++ ds) = yz :: yst
    rw [evs_app, r3]
    exact yq3 yst
  · exact .inr ⟨yd, at', op', RP.pN2 yhm yr1 yq1, yq2, rfl⟩
theorem mQ_no {lv yn3 : Int32} {wh : Nat → Int32} {at' op' : Int32} (hz : lzI lv0 yn30 l lv yn3) (yr1 : RP (mT yA) yn ym o ya (yb, none)) (r2 : yb ≤ yn) : mRq yA yn lv0 yn30 l bl ym o ya ypre (some (.int yv)) (mW yA at' (Int32.ofNat yb) op' lv bl yn3 wh) := ⟨yv, lv, yn3, wh, rfl, hz, .inr ⟨yb, at', op', yr1, r2, rfl⟩⟩
theorem mQ_l0 {lv yn3 : Int32} {wh : Nat → Int32} (hz : lzI lv0 yn30 l lv yn3) (yha : ya ≤ yn) (yh : ¬ sgN (ym : Int) (rdC (mT yA) yn ya)) : mRq yA yn lv0 yn30 l bl (ym + 10) o ya (fun yst => yv :: yst) (some (.int yv)) (mW yA (Int32.ofNat ya) (-1) (Int32.ofNat o) lv bl yn3 wh) := ⟨yv, lv, yn3, wh, rfl, hz, .inl ⟨ya, [], RP.l0 yh, yha, fun _ => rfl, rfl⟩⟩
theorem rd_m1 : ¬ 0 ≤ (-1 : Int32).toInt := by decide
theorem on_nn (yb : Nat) (yhb : yb ≤ 160) : ¬ (Int32.ofNat yb).toInt < 0 := by
  rw [i32_nat (by omega)]
  omega
theorem on_sub1 (yhb : yb ≤ 160) : Int32.ofNat (yb + 1) - 1 = Int32.ofNat yb := by
  refine i32_ext ?_
  rw [i32_nat (k := yb) (by omega)]
  exact i_subx (by rw [i32_nat (by omega), show (1 : Int32).toInt = 1 from rfl]; omega) (by omega) (by omega)
/-- ya sign read by ya byte -/
theorem sg_by {yy : Int32} {yc : Int} (hy1 : ya ≤ yn → ya < yn → yy = mT yA ya ∧ rdC (mT yA) yn ya = yy.toInt) (hy2 : ya ≤ yn → yn ≤ ya → yy = 0 ∧ rdC (mT yA) yn ya = -1) (yha : ya ≤ yn) (yh : yy.toInt = yc) (yhc : yc ≠ 0) : ya < yn ∧ yy = mT yA ya ∧ rdC (mT yA) yn ya = yc ∧ (mT yA ya).toInt = yc := by
  rcases Nat.lt_or_ge ya yn with yq | yq
  · obtain ⟨ye1, ye2⟩ := hy1 yha yq
    exact ⟨yq, ye1, by rw [ye2, yh], by rw [← ye1, yh]⟩
  · obtain ⟨ye1, ye2⟩ := hy2 yha yq
    rw [ye1] at yh
    exact absurd yh.symm yhc
theorem sg_no {yy : Int32} (hy1 : ya ≤ yn → ya < yn → yy = mT yA ya ∧ rdC (mT yA) yn ya = yy.toInt) (hy2 : ya ≤ yn → yn ≤ ya → yy = 0 ∧ rdC (mT yA) yn ya = -1) (yha : ya ≤ yn) : rdC (mT yA) yn ya = yy.toInt ∨ (rdC (mT yA) yn ya = -1 ∧ yy.toInt = 0) := by
  rcases Nat.lt_or_ge ya yn with yq | yq
  · exact .inl (hy1 yha yq).2
  · exact .inr ⟨(hy2 yha yq).2, by rw [(hy2 yha yq).1]; rfl⟩
end MQS
section MRD
variable {yA : AW} {yn : Nat} {lv0 yn30 l bl : Int32}
def mLpei (yA : AW) (yn : Nat) (lv0 yn30 l bl : Int32) (N : Nat) : Prop := ∀ (o ya : Nat) (lv yn3 yv yx2 : Int32) (wh : Nat → Int32), o ≤ 8 → ya ≤ yn → lzI lv0 yn30 l lv yn3 → Pa N 194 5 [(0, .ref 69), (1, .int yv), (2, .int yx2)] [] (mW yA (Int32.ofNat ya) (-1) (Int32.ofNat o) lv bl yn3 wh) (mRq yA yn lv0 yn30 l bl (0 + 10) o ya (fun yst => yv :: yst))
theorem m_eiL (he : (yA.1 69 62).toInt = (yn : Int)) (hn2 : yn ≤ 160) (hbs : (yA.1 69 60).toInt ≤ 3040) {N : Nat} (hF : mFn yA yn lv0 yn30 l bl N 195 1) (yih : mLpei yA yn lv0 yn30 l bl N) : mLpei yA yn lv0 yn30 l bl (N + 1) := by
  intro o ya lv yn3 yv yx wh ho yha hz
  obtain ⟨yy, hy, hy1, hy2⟩ := mb (yA := yA) (yn := yn) (ya := ya) (ft := -1) (yop := Int32.ofNat o) (lv := lv) (bl := bl) (yn3 := yn3) (wh := wh) he hn2 hbs
  refine bm_eil yv yx (fun h1 => absurd h1 rd_m1) (fun _ h2 => ?_) (fun _ h2 => ?_)
  · rw [hy] at h2
    obtain ⟨hlt, ye1, ye2, ye3⟩ := sg_by hy1 hy2 yha h2 (by decide)
    have hsg : sgN ((0 : Nat) : Int) (rdC (mT yA) yn ya) := by rw [ye2]; unfold sgN; omega
    rw [mW_61, ← on_succ ya, mW_at]
    refine Pa.mono (hF o (ya + 1) lv yn3 wh ho hlt hz) (fun yu A1 hu => ?_)
    obtain ⟨yw, lv', n3', wh', rfl, hz', hu⟩ := hu
    rcases hu with ⟨yb, cs, yr1, r2, r3, rfl⟩ | ⟨yb, at', op', yr1, r2, rfl⟩
    · have ykey : ∀ yz, jnX (mT yA ya) yv yw = yz → Pa N 194 5 [(0, .ref 69), (1, .int yz), (2, .int yw)] [] (mW yA (Int32.ofNat yb) (-1) (Int32.ofNat o) lv' bl n3' wh') (mRq yA yn lv0 yn30 l bl (0 + 10) o ya (fun yst => yv :: yst)) := fun yz hz2 => by
        subst hz2
        exact Pa.mono (yih o yb lv' n3' _ yw wh' ho r2 hz') (fun yu A2 hu => mQ_lY hsg (by decide) (by omega) yr1 r3 hu)
      have j1 : ∀ yz, (if yv.toInt ≠ 0 ∨ yw.toInt ≠ 0 then (1 : Int32) else 0) = yz → jnX (mT yA ya) yv yw = yz := fun yz hz2 => by
        unfold jnX
        rw [if_pos ye3]
        exact hz2
      refine bm_ei2 yv yx yw (fun yq => ykey 1 (j1 1 (if_pos (.inl yq)))) (fun yq1 yq2 => ykey 0 (j1 0 (if_neg (by omega)))) (fun yq1 yq2 => ykey 1 (j1 1 (if_pos (.inr yq2))))
    · have ystop : ∀ yz, Pa N 194 5 [(0, .ref 69), (1, .int yz), (2, .int yw)] [] (mW yA at' (Int32.ofNat yb) op' lv' bl n3' wh') (mRq yA yn lv0 yn30 l bl (0 + 10) o ya (fun yst => yv :: yst)) := fun yz =>
        (bm_eil (N := N) yz yw (fun _ => mQ_no hz' (RP.lN1 hsg yr1) r2) (fun yh => absurd yh (on_nn yb (by omega))) (fun yh => absurd yh (on_nn yb (by omega)))).weak (Nat.le_succ N)
      exact bm_ei2 yv yx yw (fun _ => ystop 1) (fun _ _ => ystop 0) (fun _ _ => ystop 1)
  · rw [hy] at h2
    have := sg_no hy1 hy2 yha
    exact mQ_l0 hz yha (by unfold sgN; omega)
theorem m_ei {N : Nat} (hF : mFn yA yn lv0 yn30 l bl N 195 1) (hLp : mLpei yA yn lv0 yn30 l bl N) (hn2 : yn ≤ 160) : mFn yA yn lv0 yn30 l bl (N + 1) 194 0 := by
  intro o ya lv yn3 wh ho yha hz
  refine bm_ei0 (Pa.mono (hF o ya lv yn3 wh ho yha hz) (fun yu A1 hu => ?_))
  obtain ⟨yw, lv', n3', wh', rfl, hz', hu⟩ := hu
  refine bm_ei1 yw ?_
  rcases hu with ⟨yb, cs, yr1, r2, r3, rfl⟩ | ⟨yb, at', op', yr1, r2, rfl⟩
  · exact Pa.mono (hLp o yb lv' n3' yw 0 wh' ho r2 hz') (fun yu A2 hu => mQ_pY (by decide) yr1 r3 hu)
  · exact (bm_eil (N := N) yw 0 (fun _ => mQ_no hz' (RP.pN1 (by decide) yr1) r2) (fun yh => absurd yh (on_nn yb (by omega))) (fun yh => absurd yh (on_nn yb (by omega)))).weak (Nat.le_succ N)
def mLpbo (yA : AW) (yn : Nat) (lv0 yn30 l bl : Int32) (N : Nat) : Prop := ∀ (o ya : Nat) (lv yn3 yv yx2 : Int32) (wh : Nat → Int32), o ≤ 8 → ya ≤ yn → lzI lv0 yn30 l lv yn3 → Pa N 195 5 [(0, .ref 69), (1, .int yv), (2, .int yx2)] [] (mW yA (Int32.ofNat ya) (-1) (Int32.ofNat o) lv bl yn3 wh) (mRq yA yn lv0 yn30 l bl (1 + 10) o ya (fun yst => yv :: yst))
theorem m_boL (he : (yA.1 69 62).toInt = (yn : Int)) (hn2 : yn ≤ 160) (hbs : (yA.1 69 60).toInt ≤ 3040) {N : Nat} (hF : mFn yA yn lv0 yn30 l bl N 196 2) (yih : mLpbo yA yn lv0 yn30 l bl N) : mLpbo yA yn lv0 yn30 l bl (N + 1) := by
  intro o ya lv yn3 yv yx wh ho yha hz
  obtain ⟨yy, hy, hy1, hy2⟩ := mb (yA := yA) (yn := yn) (ya := ya) (ft := -1) (yop := Int32.ofNat o) (lv := lv) (bl := bl) (yn3 := yn3) (wh := wh) he hn2 hbs
  refine bm_bol yv yx (fun h1 => absurd h1 rd_m1) (fun _ h2 => ?_) (fun _ h2 => ?_)
  · rw [hy] at h2
    obtain ⟨hlt, ye1, ye2, ye3⟩ := sg_by hy1 hy2 yha h2 (by decide)
    have hsg : sgN ((1 : Nat) : Int) (rdC (mT yA) yn ya) := by rw [ye2]; unfold sgN; omega
    rw [mW_61, ← on_succ ya, mW_at]
    refine Pa.mono (hF o (ya + 1) lv yn3 wh ho hlt hz) (fun yu A1 hu => ?_)
    obtain ⟨yw, lv', n3', wh', rfl, hz', hu⟩ := hu
    rcases hu with ⟨yb, cs, yr1, r2, r3, rfl⟩ | ⟨yb, at', op', yr1, r2, rfl⟩
    · have ykey : ∀ yz, jnX (mT yA ya) yv yw = yz → Pa N 195 5 [(0, .ref 69), (1, .int yz), (2, .int yw)] [] (mW yA (Int32.ofNat yb) (-1) (Int32.ofNat o) lv' bl n3' wh') (mRq yA yn lv0 yn30 l bl (1 + 10) o ya (fun yst => yv :: yst)) := fun yz hz2 => by
        subst hz2
        exact Pa.mono (yih o yb lv' n3' _ yw wh' ho r2 hz') (fun yu A2 hu => mQ_lY hsg (by decide) (by omega) yr1 r3 hu)
      have j1 : ∀ yz, (if yv.toInt ≠ 0 ∧ yw.toInt ≠ 0 then (1 : Int32) else 0) = yz → jnX (mT yA ya) yv yw = yz := fun yz hz2 => by
        unfold jnX
        rw [if_neg (by omega), if_pos ye3]
        exact hz2
      refine bm_bo2 yv yx yw (fun yq => ykey 0 (j1 0 (if_neg (by omega)))) (fun yq1 yq2 => ykey 0 (j1 0 (if_neg (by omega)))) (fun yq1 yq2 => ykey 1 (j1 1 (if_pos ⟨yq1, yq2⟩)))
    · have ystop : ∀ yz, Pa N 195 5 [(0, .ref 69), (1, .int yz), (2, .int yw)] [] (mW yA at' (Int32.ofNat yb) op' lv' bl n3' wh') (mRq yA yn lv0 yn30 l bl (1 + 10) o ya (fun yst => yv :: yst)) := fun yz =>
        (bm_bol (N := N) yz yw (fun _ => mQ_no hz' (RP.lN1 hsg yr1) r2) (fun yh => absurd yh (on_nn yb (by omega))) (fun yh => absurd yh (on_nn yb (by omega)))).weak (Nat.le_succ N)
      exact bm_bo2 yv yx yw (fun _ => ystop 0) (fun _ _ => ystop 0) (fun _ _ => ystop 1)
  · rw [hy] at h2
    have := sg_no hy1 hy2 yha
    exact mQ_l0 hz yha (by unfold sgN; omega)
theorem m_bo {N : Nat} (hF : mFn yA yn lv0 yn30 l bl N 196 2) (hLp : mLpbo yA yn lv0 yn30 l bl N) (hn2 : yn ≤ 160) : mFn yA yn lv0 yn30 l bl (N + 1) 195 1 := by
  intro o ya lv yn3 wh ho yha hz
  refine bm_bo0 (Pa.mono (hF o ya lv yn3 wh ho yha hz) (fun yu A1 hu => ?_))
  obtain ⟨yw, lv', n3', wh', rfl, hz', hu⟩ := hu
  refine bm_bo1 yw ?_
  rcases hu with ⟨yb, cs, yr1, r2, r3, rfl⟩ | ⟨yb, at', op', yr1, r2, rfl⟩
  · exact Pa.mono (hLp o yb lv' n3' yw 0 wh' ho r2 hz') (fun yu A2 hu => mQ_pY (by decide) yr1 r3 hu)
  · exact (bm_bol (N := N) yw 0 (fun _ => mQ_no hz' (RP.pN1 (by decide) yr1) r2) (fun yh => absurd yh (on_nn yb (by omega))) (fun yh => absurd yh (on_nn yb (by omega)))).weak (Nat.le_succ N)
def mLpsu (yA : AW) (yn : Nat) (lv0 yn30 l bl : Int32) (N : Nat) : Prop := ∀ (o ya : Nat) (lv yn3 yv yx2 x3 : Int32) (wh : Nat → Int32), o ≤ 8 → ya ≤ yn → lzI lv0 yn30 l lv yn3 → Pa N 197 5 [(0, .ref 69), (1, .int yv), (2, .int yx2), (3, .int x3)] [] (mW yA (Int32.ofNat ya) (-1) (Int32.ofNat o) lv bl yn3 wh) (mRq yA yn lv0 yn30 l bl (3 + 10) o ya (fun yst => yv :: yst))
theorem m_suL (he : (yA.1 69 62).toInt = (yn : Int)) (hn2 : yn ≤ 160) (hbs : (yA.1 69 60).toInt ≤ 3040) {N : Nat} (hF : mFn yA yn lv0 yn30 l bl N 198 4) (yih : mLpsu yA yn lv0 yn30 l bl N) : mLpsu yA yn lv0 yn30 l bl (N + 1) := by
  intro o ya lv yn3 yv yx y3 wh ho yha hz
  obtain ⟨yy, hy, hy1, hy2⟩ := mb (yA := yA) (yn := yn) (ya := ya) (ft := -1) (yop := Int32.ofNat o) (lv := lv) (bl := bl) (yn3 := yn3) (wh := wh) he hn2 hbs
  refine bm_sul yv yx y3 (fun h1 => absurd h1 rd_m1) (fun _ h2 => ?_) (fun _ h2 h3 => ?_) (fun _ h2 h3 => ?_)
  · rw [hy] at h2
    obtain ⟨hlt, ye1, ye2, ye3⟩ := sg_by hy1 hy2 yha h2 (by decide)
    have hsg : sgN ((3 : Nat) : Int) (rdC (mT yA) yn ya) := by rw [ye2]; unfold sgN; omega
    rw [mW_61, ← on_succ ya, mW_at]
    refine Pa.mono (hF o (ya + 1) lv yn3 wh ho hlt hz) (fun yu A1 hu => ?_)
    obtain ⟨yw, lv', n3', wh', rfl, hz', hu⟩ := hu
    rcases hu with ⟨yb, cs, yr1, r2, r3, rfl⟩ | ⟨yb, at', op', yr1, r2, rfl⟩
    · have ykey : jnX (mT yA ya) yv yw = yv + yw := by
        unfold jnX
        rw [if_neg (by omega), if_neg (by omega), if_neg (by omega), if_neg (by omega), if_neg (by omega), if_pos ye3]
      refine bm_su2 yv 1 y3 yw (fun yq => ?_) (fun yq => ?_)
      · exact absurd yq (by decide)
      · exact Pa.mono (yih o yb lv' n3' (yv + yw) 1 yw wh' ho r2 hz') (fun yu A2 hu => mQ_lY hsg (by decide) (by omega) yr1 r3 (by rw [ykey]; exact hu))
    · have ystop : ∀ yz, Pa N 197 5 [(0, .ref 69), (1, .int yz), (2, .int 1), (3, .int yw)] [] (mW yA at' (Int32.ofNat yb) op' lv' bl n3' wh') (mRq yA yn lv0 yn30 l bl (3 + 10) o ya (fun yst => yv :: yst)) := fun yz =>
        (bm_sul (N := N) yz 1 yw (fun _ => mQ_no hz' (RP.lN1 hsg yr1) r2) (fun yh => absurd yh (on_nn yb (by omega))) (fun yh => absurd yh (on_nn yb (by omega))) (fun yh => absurd yh (on_nn yb (by omega)))).weak (Nat.le_succ N)
      exact bm_su2 yv 1 y3 yw (fun _ => ystop _) (fun _ => ystop _)
  · rw [hy] at h2 h3
    have := sg_no hy1 hy2 yha
    exact mQ_l0 hz yha (by unfold sgN; omega)
  · rw [hy] at h3
    obtain ⟨hlt, ye1, ye2, ye3⟩ := sg_by hy1 hy2 yha h3 (by decide)
    have hsg : sgN ((3 : Nat) : Int) (rdC (mT yA) yn ya) := by rw [ye2]; unfold sgN; omega
    rw [mW_61, ← on_succ ya, mW_at]
    refine Pa.mono (hF o (ya + 1) lv yn3 wh ho hlt hz) (fun yu A1 hu => ?_)
    obtain ⟨yw, lv', n3', wh', rfl, hz', hu⟩ := hu
    rcases hu with ⟨yb, cs, yr1, r2, r3, rfl⟩ | ⟨yb, at', op', yr1, r2, rfl⟩
    · have ykey : jnX (mT yA ya) yv yw = yv - yw := by
        unfold jnX
        rw [if_neg (by omega), if_neg (by omega), if_neg (by omega), if_neg (by omega), if_neg (by omega), if_neg (by omega), if_pos ye3]
      refine bm_su2 yv 0 y3 yw (fun yq => ?_) (fun yq => ?_)
      · exact Pa.mono (yih o yb lv' n3' (yv - yw) 0 yw wh' ho r2 hz') (fun yu A2 hu => mQ_lY hsg (by decide) (by omega) yr1 r3 (by rw [ykey]; exact hu))
      · exact absurd yq (by decide)
    · have ystop : ∀ yz, Pa N 197 5 [(0, .ref 69), (1, .int yz), (2, .int 0), (3, .int yw)] [] (mW yA at' (Int32.ofNat yb) op' lv' bl n3' wh') (mRq yA yn lv0 yn30 l bl (3 + 10) o ya (fun yst => yv :: yst)) := fun yz =>
        (bm_sul (N := N) yz 0 yw (fun _ => mQ_no hz' (RP.lN1 hsg yr1) r2) (fun yh => absurd yh (on_nn yb (by omega))) (fun yh => absurd yh (on_nn yb (by omega))) (fun yh => absurd yh (on_nn yb (by omega)))).weak (Nat.le_succ N)
      exact bm_su2 yv 0 y3 yw (fun _ => ystop _) (fun _ => ystop _)
theorem m_su {N : Nat} (hF : mFn yA yn lv0 yn30 l bl N 198 4) (hLp : mLpsu yA yn lv0 yn30 l bl N) (hn2 : yn ≤ 160) : mFn yA yn lv0 yn30 l bl (N + 1) 197 3 := by
  intro o ya lv yn3 wh ho yha hz
  refine bm_su0 (Pa.mono (hF o ya lv yn3 wh ho yha hz) (fun yu A1 hu => ?_))
  obtain ⟨yw, lv', n3', wh', rfl, hz', hu⟩ := hu
  refine bm_su1 yw ?_
  rcases hu with ⟨yb, cs, yr1, r2, r3, rfl⟩ | ⟨yb, at', op', yr1, r2, rfl⟩
  · exact Pa.mono (hLp o yb lv' n3' yw 0 0 wh' ho r2 hz') (fun yu A2 hu => mQ_pY (by decide) yr1 r3 hu)
  · exact (bm_sul (N := N) yw 0 0 (fun _ => mQ_no hz' (RP.pN1 (by decide) yr1) r2) (fun yh => absurd yh (on_nn yb (by omega))) (fun yh => absurd yh (on_nn yb (by omega))) (fun yh => absurd yh (on_nn yb (by omega)))).weak (Nat.le_succ N)
def mLppr (yA : AW) (yn : Nat) (lv0 yn30 l bl : Int32) (N : Nat) : Prop := ∀ (o ya : Nat) (lv yn3 yv x3 : Int32) (wh : Nat → Int32), o ≤ 8 → ya ≤ yn → lzI lv0 yn30 l lv yn3 → Pa N 198 10 [(0, .ref 69), (1, .int yv), (2, .int (mBy (mW yA (Int32.ofNat ya) (-1) (Int32.ofNat o) lv bl yn3 wh))), (3, .int x3)] [] (mW yA (Int32.ofNat ya) (-1) (Int32.ofNat o) lv bl yn3 wh) (mRq yA yn lv0 yn30 l bl (4 + 10) o ya (fun yst => yv :: yst))
theorem m_prL (he : (yA.1 69 62).toInt = (yn : Int)) (hn2 : yn ≤ 160) (hbs : (yA.1 69 60).toInt ≤ 3040) {N : Nat} (hF : mFn yA yn lv0 yn30 l bl N 201 5) (yih : mLppr yA yn lv0 yn30 l bl N) : mLppr yA yn lv0 yn30 l bl (N + 1) := by
  intro o ya lv yn3 yv x3 wh ho yha hz
  obtain ⟨yy, hy, hy1, hy2⟩ := mb (yA := yA) (yn := yn) (ya := ya) (ft := -1) (yop := Int32.ofNat o) (lv := lv) (bl := bl) (yn3 := yn3) (wh := wh) he hn2 hbs
  rw [hy]
  have ygo : ∀ yc : Int, yy.toInt = yc → (yc = 42 ∨ yc = 47 ∨ yc = 37) → Pa N 201 0 [(0, .ref 69)] [] (uI (mW yA (Int32.ofNat ya) (-1) (Int32.ofNat o) lv bl yn3 wh) 69 61 ((mW yA (Int32.ofNat ya) (-1) (Int32.ofNat o) lv bl yn3 wh).1 69 61 + 1)) (fun yu A1 => Pa N 198 49 [(0, .ref 69), (1, .int yv), (2, .int yy), (3, .int x3)] (yu.toList ++ []) A1 (mRq yA yn lv0 yn30 l bl (4 + 10) o ya (fun yst => yv :: yst))) := by
    intro yc yhc hs
    obtain ⟨hlt, ye1, ye2, ye3⟩ := sg_by hy1 hy2 yha yhc (by omega)
    have hsg : sgN ((4 : Nat) : Int) (rdC (mT yA) yn ya) := by rw [ye2]; unfold sgN; omega
    rw [mW_61, ← on_succ ya, mW_at]
    refine Pa.mono (hF o (ya + 1) lv yn3 wh ho hlt hz) (fun yu A1 hu => ?_)
    obtain ⟨yw, lv', n3', wh', rfl, hz', hu⟩ := hu
    rcases hu with ⟨yb, cs, yr1, r2, r3, rfl⟩ | ⟨yb, at', op', yr1, r2, rfl⟩
    · have ykey : ∀ yz, jnX (mT yA ya) yv yw = yz → Pa N 198 10 [(0, .ref 69), (1, .int yz), (2, .int (mBy (mW yA (Int32.ofNat yb) (-1) (Int32.ofNat o) lv' bl n3' wh'))), (3, .int yw)] [] (mW yA (Int32.ofNat yb) (-1) (Int32.ofNat o) lv' bl n3' wh') (mRq yA yn lv0 yn30 l bl (4 + 10) o ya (fun yst => yv :: yst)) := fun yz hz2 => by
        subst hz2
        exact Pa.mono (yih o yb lv' n3' _ yw wh' ho r2 hz') (fun yu A2 hu => mQ_lY hsg (by decide) (by omega) yr1 r3 hu)
      refine bm_pr2 yv yy x3 yw (fun yq1 yq2 yq3 => ykey _ ?_) (fun yq1 yq2 yq3 => ykey _ ?_) (fun yq1 yq2 => ykey _ ?_) (fun yq1 => ykey _ ?_)
      · unfold jnX
        rw [if_neg (by omega), if_neg (by omega), if_neg (by omega), if_neg (by omega), if_neg (by omega), if_neg (by omega), if_neg (by omega), if_neg (by omega), if_neg (by omega), if_pos (by omega), if_neg yq2]
      · unfold jnX
        rw [if_neg (by omega), if_neg (by omega), if_neg (by omega), if_neg (by omega), if_neg (by omega), if_neg (by omega), if_neg (by omega), if_neg (by omega), if_pos (by omega), if_neg yq2]
      · unfold jnX
        rw [if_neg (by omega), if_neg (by omega), if_neg (by omega), if_neg (by omega), if_neg (by omega), if_neg (by omega), if_neg (by omega), if_neg (by omega)]
        rcases Classical.em ((mT yA ya).toInt = 47) with yq | yq
        · rw [if_pos yq, if_pos yq2]
        · rw [if_neg yq, if_pos (by omega), if_pos yq2]
      · unfold jnX
        rw [if_neg (by omega), if_neg (by omega), if_neg (by omega), if_neg (by omega), if_neg (by omega), if_neg (by omega), if_neg (by omega), if_pos (by omega)]
    · have ystop : ∀ yz yc, Pa N 198 10 [(0, .ref 69), (1, .int yz), (2, .int yc), (3, .int yw)] [] (mW yA at' (Int32.ofNat yb) op' lv' bl n3' wh') (mRq yA yn lv0 yn30 l bl (4 + 10) o ya (fun yst => yv :: yst)) := fun yz yc =>
        (bm_prl (N := N) yz yc yw (fun _ => mQ_no hz' (RP.lN1 hsg yr1) r2) (fun yh => absurd yh (on_nn yb (by omega))) (fun yh => absurd yh (on_nn yb (by omega))) (fun yh => absurd yh (on_nn yb (by omega))) (fun yh => absurd yh (on_nn yb (by omega)))).weak (Nat.le_succ N)
      exact bm_pr2 yv yy x3 yw (fun _ _ _ => ystop _ _) (fun _ _ _ => ystop _ _) (fun _ _ => ystop _ _) (fun _ => ystop _ _)
  refine bm_prl yv yy x3 (fun h1 => absurd h1 rd_m1) (fun _ h2 => ygo 42 h2 (by decide)) (fun _ h2 h3 => ygo 47 h3 (by decide)) (fun _ h2 h3 h4 => ?_) (fun _ h2 h3 h4 => ygo 37 h4 (by decide))
  have := sg_no hy1 hy2 yha
  exact mQ_l0 hz yha (by unfold sgN; omega)
theorem m_pr {N : Nat} (hF : mFn yA yn lv0 yn30 l bl N 201 5) (hLp : mLppr yA yn lv0 yn30 l bl N) (hn2 : yn ≤ 160) : mFn yA yn lv0 yn30 l bl (N + 1) 198 4 := by
  intro o ya lv yn3 wh ho yha hz
  refine bm_pr0 (Pa.mono (hF o ya lv yn3 wh ho yha hz) (fun yu A1 hu => ?_))
  obtain ⟨yw, lv', n3', wh', rfl, hz', hu⟩ := hu
  refine bm_pr1 yw ?_
  rcases hu with ⟨yb, cs, yr1, r2, r3, rfl⟩ | ⟨yb, at', op', yr1, r2, rfl⟩
  · exact Pa.mono (hLp o yb lv' n3' yw 0 wh' ho r2 hz') (fun yu A2 hu => mQ_pY (by decide) yr1 r3 hu)
  · exact (bm_prl (N := N) yw _ 0 (fun _ => mQ_no hz' (RP.pN1 (by decide) yr1) r2) (fun yh => absurd yh (on_nn yb (by omega))) (fun yh => absurd yh (on_nn yb (by omega))) (fun yh => absurd yh (on_nn yb (by omega))) (fun yh => absurd yh (on_nn yb (by omega)))).weak (Nat.le_succ N)
theorem m_cm (he : (yA.1 69 62).toInt = (yn : Int)) (hn2 : yn ≤ 160) (hbs : (yA.1 69 60).toInt ≤ 3040) {N : Nat} (hF : mFn yA yn lv0 yn30 l bl N 197 3) : mFn yA yn lv0 yn30 l bl (N + 1) 196 2 := by
  intro o ya0 lv0' n30' wh0 ho ha0 hz0
  refine bm_cm0 (Pa.mono (hF o ya0 lv0' n30' wh0 ho ha0 hz0) (fun yu A1 hu => ?_))
  obtain ⟨yv, lv, yn3, wh, rfl, hz, hu⟩ := hu
  rcases hu with ⟨ya, cs0, r01, yha, r03, rfl⟩ | ⟨yb, at', op', yr1, r2, rfl⟩
  · obtain ⟨yy, hy, hy1, hy2⟩ := mb (yA := yA) (yn := yn) (ya := ya) (ft := -1) (yop := Int32.ofNat o) (lv := lv) (bl := bl) (yn3 := yn3) (wh := wh) he hn2 hbs
    have ygo : ∀ yc : Int, yy.toInt = yc → (yc = 60 ∨ yc = 61 ∨ yc = 62) → Pa N 197 0 [(0, .ref 69)] [] (uI (mW yA (Int32.ofNat ya) (-1) (Int32.ofNat o) lv bl yn3 wh) 69 61 ((mW yA (Int32.ofNat ya) (-1) (Int32.ofNat o) lv bl yn3 wh).1 69 61 + 1)) (fun yu A1 => Pa N 196 51 [(0, .ref 69), (1, .int yv), (2, .int (mBy (mW yA (Int32.ofNat ya) (-1) (Int32.ofNat o) lv bl yn3 wh)))] (yu.toList ++ []) A1 (mRq yA yn lv0 yn30 l bl 2 o ya0 (fun yst => yst))) := by
      intro yc yhc hs
      rw [hy]
      obtain ⟨hlt, ye1, ye2, ye3⟩ := sg_by hy1 hy2 yha yhc (by omega)
      have hsg : sgN ((2 : Nat) : Int) (rdC (mT yA) yn ya) := by rw [ye2]; unfold sgN; omega
      rw [mW_61, ← on_succ ya, mW_at]
      refine Pa.mono (hF o (ya + 1) lv yn3 wh ho hlt hz) (fun yu A1 hu => ?_)
      obtain ⟨yw, lv', n3', wh', rfl, hz', hu⟩ := hu
      rcases hu with ⟨yb, cs, yr1, r2, r3, rfl⟩ | ⟨yb, at', op', yr1, r2, rfl⟩
      · have ykey : ∀ yz, jnX (mT yA ya) yv yw = yz → mRq yA yn lv0 yn30 l bl 2 o ya0 (fun yst => yst) (some (.int yz)) (mW yA (Int32.ofNat yb) (-1) (Int32.ofNat o) lv' bl n3' wh') := fun yz hz2 => by
          subst hz2
          refine ⟨_, lv', n3', wh', rfl, hz', .inl ⟨yb, cs0 ++ (cs ++ [-(mT yA ya)]), RP.pY (by decide) r01 (RP.lZ hsg rfl yr1), r2, fun yst => ?_, rfl⟩⟩
          show evs (mEv yA l) yst (cs0 ++ (cs ++ [-(mT yA ya)])) = _
          rw [evs_app, r03, evs_app, r3, evs_cons, ev_sg (by omega) (by omega)]
          rfl
        refine bm_cm2 yv yy yw (fun yq1 yq2 yq3 => ykey _ ?_) (fun yq1 yq2 yq3 => ykey _ ?_) (fun yq1 yq2 yq3 => ykey _ ?_) (fun yq1 yq2 yq3 => ykey _ ?_) (fun yq1 yq2 => ykey _ ?_) (fun yq1 yq2 => ykey _ ?_)
        · unfold jnX
          rw [if_neg (by omega), if_neg (by omega), if_neg (by omega), if_neg (by omega), if_pos (by omega), if_neg (by omega)]
        · unfold jnX
          rw [if_neg (by omega), if_neg (by omega), if_neg (by omega), if_neg (by omega), if_pos (by omega), if_pos yq3]
        · unfold jnX
          rw [if_neg (by omega), if_neg (by omega), if_neg (by omega), if_pos (by omega), if_neg yq3]
        · unfold jnX
          rw [if_neg (by omega), if_neg (by omega), if_neg (by omega), if_pos (by omega), if_pos yq3]
        · unfold jnX
          rw [if_neg (by omega), if_neg (by omega), if_pos (by omega), if_neg (by omega)]
        · unfold jnX
          rw [if_neg (by omega), if_neg (by omega), if_pos (by omega), if_pos yq2]
      · have ystop : ∀ yz, mRq yA yn lv0 yn30 l bl 2 o ya0 (fun yst => yst) (some (.int yz)) (mW yA at' (Int32.ofNat yb) op' lv' bl n3' wh') := fun yz => mQ_no hz' (RP.pN2 (by decide) r01 (RP.lN1 hsg yr1)) r2
        exact bm_cm2 yv yy yw (fun _ _ _ => ystop _) (fun _ _ _ => ystop _) (fun _ _ _ => ystop _) (fun _ _ _ => ystop _) (fun _ _ => ystop _) (fun _ _ => ystop _)
    refine bm_cm1 yv (fun h1 => absurd h1 rd_m1) (fun _ h2 => ?_) (fun _ h2 h3 => ?_) (fun _ h2 h3 h4 => ?_) (fun _ h2 h3 h4 => ?_)
    · exact ygo 60 (by rw [hy] at h2; exact h2) (by decide)
    · exact ygo 61 (by rw [hy] at h3; exact h3) (by decide)
    · exact ygo 62 (by rw [hy] at h4; exact h4) (by decide)
    · rw [hy] at h2 h3 h4
      have := sg_no hy1 hy2 yha
      have yq : mRq yA yn lv0 yn30 l bl (2 + 10) o ya (fun yst => yv :: yst) (some (.int yv)) (mW yA (Int32.ofNat ya) (-1) (Int32.ofNat o) lv bl yn3 wh) := mQ_l0 hz yha (by unfold sgN; omega)
      exact mQ_pY (by decide) r01 r03 yq
  · exact bm_cm1 yv (fun _ => mQ_no hz (RP.pN1 (by decide) yr1) r2) (fun yh => absurd yh (on_nn yb (by omega))) (fun yh => absurd yh (on_nn yb (by omega))) (fun yh => absurd yh (on_nn yb (by omega))) (fun yh => absurd yh (on_nn yb (by omega)))
theorem c_named (hl : mLoc yA lv0 yn30 l) (N yj : Nat) (ya ft yop lv yn3 : Int32) (wh : Nat → Int32) (hj : yj < 10) (hz : lzI lv0 yn30 l lv yn3) : Pa N 200 0 [(0, .ref 69), (1, .int (Int32.ofNat yj))] [] (mW yA ya ft yop lv bl yn3 wh) (fun yu A1 => ∃ lv' n3' wh', lzI lv0 yn30 l lv' n3' ∧ yu = some (.int (if yj = 3 then l else yA.1 117 yj)) ∧ A1 = mW yA ya ft yop lv' bl n3' wh') := by
  have ej : (Int32.ofNat yj).toInt = (yj : Int) := i32_nat (by omega)
  refine bm_nd0 _ (fun h1 h2 h3 => ?_) (fun h1 h2 h3 h4 => ?_) (fun h1 h2 => ?_)
  · rw [ej] at h1
    refine ⟨lv, yn3, wh, hz, ?_, rfl⟩
    rw [ej, Int.toNat_natCast, mW_117 (by omega), if_neg (by omega)]
  · rw [ej] at h1
    rw [mW_66] at h2
    have yj3 : yj = 3 := by omega
    refine ⟨lv, yn3, wh, hz, ?_, rfl⟩
    rw [ej, Int.toNat_natCast, yj3, mW_3, if_pos rfl]
    rcases hz with ⟨yq1, yq2⟩ | ⟨yq1, yq2⟩
    · rw [yq2, hl.1 (by rw [← yq1]; exact h2)]
    · rw [yq2]
  · rw [ej] at h1
    rw [mW_66] at h2
    have yj3 : yj = 3 := by omega
    have yq1 : lv = lv0 := by
      rcases hz with yq | yq
      · exact yq.1
      · rw [yq.1] at h2
        exact absurd h2 rd_m1
    rw [mW_66, mW_67, yq1]
    refine Pa.mono (hl.2 (by rw [← yq1]; exact h2) N ya ft yop bl yn3 wh) (fun yu A1 hu => ?_)
    obtain ⟨yr, wh', rfl, hr, rfl⟩ := hu
    refine bm_nd1 _ yr (fun ye1 h3 h4 => ?_) (fun ye1 h3 h4 => ?_)
    · have el : l = 0 := by
        rcases hr with yq | yq
        · exact yq.2
        · exact absurd ye1 yq.1
      refine ⟨-1, 0, wh', .inr ⟨rfl, el.symm⟩, ?_, ?_⟩
      · rw [ej, Int.toNat_natCast, yj3, mW_n3, mW_3, if_pos rfl, el]
      · rw [mW_n3, mW_lv]
    · have el : l = 1 := by
        rcases hr with yq | yq
        · exact absurd yq.1 ye1
        · exact yq.2
      refine ⟨-1, 1, wh', .inr ⟨rfl, el.symm⟩, ?_, ?_⟩
      · rw [ej, Int.toNat_natCast, yj3, mW_n3, mW_3, if_pos rfl, el]
      · rw [mW_n3, mW_lv]
theorem m_num (he : (yA.1 69 62).toInt = (yn : Int)) (hn2 : yn ≤ 160) (hbs : (yA.1 69 60).toInt ≤ 3040) : ∀ (N yk yi o ya : Nat) (yv yc kk lv yn3 : Int32) (wh : Nat → Int32), yi + yk = 6 → ya ≤ yn → (1 ≤ yi ∨ (48 ≤ rdC (mT yA) yn ya ∧ rdC (mT yA) yn ya ≤ 57)) → Pa N 201 158 [(0, .ref 69), (1, .int yc), (2, .int kk), (3, .int yv), (4, .int (Int32.ofNat yi))] [] (mW yA (Int32.ofNat ya) (-1) (Int32.ofNat o) lv bl yn3 wh) (fun yu A1 => yu = some (.int (rdN (mT yA) yn yk ya yv).2) ∧ A1 = mW yA (Int32.ofNat (rdN (mT yA) yn yk ya yv).1) (-1) (Int32.ofNat o) lv bl yn3 wh) := by
  intro N
  induction N with
  | zero => intro yk yi o ya yv yc kk lv yn3 wh _ _ _; exact Pa.zero
  | succ N yih =>
    intro yk yi o ya yv yc kk lv yn3 wh yhi yha yhd
    have ei : (Int32.ofNat yi).toInt = (yi : Int) := i32_nat (by omega)
    obtain ⟨yy, hy, hy1, hy2⟩ := mb (yA := yA) (yn := yn) (ya := ya) (ft := -1) (yop := Int32.ofNat o) (lv := lv) (bl := bl) (yn3 := yn3) (wh := wh) he hn2 hbs
    have yhc := sg_no hy1 hy2 yha
    have ystop : ¬ (48 ≤ rdC (mT yA) yn ya ∧ rdC (mT yA) yn ya ≤ 57) ∨ yk = 0 → (some (Value.int yv) = some (Value.int (rdN (mT yA) yn yk ya yv).2) ∧ mW yA (Int32.ofNat ya) (-1) (Int32.ofNat o) lv bl yn3 wh = mW yA (Int32.ofNat (rdN (mT yA) yn yk ya yv).1) (-1) (Int32.ofNat o) lv bl yn3 wh) := by
      intro yq
      have ye : rdN (mT yA) yn yk ya yv = (ya, yv) := by
        rcases yq with yq | yq
        · exact rdN_stop yq
        · rw [yq]; rfl
      rw [ye]
      exact ⟨rfl, rfl⟩
    refine bm_onn yc kk yv _ (fun h1 => ?_) (fun h1 h2 h3 => ?_) (fun h1 h2 h3 h4 => ?_) (fun h1 h2 h3 h4 => ?_) (fun h1 h2 h3 h4 => ?_) (fun h1 h2 h3 h4 h5 => ?_) (fun h1 h2 h3 h4 h5 => ?_) (fun h1 h2 h3 => ?_) <;> rw [ei] at h1
    · exact ystop (.inr (by omega))
    · rw [hy] at h2
      exact ystop (.inl (by omega))
    · rw [hy] at h2
      rw [ei] at h3
      omega
    · rw [hy] at h2
      rw [ei] at h3
      omega
    · rw [hy] at h3
      exact ystop (.inl (by omega))
    · rw [hy] at h3
      rw [ei] at h4
      omega
    · rw [hy] at h3
      rw [ei] at h4
      omega
    · rw [hy] at h2 h3
      have hlt : ya < yn := by
        rcases Nat.lt_or_ge ya yn with yq | yq
        · exact yq
        · rw [(hy2 yha yq).1] at h2
          exact absurd h2 (by decide)
      obtain ⟨ye1, ye2⟩ := hy1 yha hlt
      obtain ⟨yk, rfl⟩ : ∃ k', yk = k' + 1 := ⟨yk - 1, by omega⟩
      have yq : 48 ≤ rdC (mT yA) yn ya ∧ rdC (mT yA) yn ya ≤ 57 := by rw [ye2]; exact ⟨h2, h3⟩
      rw [rdN_go yq, hy, ye1, mW_61, ← on_succ ya, ← on_succ yi, mW_at, Int32.mul_comm 10 yv]
      exact yih yk (yi + 1) o (ya + 1) _ yc kk lv yn3 wh (by omega) hlt (.inl (by omega))
theorem m_on (he : (yA.1 69 62).toInt = (yn : Int)) (hn2 : yn ≤ 160) (hbs : (yA.1 69 60).toInt ≤ 3040) (hl : mLoc yA lv0 yn30 l) {N : Nat} (hE : mFn yA yn lv0 yn30 l bl N 194 0) (hO : mFn yA yn lv0 yn30 l bl N 201 5) : mFn yA yn lv0 yn30 l bl (N + 1) 201 5 := by
  intro o ya lv yn3 wh ho yha hz
  have eo : (Int32.ofNat o).toInt = (o : Int) := i32_nat (by omega)
  obtain ⟨yy, hy, hy1, hy2⟩ := mb (yA := yA) (yn := yn) (ya := ya) (ft := -1) (yop := Int32.ofNat o) (lv := lv) (bl := bl) (yn3 := yn3) (wh := wh) he hn2 hbs
  have yhc := sg_no hy1 hy2 yha
  have nnm : (nmC yy.toInt).toInt < 0 → ¬ (ya < yn ∧ 0 ≤ (nmX (mT yA ya)).toInt) := fun yq yp => by
    have ye := (hy1 yha yp.1).1
    have yp2 := yp.2
    rw [← ye] at yp2
    have yp3 : 0 ≤ (nmC yy.toInt).toInt := yp2
    omega
  refine bm_on0 (fun _ h2 h3 => ?_) (fun _ h2 h3 => ?_) (fun _ h2 h3 h4 => ?_) (fun _ h2 h3 h4 => ?_) (fun _ h2 h3 h4 => ?_) (fun _ h2 h3 h4 => ?_) (fun h1 => absurd h1 rd_m1) <;> rw [hy] at h2
  · rw [mW_64, eo] at h3
    have hno := nnm (by rw [h2]; decide)
    obtain ⟨hlt, ye1, ye2, ye3⟩ := sg_by hy1 hy2 yha h2 (by decide)
    rw [hy, mW_64, mW_61, ← on_succ o, ← on_succ ya, mW_op, mW_at]
    refine Pa.mono (hO (o + 1) (ya + 1) lv yn3 wh (by omega) hlt hz) (fun yu A1 hu => ?_)
    obtain ⟨yw, lv', n3', wh', rfl, hz', hu⟩ := hu
    rcases hu with ⟨yb, cs, yr1, r2, r3, rfl⟩ | ⟨yb, at', op', yr1, r2, rfl⟩
    · have ykey : ∀ yz, (if yw.toInt = 0 then (1 : Int32) else 0) = yz → mRq yA yn lv0 yn30 l bl 5 o ya (fun yst => yst) (some (.int yz)) (uI (mW yA (Int32.ofNat yb) (-1) (Int32.ofNat (o + 1)) lv' bl n3' wh') 69 64 ((mW yA (Int32.ofNat yb) (-1) (Int32.ofNat (o + 1)) lv' bl n3' wh').1 69 64 - 1)) := fun yz hz2 => by
        refine ⟨yz, lv', n3', wh', rfl, hz', .inl ⟨yb, cs ++ [-33], RP.ntY hno ⟨ye2, by omega⟩ yr1, r2, fun yst => ?_, ?_⟩⟩
        · show evs (mEv yA l) yst (cs ++ [-33]) = _
          rw [evs_app, r3, evs_cons, ev_nt, hz2]
          rfl
        · rw [mW_64, mW_op, on_sub1 (by omega)]
      exact bm_one yy yw h2 (fun yq => ykey 0 (if_neg yq)) (fun yq => ykey 1 (if_pos yq))
    · have ystop : ∀ yz, mRq yA yn lv0 yn30 l bl 5 o ya (fun yst => yst) (some (.int yz)) (uI (mW yA at' (Int32.ofNat yb) op' lv' bl n3' wh') 69 64 ((mW yA at' (Int32.ofNat yb) op' lv' bl n3' wh').1 69 64 - 1)) := fun yz => by
        rw [mW_op]
        exact mQ_no hz' (RP.ntN hno ⟨ye2, by omega⟩ yr1) r2
      exact bm_one yy yw h2 (fun _ => ystop 0) (fun _ => ystop 1)
  · rw [mW_64, eo] at h3
    have hno := nnm (by rw [h2]; decide)
    rw [mW_61, mW_ft]
    exact mQ_no hz (RP.no (by omega) hno (by omega) (by omega)) yha
  · rw [hy] at h3 h4
    have hno := nnm (by
      rcases nm_two yy.toInt with ⟨yq1, yq2⟩ | ⟨yi, yj, yq1, yq2, yq3, yq4, yq5⟩
      · rw [yq1]; decide
      · have h5 : (nmD yy.toInt).toInt < 0 := h4
        rw [yq2, i32_nat (by omega)] at h5
        omega)
    rcases Classical.em (48 ≤ rdC (mT yA) yn ya ∧ rdC (mT yA) yn ya ≤ 57) with yq | yq
    · refine Pa.mono (m_num he hn2 hbs N 6 0 o ya 0 _ _ lv yn3 wh (by omega) yha (.inr yq)) (fun yu A1 hu => ?_)
      obtain ⟨rfl, rfl⟩ := hu
      have hle := rdN_le (T := mT yA) (yn := yn) 6 ya 0 yha
      refine ⟨_, lv, yn3, wh, rfl, hz, .inl ⟨_, _, RP.num yq, hle.2, fun yst => ?_, rfl⟩⟩
      show evs (mEv yA l) yst [(rdN (mT yA) yn 6 ya 0).2] = _
      rw [evs_cons, ev_nu rdN_n6]
      rfl
    · have hno2 : RP (mT yA) yn 5 o ya (ya, none) := RP.no yq hno (by omega) (by omega)
      have yi0 : (0 : Int32).toInt = 0 := rfl
      refine (bm_onn (N := N) _ _ 0 0 (fun h1 => ?_) (fun h1 h2 h3 => ?_) (fun h1 h2 h3 h4 => ?_) (fun h1 h2 h3 h4 => ?_) (fun h1 h2 h3 h4 => ?_) (fun h1 h2 h3 h4 h5 => ?_) (fun h1 h2 h3 h4 h5 => ?_) (fun h1 h2 h3 => ?_)).weak (Nat.le_succ N)
      · rw [yi0] at h1
        exact absurd h1 (by decide)
      · exact absurd yi0 h3
      · exact absurd h4 rd_m1
      · rw [mW_61, mW_ft]
        exact mQ_no hz hno2 yha
      · exact absurd yi0 h4
      · exact absurd h5 rd_m1
      · rw [mW_61, mW_ft]
        exact mQ_no hz hno2 yha
      · rw [hy] at h2 h3
        omega
  · rw [hy] at h3 h4
    rw [hy, mW_61, ← on_succ ya, mW_at]
    have h5 : 0 ≤ (nmD yy.toInt).toInt := h4
    rcases nm_two yy.toInt with ⟨yq1, yq2⟩ | ⟨yi, yj, yq1, yq2, yq3, yq4, yq5⟩
    · rw [yq2] at h5
      exact absurd h5 rd_m1
    · have hlt : ya < yn := by
        rcases Nat.lt_or_ge ya yn with yq | yq
        · exact yq
        · rw [(hy2 yha yq).1] at h5
          exact absurd h5 (by decide)
      have ye1 := (hy1 yha hlt).1
      have yeM : nmM yy = Int32.ofNat yj := yq2
      have eX : nmX (mT yA ya) = Int32.ofNat yi := by rw [← ye1]; exact yq1
      have hdg : ¬ (48 ≤ rdC (mT yA) yn ya ∧ rdC (mT yA) yn ya ≤ 57) := fun yq => by
        have ye9 : yy.toInt = rdC (mT yA) yn ya := (hy1 yha hlt).2.symm
        have : nmC yy.toInt = -1 := nmC_no ⟨by omega, by omega, by omega, by omega, by omega, by omega, by omega, by omega, by omega, by omega⟩
        rw [yq1] at this
        have h6 := congrArg Int32.toInt this
        rw [i32_nat (by omega), show (-1 : Int32).toInt = -1 from by decide] at h6
        omega
      rw [yeM]
      refine Pa.mono (c_named hl N yj _ _ _ lv yn3 wh yq4 hz) (fun yu A1 hu => ?_)
      obtain ⟨lv', n3', wh', hz', rfl, rfl⟩ := hu
      refine bm_onr _ _ _ ⟨_, lv', n3', wh', rfl, hz', .inl ⟨ya + 1, [-1 - nmX (mT yA ya)], RP.nam hdg ⟨hlt, by rw [eX, i32_nat (by omega)]; omega⟩, hlt, fun yst => ?_, rfl⟩⟩
      show evs (mEv yA l) yst [-1 - nmX (mT yA ya)] = _
      rw [evs_cons, eX, ev_nm yq3]
      show mEv yA l yi :: yst = _
      have yev : mEv yA l yi = if yj = 3 then l else yA.1 117 yj := by
        unfold mEv
        rcases yq5 with ⟨yp1, yp2⟩ | ⟨yp1, yp2⟩ | ⟨yp1, yp2⟩ | ⟨yp1, yp2, yp3, yp4, yp5⟩
        · rw [yp1, yp2]; rfl
        · rw [yp1, yp2]; rfl
        · rw [yp1, yp2]; rfl
        · rw [if_neg yp1, if_neg yp2, if_neg yp3, if_neg yp5, yp4]
      rw [yev]
  · rw [hy] at h3
    rw [mW_64, eo] at h4
    have hno := nnm (by rw [h3]; decide)
    obtain ⟨hlt, ye1, ye2, ye3⟩ := sg_by hy1 hy2 yha h3 (by decide)
    rw [hy, mW_64, mW_61, ← on_succ o, ← on_succ ya, mW_op, mW_at]
    refine Pa.mono (hE (o + 1) (ya + 1) lv yn3 wh (by omega) hlt hz) (fun yu A1 hu => ?_)
    obtain ⟨yw, lv', n3', wh', rfl, hz', hu⟩ := hu
    rcases hu with ⟨yb, cs, yr1, r2, r3, rfl⟩ | ⟨yb, at', op', yr1, r2, rfl⟩
    · obtain ⟨yz, hy', hz1, hz2⟩ := mb (yA := yA) (yn := yn) (ya := yb) (ft := -1) (yop := Int32.ofNat (o + 1)) (lv := lv') (bl := bl) (yn3 := n3') (wh := wh') he hn2 hbs
      refine bm_onp yy yw h3 (fun yh => absurd yh rd_m1) (fun _ yq => ?_) (fun _ yq => ?_)
      · rw [hy'] at yq
        obtain ⟨hlt2, yf1, yf2, yf3⟩ := sg_by hz1 hz2 r2 yq (by decide)
        refine ⟨yw, lv', n3', wh', rfl, hz', .inl ⟨yb + 1, cs, RP.paY hno ⟨ye2, by omega⟩ yr1 yf2, hlt2, r3, ?_⟩⟩
        rw [mW_61, mW_64, ← on_succ yb, mW_at, mW_op, on_sub1 (by omega)]
      · rw [hy'] at yq
        have := sg_no hz1 hz2 r2
        rw [mW_61, mW_ft]
        exact mQ_no hz' (RP.paN2 hno ⟨ye2, by omega⟩ yr1 (by omega)) r2
    · refine bm_onp yy yw h3 (fun _ => ?_) (fun yh => absurd yh (on_nn yb (by omega))) (fun yh => absurd yh (on_nn yb (by omega)))
      rw [mW_63, mW_ft]
      exact mQ_no hz' (RP.paN1 hno ⟨ye2, by omega⟩ yr1) r2
  · rw [hy] at h3
    rw [mW_64, eo] at h4
    have hno := nnm (by rw [h3]; decide)
    rw [mW_61, mW_ft]
    exact mQ_no hz (RP.no (by omega) hno (by omega) (by omega)) yha
/-- every method of the reader, at once -/
theorem m_all (he : (yA.1 69 62).toInt = (yn : Int)) (hn2 : yn ≤ 160) (hbs : (yA.1 69 60).toInt ≤ 3040) (hl : mLoc yA lv0 yn30 l) : ∀ N, (mFn yA yn lv0 yn30 l bl N 194 0 ∧ mLpei yA yn lv0 yn30 l bl N) ∧ (mFn yA yn lv0 yn30 l bl N 195 1 ∧ mLpbo yA yn lv0 yn30 l bl N) ∧ mFn yA yn lv0 yn30 l bl N 196 2 ∧ (mFn yA yn lv0 yn30 l bl N 197 3 ∧ mLpsu yA yn lv0 yn30 l bl N) ∧ (mFn yA yn lv0 yn30 l bl N 198 4 ∧ mLppr yA yn lv0 yn30 l bl N) ∧ mFn yA yn lv0 yn30 l bl N 201 5 := by
  intro N
  induction N with
  | zero => exact ⟨⟨fun _ _ _ _ _ _ _ _ => Pa.zero, fun _ _ _ _ _ _ _ _ _ _ => Pa.zero⟩, ⟨fun _ _ _ _ _ _ _ _ => Pa.zero, fun _ _ _ _ _ _ _ _ _ _ => Pa.zero⟩, fun _ _ _ _ _ _ _ _ => Pa.zero, ⟨fun _ _ _ _ _ _ _ _ => Pa.zero, fun _ _ _ _ _ _ _ _ _ _ _ => Pa.zero⟩, ⟨fun _ _ _ _ _ _ _ _ => Pa.zero, fun _ _ _ _ _ _ _ _ _ _ => Pa.zero⟩, fun _ _ _ _ _ _ _ _ => Pa.zero⟩
  | succ N yih =>
    obtain ⟨⟨ye1, ye2⟩, ⟨b1, b2⟩, yc1, ⟨ys1, ys2⟩, ⟨yp1, yp2⟩, o1⟩ := yih
    exact ⟨⟨m_ei b1 ye2 hn2, m_eiL he hn2 hbs b1 ye2⟩, ⟨m_bo yc1 b2 hn2, m_boL he hn2 hbs yc1 b2⟩, m_cm he hn2 hbs ys1, ⟨m_su yp1 ys2 hn2, m_suL he hn2 hbs yp1 ys2⟩, ⟨m_pr o1 yp2 hn2, m_prL he hn2 hbs o1 yp2⟩, m_on he hn2 hbs hl ye1 o1⟩
end MRD
