/-! yA TEXT THAT IS TRIED -/
/-- the tried ytext is of that yland and yuse -/
def tgB (yb : Nat) (yt : Int32) (yA : AW) (yw : Int32) : Bool := decide (0 ≤ yt.toInt ∧ (yA.1 yb yt.toInt.toNat).toInt = yw.toInt)
/-- good: the tried ytext alone, if it is of that yland and yuse -/
def gsT (yb : Nat) (yt : Int32) (yA : AW) (yw yd yk : Int32) (yj : Nat) : Bool := bif tgB yb yt yA yw then Nat.beq yj yt.toInt.toNat else gdT yb yA yw yd yk yj
def gdX (yA : AW) (yw yd yk : Int32) : Nat → Bool := gsT 40 (yA.1 38 8) yA yw yd yk
def gdM (yA : AW) (yw yd yk : Int32) : Nat → Bool := gsT 102 (yA.1 69 69) yA yw yd yk
theorem tg_1 {yb : Nat} {yt : Int32} {yA : AW} {yw : Int32} (h0 : 0 ≤ yt.toInt) (h1 : (yA.1 yb yt.toInt.toNat).toInt = yw.toInt) : tgB yb yt yA yw = true := decide_eq_true ⟨h0, h1⟩
theorem tg_0 {yb : Nat} {yt : Int32} {yA : AW} {yw : Int32} (yh : ¬ (0 ≤ yt.toInt ∧ (yA.1 yb yt.toInt.toNat).toInt = yw.toInt)) : tgB yb yt yA yw = false := decide_eq_false yh
theorem ltG_is {yg : Nat → Bool} {ym : Nat} : ∀ {yn : Nat}, ym < yn → (∀ yj, yj < yn → yg yj = Nat.beq yj ym) → ltG yg yn = some ym
  | 0, yh, _ => absurd yh (Nat.not_lt_zero ym)
  | yn + 1, yh, hg => by
    by_cases ye : yn = ym
    · rw [ltG_1 (by rw [hg yn (by omega), ye]; exact Nat.beq_refl ym), ye]
    · have ye2 : Nat.beq yn ym = false := by
        cases h2 : Nat.beq yn ym with
        | false => rfl
        | true => exact absurd (Nat.eq_of_beq_eq_true h2) ye
      rw [ltG_0 ((hg yn (by omega)).trans ye2)]
      exact ltG_is (by omega) (fun yj hj => hg yj (by omega))
theorem gsT_1 {yb : Nat} {yt : Int32} {yA : AW} {yw yd yk : Int32} {yj : Nat} (yh : tgB yb yt yA yw = true) : gsT yb yt yA yw yd yk yj = Nat.beq yj yt.toInt.toNat := by
  unfold gsT
  rw [yh]
  rfl
theorem gsT_0 {yb : Nat} {yt : Int32} {yA : AW} {yw yd yk : Int32} {yj : Nat} (yh : tgB yb yt yA yw = false) : gsT yb yt yA yw yd yk yj = gdT yb yA yw yd yk yj := by
  unfold gsT
  rw [yh]
  rfl
theorem ltS_1 {yb : Nat} {yt : Int32} {yA : AW} {yw yd yk : Int32} {yn : Nat} (yh : tgB yb yt yA yw = true) (hn : yt.toInt.toNat < yn) : ltG (gsT yb yt yA yw yd yk) yn = some yt.toInt.toNat := ltG_is hn (fun _ _ => gsT_1 yh)
theorem ltS_0 {yb : Nat} {yt : Int32} {yA : AW} {yw yd yk : Int32} {yn : Nat} (yh : tgB yb yt yA yw = false) : ltG (gsT yb yt yA yw yd yk) yn = ltG (gdT yb yA yw yd yk) yn := ltG_cg yn (fun _ _ => gsT_0 yh)
theorem gsT_cg {yb b' : Nat} {yt : Int32} {yA yW : AW} {yw yd yk : Int32} {yj : Nat} (ht : 0 ≤ yt.toInt → yW.1 yb yt.toInt.toNat = yA.1 b' yt.toInt.toNat) (h0 : yW.1 yb yj = yA.1 b' yj) (h1 : yW.1 (yb + 1) yj = yA.1 (b' + 1) yj) (h2 : yW.1 (yb + 2) yj = yA.1 (b' + 2) yj) : gsT yb yt yW yw yd yk yj = gsT b' yt yA yw yd yk yj := by
  have ye : tgB yb yt yW yw = tgB b' yt yA yw := by
    by_cases yz : 0 ≤ yt.toInt
    · unfold tgB
      rw [ht yz]
    · rw [tg_0 (fun yq => yz yq.1), tg_0 (fun yq => yz yq.1)]
  have ye2 : gdT yb yW yw yd yk yj = gdT b' yA yw yd yk yj := by
    unfold gdT
    rw [h0, h1, h2]
  unfold gsT
  rw [ye, ye2]
theorem ltS_cg {yb b' yn : Nat} {yt : Int32} {yA yW : AW} {yw yd yk : Int32} (ht : yt.toInt < (yn : Int)) (yh : ∀ yj, yj < yn → yW.1 yb yj = yA.1 b' yj ∧ yW.1 (yb + 1) yj = yA.1 (b' + 1) yj ∧ yW.1 (yb + 2) yj = yA.1 (b' + 2) yj) : ltG (gsT yb yt yW yw yd yk) yn = ltG (gsT b' yt yA yw yd yk) yn := ltG_cg yn (fun yj hj => gsT_cg (fun yz => (yh _ (by omega)).1) (yh yj hj).1 (yh yj hj).2.1 (yh yj hj).2.2)
theorem ltS_all {yb yn : Nat} {yt : Int32} {yA yW : AW} {yw yd yk : Int32} (yh : ∀ yj, yW.1 yb yj = yA.1 yb yj ∧ yW.1 (yb + 1) yj = yA.1 (yb + 1) yj ∧ yW.1 (yb + 2) yj = yA.1 (yb + 2) yj) : ltG (gsT yb yt yW yw yd yk) yn = ltG (gsT yb yt yA yw yd yk) yn := ltG_cg yn (fun yj _ => gsT_cg (fun _ => (yh _).1) (yh yj).1 (yh yj).2.1 (yh yj).2.2)
theorem en_some {yz yt : Int32} (yh : 0 ≤ yt.toInt) : enG yz (some yt.toInt.toNat) = yt := i32_of yh
theorem c_findT (N : Nat) (yA : AW) (yw yd yk : Int32) (h8 : (yA.1 38 8).toInt < (yA.1 38 7).toInt) (h0 : 0 ≤ (yA.1 38 7).toInt) (h1 : (yA.1 38 7).toInt ≤ 20) : Pa N 3 0 [(0, .ref 38), (1, .int yw), (2, .int yd), (3, .int yk)] [] yA (fun yu A1 => yu = some (.int (enG (-4) (ltG (gdX yA yw yd yk) (yA.1 38 7).toInt.toNat))) ∧ A1 = yA) := by
  have ygo : tgB 40 (yA.1 38 8) yA yw = false → Pa N 3 37 [(0, .ref 38), (1, .int yw), (2, .int yd), (3, .int yk), (4, .int ((yA.1 38 7) - 1))] [] yA (fun yu A1 => yu = some (.int (enG (-4) (ltG (gdX yA yw yd yk) (yA.1 38 7).toInt.toNat))) ∧ A1 = yA) := fun yh => by
    have ye : ltG (gdX yA yw yd yk) (yA.1 38 7).toInt.toNat = ltG (gdT 40 yA yw yd yk) (yA.1 38 7).toInt.toNat := ltS_0 yh
    rw [ye]
    exact c_findL yA yw yd yk N (yA.1 38 7).toInt.toNat _ (by rw [i_subx (x := (yA.1 38 7).toInt - 1) (by rw [show (1 : Int32).toInt = 1 from by decide]) (by omega) (by omega)]; omega) (by omega)
  refine bx_fn0 yw yd yk (fun yq => ygo (tg_0 (fun yz => by have := yz.1; omega))) (fun yq yq2 => by omega) (fun yq1 yq2 yq3 yq4 => ygo (tg_0 (fun yz => yq4 yz.2))) (fun yq1 yq2 yq3 yq4 => ⟨?_, rfl⟩)
  have ye : ltG (gdX yA yw yd yk) (yA.1 38 7).toInt.toNat = some (yA.1 38 8).toInt.toNat := ltS_1 (tg_1 yq1 yq4) (by omega)
  rw [ye, en_some yq1]
theorem c_forceT (N : Nat) (yA : AW) (yw yd yk : Int32) (h8 : (yA.1 69 69).toInt < (yA.1 69 45).toInt) (h0 : 0 ≤ (yA.1 69 45).toInt) (h1 : (yA.1 69 45).toInt ≤ 20) : Pa N 205 0 [(0, .ref 69), (1, .int yw), (2, .int yd), (3, .int yk)] [] yA (fun yu A1 => yu = some (.int (enG (-1) (ltG (gdM yA yw yd yk) (yA.1 69 45).toInt.toNat))) ∧ A1 = yA) := by
  have ygo : tgB 102 (yA.1 69 69) yA yw = false → Pa N 205 31 [(0, .ref 69), (1, .int yw), (2, .int yd), (3, .int yk), (4, .int (-1)), (5, .int 0)] [] yA (fun yu A1 => yu = some (.int (enG (-1) (ltG (gdM yA yw yd yk) (yA.1 69 45).toInt.toNat))) ∧ A1 = yA) := fun yh => by
    have ye : ltG (gdM yA yw yd yk) (yA.1 69 45).toInt.toNat = ltG (gdT 102 yA yw yd yk) (yA.1 69 45).toInt.toNat := ltS_0 yh
    rw [ye]
    exact c_forceL yA yw yd yk h0 h1 N (yA.1 69 45).toInt.toNat 0 (by omega)
  refine bm_fo0 yw yd yk (fun yq => ygo (tg_0 (fun yz => by have := yz.1; omega))) (fun yq1 yq2 yq3 => ygo (tg_0 (fun yz => yq3 yz.2))) (fun yq1 yq2 yq3 => ⟨?_, rfl⟩)
  have ye : ltG (gdM yA yw yd yk) (yA.1 69 45).toInt.toNat = some (yA.1 69 69).toInt.toNat := ltS_1 (tg_1 yq1 yq3) (by omega)
  rw [ye, en_some yq1]
def lwPT (yA : AW) (yu l yf yd yk : Int32) (yv : Option Value) (A1 : AW) : Prop := ∃ yx, yv = some (.int yx) ∧ lwW yA A1 ∧ ((ltG (gdX yA (l * 10 + yu) yd yk) (yA.1 38 7).toInt.toNat = none ∧ yx = x_tab 3 yu.toInt.toNat) ∨ ∃ yq ds, ltG (gdX yA (l * 10 + yu) yd yk) (yA.1 38 7).toInt.toNat = some yq ∧ txD yA yq ds ∧ yx = clX yu (rnV (rnX (lwE yd (ptsX yA yf l yk) (yA.1 7 yf.toInt.toNat) (bcX (yA.1 34 yf.toInt.toNat))) ds false [] 0)))
theorem c_lawOfT (N : Nat) (yA : AW) (yu l yf yd yk : Int32) (h8 : (yA.1 38 8).toInt < (yA.1 38 7).toInt) (hs0 : 0 ≤ (yA.1 38 7).toInt) (hs1 : (yA.1 38 7).toInt ≤ 20) (hx : ∀ yi, yi < (yA.1 38 7).toInt.toNat → txR yA yi) (hf0 : 0 ≤ yf.toInt) (hf1 : yf.toInt < (yA.1 5 6).toInt) : Pa N 15 0 [(0, .ref 46), (1, .int yu), (2, .int l), (3, .int yf), (4, .int yd), (5, .int yk)] [] yA (lwPT yA yu l yf yd yk) := by
  refine bx_lo0 yu l yf yd yk ?_
  refine Pa.mono (c_findT N yA (l * 10 + yu) yd yk h8 hs0 hs1) (fun yv A1 hv => ?_)
  obtain ⟨rfl, rfl⟩ := hv
  refine bx_lo1 yu l yf yd yk _ hf0 hf1 (fun yq1 yq2 yq3 => ?_) (fun yq1 yq2 => ?_)
  · cases ye : ltG (gdX A1 (l * 10 + yu) yd yk) (A1.1 38 7).toInt.toNat with
    | none =>
      rw [ye] at yq1
      exact absurd yq1 (by decide)
    | some yq =>
      have hq := ltG_lt ye
      have yeq : (enG (-4) (some yq)).toInt = (yq : Int) := i32_nat (by omega)
      have et : (enG (-4) (some yq)).toInt.toNat = yq := by rw [yeq]; omega
      obtain ⟨ds, hds⟩ := txD_of (hx yq hq)
      generalize hU : uI (uI (uI (uI (uI (uI (uI (uI (uI (uI (uI (uI (uI (uI A1 44 0 0) 44 1 0) 44 2 0) 44 3 0) 44 4 0) 44 5 0) 44 6 0) 44 7 0) 44 8 0) 44 9 0) 44 6 (yd / 360)) 44 7 (ptsX A1 yf l yk)) 44 8 (A1.1 7 yf.toInt.toNat)) 44 9 (bcX (A1.1 34 yf.toInt.toNat)) = yU
      have yu1 : ∀ yc yj, yc ≠ 44 → yU.1 yc yj = A1.1 yc yj := fun yc yj yhc => by
        rw [← hU, uI_c yhc, uI_c yhc, uI_c yhc, uI_c yhc, uI_c yhc, uI_c yhc, uI_c yhc, uI_c yhc, uI_c yhc, uI_c yhc, uI_c yhc, uI_c yhc, uI_c yhc, uI_c yhc]
      have yu2 : yU.2 = A1.2 := by rw [← hU]; rfl
      have u3 : ∀ yi, yi < 10 → yU.1 44 yi = lwE yd (ptsX A1 yf l yk) (A1.1 7 yf.toInt.toNat) (bcX (A1.1 34 yf.toInt.toNat)) yi := fun yi yhi => by
        rw [← hU]
        rcases (by omega : yi = 0 ∨ yi = 1 ∨ yi = 2 ∨ yi = 3 ∨ yi = 4 ∨ yi = 5 ∨ yi = 6 ∨ yi = 7 ∨ yi = 8 ∨ yi = 9) with yz | yz | yz | yz | yz | yz | yz | yz | yz | yz <;> subst yz <;> rfl
      have yu4 : yU = uF A1 44 (yU.1 44) := uF_of yu1 yu2
      refine Pa.mono (c_runT (yA := A1) (yB := yU) (yt := enG (-4) (some yq)) (ds := ds) (by rw [yeq]; omega) (by rw [yeq]; omega) (by rw [et]; exact hx yq hq) (by rw [et]; exact hds) yu1 yu2 N) (fun yv A2 hv => ?_)
      obtain ⟨rfl, yq5, yk5, rfl⟩ := hv
      have yfin : ∀ yx, yx = clX yu (rnV (rnX (yU.1 44) ds false [] 0)) → lwPT A1 yu l yf yd yk (some (.int yx)) (rnW yU (rnL (rnX (yU.1 44) ds false [] 0)) yq5 yk5) := fun yx hx2 => by
        refine ⟨yx, rfl, ?_, .inr ⟨yq, ds, ye, hds, ?_⟩⟩
        · rw [yu4]
          exact ⟨_, _, _, _, rfl⟩
        · rw [hx2, rnX_cg u3]
      refine bx_lo4 yu l yf yd yk _ _ (fun z1 z2 => yfin _ ?_) (fun z1 z2 => yfin _ ?_) (fun z1 => yfin _ ?_)
      · unfold clX
        rw [if_neg z1, if_neg z2]
      · unfold clX
        rw [if_neg z1, if_pos z2]
      · unfold clX
        rw [if_pos z1]
  · cases ye : ltG (gdX A1 (l * 10 + yu) yd yk) (A1.1 38 7).toInt.toNat with
    | none => exact ⟨_, rfl, lwW_refl A1, .inl ⟨ye, rfl⟩⟩
    | some yq =>
      rw [ye] at yq1
      have hq := ltG_lt ye
      exact absurd yq1 (on_nn yq (by omega))
def giPT (yA : AW) (yw yd yk o ym : Int32) (yenv : Nat → Int32) (yv : Option Value) (A1 : AW) : Prop := ∃ yy, yv = some (.int yy) ∧ lmW yA A1 ∧ ((ltG (gdM yA yw yd yk) (yA.1 69 45).toInt.toNat = none ∧ yy = o ∧ A1.1 69 68 = -1) ∨ ∃ yq ds, ltG (gdM yA yw yd yk) (yA.1 69 45).toInt.toNat = some yq ∧ txD yA yq ds ∧ yy = clM ym (rnV (rnX yenv ds false [] 0)) ∧ A1.1 69 68 = rnL (rnX yenv ds false [] 0))
def lmPT (yA : AW) (yu l yf yd yk : Int32) (yv : Option Value) (A1 : AW) : Prop := ∃ yy, yv = some (.int yy) ∧ lmW yA A1 ∧ ((ltG (gdM yA (10 * l + yu) yd yk) (yA.1 69 45).toInt.toNat = none ∧ yy = (if yu.toInt = 1 then 30 else if yu.toInt = 2 then 0 else 99999999)) ∨ ∃ yq ds, ltG (gdM yA (10 * l + yu) yd yk) (yA.1 69 45).toInt.toNat = some yq ∧ txD yA yq ds ∧ yy = clM (if yu.toInt = 1 then 100 else 99999999) (rnV (rnX (lwE yd (ptsM yA yf l yk) (yA.1 77 yf.toInt.toNat) (cnM (lnB yA yf (cT yA)))) ds false [] 0)))
theorem gi_upT {yA yB A1 : AW} {yw l yf yd yk o ym : Int32} {yv : Option Value} (hn : nmdM yA yB l yf yd yk) (yh : giPT yB yw yd yk o ym (lwE yd (ptsM yA yf l yk) (yA.1 77 yf.toInt.toNat) (cnM (lnB yA yf (cT yA)))) yv A1) : ∃ yy, yv = some (.int yy) ∧ lmW yA A1 ∧ ((ltG (gdM yA yw yd yk) (yA.1 69 45).toInt.toNat = none ∧ yy = o ∧ A1.1 69 68 = -1) ∨ ∃ yq ds, ltG (gdM yA yw yd yk) (yA.1 69 45).toInt.toNat = some yq ∧ txD yA yq ds ∧ yy = clM ym (rnV (rnX (lwE yd (ptsM yA yf l yk) (yA.1 77 yf.toInt.toNat) (cnM (lnB yA yf (cT yA)))) ds false [] 0)) ∧ A1.1 69 68 = rnL (rnX (lwE yd (ptsM yA yf l yk) (yA.1 77 yf.toInt.toNat) (cnM (lnB yA yf (cT yA)))) ds false [] 0)) := by
  obtain ⟨yy, rfl, h1, h2⟩ := yh
  have e45 := hn.2.2.2.1 45 (by decide)
  have eg : ltG (gdM yB yw yd yk) (yB.1 69 45).toInt.toNat = ltG (gdM yA yw yd yk) (yA.1 69 45).toInt.toNat := by
    rw [e45]
    show ltG (gsT 102 (yB.1 69 69) yB yw yd yk) _ = ltG (gsT 102 (yA.1 69 69) yA yw yd yk) _
    rw [hn.2.2.2.1 69 (by decide)]
    exact ltS_all (fun yj => ⟨hn.2.2.1 102 yj (by decide) (by decide), hn.2.2.1 (102 + 1) yj (by decide) (by decide), hn.2.2.1 (102 + 2) yj (by decide) (by decide)⟩)
  rw [eg] at h2
  refine ⟨yy, rfl, lmW_tr (nmdM_lm hn) h1, ?_⟩
  rcases h2 with h2 | ⟨yq, ds, h3, ⟨yn, dd, b1, b2, b3⟩, h5⟩
  · exact .inl h2
  · exact .inr ⟨yq, ds, h3, ⟨yn, dd, by rw [← hn.2.2.1 101 yq (by decide) (by decide)]; exact b1, b2, RT_cg (fun yj _ => hn.2.2.1 100 _ (by decide) (by decide)) b3⟩, h5⟩
