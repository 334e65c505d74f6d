/-! COSTS: what is equal, and that ycost and audit ykeep it -/
section CSX
variable {yA : AW} {ya : Nat} {yk yn : Int32}
theorem cX_low {yc : Nat} (h30 : yc ≠ 30) (h34 : yc ≠ 34) (yha : yc ≠ ya) (yj : Nat) : (costX yA ya yk yn).1 yc yj = yA.1 yc yj := by
  unfold costX
  rw [uI_c h30, uI_c h34, uO_I, uI_c yha, uI_c yha, uI_c yha, uI_c yha, uI_c yha, uI_c yha, uI_c yha, uI_c yha, uI_c yha, uI_c yha, uI_c yha, uI_c yha, uN_I]
theorem cX_30 (yha : 30 ≠ ya) : (costX yA ya yk yn).1 30 4 = yA.1 30 4 + 1 ∧ (costX yA ya yk yn).1 30 5 = yA.1 30 5 := by
  unfold costX
  refine ⟨uI_h, ?_⟩
  rw [uI_k (by decide), uI_c (by decide), uO_I, uI_c yha, uI_c yha, uI_c yha, uI_c yha, uI_c yha, uI_c yha, uI_c yha, uI_c yha, uI_c yha, uI_c yha, uI_c yha, uI_c yha, uN_I]
theorem cX_O {yc : Nat} : (costX yA ya yk yn).2.2.1 31 yc = if yc = (yA.1 30 4).toInt.toNat then some ya else yA.2.2.1 31 yc := by
  show (if 31 = 31 ∧ yc = (yA.1 30 4).toInt.toNat then some ya else yA.2.2.1 31 yc) = _
  simp
theorem cX_f0 (h30 : ya ≠ 30) (h34 : ya ≠ 34) : (costX yA ya yk yn).1 ya 0 = yA.1 30 4 := by
  unfold costX
  rw [uI_c h30, uI_c h34, uO_I, uI_k (by decide), uI_k (by decide), uI_k (by decide), uI_k (by decide), uI_k (by decide), uI_k (by decide), uI_k (by decide), uI_k (by decide), uI_k (by decide), uI_k (by decide), uI_h]
theorem cX_f1 (h30 : ya ≠ 30) (h34 : ya ≠ 34) : (costX yA ya yk yn).1 ya 1 = yk := by
  unfold costX
  rw [uI_c h30, uI_c h34, uO_I, uI_k (by decide), uI_k (by decide), uI_k (by decide), uI_k (by decide), uI_k (by decide), uI_k (by decide), uI_k (by decide), uI_k (by decide), uI_k (by decide), uI_h]
theorem cX_f2 (h30 : ya ≠ 30) (h34 : ya ≠ 34) : (costX yA ya yk yn).1 ya 2 = yn := by
  unfold costX
  rw [uI_c h30, uI_c h34, uO_I, uI_k (by decide), uI_k (by decide), uI_k (by decide), uI_k (by decide), uI_k (by decide), uI_k (by decide), uI_k (by decide), uI_k (by decide), uI_h]
theorem cX_f3 (h30 : ya ≠ 30) (h34 : ya ≠ 34) : (costX yA ya yk yn).1 ya 3 = isUx yk 2 := by
  unfold costX
  rw [uI_c h30, uI_c h34, uO_I, uI_k (by decide), uI_k (by decide), uI_k (by decide), uI_k (by decide), uI_k (by decide), uI_k (by decide), uI_k (by decide), uI_h]
theorem cX_f4 (h30 : ya ≠ 30) (h34 : ya ≠ 34) : (costX yA ya yk yn).1 ya 4 = yA.1 32 0 := by
  unfold costX
  rw [uI_c h30, uI_c h34, uO_I, uI_k (by decide), uI_k (by decide), uI_k (by decide), uI_k (by decide), uI_k (by decide), uI_k (by decide), uI_h]
theorem cX_f5 (h30 : ya ≠ 30) (h34 : ya ≠ 34) : (costX yA ya yk yn).1 ya 5 = yA.1 32 1 := by
  unfold costX
  rw [uI_c h30, uI_c h34, uO_I, uI_k (by decide), uI_k (by decide), uI_k (by decide), uI_k (by decide), uI_k (by decide), uI_h]
theorem cX_f6 (h30 : ya ≠ 30) (h34 : ya ≠ 34) : (costX yA ya yk yn).1 ya 6 = yA.1 32 2 := by
  unfold costX
  rw [uI_c h30, uI_c h34, uO_I, uI_k (by decide), uI_k (by decide), uI_k (by decide), uI_k (by decide), uI_h]
theorem cX_f7 (h30 : ya ≠ 30) (h34 : ya ≠ 34) : (costX yA ya yk yn).1 ya 7 = yA.1 32 3 := by
  unfold costX
  rw [uI_c h30, uI_c h34, uO_I, uI_k (by decide), uI_k (by decide), uI_k (by decide), uI_h]
theorem cX_f8 (h30 : ya ≠ 30) (h34 : ya ≠ 34) : (costX yA ya yk yn).1 ya 8 = yA.1 32 4 := by
  unfold costX
  rw [uI_c h30, uI_c h34, uO_I, uI_k (by decide), uI_k (by decide), uI_h]
theorem cX_f9 (h30 : ya ≠ 30) (h34 : ya ≠ 34) : (costX yA ya yk yn).1 ya 9 = yA.1 32 5 := by
  unfold costX
  rw [uI_c h30, uI_c h34, uO_I, uI_k (by decide), uI_h]
theorem cX_f10 (h30 : ya ≠ 30) (h34 : ya ≠ 34) : (costX yA ya yk yn).1 ya 10 = yA.1 32 6 := by
  unfold costX
  rw [uI_c h30, uI_c h34, uO_I, uI_h]
theorem cX_f11 (h30 : ya ≠ 30) (h34 : ya ≠ 34) : (costX yA ya yk yn).1 ya 11 = -1 := by
  unfold costX
  rw [uI_c h30, uI_c h34, uO_I, uI_k (by decide), uI_k (by decide), uI_k (by decide), uI_k (by decide), uI_k (by decide), uI_k (by decide), uI_k (by decide), uI_k (by decide), uI_k (by decide), uI_k (by decide), uI_k (by decide), uI_h]
theorem cX_f12 (h30 : ya ≠ 30) (h34 : ya ≠ 34) : (costX yA ya yk yn).1 ya 12 = yA.1 ya 12 := by
  unfold costX
  rw [uI_c h30, uI_c h34, uO_I, uI_k (by decide), uI_k (by decide), uI_k (by decide), uI_k (by decide), uI_k (by decide), uI_k (by decide), uI_k (by decide), uI_k (by decide), uI_k (by decide), uI_k (by decide), uI_k (by decide), uI_k (by decide), uN_I]
end CSX
section CSM
variable {yA : AW} {yk yn : Int32} {yt : Nat}
theorem cM_low {yc : Nat} (h1 : yc ≠ 89) (h2 : yc ≠ 90) (h3 : yc ≠ 91) (h4 : yc ≠ 93) (h5 : yc ≠ 69) (yj : Nat) : (costM yA yk yn).1 yc yj = yA.1 yc yj := by
  unfold costM
  rw [uI_c h5, uI_c h4, uI_c h3, uI_c h2, uI_c h2, uI_c h2, uI_c h2, uI_c h2, uI_c h2, uI_c h2, uI_c h1]
theorem cM_69 {yj : Nat} : (costM yA yk yn).1 69 yj = if yj = 31 then yA.1 69 31 + 1 else yA.1 69 yj := by
  unfold costM
  simp [uI]
theorem cM_89 {yj : Nat} (ht : (yA.1 69 31).toInt.toNat = yt) : (costM yA yk yn).1 89 yj = if yj = yt then yk else yA.1 89 yj := by
  unfold costM
  simp [uI, ht]
theorem cM_91 {yj : Nat} (ht : (yA.1 69 31).toInt.toNat = yt) : (costM yA yk yn).1 91 yj = if yj = yt then yn else yA.1 91 yj := by
  unfold costM
  simp [uI, ht]
theorem cM_93 {yj : Nat} (ht : (yA.1 69 31).toInt.toNat = yt) : (costM yA yk yn).1 93 yj = if yj = yt then -1 else yA.1 93 yj := by
  unfold costM
  simp [uI, ht]
theorem i7n {T yi : Int32} {yt yq : Nat} (h1 : 0 ≤ T.toInt) (h2 : T.toInt < 150) (ht : T.toInt.toNat = yt) (h3 : 0 ≤ yi.toInt) (h4 : yi.toInt < 7) (hq : yi.toInt.toNat = yq) : (7 * T + yi).toInt.toNat = 7 * yt + yq := by
  rw [ix7 h1 h2 h3 h4]
  omega
theorem cM_90 {yj : Nat} (h1 : 0 ≤ (yA.1 69 31).toInt) (h2 : (yA.1 69 31).toInt < 150) (ht : (yA.1 69 31).toInt.toNat = yt) : (costM yA yk yn).1 90 yj = if yj = 7 * yt + 6 then yA.1 88 6 else if yj = 7 * yt + 5 then yA.1 88 5 else if yj = 7 * yt + 4 then yA.1 88 4 else if yj = 7 * yt + 3 then yA.1 88 3 else if yj = 7 * yt + 2 then yA.1 88 2 else if yj = 7 * yt + 1 then yA.1 88 1 else if yj = 7 * yt then yA.1 88 0 else yA.1 90 yj := by
  unfold costM
  rw [i7n (yq := 0) h1 h2 ht (by decide) (by decide) (by decide), i7n (yq := 1) h1 h2 ht (by decide) (by decide) (by decide), i7n (yq := 2) h1 h2 ht (by decide) (by decide) (by decide), i7n (yq := 3) h1 h2 ht (by decide) (by decide) (by decide), i7n (yq := 4) h1 h2 ht (by decide) (by decide) (by decide), i7n (yq := 5) h1 h2 ht (by decide) (by decide) (by decide), i7n (yq := 6) h1 h2 ht (by decide) (by decide) (by decide)]
  simp [uI]
theorem cM_O : (costM yA yk yn).2.2.1 = yA.2.2.1 := rfl
end CSM
/-- ya yrow of the class and the reference's numbers of it -/
def rowR (yA : AW) (ya yc : Nat) : Prop := yA.1 ya 0 = Int32.ofNat yc ∧ yA.1 ya 1 = yA.1 89 yc ∧ yA.1 ya 2 = yA.1 91 yc ∧ yA.1 ya 3 = isUx (yA.1 89 yc) 2 ∧ yA.1 ya 4 = yA.1 90 (7 * yc) ∧ yA.1 ya 5 = yA.1 90 (7 * yc + 1) ∧ yA.1 ya 6 = yA.1 90 (7 * yc + 2) ∧ yA.1 ya 7 = yA.1 90 (7 * yc + 3) ∧ yA.1 ya 8 = yA.1 90 (7 * yc + 4) ∧ yA.1 ya 9 = yA.1 90 (7 * yc + 5) ∧ yA.1 ya 10 = yA.1 90 (7 * yc + 6) ∧ yA.1 ya 11 = yA.1 93 yc ∧ yA.1 ya 12 = yA.1 92 yc ∧ 1 ≤ (yA.1 89 yc).toInt ∧ (yA.1 89 yc).toInt ≤ 6
def RZc (yA : AW) : Prop := (∀ yc, yc < cT yA → ∃ ya, yA.2.2.1 31 yc = some ya ∧ 129 ≤ ya ∧ ya < yA.2.2.2.2 ∧ rowR yA ya yc) ∧ (∀ yc yd ya, yc < cT yA → yd < cT yA → yA.2.2.1 31 yc = some ya → yA.2.2.1 31 yd = some ya → yc = yd) ∧ (∀ yc, cT yA ≤ yc → yc < 150 → yA.1 92 yc = 0) ∧ yA.1 30 5 = audM yA (-1)
def Fc : zRF := [((1, 3), (69, 7)), ((5, 6), (69, 11)), ((12, 7), (69, 13)), ((0, 10), (69, 0)), ((30, 4), (69, 31))]
def Arc : zRA := [(7, 77), (32, 88)]
/-! what keeps it -/
def kRc (ywr : zWr) : Bool := kpS ([(69, 31), (30, 5)], [31, 89, 90, 91, 92, 93]) ywr && (List.range 13).all (fun yk => !(z_wr ywr 2 yk))
theorem cost_keep {ywr : zWr} {yw yw1 : mWd} (hf : fR ywr yw yw1) (hk : (List.range 13).all (fun yk => !(z_wr ywr 2 yk)) = true) {ya : Nat} (yha : wC yw ya) {yk : Nat} (hk13 : yk < 13) : (aw yw1).1 ya yk = (aw yw).1 ya yk := by
  obtain ⟨-, yc, h2, h3⟩ := yha
  obtain ⟨fs, ye1, ye2⟩ := shp_obj h3
  subst ye1
  obtain ⟨c', yd1, -, yd3, -⟩ := hf _ _ h2
  obtain ⟨fs', ye3, ye4⟩ := yd3 2 fs rfl
  subst ye3
  have hz := List.all_eq_true.mp hk yk (List.mem_range.mpr hk13)
  rw [Bool.not_eq_true'] at hz
  rw [(aw_at h2).1, (aw_at yd1).1]
  show (match fs'[yk]? with | some (.int yx) => yx | _ => 0) = (match fs[yk]? with | some (.int yx) => yx | _ => 0)
  rw [ye4 yk hz]
theorem row_wC {yw : mWd} (hW : WI zZ yw) {yc ya : Nat} (yhc : yc < 150) (yh : (aw yw).2.2.1 31 yc = some ya) : wC yw ya := by
  have hz : zZ.1[31]? = some (1, 3, 150, [(3, 0, 0)]) := by rfl
  obtain ⟨ye, ye1, ye2, ye3⟩ := WI_arr hW hz
  have hx := ye3 yc yhc
  obtain ⟨yf, hf⟩ : ∃ yf, ye = .inr (.inr (.inr (.inr yf))) := by
    unfold shp at ye2
    split at ye2
    all_goals first
      | (cases ye2; done)
      | (rename_i yf hq; cases hq; exact ⟨_, rfl⟩)
  subst hf
  rw [(aw_at ye1).2.2.1] at yh
  have h' : yf yc = some ya := yh
  have hx' : okV yw (3, 0, 0) (m_opt yf yc) := hx
  unfold m_opt at hx'
  rw [h'] at hx'
  rcases hx' with hx' | ⟨yi, yhi, hw⟩
  · cases hx'
  · cases yhi; exact hw
theorem RZc_keep : Keeps RZc kRc := by
  intro ywr yw yw1 hW hW1 hf hk yh
  unfold kRc at hk
  rw [Bool.and_eq_true] at hk
  have hs := kpS_ok hW hf hk.1
  have yf1 := hs.1 (69, 31) (by simp)
  have yf2 := hs.1 (30, 5) (by simp)
  have a31 := (hs.2 31 (by simp)).2.2
  have a89 := (hs.2 89 (by simp)).1
  have a90 := (hs.2 90 (by simp)).1
  have a91 := (hs.2 91 (by simp)).1
  have a92 := (hs.2 92 (by simp)).1
  have a93 := (hs.2 93 (by simp)).1
  simp only at yf1 yf2
  have yhT : cT (aw yw1) = cT (aw yw) := by unfold cT; rw [yf1]
  have hT2 : cT (aw yw) ≤ 150 := by
    have := (rg_fld hW (i := 69) (k := 31) (lo := 0) (hi := 150) (by decide +kernel)).2
    unfold cT; omega
  have hlen : (aw yw).2.2.2.2 ≤ (aw yw1).2.2.2.2 := by
    show yw.length ≤ yw1.length
    rcases Nat.lt_or_ge yw1.length yw.length with yq | yq
    · obtain ⟨c', h1, -⟩ := hf yw1.length _ (List.getElem?_eq_getElem yq)
      have := (List.getElem?_eq_some_iff.mp h1).1
      omega
    · exact yq
  obtain ⟨yr1, r2, r3, r4⟩ := yh
  refine ⟨?_, ?_, ?_, ?_⟩
  · intro yc yhc
    rw [yhT] at yhc
    obtain ⟨ya, b1, b2, b3, b4⟩ := yr1 yc yhc
    have hw := row_wC hW (by omega) b1
    refine ⟨ya, by rw [← a31]; exact b1, b2, by omega, ?_⟩
    unfold rowR at b4 ⊢
    rw [cost_keep hf hk.2 hw (by decide), cost_keep hf hk.2 hw (by decide), cost_keep hf hk.2 hw (by decide), cost_keep hf hk.2 hw (by decide), cost_keep hf hk.2 hw (by decide), cost_keep hf hk.2 hw (by decide), cost_keep hf hk.2 hw (by decide), cost_keep hf hk.2 hw (by decide), cost_keep hf hk.2 hw (by decide), cost_keep hf hk.2 hw (by decide), cost_keep hf hk.2 hw (by decide), cost_keep hf hk.2 hw (by decide), cost_keep hf hk.2 hw (by decide), ← a89, ← a90, ← a91, ← a92, ← a93]
    exact b4
  · intro yc yd ya yhc yhd
    rw [yhT] at yhc yhd
    rw [← a31]
    exact r2 yc yd ya yhc yhd
  · intro yc yhc
    rw [yhT] at yhc
    rw [← a92]
    exact r3 yc yhc
  · rw [← yf2, r4]
    unfold audM audF
    rw [yhT, ← a90, ← a93]
