/-! COST keeps what is equal -/
theorem okA.nil {yA : AW} (yh : okA yA) {yc yk : Nat} (yhc : yA.2.2.2.2 ≤ yc) : yA.1 yc yk = 0 := by
  obtain ⟨yw, hW, rfl⟩ := yh
  show (match yw[yc]? with | some ye => cI ye yk | none => 0) = 0
  rw [List.getElem?_eq_none yhc]
theorem okCo_eq {yA : AW} {yk yn : Int32} (hF : eqF Fc yA) (hR : eqRs Arc yA) (hA : okA yA) : okCoX yA yk yn ↔ okCoM yA yk yn := by
  have yf1 := hF ((1, 3), (69, 7)) (by simp [Fc])
  have yf2 := hF ((5, 6), (69, 11)) (by simp [Fc])
  have yf3 := hF ((12, 7), (69, 13)) (by simp [Fc])
  have yf4 := hF ((0, 10), (69, 0)) (by simp [Fc])
  simp only at yf1 yf2 yf3 yf4
  have r7 : eqR 20 (7, 77) yA := hR (7, 77) (by simp [Arc]) 20 (by decide +kernel)
  have r32 : eqR 7 (32, 88) yA := hR (32, 88) (by simp [Arc]) 7 (by decide +kernel)
  have yg := (hA.fld (i := 69) (k := 11) (lo := 0) (hi := 20) (by decide +kernel)).2
  have ys0 : yA.1 32 0 = yA.1 88 0 := r32 0 (by decide)
  have ys1 : yA.1 32 1 = yA.1 88 1 := r32 1 (by decide)
  have ys2 : yA.1 32 2 = yA.1 88 2 := r32 2 (by decide)
  have ys3 : yA.1 32 3 = yA.1 88 3 := r32 3 (by decide)
  have ys4 : yA.1 32 4 = yA.1 88 4 := r32 4 (by decide)
  have s5 : yA.1 32 5 = yA.1 88 5 := r32 5 (by decide)
  have ys6 : yA.1 32 6 = yA.1 88 6 := r32 6 (by decide)
  unfold okCoX okCoM
  rw [ys0, ys1, ys2, ys3, ys4, s5, ys6, yf1, yf2, yf3, yf4]
  by_cases hs : 0 ≤ (yA.1 88 0).toInt ∧ (yA.1 88 0).toInt < (yA.1 69 11).toInt
  · rw [show yA.1 7 (yA.1 88 0).toInt.toNat = yA.1 77 (yA.1 88 0).toInt.toNat from r7 _ (by omega)]
  · constructor
    · intro yh; exact absurd ⟨yh.2.2.2.2.1, yh.2.2.2.2.2.1⟩ hs
    · intro yh; exact absurd ⟨yh.2.2.2.2.1, yh.2.2.2.2.2.1⟩ hs
theorem ofN {T : Int32} {yt : Nat} (h0 : 0 ≤ T.toInt) (yh : T.toInt.toNat = yt) : T = Int32.ofNat yt := by
  apply i32_ext
  rw [i32_nat (by have := (i32_b T).2; omega)]
  omega
theorem k_cost {yA A1 A2 : AW} {yk yn yx yy : Int32} (hA : okA yA) (hF : eqF Fc yA) (hR : eqRs Arc yA) (hX : RZc yA) (ys1 : dCost yk yn yA (some (.int yx)) A1) (ys2 : eCost yk yn A1 (some (.int yy)) A2) : eqF Fc A2 ∧ eqRs Arc A2 ∧ RZc A2 ∧ yx = yy := by
  have hok := okCo_eq (yk := yk) (yn := yn) hF hR hA
  have yf5 := hF ((30, 4), (69, 31)) (by simp [Fc])
  simp only at yf5
  rcases ys1 with ⟨ya1, a2, rfl⟩ | ⟨ya1, a2, a3, rfl⟩ | ⟨ya1, a2, a3, a4, ya, yha, hg, rfl⟩
  · rcases ys2 with ⟨b1, b2, rfl⟩ | ⟨b1, b2, b3, rfl⟩ | ⟨b1, b2, b3, b4, rfl⟩
    · exact ⟨hF, hR, hX, by rw [some_int a2, some_int b2]⟩
    · exact absurd (hok.mpr b1) ya1
    · exact absurd (hok.mpr b1) ya1
  · rcases ys2 with ⟨b1, b2, rfl⟩ | ⟨b1, b2, b3, rfl⟩ | ⟨b1, b2, b3, b4, rfl⟩
    · exact absurd (hok.mp ya1) b1
    · exact ⟨hF, hR, hX, by rw [some_int a3, some_int b3]⟩
    · rw [yf5] at a2; omega
  · have h30 : ya ≠ 30 := by omega
    have h34 : ya ≠ 34 := by omega
    have ylow : ∀ yc yj, yc < 129 → yc ≠ 30 → yc ≠ 34 → (costX yA ya yk yn).1 yc yj = yA.1 yc yj := fun yc yj yhc yq1 yq2 => cX_low yq1 yq2 (by omega) yj
    have hokM : okCoM (costX yA ya yk yn) yk yn ↔ okCoM yA yk yn := by
      unfold okCoM
      rw [ylow 88 0 (by decide) (by decide) (by decide), ylow 88 1 (by decide) (by decide) (by decide), ylow 88 2 (by decide) (by decide) (by decide), ylow 88 3 (by decide) (by decide) (by decide), ylow 88 4 (by decide) (by decide) (by decide), ylow 88 5 (by decide) (by decide) (by decide), ylow 88 6 (by decide) (by decide) (by decide), ylow 69 11 (by decide) (by decide) (by decide), ylow 77 _ (by decide) (by decide) (by decide), ylow 69 0 (by decide) (by decide) (by decide), ylow 69 7 (by decide) (by decide) (by decide), ylow 69 13 (by decide) (by decide) (by decide)]
    have ye31 := ylow 69 31 (by decide) (by decide) (by decide)
    rcases ys2 with ⟨b1, b2, rfl⟩ | ⟨b1, b2, b3, rfl⟩ | ⟨b1, b2, b3, b4, rfl⟩
    · exact absurd (hokM.mpr (hok.mp ya1)) b1
    · rw [ye31, ← yf5] at b2; omega
    · rw [ye31] at b2 b3 b4
      have hco := hok.mp ya1
      obtain ⟨yt, ht⟩ : ∃ yt, (yA.1 69 31).toInt.toNat = yt := ⟨_, rfl⟩
      have htc : cT yA = yt := ht
      have ht1 : ((costX yA ya yk yn).1 69 31).toInt.toNat = yt := by rw [ye31]; exact ht
      have ht9 : yt < 150 := by omega
      have hT1 : (yA.1 69 31 + 1).toInt = (yA.1 69 31).toInt + 1 := i32_add1 (by omega)
      -- the world behind both, ytold over yA
      have lowM : ∀ yc yj, yc < 129 → yc ≠ 30 → yc ≠ 34 → yc ≠ 89 → yc ≠ 90 → yc ≠ 91 → yc ≠ 93 → yc ≠ 69 → (costM (costX yA ya yk yn) yk yn).1 yc yj = yA.1 yc yj := fun yc yj q0 yq1 yq2 yq3 yq4 yq5 yq6 yq7 => by
        rw [cM_low yq3 yq4 yq5 yq6 yq7, ylow yc yj q0 yq1 yq2]
      have m69 : ∀ yj, (costM (costX yA ya yk yn) yk yn).1 69 yj = if yj = 31 then yA.1 69 31 + 1 else yA.1 69 yj := fun yj => by
        rw [cM_69, ylow 69 31 (by decide) (by decide) (by decide), ylow 69 yj (by decide) (by decide) (by decide)]
      have m89 : ∀ yj, (costM (costX yA ya yk yn) yk yn).1 89 yj = if yj = yt then yk else yA.1 89 yj := fun yj => by
        rw [cM_89 ht1, ylow 89 yj (by decide) (by decide) (by decide)]
      have m91 : ∀ yj, (costM (costX yA ya yk yn) yk yn).1 91 yj = if yj = yt then yn else yA.1 91 yj := fun yj => by
        rw [cM_91 ht1, ylow 91 yj (by decide) (by decide) (by decide)]
      have m93 : ∀ yj, (costM (costX yA ya yk yn) yk yn).1 93 yj = if yj = yt then -1 else yA.1 93 yj := fun yj => by
        rw [cM_93 ht1, ylow 93 yj (by decide) (by decide) (by decide)]
      have m90 : ∀ yj, (costM (costX yA ya yk yn) yk yn).1 90 yj = if yj = 7 * yt + 6 then yA.1 88 6 else if yj = 7 * yt + 5 then yA.1 88 5 else if yj = 7 * yt + 4 then yA.1 88 4 else if yj = 7 * yt + 3 then yA.1 88 3 else if yj = 7 * yt + 2 then yA.1 88 2 else if yj = 7 * yt + 1 then yA.1 88 1 else if yj = 7 * yt then yA.1 88 0 else yA.1 90 yj := fun yj => by
        rw [cM_90 (by rw [ye31]; exact b3) (by rw [ye31]; exact b2) ht1]
        rw [ylow 88 0 (by decide) (by decide) (by decide), ylow 88 1 (by decide) (by decide) (by decide), ylow 88 2 (by decide) (by decide) (by decide), ylow 88 3 (by decide) (by decide) (by decide), ylow 88 4 (by decide) (by decide) (by decide), ylow 88 5 (by decide) (by decide) (by decide), ylow 88 6 (by decide) (by decide) (by decide), ylow 90 yj (by decide) (by decide) (by decide)]
      have m30 : ∀ yj, yj = 4 ∨ yj = 5 → (costM (costX yA ya yk yn) yk yn).1 30 yj = if yj = 4 then yA.1 30 4 + 1 else yA.1 30 5 := fun yj hj => by
        rw [cM_low (by decide) (by decide) (by decide) (by decide) (by decide)]
        rcases hj with rfl | rfl
        · rw [(cX_30 (by omega)).1]; rfl
        · rw [(cX_30 (by omega)).2]; rfl
      have mO : ∀ yc, (costM (costX yA ya yk yn) yk yn).2.2.1 31 yc = if yc = yt then some ya else yA.2.2.1 31 yc := fun yc => by
        rw [cM_O, cX_O, yf5, ht]
      have ymn : (costM (costX yA ya yk yn) yk yn).2.2.2.2 = yA.2.2.2.2 + 1 := rfl
      have mR : ∀ yb yj, 129 ≤ yb → yb ≠ ya → (costM (costX yA ya yk yn) yk yn).1 yb yj = yA.1 yb yj := fun yb yj yq1 yq2 => by
        rw [cM_low (by omega) (by omega) (by omega) (by omega) (by omega), cX_low (by omega) (by omega) yq2]
      have mA : ∀ yj, (costM (costX yA ya yk yn) yk yn).1 ya yj = (costX yA ya yk yn).1 ya yj := fun yj => cM_low (by omega) (by omega) (by omega) (by omega) (by omega) yj
      have hcT : cT (costM (costX yA ya yk yn) yk yn) = yt + 1 := by
        unfold cT
        rw [m69, if_pos rfl, hT1]
        omega
      generalize costM (costX yA ya yk yn) yk yn = yB at *
      obtain ⟨yr1, r2, r3, r4⟩ := hX
      rw [htc] at yr1 r2 r3
      have r32 : eqR 7 (32, 88) yA := hR (32, 88) (by simp [Arc]) 7 (by decide +kernel)
      refine ⟨?_, ?_, ⟨?_, ?_, ?_, ?_⟩, by rw [some_int a4, some_int b4, yf5]⟩
      · intro yq hq
        have hq0 := hF yq hq
        simp only [Fc, List.mem_cons, List.not_mem_nil, or_false] at hq
        rcases hq with rfl | rfl | rfl | rfl | rfl
        · show yB.1 1 3 = yB.1 69 7
          rw [lowM 1 3 (by decide) (by decide) (by decide) (by decide) (by decide) (by decide) (by decide) (by decide), m69]
          exact hq0
        · show yB.1 5 6 = yB.1 69 11
          rw [lowM 5 6 (by decide) (by decide) (by decide) (by decide) (by decide) (by decide) (by decide) (by decide), m69]
          exact hq0
        · show yB.1 12 7 = yB.1 69 13
          rw [lowM 12 7 (by decide) (by decide) (by decide) (by decide) (by decide) (by decide) (by decide) (by decide), m69]
          exact hq0
        · show yB.1 0 10 = yB.1 69 0
          rw [lowM 0 10 (by decide) (by decide) (by decide) (by decide) (by decide) (by decide) (by decide) (by decide), m69]
          exact hq0
        · show yB.1 30 4 = yB.1 69 31
          rw [m30 4 (.inl rfl), m69, if_pos rfl, if_pos rfl, yf5]
      · intro yq hq ym yhm yj hj
        have hq0 := hR yq hq ym yhm yj hj
        simp only [Arc, List.mem_cons, List.not_mem_nil, or_false] at hq
        rcases hq with rfl | rfl
        · show yB.1 7 yj = yB.1 77 yj
          rw [lowM 7 yj (by decide) (by decide) (by decide) (by decide) (by decide) (by decide) (by decide) (by decide), lowM 77 yj (by decide) (by decide) (by decide) (by decide) (by decide) (by decide) (by decide) (by decide)]
          exact hq0
        · show yB.1 32 yj = yB.1 88 yj
          rw [lowM 32 yj (by decide) (by decide) (by decide) (by decide) (by decide) (by decide) (by decide) (by decide), lowM 88 yj (by decide) (by decide) (by decide) (by decide) (by decide) (by decide) (by decide) (by decide)]
          exact hq0
      · intro yc yhc
        rw [hcT] at yhc
        by_cases hct : yc = yt
        · refine ⟨ya, by rw [mO, if_pos hct], hg, by rw [ymn, ← yha]; omega, ?_⟩
          subst hct
          unfold rowR
          rw [mA, mA, mA, mA, mA, mA, mA, mA, mA, mA, mA, mA, mA]
          rw [cX_f0 h30 h34, cX_f1 h30 h34, cX_f2 h30 h34, cX_f3 h30 h34, cX_f4 h30 h34, cX_f5 h30 h34, cX_f6 h30 h34, cX_f7 h30 h34, cX_f8 h30 h34, cX_f9 h30 h34, cX_f10 h30 h34, cX_f11 h30 h34, cX_f12 h30 h34]
          rw [m89, if_pos rfl, m91, if_pos rfl, m93, if_pos rfl, lowM 92 yc (by decide) (by decide) (by decide) (by decide) (by decide) (by decide) (by decide) (by decide), r3 yc (Nat.le_refl _) ht9, hA.nil (show yA.2.2.2.2 ≤ ya by omega)]
          rw [m90, m90, m90, m90, m90, m90, m90]
          have yt0 : yA.1 32 0 = yA.1 88 0 := r32 0 (by decide)
          have yt1 : yA.1 32 1 = yA.1 88 1 := r32 1 (by decide)
          have yt2 : yA.1 32 2 = yA.1 88 2 := r32 2 (by decide)
          have yt3 : yA.1 32 3 = yA.1 88 3 := r32 3 (by decide)
          have yt4 : yA.1 32 4 = yA.1 88 4 := r32 4 (by decide)
          have yt5 : yA.1 32 5 = yA.1 88 5 := r32 5 (by decide)
          have t6 : yA.1 32 6 = yA.1 88 6 := r32 6 (by decide)
          refine ⟨ofN a3 (by rw [yf5]; exact ht), rfl, rfl, rfl, ?_, ?_, ?_, ?_, ?_, ?_, ?_, rfl, rfl, hco.1, hco.2.1⟩
          · rw [if_neg (by omega), if_neg (by omega), if_neg (by omega), if_neg (by omega), if_neg (by omega), if_neg (by omega), if_pos rfl, yt0]
          · rw [if_neg (by omega), if_neg (by omega), if_neg (by omega), if_neg (by omega), if_neg (by omega), if_pos rfl, yt1]
          · rw [if_neg (by omega), if_neg (by omega), if_neg (by omega), if_neg (by omega), if_pos rfl, yt2]
          · rw [if_neg (by omega), if_neg (by omega), if_neg (by omega), if_pos rfl, yt3]
          · rw [if_neg (by omega), if_neg (by omega), if_pos rfl, yt4]
          · rw [if_neg (by omega), if_pos rfl, yt5]
          · rw [if_pos rfl, t6]
        · obtain ⟨yb, yq1, yq2, yq3, yq4⟩ := yr1 yc (by omega)
          refine ⟨yb, by rw [mO, if_neg hct]; exact yq1, yq2, by rw [ymn]; omega, ?_⟩
          have hba : yb ≠ ya := by omega
          have n90 : ∀ yi, yi < 7 → yB.1 90 (7 * yc + yi) = yA.1 90 (7 * yc + yi) := fun yi yhi => by
            rw [m90, if_neg (by omega), if_neg (by omega), if_neg (by omega), if_neg (by omega), if_neg (by omega), if_neg (by omega), if_neg (by omega)]
          unfold rowR at yq4 ⊢
          rw [mR yb _ yq2 hba, mR yb _ yq2 hba, mR yb _ yq2 hba, mR yb _ yq2 hba, mR yb _ yq2 hba, mR yb _ yq2 hba, mR yb _ yq2 hba, mR yb _ yq2 hba, mR yb _ yq2 hba, mR yb _ yq2 hba, mR yb _ yq2 hba, mR yb _ yq2 hba, mR yb _ yq2 hba]
          rw [m89, if_neg hct, m91, if_neg hct, m93, if_neg hct, lowM 92 yc (by decide) (by decide) (by decide) (by decide) (by decide) (by decide) (by decide) (by decide)]
          rw [show yB.1 90 (7 * yc) = yA.1 90 (7 * yc) from n90 0 (by decide), n90 1 (by decide), n90 2 (by decide), n90 3 (by decide), n90 4 (by decide), n90 5 (by decide), n90 6 (by decide)]
          exact yq4
      · intro yc yd ye yhc yhd h1 h2
        rw [hcT] at yhc yhd
        rw [mO] at h1 h2
        by_cases hct : yc = yt
        · by_cases hdt : yd = yt
          · omega
          · rw [if_pos hct] at h1
            rw [if_neg hdt] at h2
            obtain ⟨yb, yq1, yq2, yq3, yq4⟩ := yr1 yd (by omega)
            rw [yq1] at h2
            cases h1
            cases h2
            omega
        · rw [if_neg hct] at h1
          by_cases hdt : yd = yt
          · rw [if_pos hdt] at h2
            obtain ⟨yb, yq1, yq2, yq3, yq4⟩ := yr1 yc (by omega)
            rw [yq1] at h1
            cases h1
            cases h2
            omega
          · rw [if_neg hdt] at h2
            exact r2 yc yd ye (by omega) (by omega) h1 h2
      · intro yc yhc h9
        rw [hcT] at yhc
        rw [lowM 92 yc (by decide) (by decide) (by decide) (by decide) (by decide) (by decide) (by decide) (by decide)]
        exact r3 yc (by omega) h9
      · rw [m30 5 (.inr rfl), if_neg (by decide), r4]
        unfold audM
        rw [hcT, htc]
        show _ = sumN (audF yB (-1)) yt + audF yB (-1) yt
        have hz : audF yB (-1) yt = 0 := if_neg (fun yq => by
          have yq2 := yq.2
          rw [m93, if_pos rfl] at yq2
          exact absurd yq2 (by decide))
        rw [hz, Int32.add_zero]
        refine sumN_congr (fun yj hj => ?_)
        have ye90 : yB.1 90 (7 * yj) = yA.1 90 (7 * yj) := by
          rw [m90, if_neg (by omega), if_neg (by omega), if_neg (by omega), if_neg (by omega), if_neg (by omega), if_neg (by omega), if_neg (by omega)]
        unfold audF
        rw [m93, if_neg (show yj ≠ yt by omega), ye90]
