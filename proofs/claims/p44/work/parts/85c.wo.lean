/-! yA WHOLE TEXT WORKED OUT BY THE REFERENCE -/
/-- what codes of ya whole ytext give: the value of the first line that holds, and which it is -/
def rnX (yenv : Nat → Int32) : List Int32 → Bool → List Int32 → Nat → Option (Int32 × Nat)
  | [], _, _, _ => none
  | yx :: yr, true, yst, ln => rnX yenv yr (decide (yx.toInt ≠ -59)) yst ln
  | yx :: yr, false, yst, ln => if yx.toInt = -59 then some (yst.headD 0, ln) else if yx.toInt = -63 then (if (yst.headD 0).toInt = 0 then rnX yenv yr true yst.tail (ln + 1) else rnX yenv yr false yst.tail ln) else rnX yenv yr false (ev1 yenv yst yx) ln
def cdOk (yx : Int32) : Prop := yx.toInt ≠ -59 ∧ yx.toInt ≠ -63
theorem rnX_run {yenv : Nat → Int32} : ∀ (cs yr yst : List Int32) (ln : Nat), (∀ yx ∈ cs, cdOk yx) → rnX yenv (cs ++ yr) false yst ln = rnX yenv yr false (evs yenv yst cs) ln
  | [], _, _, _, _ => rfl
  | yx :: cs, yr, yst, ln, yh => by
    obtain ⟨h1, h2⟩ := yh yx List.mem_cons_self
    show (if yx.toInt = -59 then _ else if yx.toInt = -63 then _ else rnX yenv (cs ++ yr) false (ev1 yenv yst yx) ln) = _
    rw [if_neg h1, if_neg h2, rnX_run cs yr _ ln (fun yy hy => yh yy (List.mem_cons_of_mem _ hy)), evs_cons]
theorem rnX_skip {yenv : Nat → Int32} : ∀ (cs yr yst : List Int32) (ln : Nat), (∀ yx ∈ cs, cdOk yx) → rnX yenv (cs ++ -59 :: yr) true yst ln = rnX yenv yr false yst ln
  | [], yr, yst, ln, _ => by
    show rnX yenv yr (decide ((-59 : Int32).toInt ≠ -59)) yst ln = _
    rw [show decide ((-59 : Int32).toInt ≠ -59) = false from by decide]
  | yx :: cs, yr, yst, ln, yh => by
    show rnX yenv (cs ++ -59 :: yr) (decide (yx.toInt ≠ -59)) yst ln = _
    rw [decide_eq_true (yh yx List.mem_cons_self).1]
    exact rnX_skip cs yr yst ln (fun yy hy => yh yy (List.mem_cons_of_mem _ hy))
theorem rnX_end {yenv : Nat → Int32} {yv : Int32} {yr yst : List Int32} {ln : Nat} : rnX yenv (-59 :: yr) false (yv :: yst) ln = some (yv, ln) := by
  show (if (-59 : Int32).toInt = -59 then _ else _) = _
  rw [if_pos (by decide)]
  rfl
theorem rnX_q0 {yenv : Nat → Int32} {yv : Int32} {yr yst : List Int32} {ln : Nat} (yh : yv.toInt = 0) : rnX yenv (-63 :: yr) false (yv :: yst) ln = rnX yenv yr true yst (ln + 1) := by
  show (if (-63 : Int32).toInt = -59 then _ else if (-63 : Int32).toInt = -63 then (if yv.toInt = 0 then rnX yenv yr true yst (ln + 1) else rnX yenv yr false yst ln) else _) = _
  rw [if_neg (by decide), if_pos (by decide), if_pos yh]
theorem rnX_q1 {yenv : Nat → Int32} {yv : Int32} {yr yst : List Int32} {ln : Nat} (yh : yv.toInt ≠ 0) : rnX yenv (-63 :: yr) false (yv :: yst) ln = rnX yenv yr false yst ln := by
  show (if (-63 : Int32).toInt = -59 then _ else if (-63 : Int32).toInt = -63 then (if yv.toInt = 0 then rnX yenv yr true yst (ln + 1) else rnX yenv yr false yst ln) else _) = _
  rw [if_neg (by decide), if_pos (by decide), if_neg yh]
/-! what is read holds no ends of lines -/
theorem rB_inv {yx : rRs} {yg : Nat → List Int32 → rRs} {yr : Nat × Option (List Int32)} (yh : rB yx yg = some yr) : (∃ yb cs, yx = some (yb, some cs) ∧ yg yb cs = some yr) ∨ (∃ yb, yr = (yb, none)) := by
  match yx, yh with
  | some (yb, some cs), yh => exact .inl ⟨yb, cs, rfl, yh⟩
  | some (yb, none), yh => exact .inr ⟨yb, by injection yh with yh; exact yh.symm⟩
  | none, yh => cases yh
theorem rB_cas {yx : rRs} {yg : Nat → List Int32 → rRs} {yr : Nat × Option (List Int32)} (yh : rB yx yg = some yr) : (∃ yb cs, yx = some (yb, some cs) ∧ yg yb cs = some yr) ∨ (∃ yb, yx = some (yb, none) ∧ yr = (yb, none)) := by
  match yx, yh with
  | some (yb, some cs), yh => exact .inl ⟨yb, cs, rfl, yh⟩
  | some (yb, none), yh => exact .inr ⟨yb, rfl, by injection yh with yh; exact yh.symm⟩
  | none, yh => cases yh
theorem cd_neg {yy : Int32} (h0 : 34 ≤ yy.toInt) (h1 : yy.toInt ≤ 255) (h2 : yy.toInt ≠ 59) (h3 : yy.toInt ≠ 63) : cdOk (-yy) := by
  have ye : (-yy).toInt = -yy.toInt := by
    rw [Int32.toInt_neg]
    exact z_bm0 ⟨by show (-2147483648 : Int) ≤ _; omega, by show _ ≤ (2147483647 : Int); omega⟩
  unfold cdOk
  omega
theorem nmC_le (ym : Int) : (nmC ym).toInt ≤ 9 := by
  unfold nmC
  repeat' split
  all_goals decide
theorem cd_nm {yy : Int32} (h0 : 0 ≤ (nmX yy).toInt) : cdOk (-1 - nmX yy) := by
  have h1 : (nmX yy).toInt ≤ 9 := nmC_le _
  have ye : (-1 - nmX yy).toInt = -1 - (nmX yy).toInt := i_subx (by rw [show (-1 : Int32).toInt = -1 from by decide]) (by omega) (by omega)
  unfold cdOk
  omega
theorem cd_all {cs ds : List Int32} (h1 : ∀ yx ∈ cs, cdOk yx) (h2 : ∀ yx ∈ ds, cdOk yx) : ∀ yx ∈ cs ++ ds, cdOk yx := fun yx hx => (List.mem_append.mp hx).elim (h1 yx) (h2 yx)
theorem cd_con {yy : Int32} {ds : List Int32} (h1 : cdOk yy) (h2 : ∀ yx ∈ ds, cdOk yx) : ∀ yx ∈ yy :: ds, cdOk yx := fun yx hx => by
  rcases List.mem_cons.mp hx with yq | yq
  · rw [yq]
    exact h1
  · exact h2 yx yq
theorem cd_nil : ∀ yx ∈ ([] : List Int32), cdOk yx := fun yx hx => nomatch hx
theorem pr_some {yb yd : Nat} {cs ds : List Int32} (yh : (some (yb, some cs) : rRs) = some (yd, some ds)) : cs = ds := by
  injection yh with yh
  injection yh with _ yh
  injection yh
theorem pr_none {yb yd : Nat} {ds : List Int32} (yh : (some (yb, none) : rRs) = some (yd, some ds)) : False := by
  injection yh with yh
  injection yh with _ yh
  cases yh
theorem rP_ok {T : Nat → Int32} {yn : Nat} : ∀ (yf ym o ya yb : Nat) (cs : List Int32), rP T yn yf ym o ya = some (yb, some cs) → ∀ yx ∈ cs, cdOk yx := by
  intro yf
  induction yf with
  | zero => intro ym o ya yb cs yh; cases yh
  | succ yf yih =>
    intro ym o ya yb cs yh
    rw [rP_s] at yh
    by_cases h1 : ym < 5
    · rw [rIf_1 h1] at yh
      rcases rB_inv yh with ⟨b1, yc1, ye1, yh⟩ | ⟨b1, yh⟩
      · rcases rB_inv yh with ⟨b2, yc2, ye2, yh⟩ | ⟨b2, yh⟩
        · rw [← pr_some yh]
          exact cd_all (yih _ _ _ _ _ ye1) (yih _ _ _ _ _ ye2)
        · cases yh
      · cases yh
    · rw [rIf_0 h1] at yh
      by_cases h2 : ym = 5
      · rw [rIf_1 h2] at yh
        by_cases h3 : 48 ≤ rdC T yn ya ∧ rdC T yn ya ≤ 57
        · rw [rIf_1 h3] at yh
          rw [← pr_some yh]
          have hz : 0 ≤ (rdN T yn 6 ya 0).2.toInt := rdN_n6
          exact cd_con ⟨by omega, by omega⟩ cd_nil
        · rw [rIf_0 h3] at yh
          by_cases h4 : ya < yn ∧ 0 ≤ (nmX (T ya)).toInt
          · rw [rIf_1 h4] at yh
            rw [← pr_some yh]
            exact cd_con (cd_nm h4.2) cd_nil
          · rw [rIf_0 h4] at yh
            by_cases h5 : rdC T yn ya = 33 ∧ o < 8
            · rw [rIf_1 h5] at yh
              rcases rB_inv yh with ⟨b1, yc1, ye1, yh⟩ | ⟨b1, yh⟩
              · rw [← pr_some yh]
                exact cd_all (yih _ _ _ _ _ ye1) (cd_con ⟨by decide, by decide⟩ cd_nil)
              · cases yh
            · rw [rIf_0 h5] at yh
              by_cases h6 : rdC T yn ya = 40 ∧ o < 8
              · rw [rIf_1 h6] at yh
                rcases rB_inv yh with ⟨b1, yc1, ye1, yh⟩ | ⟨b1, yh⟩
                · by_cases h7 : rdC T yn b1 = 41
                  · rw [rIf_1 h7] at yh
                    rw [← pr_some yh]
                    exact yih _ _ _ _ _ ye1
                  · rw [rIf_0 h7] at yh
                    exact (pr_none yh).elim
                · cases yh
              · rw [rIf_0 h6] at yh
                exact (pr_none yh).elim
      · rw [rIf_0 h2] at yh
        by_cases h3 : sgN ((ym : Int) - 10) (rdC T yn ya)
        · rw [rIf_1 h3] at yh
          have hlt : ya < yn := Classical.byContradiction (fun yq => by
            rw [rdC_out (by omega)] at h3
            unfold sgN at h3
            omega)
          rw [rdC_in hlt] at h3
          have hk : cdOk (-(T ya)) := by
            unfold sgN at h3
            exact cd_neg (by omega) (by omega) (by omega) (by omega)
          rcases rB_inv yh with ⟨b1, yc1, ye1, yh⟩ | ⟨b1, yh⟩
          · by_cases h4 : ym = 12
            · rw [rIf_1 h4] at yh
              rw [← pr_some yh]
              exact cd_all (yih _ _ _ _ _ ye1) (cd_con hk cd_nil)
            · rw [rIf_0 h4] at yh
              rcases rB_inv yh with ⟨b2, yc2, ye2, yh⟩ | ⟨b2, yh⟩
              · rw [← pr_some yh]
                exact cd_all (yih _ _ _ _ _ ye1) (cd_con hk (yih _ _ _ _ _ ye2))
              · cases yh
          · cases yh
        · rw [rIf_0 h3] at yh
          rw [← pr_some yh]
          exact cd_nil
theorem RP_ok {T : Nat → Int32} {yn ym o ya yb : Nat} {cs : List Int32} (yh : RP T yn ym o ya (yb, some cs)) : ∀ yx ∈ cs, cdOk yx := by
  obtain ⟨yf, yh⟩ := yh
  exact rP_ok yf _ _ _ _ _ yh
theorem rP_le {T : Nat → Int32} {yn : Nat} : ∀ (yf ym o ya yb : Nat) (yr : Option (List Int32)), ya ≤ yn → rP T yn yf ym o ya = some (yb, yr) → ya ≤ yb ∧ yb ≤ yn := by
  intro yf
  induction yf with
  | zero => intro ym o ya yb yr _ yh; cases yh
  | succ yf yih =>
    intro ym o ya yb yr yha yh
    rw [rP_s] at yh
    have sgl : ∀ {yc : Int}, rdC T yn ya = yc → yc ≠ -1 → ya < yn := fun {yc} yq yk => Classical.byContradiction (fun yz => yk (by rw [← yq, rdC_out (by omega)]))
    by_cases h1 : ym < 5
    · rw [rIf_1 h1] at yh
      rcases rB_cas yh with ⟨b1, yc1, ye1, yh⟩ | ⟨b1, ye1, yh⟩
      · have yk1 := yih _ _ _ _ _ yha ye1
        rcases rB_cas yh with ⟨b2, yc2, ye2, yh⟩ | ⟨b2, ye2, yh⟩
        · have yk2 := yih _ _ _ _ _ yk1.2 ye2
          injection yh with yh
          injection yh with yh _
          omega
        · have yk2 := yih _ _ _ _ _ yk1.2 ye2
          injection yh with yh _
          omega
      · have yk1 := yih _ _ _ _ _ yha ye1
        injection yh with yh _
        omega
    · rw [rIf_0 h1] at yh
      by_cases h2 : ym = 5
      · rw [rIf_1 h2] at yh
        by_cases h3 : 48 ≤ rdC T yn ya ∧ rdC T yn ya ≤ 57
        · rw [rIf_1 h3] at yh
          have yk := rdN_le (T := T) 6 ya 0 yha
          injection yh with yh
          injection yh with yh _
          omega
        · rw [rIf_0 h3] at yh
          by_cases h4 : ya < yn ∧ 0 ≤ (nmX (T ya)).toInt
          · rw [rIf_1 h4] at yh
            injection yh with yh
            injection yh with yh _
            omega
          · rw [rIf_0 h4] at yh
            by_cases h5 : rdC T yn ya = 33 ∧ o < 8
            · rw [rIf_1 h5] at yh
              have ha1 : ya < yn := sgl h5.1 (by decide)
              rcases rB_cas yh with ⟨b1, yc1, ye1, yh⟩ | ⟨b1, ye1, yh⟩
              · have yk1 := yih _ _ _ _ _ ha1 ye1
                injection yh with yh
                injection yh with yh _
                omega
              · have yk1 := yih _ _ _ _ _ ha1 ye1
                injection yh with yh _
                omega
            · rw [rIf_0 h5] at yh
              by_cases h6 : rdC T yn ya = 40 ∧ o < 8
              · rw [rIf_1 h6] at yh
                have ha1 : ya < yn := sgl h6.1 (by decide)
                rcases rB_cas yh with ⟨b1, yc1, ye1, yh⟩ | ⟨b1, ye1, yh⟩
                · have yk1 := yih _ _ _ _ _ ha1 ye1
                  by_cases h7 : rdC T yn b1 = 41
                  · have hb1 : b1 < yn := Classical.byContradiction (fun yz => by rw [rdC_out (by omega)] at h7; omega)
                    rw [rIf_1 h7] at yh
                    injection yh with yh
                    injection yh with yh _
                    omega
                  · rw [rIf_0 h7] at yh
                    injection yh with yh
                    injection yh with yh _
                    omega
                · have yk1 := yih _ _ _ _ _ ha1 ye1
                  injection yh with yh _
                  omega
              · rw [rIf_0 h6] at yh
                injection yh with yh
                injection yh with yh _
                omega
      · rw [rIf_0 h2] at yh
        by_cases h3 : sgN ((ym : Int) - 10) (rdC T yn ya)
        · rw [rIf_1 h3] at yh
          have hlt : ya < yn := Classical.byContradiction (fun yq => by
            rw [rdC_out (by omega)] at h3
            unfold sgN at h3
            omega)
          rcases rB_cas yh with ⟨b1, yc1, ye1, yh⟩ | ⟨b1, ye1, yh⟩
          · have yk1 := yih _ _ _ _ _ hlt ye1
            by_cases h4 : ym = 12
            · rw [rIf_1 h4] at yh
              injection yh with yh
              injection yh with yh _
              omega
            · rw [rIf_0 h4] at yh
              rcases rB_cas yh with ⟨b2, yc2, ye2, yh⟩ | ⟨b2, ye2, yh⟩
              · have yk2 := yih _ _ _ _ _ yk1.2 ye2
                injection yh with yh
                injection yh with yh _
                omega
              · have yk2 := yih _ _ _ _ _ yk1.2 ye2
                injection yh with yh _
                omega
          · have yk1 := yih _ _ _ _ _ hlt ye1
            injection yh with yh _
            omega
        · rw [rIf_0 h3] at yh
          injection yh with yh
          injection yh with yh _
          omega
theorem RP_le {T : Nat → Int32} {yn ym o ya yb : Nat} {yr : Option (List Int32)} (yh : RP T yn ym o ya (yb, yr)) (yha : ya ≤ yn) : ya ≤ yb := by
  obtain ⟨yf, yh⟩ := yh
  exact (rP_le yf _ _ _ _ _ yha yh).1
/-! lines and texts: what holds of the given and the line -/
def woS (yenv : Nat → Int32) (yg bl g2 bl2 : Int32) (li : Nat) (yL : List Int32) : Prop := (0 ≤ bl.toInt ∧ g2 = yg ∧ bl2 = bl) ∨ (bl = -1 ∧ bl2 = Int32.ofNat li ∧ ∀ yst ds, rnX yenv (yL ++ ds) false yst li = some (g2, li)) ∨ (bl = -1 ∧ bl2 = -1 ∧ g2 = yg ∧ ∀ yst, ∃ st', ∀ ds, rnX yenv (yL ++ ds) false yst li = rnX yenv ds false st' (li + 1))
def woR (yenv : Nat → Int32) (yg bl yw bl' : Int32) (li : Nat) (ds : List Int32) : Prop := (0 ≤ bl.toInt ∧ yw = yg ∧ bl' = bl) ∨ (bl = -1 ∧ ∀ yst, (∃ yk, yk ≤ li + ds.length ∧ rnX yenv ds false yst li = some (yw, yk) ∧ bl' = Int32.ofNat yk) ∨ (rnX yenv ds false yst li = none ∧ yw = yg ∧ bl' = -1))
theorem wo_m1 : ¬ 0 ≤ (-1 : Int32).toInt := by decide
theorem wo_li {li : Nat} (yh : li ≤ 160) : 0 ≤ (Int32.ofNat li).toInt := by
  rw [i32_nat (by omega)]
  omega
theorem woR_nil {yenv : Nat → Int32} {yg bl : Int32} {li : Nat} (yh : bl = -1 ∨ 0 ≤ bl.toInt) : woR yenv yg bl yg bl li [] := by
  rcases yh with yh | yh
  · exact .inr ⟨yh, fun yst => .inr ⟨rfl, rfl, yh⟩⟩
  · exact .inl ⟨yh, rfl, rfl⟩
theorem woS_bl {yenv : Nat → Int32} {yg bl g2 bl2 : Int32} {li : Nat} {yL : List Int32} (hl : li ≤ 160) (yh : woS yenv yg bl g2 bl2 li yL) : bl2 = -1 ∨ 0 ≤ bl2.toInt := by
  rcases yh with ⟨h1, h2, h3⟩ | ⟨h1, h2, h3⟩ | ⟨h1, h2, h3⟩
  · exact .inr (by rw [h3]; exact h1)
  · exact .inr (by rw [h2]; exact wo_li hl)
  · exact .inl h2
theorem wo_cmp {yenv : Nat → Int32} {yg bl g2 bl2 yw bl' : Int32} {li : Nat} {yL ds : List Int32} (hl : li ≤ 160) (hL : 1 ≤ yL.length) (yh : woS yenv yg bl g2 bl2 li yL) (hr : woR yenv g2 bl2 yw bl' (li + 1) ds) : woR yenv yg bl yw bl' li (yL ++ ds) := by
  rcases yh with ⟨h1, h2, h3⟩ | ⟨h1, h2, h3⟩ | ⟨h1, h2, h4, h3⟩
  · rcases hr with ⟨yr1, r2, r3⟩ | ⟨yr1, -⟩
    · exact .inl ⟨h1, by rw [r2, h2], by rw [r3, h3]⟩
    · rw [h3] at yr1
      rw [yr1] at h1
      exact absurd h1 wo_m1
  · rcases hr with ⟨yr1, r2, r3⟩ | ⟨yr1, -⟩
    · refine .inr ⟨h1, fun yst => .inl ⟨li, by omega, ?_, by rw [r3, h2]⟩⟩
      rw [r2]
      exact h3 yst ds
    · have h5 := wo_li hl
      rw [← h2, yr1] at h5
      exact absurd h5 wo_m1
  · rcases hr with ⟨yr1, -⟩ | ⟨yr1, r2⟩
    · rw [h2] at yr1
      exact absurd yr1 wo_m1
    · refine .inr ⟨h1, fun yst => ?_⟩
      obtain ⟨st', ye⟩ := h3 yst
      rcases r2 st' with ⟨yk, yk0, yk1, yk2⟩ | ⟨yk1, yk2, yk3⟩
      · exact .inl ⟨yk, by rw [List.length_append]; omega, by rw [ye, yk1], yk2⟩
      · exact .inr ⟨by rw [ye, yk1], by rw [yk2, h4], yk3⟩
/-- what working ya ytext yout leaves -/
def woQ (yA : AW) (yn : Nat) (lv0 yn30 l : Int32) (ya li : Nat) (yg bl : Int32) (yu : Option Value) (A1 : AW) : Prop := ∃ yw at' ft yop lv bl' yn3 wh, yu = some (.int yw) ∧ A1 = mW yA at' ft yop lv bl' yn3 wh ∧ lzI lv0 yn30 l lv yn3 ∧ ((∃ yd ds, RT (mT yA) yn ya (yd, some ds) ∧ ft = -1 ∧ woR (mEv yA l) yg bl yw bl' li ds) ∨ (∃ yd, RT (mT yA) yn ya (yd, none) ∧ yd ≤ yn ∧ ft = Int32.ofNat yd))
section WOS
variable {yA : AW} {yn : Nat} {lv0 yn30 l : Int32}
/-- no more lines: the reading is at ya fault, at the end, or before ya byte that can't stand there -/
theorem wo_stop (he : (yA.1 69 62).toInt = (yn : Int)) (hn2 : yn ≤ 160) {N ya yb li : Nat} {yg g2 bl bl2 yf nn yx yh lv yn3 yop : Int32} {wh : Nat → Int32} {yL : List Int32} (yr1 : RL (mT yA) yn ya (yb, some yL)) (hL : 1 ≤ yL.length) (yhb : yb ≤ yn) (hli : li ≤ 160) (hz : lzI lv0 yn30 l lv yn3) (yhS : woS (mEv yA l) yg bl g2 bl2 li yL) (h59 : ¬ rdC (mT yA) yn yb = 59) : Pa N 202 38 [(0, .ref 69), (1, .int yf), (2, .int nn), (3, .int g2), (4, .int (Int32.ofNat li + 1)), (5, .int 0), (6, .int yx), (7, .int yh)] [] (mW yA (Int32.ofNat yb) (-1) yop lv bl2 yn3 wh) (woQ yA yn lv0 yn30 l ya li yg bl) := by
  have eb : (Int32.ofNat yb).toInt = (yb : Int) := i32_nat (by omega)
  refine Pa.weak (N := N + 1) ?_ (Nat.le_succ N)
  refine bm_wol yf nn g2 _ 0 yx yh (fun _ yq => absurd yq rd_m1) (fun _ _ yq => ?_) (fun _ _ yq => ?_) (fun yq => absurd rd_z0 yq)
  · rw [mW_62, mW_61, he, eb] at yq
    refine ⟨g2, _, -1, yop, lv, bl2, yn3, wh, rfl, rfl, hz, .inl ⟨yb, yL ++ [], RT.ok yr1 (.inr (.inr ⟨h59, by omega, rfl⟩)), rfl, ?_⟩⟩
    exact wo_cmp hli hL yhS (woR_nil (woS_bl hli yhS))
  · rw [mW_62, mW_61, he, eb] at yq
    rw [mW_61, mW_ft]
    exact ⟨0, _, _, yop, lv, bl2, yn3, wh, rfl, rfl, hz, .inr ⟨yb, RT.no yr1 (.inr (.inl ⟨h59, by omega, rfl⟩)), yhb, rfl⟩⟩
theorem wo_bad {N ya yb li : Nat} {yg g2 bl bl2 yf nn yx yh lv yn3 yop at' li2 : Int32} {wh : Nat → Int32} (hn2 : yn ≤ 160) (yr1 : RL (mT yA) yn ya (yb, none)) (yhb : yb ≤ yn) (hz : lzI lv0 yn30 l lv yn3) : Pa N 202 38 [(0, .ref 69), (1, .int yf), (2, .int nn), (3, .int g2), (4, .int li2), (5, .int 0), (6, .int yx), (7, .int yh)] [] (mW yA at' (Int32.ofNat yb) yop lv bl2 yn3 wh) (woQ yA yn lv0 yn30 l ya li yg bl) := by
  refine Pa.weak (N := N + 1) ?_ (Nat.le_succ N)
  refine bm_wol yf nn g2 _ 0 yx yh (fun _ yq => ?_) (fun _ yq => absurd yq (on_nn yb (by omega))) (fun _ yq => absurd yq (on_nn yb (by omega))) (fun yq => absurd rd_z0 yq)
  exact ⟨g2, _, _, yop, lv, bl2, yn3, wh, rfl, rfl, hz, .inr ⟨yb, RT.n1 yr1, yhb, rfl⟩⟩
theorem wo_semi {N ya yb li : Nat} {yg g2 bl bl2 yf nn yx yh lv yn3 : Int32} {wh : Nat → Int32} {yL : List Int32} (hn2 : yn ≤ 160)
    (yih : ∀ (ya li : Nat) (yg bl lv yn3 yv yh yf nn : Int32) (wh : Nat → Int32), ya ≤ yn → li ≤ ya → lzI lv0 yn30 l lv yn3 → (bl = -1 ∨ 0 ≤ bl.toInt) → Pa N 202 38 [(0, .ref 69), (1, .int yf), (2, .int nn), (3, .int yg), (4, .int (Int32.ofNat li)), (5, .int 1), (6, .int yv), (7, .int yh)] [] (mW yA (Int32.ofNat ya) (-1) (Int32.ofNat 0) lv bl yn3 wh) (woQ yA yn lv0 yn30 l ya li yg bl))
    (yr1 : RL (mT yA) yn ya (yb, some yL)) (hL : 1 ≤ yL.length) (hab : li ≤ yb) (hz : lzI lv0 yn30 l lv yn3) (yhS : woS (mEv yA l) yg bl g2 bl2 li yL) (hlt : yb < yn) (h59 : rdC (mT yA) yn yb = 59) : Pa N 202 38 [(0, .ref 69), (1, .int yf), (2, .int nn), (3, .int g2), (4, .int (Int32.ofNat li + 1)), (5, .int 1), (6, .int yx), (7, .int yh)] [] (mW yA (Int32.ofNat yb + 1) (-1) (Int32.ofNat 0) lv bl2 yn3 wh) (woQ yA yn lv0 yn30 l ya li yg bl) := by
  have hli : li ≤ 160 := by omega
  rw [← on_succ yb, ← on_succ li]
  refine Pa.mono (yih (yb + 1) (li + 1) g2 bl2 lv yn3 yx yh yf nn wh (by omega) (by omega) hz (woS_bl hli yhS)) (fun yu A1 hu => ?_)
  obtain ⟨yw, at', ft, yop, lv', bl', n3', wh', ye1, ye2, ye3, hu⟩ := hu
  refine ⟨yw, at', ft, yop, lv', bl', n3', wh', ye1, ye2, ye3, ?_⟩
  rcases hu with ⟨yd, ds, yq1, yq2, yq3⟩ | ⟨yd, yq1, yq2, yq3⟩
  · exact .inl ⟨yd, yL ++ ds, RT.ok yr1 (.inl ⟨h59, yq1⟩), yq2, wo_cmp hli hL yhS yq3⟩
  · exact .inr ⟨yd, RT.no yr1 (.inl ⟨h59, yq1⟩), yq2, yq3⟩
theorem m_wo (he : (yA.1 69 62).toInt = (yn : Int)) (hn2 : yn ≤ 160) (hbs : (yA.1 69 60).toInt ≤ 3040) (hl : mLoc yA lv0 yn30 l) : ∀ (N ya li : Nat) (yg bl lv yn3 yv yh yf nn : Int32) (wh : Nat → Int32), ya ≤ yn → li ≤ ya → lzI lv0 yn30 l lv yn3 → (bl = -1 ∨ 0 ≤ bl.toInt) → Pa N 202 38 [(0, .ref 69), (1, .int yf), (2, .int nn), (3, .int yg), (4, .int (Int32.ofNat li)), (5, .int 1), (6, .int yv), (7, .int yh)] [] (mW yA (Int32.ofNat ya) (-1) (Int32.ofNat 0) lv bl yn3 wh) (woQ yA yn lv0 yn30 l ya li yg bl) := by
  intro N
  induction N with
  | zero => intros; exact Pa.zero
  | succ N yih =>
    intro ya li yg bl lv yn3 yv yh yf nn wh yha hla hz hbl
    refine bm_wol yf nn yg _ 1 yv yh (fun yq => absurd yq rd_n1) (fun yq => absurd yq rd_n1) (fun yq => absurd yq rd_n1) (fun _ => ?_)
    refine Pa.mono ((m_all (bl := bl) he hn2 hbs hl N).1.1 0 ya lv yn3 wh (by omega) yha hz) (fun yu A1 hu => ?_)
    obtain ⟨yx, lv1, yn31, wh1, rfl, hz1, hu⟩ := hu
    show Pa N 202 47 _ [.int yx] A1 _
    rcases hu with ⟨yb, cs, yr1, r2, r3, rfl⟩ | ⟨yb, at', op', yr1, r2, rfl⟩
    · have hab : ya ≤ yb := RP_le yr1 yha
      have yhc := RP_ok yr1
      obtain ⟨yy, hy, hy1, hy2⟩ := mb (yA := yA) (yn := yn) (ya := yb) (ft := -1) (yop := Int32.ofNat 0) (lv := lv1) (bl := bl) (yn3 := yn31) (wh := wh1) he hn2 hbs
      obtain ⟨y2, hv, hv1, hv2⟩ := mb (yA := yA) (yn := yn) (ya := yb) (ft := -1) (yop := Int32.ofNat 0) (lv := lv1) (bl := Int32.ofNat li) (yn3 := yn31) (wh := wh1) he hn2 hbs
      have no63 : yy.toInt ≠ 63 → ¬ rdC (mT yA) yn yb = 63 := fun yq => by
        have := sg_no hy1 hy2 r2
        omega
      have S1 : ∀ yL, 0 ≤ bl.toInt → woS (mEv yA l) yg bl yg bl li yL := fun yL yq => .inl ⟨yq, rfl, rfl⟩
      have blm : bl.toInt < 0 → bl = -1 := fun yq => hbl.resolve_right (by omega)
      have S2 : bl.toInt < 0 → woS (mEv yA l) yg bl yx (Int32.ofNat li) li (cs ++ [-59]) := fun yq => .inr (.inl ⟨blm yq, rfl, fun yst ds => by
        rw [List.append_assoc, rnX_run cs _ yst li yhc, r3 yst]
        exact rnX_end⟩)
      have hl1 : 1 ≤ (cs ++ [-59] : List Int32).length := by rw [List.length_append]; show 1 ≤ cs.length + 1; omega
      -- the second part of ya line with ya question
      have hq : ∀ (h' : Int32), rdC (mT yA) yn yb = 63 → yb < yn → (yx.toInt = 0 ∧ h' = 0 ∨ yx.toInt ≠ 0 ∧ h' = 1) → Pa N 194 0 [(0, .ref 69)] [] (mW yA (Int32.ofNat yb + 1) (-1) (Int32.ofNat 0) lv1 bl yn31 wh1) (fun yu A1 => Pa N 202 77 [(0, .ref 69), (1, .int yf), (2, .int nn), (3, .int yg), (4, .int (Int32.ofNat li)), (5, .int 1), (6, .int yx), (7, .int h')] (yu.toList ++ []) A1 (woQ yA yn lv0 yn30 l ya li yg bl)) := fun h' h63 hlt hx => by
        rw [← on_succ yb]
        refine Pa.mono ((m_all (bl := bl) he hn2 hbs hl N).1.1 0 (yb + 1) lv1 yn31 wh1 (by omega) hlt hz1) (fun yu A1 hu => ?_)
        obtain ⟨yx2, lv2, yn32, wh2, rfl, hz2, hu⟩ := hu
        show Pa N 202 77 _ [.int yx2] A1 _
        rcases hu with ⟨yd, ds, yp1, yp2, yp3, rfl⟩ | ⟨yd, at', op', yp1, yp2, rfl⟩
        · have hbd : yb + 1 ≤ yd := RP_le yp1 hlt
          have yhd := RP_ok yp1
          have hRL := RL.q yr1 h63 yp1
          obtain ⟨yt, ht, ht1, ht2⟩ := mb (yA := yA) (yn := yn) (ya := yd) (ft := -1) (yop := Int32.ofNat 0) (lv := lv2) (bl := bl) (yn3 := yn32) (wh := wh2) he hn2 hbs
          obtain ⟨yt2, hs, hs1, hs2⟩ := mb (yA := yA) (yn := yn) (ya := yd) (ft := -1) (yop := Int32.ofNat 0) (lv := lv2) (bl := Int32.ofNat li) (yn3 := yn32) (wh := wh2) he hn2 hbs
          have hl2 : 1 ≤ (cs ++ -63 :: (ds ++ [-59]) : List Int32).length := by rw [List.length_append, List.length_cons]; omega
          have no59 : yt.toInt ≠ 59 → ¬ rdC (mT yA) yn yd = 59 := fun yq => by
            have := sg_no ht1 ht2 yp2
            omega
          have no592 : yt2.toInt ≠ 59 → ¬ rdC (mT yA) yn yd = 59 := fun yq => by
            have := sg_no hs1 hs2 yp2
            omega
          have S3 : h' = 0 → bl.toInt < 0 → woS (mEv yA l) yg bl yg bl li (cs ++ -63 :: (ds ++ [-59])) := fun ye yq => by
            have hx0 : yx.toInt = 0 := by
              rcases hx with ⟨yk1, yk2⟩ | ⟨yk1, yk2⟩
              · exact yk1
              · rw [yk2] at ye
                exact absurd ye (by decide)
            refine .inr (.inr ⟨blm yq, blm yq, rfl, fun yst => ⟨yst, fun es => ?_⟩⟩)
            rw [List.append_assoc, rnX_run cs _ yst li yhc, r3 yst, List.cons_append, rnX_q0 hx0, List.append_assoc]
            exact rnX_skip ds es yst (li + 1) yhd
          have W4 : h' = 1 → bl.toInt < 0 → woS (mEv yA l) yg bl yx2 (Int32.ofNat li) li (cs ++ -63 :: (ds ++ [-59])) := fun ye yq => by
            have hx0 : yx.toInt ≠ 0 := by
              rcases hx with ⟨yk1, yk2⟩ | ⟨yk1, yk2⟩
              · rw [yk2] at ye
                exact absurd ye (by decide)
              · exact yk1
            refine .inr (.inl ⟨blm yq, rfl, fun yst es => ?_⟩)
            rw [List.append_assoc, rnX_run cs _ yst li yhc, r3 yst, List.cons_append, rnX_q1 hx0, List.append_assoc, rnX_run ds _ yst li yhd, yp3 yst]
            exact rnX_end
          have h01 : h' = 0 ∨ h' = 1 := hx.elim (fun yq => .inl yq.2) (fun yq => .inr yq.2)
          have h0 : h'.toInt = 0 → h' = 0 := fun yq => i32_ext yq
          have h1 : h'.toInt ≠ 0 → h' = 1 := fun yq => h01.resolve_left (fun ye => yq (by rw [ye]; decide))
          have yS0 : h'.toInt = 0 → woS (mEv yA l) yg bl yg bl li (cs ++ -63 :: (ds ++ [-59])) := fun yq => by
            by_cases yk : 0 ≤ bl.toInt
            · exact S1 _ yk
            · exact S3 (h0 yq) (by omega)
          refine bm_wo2 yf nn yg (Int32.ofNat li) 1 yx h' yx2 (fun yq => absurd yq rd_m1) (fun _ yk1 yk2 => ?_) (fun _ yk1 yk2 => ?_) (fun _ yk1 yk2 yk3 => ?_) (fun _ yk1 yk2 yk3 => ?_) (fun _ yk1 yk2 yk3 => ?_) (fun _ yk1 yk2 yk3 => ?_)
          · rw [ht] at yk2
            obtain ⟨ye0, ye1, ye2, ye3⟩ := sg_by ht1 ht2 yp2 yk2 (by decide)
            rw [mW_61, mW_at]
            exact wo_semi hn2 yih hRL hl2 (by omega) hz2 (yS0 yk1) ye0 ye2
          · rw [ht] at yk2
            exact wo_stop he hn2 hRL hl2 yp2 (by omega) hz2 (yS0 yk1) (no59 yk2)
          · rw [ht] at yk3
            obtain ⟨ye0, ye1, ye2, ye3⟩ := sg_by ht1 ht2 yp2 yk3 (by decide)
            rw [mW_61, mW_at]
            rw [mW_68] at yk2
            exact wo_semi hn2 yih hRL hl2 (by omega) hz2 (S1 _ yk2) ye0 ye2
          · rw [ht] at yk3
            rw [mW_68] at yk2
            exact wo_stop he hn2 hRL hl2 yp2 (by omega) hz2 (S1 _ yk2) (no59 yk3)
          · rw [mW_bl, hs] at yk3
            rw [mW_68] at yk2
            obtain ⟨ye0, ye1, ye2, ye3⟩ := sg_by hs1 hs2 yp2 yk3 (by decide)
            rw [mW_bl, mW_61, mW_at]
            exact wo_semi hn2 yih hRL hl2 (by omega) hz2 (W4 (h1 yk1) yk2) ye0 ye2
          · rw [mW_bl, hs] at yk3
            rw [mW_68] at yk2
            rw [mW_bl]
            exact wo_stop he hn2 hRL hl2 yp2 (by omega) hz2 (W4 (h1 yk1) yk2) (no592 yk3)
        · refine bm_wo2 yf nn yg (Int32.ofNat li) 1 yx h' yx2 (fun _ => ?_) (fun yq => absurd yq (on_nn yd (by omega))) (fun yq => absurd yq (on_nn yd (by omega))) (fun yq => absurd yq (on_nn yd (by omega))) (fun yq => absurd yq (on_nn yd (by omega))) (fun yq => absurd yq (on_nn yd (by omega))) (fun yq => absurd yq (on_nn yd (by omega)))
          exact wo_bad hn2 (RL.n2 yr1 h63 yp1) yp2 hz2
      have hli : li ≤ 160 := by omega
      refine bm_wo1 yf nn yg (Int32.ofNat li) 1 yv yh yx (fun yq => absurd yq rd_m1) (fun _ yk1 yk2 => ?_) (fun _ yk1 yk2 => ?_) (fun _ yk1 yk2 yk3 => ?_) (fun _ yk1 yk2 yk3 => ?_) (fun _ yk1 yk2 yk3 => ?_) (fun _ yk1 yk2 yk3 => ?_)
      · rw [hy] at yk1
        obtain ⟨ye0, ye1, ye2, ye3⟩ := sg_by hy1 hy2 r2 yk1 (by decide)
        rw [mW_61, mW_at]
        exact hq 0 ye2 ye0 (.inl ⟨yk2, rfl⟩)
      · rw [hy] at yk1
        obtain ⟨ye0, ye1, ye2, ye3⟩ := sg_by hy1 hy2 r2 yk1 (by decide)
        rw [mW_61, mW_at]
        exact hq 1 ye2 ye0 (.inr ⟨yk2, rfl⟩)
      · rw [hy] at yk1 yk3
        rw [mW_68] at yk2
        obtain ⟨ye0, ye1, ye2, ye3⟩ := sg_by hy1 hy2 r2 yk3 (by decide)
        rw [mW_61, mW_at]
        exact wo_semi hn2 yih (RL.s yr1 (no63 yk1)) hl1 (by omega) hz1 (S1 _ yk2) ye0 ye2
      · rw [hy] at yk1 yk3
        rw [mW_68] at yk2
        exact wo_stop he hn2 (RL.s yr1 (no63 yk1)) hl1 r2 hli hz1 (S1 _ yk2) (fun ye => by
          have := sg_no hy1 hy2 r2
          omega)
      · rw [hy] at yk1
        rw [mW_bl, hv] at yk3
        rw [mW_68] at yk2
        obtain ⟨ye0, ye1, ye2, ye3⟩ := sg_by hv1 hv2 r2 yk3 (by decide)
        rw [mW_bl, mW_61, mW_at]
        exact wo_semi hn2 yih (RL.s yr1 (no63 yk1)) hl1 (by omega) hz1 (S2 yk2) ye0 ye2
      · rw [hy] at yk1
        rw [mW_bl, hv] at yk3
        rw [mW_68] at yk2
        rw [mW_bl]
        exact wo_stop he hn2 (RL.s yr1 (no63 yk1)) hl1 r2 hli hz1 (S2 yk2) (fun ye => by
          have := sg_no hv1 hv2 r2
          omega)
    · refine bm_wo1 yf nn yg (Int32.ofNat li) 1 yv yh yx (fun _ => ?_) (fun yq => absurd yq (on_nn yb (by omega))) (fun yq => absurd yq (on_nn yb (by omega))) (fun yq => absurd yq (on_nn yb (by omega))) (fun yq => absurd yq (on_nn yb (by omega))) (fun yq => absurd yq (on_nn yb (by omega))) (fun yq => absurd yq (on_nn yb (by omega)))
      exact wo_bad hn2 (RL.n1 yr1) r2 hz1
end WOS
/-- the world yas ya ytext begins -/
def woB (yA : AW) (yf yn : Int32) : AW := uI (uI yA 69 60 yf) 69 62 yn
theorem wo_mk {yA : AW} {yf yn : Int32} : uI (uI (uI (uI (uI (uI yA 69 60 yf) 69 61 0) 69 62 yn) 69 63 (-1)) 69 64 0) 69 68 (-1) = mW (woB yA yf yn) (Int32.ofNat 0) (-1) (Int32.ofNat 0) (yA.1 69 66) (-1) (yA.1 117 3) (yA.1 115) := by
  refine Prod.ext ?_ rfl
  funext c' k'
  simp only [mW, woB, uI, uF]
  repeat' split
  all_goals first
    | rfl
    | (exfalso; omega)
    | (subst_vars; rfl)
    | (simp_all; done)
/-- working yout from the start -/
theorem m_work {yA : AW} {yn : Nat} {yf l : Int32} (hn2 : yn ≤ 160) (hbs : yf.toInt ≤ 3040) (hl : mLoc (woB yA yf (Int32.ofNat yn)) (yA.1 69 66) (yA.1 117 3) l) (N : Nat) : Pa N 202 0 [(0, .ref 69), (1, .int yf), (2, .int (Int32.ofNat yn))] [] yA (woQ (woB yA yf (Int32.ofNat yn)) yn (yA.1 69 66) (yA.1 117 3) l 0 0 0 (-1)) := by
  refine bm_wo0 yf (Int32.ofNat yn) ?_
  rw [wo_mk]
  exact m_wo (yA := woB yA yf (Int32.ofNat yn)) (by show (Int32.ofNat yn).toInt = (yn : Int); exact i32_nat (by omega)) hn2 (by show yf.toInt ≤ 3040; exact hbs) hl N 0 0 0 (-1) _ _ 0 0 yf _ _ (Nat.zero_le _) (Nat.le_refl _) (.inl ⟨rfl, rfl⟩) (.inl rfl)
