/-! yA NEW ROW yOF NUMBERS; yA TEXT PUT INTO THE ROW yOF TEXTS -/
def uA (yA : AW) (yk : Nat) (yg : Nat → Int32) : AW := (fun yc yj => if yc = yA.2.2.2.2 then yg yj else yA.1 yc yj, yA.2.1, yA.2.2.1, fun yc => if yc = yA.2.2.2.2 then yk else yA.2.2.2.1 yc, yA.2.2.2.2 + 1)
theorem uA_c {yA : AW} {yk : Nat} {yg : Nat → Int32} {yc yj : Nat} (yh : yc < yA.2.2.2.2) : (uA yA yk yg).1 yc yj = yA.1 yc yj := if_neg (by omega)
theorem uA_h {yA : AW} {yk : Nat} {yg : Nat → Int32} {yj : Nat} : (uA yA yk yg).1 yA.2.2.2.2 yj = yg yj := if_pos rfl
theorem aw_app (yw : mWd) (yk : Nat) (yg : Nat → Int32) : aw (yw ++ [.inl (0, yk, .inl yg)]) = uA (aw yw) yk yg := by
  have hg : ∀ yc : Nat, (yw ++ [(.inl (0, yk, .inl yg) : mE)])[yc]? = if yc = yw.length then some (.inl (0, yk, .inl yg)) else yw[yc]? := by
    intro yc
    rw [List.getElem?_append]
    by_cases yh : yc < yw.length
    · rw [if_pos yh, if_neg (by omega)]
    · rw [if_neg yh]
      by_cases ye : yc = yw.length
      · rw [if_pos ye, ye]; simp
      · rw [if_neg ye, List.getElem?_eq_none (show yw.length ≤ yc by omega), List.getElem?_eq_none (by simp; omega)]
  have hn : yw[yw.length]? = none := List.getElem?_eq_none (Nat.le_refl _)
  refine Prod.ext ?_ (Prod.ext ?_ (Prod.ext ?_ (Prod.ext ?_ ?_)))
  · funext yc yj
    show (match (yw ++ [(.inl (0, yk, .inl yg) : mE)])[yc]? with | some ye => cI ye yj | none => 0) = if yc = yw.length then yg yj else (match yw[yc]? with | some ye => cI ye yj | none => 0)
    rw [hg]
    by_cases ye : yc = yw.length
    · rw [if_pos ye, if_pos ye]; rfl
    · rw [if_neg ye, if_neg ye]
  · funext yc yj
    show (match (yw ++ [(.inl (0, yk, .inl yg) : mE)])[yc]? with | some ye => cJ ye yj | none => 0) = (match yw[yc]? with | some ye => cJ ye yj | none => 0)
    rw [hg]
    by_cases ye : yc = yw.length
    · rw [if_pos ye, ye, hn]; rfl
    · rw [if_neg ye]
  · funext yc yj
    show (match (yw ++ [(.inl (0, yk, .inl yg) : mE)])[yc]? with | some ye => cO ye yj | none => none) = (match yw[yc]? with | some ye => cO ye yj | none => none)
    rw [hg]
    by_cases ye : yc = yw.length
    · rw [if_pos ye, ye, hn]; rfl
    · rw [if_neg ye]
  · funext yc
    show (match (yw ++ [(.inl (0, yk, .inl yg) : mE)])[yc]? with | some ye => cN ye | none => 0) = if yc = yw.length then yk else (match yw[yc]? with | some ye => cN ye | none => 0)
    rw [hg]
    by_cases ye : yc = yw.length
    · rw [if_pos ye, if_pos ye]; rfl
    · rw [if_neg ye, if_neg ye]
  · show (yw ++ [(.inl (0, yk, .inl yg) : mE)]).length = yw.length + 1
    simp
theorem c_copyOf (N : Nat) (yA : AW) (yk : Nat) (hk : yk ≤ 161) : Pa N 273 0 [(0, .ref 37), (1, .int (Int32.ofNat yk))] [] yA (fun yu A1 => ∃ yg, 129 ≤ yA.2.2.2.2 ∧ yu = some (.ref yA.2.2.2.2) ∧ A1 = uA yA yk yg ∧ ∀ yj, yj < 161 → yj < yk → yg yj = yA.1 37 yj) := by
  intro yL xs ym yd yw yhm yhS hA yv yw1 hr
  cases yd with
  | zero =>
    cases ym with
    | zero => cases hr
    | succ ym => cases hr
  | succ yd =>
    obtain ⟨ye, yb, g1, g2, yg3, g4⟩ := SH_arr yhS (i := 37) (t := 0) (n := 161) (q := 0) (by decide +kernel)
    obtain ⟨yf, hf⟩ := shp_int (show shp (.inl (0, 161, yb)) = (0, 0, 161) from g4)
    rw [hf] at yg3
    have yh := rn_copyOf (L := yL) (xs := xs) (d := yd) (k := yk) (Q := fun yv yw1 => ∃ yg, yv = some (.ref yw.length) ∧ yw1 = yw ++ [.inl (0, yk, .inl yg)] ∧ ∀ yj, yj < 161 → yj < yk → yg yj = yf yj) yg3 (by decide) (by omega) (fun yg hg => ⟨yg, rfl, rfl, hg⟩)
    obtain ⟨ym2, v2, yw2, h1, yg, ye1, ye2, ye3⟩ := yh
    have ya1 := m_run_more ym ym2 _ _ _ _ _ _ _ hr
    have a2 := m_run_more ym2 ym _ _ _ _ _ _ _ h1
    rw [Nat.add_comm ym2 ym, ya1] at a2
    injection a2 with a2
    obtain ⟨yq1, yq2⟩ := Prod.mk.inj a2
    rw [yq1, yq2, ye1, ye2]
    have hI : ∀ yj, yA.1 37 yj = yf yj := fun yj => by rw [← hA, (aw_at yg3).1]; rfl
    have hl : yA.2.2.2.2 = yw.length := by rw [← hA]; rfl
    have hw := WI.len yhS
    refine ⟨WI_app yhS (.inr ⟨yk, yg, rfl, hk⟩), yg, by omega, by rw [hl], by rw [aw_app, hA], fun yj j1 yj2 => ?_⟩
    rw [hI yj]
    exact ye3 yj j1 yj2
theorem Pa.osts39 {N ymid pc : Nat} {lv : mL} {yA : AW} {yQ : Option Value → AW → Prop} {yk : Nat} {yr : List Value} {ya : Nat} (yha : 129 ≤ ya) {yj : Int32} {j' : Nat} (hf : pgF ymid pc = some (.aastore, yk)) (hj : yj.toInt.toNat = j') (yh : 0 ≤ yj.toInt → yj.toInt < 20 → Pa N ymid (pc + 1) lv yr (uO yA 39 j' (some ya)) yQ) : Pa N ymid pc lv (.ref ya :: .int yj :: .ref 39 :: yr) yA yQ := by
  subst hj
  refine Pa.stp hf (fun yL xs yw yhS hA o ho => ?_)
  obtain ⟨ye, yb, g1, g2, yg3, g4⟩ := SH_arr yhS (i := 39) (t := 4) (n := 20) (q := 4) (by decide +kernel)
  have hs : m_step yL xs ymid pc lv (.ref ya :: .int yj :: .ref 39 :: yr) yw .aastore = (match m_ast 3 39 yj (.ref ya) yw with | some yc => mNx (pc + 1) lv yr (yw.set 39 yc) | none => none) := rfl
  rw [hs] at ho
  split at ho
  next yc yhc =>
    cases ho
    unfold m_ast at yhc
    split at yhc
    next t' n' yf x' h1 h2 => cases h2
    next t' n' yf x' h1 h2 => cases h2
    next t' n' yf a' h1 h2 =>
      cases h2
      rw [yg3] at h1
      cases h1
      split at yhc
      next cj fs hx =>
        split at yhc
        next hq => omega
        next => cases yhc
      next ta nn yff hx =>
        split at yhc
        next hq =>
          cases yhc
          obtain ⟨hq1, -, -, hcj⟩ := hq
          subst hcj
          obtain ⟨ya1, a2, a3⟩ := a_in_ok hq1
          have yhT : wT yw ya nn := by
            rcases yhS.2.2 ya _ yha hx with ⟨fs', yf1, yf2, yf3⟩ | ⟨yn, f', yf1, yf2⟩
            · cases yf1
            · cases yf1
              exact ⟨yha, yf2, _, hx, rfl⟩
          refine ⟨?_, ?_⟩
          · refine WI_seta yhS g1 yg3 rfl (fun j' hj' => ?_)
            obtain ⟨a', b1, -, b3⟩ := WI_arr yhS g1
            rw [yg3] at b1
            cases b1
            have b4 := b3 j' hj'
            obtain ⟨te, ea, eb⟩ := ye
            simp only at g2
            subst g2
            show okV yw (4, ea, eb) (m_opt (va_up yf yj.toNatClampNeg (some ya)) j')
            have b5 : okV yw (4, ea, eb) (m_opt yf j') := b4
            unfold m_opt va_up
            by_cases ye9 : j' = yj.toNatClampNeg
            · rw [if_pos ye9]
              exact .inr ⟨ya, nn, rfl, yhT⟩
            · rw [if_neg ye9]
              exact b5
          · rw [aw_setO (e' := .inl (4, 20, .inr (.inr (.inr (.inr (va_up yf yj.toNatClampNeg (some ya))))))) (k := yj.toInt.toNat) (x := some ya) yg3 rfl rfl ?_ rfl, hA]
            · exact yh ya1 (by omega)
            · intro k'
              show va_up yf yj.toNatClampNeg (some ya) k' = if k' = yj.toInt.toNat then some ya else yf k'
              rw [← a3]; rfl
        next => cases yhc
      next => cases yhc
    next => cases yhc
  next => cases ho
