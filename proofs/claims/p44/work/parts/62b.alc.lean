/-! READING BEHIND WRITES; A NEW COST; A ROW OF COSTS -/
section UPD
variable {A : AW} {c k c' k' : Nat} {x : Int32} {y : Int64} {o : Option Nat}
theorem uI_c (h : c' ≠ c) : (uI A c k x).1 c' k' = A.1 c' k' := if_neg (fun q => h q.1)
theorem uI_k (h : k' ≠ k) : (uI A c k x).1 c' k' = A.1 c' k' := if_neg (fun q => h q.2)
theorem uI_h : (uI A c k x).1 c k = x := if_pos ⟨rfl, rfl⟩
theorem uF_c {g : Nat → Int32} (h : c' ≠ c) : (uF A c g).1 c' k' = A.1 c' k' := if_neg h
theorem uF_h {g : Nat → Int32} : (uF A c g).1 c k' = g k' := if_pos rfl
theorem uO_I : (uO A c k o).1 c' k' = A.1 c' k' := rfl
theorem uN_I : (uN A).1 c' k' = A.1 c' k' := rfl
end UPD
theorem zG_int : ∀ q, q < 13 → ∃ lo hi : Int, zGS[q]? = some (0, lo, hi) := by
  intro q hq
  match q, hq with
  | 0, _ => exact ⟨_, _, rfl⟩
  | 1, _ => exact ⟨_, _, rfl⟩
  | 2, _ => exact ⟨_, _, rfl⟩
  | 3, _ => exact ⟨_, _, rfl⟩
  | 4, _ => exact ⟨_, _, rfl⟩
  | 5, _ => exact ⟨_, _, rfl⟩
  | 6, _ => exact ⟨_, _, rfl⟩
  | 7, _ => exact ⟨_, _, rfl⟩
  | 8, _ => exact ⟨_, _, rfl⟩
  | 9, _ => exact ⟨_, _, rfl⟩
  | 10, _ => exact ⟨_, _, rfl⟩
  | 11, _ => exact ⟨_, _, rfl⟩
  | 12, _ => exact ⟨_, _, rfl⟩
theorem df2 : ∀ q, (pgDf 2)[q]? = if q < 13 then some (.int 0) else none := by
  intro q
  have hl : (pgDf 2).length = 13 := by decide +kernel
  by_cases h : q < 13
  · rw [if_pos h]
    match q, h with
    | 0, _ => rfl
    | 1, _ => rfl
    | 2, _ => rfl
    | 3, _ => rfl
    | 4, _ => rfl
    | 5, _ => rfl
    | 6, _ => rfl
    | 7, _ => rfl
    | 8, _ => rfl
    | 9, _ => rfl
    | 10, _ => rfl
    | 11, _ => rfl
    | 12, _ => rfl
  · rw [if_neg h]
    exact List.getElem?_eq_none (by omega)
theorem aw_new (w : mWd) : aw (w ++ [.inr (2, pgDf 2)]) = uN (aw w) := by
  have hI : ∀ k, cI (.inr (2, pgDf 2)) k = 0 := by
    intro k
    show (match (pgDf 2)[k]? with | some (.int x) => x | _ => 0) = 0
    rw [df2]
    by_cases h : k < 13
    · rw [if_pos h]
    · rw [if_neg h]
  have hg : ∀ c : Nat, (w ++ [.inr (2, pgDf 2)])[c]? = if c = w.length then some (.inr (2, pgDf 2)) else w[c]? := by
    intro c
    rw [List.getElem?_append]
    by_cases h : c < w.length
    · rw [if_pos h, if_neg (by omega)]
    · rw [if_neg h]
      by_cases e : c = w.length
      · rw [if_pos e, e]; simp
      · rw [if_neg e, List.getElem?_eq_none (show w.length ≤ c by omega), List.getElem?_eq_none (by simp; omega)]
  have hn : w[w.length]? = none := List.getElem?_eq_none (Nat.le_refl _)
  refine Prod.ext ?_ (Prod.ext ?_ (Prod.ext ?_ (Prod.ext ?_ ?_)))
  · funext c k
    show (match (w ++ [.inr (2, pgDf 2)])[c]? with | some e => cI e k | none => 0) = (match w[c]? with | some e => cI e k | none => 0)
    rw [hg]
    by_cases e : c = w.length
    · rw [if_pos e, e, hn]; exact hI k
    · rw [if_neg e]
  · funext c k
    show (match (w ++ [.inr (2, pgDf 2)])[c]? with | some e => cJ e k | none => 0) = (match w[c]? with | some e => cJ e k | none => 0)
    rw [hg]
    by_cases e : c = w.length
    · rw [if_pos e, e, hn]; rfl
    · rw [if_neg e]
  · funext c k
    show (match (w ++ [.inr (2, pgDf 2)])[c]? with | some e => cO e k | none => none) = (match w[c]? with | some e => cO e k | none => none)
    rw [hg]
    by_cases e : c = w.length
    · rw [if_pos e, e, hn]; rfl
    · rw [if_neg e]
  · funext c
    show (match (w ++ [.inr (2, pgDf 2)])[c]? with | some e => cN e | none => 0) = (match w[c]? with | some e => cN e | none => 0)
    rw [hg]
    by_cases e : c = w.length
    · rw [if_pos e, e, hn]; rfl
    · rw [if_neg e]
  · show (w ++ [(.inr (2, pgDf 2) : mE)]).length = w.length + 1
    simp
theorem SH_new {w : mWd} (hS : SH w) : SH (w ++ [.inr (2, pgDf 2)]) := by
  refine WI_app hS (.inl ⟨pgDf 2, rfl, by decide +kernel, fun k sp v hsp hv => ?_⟩)
  rw [df2] at hv
  by_cases h : k < 13
  · rw [if_pos h] at hv
    cases hv
    rw [show zD.2.1 = zGS.map z_wd from rfl, List.getElem?_map] at hsp
    obtain ⟨lo, hi, e⟩ := zG_int k h
    rw [e] at hsp
    cases hsp
    exact ⟨0, rfl, (i32_rg 0).1, (i32_rg 0).2⟩
  · rw [if_neg h] at hv; cases hv
section PNW
variable {N mid pc : Nat} {lv : mL} {A : AW} {Q : Option Value → AW → Prop} {k : Nat} {r : List Value}
theorem Pa.newc {ix : Nat} (hf : pgF mid pc = some (.new ix, k)) (hr : h_n2 mid ix = true) (h : ∀ a, a = A.2.2.2.2 → 129 ≤ a → Pa N mid (pc + 3) lv (.ref a :: r) (uN A) Q) : Pa N mid pc lv r A Q := by
  refine Pa.stp hf (fun L xs w hS hA o ho => ?_)
  rw [h_n2_ok hr] at ho
  cases ho
  refine ⟨SH_new hS, ?_⟩
  rw [aw_new, hA]
  have hl : A.2.2.2.2 = w.length := by rw [← hA]; rfl
  exact h w.length hl.symm (WI.len hS)
theorem Pa.osts {j : Int32} {a t n q j' : Nat} (hf : pgF mid pc = some (.aastore, k)) (hz : z_ln 31 = some (t, n, q)) (hj : j.toInt.toNat = j') (h : 0 ≤ j.toInt → j.toInt < (n : Int) → Pa N mid (pc + 1) lv r (uO A 31 j' (some a)) Q) : Pa N mid pc lv (.ref a :: .int j :: .ref 31 :: r) A Q := by
  subst hj
  refine Pa.stp hf (fun L xs w hS hA o ho => ?_)
  obtain ⟨e, b, g1, g2, g3, g4⟩ := SH_arr hS hz
  have ht : t = 3 ∧ q = 3 := by
    have : z_ln 31 = some (3, 150, 3) := by decide +kernel
    rw [this] at hz
    cases hz
    exact ⟨rfl, rfl⟩
  obtain ⟨rfl, rfl⟩ := ht
  have hs : m_step L xs mid pc lv (.ref a :: .int j :: .ref 31 :: r) w .aastore = (match m_ast 3 31 j (.ref a) w with | some c => mNx (pc + 1) lv r (w.set 31 c) | none => none) := rfl
  rw [hs] at ho
  split at ho
  next c hc =>
    cases ho
    unfold m_ast at hc
    split at hc
    next t' n' f x' h1 h2 => cases h2
    next t' n' f x' h1 h2 => cases h2
    next t' n' f a' h1 h2 =>
      cases h2
      rw [g3] at h1
      cases h1
      split at hc
      next cj fs ha =>
        split at hc
        next hq =>
          cases hc
          obtain ⟨hq1, -, -, hcj⟩ := hq
          subst hcj
          obtain ⟨a1, a2, a3⟩ := a_in_ok hq1
          have hC : wC w a := by
            by_cases ha9 : a < 129
            · exfalso
              have hlt : a < zD.1.length := by rw [zD_len]; exact ha9
              obtain ⟨c, c1, c2⟩ := hS.2.1 a _ (List.getElem?_eq_getElem hlt)
              have ht2 := List.all_eq_true.mp c_sps_t _ (List.getElem_mem hlt)
              rw [ha] at c1
              cases c1
              generalize zD.1[a]'hlt = s at c2 ht2
              obtain ⟨tt, aa, b', sps⟩ := s
              cases tt with
              | zero =>
                obtain ⟨fs', f1, f2, f3⟩ := c2
                have ht3 : (!(Nat.beq aa 2) && sps_eq (c_sps aa) sps) = true := ht2
                rw [Bool.and_eq_true] at ht3
                have e1 : 2 = aa := (Prod.mk.inj (Sum.inr.inj f1)).1
                rw [← e1] at ht3
                exact absurd ht3.1 (by decide)
              | succ tt =>
                obtain ⟨-, a', f2, -⟩ := c2
                cases f2
            · rcases hS.2.2 a _ (by omega) ha with ⟨fs', f1, f2, f3⟩ | ⟨n, f, f1, -⟩
              · cases f1
                exact ⟨by omega, _, ha, by show (5, 2, fs.length) = _; rw [f2]⟩
              · cases f1
          refine ⟨?_, ?_⟩
          · refine WI_seta hS g1 g3 rfl (fun j' hj' => ?_)
            obtain ⟨a', b1, -, b3⟩ := WI_arr hS g1
            rw [g3] at b1
            cases b1
            have b4 := b3 j' hj'
            obtain ⟨te, ea, eb⟩ := e
            simp only at g2
            subst g2
            show okV w (3, ea, eb) (m_opt (va_up f j.toNatClampNeg (some a)) j')
            have b5 : okV w (3, ea, eb) (m_opt f j') := b4
            unfold m_opt va_up
            by_cases e9 : j' = j.toNatClampNeg
            · rw [if_pos e9]
              exact .inr ⟨a, rfl, hC⟩
            · rw [if_neg e9]
              exact b5
          · rw [aw_setO (e' := .inl (3, n, .inr (.inr (.inr (.inr (va_up f j.toNatClampNeg (some a))))))) (k := j.toInt.toNat) (x := some a) g3 rfl rfl ?_ rfl, hA]
            · exact h a1 a2
            · intro k'
              show va_up f j.toNatClampNeg (some a) k' = if k' = j.toInt.toNat then some a else f k'
              rw [← a3]; rfl
        next => cases hc
      next ta nn ff ha =>
        split at hc
        next hq => omega
        next => cases hc
      next => cases hc
    next => cases hc
  next => cases ho
end PNW
