/-! RUNS WITHOUT COUNTING STEPS -/
theorem m_run_more {L : Nat} {xs : Nat → Int32} : ∀ (n k d mid pc : Nat) (lv : mL) (st : List Value) (w : mWd) (r : Option Value × mWd), m_run L xs n d mid pc lv st w = some r → m_run L xs (n + k) d mid pc lv st w = some r := by
  intro n
  induction n with
  | zero => intro k d mid pc lv st w r h; cases h
  | succ n ih =>
    intro k d mid pc lv st w r h
    rw [show n + 1 + k = (n + k) + 1 by omega]
    cases d with
    | zero => cases h
    | succ d =>
      simp only [m_run] at h ⊢
      split at h
      next => cases h
      next ins q hf =>
        try rw [hf]
        try dsimp only
        split at h
        next => cases h
        next pc' l' st' w' hs =>
          try rw [hs]
          exact ih k _ _ _ _ _ _ _ h
        next y as rr hs =>
          try rw [hs]
          try dsimp only
          split at h
          next => cases h
          next v2 w2 h2 =>
            rw [ih k _ _ _ _ _ _ _ h2]
            exact ih k _ _ _ _ _ _ _ h
        next v2 hs =>
          try rw [hs]
          exact h
def Rn (L : Nat) (xs : Nat → Int32) (d mid pc : Nat) (lv : mL) (st : List Value) (w : mWd) (Q : Option Value → mWd → Prop) : Prop := ∃ (n : Nat) (v : Option Value) (w1 : mWd), m_run L xs n d mid pc lv st w = some (v, w1) ∧ Q v w1
section RNL
variable {L : Nat} {xs : Nat → Int32} {d mid pc : Nat} {lv : mL} {st : List Value} {w : mWd} {Q Q' : Option Value → mWd → Prop} {ins : Instr} {k : Nat}
theorem Rn.mono (h : Rn L xs d mid pc lv st w Q) (hQ : ∀ v w1, Q v w1 → Q' v w1) : Rn L xs d mid pc lv st w Q' := by
  obtain ⟨n, v, w1, h1, h2⟩ := h
  exact ⟨n, v, w1, h1, hQ v w1 h2⟩
theorem Rn.step {pc' : Nat} {l' : mL} {st' : List Value} {w' : mWd} (hf : pgF mid pc = some (ins, k)) (hs : m_step L xs mid pc lv st w ins = some (.inl (pc', l', st', w'))) (h : Rn L xs (d + 1) mid pc' l' st' w' Q) : Rn L xs (d + 1) mid pc lv st w Q := by
  obtain ⟨n, v, w1, h1, h2⟩ := h
  refine ⟨n + 1, v, w1, ?_, h2⟩
  simp only [m_run, hf, hs]
  exact h1
theorem Rn.call {y : Nat} {as r : List Value} (hf : pgF mid pc = some (ins, k)) (hs : m_step L xs mid pc lv st w ins = some (.inr (.inl (y, as, r)))) (h : Rn L xs d y 0 (lv_args 0 as) [] w (fun v w1 => Rn L xs (d + 1) mid (pc + 3) lv (v.toList ++ r) w1 Q)) : Rn L xs (d + 1) mid pc lv st w Q := by
  obtain ⟨n, v, w1, h1, n2, v2, w2, h2, h3⟩ := h
  refine ⟨(n + n2) + 1, v2, w2, ?_, h3⟩
  simp only [m_run, hf, hs]
  rw [m_run_more n n2 _ _ _ _ _ _ _ h1]
  dsimp only
  rw [Nat.add_comm n n2]
  exact m_run_more n2 n _ _ _ _ _ _ _ h2
theorem Rn.ret {v : Option Value} (hf : pgF mid pc = some (ins, k)) (hs : m_step L xs mid pc lv st w ins = some (.inr (.inr v))) (h : Q v w) : Rn L xs (d + 1) mid pc lv st w Q := by
  refine ⟨1, v, w, ?_, h⟩
  simp only [m_run, hf, hs]
end RNL
/-- the run up to a place of its own frame -/
def m_to (L : Nat) (xs : Nat → Int32) (tgt : Nat) : Nat → Nat → Nat → Nat → mL → List Value → mWd → Option (mL × List Value × mWd)
  | 0, _, _, _, _, _, _ => none
  | _ + 1, 0, _, _, _, _, _ => none
  | n + 1, d + 1, mid, pc, l, st, w => bif Nat.beq pc tgt then some (l, st, w) else (match pgF mid pc with
    | none => none
    | some (ins, _) => (match m_step L xs mid pc l st w ins with
      | none => none
      | some (.inl (pc', l', st', w')) => m_to L xs tgt n (d + 1) mid pc' l' st' w'
      | some (.inr (.inl (y, as, r))) => (match m_run L xs n d y 0 (lv_args 0 as) [] w with
        | none => none
        | some (v, w1) => m_to L xs tgt n (d + 1) mid (pc + 3) l (v.toList ++ r) w1)
      | some (.inr (.inr _)) => none))
theorem m_to_ok {L : Nat} {xs : Nat → Int32} {tgt : Nat} {Q : Option Value → mWd → Prop} : ∀ (n d mid pc : Nat) (lv : mL) (st : List Value) (w : mWd) (q : mL × List Value × mWd), m_to L xs tgt n d mid pc lv st w = some q → Rn L xs d mid tgt q.1 q.2.1 q.2.2 Q → Rn L xs d mid pc lv st w Q := by
  intro n
  induction n with
  | zero => intro d mid pc lv st w q h; cases h
  | succ n ih =>
    intro d mid pc lv st w q h hq
    cases d with
    | zero => cases h
    | succ d =>
      simp only [m_to] at h
      cases hb : Nat.beq pc tgt with
      | true =>
        rw [hb] at h
        cases h
        have e := Nat.eq_of_beq_eq_true hb
        subst e
        exact hq
      | false =>
        rw [hb] at h
        simp only [cond_false] at h
        split at h
        next => cases h
        next ins k hf =>
          split at h
          next => cases h
          next pc' l' st' w' hs => exact Rn.step hf hs (ih _ _ _ _ _ _ _ h hq)
          next y as r hs =>
            split at h
            next => cases h
            next v w1 h2 => exact Rn.call hf hs ⟨n, v, w1, h2, ih _ _ _ _ _ _ _ h hq⟩
          next => cases h
