/-! PAIRS BY THE CHECKER AND PAIRS BY HAND, TOGETHER -/
theorem Rn.and {L : Nat} {xs : Nat → Int32} {d mid pc : Nat} {lv : mL} {st : List Value} {w : mWd} {P Q : Option Value → mWd → Prop} (h : Rn L xs d mid pc lv st w P) (h2 : Rn L xs d mid pc lv st w Q) : Rn L xs d mid pc lv st w (fun v w1 => P v w1 ∧ Q v w1) := by
  obtain ⟨n, v, w1, a1, a2⟩ := h
  obtain ⟨m, u, w2, b1, b2⟩ := h2
  have c1 := m_run_more n m _ _ _ _ _ _ _ a1
  have c2 := m_run_more m n _ _ _ _ _ _ _ b1
  rw [Nat.add_comm m n] at c2
  rw [c1] at c2
  cases c2
  exact ⟨n, v, w1, a1, a2, b2⟩
/-- what a call of the face leaves, by its contract -/
theorem l_cl {L : Nat} {xs : Nat → Int32} {y cell n d : Nat} {q : Int × Int × (Nat × Nat) × zWr} {w : mWd} {as : List Int32} (hc : l_con zT y cell n = some q) (hW : WI zZ w) (hk : wkR [] none w) (hl : as.length = n) (hd : 700 ≤ d) : Rn L xs d y 0 (lv_args 0 (.ref cell :: as.map Value.int)) [] w (fun v w1 => ∃ x : Int32, v = some (.int x) ∧ q.1 ≤ x.toInt ∧ x.toInt ≤ q.2.1 ∧ WI zZ w1 ∧ wkR [] none w1 ∧ w1.length ≤ w.length + q.2.2.1.1 ∧ m_sl w1 ≤ m_sl w + q.2.2.1.2 ∧ fR q.2.2.2 w w1) := by
  refine l_call z_all hc hW hk hl hd (fun x w1 b1 b2 b3 b4 b5 b6 b7 => ?_)
  exact ⟨x, rfl, b1, b2, b3, b4, b5, b6, b7⟩
/-- equal fields, by the functions -/
def z_isI (i k : Nat) : Bool := match z_fs zZ i k with
  | some (0, _, _) => true
  | _ => false
theorem z_isI_ok {w : mWd} (hW : WI zZ w) {i k : Nat} (h : z_isI i k = true) : i < 129 ∧ ∃ ci fs, w[i]? = some (.inr (ci, fs)) ∧ fs[k]? = some (.int ((aw w).1 i k)) := by
  unfold z_isI at h
  split at h
  next lo hi hz =>
    obtain ⟨l, ci, fs, x, h1, h2, h3⟩ := z_fs_ok hW hz
    refine ⟨l, ci, fs, h1, ?_⟩
    have : (aw w).1 i k = x := by
      rw [(aw_at h1).1]
      show (match fs[k]? with | some (.int x) => x | _ => 0) = x
      rw [h2]
    rw [this]
    exact h2
  next => cases h
theorem rF_of {w : mWd} (hW : WI zZ w) {p : (Nat × Nat) × (Nat × Nat)} (h : (z_isI p.1.1 p.1.2 && z_isI p.2.1 p.2.2) = true) : rF w p ↔ (aw w).1 p.1.1 p.1.2 = (aw w).1 p.2.1 p.2.2 := by
  rw [Bool.and_eq_true] at h
  obtain ⟨l1, ci, fs, a1, a2⟩ := z_isI_ok hW h.1
  obtain ⟨l2, cj, gs, b1, b2⟩ := z_isI_ok hW h.2
  constructor
  · rintro ⟨-, ci', cj', fs', gs', x, c1, c2, c3, c4⟩
    rw [a1] at c1; cases c1
    rw [b1] at c3; cases c3
    rw [a2] at c2
    rw [b2] at c4
    have e1 : (aw w).1 p.1.1 p.1.2 = x := by injection c2 with c2; injection c2
    have e2 : (aw w).1 p.2.1 p.2.2 = x := by injection c4 with c4; injection c4
    rw [e1, e2]
  · intro e
    exact ⟨⟨l1, l2⟩, ci, cj, fs, gs, _, a1, a2, b1, by rw [e]; exact b2⟩
