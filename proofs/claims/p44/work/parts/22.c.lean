section FILL2
variable {L : Nat} {xs : Nat → Int32} {d i n : Nat} {x : Int32} {Q : Option Value → mWd → Prop}
theorem fl_iter {k : Nat} {l : mL} {g : Nat → Int32} {w : mWd} (hl : l = [(2,.int (Int32.ofNat k)),(3,.int (Int32.ofNat n)),(0,.ref i),(1,.int x)] ∨ l = [(3,.int (Int32.ofNat n)),(2,.int (Int32.ofNat k)),(0,.ref i),(1,.int x)]) (hn : n < 2147483648) (hk : k < n) (hw : w[i]? = some (.inl (0, n, .inl g))) (h : Rn L xs (d + 1) 272 5 [(2,.int (Int32.ofNat (k + 1))),(3,.int (Int32.ofNat n)),(0,.ref i),(1,.int x)] [] (w.set i (.inl (0, n, .inl (upd g k x)))) Q) : Rn L xs (d + 1) 272 5 l [] w Q := by
  have hc := i32_ge (show k < 2147483648 by omega) hn
  have hs := i32_succ (show k + 1 < 2147483648 by omega)
  have hi := i32_in hk hn
  have hz := i32_clamp (show k < 2147483648 by omega)
  have hast : m_ast 0 i (Int32.ofNat k) (.int x) w = some (.inl (0, n, .inl (upd g k x))) := by
    simp [m_ast, hw, hi, hz]
  rcases hl with hl | hl
  all_goals
    subst hl
    refine Rn.step (hf := by rfl) (hs := by rfl) ?_
    refine Rn.step (hf := by rfl) (hs := by rfl) ?_
    refine Rn.step (hf := by rfl) (hs := by simp only [m_step, m_pure]; rfl) ?_
    rw [hc, decide_eq_false (show ¬ n ≤ k by omega)]
    refine Rn.step (hf := by rfl) (hs := by rfl) ?_
    refine Rn.step (hf := by rfl) (hs := by rfl) ?_
    refine Rn.step (hf := by rfl) (hs := by rfl) ?_
    refine Rn.step (hf := by rfl) (hs := by simp only [m_step, hast]; rfl) ?_
    refine Rn.step (hf := by rfl) (hs := by rfl) ?_
    refine Rn.step (hf := by rfl) (hs := by rfl) ?_
    rw [← hs] at h
    exact h
end FILL2
