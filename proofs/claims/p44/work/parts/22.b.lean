section FILL
variable {L : Nat} {xs : Nat → Int32} {d i n : Nat} {f : Nat → Int32} {x : Int32} {w : mWd} {Q : Option Value → mWd → Prop}
theorem fl_start (hw : w[i]? = some (.inl (0, n, .inl f))) (h : Rn L xs (d + 1) 272 5 (m_put1 (m_put1 [(0, .ref i), (1, .int x)] 2 (.int 0)) 3 (.int (Int32.ofNat n))) [] w Q) : Rn L xs (d + 1) 272 0 [(0, .ref i), (1, .int x)] [] w Q := by
  refine Rn.step (hf := by rfl) (hs := by rfl) ?_
  refine Rn.step (hf := by rfl) (hs := by rfl) ?_
  refine Rn.step (hf := by rfl) (hs := by rfl) ?_
  refine Rn.step (hf := by rfl) (hs := by simp only [m_step, m_len1, hw]; rfl) ?_
  refine Rn.step (hf := by rfl) (hs := by rfl) ?_
  trace_state
  exact h
end FILL
