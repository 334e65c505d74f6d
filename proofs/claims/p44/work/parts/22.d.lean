section FILL3
variable {L : Nat} {xs : Nat → Int32} {d i n : Nat} {x : Int32} {Q : Option Value → mWd → Prop}
theorem fl_end {k : Nat} {l : mL} {w : mWd} (hl : l = [(2,.int (Int32.ofNat k)),(3,.int (Int32.ofNat n)),(0,.ref i),(1,.int x)] ∨ l = [(3,.int (Int32.ofNat n)),(2,.int (Int32.ofNat k)),(0,.ref i),(1,.int x)]) (hn : n < 2147483648) (hk : k = n) (h : Q none w) : Rn L xs (d + 1) 272 5 l [] w Q := by
  subst hk
  have hc := i32_ge hn hn
  rcases hl with hl | hl
  all_goals
    subst hl
    refine Rn.step (hf := by rfl) (hs := by rfl) ?_
    refine Rn.step (hf := by rfl) (hs := by rfl) ?_
    refine Rn.step (hf := by rfl) (hs := by simp only [m_step, m_pure]; rfl) ?_
    rw [hc, decide_eq_true (Nat.le_refl k)]
    exact Rn.ret (hf := by rfl) (hs := by rfl) h
theorem fl_loop : ∀ (m k : Nat) (l : mL) (g : Nat → Int32) (w : mWd), (l = [(2,.int (Int32.ofNat k)),(3,.int (Int32.ofNat n)),(0,.ref i),(1,.int x)] ∨ l = [(3,.int (Int32.ofNat n)),(2,.int (Int32.ofNat k)),(0,.ref i),(1,.int x)]) → n < 2147483648 → k + m = n → w[i]? = some (.inl (0, n, .inl g)) → (∀ g', (∀ j, g' j = if k ≤ j ∧ j < n then x else g j) → Q none (w.set i (.inl (0, n, .inl g')))) → Rn L xs (d + 1) 272 5 l [] w Q := by
  intro m
  induction m with
  | zero =>
    intro k l g w hl hn hk hw hQ
    refine fl_end hl hn (by omega) ?_
    have h := hQ g (fun j => by rw [if_neg (by omega)])
    have hlt : i < w.length := by
      rcases Nat.lt_or_ge i w.length with h' | h'
      · exact h'
      · rw [List.getElem?_eq_none h'] at hw; cases hw
    have he : w.set i (.inl (0, n, .inl g)) = w := by
      apply List.ext_getElem?
      intro j
      rw [List.getElem?_set]
      by_cases hj : i = j
      · subst hj; simp [hlt, ← hw]
      · simp [hj]
    rw [he] at h
    exact h
  | succ m ih =>
    intro k l g w hl hn hk hw hQ
    have hlt : i < w.length := by
      rcases Nat.lt_or_ge i w.length with h' | h'
      · exact h'
      · rw [List.getElem?_eq_none h'] at hw; cases hw
    refine fl_iter hl hn (by omega) hw ?_
    refine ih (k + 1) _ (upd g k x) _ (.inl rfl) hn (by omega) (by simp [hlt]) ?_
    intro g' hg
    rw [List.set_set]
    refine hQ g' ?_
    intro j
    rw [hg j]
    by_cases h1 : k + 1 ≤ j ∧ j < n
    · rw [if_pos h1, if_pos (by omega)]
    · rw [if_neg h1]
      by_cases h2 : j = k
      · subst h2; rw [if_pos (by omega)]; simp [upd]
      · rw [if_neg (by omega)]; simp [upd, h2]
theorem rn_fill {f : Nat → Int32} {w : mWd} (hn : n < 2147483648) (hw : w[i]? = some (.inl (0, n, .inl f))) (hQ : ∀ g', (∀ j, g' j = if j < n then x else f j) → Q none (w.set i (.inl (0, n, .inl g')))) : Rn L xs (d + 1) 272 0 [(0, .ref i), (1, .int x)] [] w Q := by
  refine fl_start hw (fl_loop n 0 _ f w (.inr rfl) hn (by omega) hw ?_)
  intro g' hg
  refine hQ g' ?_
  intro j
  rw [hg j]
  by_cases h : j < n
  · rw [if_pos h, if_pos ⟨Nat.zero_le j, h⟩]
  · rw [if_neg h, if_neg (by omega)]
end FILL3
