theorem i32_nn {a : Nat} (ha : a < 2147483648) : ¬ Int32.ofNat a < 0 := by
  rw [Int32.lt_iff_toInt_lt, i32_nat ha]
  exact Int.not_lt.mpr (Int.natCast_nonneg a)
theorem i32_min {a b : Nat} (ha : a < 2147483648) (hb : b < 2147483648) : (if Int32.ofNat b < Int32.ofNat a then Int32.ofNat b else Int32.ofNat a) = Int32.ofNat (min a b) := by
  rcases Nat.lt_or_ge b a with h | h
  · rw [if_pos (by rw [Int32.lt_iff_toInt_lt, i32_nat ha, i32_nat hb]; omega), Nat.min_eq_right (by omega)]
  · rw [if_neg (by rw [Int32.lt_iff_toInt_lt, i32_nat ha, i32_nat hb]; omega), Nat.min_eq_left h]
theorem i32_ne {a b : Nat} (ha : a < 2147483648) (hb : b < 2147483648) : m_cmp .ne (Int32.ofNat a) (Int32.ofNat b) = decide (a ≠ b) := by
  unfold m_cmp
  rw [Bool.eq_iff_iff]
  simp only [Bool.not_eq_true', decide_eq_false_iff_not, decide_eq_true_eq]
  constructor
  · intro h h2; exact h (by rw [h2])
  · intro h h2; apply h; have := congrArg Int32.toInt h2; rw [i32_nat ha, i32_nat hb] at this; omega
section COPY
variable {L : Nat} {xs : Nat → Int32} {d i n k : Nat} {f : Nat → Int32} {w : mWd} {Q : Option Value → mWd → Prop}
theorem rn_copyOf (hw : w[i]? = some (.inl (0, n, .inl f))) (hn : n < 2147483648) (hk : k ≤ 100000) (hQ : ∀ g, (∀ j, j < n → j < k → g j = f j) → Q (some (.ref w.length)) (w ++ [.inl (0, k, .inl g)])) : Rn L xs (d + 1) 273 0 [(0, .ref i), (1, .int (Int32.ofNat k))] [] w Q := by
  have hk' : k < 2147483648 := by omega
  have hlt : i < w.length := by
    rcases Nat.lt_or_ge i w.length with h' | h'
    · exact h'
    · rw [List.getElem?_eq_none h'] at hw; cases hw
  refine Rn.step (hf := by rfl) (hs := by rfl) ?_
  refine Rn.step (hf := by rfl) (hs := by rfl) ?_
  refine Rn.step (hf := by rfl) (hs := by simp only [m_step, m_len1, hw]; rfl) ?_
  refine Rn.step (hf := by rfl) (hs := by simp only [m_step, m_pure]; rfl) ?_
  rw [i32_ne hk' hn]
  by_cases he : k = n
  · subst he
    rw [decide_eq_false (by simp)]
    refine Rn.step (hf := by rfl) (hs := by rfl) ?_
    obtain ⟨a, b, hR⟩ : ∃ a b, pgRs 273 316 = some (11, a, b) := ⟨_, _, rfl⟩
    have hL : (w ++ [(Sum.inl (0, k, Sum.inl f) : mE)])[w.length]? = some (Sum.inl (0, k, Sum.inl f)) := by simp
    obtain ⟨a2, b2, hR2⟩ : ∃ a b, pgRs 273 317 = some (15, a, b) := ⟨_, _, rfl⟩
    refine Rn.step (hf := by rfl) (hs := by simp only [m_step, hR, hw]; rfl) ?_
    refine Rn.step (hf := by rfl) (hs := by simp only [m_step, hR2, hL]; rfl) ?_
    exact Rn.ret (hf := by rfl) (hs := by rfl) (hQ f (fun _ _ _ => rfl))
  · rw [decide_eq_true he]
    refine Rn.step (hf := by rfl) (hs := by rfl) ?_
    refine Rn.step (hf := by rfl) (hs := by simp only [m_step, m_new, m_arr, i32_clamp hk', i32_nn hk', not_false_eq_true, hk, and_self, if_true]; rfl) ?_
    refine Rn.step (hf := by rfl) (hs := by rfl) ?_
    refine Rn.step (hf := by rfl) (hs := by rfl) ?_
    refine Rn.step (hf := by rfl) (hs := by rfl) ?_
    refine Rn.step (hf := by rfl) (hs := by rfl) ?_
    refine Rn.step (hf := by rfl) (hs := by rfl) ?_
    refine Rn.step (hf := by rfl) (hs := by rfl) ?_
    refine Rn.step (hf := by rfl) (hs := by simp only [m_step, m_len1, List.getElem?_append_left hlt, hw]; rfl) ?_
    refine Rn.step (hf := by rfl) (hs := by rfl) ?_
    obtain ⟨a, b, hR⟩ : ∃ a b, pgRs 273 150 = some (12, a, b) := ⟨_, _, rfl⟩
    obtain ⟨a3, hR3⟩ : ∃ a, pgRs 273 304 = some (4, 262, a) := ⟨_, rfl⟩
    have hL : (w ++ [(Sum.inl (0, k, Sum.inl fun _ => 0) : mE)])[w.length]? = some (Sum.inl (0, k, Sum.inl fun _ => 0)) := by simp
    have hA : (w ++ [(Sum.inl (0, k, Sum.inl fun _ => 0) : mE)])[i]? = some (Sum.inl (0, n, Sum.inl f)) := by rw [List.getElem?_append_left hlt, hw]
    have hM := i32_min hn hk'
    have hm : min n k < 2147483648 := by omega
    have hc : m_copy (.inl (0, n, .inl f)) (.inl (0, k, .inl fun _ => 0)) (Int32.ofInt 0) (Int32.ofInt 0) (Int32.ofNat (min n k)) = some (.inl (0, k, .inl (va_cpy f (fun _ => 0) 0 0 (min n k)))) := by
      unfold m_copy
      simp only [i32_clamp hm, show (Int32.ofInt 0).toNatClampNeg = 0 from rfl, i32_nn hm, show ¬ Int32.ofInt 0 < 0 by decide, not_false_eq_true, true_and]
      rw [if_pos (by omega)]
    refine Rn.step (hf := by rfl) (hs := by simp only [m_step, hR3, m_math, hM]; rfl) ?_
    refine Rn.step (hf := by rfl) (hs := by simp only [m_step, hR, hA, hL, hc]; rw [if_pos ⟨Nat.ne_of_lt hlt, by decide⟩]; rfl) ?_
    refine Rn.step (hf := by rfl) (hs := by rfl) ?_
    have hS : (w ++ [(Sum.inl (0, k, Sum.inl fun _ => 0) : mE)]).set w.length (Sum.inl (0, k, Sum.inl (va_cpy f (fun _ => 0) 0 0 (min n k)))) = w ++ [(Sum.inl (0, k, Sum.inl (va_cpy f (fun _ => 0) 0 0 (min n k))) : mE)] := by simp
    rw [hS]
    refine Rn.ret (hf := by rfl) (hs := by rfl) (hQ _ ?_)
    intro j h1 h2
    unfold va_cpy
    rw [if_pos (by omega)]
    congr 1
    omega
end COPY
