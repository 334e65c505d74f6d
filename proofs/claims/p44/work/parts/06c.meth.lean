theorem pgM_all {k : Nat} (hk : k < 274 ∧ m_pl k = true) : Cond.code (pgN k) (pgB k) (pgL k) (pgT k) ∈ lw_tbl ∧ Cond.initialized (pgN k).cls ∈ lw_tbl ∧ (pgS k = true → Cond.static (pgN k) ∈ lw_tbl) ∧ (pgS k = false → Cond.instanceMethod (pgN k) ∈ lw_tbl) ∧
    (pgS k = false → ¬ (pgN k).name = "<init>" → Cond.selects (pgN k).cls (pgN k) (pgN k) ∈ lw_tbl) ∧ ((pgN k).cls ≠ "java/lang/invoke/MethodHandle" ∧ (pgN k).cls ≠ "java/lang/invoke/VarHandle" ∧ (parseMethodDescriptor (pgN k).desc).map (fun d => d.parameters.length) = some (pgA k)) ∧
    plainName (pgN k).cls = true ∧ pgO.getD (pgOw k) "" = (pgN k).cls ∧ pgL k ≤ 60 := by
  obtain ⟨hk, hp⟩ := hk
  have h := okP_all k hk hp
  unfold pgN pgB pgL pgT pgA pgS pgOw
  generalize pgRw k = rr at h ⊢
  obtain ⟨y, b, ml, ret, n, st, o, p1, p2, p3, p4⟩ := rr
  exact h
theorem pgOw_ok {k : Nat} (hk : k < 275) : pgO.getD (pgOw k) "" = (pgN k).cls := by
  cases hp : m_pl k with
  | false =>
    unfold m_pl at hp
    simp only [Bool.not_eq_false', Bool.and_eq_true] at hp
    have h1 : 259 < k := Nat.le_of_ble_eq_true hp.1
    have h2 : k < 264 := Nat.le_of_ble_eq_true hp.2
    rcases (by omega : k = 260 ∨ k = 261 ∨ k = 262 ∨ k = 263) with e | e | e | e <;> subst e <;> decide +kernel
  | true =>
    rcases Nat.lt_or_ge k 274 with q | q
    · exact (pgM_all ⟨q, hp⟩).2.2.2.2.2.2.2.1
    · have e : k = 274 := by omega
      subst e
      decide +kernel
