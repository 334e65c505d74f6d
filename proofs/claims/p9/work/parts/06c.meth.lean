theorem pgM_all {k : Nat} (hk : k < 274 ∧ m_pl k = true) : Cond.code (pgN k) (pgB k) (pgL k) (pgT k) ∈ lw_tbl ∧ Cond.initialized (pgN k).cls ∈ lw_tbl ∧ (pgS k = true → Cond.static (pgN k) ∈ lw_tbl) ∧ (pgS k = false → Cond.instanceMethod (pgN k) ∈ lw_tbl) ∧
    (pgS k = false → ¬ (pgN k).name = "<init>" → Cond.selects (pgN k).cls (pgN k) (pgN k) ∈ lw_tbl) ∧ ((pgN k).cls ≠ "java/lang/invoke/MethodHandle" ∧ (pgN k).cls ≠ "java/lang/invoke/VarHandle" ∧ (parseMethodDescriptor (pgN k).desc).map (fun d => d.parameters.length) = some (pgA k)) ∧
    plainName (pgN k).cls = true ∧ pgO.getD (pgOw k) "" = (pgN k).cls ∧ pgL k ≤ 60 := by
  obtain ⟨hk, hp⟩ := hk
  have h := okMid_all k (by omega) hp
  unfold okMid at h
  have hne : Nat.beq k 274 = false := by
    cases hb : Nat.beq k 274 with
    | false => rfl
    | true => have := Nat.eq_of_beq_eq_true hb; omega
  rw [hne, Bool.false_or, Bool.and_eq_true] at h
  have h := h.1
  unfold pgN pgB pgL pgT pgA pgS pgOw
  generalize pgRw k = rr at h ⊢
  obtain ⟨y, b, ml, ret, n, st, o, p1, p2, p3, p4⟩ := rr
  simp only [okM, Bool.and_eq_true, decide_eq_true_eq, Bool.or_eq_true] at h
  obtain ⟨⟨⟨⟨⟨⟨⟨h1, h2⟩, h3⟩, h4⟩, h5⟩, h6⟩, h7⟩, h8⟩ := h
  refine ⟨List.mem_of_getElem? h1, List.mem_of_getElem? h2, fun q => ?_, fun q => ?_, fun q1 q2 => ?_, h5, h6, h7, h8⟩
  · dsimp only at q
    rw [if_pos q, decide_eq_true_eq] at h3
    exact List.mem_of_getElem? h3
  · dsimp only at q
    rw [if_neg (by rw [q]; decide), decide_eq_true_eq] at h3
    exact List.mem_of_getElem? h3
  · dsimp only at q1 q2
    rcases h4 with (h4 | h4) | h4
    · rw [q1] at h4; cases h4
    · exact absurd h4 q2
    · exact List.mem_of_getElem? h4
theorem pgOw_ok {k : Nat} (hk : k < 275) : pgO.getD (pgOw k) "" = (pgN k).cls := by
  cases hp : m_pl k with
  | false =>
    unfold m_pl at hp
    simp only [Bool.not_eq_false', Bool.and_eq_true] at hp
    have h1 : 259 < k := Nat.le_of_ble_eq_true hp.1
    have h2 : k < 264 := Nat.le_of_ble_eq_true hp.2
    rcases (by omega : k = 260 ∨ k = 261 ∨ k = 262 ∨ k = 263) with e | e | e | e <;> subst e <;> decide +kernel
  | true =>
    rcases Nat.lt_or_ge k 274 with q | q
    · exact (pgM_all ⟨q, hp⟩).2.2.2.2.2.2.2.1
    · have e : k = 274 := by omega
      subst e
      decide +kernel
