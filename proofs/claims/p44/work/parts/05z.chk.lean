theorem okC_all : ∀ k, k < 275 → okC (pgB k) (pgCd k) = true := by
  intro k hk
  rcases (by omega : (0 ≤ k ∧ k < 25) ∨ (25 ≤ k ∧ k < 50) ∨ (50 ≤ k ∧ k < 75) ∨ (75 ≤ k ∧ k < 100) ∨ (100 ≤ k ∧ k < 125) ∨ (125 ≤ k ∧ k < 150) ∨ (150 ≤ k ∧ k < 175) ∨ (175 ≤ k ∧ k < 200) ∨ (200 ≤ k ∧ k < 225) ∨ (225 ≤ k ∧ k < 250) ∨ (250 ≤ k ∧ k < 275)) with e | e | e | e | e | e | e | e | e | e | e
  · exact okCs_ok okCs_0 e.1 (by omega)
  · exact okCs_ok okCs_25 e.1 (by omega)
  · exact okCs_ok okCs_50 e.1 (by omega)
  · exact okCs_ok okCs_75 e.1 (by omega)
  · exact okCs_ok okCs_100 e.1 (by omega)
  · exact okCs_ok okCs_125 e.1 (by omega)
  · exact okCs_ok okCs_150 e.1 (by omega)
  · exact okCs_ok okCs_175 e.1 (by omega)
  · exact okCs_ok okCs_200 e.1 (by omega)
  · exact okCs_ok okCs_225 e.1 (by omega)
  · exact okCs_ok okCs_250 e.1 (by omega)
theorem m_find_mem {l : List (Nat × Instr × Nat)} {i : Nat} {x : Instr × Nat} (h : m_find l i = some x) : (i, x) ∈ l := by
  induction l with
  | nil => cases h
  | cons q l ih =>
    obtain ⟨j, u⟩ := q
    simp only [m_find] at h
    cases hb : Nat.beq j i with
    | true =>
      rw [hb] at h
      cases h
      have := Nat.eq_of_beq_eq_true hb
      subst this
      exact List.mem_cons_self
    | false =>
      rw [hb] at h
      exact List.mem_cons_of_mem _ (ih h)
theorem pgF_lt {k pc : Nat} {q : Instr × Nat} (h : pgF k pc = some q) : k < 275 := by
  unfold pgF at h
  cases hb : Nat.blt k 275 with
  | true => exact Nat.le_of_ble_eq_true hb
  | false => rw [hb] at h; cases h
theorem pgF_ok {k pc : Nat} {ins : Instr} {n : Nat} (h : pgF k pc = some (ins, n)) : decode (pgB k) pc = .ok (ins, m_len ins n) := by
  have hk := pgF_lt h
  have h3 := okC_all k hk
  unfold pgF at h
  cases hb : Nat.blt k 275 with
  | false => rw [hb] at h; cases h
  | true =>
    rw [hb] at h
    have h2 := m_find_mem (show m_find ((pgCd k).getD (pc / 8) []) pc = some (ins, n) from h)
    unfold okC at h3
    have hmem : (pgCd k).getD (pc / 8) [] ∈ pgCd k := by
      rw [List.getD_eq_getElem?_getD] at h2 ⊢
      cases hg : (pgCd k)[pc / 8]? with
      | none => rw [hg] at h2; cases h2
      | some b => exact List.mem_of_getElem? hg
    have h4 := List.all_eq_true.mp (List.all_eq_true.mp h3 _ hmem) _ h2
    exact of_decide_eq_true h4
