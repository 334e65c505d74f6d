/-- what the tables say of a pool entry -/
def pgStat (a : Nat) : String × String × String := match a with
  | 1 => ("ReelBack$Costs", "ABOVE", "[I")
  | 2 => ("ReelBack$Costs", "BODIES", "[I")
  | _ => ("ReelBack$Claims", "WITHOUT_ACT", "[I")
def pgCln : MethodName := ⟨"[I", "clone", "()Ljava/lang/Object;"⟩
/-- the word that a pool entry's row stands for -/
def pgW (own : String) (idx : Nat) (r : Nat × Nat × Int) : Cond := match r with
  | (0, ci, k) => (match vwCl[ci]? with | some (C, T, _) => .fieldLink own idx C (T k.toNat).2.1 (T k.toNat).2.2.1 | none => .tt)
  | (1, ci, k) => (match vwCl[ci]? with | some (C, T, _) => .fieldLinkNest own idx C (T k.toNat).2.1 (T k.toNat).2.2.1 "ReelBack" | none => .tt)
  | (2, a, _) => .fieldLink own idx (pgStat a).1 (pgStat a).2.1 (pgStat a).2.2
  | (3, _, _) => .fieldLink own idx "java/lang/String" "COMPACT_STRINGS" "Z"
  | (4, y, _) => .methodLink own idx (pgN y)
  | (6, y, _) => .methodLink own idx (pgN y)
  | (8, y, _) => .methodLink own idx (pgN y)
  | (5, y, _) => .methodLinkNest own idx (pgN y) "ReelBack"
  | (7, y, _) => .methodLinkNest own idx (pgN y) "ReelBack"
  | (9, y, _) => .methodLinkNest own idx (pgN y) "ReelBack"
  | (10, _, _) => .methodLink own idx Lib.objectInit
  | (11, _, _) => .methodLink own idx pgCln
  | (12, _, _) => .methodLink own idx arraycopyName
  | (13, ci, _) => (match vwCl[ci]? with | some (C, _, _) => .classLink own idx C | none => .tt)
  | (14, t, _) => .classLink own idx (if t = 3 then "ReelBack$Cost" else "[I")
  | (15, _, _) => .classLink own idx "[I"
  | (16, _, b) => .constant own idx (Int32.ofInt b)
  | (17, _, b) => .constantLong own idx (Int64.ofInt b)
  | (18, _, _) => .stringRef own idx "kscelrypnj"
  | (20, _, _) => .fieldLink own idx "java/lang/String" "value" "[B"
  | (21, _, _) => .fieldLink own idx "java/lang/String" "coder" "B"
  | _ => .tt
def pgKd (r : Nat × Nat × Int) : Bool := match r with
  | (0, ci, k) => (match vwCl[ci]? with | some (C, T, N) => decide (k.toNat < N) && decide ((T k.toNat).1 = C) | none => false)
  | (1, ci, k) => (match vwCl[ci]? with | some (C, T, N) => decide (k.toNat < N) && decide ((T k.toNat).1 = C) | none => false)
  | (2, a, _) => Nat.blt 0 a && Nat.blt a 4
  | (3, _, b) => decide (b = 1)
  | (4, y, _) => Nat.blt y 274 && pgS y
  | (5, y, _) => Nat.blt y 274 && pgS y
  | (6, y, _) => Nat.blt y 274 && !pgS y && !decide ((pgN y).name = "<init>")
  | (7, y, _) => Nat.blt y 274 && !pgS y && !decide ((pgN y).name = "<init>")
  | (8, y, _) => Nat.blt y 274 && !pgS y && decide ((pgN y).name = "<init>") && decide (pgT y = none)
  | (9, y, _) => Nat.blt y 274 && !pgS y && decide ((pgN y).name = "<init>") && decide (pgT y = none)
  | (13, ci, _) => Nat.blt ci 13
  | (14, t, _) => Nat.beq t 3 || Nat.beq t 4
  | (18, a, _) => Nat.beq a 4
  | _ => true
def okR (own : String) (q : Nat × (Nat × Nat × Int) × Nat) : Bool := decide (lw_tbl[q.2.2]? = some (pgW own q.1 q.2.1)) && pgKd q.2.1
theorem okR_0 : (pgR.getD 0 []).all (okR (pgO.getD 0 "")) = true := by decide +kernel
theorem okR_1 : (pgR.getD 1 []).all (okR (pgO.getD 1 "")) = true := by decide +kernel
theorem okR_2 : (pgR.getD 2 []).all (okR (pgO.getD 2 "")) = true := by decide +kernel
theorem okR_3 : (pgR.getD 3 []).all (okR (pgO.getD 3 "")) = true := by decide +kernel
theorem okR_4 : (pgR.getD 4 []).all (okR (pgO.getD 4 "")) = true := by decide +kernel
theorem okR_5 : (pgR.getD 5 []).all (okR (pgO.getD 5 "")) = true := by decide +kernel
theorem okR_6 : (pgR.getD 6 []).all (okR (pgO.getD 6 "")) = true := by decide +kernel
theorem okR_7 : (pgR.getD 7 []).all (okR (pgO.getD 7 "")) = true := by decide +kernel
theorem okR_8 : (pgR.getD 8 []).all (okR (pgO.getD 8 "")) = true := by decide +kernel
theorem okR_9 : (pgR.getD 9 []).all (okR (pgO.getD 9 "")) = true := by decide +kernel
theorem okR_10 : (pgR.getD 10 []).all (okR (pgO.getD 10 "")) = true := by decide +kernel
theorem okR_11 : (pgR.getD 11 []).all (okR (pgO.getD 11 "")) = true := by decide +kernel
theorem okR_12 : (pgR.getD 12 []).all (okR (pgO.getD 12 "")) = true := by decide +kernel
theorem okR_13 : (pgR.getD 13 []).all (okR (pgO.getD 13 "")) = true := by decide +kernel
theorem okR_14 : (pgR.getD 14 []).all (okR (pgO.getD 14 "")) = true := by decide +kernel
theorem okR_15 : (pgR.getD 15 []).all (okR (pgO.getD 15 "")) = true := by decide +kernel
theorem okR_16 : (pgR.getD 16 []).all (okR (pgO.getD 16 "")) = true := by decide +kernel
theorem okR_17 : (pgR.getD 17 []).all (okR (pgO.getD 17 "")) = true := by decide +kernel
theorem okR_18 : (pgR.getD 18 []).all (okR (pgO.getD 18 "")) = true := by decide +kernel
theorem okR_19 : (pgR.getD 19 []).all (okR (pgO.getD 19 "")) = true := by decide +kernel
theorem okR_20 : (pgR.getD 20 []).all (okR (pgO.getD 20 "")) = true := by decide +kernel
theorem okR_21 : (pgR.getD 21 []).all (okR (pgO.getD 21 "")) = true := by decide +kernel
theorem okR_all : ∀ o, (pgR.getD o []).all (okR (pgO.getD o "")) = true := by
  intro o
  rcases Nat.lt_or_ge o 22 with h | h
  · rcases (by omega : o = 0 ∨ o = 1 ∨ o = 2 ∨ o = 3 ∨ o = 4 ∨ o = 5 ∨ o = 6 ∨ o = 7 ∨ o = 8 ∨ o = 9 ∨ o = 10 ∨ o = 11 ∨ o = 12 ∨ o = 13 ∨ o = 14 ∨ o = 15 ∨ o = 16 ∨ o = 17 ∨ o = 18 ∨ o = 19 ∨ o = 20 ∨ o = 21) with h | h | h | h | h | h | h | h | h | h | h | h | h | h | h | h | h | h | h | h | h | h <;> subst h
    · exact okR_0
    · exact okR_1
    · exact okR_2
    · exact okR_3
    · exact okR_4
    · exact okR_5
    · exact okR_6
    · exact okR_7
    · exact okR_8
    · exact okR_9
    · exact okR_10
    · exact okR_11
    · exact okR_12
    · exact okR_13
    · exact okR_14
    · exact okR_15
    · exact okR_16
    · exact okR_17
    · exact okR_18
    · exact okR_19
    · exact okR_20
    · exact okR_21
  · have e : pgR.getD o [] = [] := by
      rw [List.getD_eq_getElem?_getD, List.getElem?_eq_none (show pgR.length ≤ o from h)]; rfl
    rw [e]; rfl
/-- of a class: its words on its fields, that it can be made, that it is initialised -/
def okL (i : Nat) (q : Nat × Nat × List Nat) : Bool := match vwCl[i]? with
  | some (C, T, N) => decide (lw_tbl[q.1]? = some (.instantiable C N)) && decide (lw_tbl[q.2.1]? = some (.initialized C)) && (List.range N).all (fun k => decide (lw_tbl[q.2.2.getD k 0]? = some (u_lay C T k)))
  | none => false
theorem okL_all : (List.range 13).all (fun i => okL i (pgLay.getD i (0, 0, []))) = true := by decide +kernel
theorem pgRs_ok {k ix : Nat} {r : Nat × Nat × Int} (h : pgRs k ix = some r) : pgW (pgO.getD (pgOw k) "") ix r ∈ lw_tbl ∧ pgKd r = true := by
  unfold pgRs at h
  cases hm : m_rf (pgR.getD (pgOw k) []) ix with
  | none => rw [hm] at h; cases h
  | some x =>
    rw [hm] at h
    cases h
    have h1 := List.all_eq_true.mp (okR_all (pgOw k)) _ (m_rf_mem hm)
    unfold okR at h1
    rw [Bool.and_eq_true, decide_eq_true_eq] at h1
    exact ⟨List.mem_of_getElem? h1.1, h1.2⟩
theorem pgLay_ok {i : Nat} {C : String} {T : u_T} {N : Nat} (h : vwCl[i]? = some (C, T, N)) : (∀ w ∈ u_ws C T N, w ∈ lw_tbl) ∧ Cond.instantiable C N ∈ lw_tbl ∧ Cond.initialized C ∈ lw_tbl := by
  have hi : i < 13 := (List.getElem?_eq_some_iff.mp h).1
  have h1 := List.all_eq_true.mp okL_all i (List.mem_range.mpr hi)
  unfold okL at h1
  rw [h] at h1
  simp only [Bool.and_eq_true, decide_eq_true_eq] at h1
  obtain ⟨⟨h2, h3⟩, h4⟩ := h1
  refine ⟨fun w hw => ?_, List.mem_of_getElem? h2, List.mem_of_getElem? h3⟩
  obtain ⟨k, hk, rfl⟩ := List.mem_map.mp hw
  have h5 := List.all_eq_true.mp h4 k hk
  exact List.mem_of_getElem? (of_decide_eq_true h5)
