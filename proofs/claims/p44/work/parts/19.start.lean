theorem aw_ls1 : Cond.laysStatic "ReelBack$Costs" "ABOVE" "[I" ∈ lw_tbl := List.mem_of_getElem? (i := 755) (by decide +kernel)
theorem aw_ls2 : Cond.laysStatic "ReelBack$Costs" "BODIES" "[I" ∈ lw_tbl := List.mem_of_getElem? (i := 1359) (by decide +kernel)
theorem aw_ls3 : Cond.laysStatic "ReelBack$Claims" "WITHOUT_ACT" "[I" ∈ lw_tbl := List.mem_of_getElem? (i := 921) (by decide +kernel)
theorem aw_ls4 : Cond.laysStatic "java/lang/String" "COMPACT_STRINGS" "Z" ∈ lw_tbl := List.mem_of_getElem? (i := 1036) (by decide +kernel)
theorem aw_li1 : Cond.initialized "ReelBack$Costs" ∈ lw_tbl := List.mem_of_getElem? (i := 133) (by decide +kernel)
theorem aw_li3 : Cond.initialized "ReelBack$Claims" ∈ lw_tbl := List.mem_of_getElem? (i := 136) (by decide +kernel)
theorem aw_li4 : Cond.initialized "java/lang/String" ∈ lw_tbl := List.mem_of_getElem? (i := 143) (by decide +kernel)
theorem aw_sr : Cond.stringRef "ReelBack$Reader" 54 "kscelrypnj" ∈ lw_tbl := List.mem_of_getElem? (i := 1022) (by decide +kernel)
/-! WHAT HOLDS AT THE LAW's ENTRY -/
theorem m_selfW {s : State} {b : Nat} (hts : ∀ w ∈ lw_tbl, w.before #[Value.ref b] s = true) : ∀ w ∈ lw_tbl, goodWord w = true → ∀ a : Array Value, w.before a s = true := fun w hw hg a => word_at (State.WarmedH.refl s) (good_of_word hg) (hts w hw)
theorem m_orO {n i : Nat} {p : Nat → Prop} (h : i < n + 1) (h1 : i < n → p i) (h2 : p n) : p i := by
  rcases Nat.lt_or_ge i n with q | q
  · exact h1 q
  · have e : i = n := by omega
    rw [e]; exact h2

theorem ls_above {s : State} {b : Nat} (hs : ∀ c ∈ flatC (Jvm.Cond.and given_1 narrow_1), c.before #[Value.ref b] s = true) : ∃ t : Nat, (Jvm.Term.static "ReelBack$Costs" "ABOVE" "[I").eval #[Value.ref b] s none [] s = some (.ref t) ∧ va_T .int t 7 (fun j => .int (([-1, 0, 0, 2, 0, 2, 4] : List Int32).getD j 0)) (fun q : Nat => s.heap.size ≤ q) s s.heap := by
  refine va_Tof (ty := .int) (N := 7) (by decide) (hs _ (by decide +kernel)) (va_eqt (t := Jvm.Term.length (Jvm.Term.static "ReelBack$Costs" "ABOVE" "[I")) (z := (7 : Int32)) (hs (Jvm.Cond.eq (Jvm.Term.length (Jvm.Term.static "ReelBack$Costs" "ABOVE" "[I")) (Jvm.Term.int (7 : Int32))) (by decide +kernel))) (fun j hj => ?_) (fun a ha => Nat.not_le.mpr ha)
  revert hj
  refine fun hj => ?_
  refine m_orO (p := fun j => (Jvm.Term.elem (Jvm.Term.static "ReelBack$Costs" "ABOVE" "[I") (.int (Int32.ofNat j))).eval #[Value.ref b] s none [] s = some (.int (([-1, 0, 0, 2, 0, 2, 4] : List Int32).getD j 0))) hj (fun hj => ?_) (va_eqt (z := (4 : Int32)) (hs (Jvm.Cond.eq (Jvm.Term.elem (Jvm.Term.static "ReelBack$Costs" "ABOVE" "[I") (.int (6 : Int32))) (.int (4 : Int32))) (by decide +kernel)))
  refine m_orO (p := fun j => (Jvm.Term.elem (Jvm.Term.static "ReelBack$Costs" "ABOVE" "[I") (.int (Int32.ofNat j))).eval #[Value.ref b] s none [] s = some (.int (([-1, 0, 0, 2, 0, 2, 4] : List Int32).getD j 0))) hj (fun hj => ?_) (va_eqt (z := (2 : Int32)) (hs (Jvm.Cond.eq (Jvm.Term.elem (Jvm.Term.static "ReelBack$Costs" "ABOVE" "[I") (.int (5 : Int32))) (.int (2 : Int32))) (by decide +kernel)))
  refine m_orO (p := fun j => (Jvm.Term.elem (Jvm.Term.static "ReelBack$Costs" "ABOVE" "[I") (.int (Int32.ofNat j))).eval #[Value.ref b] s none [] s = some (.int (([-1, 0, 0, 2, 0, 2, 4] : List Int32).getD j 0))) hj (fun hj => ?_) (va_eqt (z := (0 : Int32)) (hs (Jvm.Cond.eq (Jvm.Term.elem (Jvm.Term.static "ReelBack$Costs" "ABOVE" "[I") (.int (4 : Int32))) (.int (0 : Int32))) (by decide +kernel)))
  refine m_orO (p := fun j => (Jvm.Term.elem (Jvm.Term.static "ReelBack$Costs" "ABOVE" "[I") (.int (Int32.ofNat j))).eval #[Value.ref b] s none [] s = some (.int (([-1, 0, 0, 2, 0, 2, 4] : List Int32).getD j 0))) hj (fun hj => ?_) (va_eqt (z := (2 : Int32)) (hs (Jvm.Cond.eq (Jvm.Term.elem (Jvm.Term.static "ReelBack$Costs" "ABOVE" "[I") (.int (3 : Int32))) (.int (2 : Int32))) (by decide +kernel)))
  refine m_orO (p := fun j => (Jvm.Term.elem (Jvm.Term.static "ReelBack$Costs" "ABOVE" "[I") (.int (Int32.ofNat j))).eval #[Value.ref b] s none [] s = some (.int (([-1, 0, 0, 2, 0, 2, 4] : List Int32).getD j 0))) hj (fun hj => ?_) (va_eqt (z := (0 : Int32)) (hs (Jvm.Cond.eq (Jvm.Term.elem (Jvm.Term.static "ReelBack$Costs" "ABOVE" "[I") (.int (2 : Int32))) (.int (0 : Int32))) (by decide +kernel)))
  refine m_orO (p := fun j => (Jvm.Term.elem (Jvm.Term.static "ReelBack$Costs" "ABOVE" "[I") (.int (Int32.ofNat j))).eval #[Value.ref b] s none [] s = some (.int (([-1, 0, 0, 2, 0, 2, 4] : List Int32).getD j 0))) hj (fun hj => ?_) (va_eqt (z := (0 : Int32)) (hs (Jvm.Cond.eq (Jvm.Term.elem (Jvm.Term.static "ReelBack$Costs" "ABOVE" "[I") (.int (1 : Int32))) (.int (0 : Int32))) (by decide +kernel)))
  refine m_orO (p := fun j => (Jvm.Term.elem (Jvm.Term.static "ReelBack$Costs" "ABOVE" "[I") (.int (Int32.ofNat j))).eval #[Value.ref b] s none [] s = some (.int (([-1, 0, 0, 2, 0, 2, 4] : List Int32).getD j 0))) hj (fun hj => ?_) (va_eqt (z := (-1 : Int32)) (hs (Jvm.Cond.eq (Jvm.Term.elem (Jvm.Term.static "ReelBack$Costs" "ABOVE" "[I") (.int (0 : Int32))) (.int (-1 : Int32))) (by decide +kernel)))
  exact absurd hj (Nat.not_lt_zero _)
theorem ls_bodies {s : State} {b : Nat} (hs : ∀ c ∈ flatC (Jvm.Cond.and given_1 narrow_1), c.before #[Value.ref b] s = true) : ∃ t : Nat, (Jvm.Term.static "ReelBack$Costs" "BODIES" "[I").eval #[Value.ref b] s none [] s = some (.ref t) ∧ va_T .int t 21 (fun j => .int (([10, 0, 30, 0, 0, 60, 0, 11, 20, 0, 0, 50, 0, 70, 12, 0, 0, 40, 0, 61, 0] : List Int32).getD j 0)) (fun q : Nat => s.heap.size ≤ q) s s.heap := by
  refine va_Tof (ty := .int) (N := 21) (by decide) (hs _ (by decide +kernel)) (va_eqt (t := Jvm.Term.length (Jvm.Term.static "ReelBack$Costs" "BODIES" "[I")) (z := (21 : Int32)) (hs (Jvm.Cond.eq (Jvm.Term.length (Jvm.Term.static "ReelBack$Costs" "BODIES" "[I")) (Jvm.Term.int (21 : Int32))) (by decide +kernel))) (fun j hj => ?_) (fun a ha => Nat.not_le.mpr ha)
  revert hj
  refine fun hj => ?_
  refine m_orO (p := fun j => (Jvm.Term.elem (Jvm.Term.static "ReelBack$Costs" "BODIES" "[I") (.int (Int32.ofNat j))).eval #[Value.ref b] s none [] s = some (.int (([10, 0, 30, 0, 0, 60, 0, 11, 20, 0, 0, 50, 0, 70, 12, 0, 0, 40, 0, 61, 0] : List Int32).getD j 0))) hj (fun hj => ?_) (va_eqt (z := (0 : Int32)) (hs (Jvm.Cond.eq (Jvm.Term.elem (Jvm.Term.static "ReelBack$Costs" "BODIES" "[I") (.int (20 : Int32))) (.int (0 : Int32))) (by decide +kernel)))
  refine m_orO (p := fun j => (Jvm.Term.elem (Jvm.Term.static "ReelBack$Costs" "BODIES" "[I") (.int (Int32.ofNat j))).eval #[Value.ref b] s none [] s = some (.int (([10, 0, 30, 0, 0, 60, 0, 11, 20, 0, 0, 50, 0, 70, 12, 0, 0, 40, 0, 61, 0] : List Int32).getD j 0))) hj (fun hj => ?_) (va_eqt (z := (61 : Int32)) (hs (Jvm.Cond.eq (Jvm.Term.elem (Jvm.Term.static "ReelBack$Costs" "BODIES" "[I") (.int (19 : Int32))) (.int (61 : Int32))) (by decide +kernel)))
  refine m_orO (p := fun j => (Jvm.Term.elem (Jvm.Term.static "ReelBack$Costs" "BODIES" "[I") (.int (Int32.ofNat j))).eval #[Value.ref b] s none [] s = some (.int (([10, 0, 30, 0, 0, 60, 0, 11, 20, 0, 0, 50, 0, 70, 12, 0, 0, 40, 0, 61, 0] : List Int32).getD j 0))) hj (fun hj => ?_) (va_eqt (z := (0 : Int32)) (hs (Jvm.Cond.eq (Jvm.Term.elem (Jvm.Term.static "ReelBack$Costs" "BODIES" "[I") (.int (18 : Int32))) (.int (0 : Int32))) (by decide +kernel)))
  refine m_orO (p := fun j => (Jvm.Term.elem (Jvm.Term.static "ReelBack$Costs" "BODIES" "[I") (.int (Int32.ofNat j))).eval #[Value.ref b] s none [] s = some (.int (([10, 0, 30, 0, 0, 60, 0, 11, 20, 0, 0, 50, 0, 70, 12, 0, 0, 40, 0, 61, 0] : List Int32).getD j 0))) hj (fun hj => ?_) (va_eqt (z := (40 : Int32)) (hs (Jvm.Cond.eq (Jvm.Term.elem (Jvm.Term.static "ReelBack$Costs" "BODIES" "[I") (.int (17 : Int32))) (.int (40 : Int32))) (by decide +kernel)))
  refine m_orO (p := fun j => (Jvm.Term.elem (Jvm.Term.static "ReelBack$Costs" "BODIES" "[I") (.int (Int32.ofNat j))).eval #[Value.ref b] s none [] s = some (.int (([10, 0, 30, 0, 0, 60, 0, 11, 20, 0, 0, 50, 0, 70, 12, 0, 0, 40, 0, 61, 0] : List Int32).getD j 0))) hj (fun hj => ?_) (va_eqt (z := (0 : Int32)) (hs (Jvm.Cond.eq (Jvm.Term.elem (Jvm.Term.static "ReelBack$Costs" "BODIES" "[I") (.int (16 : Int32))) (.int (0 : Int32))) (by decide +kernel)))
  refine m_orO (p := fun j => (Jvm.Term.elem (Jvm.Term.static "ReelBack$Costs" "BODIES" "[I") (.int (Int32.ofNat j))).eval #[Value.ref b] s none [] s = some (.int (([10, 0, 30, 0, 0, 60, 0, 11, 20, 0, 0, 50, 0, 70, 12, 0, 0, 40, 0, 61, 0] : List Int32).getD j 0))) hj (fun hj => ?_) (va_eqt (z := (0 : Int32)) (hs (Jvm.Cond.eq (Jvm.Term.elem (Jvm.Term.static "ReelBack$Costs" "BODIES" "[I") (.int (15 : Int32))) (.int (0 : Int32))) (by decide +kernel)))
  refine m_orO (p := fun j => (Jvm.Term.elem (Jvm.Term.static "ReelBack$Costs" "BODIES" "[I") (.int (Int32.ofNat j))).eval #[Value.ref b] s none [] s = some (.int (([10, 0, 30, 0, 0, 60, 0, 11, 20, 0, 0, 50, 0, 70, 12, 0, 0, 40, 0, 61, 0] : List Int32).getD j 0))) hj (fun hj => ?_) (va_eqt (z := (12 : Int32)) (hs (Jvm.Cond.eq (Jvm.Term.elem (Jvm.Term.static "ReelBack$Costs" "BODIES" "[I") (.int (14 : Int32))) (.int (12 : Int32))) (by decide +kernel)))
  refine m_orO (p := fun j => (Jvm.Term.elem (Jvm.Term.static "ReelBack$Costs" "BODIES" "[I") (.int (Int32.ofNat j))).eval #[Value.ref b] s none [] s = some (.int (([10, 0, 30, 0, 0, 60, 0, 11, 20, 0, 0, 50, 0, 70, 12, 0, 0, 40, 0, 61, 0] : List Int32).getD j 0))) hj (fun hj => ?_) (va_eqt (z := (70 : Int32)) (hs (Jvm.Cond.eq (Jvm.Term.elem (Jvm.Term.static "ReelBack$Costs" "BODIES" "[I") (.int (13 : Int32))) (.int (70 : Int32))) (by decide +kernel)))
  refine m_orO (p := fun j => (Jvm.Term.elem (Jvm.Term.static "ReelBack$Costs" "BODIES" "[I") (.int (Int32.ofNat j))).eval #[Value.ref b] s none [] s = some (.int (([10, 0, 30, 0, 0, 60, 0, 11, 20, 0, 0, 50, 0, 70, 12, 0, 0, 40, 0, 61, 0] : List Int32).getD j 0))) hj (fun hj => ?_) (va_eqt (z := (0 : Int32)) (hs (Jvm.Cond.eq (Jvm.Term.elem (Jvm.Term.static "ReelBack$Costs" "BODIES" "[I") (.int (12 : Int32))) (.int (0 : Int32))) (by decide +kernel)))
  refine m_orO (p := fun j => (Jvm.Term.elem (Jvm.Term.static "ReelBack$Costs" "BODIES" "[I") (.int (Int32.ofNat j))).eval #[Value.ref b] s none [] s = some (.int (([10, 0, 30, 0, 0, 60, 0, 11, 20, 0, 0, 50, 0, 70, 12, 0, 0, 40, 0, 61, 0] : List Int32).getD j 0))) hj (fun hj => ?_) (va_eqt (z := (50 : Int32)) (hs (Jvm.Cond.eq (Jvm.Term.elem (Jvm.Term.static "ReelBack$Costs" "BODIES" "[I") (.int (11 : Int32))) (.int (50 : Int32))) (by decide +kernel)))
  refine m_orO (p := fun j => (Jvm.Term.elem (Jvm.Term.static "ReelBack$Costs" "BODIES" "[I") (.int (Int32.ofNat j))).eval #[Value.ref b] s none [] s = some (.int (([10, 0, 30, 0, 0, 60, 0, 11, 20, 0, 0, 50, 0, 70, 12, 0, 0, 40, 0, 61, 0] : List Int32).getD j 0))) hj (fun hj => ?_) (va_eqt (z := (0 : Int32)) (hs (Jvm.Cond.eq (Jvm.Term.elem (Jvm.Term.static "ReelBack$Costs" "BODIES" "[I") (.int (10 : Int32))) (.int (0 : Int32))) (by decide +kernel)))
  refine m_orO (p := fun j => (Jvm.Term.elem (Jvm.Term.static "ReelBack$Costs" "BODIES" "[I") (.int (Int32.ofNat j))).eval #[Value.ref b] s none [] s = some (.int (([10, 0, 30, 0, 0, 60, 0, 11, 20, 0, 0, 50, 0, 70, 12, 0, 0, 40, 0, 61, 0] : List Int32).getD j 0))) hj (fun hj => ?_) (va_eqt (z := (0 : Int32)) (hs (Jvm.Cond.eq (Jvm.Term.elem (Jvm.Term.static "ReelBack$Costs" "BODIES" "[I") (.int (9 : Int32))) (.int (0 : Int32))) (by decide +kernel)))
  refine m_orO (p := fun j => (Jvm.Term.elem (Jvm.Term.static "ReelBack$Costs" "BODIES" "[I") (.int (Int32.ofNat j))).eval #[Value.ref b] s none [] s = some (.int (([10, 0, 30, 0, 0, 60, 0, 11, 20, 0, 0, 50, 0, 70, 12, 0, 0, 40, 0, 61, 0] : List Int32).getD j 0))) hj (fun hj => ?_) (va_eqt (z := (20 : Int32)) (hs (Jvm.Cond.eq (Jvm.Term.elem (Jvm.Term.static "ReelBack$Costs" "BODIES" "[I") (.int (8 : Int32))) (.int (20 : Int32))) (by decide +kernel)))
  refine m_orO (p := fun j => (Jvm.Term.elem (Jvm.Term.static "ReelBack$Costs" "BODIES" "[I") (.int (Int32.ofNat j))).eval #[Value.ref b] s none [] s = some (.int (([10, 0, 30, 0, 0, 60, 0, 11, 20, 0, 0, 50, 0, 70, 12, 0, 0, 40, 0, 61, 0] : List Int32).getD j 0))) hj (fun hj => ?_) (va_eqt (z := (11 : Int32)) (hs (Jvm.Cond.eq (Jvm.Term.elem (Jvm.Term.static "ReelBack$Costs" "BODIES" "[I") (.int (7 : Int32))) (.int (11 : Int32))) (by decide +kernel)))
  refine m_orO (p := fun j => (Jvm.Term.elem (Jvm.Term.static "ReelBack$Costs" "BODIES" "[I") (.int (Int32.ofNat j))).eval #[Value.ref b] s none [] s = some (.int (([10, 0, 30, 0, 0, 60, 0, 11, 20, 0, 0, 50, 0, 70, 12, 0, 0, 40, 0, 61, 0] : List Int32).getD j 0))) hj (fun hj => ?_) (va_eqt (z := (0 : Int32)) (hs (Jvm.Cond.eq (Jvm.Term.elem (Jvm.Term.static "ReelBack$Costs" "BODIES" "[I") (.int (6 : Int32))) (.int (0 : Int32))) (by decide +kernel)))
  refine m_orO (p := fun j => (Jvm.Term.elem (Jvm.Term.static "ReelBack$Costs" "BODIES" "[I") (.int (Int32.ofNat j))).eval #[Value.ref b] s none [] s = some (.int (([10, 0, 30, 0, 0, 60, 0, 11, 20, 0, 0, 50, 0, 70, 12, 0, 0, 40, 0, 61, 0] : List Int32).getD j 0))) hj (fun hj => ?_) (va_eqt (z := (60 : Int32)) (hs (Jvm.Cond.eq (Jvm.Term.elem (Jvm.Term.static "ReelBack$Costs" "BODIES" "[I") (.int (5 : Int32))) (.int (60 : Int32))) (by decide +kernel)))
  refine m_orO (p := fun j => (Jvm.Term.elem (Jvm.Term.static "ReelBack$Costs" "BODIES" "[I") (.int (Int32.ofNat j))).eval #[Value.ref b] s none [] s = some (.int (([10, 0, 30, 0, 0, 60, 0, 11, 20, 0, 0, 50, 0, 70, 12, 0, 0, 40, 0, 61, 0] : List Int32).getD j 0))) hj (fun hj => ?_) (va_eqt (z := (0 : Int32)) (hs (Jvm.Cond.eq (Jvm.Term.elem (Jvm.Term.static "ReelBack$Costs" "BODIES" "[I") (.int (4 : Int32))) (.int (0 : Int32))) (by decide +kernel)))
  refine m_orO (p := fun j => (Jvm.Term.elem (Jvm.Term.static "ReelBack$Costs" "BODIES" "[I") (.int (Int32.ofNat j))).eval #[Value.ref b] s none [] s = some (.int (([10, 0, 30, 0, 0, 60, 0, 11, 20, 0, 0, 50, 0, 70, 12, 0, 0, 40, 0, 61, 0] : List Int32).getD j 0))) hj (fun hj => ?_) (va_eqt (z := (0 : Int32)) (hs (Jvm.Cond.eq (Jvm.Term.elem (Jvm.Term.static "ReelBack$Costs" "BODIES" "[I") (.int (3 : Int32))) (.int (0 : Int32))) (by decide +kernel)))
  refine m_orO (p := fun j => (Jvm.Term.elem (Jvm.Term.static "ReelBack$Costs" "BODIES" "[I") (.int (Int32.ofNat j))).eval #[Value.ref b] s none [] s = some (.int (([10, 0, 30, 0, 0, 60, 0, 11, 20, 0, 0, 50, 0, 70, 12, 0, 0, 40, 0, 61, 0] : List Int32).getD j 0))) hj (fun hj => ?_) (va_eqt (z := (30 : Int32)) (hs (Jvm.Cond.eq (Jvm.Term.elem (Jvm.Term.static "ReelBack$Costs" "BODIES" "[I") (.int (2 : Int32))) (.int (30 : Int32))) (by decide +kernel)))
  refine m_orO (p := fun j => (Jvm.Term.elem (Jvm.Term.static "ReelBack$Costs" "BODIES" "[I") (.int (Int32.ofNat j))).eval #[Value.ref b] s none [] s = some (.int (([10, 0, 30, 0, 0, 60, 0, 11, 20, 0, 0, 50, 0, 70, 12, 0, 0, 40, 0, 61, 0] : List Int32).getD j 0))) hj (fun hj => ?_) (va_eqt (z := (0 : Int32)) (hs (Jvm.Cond.eq (Jvm.Term.elem (Jvm.Term.static "ReelBack$Costs" "BODIES" "[I") (.int (1 : Int32))) (.int (0 : Int32))) (by decide +kernel)))
  refine m_orO (p := fun j => (Jvm.Term.elem (Jvm.Term.static "ReelBack$Costs" "BODIES" "[I") (.int (Int32.ofNat j))).eval #[Value.ref b] s none [] s = some (.int (([10, 0, 30, 0, 0, 60, 0, 11, 20, 0, 0, 50, 0, 70, 12, 0, 0, 40, 0, 61, 0] : List Int32).getD j 0))) hj (fun hj => ?_) (va_eqt (z := (10 : Int32)) (hs (Jvm.Cond.eq (Jvm.Term.elem (Jvm.Term.static "ReelBack$Costs" "BODIES" "[I") (.int (0 : Int32))) (.int (10 : Int32))) (by decide +kernel)))
  exact absurd hj (Nat.not_lt_zero _)
theorem ls_acts {s : State} {b : Nat} (hs : ∀ c ∈ flatC (Jvm.Cond.and given_1 narrow_1), c.before #[Value.ref b] s = true) : ∃ t : Nat, (Jvm.Term.static "ReelBack$Claims" "WITHOUT_ACT" "[I").eval #[Value.ref b] s none [] s = some (.ref t) ∧ va_T .int t 5 (fun j => .int (([100, 30, 0, 99999999, 0] : List Int32).getD j 0)) (fun q : Nat => s.heap.size ≤ q) s s.heap := by
  refine va_Tof (ty := .int) (N := 5) (by decide) (hs _ (by decide +kernel)) (va_eqt (t := Jvm.Term.length (Jvm.Term.static "ReelBack$Claims" "WITHOUT_ACT" "[I")) (z := (5 : Int32)) (hs (Jvm.Cond.eq (Jvm.Term.length (Jvm.Term.static "ReelBack$Claims" "WITHOUT_ACT" "[I")) (Jvm.Term.int (5 : Int32))) (by decide +kernel))) (fun j hj => ?_) (fun a ha => Nat.not_le.mpr ha)
  revert hj
  refine fun hj => ?_
  refine m_orO (p := fun j => (Jvm.Term.elem (Jvm.Term.static "ReelBack$Claims" "WITHOUT_ACT" "[I") (.int (Int32.ofNat j))).eval #[Value.ref b] s none [] s = some (.int (([100, 30, 0, 99999999, 0] : List Int32).getD j 0))) hj (fun hj => ?_) (va_eqt (z := (0 : Int32)) (hs (Jvm.Cond.eq (Jvm.Term.elem (Jvm.Term.static "ReelBack$Claims" "WITHOUT_ACT" "[I") (.int (4 : Int32))) (.int (0 : Int32))) (by decide +kernel)))
  refine m_orO (p := fun j => (Jvm.Term.elem (Jvm.Term.static "ReelBack$Claims" "WITHOUT_ACT" "[I") (.int (Int32.ofNat j))).eval #[Value.ref b] s none [] s = some (.int (([100, 30, 0, 99999999, 0] : List Int32).getD j 0))) hj (fun hj => ?_) (va_eqt (z := (99999999 : Int32)) (hs (Jvm.Cond.eq (Jvm.Term.elem (Jvm.Term.static "ReelBack$Claims" "WITHOUT_ACT" "[I") (.int (3 : Int32))) (.int (99999999 : Int32))) (by decide +kernel)))
  refine m_orO (p := fun j => (Jvm.Term.elem (Jvm.Term.static "ReelBack$Claims" "WITHOUT_ACT" "[I") (.int (Int32.ofNat j))).eval #[Value.ref b] s none [] s = some (.int (([100, 30, 0, 99999999, 0] : List Int32).getD j 0))) hj (fun hj => ?_) (va_eqt (z := (0 : Int32)) (hs (Jvm.Cond.eq (Jvm.Term.elem (Jvm.Term.static "ReelBack$Claims" "WITHOUT_ACT" "[I") (.int (2 : Int32))) (.int (0 : Int32))) (by decide +kernel)))
  refine m_orO (p := fun j => (Jvm.Term.elem (Jvm.Term.static "ReelBack$Claims" "WITHOUT_ACT" "[I") (.int (Int32.ofNat j))).eval #[Value.ref b] s none [] s = some (.int (([100, 30, 0, 99999999, 0] : List Int32).getD j 0))) hj (fun hj => ?_) (va_eqt (z := (30 : Int32)) (hs (Jvm.Cond.eq (Jvm.Term.elem (Jvm.Term.static "ReelBack$Claims" "WITHOUT_ACT" "[I") (.int (1 : Int32))) (.int (30 : Int32))) (by decide +kernel)))
  refine m_orO (p := fun j => (Jvm.Term.elem (Jvm.Term.static "ReelBack$Claims" "WITHOUT_ACT" "[I") (.int (Int32.ofNat j))).eval #[Value.ref b] s none [] s = some (.int (([100, 30, 0, 99999999, 0] : List Int32).getD j 0))) hj (fun hj => ?_) (va_eqt (z := (100 : Int32)) (hs (Jvm.Cond.eq (Jvm.Term.elem (Jvm.Term.static "ReelBack$Claims" "WITHOUT_ACT" "[I") (.int (0 : Int32))) (.int (100 : Int32))) (by decide +kernel)))
  exact absurd hj (Nat.not_lt_zero _)
theorem ls_str {s : State} {b : Nat} (hs : ∀ c ∈ flatC (Jvm.Cond.and given_1 narrow_1), c.before #[Value.ref b] s = true) : ∃ k v : Nat, (Jvm.Term.string "ReelBack$Reader" 54).eval #[Value.ref b] s none [] s = some (.ref k) ∧ va_O "java/lang/String" k (fun q : Nat => s.heap.size ≤ q) s s.heap ∧
    va_OF "java/lang/String" "coder" "B" (.int 0) k (fun q : Nat => s.heap.size ≤ q) s s.heap ∧ va_OF "java/lang/String" "value" "[B" (.ref v) k (fun q : Nat => s.heap.size ≤ q) s s.heap ∧ va_T .byte v 10 (fun j => .int (([107, 115, 99, 101, 108, 114, 121, 112, 110, 106] : List Int32).getD j 0)) (fun q : Nat => s.heap.size ≤ q) s s.heap := by
  have key : ∀ i : Nat, i < 1 → i = 0 := fun i h => by omega
  obtain ⟨adK, adV, h1, h2⟩ := vk_Sof (args := #[Value.ref b]) (s := s) (N := 1) (tm := fun _ => Jvm.Term.string "ReelBack$Reader" 54) (len := [10]) (byt := [[107, 115, 99, 101, 108, 114, 121, 112, 110, 106]]) (A := fun q : Nat => s.heap.size ≤ q)
    (fun i hi => by rw [key i hi]; decide) (fun i hi => hs _ (by decide +kernel)) (fun i hi => hs _ (by decide +kernel)) (fun i hi => hs _ (by decide +kernel)) (fun i hi => by rw [key i hi]; exact hs (Jvm.Cond.eq (.length (.field (Jvm.Term.string "ReelBack$Reader" 54) "java/lang/String" "value" "[B")) (.int (10 : Int32))) (by decide +kernel))
    (fun i hi j hj => by
      have e := key i hi
      subst e
      have hj : j < 10 := hj
      refine m_orO (p := fun j => (Cond.eq (.elem (.field (Jvm.Term.string "ReelBack$Reader" 54) "java/lang/String" "value" "[B") (.int (Int32.ofNat j))) (.int ((([[107, 115, 99, 101, 108, 114, 121, 112, 110, 106]] : List (List Int32)).getD 0 []).getD j 0))).before #[Value.ref b] s = true) hj (fun hj => ?_) (hs (Jvm.Cond.eq (.elem (.field (Jvm.Term.string "ReelBack$Reader" 54) "java/lang/String" "value" "[B") (.int (9 : Int32))) (.int (106 : Int32))) (by decide +kernel))
      refine m_orO (p := fun j => (Cond.eq (.elem (.field (Jvm.Term.string "ReelBack$Reader" 54) "java/lang/String" "value" "[B") (.int (Int32.ofNat j))) (.int ((([[107, 115, 99, 101, 108, 114, 121, 112, 110, 106]] : List (List Int32)).getD 0 []).getD j 0))).before #[Value.ref b] s = true) hj (fun hj => ?_) (hs (Jvm.Cond.eq (.elem (.field (Jvm.Term.string "ReelBack$Reader" 54) "java/lang/String" "value" "[B") (.int (8 : Int32))) (.int (110 : Int32))) (by decide +kernel))
      refine m_orO (p := fun j => (Cond.eq (.elem (.field (Jvm.Term.string "ReelBack$Reader" 54) "java/lang/String" "value" "[B") (.int (Int32.ofNat j))) (.int ((([[107, 115, 99, 101, 108, 114, 121, 112, 110, 106]] : List (List Int32)).getD 0 []).getD j 0))).before #[Value.ref b] s = true) hj (fun hj => ?_) (hs (Jvm.Cond.eq (.elem (.field (Jvm.Term.string "ReelBack$Reader" 54) "java/lang/String" "value" "[B") (.int (7 : Int32))) (.int (112 : Int32))) (by decide +kernel))
      refine m_orO (p := fun j => (Cond.eq (.elem (.field (Jvm.Term.string "ReelBack$Reader" 54) "java/lang/String" "value" "[B") (.int (Int32.ofNat j))) (.int ((([[107, 115, 99, 101, 108, 114, 121, 112, 110, 106]] : List (List Int32)).getD 0 []).getD j 0))).before #[Value.ref b] s = true) hj (fun hj => ?_) (hs (Jvm.Cond.eq (.elem (.field (Jvm.Term.string "ReelBack$Reader" 54) "java/lang/String" "value" "[B") (.int (6 : Int32))) (.int (121 : Int32))) (by decide +kernel))
      refine m_orO (p := fun j => (Cond.eq (.elem (.field (Jvm.Term.string "ReelBack$Reader" 54) "java/lang/String" "value" "[B") (.int (Int32.ofNat j))) (.int ((([[107, 115, 99, 101, 108, 114, 121, 112, 110, 106]] : List (List Int32)).getD 0 []).getD j 0))).before #[Value.ref b] s = true) hj (fun hj => ?_) (hs (Jvm.Cond.eq (.elem (.field (Jvm.Term.string "ReelBack$Reader" 54) "java/lang/String" "value" "[B") (.int (5 : Int32))) (.int (114 : Int32))) (by decide +kernel))
      refine m_orO (p := fun j => (Cond.eq (.elem (.field (Jvm.Term.string "ReelBack$Reader" 54) "java/lang/String" "value" "[B") (.int (Int32.ofNat j))) (.int ((([[107, 115, 99, 101, 108, 114, 121, 112, 110, 106]] : List (List Int32)).getD 0 []).getD j 0))).before #[Value.ref b] s = true) hj (fun hj => ?_) (hs (Jvm.Cond.eq (.elem (.field (Jvm.Term.string "ReelBack$Reader" 54) "java/lang/String" "value" "[B") (.int (4 : Int32))) (.int (108 : Int32))) (by decide +kernel))
      refine m_orO (p := fun j => (Cond.eq (.elem (.field (Jvm.Term.string "ReelBack$Reader" 54) "java/lang/String" "value" "[B") (.int (Int32.ofNat j))) (.int ((([[107, 115, 99, 101, 108, 114, 121, 112, 110, 106]] : List (List Int32)).getD 0 []).getD j 0))).before #[Value.ref b] s = true) hj (fun hj => ?_) (hs (Jvm.Cond.eq (.elem (.field (Jvm.Term.string "ReelBack$Reader" 54) "java/lang/String" "value" "[B") (.int (3 : Int32))) (.int (101 : Int32))) (by decide +kernel))
      refine m_orO (p := fun j => (Cond.eq (.elem (.field (Jvm.Term.string "ReelBack$Reader" 54) "java/lang/String" "value" "[B") (.int (Int32.ofNat j))) (.int ((([[107, 115, 99, 101, 108, 114, 121, 112, 110, 106]] : List (List Int32)).getD 0 []).getD j 0))).before #[Value.ref b] s = true) hj (fun hj => ?_) (hs (Jvm.Cond.eq (.elem (.field (Jvm.Term.string "ReelBack$Reader" 54) "java/lang/String" "value" "[B") (.int (2 : Int32))) (.int (99 : Int32))) (by decide +kernel))
      refine m_orO (p := fun j => (Cond.eq (.elem (.field (Jvm.Term.string "ReelBack$Reader" 54) "java/lang/String" "value" "[B") (.int (Int32.ofNat j))) (.int ((([[107, 115, 99, 101, 108, 114, 121, 112, 110, 106]] : List (List Int32)).getD 0 []).getD j 0))).before #[Value.ref b] s = true) hj (fun hj => ?_) (hs (Jvm.Cond.eq (.elem (.field (Jvm.Term.string "ReelBack$Reader" 54) "java/lang/String" "value" "[B") (.int (1 : Int32))) (.int (115 : Int32))) (by decide +kernel))
      refine m_orO (p := fun j => (Cond.eq (.elem (.field (Jvm.Term.string "ReelBack$Reader" 54) "java/lang/String" "value" "[B") (.int (Int32.ofNat j))) (.int ((([[107, 115, 99, 101, 108, 114, 121, 112, 110, 106]] : List (List Int32)).getD 0 []).getD j 0))).before #[Value.ref b] s = true) hj (fun hj => ?_) (hs (Jvm.Cond.eq (.elem (.field (Jvm.Term.string "ReelBack$Reader" 54) "java/lang/String" "value" "[B") (.int (0 : Int32))) (.int (107 : Int32))) (by decide +kernel))
      exact absurd hj (Nat.not_lt_zero _))
    (fun i j hi hj hij => absurd ((key i hi).trans (key j hj).symm) hij) (fun a ha => Nat.not_le.mpr ha)
  obtain ⟨g1, g2, g3, g4⟩ := h1.1 0 (by decide)
  exact ⟨adK 0, adV 0, h2 0 (by decide), g1, g2, g3, g4⟩
theorem ls_cls {s : State} {b : Nat} (hts : ∀ w ∈ lw_tbl, w.before #[Value.ref b] s = true) : ∃ D : va_G, ∀ (k : Nat) (q : vw_C), vwCl[k]? = some q → u_Kn s q.1 q.2.1 q.2.2 (D.1 k) (D.2 k) := by
  have h : ∀ k : Nat, ∃ x : ClassId × (Nat → Nat), ∀ q : vw_C, vwCl[k]? = some q → u_Kn s q.1 q.2.1 q.2.2 x.1 x.2 := by
    intro k
    cases hk : vwCl[k]? with
    | none => exact ⟨(0, fun _ => 0), fun q hq => by cases hq⟩
    | some q =>
      obtain ⟨C, T, N⟩ := q
      obtain ⟨h1, h2, h3⟩ := pgLay_ok hk
      obtain ⟨c0, i0, hKn⟩ := u_known (C := C) (T := T) (N := N) (n := N) (args := #[Value.ref b]) (s := s) (ws := lw_tbl) hts h1 (hts _ h2)
      exact ⟨(c0, i0), fun q hq => by cases hq; exact hKn⟩
  exact ⟨(fun k => (Classical.choose (h k)).1, fun k => (Classical.choose (h k)).2), fun k q hq => Classical.choose_spec (h k) q hq⟩
theorem ls_arr {s : State} {b : Nat} {ty : FieldType} (h : (Cond.arrayClass ty).before #[Value.ref b] s = true) : ∃ cA : ClassId, ArrOfT s cA ty ∧ s.vm.findClass ("[" ++ ty.toString) = some cA := by
  obtain ⟨c, k, comp, h1, h2, h3⟩ := Cond.arrayClass_spec h
  exact ⟨c, fun n z => ⟨(fun k h => by cases h), k, h2, comp, h3⟩, h1⟩
theorem ls_ctx {s : State} {b L : Nat} {xs : Nat → Int32} (hts : ∀ w ∈ lw_tbl, w.before #[Value.ref b] s = true) (hgv : (Jvm.Cond.and given_1 narrow_1).before #[Value.ref b] s = true) (hX : va_X b L xs s s.heap) (hbl : b < s.heap.size) : ∃ (X : Nat → Nat) (dT : Nat → ClassId) (D : va_G), X 0 = b ∧ mCtx s.heap.size L xs X dT D s := by
  have hs := flat_of_before _ hgv
  have hA : ∀ a : Nat, a < s.heap.size → ¬ (s.heap.size ≤ a) := fun a ha => Nat.not_le.mpr ha
  obtain ⟨D, hD⟩ := ls_cls hts
  obtain ⟨cI, hI, nI⟩ := ls_arr (hts _ aw_int)
  obtain ⟨cZ, hZ, nZ⟩ := ls_arr (hts _ aw_bool)
  obtain ⟨cJ, hJ, nJ⟩ := ls_arr (hts _ aw_long)
  obtain ⟨compC, cC, kC, oc1, -, oc3, oc4, oc5⟩ := Cond.arrayOver_spec (hts _ aw_cost)
  obtain ⟨compA, cA, kA, oa1, -, oa3, oa4, oa5⟩ := arrayOverA_spec (hts _ aw_ints)
  obtain ⟨t1, e1, T1⟩ := ls_above hs
  obtain ⟨t2, e2, T2⟩ := ls_bodies hs
  obtain ⟨t3, e3, T3⟩ := ls_acts hs
  obtain ⟨k4, v5, e4, O4, C4, V4, B5⟩ := ls_str hs
  have hcA : compA = cI := Option.some.inj (oa1.symm.trans nI)
  subst hcA
  refine ⟨fun k => if k = 0 then b else if k = 1 then t1 else if k = 2 then t2 else if k = 3 then t3 else if k = 4 then k4 else v5, fun t => if t = 0 then compA else if t = 1 then cZ else if t = 2 then cJ else if t = 3 then cC else cA, D, rfl, m_selfW hts, ?_, ⟨hD, ?_⟩, ⟨?_, ?_, ?_, O4, C4, V4⟩, ?_, ?_, ?_, ⟨kA, oa3, oa4⟩, ?_⟩
  · intro w hw hn
    have hz := hts w hw
    cases w <;> first | (cases hn; done) | exact va_Nw.of rfl hz
  · intro k q hq
    have hk : k < 5 := (List.getElem?_eq_some_iff.mp hq).1
    rcases (by omega : k = 0 ∨ k = 1 ∨ k = 2 ∨ k = 3 ∨ k = 4) with e | e | e | e | e <;> subst e <;> cases hq
    · exact ⟨hI, nI⟩
    · exact ⟨hZ, nZ⟩
    · exact ⟨hJ, nJ⟩
    · exact ⟨fun n z => ⟨(fun k h => by cases h), kC, oc3, compC, oc4⟩, kC, compC, oc3, oc4, oc1, oc5⟩
    · exact ⟨fun n z => ⟨(fun k h => by cases h), kA, oa3, compA, oa4⟩, oa5⟩
  · intro k t n f hk
    match k, hk with
    | 0, hk =>
      cases hk
      obtain ⟨scr, h1, h2, h3, h4, h5⟩ := hX
      exact ⟨scr, h1, h2, h3, Nat.le_of_eq h4.symm, by rw [h4], h5, hA b hbl⟩
    | 1, hk => cases hk; exact T1
    | 2, hk => cases hk; exact T2
    | 3, hk => cases hk; exact T3
    | 4, hk => cases hk
    | 5, hk => cases hk; exact B5
    | k + 6, hk => cases hk
  · intro a h1 h2
    rcases (by omega : a = 1 ∨ a = 2 ∨ a = 3) with e | e | e <;> subst e
    · exact va_Zof (hts _ aw_ls1) (hts _ aw_li1) e1 hA
    · exact va_Zof (hts _ aw_ls2) (hts _ aw_li1) e2 hA
    · exact va_Zof (hts _ aw_ls3) (hts _ aw_li3) e3 hA
  · exact va_Zof (hts _ aw_ls4) (hts _ aw_li4) (va_eqi (hs _ (by decide +kernel))) hA
  · exact hts _ aw_cost
  · exact mAO_use (A := #[]) (hts _ aw_ints)
  · exact va_Nw.of rfl (hts _ aw_cc)
  · exact vk_R.of (hts _ aw_sr) e4
