theorem aw_int : Cond.arrayClass .int ∈ lw_tbl := List.mem_of_getElem? (i := 181) (by decide +kernel)
theorem aw_bool : Cond.arrayClass .boolean ∈ lw_tbl := List.mem_of_getElem? (i := 415) (by decide +kernel)
theorem aw_long : Cond.arrayClass .long ∈ lw_tbl := List.mem_of_getElem? (i := 520) (by decide +kernel)
theorem aw_byte : Cond.arrayClass .byte ∈ lw_tbl := List.mem_of_getElem? (i := 1134) (by decide +kernel)
theorem aw_cost : Cond.arrayOver (.object "ReelBack$Cost") ∈ lw_tbl := List.mem_of_getElem? (i := 305) (by decide +kernel)
theorem aw_ints : Cond.arrayOver (.array .int) ∈ lw_tbl := List.mem_of_getElem? (i := 374) (by decide +kernel)
theorem aw_oi : Cond.instanceMethod Lib.objectInit ∈ lw_tbl := List.mem_of_getElem? (i := 155) (by decide +kernel)
theorem aw_oc : Cond.code Lib.objectInit ⟨#[0xb1]⟩ 1 none ∈ lw_tbl := List.mem_of_getElem? (i := 156) (by decide +kernel)
theorem aw_cs : Cond.sameMethod "[I" "java/lang/Object" "clone" "()Ljava/lang/Object;" ∈ lw_tbl := List.mem_of_getElem? (i := 1124) (by decide +kernel)
theorem aw_cn : Cond.native ⟨"java/lang/Object", "clone", "()Ljava/lang/Object;"⟩ ∈ lw_tbl := List.mem_of_getElem? (i := 1125) (by decide +kernel)
theorem aw_ci : Cond.instanceMethod ⟨"java/lang/Object", "clone", "()Ljava/lang/Object;"⟩ ∈ lw_tbl := List.mem_of_getElem? (i := 1126) (by decide +kernel)
theorem aw_cl : Cond.selects "[I" ⟨"[I", "clone", "()Ljava/lang/Object;"⟩ ⟨"java/lang/Object", "clone", "()Ljava/lang/Object;"⟩ ∈ lw_tbl := List.mem_of_getElem? (i := 1127) (by decide +kernel)
theorem aw_cc : Cond.castable "[I" "java/lang/Cloneable" ∈ lw_tbl := List.mem_of_getElem? (i := 1128) (by decide +kernel)
theorem aw_an : Cond.native arraycopyName ∈ lw_tbl := List.mem_of_getElem? (i := 1133) (by decide +kernel)
theorem aw_as : Cond.static arraycopyName ∈ lw_tbl := List.mem_of_getElem? (i := 1132) (by decide +kernel)
theorem aw_ai : Cond.initialized "java/lang/System" ∈ lw_tbl := List.mem_of_getElem? (i := 148) (by decide +kernel)
theorem aw_str : ∀ (own : String) (ix : Nat), Cond.stringRef own ix "kscelrypnj" ∈ lw_tbl → own = "ReelBack$Reader" ∧ ix = 54 := by
  intro own ix h
  have h1 : (lw_tbl.filter (fun w => match w with | .stringRef _ _ _ => true | _ => false)) = [Cond.stringRef "ReelBack$Reader" 54 "kscelrypnj"] := by decide +kernel
  have h2 : Cond.stringRef own ix "kscelrypnj" ∈ lw_tbl.filter (fun w => match w with | .stringRef _ _ _ => true | _ => false) := List.mem_filter.mpr ⟨h, rfl⟩
  rw [h1] at h2
  have h3 := List.mem_singleton.mp h2
  cases h3
  exact ⟨rfl, rfl⟩
theorem aw_n260 : pgN 260 = Lib.Math.abs.name := by decide +kernel
theorem aw_s260 : Cond.static Lib.Math.abs.name ∈ lw_tbl := List.mem_of_getElem? (i := 863) (by decide +kernel)
theorem aw_c260 : Cond.code Lib.Math.abs.name Lib.Math.abs.code 1 (some .int) ∈ lw_tbl := List.mem_of_getElem? (i := 864) (by decide +kernel)
theorem aw_n261 : pgN 261 = Lib.Math.max.name := by decide +kernel
theorem aw_s261 : Cond.static Lib.Math.max.name ∈ lw_tbl := List.mem_of_getElem? (i := 703) (by decide +kernel)
theorem aw_c261 : Cond.code Lib.Math.max.name Lib.Math.max.code 2 (some .int) ∈ lw_tbl := List.mem_of_getElem? (i := 704) (by decide +kernel)
theorem aw_n262 : pgN 262 = Lib.Math.min.name := by decide +kernel
theorem aw_s262 : Cond.static Lib.Math.min.name ∈ lw_tbl := List.mem_of_getElem? (i := 706) (by decide +kernel)
theorem aw_c262 : Cond.code Lib.Math.min.name Lib.Math.min.code 2 (some .int) ∈ lw_tbl := List.mem_of_getElem? (i := 707) (by decide +kernel)
theorem aw_n263 : pgN 263 = Lib.MathLoose.min_long.x := by decide +kernel
theorem aw_s263 : Cond.static Lib.MathLoose.min_long.x ∈ lw_tbl := List.mem_of_getElem? (i := 980) (by decide +kernel)
theorem aw_c263 : Cond.code Lib.MathLoose.min_long.x Lib.MathLoose.min_long.code 4 (some .long) ∈ lw_tbl := List.mem_of_getElem? (i := 981) (by decide +kernel)
theorem aw_im : Cond.initialized "java/lang/Math" ∈ lw_tbl := List.mem_of_getElem? (i := 140) (by decide +kernel)
