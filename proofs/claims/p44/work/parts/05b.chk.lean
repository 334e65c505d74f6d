/-! the methods' words, each found in its own block of the tables -/
theorem tb_1 : ∀ c ∈ tables_1_1, c ∈ lw_tbl := fun c h => List.mem_append_right _ (show c ∈ tables_1 from List.mem_append_left _ h)
theorem tb_2 : ∀ c ∈ tables_1_2, c ∈ lw_tbl := fun c h => List.mem_append_right _ (show c ∈ tables_1 from List.mem_append_right _ (List.mem_append_left _ h))
theorem tb_3 : ∀ c ∈ tables_1_3, c ∈ lw_tbl := fun c h => List.mem_append_right _ (show c ∈ tables_1 from List.mem_append_right _ (List.mem_append_right _ (List.mem_append_left _ h)))
theorem tb_4 : ∀ c ∈ tables_1_4, c ∈ lw_tbl := fun c h => List.mem_append_right _ (show c ∈ tables_1 from List.mem_append_right _ (List.mem_append_right _ (List.mem_append_right _ (List.mem_append_left _ h))))
theorem tb_5 : ∀ c ∈ tables_1_5, c ∈ lw_tbl := fun c h => List.mem_append_right _ (show c ∈ tables_1 from List.mem_append_right _ (List.mem_append_right _ (List.mem_append_right _ (List.mem_append_right _ (List.mem_append_left _ h)))))
theorem tb_6 : ∀ c ∈ tables_1_6, c ∈ lw_tbl := fun c h => List.mem_append_right _ (show c ∈ tables_1 from List.mem_append_right _ (List.mem_append_right _ (List.mem_append_right _ (List.mem_append_right _ (List.mem_append_right _ (List.mem_append_left _ h))))))
theorem tb_7 : ∀ c ∈ tables_1_7, c ∈ lw_tbl := fun c h => List.mem_append_right _ (show c ∈ tables_1 from List.mem_append_right _ (List.mem_append_right _ (List.mem_append_right _ (List.mem_append_right _ (List.mem_append_right _ (List.mem_append_right _ (List.mem_append_left _ h)))))))
theorem tb_8 : ∀ c ∈ tables_1_8, c ∈ lw_tbl := fun c h => List.mem_append_right _ (show c ∈ tables_1 from List.mem_append_right _ (List.mem_append_right _ (List.mem_append_right _ (List.mem_append_right _ (List.mem_append_right _ (List.mem_append_right _ (List.mem_append_right _ (List.mem_append_left _ h))))))))
theorem tb_9 : ∀ c ∈ tables_1_9, c ∈ lw_tbl := fun c h => List.mem_append_right _ (show c ∈ tables_1 from List.mem_append_right _ (List.mem_append_right _ (List.mem_append_right _ (List.mem_append_right _ (List.mem_append_right _ (List.mem_append_right _ (List.mem_append_right _ (List.mem_append_right _ (h)))))))))
theorem pp_1 : ∀ q ∈ lw_privs_1, q ∈ lw_privs := fun q h => List.mem_append_left _ h
theorem pb_1 : ∀ c ∈ k2_sels lw_privs_1, c ∈ lw_tbl := fun c h => by
  obtain ⟨q, h1, h2⟩ := List.mem_map.mp h
  exact List.mem_append_left _ (List.mem_map.mpr ⟨q, pp_1 q h1, h2⟩)
theorem pp_2 : ∀ q ∈ lw_privs_2, q ∈ lw_privs := fun q h => List.mem_append_right _ (List.mem_append_left _ h)
theorem pb_2 : ∀ c ∈ k2_sels lw_privs_2, c ∈ lw_tbl := fun c h => by
  obtain ⟨q, h1, h2⟩ := List.mem_map.mp h
  exact List.mem_append_left _ (List.mem_map.mpr ⟨q, pp_2 q h1, h2⟩)
theorem pp_3 : ∀ q ∈ lw_privs_3, q ∈ lw_privs := fun q h => List.mem_append_right _ (List.mem_append_right _ (List.mem_append_left _ h))
theorem pb_3 : ∀ c ∈ k2_sels lw_privs_3, c ∈ lw_tbl := fun c h => by
  obtain ⟨q, h1, h2⟩ := List.mem_map.mp h
  exact List.mem_append_left _ (List.mem_map.mpr ⟨q, pp_3 q h1, h2⟩)
theorem pp_4 : ∀ q ∈ lw_privs_4, q ∈ lw_privs := fun q h => List.mem_append_right _ (List.mem_append_right _ (List.mem_append_right _ (List.mem_append_left _ h)))
theorem pb_4 : ∀ c ∈ k2_sels lw_privs_4, c ∈ lw_tbl := fun c h => by
  obtain ⟨q, h1, h2⟩ := List.mem_map.mp h
  exact List.mem_append_left _ (List.mem_map.mpr ⟨q, pp_4 q h1, h2⟩)
theorem pp_5 : ∀ q ∈ lw_privs_5, q ∈ lw_privs := fun q h => List.mem_append_right _ (List.mem_append_right _ (List.mem_append_right _ (List.mem_append_right _ (List.mem_append_left _ h))))
theorem pb_5 : ∀ c ∈ k2_sels lw_privs_5, c ∈ lw_tbl := fun c h => by
  obtain ⟨q, h1, h2⟩ := List.mem_map.mp h
  exact List.mem_append_left _ (List.mem_map.mpr ⟨q, pp_5 q h1, h2⟩)
theorem pp_6 : ∀ q ∈ lw_privs_6, q ∈ lw_privs := fun q h => List.mem_append_right _ (List.mem_append_right _ (List.mem_append_right _ (List.mem_append_right _ (List.mem_append_right _ (List.mem_append_left _ h)))))
theorem pb_6 : ∀ c ∈ k2_sels lw_privs_6, c ∈ lw_tbl := fun c h => by
  obtain ⟨q, h1, h2⟩ := List.mem_map.mp h
  exact List.mem_append_left _ (List.mem_map.mpr ⟨q, pp_6 q h1, h2⟩)
theorem pp_7 : ∀ q ∈ lw_privs_7, q ∈ lw_privs := fun q h => List.mem_append_right _ (List.mem_append_right _ (List.mem_append_right _ (List.mem_append_right _ (List.mem_append_right _ (List.mem_append_right _ (List.mem_append_left _ h))))))
theorem pb_7 : ∀ c ∈ k2_sels lw_privs_7, c ∈ lw_tbl := fun c h => by
  obtain ⟨q, h1, h2⟩ := List.mem_map.mp h
  exact List.mem_append_left _ (List.mem_map.mpr ⟨q, pp_7 q h1, h2⟩)
theorem pp_8 : ∀ q ∈ lw_privs_8, q ∈ lw_privs := fun q h => List.mem_append_right _ (List.mem_append_right _ (List.mem_append_right _ (List.mem_append_right _ (List.mem_append_right _ (List.mem_append_right _ (List.mem_append_right _ (h)))))))
theorem pb_8 : ∀ c ∈ k2_sels lw_privs_8, c ∈ lw_tbl := fun c h => by
  obtain ⟨q, h1, h2⟩ := List.mem_map.mp h
  exact List.mem_append_left _ (List.mem_map.mpr ⟨q, pp_8 q h1, h2⟩)
/-- not one of java.lang.Math's (which the machine runs by rows of their own) -/
def m_pl (k : Nat) : Bool := !(Nat.blt 259 k && Nat.blt k 264)
/-- what the tables say of a method -/
def okP (r : pgRow) : Prop := match r with
  | (y, b, ml, ret, n, st, o, _, _, _, _) => Cond.code y b ml ret ∈ lw_tbl ∧ Cond.initialized y.cls ∈ lw_tbl ∧ (st = true → Cond.static y ∈ lw_tbl) ∧ (st = false → Cond.instanceMethod y ∈ lw_tbl) ∧ (st = false → ¬ y.name = "<init>" → Cond.selects y.cls y y ∈ lw_tbl) ∧ (y.cls ≠ "java/lang/invoke/MethodHandle" ∧ y.cls ≠ "java/lang/invoke/VarHandle" ∧ (parseMethodDescriptor y.desc).map (fun d => d.parameters.length) = some n) ∧ plainName y.cls = true ∧ pgO.getD o "" = y.cls ∧ ml ≤ 60
/-- of a class's name -/
def okK (c : String) : Prop := c ≠ "java/lang/invoke/MethodHandle" ∧ c ≠ "java/lang/invoke/VarHandle" ∧ plainName c = true
section
variable {y : MethodName} {b : ByteArray} {ml n o a1 a2 a3 a4 : Nat} {ret : Option FieldType}
theorem okP_s (h1 : Cond.code y b ml ret ∈ lw_tbl) (h2 : Cond.initialized y.cls ∈ lw_tbl) (h3 : Cond.static y ∈ lw_tbl) (h6 : okK y.cls) (h7 : (parseMethodDescriptor y.desc).map (fun d => d.parameters.length) = some n) (h8 : pgO.getD o "" = y.cls) (h9 : ml ≤ 60) : okP (y, b, ml, ret, n, true, o, a1, a2, a3, a4) :=
  And.intro h1 (And.intro h2 (And.intro (fun _ => h3) (And.intro (fun h => absurd h (by decide)) (And.intro (fun h => absurd h (by decide)) (And.intro ⟨h6.1, h6.2.1, h7⟩ (And.intro h6.2.2 (And.intro h8 h9)))))))
theorem okP_i (h1 : Cond.code y b ml ret ∈ lw_tbl) (h2 : Cond.initialized y.cls ∈ lw_tbl) (h3 : Cond.instanceMethod y ∈ lw_tbl) (h4 : Cond.selects y.cls y y ∈ lw_tbl) (h6 : okK y.cls) (h7 : (parseMethodDescriptor y.desc).map (fun d => d.parameters.length) = some n) (h8 : pgO.getD o "" = y.cls) (h9 : ml ≤ 60) : okP (y, b, ml, ret, n, false, o, a1, a2, a3, a4) :=
  And.intro h1 (And.intro h2 (And.intro (fun h => absurd h (by decide)) (And.intro (fun _ => h3) (And.intro (fun _ _ => h4) (And.intro ⟨h6.1, h6.2.1, h7⟩ (And.intro h6.2.2 (And.intro h8 h9)))))))
theorem okP_c (h1 : Cond.code y b ml ret ∈ lw_tbl) (h2 : Cond.initialized y.cls ∈ lw_tbl) (h3 : Cond.instanceMethod y ∈ lw_tbl) (h4 : y.name = "<init>") (h6 : okK y.cls) (h7 : (parseMethodDescriptor y.desc).map (fun d => d.parameters.length) = some n) (h8 : pgO.getD o "" = y.cls) (h9 : ml ≤ 60) : okP (y, b, ml, ret, n, false, o, a1, a2, a3, a4) :=
  And.intro h1 (And.intro h2 (And.intro (fun h => absurd h (by decide)) (And.intro (fun _ => h3) (And.intro (fun _ h => absurd h4 h) (And.intro ⟨h6.1, h6.2.1, h7⟩ (And.intro h6.2.2 (And.intro h8 h9)))))))
end
theorem ok_c0 : okK "ReelBack$Acts" := by unfold okK; decide +kernel
theorem ok_c1 : okK "ReelBack$Claims" := by unfold okK; decide +kernel
theorem ok_c2 : okK "ReelBack$Cost" := by unfold okK; decide +kernel
theorem ok_c3 : okK "ReelBack$Costs" := by unfold okK; decide +kernel
theorem ok_c4 : okK "ReelBack$Films" := by unfold okK; decide +kernel
theorem ok_c5 : okK "ReelBack$Houses" := by unfold okK; decide +kernel
theorem ok_c6 : okK "ReelBack$Persons" := by unfold okK; decide +kernel
theorem ok_c7 : okK "ReelBack$Prices" := by unfold okK; decide +kernel
theorem ok_c8 : okK "ReelBack$Queue" := by unfold okK; decide +kernel
theorem ok_c9 : okK "ReelBack$Reader" := by unfold okK; decide +kernel
theorem ok_c10 : okK "ReelBack$Treaty" := by unfold okK; decide +kernel
theorem ok_c11 : okK "ReelBack" := by unfold okK; decide +kernel
theorem ok_c12 : okK "ReelBackModel" := by unfold okK; decide +kernel
theorem ok_c13 : okK "java/lang/Integer" := by unfold okK; decide +kernel
theorem ok_c14 : okK "java/lang/String" := by unfold okK; decide +kernel
theorem ok_c15 : okK "java/lang/StringLatin1" := by unfold okK; decide +kernel
theorem ok_c16 : okK "java/util/Arrays" := by unfold okK; decide +kernel
theorem ok_d0 : (parseMethodDescriptor "()V").map (fun d => d.parameters.length) = some 0 := by decide +kernel
theorem ok_d1 : (parseMethodDescriptor "(I)Z").map (fun d => d.parameters.length) = some 1 := by decide +kernel
theorem ok_d2 : (parseMethodDescriptor "(IIILReelBack$Reader;)I").map (fun d => d.parameters.length) = some 4 := by decide +kernel
theorem ok_d3 : (parseMethodDescriptor "(III)I").map (fun d => d.parameters.length) = some 3 := by decide +kernel
theorem ok_d4 : (parseMethodDescriptor "(I)I").map (fun d => d.parameters.length) = some 1 := by decide +kernel
theorem ok_d5 : (parseMethodDescriptor "([II)I").map (fun d => d.parameters.length) = some 2 := by decide +kernel
theorem ok_d6 : (parseMethodDescriptor "(I)V").map (fun d => d.parameters.length) = some 1 := by decide +kernel
theorem ok_d7 : (parseMethodDescriptor "()I").map (fun d => d.parameters.length) = some 0 := by decide +kernel
theorem ok_d8 : (parseMethodDescriptor "(LReelBack$Houses;LReelBack$Films;LReelBack$Persons;LReelBack$Prices;LReelBack$Costs;LReelBack$Acts;)V").map (fun d => d.parameters.length) = some 6 := by decide +kernel
theorem ok_d9 : (parseMethodDescriptor "(LReelBack$Cost;I)Z").map (fun d => d.parameters.length) = some 2 := by decide +kernel
theorem ok_d10 : (parseMethodDescriptor "(LReelBack$Cost;I)I").map (fun d => d.parameters.length) = some 2 := by decide +kernel
theorem ok_d11 : (parseMethodDescriptor "(IIII)V").map (fun d => d.parameters.length) = some 4 := by decide +kernel
theorem ok_d12 : (parseMethodDescriptor "(IIIII)I").map (fun d => d.parameters.length) = some 5 := by decide +kernel
theorem ok_d13 : (parseMethodDescriptor "(III[I)V").map (fun d => d.parameters.length) = some 4 := by decide +kernel
theorem ok_d14 : (parseMethodDescriptor "(LReelBack$Cost;)Z").map (fun d => d.parameters.length) = some 1 := by decide +kernel
theorem ok_d15 : (parseMethodDescriptor "(II)Z").map (fun d => d.parameters.length) = some 2 := by decide +kernel
theorem ok_d16 : (parseMethodDescriptor "(I)LReelBack$Cost;").map (fun d => d.parameters.length) = some 1 := by decide +kernel
theorem ok_d17 : (parseMethodDescriptor "(II)I").map (fun d => d.parameters.length) = some 2 := by decide +kernel
theorem ok_d18 : (parseMethodDescriptor "(LReelBack$Cost;LReelBack$Cost;)Z").map (fun d => d.parameters.length) = some 2 := by decide +kernel
theorem ok_d19 : (parseMethodDescriptor "(LReelBack$Cost;II)I").map (fun d => d.parameters.length) = some 3 := by decide +kernel
theorem ok_d20 : (parseMethodDescriptor "(IIII)Z").map (fun d => d.parameters.length) = some 4 := by decide +kernel
theorem ok_d21 : (parseMethodDescriptor "(II)J").map (fun d => d.parameters.length) = some 2 := by decide +kernel
theorem ok_d22 : (parseMethodDescriptor "(LReelBack$Cost;IIIII)I").map (fun d => d.parameters.length) = some 6 := by decide +kernel
theorem ok_d23 : (parseMethodDescriptor "(III)Z").map (fun d => d.parameters.length) = some 3 := by decide +kernel
theorem ok_d24 : (parseMethodDescriptor "(II)V").map (fun d => d.parameters.length) = some 2 := by decide +kernel
theorem ok_d25 : (parseMethodDescriptor "(IIII)I").map (fun d => d.parameters.length) = some 4 := by decide +kernel
theorem ok_d26 : (parseMethodDescriptor "(LReelBack$Houses;LReelBack$Films;LReelBack$Claims;)V").map (fun d => d.parameters.length) = some 3 := by decide +kernel
theorem ok_d27 : (parseMethodDescriptor "(LReelBack$Claims;)V").map (fun d => d.parameters.length) = some 1 := by decide +kernel
theorem ok_d28 : (parseMethodDescriptor "(III)V").map (fun d => d.parameters.length) = some 3 := by decide +kernel
theorem ok_d29 : (parseMethodDescriptor "(IIIIII)I").map (fun d => d.parameters.length) = some 6 := by decide +kernel
theorem ok_d30 : (parseMethodDescriptor "(IIIIZ)V").map (fun d => d.parameters.length) = some 5 := by decide +kernel
theorem ok_d31 : (parseMethodDescriptor "()B").map (fun d => d.parameters.length) = some 0 := by decide +kernel
theorem ok_d32 : (parseMethodDescriptor "()Z").map (fun d => d.parameters.length) = some 0 := by decide +kernel
theorem ok_d33 : (parseMethodDescriptor "([BIII)I").map (fun d => d.parameters.length) = some 4 := by decide +kernel
theorem ok_d34 : (parseMethodDescriptor "([II)V").map (fun d => d.parameters.length) = some 2 := by decide +kernel
theorem ok_d35 : (parseMethodDescriptor "([II)[I").map (fun d => d.parameters.length) = some 2 := by decide +kernel
theorem okP_0 : okP (pgRw 0) := show okP (yX0_init, cX0_init, 1, (Option.none), 0, false, 0, 371, 135, 370, 0) from okP_c (tb_2 _ (List.mem_of_getElem? (i := 5) rfl)) (tb_1 _ (List.mem_of_getElem? (i := 9) rfl)) (tb_2 _ (List.mem_of_getElem? (i := 4) rfl)) rfl ok_c0 ok_d0 rfl (by decide)
theorem okP_1 : okP (pgRw 1) := show okP (yX0_has, cX0_has, 2, ((Option.some Jvm.ClassFile.FieldType.boolean)), 1, false, 0, 919, 135, 918, 32) from okP_i (tb_4 _ (List.mem_of_getElem? (i := 73) rfl)) (tb_1 _ (List.mem_of_getElem? (i := 9) rfl)) (tb_4 _ (List.mem_of_getElem? (i := 72) rfl)) (pb_3 _ (List.mem_of_getElem? (i := 0) rfl)) ok_c0 ok_d1 rfl (by decide)
theorem okP_2 : okP (pgRw 2) := show okP (yX0_add, cX0_add, 6, ((Option.some Jvm.ClassFile.FieldType.int)), 4, false, 0, 1119, 135, 1118, 49) from okP_i (tb_5 _ (List.mem_of_getElem? (i := 33) rfl)) (tb_1 _ (List.mem_of_getElem? (i := 9) rfl)) (tb_5 _ (List.mem_of_getElem? (i := 32) rfl)) (pb_4 _ (List.mem_of_getElem? (i := 1) rfl)) ok_c0 ok_d2 rfl (by decide)
theorem okP_3 : okP (pgRw 3) := show okP (yX0_find, cX0_find, 5, ((Option.some Jvm.ClassFile.FieldType.int)), 3, false, 0, 915, 135, 914, 31) from okP_i (tb_4 _ (List.mem_of_getElem? (i := 69) rfl)) (tb_1 _ (List.mem_of_getElem? (i := 9) rfl)) (tb_4 _ (List.mem_of_getElem? (i := 68) rfl)) (pb_2 _ (List.mem_of_getElem? (i := 15) rfl)) ok_c0 ok_d3 rfl (by decide)
theorem okP_4 : okP (pgRw 4) := show okP (yX0_run, cX0_run, 6, ((Option.some Jvm.ClassFile.FieldType.int)), 1, false, 0, 937, 135, 936, 34) from okP_i (tb_4 _ (List.mem_of_getElem? (i := 91) rfl)) (tb_1 _ (List.mem_of_getElem? (i := 9) rfl)) (tb_4 _ (List.mem_of_getElem? (i := 90) rfl)) (pb_3 _ (List.mem_of_getElem? (i := 2) rfl)) ok_c0 ok_d4 rfl (by decide)
theorem okP_5 : okP (pgRw 5) := show okP (yX0_endOfLine, cX0_endOfLine, 3, ((Option.some Jvm.ClassFile.FieldType.int)), 2, true, 0, 948, 135, 947, 0) from okP_s (tb_4 _ (List.mem_of_getElem? (i := 102) rfl)) (tb_1 _ (List.mem_of_getElem? (i := 9) rfl)) (tb_4 _ (List.mem_of_getElem? (i := 101) rfl)) ok_c0 ok_d5 rfl (by decide)
theorem okP_6 : okP (pgRw 6) := show okP (yX0_push, cX0_push, 2, (Option.none), 1, false, 0, 941, 135, 940, 35) from okP_i (tb_4 _ (List.mem_of_getElem? (i := 95) rfl)) (tb_1 _ (List.mem_of_getElem? (i := 9) rfl)) (tb_4 _ (List.mem_of_getElem? (i := 94) rfl)) (pb_3 _ (List.mem_of_getElem? (i := 3) rfl)) ok_c0 ok_d6 rfl (by decide)
theorem okP_7 : okP (pgRw 7) := show okP (yX0_pop, cX0_pop, 1, ((Option.some Jvm.ClassFile.FieldType.int)), 0, false, 0, 945, 135, 944, 36) from okP_i (tb_4 _ (List.mem_of_getElem? (i := 99) rfl)) (tb_1 _ (List.mem_of_getElem? (i := 9) rfl)) (tb_4 _ (List.mem_of_getElem? (i := 98) rfl)) (pb_3 _ (List.mem_of_getElem? (i := 4) rfl)) ok_c0 ok_d7 rfl (by decide)
theorem okP_8 : okP (pgRw 8) := show okP (yX0_join, cX0_join, 3, ((Option.some Jvm.ClassFile.FieldType.int)), 3, true, 0, 951, 135, 950, 0) from okP_s (tb_4 _ (List.mem_of_getElem? (i := 105) rfl)) (tb_1 _ (List.mem_of_getElem? (i := 9) rfl)) (tb_4 _ (List.mem_of_getElem? (i := 104) rfl)) ok_c0 ok_d3 rfl (by decide)
theorem okP_9 : okP (pgRw 9) := show okP (yX1_init, cX1_init, 7, (Option.none), 6, false, 1, 420, 136, 419, 0) from okP_c (tb_2 _ (List.mem_of_getElem? (i := 54) rfl)) (tb_1 _ (List.mem_of_getElem? (i := 10) rfl)) (tb_2 _ (List.mem_of_getElem? (i := 53) rfl)) rfl ok_c1 ok_d8 rfl (by decide)
theorem okP_10 : okP (pgRw 10) := show okP (yX1_isRelated, cX1_isRelated, 3, ((Option.some Jvm.ClassFile.FieldType.boolean)), 2, false, 1, 885, 136, 884, 26) from okP_i (tb_4 _ (List.mem_of_getElem? (i := 39) rfl)) (tb_1 _ (List.mem_of_getElem? (i := 10) rfl)) (tb_4 _ (List.mem_of_getElem? (i := 38) rfl)) (pb_2 _ (List.mem_of_getElem? (i := 10) rfl)) ok_c1 ok_d9 rfl (by decide)
theorem okP_11 : okP (pgRw 11) := show okP (yX1_fairOf, cX1_fairOf, 4, ((Option.some Jvm.ClassFile.FieldType.int)), 2, false, 1, 880, 136, 879, 25) from okP_i (tb_4 _ (List.mem_of_getElem? (i := 34) rfl)) (tb_1 _ (List.mem_of_getElem? (i := 10) rfl)) (tb_4 _ (List.mem_of_getElem? (i := 33) rfl)) (pb_2 _ (List.mem_of_getElem? (i := 9) rfl)) ok_c1 ok_d10 rfl (by decide)
theorem okP_12 : okP (pgRw 12) := show okP (yX1_countedOf, cX1_countedOf, 5, ((Option.some Jvm.ClassFile.FieldType.int)), 2, false, 1, 906, 136, 905, 29) from okP_i (tb_4 _ (List.mem_of_getElem? (i := 60) rfl)) (tb_1 _ (List.mem_of_getElem? (i := 10) rfl)) (tb_4 _ (List.mem_of_getElem? (i := 59) rfl)) (pb_2 _ (List.mem_of_getElem? (i := 13) rfl)) ok_c1 ok_d10 rfl (by decide)
theorem okP_13 : okP (pgRw 13) := show okP (yX1_hundredthsOf, cX1_hundredthsOf, 6, ((Option.some Jvm.ClassFile.FieldType.int)), 2, false, 1, 960, 136, 959, 37) from okP_i (tb_4 _ (List.mem_of_getElem? (i := 114) rfl)) (tb_1 _ (List.mem_of_getElem? (i := 10) rfl)) (tb_4 _ (List.mem_of_getElem? (i := 113) rfl)) (pb_3 _ (List.mem_of_getElem? (i := 5) rfl)) ok_c1 ok_d10 rfl (by decide)
theorem okP_14 : okP (pgRw 14) := show okP (yX1_putFilmFacts, cX1_putFilmFacts, 5, (Option.none), 4, false, 1, 926, 136, 925, 33) from okP_i (tb_4 _ (List.mem_of_getElem? (i := 80) rfl)) (tb_1 _ (List.mem_of_getElem? (i := 10) rfl)) (tb_4 _ (List.mem_of_getElem? (i := 79) rfl)) (pb_3 _ (List.mem_of_getElem? (i := 1) rfl)) ok_c1 ok_d11 rfl (by decide)
theorem okP_15 : okP (pgRw 15) := show okP (yX1_lawOf, cX1_lawOf, 8, ((Option.some Jvm.ClassFile.FieldType.int)), 5, false, 1, 911, 136, 910, 30) from okP_i (tb_4 _ (List.mem_of_getElem? (i := 65) rfl)) (tb_1 _ (List.mem_of_getElem? (i := 10) rfl)) (tb_4 _ (List.mem_of_getElem? (i := 64) rfl)) (pb_2 _ (List.mem_of_getElem? (i := 14) rfl)) ok_c1 ok_d12 rfl (by decide)
theorem okP_16 : okP (pgRw 16) := show okP (yX1_baseOf, cX1_baseOf, 11, ((Option.some Jvm.ClassFile.FieldType.int)), 5, false, 1, 975, 136, 974, 39) from okP_i (tb_4 _ (List.mem_of_getElem? (i := 129) rfl)) (tb_1 _ (List.mem_of_getElem? (i := 10) rfl)) (tb_4 _ (List.mem_of_getElem? (i := 128) rfl)) (pb_3 _ (List.mem_of_getElem? (i := 7) rfl)) ok_c1 ok_d12 rfl (by decide)
theorem okP_17 : okP (pgRw 17) := show okP (yX1_dueOf, cX1_dueOf, 8, ((Option.some Jvm.ClassFile.FieldType.int)), 3, false, 1, 985, 136, 984, 40) from okP_i (tb_4 _ (List.mem_of_getElem? (i := 139) rfl)) (tb_1 _ (List.mem_of_getElem? (i := 10) rfl)) (tb_4 _ (List.mem_of_getElem? (i := 138) rfl)) (pb_3 _ (List.mem_of_getElem? (i := 8) rfl)) ok_c1 ok_d3 rfl (by decide)
theorem okP_18 : okP (pgRw 18) := show okP (yX1_gainOf, cX1_gainOf, 14, ((Option.some Jvm.ClassFile.FieldType.int)), 5, false, 1, 1286, 136, 1285, 68) from okP_i (tb_5 _ (List.mem_of_getElem? (i := 200) rfl)) (tb_1 _ (List.mem_of_getElem? (i := 10) rfl)) (tb_5 _ (List.mem_of_getElem? (i := 199) rfl)) (pb_5 _ (List.mem_of_getElem? (i := 4) rfl)) ok_c1 ok_d12 rfl (by decide)
theorem okP_19 : okP (pgRw 19) := show okP (yX2_init, cX2_init, 5, (Option.none), 4, false, 2, 763, 141, 762, 0) from okP_c (tb_3 _ (List.mem_of_getElem? (i := 157) rfl)) (tb_1 _ (List.mem_of_getElem? (i := 15) rfl)) (tb_3 _ (List.mem_of_getElem? (i := 156) rfl)) rfl ok_c2 ok_d13 rfl (by decide)
theorem okP_20 : okP (pgRw 20) := show okP (yX2_coinsBy, cX2_coinsBy, 2, ((Option.some Jvm.ClassFile.FieldType.int)), 1, false, 2, 841, 141, 840, 19) from okP_i (tb_3 _ (List.mem_of_getElem? (i := 235) rfl)) (tb_1 _ (List.mem_of_getElem? (i := 15) rfl)) (tb_3 _ (List.mem_of_getElem? (i := 234) rfl)) (pb_2 _ (List.mem_of_getElem? (i := 3) rfl)) ok_c2 ok_d4 rfl (by decide)
theorem okP_21 : okP (pgRw 21) := show okP (yX2_audited, cX2_audited, 1, ((Option.some Jvm.ClassFile.FieldType.int)), 0, false, 2, 845, 141, 844, 20) from okP_i (tb_3 _ (List.mem_of_getElem? (i := 239) rfl)) (tb_1 _ (List.mem_of_getElem? (i := 15) rfl)) (tb_3 _ (List.mem_of_getElem? (i := 238) rfl)) (pb_2 _ (List.mem_of_getElem? (i := 4) rfl)) ok_c2 ok_d7 rfl (by decide)
theorem okP_22 : okP (pgRw 22) := show okP (yX2_isTwiceWith, cX2_isTwiceWith, 2, ((Option.some Jvm.ClassFile.FieldType.boolean)), 1, false, 2, 902, 141, 901, 28) from okP_i (tb_4 _ (List.mem_of_getElem? (i := 56) rfl)) (tb_1 _ (List.mem_of_getElem? (i := 15) rfl)) (tb_4 _ (List.mem_of_getElem? (i := 55) rfl)) (pb_2 _ (List.mem_of_getElem? (i := 12) rfl)) ok_c2 ok_d14 rfl (by decide)
theorem okP_23 : okP (pgRw 23) := show okP (yX3_init, cX3_init, 1, (Option.none), 0, false, 3, 302, 133, 301, 0) from okP_c (tb_1 _ (List.mem_of_getElem? (i := 176) rfl)) (tb_1 _ (List.mem_of_getElem? (i := 7) rfl)) (tb_1 _ (List.mem_of_getElem? (i := 175) rfl)) rfl ok_c3 ok_d0 rfl (by decide)
theorem okP_24 : okP (pgRw 24) := show okP (yX3_aboveOf, cX3_aboveOf, 1, ((Option.some Jvm.ClassFile.FieldType.int)), 1, true, 3, 753, 133, 752, 0) from okP_s (tb_3 _ (List.mem_of_getElem? (i := 147) rfl)) (tb_1 _ (List.mem_of_getElem? (i := 7) rfl)) (tb_3 _ (List.mem_of_getElem? (i := 146) rfl)) ok_c3 ok_d4 rfl (by decide)
theorem okP_25 : okP (pgRw 25) := show okP (yX3_isUnder, cX3_isUnder, 4, ((Option.some Jvm.ClassFile.FieldType.boolean)), 2, true, 3, 750, 133, 749, 0) from okP_s (tb_3 _ (List.mem_of_getElem? (i := 144) rfl)) (tb_1 _ (List.mem_of_getElem? (i := 7) rfl)) (tb_3 _ (List.mem_of_getElem? (i := 143) rfl)) ok_c3 ok_d15 rfl (by decide)
theorem okP_26 : okP (pgRw 26) := show okP (yX3_at, cX3_at, 2, ((Option.some (Jvm.ClassFile.FieldType.object "ReelBack$Cost"))), 1, false, 3, 836, 133, 835, 18) from okP_i (tb_3 _ (List.mem_of_getElem? (i := 230) rfl)) (tb_1 _ (List.mem_of_getElem? (i := 7) rfl)) (tb_3 _ (List.mem_of_getElem? (i := 229) rfl)) (pb_2 _ (List.mem_of_getElem? (i := 2) rfl)) ok_c3 ok_d16 rfl (by decide)
theorem okP_27 : okP (pgRw 27) := show okP (yX3_add, cX3_add, 4, ((Option.some Jvm.ClassFile.FieldType.int)), 2, false, 3, 759, 133, 758, 17) from okP_i (tb_3 _ (List.mem_of_getElem? (i := 153) rfl)) (tb_1 _ (List.mem_of_getElem? (i := 7) rfl)) (tb_3 _ (List.mem_of_getElem? (i := 152) rfl)) (pb_2 _ (List.mem_of_getElem? (i := 1) rfl)) ok_c3 ok_d17 rfl (by decide)
theorem okP_28 : okP (pgRw 28) := show okP (yX3_isLaterDouble, cX3_isLaterDouble, 3, ((Option.some Jvm.ClassFile.FieldType.boolean)), 1, false, 3, 894, 133, 893, 27) from okP_i (tb_4 _ (List.mem_of_getElem? (i := 48) rfl)) (tb_1 _ (List.mem_of_getElem? (i := 7) rfl)) (tb_4 _ (List.mem_of_getElem? (i := 47) rfl)) (pb_2 _ (List.mem_of_getElem? (i := 11) rfl)) ok_c3 ok_d14 rfl (by decide)
theorem okP_29 : okP (pgRw 29) := show okP (yX3_areTwice, cX3_areTwice, 2, ((Option.some Jvm.ClassFile.FieldType.boolean)), 2, true, 3, 898, 133, 897, 0) from okP_s (tb_4 _ (List.mem_of_getElem? (i := 52) rfl)) (tb_1 _ (List.mem_of_getElem? (i := 7) rfl)) (tb_4 _ (List.mem_of_getElem? (i := 51) rfl)) ok_c3 ok_d18 rfl (by decide)
theorem okP_30 : okP (pgRw 30) := show okP (yX3_twos, cX3_twos, 7, ((Option.some Jvm.ClassFile.FieldType.int)), 1, false, 3, 1343, 133, 1342, 73) from okP_i (tb_6 _ (List.mem_of_getElem? (i := 17) rfl)) (tb_1 _ (List.mem_of_getElem? (i := 7) rfl)) (tb_6 _ (List.mem_of_getElem? (i := 16) rfl)) (pb_5 _ (List.mem_of_getElem? (i := 9) rfl)) ok_c3 ok_d4 rfl (by decide)
theorem okP_31 : okP (pgRw 31) := show okP (yX3_find, cX3_find, 4, ((Option.some Jvm.ClassFile.FieldType.int)), 3, false, 3, 1294, 133, 1293, 69) from okP_i (tb_5 _ (List.mem_of_getElem? (i := 208) rfl)) (tb_1 _ (List.mem_of_getElem? (i := 7) rfl)) (tb_5 _ (List.mem_of_getElem? (i := 207) rfl)) (pb_5 _ (List.mem_of_getElem? (i := 5) rfl)) ok_c3 ok_d19 rfl (by decide)
theorem okP_32 : okP (pgRw 32) := show okP (yX3_isOpen, cX3_isOpen, 4, ((Option.some Jvm.ClassFile.FieldType.boolean)), 2, false, 3, 1310, 133, 1309, 71) from okP_i (tb_5 _ (List.mem_of_getElem? (i := 224) rfl)) (tb_1 _ (List.mem_of_getElem? (i := 7) rfl)) (tb_5 _ (List.mem_of_getElem? (i := 223) rfl)) (pb_5 _ (List.mem_of_getElem? (i := 7) rfl)) ok_c3 ok_d15 rfl (by decide)
theorem okP_33 : okP (pgRw 33) := show okP (yX3_drawOf, cX3_drawOf, 5, ((Option.some Jvm.ClassFile.FieldType.int)), 1, false, 3, 1306, 133, 1305, 70) from okP_i (tb_5 _ (List.mem_of_getElem? (i := 220) rfl)) (tb_1 _ (List.mem_of_getElem? (i := 7) rfl)) (tb_5 _ (List.mem_of_getElem? (i := 219) rfl)) (pb_5 _ (List.mem_of_getElem? (i := 6) rfl)) ok_c3 ok_d4 rfl (by decide)
theorem okP_34 : okP (pgRw 34) := show okP (yX3_boundOf, cX3_boundOf, 8, ((Option.some Jvm.ClassFile.FieldType.int)), 1, false, 3, 1319, 133, 1318, 72) from okP_i (tb_5 _ (List.mem_of_getElem? (i := 233) rfl)) (tb_1 _ (List.mem_of_getElem? (i := 7) rfl)) (tb_5 _ (List.mem_of_getElem? (i := 232) rfl)) (pb_5 _ (List.mem_of_getElem? (i := 8) rfl)) ok_c3 ok_d4 rfl (by decide)
theorem okP_35 : okP (pgRw 35) := show okP (yX3_isLikely, cX3_isLikely, 7, ((Option.some Jvm.ClassFile.FieldType.boolean)), 4, true, 3, 1323, 133, 1322, 0) from okP_s (tb_5 _ (List.mem_of_getElem? (i := 237) rfl)) (tb_1 _ (List.mem_of_getElem? (i := 7) rfl)) (tb_5 _ (List.mem_of_getElem? (i := 236) rfl)) ok_c3 ok_d20 rfl (by decide)
theorem okP_36 : okP (pgRw 36) := show okP (yX3_choices, cX3_choices, 5, ((Option.some Jvm.ClassFile.FieldType.long)), 2, true, 3, 1326, 133, 1325, 0) from okP_s (tb_6 _ (List.mem_of_getElem? (i := 0) rfl)) (tb_1 _ (List.mem_of_getElem? (i := 7) rfl)) (tb_5 _ (List.mem_of_getElem? (i := 239) rfl)) ok_c3 ok_d21 rfl (by decide)
theorem okP_37 : okP (pgRw 37) := show okP (yX3_bodyOf, cX3_bodyOf, 3, ((Option.some Jvm.ClassFile.FieldType.int)), 2, true, 3, 1357, 133, 1356, 0) from okP_s (tb_6 _ (List.mem_of_getElem? (i := 31) rfl)) (tb_1 _ (List.mem_of_getElem? (i := 7) rfl)) (tb_6 _ (List.mem_of_getElem? (i := 30) rfl)) ok_c3 ok_d17 rfl (by decide)
theorem okP_38 : okP (pgRw 38) := show okP (yX3_kindWithBody, cX3_kindWithBody, 4, ((Option.some Jvm.ClassFile.FieldType.int)), 2, true, 3, 1354, 133, 1353, 0) from okP_s (tb_6 _ (List.mem_of_getElem? (i := 28) rfl)) (tb_1 _ (List.mem_of_getElem? (i := 7) rfl)) (tb_6 _ (List.mem_of_getElem? (i := 27) rfl)) ok_c3 ok_d17 rfl (by decide)
theorem okP_39 : okP (pgRw 39) := show okP (yX3_perform, cX3_perform, 13, ((Option.some Jvm.ClassFile.FieldType.int)), 6, false, 3, 1351, 133, 1350, 74) from okP_i (tb_6 _ (List.mem_of_getElem? (i := 25) rfl)) (tb_1 _ (List.mem_of_getElem? (i := 7) rfl)) (tb_6 _ (List.mem_of_getElem? (i := 24) rfl)) (pb_5 _ (List.mem_of_getElem? (i := 10) rfl)) ok_c3 ok_d22 rfl (by decide)
theorem okP_40 : okP (pgRw 40) := show okP (yX4_init, cX4_init, 1, (Option.none), 0, false, 4, 186, 130, 185, 0) from okP_c (tb_1 _ (List.mem_of_getElem? (i := 60) rfl)) (tb_1 _ (List.mem_of_getElem? (i := 4) rfl)) (tb_1 _ (List.mem_of_getElem? (i := 59) rfl)) rfl ok_c4 ok_d0 rfl (by decide)
theorem okP_41 : okP (pgRw 41) := show okP (yX4_has, cX4_has, 2, ((Option.some Jvm.ClassFile.FieldType.boolean)), 1, false, 4, 671, 130, 670, 7) from okP_i (tb_3 _ (List.mem_of_getElem? (i := 65) rfl)) (tb_1 _ (List.mem_of_getElem? (i := 4) rfl)) (tb_3 _ (List.mem_of_getElem? (i := 64) rfl)) (pb_1 _ (List.mem_of_getElem? (i := 7) rfl)) ok_c4 ok_d1 rfl (by decide)
theorem okP_42 : okP (pgRw 42) := show okP (yX4_add, cX4_add, 3, ((Option.some Jvm.ClassFile.FieldType.int)), 2, false, 4, 663, 130, 662, 6) from okP_i (tb_3 _ (List.mem_of_getElem? (i := 57) rfl)) (tb_1 _ (List.mem_of_getElem? (i := 4) rfl)) (tb_3 _ (List.mem_of_getElem? (i := 56) rfl)) (pb_1 _ (List.mem_of_getElem? (i := 6) rfl)) ok_c4 ok_d17 rfl (by decide)
theorem okP_43 : okP (pgRw 43) := show okP (yX4_hasPoints, cX4_hasPoints, 2, ((Option.some Jvm.ClassFile.FieldType.boolean)), 1, false, 4, 723, 130, 722, 13) from okP_i (tb_3 _ (List.mem_of_getElem? (i := 117) rfl)) (tb_1 _ (List.mem_of_getElem? (i := 4) rfl)) (tb_3 _ (List.mem_of_getElem? (i := 116) rfl)) (pb_1 _ (List.mem_of_getElem? (i := 13) rfl)) ok_c4 ok_d1 rfl (by decide)
theorem okP_44 : okP (pgRw 44) := show okP (yX4_tellPoints, cX4_tellPoints, 4, ((Option.some Jvm.ClassFile.FieldType.int)), 3, false, 4, 715, 130, 714, 12) from okP_i (tb_3 _ (List.mem_of_getElem? (i := 109) rfl)) (tb_1 _ (List.mem_of_getElem? (i := 4) rfl)) (tb_3 _ (List.mem_of_getElem? (i := 108) rfl)) (pb_1 _ (List.mem_of_getElem? (i := 12) rfl)) ok_c4 ok_d3 rfl (by decide)
theorem okP_45 : okP (pgRw 45) := show okP (yX4_provePoints, cX4_provePoints, 3, ((Option.some Jvm.ClassFile.FieldType.int)), 2, false, 4, 727, 130, 726, 14) from okP_i (tb_3 _ (List.mem_of_getElem? (i := 121) rfl)) (tb_1 _ (List.mem_of_getElem? (i := 4) rfl)) (tb_3 _ (List.mem_of_getElem? (i := 120) rfl)) (pb_1 _ (List.mem_of_getElem? (i := 14) rfl)) ok_c4 ok_d17 rfl (by decide)
theorem okP_46 : okP (pgRw 46) := show okP (yX4_pointsBy, cX4_pointsBy, 6, ((Option.some Jvm.ClassFile.FieldType.int)), 3, false, 4, 735, 130, 734, 15) from okP_i (tb_3 _ (List.mem_of_getElem? (i := 129) rfl)) (tb_1 _ (List.mem_of_getElem? (i := 4) rfl)) (tb_3 _ (List.mem_of_getElem? (i := 128) rfl)) (pb_1 _ (List.mem_of_getElem? (i := 15) rfl)) ok_c4 ok_d3 rfl (by decide)
theorem okP_47 : okP (pgRw 47) := show okP (yX5_init, cX5_init, 1, (Option.none), 0, false, 5, 161, 128, 160, 0) from okP_c (tb_1 _ (List.mem_of_getElem? (i := 35) rfl)) (tb_1 _ (List.mem_of_getElem? (i := 2) rfl)) (tb_1 _ (List.mem_of_getElem? (i := 34) rfl)) rfl ok_c5 ok_d0 rfl (by decide)
theorem okP_48 : okP (pgRw 48) := show okP (yX5_has, cX5_has, 2, ((Option.some Jvm.ClassFile.FieldType.boolean)), 1, false, 5, 647, 128, 646, 3) from okP_i (tb_3 _ (List.mem_of_getElem? (i := 41) rfl)) (tb_1 _ (List.mem_of_getElem? (i := 2) rfl)) (tb_3 _ (List.mem_of_getElem? (i := 40) rfl)) (pb_1 _ (List.mem_of_getElem? (i := 3) rfl)) ok_c5 ok_d1 rfl (by decide)
theorem okP_49 : okP (pgRw 49) := show okP (yX5_isIn, cX5_isIn, 3, ((Option.some Jvm.ClassFile.FieldType.boolean)), 2, false, 5, 964, 128, 963, 38) from okP_i (tb_4 _ (List.mem_of_getElem? (i := 118) rfl)) (tb_1 _ (List.mem_of_getElem? (i := 2) rfl)) (tb_4 _ (List.mem_of_getElem? (i := 117) rfl)) (pb_3 _ (List.mem_of_getElem? (i := 6) rfl)) ok_c5 ok_d15 rfl (by decide)
theorem okP_50 : okP (pgRw 50) := show okP (yX5_add, cX5_add, 2, ((Option.some Jvm.ClassFile.FieldType.int)), 1, false, 5, 639, 128, 638, 2) from okP_i (tb_3 _ (List.mem_of_getElem? (i := 33) rfl)) (tb_1 _ (List.mem_of_getElem? (i := 2) rfl)) (tb_3 _ (List.mem_of_getElem? (i := 32) rfl)) (pb_1 _ (List.mem_of_getElem? (i := 2) rfl)) ok_c5 ok_d4 rfl (by decide)
theorem okP_51 : okP (pgRw 51) := show okP (yX5_areRelatedBy, cX5_areRelatedBy, 5, ((Option.some Jvm.ClassFile.FieldType.boolean)), 3, false, 5, 655, 128, 654, 5) from okP_i (tb_3 _ (List.mem_of_getElem? (i := 49) rfl)) (tb_1 _ (List.mem_of_getElem? (i := 2) rfl)) (tb_3 _ (List.mem_of_getElem? (i := 48) rfl)) (pb_1 _ (List.mem_of_getElem? (i := 5) rfl)) ok_c5 ok_d23 rfl (by decide)
theorem okP_52 : okP (pgRw 52) := show okP (yX5_tie, cX5_tie, 4, ((Option.some Jvm.ClassFile.FieldType.int)), 3, false, 5, 651, 128, 650, 4) from okP_i (tb_3 _ (List.mem_of_getElem? (i := 45) rfl)) (tb_1 _ (List.mem_of_getElem? (i := 2) rfl)) (tb_3 _ (List.mem_of_getElem? (i := 44) rfl)) (pb_1 _ (List.mem_of_getElem? (i := 4) rfl)) ok_c5 ok_d3 rfl (by decide)
theorem okP_53 : okP (pgRw 53) := show okP (yX5_pay, cX5_pay, 3, (Option.none), 2, false, 5, 1217, 128, 1216, 60) from okP_i (tb_5 _ (List.mem_of_getElem? (i := 131) rfl)) (tb_1 _ (List.mem_of_getElem? (i := 2) rfl)) (tb_5 _ (List.mem_of_getElem? (i := 130) rfl)) (pb_4 _ (List.mem_of_getElem? (i := 12) rfl)) ok_c5 ok_d24 rfl (by decide)
theorem okP_54 : okP (pgRw 54) := show okP (yX5_allPurses, cX5_allPurses, 3, ((Option.some Jvm.ClassFile.FieldType.int)), 0, false, 5, 1376, 128, 1375, 75) from okP_i (tb_6 _ (List.mem_of_getElem? (i := 50) rfl)) (tb_1 _ (List.mem_of_getElem? (i := 2) rfl)) (tb_6 _ (List.mem_of_getElem? (i := 49) rfl)) (pb_5 _ (List.mem_of_getElem? (i := 11) rfl)) ok_c5 ok_d7 rfl (by decide)
theorem okP_55 : okP (pgRw 55) := show okP (yX6_init, cX6_init, 1, (Option.none), 0, false, 6, 224, 131, 223, 0) from okP_c (tb_1 _ (List.mem_of_getElem? (i := 98) rfl)) (tb_1 _ (List.mem_of_getElem? (i := 5) rfl)) (tb_1 _ (List.mem_of_getElem? (i := 97) rfl)) rfl ok_c6 ok_d0 rfl (by decide)
theorem okP_56 : okP (pgRw 56) := show okP (yX6_has, cX6_has, 2, ((Option.some Jvm.ClassFile.FieldType.boolean)), 1, false, 6, 687, 131, 686, 9) from okP_i (tb_3 _ (List.mem_of_getElem? (i := 81) rfl)) (tb_1 _ (List.mem_of_getElem? (i := 5) rfl)) (tb_3 _ (List.mem_of_getElem? (i := 80) rfl)) (pb_1 _ (List.mem_of_getElem? (i := 9) rfl)) ok_c6 ok_d1 rfl (by decide)
theorem okP_57 : okP (pgRw 57) := show okP (yX6_add, cX6_add, 2, ((Option.some Jvm.ClassFile.FieldType.int)), 1, false, 6, 679, 131, 678, 8) from okP_i (tb_3 _ (List.mem_of_getElem? (i := 73) rfl)) (tb_1 _ (List.mem_of_getElem? (i := 5) rfl)) (tb_3 _ (List.mem_of_getElem? (i := 72) rfl)) (pb_1 _ (List.mem_of_getElem? (i := 8) rfl)) ok_c6 ok_d4 rfl (by decide)
theorem okP_58 : okP (pgRw 58) := show okP (yX6_tellStay, cX6_tellStay, 6, ((Option.some Jvm.ClassFile.FieldType.int)), 5, false, 6, 691, 131, 690, 10) from okP_i (tb_3 _ (List.mem_of_getElem? (i := 85) rfl)) (tb_1 _ (List.mem_of_getElem? (i := 5) rfl)) (tb_3 _ (List.mem_of_getElem? (i := 84) rfl)) (pb_1 _ (List.mem_of_getElem? (i := 10) rfl)) ok_c6 ok_d12 rfl (by decide)
theorem okP_59 : okP (pgRw 59) := show okP (yX6_livesIn, cX6_livesIn, 10, ((Option.some Jvm.ClassFile.FieldType.boolean)), 4, false, 6, 699, 131, 698, 11) from okP_i (tb_3 _ (List.mem_of_getElem? (i := 93) rfl)) (tb_1 _ (List.mem_of_getElem? (i := 5) rfl)) (tb_3 _ (List.mem_of_getElem? (i := 92) rfl)) (pb_1 _ (List.mem_of_getElem? (i := 11) rfl)) ok_c6 ok_d20 rfl (by decide)
theorem okP_60 : okP (pgRw 60) := show okP (yX7_init, cX7_init, 1, (Option.none), 0, false, 7, 260, 132, 259, 0) from okP_c (tb_1 _ (List.mem_of_getElem? (i := 134) rfl)) (tb_1 _ (List.mem_of_getElem? (i := 6) rfl)) (tb_1 _ (List.mem_of_getElem? (i := 133) rfl)) rfl ok_c7 ok_d0 rfl (by decide)
theorem okP_61 : okP (pgRw 61) := show okP (yX7_tellCoin, cX7_tellCoin, 5, ((Option.some Jvm.ClassFile.FieldType.int)), 3, false, 7, 622, 132, 621, 0) from okP_i (tb_3 _ (List.mem_of_getElem? (i := 16) rfl)) (tb_1 _ (List.mem_of_getElem? (i := 6) rfl)) (tb_3 _ (List.mem_of_getElem? (i := 15) rfl)) (pb_1 _ (List.mem_of_getElem? (i := 0) rfl)) ok_c7 ok_d3 rfl (by decide)
theorem okP_62 : okP (pgRw 62) := show okP (yX7_coinOf, cX7_coinOf, 8, ((Option.some Jvm.ClassFile.FieldType.int)), 2, false, 7, 630, 132, 629, 1) from okP_i (tb_3 _ (List.mem_of_getElem? (i := 24) rfl)) (tb_1 _ (List.mem_of_getElem? (i := 6) rfl)) (tb_3 _ (List.mem_of_getElem? (i := 23) rfl)) (pb_1 _ (List.mem_of_getElem? (i := 1) rfl)) ok_c7 ok_d17 rfl (by decide)
theorem okP_63 : okP (pgRw 63) := show okP (yX7_tellLike, cX7_tellLike, 6, ((Option.some Jvm.ClassFile.FieldType.int)), 5, false, 7, 853, 132, 852, 21) from okP_i (tb_4 _ (List.mem_of_getElem? (i := 7) rfl)) (tb_1 _ (List.mem_of_getElem? (i := 6) rfl)) (tb_4 _ (List.mem_of_getElem? (i := 6) rfl)) (pb_2 _ (List.mem_of_getElem? (i := 5) rfl)) ok_c7 ok_d12 rfl (by decide)
theorem okP_64 : okP (pgRw 64) := show okP (yX7_gatherLikes, cX7_gatherLikes, 7, ((Option.some Jvm.ClassFile.FieldType.int)), 4, false, 7, 861, 132, 860, 22) from okP_i (tb_4 _ (List.mem_of_getElem? (i := 15) rfl)) (tb_1 _ (List.mem_of_getElem? (i := 6) rfl)) (tb_4 _ (List.mem_of_getElem? (i := 14) rfl)) (pb_2 _ (List.mem_of_getElem? (i := 6) rfl)) ok_c7 ok_d25 rfl (by decide)
theorem okP_65 : okP (pgRw 65) := show okP (yX7_putSorted, cX7_putSorted, 3, (Option.none), 1, false, 7, 868, 132, 867, 23) from okP_i (tb_4 _ (List.mem_of_getElem? (i := 22) rfl)) (tb_1 _ (List.mem_of_getElem? (i := 6) rfl)) (tb_4 _ (List.mem_of_getElem? (i := 21) rfl)) (pb_2 _ (List.mem_of_getElem? (i := 7) rfl)) ok_c7 ok_d6 rfl (by decide)
theorem okP_66 : okP (pgRw 66) := show okP (yX7_middleLike, cX7_middleLike, 1, ((Option.some Jvm.ClassFile.FieldType.int)), 0, false, 7, 872, 132, 871, 24) from okP_i (tb_4 _ (List.mem_of_getElem? (i := 26) rfl)) (tb_1 _ (List.mem_of_getElem? (i := 6) rfl)) (tb_4 _ (List.mem_of_getElem? (i := 25) rfl)) (pb_2 _ (List.mem_of_getElem? (i := 8) rfl)) ok_c7 ok_d7 rfl (by decide)
theorem okP_67 : okP (pgRw 67) := show okP (yX8_init, cX8_init, 4, (Option.none), 3, false, 8, 449, 137, 448, 0) from okP_c (tb_2 _ (List.mem_of_getElem? (i := 83) rfl)) (tb_1 _ (List.mem_of_getElem? (i := 11) rfl)) (tb_2 _ (List.mem_of_getElem? (i := 82) rfl)) rfl ok_c8 ok_d26 rfl (by decide)
theorem okP_68 : okP (pgRw 68) := show okP (yX8_has, cX8_has, 2, ((Option.some Jvm.ClassFile.FieldType.boolean)), 1, false, 8, 1165, 137, 1164, 51) from okP_i (tb_5 _ (List.mem_of_getElem? (i := 79) rfl)) (tb_1 _ (List.mem_of_getElem? (i := 11) rfl)) (tb_5 _ (List.mem_of_getElem? (i := 78) rfl)) (pb_4 _ (List.mem_of_getElem? (i := 3) rfl)) ok_c8 ok_d1 rfl (by decide)
theorem okP_69 : okP (pgRw 69) := show okP (yX8_add, cX8_add, 5, ((Option.some Jvm.ClassFile.FieldType.int)), 3, false, 8, 1157, 137, 1156, 50) from okP_i (tb_5 _ (List.mem_of_getElem? (i := 71) rfl)) (tb_1 _ (List.mem_of_getElem? (i := 11) rfl)) (tb_5 _ (List.mem_of_getElem? (i := 70) rfl)) (pb_4 _ (List.mem_of_getElem? (i := 2) rfl)) ok_c8 ok_d3 rfl (by decide)
theorem okP_70 : okP (pgRw 70) := show okP (yX8_deal, cX8_deal, 7, ((Option.some Jvm.ClassFile.FieldType.int)), 3, false, 8, 1169, 137, 1168, 52) from okP_i (tb_5 _ (List.mem_of_getElem? (i := 83) rfl)) (tb_1 _ (List.mem_of_getElem? (i := 11) rfl)) (tb_5 _ (List.mem_of_getElem? (i := 82) rfl)) (pb_4 _ (List.mem_of_getElem? (i := 4) rfl)) ok_c8 ok_d3 rfl (by decide)
theorem okP_71 : okP (pgRw 71) := show okP (yX8_dealYear, cX8_dealYear, 7, ((Option.some Jvm.ClassFile.FieldType.int)), 3, false, 8, 1174, 137, 1173, 53) from okP_i (tb_5 _ (List.mem_of_getElem? (i := 88) rfl)) (tb_1 _ (List.mem_of_getElem? (i := 11) rfl)) (tb_5 _ (List.mem_of_getElem? (i := 87) rfl)) (pb_4 _ (List.mem_of_getElem? (i := 5) rfl)) ok_c8 ok_d3 rfl (by decide)
theorem okP_72 : okP (pgRw 72) := show okP (yX8_lend, cX8_lend, 4, ((Option.some Jvm.ClassFile.FieldType.int)), 3, false, 8, 1187, 137, 1186, 54) from okP_i (tb_5 _ (List.mem_of_getElem? (i := 101) rfl)) (tb_1 _ (List.mem_of_getElem? (i := 11) rfl)) (tb_5 _ (List.mem_of_getElem? (i := 100) rfl)) (pb_4 _ (List.mem_of_getElem? (i := 6) rfl)) ok_c8 ok_d3 rfl (by decide)
theorem okP_73 : okP (pgRw 73) := show okP (yX8_payHalf, cX8_payHalf, 4, ((Option.some Jvm.ClassFile.FieldType.int)), 2, false, 8, 1195, 137, 1194, 55) from okP_i (tb_5 _ (List.mem_of_getElem? (i := 109) rfl)) (tb_1 _ (List.mem_of_getElem? (i := 11) rfl)) (tb_5 _ (List.mem_of_getElem? (i := 108) rfl)) (pb_4 _ (List.mem_of_getElem? (i := 7) rfl)) ok_c8 ok_d17 rfl (by decide)
theorem okP_74 : okP (pgRw 74) := show okP (yX8_close, cX8_close, 4, ((Option.some Jvm.ClassFile.FieldType.int)), 2, false, 8, 1225, 137, 1224, 61) from okP_i (tb_5 _ (List.mem_of_getElem? (i := 139) rfl)) (tb_1 _ (List.mem_of_getElem? (i := 11) rfl)) (tb_5 _ (List.mem_of_getElem? (i := 138) rfl)) (pb_4 _ (List.mem_of_getElem? (i := 13) rfl)) ok_c8 ok_d17 rfl (by decide)
theorem okP_75 : okP (pgRw 75) := show okP (yX8_payOut, cX8_payOut, 5, (Option.none), 2, false, 8, 1199, 137, 1198, 56) from okP_i (tb_5 _ (List.mem_of_getElem? (i := 113) rfl)) (tb_1 _ (List.mem_of_getElem? (i := 11) rfl)) (tb_5 _ (List.mem_of_getElem? (i := 112) rfl)) (pb_4 _ (List.mem_of_getElem? (i := 8) rfl)) ok_c8 ok_d24 rfl (by decide)
theorem okP_76 : okP (pgRw 76) := show okP (yX8_isOf, cX8_isOf, 4, ((Option.some Jvm.ClassFile.FieldType.boolean)), 3, false, 8, 1207, 137, 1206, 58) from okP_i (tb_5 _ (List.mem_of_getElem? (i := 121) rfl)) (tb_1 _ (List.mem_of_getElem? (i := 11) rfl)) (tb_5 _ (List.mem_of_getElem? (i := 120) rfl)) (pb_4 _ (List.mem_of_getElem? (i := 10) rfl)) ok_c8 ok_d23 rfl (by decide)
theorem okP_77 : okP (pgRw 77) := show okP (yX8_repay, cX8_repay, 11, ((Option.some Jvm.ClassFile.FieldType.int)), 3, false, 8, 1203, 137, 1202, 57) from okP_i (tb_5 _ (List.mem_of_getElem? (i := 117) rfl)) (tb_1 _ (List.mem_of_getElem? (i := 11) rfl)) (tb_5 _ (List.mem_of_getElem? (i := 116) rfl)) (pb_4 _ (List.mem_of_getElem? (i := 9) rfl)) ok_c8 ok_d3 rfl (by decide)
theorem okP_78 : okP (pgRw 78) := show okP (yX8_payRests, cX8_payRests, 5, (Option.none), 1, false, 8, 1212, 137, 1211, 59) from okP_i (tb_5 _ (List.mem_of_getElem? (i := 126) rfl)) (tb_1 _ (List.mem_of_getElem? (i := 11) rfl)) (tb_5 _ (List.mem_of_getElem? (i := 125) rfl)) (pb_4 _ (List.mem_of_getElem? (i := 11) rfl)) ok_c8 ok_d6 rfl (by decide)
theorem okP_79 : okP (pgRw 79) := show okP (yX8_allRepaid, cX8_allRepaid, 3, ((Option.some Jvm.ClassFile.FieldType.int)), 0, false, 8, 1380, 137, 1379, 76) from okP_i (tb_6 _ (List.mem_of_getElem? (i := 54) rfl)) (tb_1 _ (List.mem_of_getElem? (i := 11) rfl)) (tb_6 _ (List.mem_of_getElem? (i := 53) rfl)) (pb_5 _ (List.mem_of_getElem? (i := 12) rfl)) ok_c8 ok_d7 rfl (by decide)
theorem okP_80 : okP (pgRw 80) := show okP (yX9_init, cX9_init, 1, (Option.none), 0, false, 9, 343, 134, 342, 0) from okP_c (tb_1 _ (List.mem_of_getElem? (i := 217) rfl)) (tb_1 _ (List.mem_of_getElem? (i := 8) rfl)) (tb_1 _ (List.mem_of_getElem? (i := 216) rfl)) rfl ok_c9 ok_d0 rfl (by decide)
theorem okP_81 : okP (pgRw 81) := show okP (yX9_take, cX9_take, 4, ((Option.some Jvm.ClassFile.FieldType.int)), 2, false, 9, 994, 134, 993, 41) from okP_i (tb_4 _ (List.mem_of_getElem? (i := 148) rfl)) (tb_1 _ (List.mem_of_getElem? (i := 8) rfl)) (tb_4 _ (List.mem_of_getElem? (i := 147) rfl)) (pb_3 _ (List.mem_of_getElem? (i := 9) rfl)) ok_c9 ok_d17 rfl (by decide)
theorem okP_82 : okP (pgRw 82) := show okP (yX9_compile, cX9_compile, 1, ((Option.some Jvm.ClassFile.FieldType.int)), 0, false, 9, 1005, 134, 1004, 42) from okP_i (tb_4 _ (List.mem_of_getElem? (i := 159) rfl)) (tb_1 _ (List.mem_of_getElem? (i := 8) rfl)) (tb_4 _ (List.mem_of_getElem? (i := 158) rfl)) (pb_3 _ (List.mem_of_getElem? (i := 10) rfl)) ok_c9 ok_d7 rfl (by decide)
theorem okP_83 : okP (pgRw 83) := show okP (yX9_next, cX9_next, 1, ((Option.some Jvm.ClassFile.FieldType.int)), 0, false, 9, 1021, 134, 1020, 46) from okP_i (tb_4 _ (List.mem_of_getElem? (i := 175) rfl)) (tb_1 _ (List.mem_of_getElem? (i := 8) rfl)) (tb_4 _ (List.mem_of_getElem? (i := 174) rfl)) (pb_3 _ (List.mem_of_getElem? (i := 14) rfl)) ok_c9 ok_d7 rfl (by decide)
theorem okP_84 : okP (pgRw 84) := show okP (yX9_put, cX9_put, 2, (Option.none), 1, false, 9, 1112, 134, 1111, 48) from okP_i (tb_5 _ (List.mem_of_getElem? (i := 26) rfl)) (tb_1 _ (List.mem_of_getElem? (i := 8) rfl)) (tb_5 _ (List.mem_of_getElem? (i := 25) rfl)) (pb_4 _ (List.mem_of_getElem? (i := 0) rfl)) ok_c9 ok_d6 rfl (by decide)
theorem okP_85 : okP (pgRw 85) := show okP (yX9_readLine, cX9_readLine, 1, (Option.none), 0, false, 9, 1009, 134, 1008, 43) from okP_i (tb_4 _ (List.mem_of_getElem? (i := 163) rfl)) (tb_1 _ (List.mem_of_getElem? (i := 8) rfl)) (tb_4 _ (List.mem_of_getElem? (i := 162) rfl)) (pb_3 _ (List.mem_of_getElem? (i := 11) rfl)) ok_c9 ok_d0 rfl (by decide)
theorem okP_86 : okP (pgRw 86) := show okP (yX9_readPart, cX9_readPart, 4, (Option.none), 2, false, 9, 1013, 134, 1012, 44) from okP_i (tb_4 _ (List.mem_of_getElem? (i := 167) rfl)) (tb_1 _ (List.mem_of_getElem? (i := 8) rfl)) (tb_4 _ (List.mem_of_getElem? (i := 166) rfl)) (pb_3 _ (List.mem_of_getElem? (i := 12) rfl)) ok_c9 ok_d24 rfl (by decide)
theorem okP_87 : okP (pgRw 87) := show okP (yX9_isSign, cX9_isSign, 2, ((Option.some Jvm.ClassFile.FieldType.boolean)), 2, true, 9, 1115, 134, 1114, 0) from okP_s (tb_5 _ (List.mem_of_getElem? (i := 29) rfl)) (tb_1 _ (List.mem_of_getElem? (i := 8) rfl)) (tb_5 _ (List.mem_of_getElem? (i := 28) rfl)) ok_c9 ok_d15 rfl (by decide)
theorem okP_88 : okP (pgRw 88) := show okP (yX9_readOperand, cX9_readOperand, 4, (Option.none), 1, false, 9, 1017, 134, 1016, 45) from okP_i (tb_4 _ (List.mem_of_getElem? (i := 171) rfl)) (tb_1 _ (List.mem_of_getElem? (i := 8) rfl)) (tb_4 _ (List.mem_of_getElem? (i := 170) rfl)) (pb_3 _ (List.mem_of_getElem? (i := 13) rfl)) ok_c9 ok_d6 rfl (by decide)
theorem okP_89 : okP (pgRw 89) := show okP (yX9_readNumber, cX9_readNumber, 3, (Option.none), 0, false, 9, 1108, 134, 1107, 47) from okP_i (tb_5 _ (List.mem_of_getElem? (i := 22) rfl)) (tb_1 _ (List.mem_of_getElem? (i := 8) rfl)) (tb_5 _ (List.mem_of_getElem? (i := 21) rfl)) (pb_3 _ (List.mem_of_getElem? (i := 15) rfl)) ok_c9 ok_d0 rfl (by decide)
theorem okP_90 : okP (pgRw 90) := show okP (yX10_init, cX10_init, 2, (Option.none), 1, false, 10, 525, 138, 524, 0) from okP_c (tb_2 _ (List.mem_of_getElem? (i := 159) rfl)) (tb_1 _ (List.mem_of_getElem? (i := 12) rfl)) (tb_2 _ (List.mem_of_getElem? (i := 158) rfl)) rfl ok_c10 ok_d27 rfl (by decide)
theorem okP_91 : okP (pgRw 91) := show okP (yX10_add, cX10_add, 3, ((Option.some Jvm.ClassFile.FieldType.int)), 2, false, 10, 1242, 138, 1241, 62) from okP_i (tb_5 _ (List.mem_of_getElem? (i := 156) rfl)) (tb_1 _ (List.mem_of_getElem? (i := 12) rfl)) (tb_5 _ (List.mem_of_getElem? (i := 155) rfl)) (pb_4 _ (List.mem_of_getElem? (i := 14) rfl)) ok_c10 ok_d17 rfl (by decide)
theorem okP_92 : okP (pgRw 92) := show okP (yX10_findBest, cX10_findBest, 11, ((Option.some Jvm.ClassFile.FieldType.int)), 4, false, 10, 1251, 138, 1250, 63) from okP_i (tb_5 _ (List.mem_of_getElem? (i := 165) rfl)) (tb_1 _ (List.mem_of_getElem? (i := 12) rfl)) (tb_5 _ (List.mem_of_getElem? (i := 164) rfl)) (pb_4 _ (List.mem_of_getElem? (i := 15) rfl)) ok_c10 ok_d25 rfl (by decide)
theorem okP_93 : okP (pgRw 93) := show okP (yX10_seat, cX10_seat, 5, (Option.none), 3, false, 10, 1255, 138, 1254, 64) from okP_i (tb_5 _ (List.mem_of_getElem? (i := 169) rfl)) (tb_1 _ (List.mem_of_getElem? (i := 12) rfl)) (tb_5 _ (List.mem_of_getElem? (i := 168) rfl)) (pb_5 _ (List.mem_of_getElem? (i := 0) rfl)) ok_c10 ok_d28 rfl (by decide)
theorem okP_94 : okP (pgRw 94) := show okP (yX10_readWay, cX10_readWay, 4, (Option.none), 1, false, 10, 1264, 138, 1263, 66) from okP_i (tb_5 _ (List.mem_of_getElem? (i := 178) rfl)) (tb_1 _ (List.mem_of_getElem? (i := 12) rfl)) (tb_5 _ (List.mem_of_getElem? (i := 177) rfl)) (pb_5 _ (List.mem_of_getElem? (i := 2) rfl)) ok_c10 ok_d6 rfl (by decide)
theorem okP_95 : okP (pgRw 95) := show okP (yX10_worthOf, cX10_worthOf, 4, ((Option.some Jvm.ClassFile.FieldType.int)), 1, false, 10, 1260, 138, 1259, 65) from okP_i (tb_5 _ (List.mem_of_getElem? (i := 174) rfl)) (tb_1 _ (List.mem_of_getElem? (i := 12) rfl)) (tb_5 _ (List.mem_of_getElem? (i := 173) rfl)) (pb_5 _ (List.mem_of_getElem? (i := 1) rfl)) ok_c10 ok_d4 rfl (by decide)
theorem okP_96 : okP (pgRw 96) := show okP (yX10_isFair, cX10_isFair, 4, ((Option.some Jvm.ClassFile.FieldType.boolean)), 1, false, 10, 1270, 138, 1269, 67) from okP_i (tb_5 _ (List.mem_of_getElem? (i := 184) rfl)) (tb_1 _ (List.mem_of_getElem? (i := 12) rfl)) (tb_5 _ (List.mem_of_getElem? (i := 183) rfl)) (pb_5 _ (List.mem_of_getElem? (i := 3) rfl)) ok_c10 ok_d1 rfl (by decide)
theorem okP_97 : okP (pgRw 97) := show okP (yX11_init, cX11_init, 1, (Option.none), 0, false, 11, 153, 127, 152, 0) from okP_c (tb_1 _ (List.mem_of_getElem? (i := 27) rfl)) (tb_1 _ (List.mem_of_getElem? (i := 1) rfl)) (tb_1 _ (List.mem_of_getElem? (i := 26) rfl)) rfl ok_c11 ok_d0 rfl (by decide)
theorem okP_98 : okP (pgRw 98) := show okP (yX11_days, cX11_days, 2, ((Option.some Jvm.ClassFile.FieldType.int)), 1, false, 11, 604, 127, 602, 603) from okP_i (tb_2 _ (List.mem_of_getElem? (i := 238) rfl)) (tb_1 _ (List.mem_of_getElem? (i := 1) rfl)) (tb_2 _ (List.mem_of_getElem? (i := 236) rfl)) (tb_2 _ (List.mem_of_getElem? (i := 237) rfl)) ok_c11 ok_d4 rfl (by decide)
theorem okP_99 : okP (pgRw 99) := show okP (yX11_coin, cX11_coin, 4, ((Option.some Jvm.ClassFile.FieldType.int)), 3, false, 11, 611, 127, 609, 610) from okP_i (tb_3 _ (List.mem_of_getElem? (i := 5) rfl)) (tb_1 _ (List.mem_of_getElem? (i := 1) rfl)) (tb_3 _ (List.mem_of_getElem? (i := 3) rfl)) (tb_3 _ (List.mem_of_getElem? (i := 4) rfl)) ok_c11 ok_d3 rfl (by decide)
theorem okP_100 : okP (pgRw 100) := show okP (yX11_coinOn, cX11_coinOn, 3, ((Option.some Jvm.ClassFile.FieldType.int)), 2, false, 11, 626, 127, 624, 625) from okP_i (tb_3 _ (List.mem_of_getElem? (i := 20) rfl)) (tb_1 _ (List.mem_of_getElem? (i := 1) rfl)) (tb_3 _ (List.mem_of_getElem? (i := 18) rfl)) (tb_3 _ (List.mem_of_getElem? (i := 19) rfl)) ok_c11 ok_d17 rfl (by decide)
theorem okP_101 : okP (pgRw 101) := show okP (yX11_house, cX11_house, 2, ((Option.some Jvm.ClassFile.FieldType.int)), 1, false, 11, 635, 127, 633, 634) from okP_i (tb_3 _ (List.mem_of_getElem? (i := 29) rfl)) (tb_1 _ (List.mem_of_getElem? (i := 1) rfl)) (tb_3 _ (List.mem_of_getElem? (i := 27) rfl)) (tb_3 _ (List.mem_of_getElem? (i := 28) rfl)) ok_c11 ok_d4 rfl (by decide)
theorem okP_102 : okP (pgRw 102) := show okP (yX11_relate, cX11_relate, 3, ((Option.some Jvm.ClassFile.FieldType.int)), 2, false, 11, 643, 127, 641, 642) from okP_i (tb_3 _ (List.mem_of_getElem? (i := 37) rfl)) (tb_1 _ (List.mem_of_getElem? (i := 1) rfl)) (tb_3 _ (List.mem_of_getElem? (i := 35) rfl)) (tb_3 _ (List.mem_of_getElem? (i := 36) rfl)) ok_c11 ok_d17 rfl (by decide)
theorem okP_103 : okP (pgRw 103) := show okP (yX11_film, cX11_film, 3, ((Option.some Jvm.ClassFile.FieldType.int)), 2, false, 11, 659, 127, 657, 658) from okP_i (tb_3 _ (List.mem_of_getElem? (i := 53) rfl)) (tb_1 _ (List.mem_of_getElem? (i := 1) rfl)) (tb_3 _ (List.mem_of_getElem? (i := 51) rfl)) (tb_3 _ (List.mem_of_getElem? (i := 52) rfl)) ok_c11 ok_d17 rfl (by decide)
theorem okP_104 : okP (pgRw 104) := show okP (yX11_sell, cX11_sell, 4, ((Option.some Jvm.ClassFile.FieldType.int)), 2, false, 11, 667, 127, 665, 666) from okP_i (tb_3 _ (List.mem_of_getElem? (i := 61) rfl)) (tb_1 _ (List.mem_of_getElem? (i := 1) rfl)) (tb_3 _ (List.mem_of_getElem? (i := 59) rfl)) (tb_3 _ (List.mem_of_getElem? (i := 60) rfl)) ok_c11 ok_d17 rfl (by decide)
theorem okP_105 : okP (pgRw 105) := show okP (yX11_person, cX11_person, 2, ((Option.some Jvm.ClassFile.FieldType.int)), 1, false, 11, 675, 127, 673, 674) from okP_i (tb_3 _ (List.mem_of_getElem? (i := 69) rfl)) (tb_1 _ (List.mem_of_getElem? (i := 1) rfl)) (tb_3 _ (List.mem_of_getElem? (i := 67) rfl)) (tb_3 _ (List.mem_of_getElem? (i := 68) rfl)) ok_c11 ok_d4 rfl (by decide)
theorem okP_106 : okP (pgRw 106) := show okP (yX11_stay, cX11_stay, 5, ((Option.some Jvm.ClassFile.FieldType.int)), 4, false, 11, 683, 127, 681, 682) from okP_i (tb_3 _ (List.mem_of_getElem? (i := 77) rfl)) (tb_1 _ (List.mem_of_getElem? (i := 1) rfl)) (tb_3 _ (List.mem_of_getElem? (i := 75) rfl)) (tb_3 _ (List.mem_of_getElem? (i := 76) rfl)) ok_c11 ok_d25 rfl (by decide)
theorem okP_107 : okP (pgRw 107) := show okP (yX11_lives, cX11_lives, 5, ((Option.some Jvm.ClassFile.FieldType.int)), 4, false, 11, 695, 127, 693, 694) from okP_i (tb_3 _ (List.mem_of_getElem? (i := 89) rfl)) (tb_1 _ (List.mem_of_getElem? (i := 1) rfl)) (tb_3 _ (List.mem_of_getElem? (i := 87) rfl)) (tb_3 _ (List.mem_of_getElem? (i := 88) rfl)) ok_c11 ok_d25 rfl (by decide)
theorem okP_108 : okP (pgRw 108) := show okP (yX11_point, cX11_point, 4, ((Option.some Jvm.ClassFile.FieldType.int)), 3, false, 11, 711, 127, 709, 710) from okP_i (tb_3 _ (List.mem_of_getElem? (i := 105) rfl)) (tb_1 _ (List.mem_of_getElem? (i := 1) rfl)) (tb_3 _ (List.mem_of_getElem? (i := 103) rfl)) (tb_3 _ (List.mem_of_getElem? (i := 104) rfl)) ok_c11 ok_d3 rfl (by decide)
theorem okP_109 : okP (pgRw 109) := show okP (yX11_prove, cX11_prove, 2, ((Option.some Jvm.ClassFile.FieldType.int)), 1, false, 11, 719, 127, 717, 718) from okP_i (tb_3 _ (List.mem_of_getElem? (i := 113) rfl)) (tb_1 _ (List.mem_of_getElem? (i := 1) rfl)) (tb_3 _ (List.mem_of_getElem? (i := 111) rfl)) (tb_3 _ (List.mem_of_getElem? (i := 112) rfl)) ok_c11 ok_d4 rfl (by decide)
theorem okP_110 : okP (pgRw 110) := show okP (yX11_points, cX11_points, 4, ((Option.some Jvm.ClassFile.FieldType.int)), 3, false, 11, 731, 127, 729, 730) from okP_i (tb_3 _ (List.mem_of_getElem? (i := 125) rfl)) (tb_1 _ (List.mem_of_getElem? (i := 1) rfl)) (tb_3 _ (List.mem_of_getElem? (i := 123) rfl)) (tb_3 _ (List.mem_of_getElem? (i := 124) rfl)) ok_c11 ok_d3 rfl (by decide)
theorem okP_111 : okP (pgRw 111) := show okP (yX11_set, cX11_set, 4, ((Option.some Jvm.ClassFile.FieldType.int)), 2, false, 11, 739, 127, 737, 738) from okP_i (tb_3 _ (List.mem_of_getElem? (i := 133) rfl)) (tb_1 _ (List.mem_of_getElem? (i := 1) rfl)) (tb_3 _ (List.mem_of_getElem? (i := 131) rfl)) (tb_3 _ (List.mem_of_getElem? (i := 132) rfl)) ok_c11 ok_d17 rfl (by decide)
theorem okP_112 : okP (pgRw 112) := show okP (yX11_cost, cX11_cost, 3, ((Option.some Jvm.ClassFile.FieldType.int)), 2, false, 11, 743, 127, 741, 742) from okP_i (tb_3 _ (List.mem_of_getElem? (i := 137) rfl)) (tb_1 _ (List.mem_of_getElem? (i := 1) rfl)) (tb_3 _ (List.mem_of_getElem? (i := 135) rfl)) (tb_3 _ (List.mem_of_getElem? (i := 136) rfl)) ok_c11 ok_d17 rfl (by decide)
theorem okP_113 : okP (pgRw 113) := show okP (yX11_of, cX11_of, 4, ((Option.some Jvm.ClassFile.FieldType.int)), 2, false, 11, 832, 127, 830, 831) from okP_i (tb_3 _ (List.mem_of_getElem? (i := 226) rfl)) (tb_1 _ (List.mem_of_getElem? (i := 1) rfl)) (tb_3 _ (List.mem_of_getElem? (i := 224) rfl)) (tb_3 _ (List.mem_of_getElem? (i := 225) rfl)) ok_c11 ok_d17 rfl (by decide)
theorem okP_114 : okP (pgRw 114) := show okP (yX11_like, cX11_like, 5, ((Option.some Jvm.ClassFile.FieldType.int)), 4, false, 11, 849, 127, 847, 848) from okP_i (tb_4 _ (List.mem_of_getElem? (i := 3) rfl)) (tb_1 _ (List.mem_of_getElem? (i := 1) rfl)) (tb_4 _ (List.mem_of_getElem? (i := 1) rfl)) (tb_4 _ (List.mem_of_getElem? (i := 2) rfl)) ok_c11 ok_d25 rfl (by decide)
theorem okP_115 : okP (pgRw 115) := show okP (yX11_span, cX11_span, 6, ((Option.some Jvm.ClassFile.FieldType.int)), 3, false, 11, 857, 127, 855, 856) from okP_i (tb_4 _ (List.mem_of_getElem? (i := 11) rfl)) (tb_1 _ (List.mem_of_getElem? (i := 1) rfl)) (tb_4 _ (List.mem_of_getElem? (i := 9) rfl)) (tb_4 _ (List.mem_of_getElem? (i := 10) rfl)) ok_c11 ok_d3 rfl (by decide)
theorem okP_116 : okP (pgRw 116) := show okP (yX11_counted, cX11_counted, 5, ((Option.some Jvm.ClassFile.FieldType.int)), 3, false, 11, 876, 127, 874, 875) from okP_i (tb_4 _ (List.mem_of_getElem? (i := 30) rfl)) (tb_1 _ (List.mem_of_getElem? (i := 1) rfl)) (tb_4 _ (List.mem_of_getElem? (i := 28) rfl)) (tb_4 _ (List.mem_of_getElem? (i := 29) rfl)) ok_c11 ok_d3 rfl (by decide)
theorem okP_117 : okP (pgRw 117) := show okP (yX11_base, cX11_base, 6, ((Option.some Jvm.ClassFile.FieldType.int)), 5, false, 11, 971, 127, 969, 970) from okP_i (tb_4 _ (List.mem_of_getElem? (i := 125) rfl)) (tb_1 _ (List.mem_of_getElem? (i := 1) rfl)) (tb_4 _ (List.mem_of_getElem? (i := 123) rfl)) (tb_4 _ (List.mem_of_getElem? (i := 124) rfl)) ok_c11 ok_d12 rfl (by decide)
theorem okP_118 : okP (pgRw 118) := show okP (yX11_feed, cX11_feed, 3, ((Option.some Jvm.ClassFile.FieldType.int)), 2, false, 11, 990, 127, 988, 989) from okP_i (tb_4 _ (List.mem_of_getElem? (i := 144) rfl)) (tb_1 _ (List.mem_of_getElem? (i := 1) rfl)) (tb_4 _ (List.mem_of_getElem? (i := 142) rfl)) (tb_4 _ (List.mem_of_getElem? (i := 143) rfl)) ok_c11 ok_d17 rfl (by decide)
theorem okP_119 : okP (pgRw 119) := show okP (yX11_text, cX11_text, 4, ((Option.some Jvm.ClassFile.FieldType.int)), 2, false, 11, 998, 127, 996, 997) from okP_i (tb_4 _ (List.mem_of_getElem? (i := 152) rfl)) (tb_1 _ (List.mem_of_getElem? (i := 1) rfl)) (tb_4 _ (List.mem_of_getElem? (i := 150) rfl)) (tb_4 _ (List.mem_of_getElem? (i := 151) rfl)) ok_c11 ok_d17 rfl (by decide)
theorem okP_120 : okP (pgRw 120) := show okP (yX11_inForce, cX11_inForce, 4, ((Option.some Jvm.ClassFile.FieldType.int)), 3, false, 11, 1138, 127, 1136, 1137) from okP_i (tb_5 _ (List.mem_of_getElem? (i := 52) rfl)) (tb_1 _ (List.mem_of_getElem? (i := 1) rfl)) (tb_5 _ (List.mem_of_getElem? (i := 50) rfl)) (tb_5 _ (List.mem_of_getElem? (i := 51) rfl)) ok_c11 ok_d3 rfl (by decide)
theorem okP_121 : okP (pgRw 121) := show okP (yX11_law, cX11_law, 6, ((Option.some Jvm.ClassFile.FieldType.int)), 5, false, 11, 1143, 127, 1141, 1142) from okP_i (tb_5 _ (List.mem_of_getElem? (i := 57) rfl)) (tb_1 _ (List.mem_of_getElem? (i := 1) rfl)) (tb_5 _ (List.mem_of_getElem? (i := 55) rfl)) (tb_5 _ (List.mem_of_getElem? (i := 56) rfl)) ok_c11 ok_d12 rfl (by decide)
theorem okP_122 : okP (pgRw 122) := show okP (yX11_cap, cX11_cap, 6, ((Option.some Jvm.ClassFile.FieldType.int)), 3, false, 11, 1148, 127, 1146, 1147) from okP_i (tb_5 _ (List.mem_of_getElem? (i := 62) rfl)) (tb_1 _ (List.mem_of_getElem? (i := 1) rfl)) (tb_5 _ (List.mem_of_getElem? (i := 60) rfl)) (tb_5 _ (List.mem_of_getElem? (i := 61) rfl)) ok_c11 ok_d3 rfl (by decide)
theorem okP_123 : okP (pgRw 123) := show okP (yX11_ask, cX11_ask, 3, ((Option.some Jvm.ClassFile.FieldType.int)), 2, false, 11, 1153, 127, 1151, 1152) from okP_i (tb_5 _ (List.mem_of_getElem? (i := 67) rfl)) (tb_1 _ (List.mem_of_getElem? (i := 1) rfl)) (tb_5 _ (List.mem_of_getElem? (i := 65) rfl)) (tb_5 _ (List.mem_of_getElem? (i := 66) rfl)) ok_c11 ok_d17 rfl (by decide)
theorem okP_124 : okP (pgRw 124) := show okP (yX11_given, cX11_given, 5, ((Option.some Jvm.ClassFile.FieldType.int)), 2, false, 11, 1161, 127, 1159, 1160) from okP_i (tb_5 _ (List.mem_of_getElem? (i := 75) rfl)) (tb_1 _ (List.mem_of_getElem? (i := 1) rfl)) (tb_5 _ (List.mem_of_getElem? (i := 73) rfl)) (tb_5 _ (List.mem_of_getElem? (i := 74) rfl)) ok_c11 ok_d17 rfl (by decide)
theorem okP_125 : okP (pgRw 125) := show okP (yX11_foretold, cX11_foretold, 2, ((Option.some Jvm.ClassFile.FieldType.int)), 1, false, 11, 1179, 127, 1177, 1178) from okP_i (tb_5 _ (List.mem_of_getElem? (i := 93) rfl)) (tb_1 _ (List.mem_of_getElem? (i := 1) rfl)) (tb_5 _ (List.mem_of_getElem? (i := 91) rfl)) (tb_5 _ (List.mem_of_getElem? (i := 92) rfl)) ok_c11 ok_d4 rfl (by decide)
theorem okP_126 : okP (pgRw 126) := show okP (yX11_loan, cX11_loan, 5, ((Option.some Jvm.ClassFile.FieldType.int)), 4, false, 11, 1183, 127, 1181, 1182) from okP_i (tb_5 _ (List.mem_of_getElem? (i := 97) rfl)) (tb_1 _ (List.mem_of_getElem? (i := 1) rfl)) (tb_5 _ (List.mem_of_getElem? (i := 95) rfl)) (tb_5 _ (List.mem_of_getElem? (i := 96) rfl)) ok_c11 ok_d25 rfl (by decide)
theorem okP_127 : okP (pgRw 127) := show okP (yX11_advance, cX11_advance, 2, ((Option.some Jvm.ClassFile.FieldType.int)), 1, false, 11, 1191, 127, 1189, 1190) from okP_i (tb_5 _ (List.mem_of_getElem? (i := 105) rfl)) (tb_1 _ (List.mem_of_getElem? (i := 1) rfl)) (tb_5 _ (List.mem_of_getElem? (i := 103) rfl)) (tb_5 _ (List.mem_of_getElem? (i := 104) rfl)) ok_c11 ok_d4 rfl (by decide)
theorem okP_128 : okP (pgRw 128) := show okP (yX11_settle, cX11_settle, 3, ((Option.some Jvm.ClassFile.FieldType.int)), 1, false, 11, 1221, 127, 1219, 1220) from okP_i (tb_5 _ (List.mem_of_getElem? (i := 135) rfl)) (tb_1 _ (List.mem_of_getElem? (i := 1) rfl)) (tb_5 _ (List.mem_of_getElem? (i := 133) rfl)) (tb_5 _ (List.mem_of_getElem? (i := 134) rfl)) ok_c11 ok_d4 rfl (by decide)
theorem okP_129 : okP (pgRw 129) := show okP (yX11_repaid, cX11_repaid, 3, ((Option.some Jvm.ClassFile.FieldType.int)), 2, false, 11, 1230, 127, 1228, 1229) from okP_i (tb_5 _ (List.mem_of_getElem? (i := 144) rfl)) (tb_1 _ (List.mem_of_getElem? (i := 1) rfl)) (tb_5 _ (List.mem_of_getElem? (i := 142) rfl)) (tb_5 _ (List.mem_of_getElem? (i := 143) rfl)) ok_c11 ok_d17 rfl (by decide)
theorem okP_130 : okP (pgRw 130) := show okP (yX11_got, cX11_got, 2, ((Option.some Jvm.ClassFile.FieldType.int)), 1, false, 11, 1234, 127, 1232, 1233) from okP_i (tb_5 _ (List.mem_of_getElem? (i := 148) rfl)) (tb_1 _ (List.mem_of_getElem? (i := 1) rfl)) (tb_5 _ (List.mem_of_getElem? (i := 146) rfl)) (tb_5 _ (List.mem_of_getElem? (i := 147) rfl)) ok_c11 ok_d4 rfl (by decide)
theorem okP_131 : okP (pgRw 131) := show okP (yX11_move, cX11_move, 3, ((Option.some Jvm.ClassFile.FieldType.int)), 2, false, 11, 1238, 127, 1236, 1237) from okP_i (tb_5 _ (List.mem_of_getElem? (i := 152) rfl)) (tb_1 _ (List.mem_of_getElem? (i := 1) rfl)) (tb_5 _ (List.mem_of_getElem? (i := 150) rfl)) (tb_5 _ (List.mem_of_getElem? (i := 151) rfl)) ok_c11 ok_d17 rfl (by decide)
theorem okP_132 : okP (pgRw 132) := show okP (yX11_split, cX11_split, 4, ((Option.some Jvm.ClassFile.FieldType.int)), 3, false, 11, 1246, 127, 1244, 1245) from okP_i (tb_5 _ (List.mem_of_getElem? (i := 160) rfl)) (tb_1 _ (List.mem_of_getElem? (i := 1) rfl)) (tb_5 _ (List.mem_of_getElem? (i := 158) rfl)) (tb_5 _ (List.mem_of_getElem? (i := 159) rfl)) ok_c11 ok_d3 rfl (by decide)
theorem okP_133 : okP (pgRw 133) := show okP (yX11_moved, cX11_moved, 2, ((Option.some Jvm.ClassFile.FieldType.int)), 1, false, 11, 1274, 127, 1272, 1273) from okP_i (tb_5 _ (List.mem_of_getElem? (i := 188) rfl)) (tb_1 _ (List.mem_of_getElem? (i := 1) rfl)) (tb_5 _ (List.mem_of_getElem? (i := 186) rfl)) (tb_5 _ (List.mem_of_getElem? (i := 187) rfl)) ok_c11 ok_d4 rfl (by decide)
theorem okP_134 : okP (pgRw 134) := show okP (yX11_without, cX11_without, 1, ((Option.some Jvm.ClassFile.FieldType.int)), 0, false, 11, 1278, 127, 1276, 1277) from okP_i (tb_5 _ (List.mem_of_getElem? (i := 192) rfl)) (tb_1 _ (List.mem_of_getElem? (i := 1) rfl)) (tb_5 _ (List.mem_of_getElem? (i := 190) rfl)) (tb_5 _ (List.mem_of_getElem? (i := 191) rfl)) ok_c11 ok_d7 rfl (by decide)
theorem okP_135 : okP (pgRw 135) := show okP (yX11_gain, cX11_gain, 8, ((Option.some Jvm.ClassFile.FieldType.int)), 5, false, 11, 1282, 127, 1280, 1281) from okP_i (tb_5 _ (List.mem_of_getElem? (i := 196) rfl)) (tb_1 _ (List.mem_of_getElem? (i := 1) rfl)) (tb_5 _ (List.mem_of_getElem? (i := 194) rfl)) (tb_5 _ (List.mem_of_getElem? (i := 195) rfl)) ok_c11 ok_d12 rfl (by decide)
theorem okP_136 : okP (pgRw 136) := show okP (yX11_audit, cX11_audit, 4, ((Option.some Jvm.ClassFile.FieldType.int)), 2, false, 11, 1290, 127, 1288, 1289) from okP_i (tb_5 _ (List.mem_of_getElem? (i := 204) rfl)) (tb_1 _ (List.mem_of_getElem? (i := 1) rfl)) (tb_5 _ (List.mem_of_getElem? (i := 202) rfl)) (tb_5 _ (List.mem_of_getElem? (i := 203) rfl)) ok_c11 ok_d17 rfl (by decide)
theorem okP_137 : okP (pgRw 137) := show okP (yX11_lots, cX11_lots, 2, ((Option.some Jvm.ClassFile.FieldType.int)), 1, false, 11, 1298, 127, 1296, 1297) from okP_i (tb_5 _ (List.mem_of_getElem? (i := 212) rfl)) (tb_1 _ (List.mem_of_getElem? (i := 1) rfl)) (tb_5 _ (List.mem_of_getElem? (i := 210) rfl)) (tb_5 _ (List.mem_of_getElem? (i := 211) rfl)) ok_c11 ok_d4 rfl (by decide)
theorem okP_138 : okP (pgRw 138) := show okP (yX11_draw, cX11_draw, 2, ((Option.some Jvm.ClassFile.FieldType.int)), 1, false, 11, 1302, 127, 1300, 1301) from okP_i (tb_5 _ (List.mem_of_getElem? (i := 216) rfl)) (tb_1 _ (List.mem_of_getElem? (i := 1) rfl)) (tb_5 _ (List.mem_of_getElem? (i := 214) rfl)) (tb_5 _ (List.mem_of_getElem? (i := 215) rfl)) ok_c11 ok_d4 rfl (by decide)
theorem okP_139 : okP (pgRw 139) := show okP (yX11_bound, cX11_bound, 2, ((Option.some Jvm.ClassFile.FieldType.int)), 1, false, 11, 1315, 127, 1313, 1314) from okP_i (tb_5 _ (List.mem_of_getElem? (i := 229) rfl)) (tb_1 _ (List.mem_of_getElem? (i := 1) rfl)) (tb_5 _ (List.mem_of_getElem? (i := 227) rfl)) (tb_5 _ (List.mem_of_getElem? (i := 228) rfl)) ok_c11 ok_d4 rfl (by decide)
theorem okP_140 : okP (pgRw 140) := show okP (yX11_tryText, cX11_tryText, 5, ((Option.some Jvm.ClassFile.FieldType.int)), 1, false, 11, 1332, 127, 1330, 1331) from okP_i (tb_6 _ (List.mem_of_getElem? (i := 6) rfl)) (tb_1 _ (List.mem_of_getElem? (i := 1) rfl)) (tb_6 _ (List.mem_of_getElem? (i := 4) rfl)) (tb_6 _ (List.mem_of_getElem? (i := 5) rfl)) ok_c11 ok_d4 rfl (by decide)
theorem okP_141 : okP (pgRw 141) := show okP (yX11_twice, cX11_twice, 2, ((Option.some Jvm.ClassFile.FieldType.int)), 1, false, 11, 1339, 127, 1337, 1338) from okP_i (tb_6 _ (List.mem_of_getElem? (i := 13) rfl)) (tb_1 _ (List.mem_of_getElem? (i := 1) rfl)) (tb_6 _ (List.mem_of_getElem? (i := 11) rfl)) (tb_6 _ (List.mem_of_getElem? (i := 12) rfl)) ok_c11 ok_d4 rfl (by decide)
theorem okP_142 : okP (pgRw 142) := show okP (yX11_act, cX11_act, 5, ((Option.some Jvm.ClassFile.FieldType.int)), 3, false, 11, 1347, 127, 1345, 1346) from okP_i (tb_6 _ (List.mem_of_getElem? (i := 21) rfl)) (tb_1 _ (List.mem_of_getElem? (i := 1) rfl)) (tb_6 _ (List.mem_of_getElem? (i := 19) rfl)) (tb_6 _ (List.mem_of_getElem? (i := 20) rfl)) ok_c11 ok_d3 rfl (by decide)
theorem okP_143 : okP (pgRw 143) := show okP (yX11_trace, cX11_trace, 2, ((Option.some Jvm.ClassFile.FieldType.int)), 1, false, 11, 1364, 127, 1362, 1363) from okP_i (tb_6 _ (List.mem_of_getElem? (i := 38) rfl)) (tb_1 _ (List.mem_of_getElem? (i := 1) rfl)) (tb_6 _ (List.mem_of_getElem? (i := 36) rfl)) (tb_6 _ (List.mem_of_getElem? (i := 37) rfl)) ok_c11 ok_d4 rfl (by decide)
theorem okP_144 : okP (pgRw 144) := show okP (yX11_taken, cX11_taken, 4, ((Option.some Jvm.ClassFile.FieldType.int)), 2, false, 11, 1368, 127, 1366, 1367) from okP_i (tb_6 _ (List.mem_of_getElem? (i := 42) rfl)) (tb_1 _ (List.mem_of_getElem? (i := 1) rfl)) (tb_6 _ (List.mem_of_getElem? (i := 40) rfl)) (tb_6 _ (List.mem_of_getElem? (i := 41) rfl)) ok_c11 ok_d17 rfl (by decide)
theorem okP_145 : okP (pgRw 145) := show okP (yX11_count, cX11_count, 2, ((Option.some Jvm.ClassFile.FieldType.int)), 1, false, 11, 1372, 127, 1370, 1371) from okP_i (tb_6 _ (List.mem_of_getElem? (i := 46) rfl)) (tb_1 _ (List.mem_of_getElem? (i := 1) rfl)) (tb_6 _ (List.mem_of_getElem? (i := 44) rfl)) (tb_6 _ (List.mem_of_getElem? (i := 45) rfl)) ok_c11 ok_d4 rfl (by decide)
theorem okP_146 : okP (pgRw 146) := show okP (yX11_within, cX11_within, 3, ((Option.some Jvm.ClassFile.FieldType.boolean)), 3, true, 11, 607, 127, 606, 0) from okP_s (tb_3 _ (List.mem_of_getElem? (i := 1) rfl)) (tb_1 _ (List.mem_of_getElem? (i := 1) rfl)) (tb_3 _ (List.mem_of_getElem? (i := 0) rfl)) ok_c11 ok_d23 rfl (by decide)
theorem okP_147 : okP (pgRw 147) := show okP (yX11_isLand, cX11_isLand, 1, ((Option.some Jvm.ClassFile.FieldType.boolean)), 1, true, 11, 614, 127, 613, 0) from okP_s (tb_3 _ (List.mem_of_getElem? (i := 8) rfl)) (tb_1 _ (List.mem_of_getElem? (i := 1) rfl)) (tb_3 _ (List.mem_of_getElem? (i := 7) rfl)) ok_c11 ok_d1 rfl (by decide)
theorem okP_148 : okP (pgRw 148) := show okP (yX11_isDay, cX11_isDay, 1, ((Option.some Jvm.ClassFile.FieldType.boolean)), 1, true, 11, 617, 127, 616, 0) from okP_s (tb_3 _ (List.mem_of_getElem? (i := 11) rfl)) (tb_1 _ (List.mem_of_getElem? (i := 1) rfl)) (tb_3 _ (List.mem_of_getElem? (i := 10) rfl)) ok_c11 ok_d1 rfl (by decide)
theorem okP_149 : okP (pgRw 149) := show okP (yX11_isAct, cX11_isAct, 1, ((Option.some Jvm.ClassFile.FieldType.boolean)), 1, true, 11, 1001, 127, 1000, 0) from okP_s (tb_4 _ (List.mem_of_getElem? (i := 155) rfl)) (tb_1 _ (List.mem_of_getElem? (i := 1) rfl)) (tb_4 _ (List.mem_of_getElem? (i := 154) rfl)) ok_c11 ok_d1 rfl (by decide)
theorem okP_150 : okP (pgRw 150) := show okP (yX11_isDraftSound, cX11_isDraftSound, 4, ((Option.some Jvm.ClassFile.FieldType.boolean)), 1, false, 11, 747, 127, 746, 16) from okP_i (tb_3 _ (List.mem_of_getElem? (i := 141) rfl)) (tb_1 _ (List.mem_of_getElem? (i := 1) rfl)) (tb_3 _ (List.mem_of_getElem? (i := 140) rfl)) (pb_2 _ (List.mem_of_getElem? (i := 0) rfl)) ok_c11 ok_d1 rfl (by decide)
theorem okP_151 : okP (pgRw 151) := show okP (yX12_init, cX12_init, 2, (Option.none), 0, false, 12, 1385, 139, 1384, 0) from okP_c (tb_6 _ (List.mem_of_getElem? (i := 59) rfl)) (tb_1 _ (List.mem_of_getElem? (i := 13) rfl)) (tb_6 _ (List.mem_of_getElem? (i := 58) rfl)) rfl ok_c12 ok_d0 rfl (by decide)
theorem okP_152 : okP (pgRw 152) := show okP (yX12_within, cX12_within, 3, ((Option.some Jvm.ClassFile.FieldType.boolean)), 3, true, 12, 1656, 139, 1655, 0) from okP_s (tb_7 _ (List.mem_of_getElem? (i := 90) rfl)) (tb_1 _ (List.mem_of_getElem? (i := 13) rfl)) (tb_7 _ (List.mem_of_getElem? (i := 89) rfl)) ok_c12 ok_d23 rfl (by decide)
theorem okP_153 : okP (pgRw 153) := show okP (yX12_isDay, cX12_isDay, 1, ((Option.some Jvm.ClassFile.FieldType.boolean)), 1, true, 12, 1666, 139, 1665, 0) from okP_s (tb_7 _ (List.mem_of_getElem? (i := 100) rfl)) (tb_1 _ (List.mem_of_getElem? (i := 13) rfl)) (tb_7 _ (List.mem_of_getElem? (i := 99) rfl)) ok_c12 ok_d1 rfl (by decide)
theorem okP_154 : okP (pgRw 154) := show okP (yX12_isLand, cX12_isLand, 1, ((Option.some Jvm.ClassFile.FieldType.boolean)), 1, true, 12, 1663, 139, 1662, 0) from okP_s (tb_7 _ (List.mem_of_getElem? (i := 97) rfl)) (tb_1 _ (List.mem_of_getElem? (i := 13) rfl)) (tb_7 _ (List.mem_of_getElem? (i := 96) rfl)) ok_c12 ok_d1 rfl (by decide)
theorem okP_155 : okP (pgRw 155) := show okP (yX12_isYear, cX12_isYear, 1, ((Option.some Jvm.ClassFile.FieldType.boolean)), 1, true, 12, 1922, 139, 1921, 0) from okP_s (tb_8 _ (List.mem_of_getElem? (i := 116) rfl)) (tb_1 _ (List.mem_of_getElem? (i := 13) rfl)) (tb_8 _ (List.mem_of_getElem? (i := 115) rfl)) ok_c12 ok_d1 rfl (by decide)
theorem okP_156 : okP (pgRw 156) := show okP (yX12_isHouse, cX12_isHouse, 2, ((Option.some Jvm.ClassFile.FieldType.boolean)), 1, false, 12, 1687, 139, 1686, 78) from okP_i (tb_7 _ (List.mem_of_getElem? (i := 121) rfl)) (tb_1 _ (List.mem_of_getElem? (i := 13) rfl)) (tb_7 _ (List.mem_of_getElem? (i := 120) rfl)) (pb_5 _ (List.mem_of_getElem? (i := 14) rfl)) ok_c12 ok_d1 rfl (by decide)
theorem okP_157 : okP (pgRw 157) := show okP (yX12_isFilm, cX12_isFilm, 2, ((Option.some Jvm.ClassFile.FieldType.boolean)), 1, false, 12, 1699, 139, 1698, 79) from okP_i (tb_7 _ (List.mem_of_getElem? (i := 133) rfl)) (tb_1 _ (List.mem_of_getElem? (i := 13) rfl)) (tb_7 _ (List.mem_of_getElem? (i := 132) rfl)) (pb_5 _ (List.mem_of_getElem? (i := 15) rfl)) ok_c12 ok_d1 rfl (by decide)
theorem okP_158 : okP (pgRw 158) := show okP (yX12_isPerson, cX12_isPerson, 2, ((Option.some Jvm.ClassFile.FieldType.boolean)), 1, false, 12, 1711, 139, 1710, 80) from okP_i (tb_7 _ (List.mem_of_getElem? (i := 145) rfl)) (tb_1 _ (List.mem_of_getElem? (i := 13) rfl)) (tb_7 _ (List.mem_of_getElem? (i := 144) rfl)) (pb_6 _ (List.mem_of_getElem? (i := 0) rfl)) ok_c12 ok_d1 rfl (by decide)
theorem okP_159 : okP (pgRw 159) := show okP (yX12_isCost, cX12_isCost, 2, ((Option.some Jvm.ClassFile.FieldType.boolean)), 1, false, 12, 1754, 139, 1753, 83) from okP_i (tb_7 _ (List.mem_of_getElem? (i := 188) rfl)) (tb_1 _ (List.mem_of_getElem? (i := 13) rfl)) (tb_7 _ (List.mem_of_getElem? (i := 187) rfl)) (pb_6 _ (List.mem_of_getElem? (i := 3) rfl)) ok_c12 ok_d1 rfl (by decide)
theorem okP_160 : okP (pgRw 160) := show okP (yX12_days, cX12_days, 2, ((Option.some Jvm.ClassFile.FieldType.int)), 1, false, 12, 1653, 139, 1651, 1652) from okP_i (tb_7 _ (List.mem_of_getElem? (i := 87) rfl)) (tb_1 _ (List.mem_of_getElem? (i := 13) rfl)) (tb_7 _ (List.mem_of_getElem? (i := 85) rfl)) (tb_7 _ (List.mem_of_getElem? (i := 86) rfl)) ok_c12 ok_d4 rfl (by decide)
theorem okP_161 : okP (pgRw 161) := show okP (yX12_coin, cX12_coin, 4, ((Option.some Jvm.ClassFile.FieldType.int)), 3, false, 12, 1660, 139, 1658, 1659) from okP_i (tb_7 _ (List.mem_of_getElem? (i := 94) rfl)) (tb_1 _ (List.mem_of_getElem? (i := 13) rfl)) (tb_7 _ (List.mem_of_getElem? (i := 92) rfl)) (tb_7 _ (List.mem_of_getElem? (i := 93) rfl)) ok_c12 ok_d3 rfl (by decide)
theorem okP_162 : okP (pgRw 162) := show okP (yX12_coinAt, cX12_coinAt, 5, ((Option.some Jvm.ClassFile.FieldType.int)), 2, false, 12, 1675, 139, 1674, 77) from okP_i (tb_7 _ (List.mem_of_getElem? (i := 109) rfl)) (tb_1 _ (List.mem_of_getElem? (i := 13) rfl)) (tb_7 _ (List.mem_of_getElem? (i := 108) rfl)) (pb_5 _ (List.mem_of_getElem? (i := 13) rfl)) ok_c12 ok_d17 rfl (by decide)
theorem okP_163 : okP (pgRw 163) := show okP (yX12_coinOn, cX12_coinOn, 3, ((Option.some Jvm.ClassFile.FieldType.int)), 2, false, 12, 1671, 139, 1669, 1670) from okP_i (tb_7 _ (List.mem_of_getElem? (i := 105) rfl)) (tb_1 _ (List.mem_of_getElem? (i := 13) rfl)) (tb_7 _ (List.mem_of_getElem? (i := 103) rfl)) (tb_7 _ (List.mem_of_getElem? (i := 104) rfl)) ok_c12 ok_d17 rfl (by decide)
theorem okP_164 : okP (pgRw 164) := show okP (yX12_house, cX12_house, 2, ((Option.some Jvm.ClassFile.FieldType.int)), 1, false, 12, 1679, 139, 1677, 1678) from okP_i (tb_7 _ (List.mem_of_getElem? (i := 113) rfl)) (tb_1 _ (List.mem_of_getElem? (i := 13) rfl)) (tb_7 _ (List.mem_of_getElem? (i := 111) rfl)) (tb_7 _ (List.mem_of_getElem? (i := 112) rfl)) ok_c12 ok_d4 rfl (by decide)
theorem okP_165 : okP (pgRw 165) := show okP (yX12_relate, cX12_relate, 3, ((Option.some Jvm.ClassFile.FieldType.int)), 2, false, 12, 1683, 139, 1681, 1682) from okP_i (tb_7 _ (List.mem_of_getElem? (i := 117) rfl)) (tb_1 _ (List.mem_of_getElem? (i := 13) rfl)) (tb_7 _ (List.mem_of_getElem? (i := 115) rfl)) (tb_7 _ (List.mem_of_getElem? (i := 116) rfl)) ok_c12 ok_d17 rfl (by decide)
theorem okP_166 : okP (pgRw 166) := show okP (yX12_areRelated, cX12_areRelated, 4, ((Option.some Jvm.ClassFile.FieldType.boolean)), 3, false, 12, 1896, 139, 1895, 109) from okP_i (tb_8 _ (List.mem_of_getElem? (i := 90) rfl)) (tb_1 _ (List.mem_of_getElem? (i := 13) rfl)) (tb_8 _ (List.mem_of_getElem? (i := 89) rfl)) (pb_7 _ (List.mem_of_getElem? (i := 13) rfl)) ok_c12 ok_d23 rfl (by decide)
theorem okP_167 : okP (pgRw 167) := show okP (yX12_film, cX12_film, 3, ((Option.some Jvm.ClassFile.FieldType.int)), 2, false, 12, 1691, 139, 1689, 1690) from okP_i (tb_7 _ (List.mem_of_getElem? (i := 125) rfl)) (tb_1 _ (List.mem_of_getElem? (i := 13) rfl)) (tb_7 _ (List.mem_of_getElem? (i := 123) rfl)) (tb_7 _ (List.mem_of_getElem? (i := 124) rfl)) ok_c12 ok_d17 rfl (by decide)
theorem okP_168 : okP (pgRw 168) := show okP (yX12_sell, cX12_sell, 4, ((Option.some Jvm.ClassFile.FieldType.int)), 2, false, 12, 1695, 139, 1693, 1694) from okP_i (tb_7 _ (List.mem_of_getElem? (i := 129) rfl)) (tb_1 _ (List.mem_of_getElem? (i := 13) rfl)) (tb_7 _ (List.mem_of_getElem? (i := 127) rfl)) (tb_7 _ (List.mem_of_getElem? (i := 128) rfl)) ok_c12 ok_d17 rfl (by decide)
theorem okP_169 : okP (pgRw 169) := show okP (yX12_person, cX12_person, 2, ((Option.some Jvm.ClassFile.FieldType.int)), 1, false, 12, 1703, 139, 1701, 1702) from okP_i (tb_7 _ (List.mem_of_getElem? (i := 137) rfl)) (tb_1 _ (List.mem_of_getElem? (i := 13) rfl)) (tb_7 _ (List.mem_of_getElem? (i := 135) rfl)) (tb_7 _ (List.mem_of_getElem? (i := 136) rfl)) ok_c12 ok_d4 rfl (by decide)
theorem okP_170 : okP (pgRw 170) := show okP (yX12_stay, cX12_stay, 5, ((Option.some Jvm.ClassFile.FieldType.int)), 4, false, 12, 1707, 139, 1705, 1706) from okP_i (tb_7 _ (List.mem_of_getElem? (i := 141) rfl)) (tb_1 _ (List.mem_of_getElem? (i := 13) rfl)) (tb_7 _ (List.mem_of_getElem? (i := 139) rfl)) (tb_7 _ (List.mem_of_getElem? (i := 140) rfl)) ok_c12 ok_d25 rfl (by decide)
theorem okP_171 : okP (pgRw 171) := show okP (yX12_livesIn, cX12_livesIn, 10, ((Option.some Jvm.ClassFile.FieldType.boolean)), 4, false, 12, 1719, 139, 1718, 81) from okP_i (tb_7 _ (List.mem_of_getElem? (i := 153) rfl)) (tb_1 _ (List.mem_of_getElem? (i := 13) rfl)) (tb_7 _ (List.mem_of_getElem? (i := 152) rfl)) (pb_6 _ (List.mem_of_getElem? (i := 1) rfl)) ok_c12 ok_d20 rfl (by decide)
theorem okP_172 : okP (pgRw 172) := show okP (yX12_lives, cX12_lives, 5, ((Option.some Jvm.ClassFile.FieldType.int)), 4, false, 12, 1715, 139, 1713, 1714) from okP_i (tb_7 _ (List.mem_of_getElem? (i := 149) rfl)) (tb_1 _ (List.mem_of_getElem? (i := 13) rfl)) (tb_7 _ (List.mem_of_getElem? (i := 147) rfl)) (tb_7 _ (List.mem_of_getElem? (i := 148) rfl)) ok_c12 ok_d25 rfl (by decide)
theorem okP_173 : okP (pgRw 173) := show okP (yX12_point, cX12_point, 4, ((Option.some Jvm.ClassFile.FieldType.int)), 3, false, 12, 1723, 139, 1721, 1722) from okP_i (tb_7 _ (List.mem_of_getElem? (i := 157) rfl)) (tb_1 _ (List.mem_of_getElem? (i := 13) rfl)) (tb_7 _ (List.mem_of_getElem? (i := 155) rfl)) (tb_7 _ (List.mem_of_getElem? (i := 156) rfl)) ok_c12 ok_d3 rfl (by decide)
theorem okP_174 : okP (pgRw 174) := show okP (yX12_prove, cX12_prove, 2, ((Option.some Jvm.ClassFile.FieldType.int)), 1, false, 12, 1727, 139, 1725, 1726) from okP_i (tb_7 _ (List.mem_of_getElem? (i := 161) rfl)) (tb_1 _ (List.mem_of_getElem? (i := 13) rfl)) (tb_7 _ (List.mem_of_getElem? (i := 159) rfl)) (tb_7 _ (List.mem_of_getElem? (i := 160) rfl)) ok_c12 ok_d4 rfl (by decide)
theorem okP_175 : okP (pgRw 175) := show okP (yX12_pointsOf, cX12_pointsOf, 6, ((Option.some Jvm.ClassFile.FieldType.int)), 3, false, 12, 1735, 139, 1734, 82) from okP_i (tb_7 _ (List.mem_of_getElem? (i := 169) rfl)) (tb_1 _ (List.mem_of_getElem? (i := 13) rfl)) (tb_7 _ (List.mem_of_getElem? (i := 168) rfl)) (pb_6 _ (List.mem_of_getElem? (i := 2) rfl)) ok_c12 ok_d3 rfl (by decide)
theorem okP_176 : okP (pgRw 176) := show okP (yX12_points, cX12_points, 4, ((Option.some Jvm.ClassFile.FieldType.int)), 3, false, 12, 1731, 139, 1729, 1730) from okP_i (tb_7 _ (List.mem_of_getElem? (i := 165) rfl)) (tb_1 _ (List.mem_of_getElem? (i := 13) rfl)) (tb_7 _ (List.mem_of_getElem? (i := 163) rfl)) (tb_7 _ (List.mem_of_getElem? (i := 164) rfl)) ok_c12 ok_d3 rfl (by decide)
theorem okP_177 : okP (pgRw 177) := show okP (yX12_set, cX12_set, 4, ((Option.some Jvm.ClassFile.FieldType.int)), 2, false, 12, 1739, 139, 1737, 1738) from okP_i (tb_7 _ (List.mem_of_getElem? (i := 173) rfl)) (tb_1 _ (List.mem_of_getElem? (i := 13) rfl)) (tb_7 _ (List.mem_of_getElem? (i := 171) rfl)) (tb_7 _ (List.mem_of_getElem? (i := 172) rfl)) ok_c12 ok_d17 rfl (by decide)
theorem okP_178 : okP (pgRw 178) := show okP (yX12_toHouse, cX12_toHouse, 1, ((Option.some Jvm.ClassFile.FieldType.boolean)), 1, true, 12, 1746, 139, 1745, 0) from okP_s (tb_7 _ (List.mem_of_getElem? (i := 180) rfl)) (tb_1 _ (List.mem_of_getElem? (i := 13) rfl)) (tb_7 _ (List.mem_of_getElem? (i := 179) rfl)) ok_c12 ok_d1 rfl (by decide)
theorem okP_179 : okP (pgRw 179) := show okP (yX12_cost, cX12_cost, 5, ((Option.some Jvm.ClassFile.FieldType.int)), 2, false, 12, 1743, 139, 1741, 1742) from okP_i (tb_7 _ (List.mem_of_getElem? (i := 177) rfl)) (tb_1 _ (List.mem_of_getElem? (i := 13) rfl)) (tb_7 _ (List.mem_of_getElem? (i := 175) rfl)) (tb_7 _ (List.mem_of_getElem? (i := 176) rfl)) ok_c12 ok_d17 rfl (by decide)
theorem okP_180 : okP (pgRw 180) := show okP (yX12_coinsOf, cX12_coinsOf, 3, ((Option.some Jvm.ClassFile.FieldType.int)), 2, false, 12, 1763, 139, 1762, 85) from okP_i (tb_7 _ (List.mem_of_getElem? (i := 197) rfl)) (tb_1 _ (List.mem_of_getElem? (i := 13) rfl)) (tb_7 _ (List.mem_of_getElem? (i := 196) rfl)) (pb_6 _ (List.mem_of_getElem? (i := 5) rfl)) ok_c12 ok_d17 rfl (by decide)
theorem okP_181 : okP (pgRw 181) := show okP (yX12_ofCost, cX12_ofCost, 3, ((Option.some Jvm.ClassFile.FieldType.int)), 2, false, 12, 1759, 139, 1758, 84) from okP_i (tb_7 _ (List.mem_of_getElem? (i := 193) rfl)) (tb_1 _ (List.mem_of_getElem? (i := 13) rfl)) (tb_7 _ (List.mem_of_getElem? (i := 192) rfl)) (pb_6 _ (List.mem_of_getElem? (i := 4) rfl)) ok_c12 ok_d17 rfl (by decide)
theorem okP_182 : okP (pgRw 182) := show okP (yX12_of, cX12_of, 3, ((Option.some Jvm.ClassFile.FieldType.int)), 2, false, 12, 1750, 139, 1748, 1749) from okP_i (tb_7 _ (List.mem_of_getElem? (i := 184) rfl)) (tb_1 _ (List.mem_of_getElem? (i := 13) rfl)) (tb_7 _ (List.mem_of_getElem? (i := 182) rfl)) (tb_7 _ (List.mem_of_getElem? (i := 183) rfl)) ok_c12 ok_d17 rfl (by decide)
theorem okP_183 : okP (pgRw 183) := show okP (yX12_like, cX12_like, 5, ((Option.some Jvm.ClassFile.FieldType.int)), 4, false, 12, 1767, 139, 1765, 1766) from okP_i (tb_7 _ (List.mem_of_getElem? (i := 201) rfl)) (tb_1 _ (List.mem_of_getElem? (i := 13) rfl)) (tb_7 _ (List.mem_of_getElem? (i := 199) rfl)) (tb_7 _ (List.mem_of_getElem? (i := 200) rfl)) ok_c12 ok_d25 rfl (by decide)
theorem okP_184 : okP (pgRw 184) := show okP (yX12_findLikes, cX12_findLikes, 7, ((Option.some Jvm.ClassFile.FieldType.int)), 2, false, 12, 1775, 139, 1774, 86) from okP_i (tb_7 _ (List.mem_of_getElem? (i := 209) rfl)) (tb_1 _ (List.mem_of_getElem? (i := 13) rfl)) (tb_7 _ (List.mem_of_getElem? (i := 208) rfl)) (pb_6 _ (List.mem_of_getElem? (i := 6) rfl)) ok_c12 ok_d17 rfl (by decide)
theorem okP_185 : okP (pgRw 185) := show okP (yX12_span, cX12_span, 5, ((Option.some Jvm.ClassFile.FieldType.int)), 3, false, 12, 1771, 139, 1769, 1770) from okP_i (tb_7 _ (List.mem_of_getElem? (i := 205) rfl)) (tb_1 _ (List.mem_of_getElem? (i := 13) rfl)) (tb_7 _ (List.mem_of_getElem? (i := 203) rfl)) (tb_7 _ (List.mem_of_getElem? (i := 204) rfl)) ok_c12 ok_d3 rfl (by decide)
theorem okP_186 : okP (pgRw 186) := show okP (yX12_isRelated, cX12_isRelated, 3, ((Option.some Jvm.ClassFile.FieldType.boolean)), 2, false, 12, 1892, 139, 1891, 108) from okP_i (tb_8 _ (List.mem_of_getElem? (i := 86) rfl)) (tb_1 _ (List.mem_of_getElem? (i := 13) rfl)) (tb_8 _ (List.mem_of_getElem? (i := 85) rfl)) (pb_7 _ (List.mem_of_getElem? (i := 12) rfl)) ok_c12 ok_d15 rfl (by decide)
theorem okP_187 : okP (pgRw 187) := show okP (yX12_fairOf, cX12_fairOf, 6, ((Option.some Jvm.ClassFile.FieldType.int)), 2, false, 12, 1900, 139, 1899, 110) from okP_i (tb_8 _ (List.mem_of_getElem? (i := 94) rfl)) (tb_1 _ (List.mem_of_getElem? (i := 13) rfl)) (tb_8 _ (List.mem_of_getElem? (i := 93) rfl)) (pb_7 _ (List.mem_of_getElem? (i := 14) rfl)) ok_c12 ok_d17 rfl (by decide)
theorem okP_188 : okP (pgRw 188) := show okP (yX12_areDouble, cX12_areDouble, 4, ((Option.some Jvm.ClassFile.FieldType.boolean)), 2, false, 12, 1884, 139, 1883, 106) from okP_i (tb_8 _ (List.mem_of_getElem? (i := 78) rfl)) (tb_1 _ (List.mem_of_getElem? (i := 13) rfl)) (tb_8 _ (List.mem_of_getElem? (i := 77) rfl)) (pb_7 _ (List.mem_of_getElem? (i := 10) rfl)) ok_c12 ok_d15 rfl (by decide)
theorem okP_189 : okP (pgRw 189) := show okP (yX12_isLater, cX12_isLater, 4, ((Option.some Jvm.ClassFile.FieldType.boolean)), 1, false, 12, 1880, 139, 1879, 105) from okP_i (tb_8 _ (List.mem_of_getElem? (i := 74) rfl)) (tb_1 _ (List.mem_of_getElem? (i := 13) rfl)) (tb_8 _ (List.mem_of_getElem? (i := 73) rfl)) (pb_7 _ (List.mem_of_getElem? (i := 9) rfl)) ok_c12 ok_d1 rfl (by decide)
theorem okP_190 : okP (pgRw 190) := show okP (yX12_feed, cX12_feed, 4, ((Option.some Jvm.ClassFile.FieldType.int)), 2, false, 12, 1779, 139, 1777, 1778) from okP_i (tb_7 _ (List.mem_of_getElem? (i := 213) rfl)) (tb_1 _ (List.mem_of_getElem? (i := 13) rfl)) (tb_7 _ (List.mem_of_getElem? (i := 211) rfl)) (tb_7 _ (List.mem_of_getElem? (i := 212) rfl)) ok_c12 ok_d17 rfl (by decide)
theorem okP_191 : okP (pgRw 191) := show okP (yX12_byteAt, cX12_byteAt, 1, ((Option.some Jvm.ClassFile.FieldType.int)), 0, false, 12, 1818, 139, 1817, 94) from okP_i (tb_8 _ (List.mem_of_getElem? (i := 12) rfl)) (tb_1 _ (List.mem_of_getElem? (i := 13) rfl)) (tb_8 _ (List.mem_of_getElem? (i := 11) rfl)) (pb_6 _ (List.mem_of_getElem? (i := 14) rfl)) ok_c12 ok_d7 rfl (by decide)
theorem okP_192 : okP (pgRw 192) := show okP (yX12_wrong, cX12_wrong, 1, ((Option.some Jvm.ClassFile.FieldType.int)), 0, false, 12, 1822, 139, 1821, 95) from okP_i (tb_8 _ (List.mem_of_getElem? (i := 16) rfl)) (tb_1 _ (List.mem_of_getElem? (i := 13) rfl)) (tb_8 _ (List.mem_of_getElem? (i := 15) rfl)) (pb_6 _ (List.mem_of_getElem? (i := 15) rfl)) ok_c12 ok_d7 rfl (by decide)
theorem okP_193 : okP (pgRw 193) := show okP (yX12_takes, cX12_takes, 2, ((Option.some Jvm.ClassFile.FieldType.boolean)), 1, false, 12, 1826, 139, 1825, 96) from okP_i (tb_8 _ (List.mem_of_getElem? (i := 20) rfl)) (tb_1 _ (List.mem_of_getElem? (i := 13) rfl)) (tb_8 _ (List.mem_of_getElem? (i := 19) rfl)) (pb_7 _ (List.mem_of_getElem? (i := 0) rfl)) ok_c12 ok_d1 rfl (by decide)
theorem okP_194 : okP (pgRw 194) := show okP (yX12_either, cX12_either, 3, ((Option.some Jvm.ClassFile.FieldType.int)), 0, false, 12, 1794, 139, 1793, 88) from okP_i (tb_7 _ (List.mem_of_getElem? (i := 228) rfl)) (tb_1 _ (List.mem_of_getElem? (i := 13) rfl)) (tb_7 _ (List.mem_of_getElem? (i := 227) rfl)) (pb_6 _ (List.mem_of_getElem? (i := 8) rfl)) ok_c12 ok_d7 rfl (by decide)
theorem okP_195 : okP (pgRw 195) := show okP (yX12_both, cX12_both, 3, ((Option.some Jvm.ClassFile.FieldType.int)), 0, false, 12, 1798, 139, 1797, 89) from okP_i (tb_7 _ (List.mem_of_getElem? (i := 232) rfl)) (tb_1 _ (List.mem_of_getElem? (i := 13) rfl)) (tb_7 _ (List.mem_of_getElem? (i := 231) rfl)) (pb_6 _ (List.mem_of_getElem? (i := 9) rfl)) ok_c12 ok_d7 rfl (by decide)
theorem okP_196 : okP (pgRw 196) := show okP (yX12_compared, cX12_compared, 4, ((Option.some Jvm.ClassFile.FieldType.int)), 0, false, 12, 1802, 139, 1801, 90) from okP_i (tb_7 _ (List.mem_of_getElem? (i := 236) rfl)) (tb_1 _ (List.mem_of_getElem? (i := 13) rfl)) (tb_7 _ (List.mem_of_getElem? (i := 235) rfl)) (pb_6 _ (List.mem_of_getElem? (i := 10) rfl)) ok_c12 ok_d7 rfl (by decide)
theorem okP_197 : okP (pgRw 197) := show okP (yX12_sums, cX12_sums, 4, ((Option.some Jvm.ClassFile.FieldType.int)), 0, false, 12, 1806, 139, 1805, 91) from okP_i (tb_8 _ (List.mem_of_getElem? (i := 0) rfl)) (tb_1 _ (List.mem_of_getElem? (i := 13) rfl)) (tb_7 _ (List.mem_of_getElem? (i := 239) rfl)) (pb_6 _ (List.mem_of_getElem? (i := 11) rfl)) ok_c12 ok_d7 rfl (by decide)
theorem okP_198 : okP (pgRw 198) := show okP (yX12_product, cX12_product, 4, ((Option.some Jvm.ClassFile.FieldType.int)), 0, false, 12, 1810, 139, 1809, 92) from okP_i (tb_8 _ (List.mem_of_getElem? (i := 4) rfl)) (tb_1 _ (List.mem_of_getElem? (i := 13) rfl)) (tb_8 _ (List.mem_of_getElem? (i := 3) rfl)) (pb_6 _ (List.mem_of_getElem? (i := 12) rfl)) ok_c12 ok_d7 rfl (by decide)
theorem okP_199 : okP (pgRw 199) := show okP (yX12_nameOf, cX12_nameOf, 1, ((Option.some Jvm.ClassFile.FieldType.int)), 1, true, 12, 1829, 139, 1828, 0) from okP_s (tb_8 _ (List.mem_of_getElem? (i := 23) rfl)) (tb_1 _ (List.mem_of_getElem? (i := 13) rfl)) (tb_8 _ (List.mem_of_getElem? (i := 22) rfl)) ok_c12 ok_d4 rfl (by decide)
theorem okP_200 : okP (pgRw 200) := show okP (yX12_named, cX12_named, 2, ((Option.some Jvm.ClassFile.FieldType.int)), 1, false, 12, 1833, 139, 1832, 97) from okP_i (tb_8 _ (List.mem_of_getElem? (i := 27) rfl)) (tb_1 _ (List.mem_of_getElem? (i := 13) rfl)) (tb_8 _ (List.mem_of_getElem? (i := 26) rfl)) (pb_7 _ (List.mem_of_getElem? (i := 1) rfl)) ok_c12 ok_d4 rfl (by decide)
theorem okP_201 : okP (pgRw 201) := show okP (yX12_one, cX12_one, 5, ((Option.some Jvm.ClassFile.FieldType.int)), 0, false, 12, 1814, 139, 1813, 93) from okP_i (tb_8 _ (List.mem_of_getElem? (i := 8) rfl)) (tb_1 _ (List.mem_of_getElem? (i := 13) rfl)) (tb_8 _ (List.mem_of_getElem? (i := 7) rfl)) (pb_6 _ (List.mem_of_getElem? (i := 13) rfl)) ok_c12 ok_d7 rfl (by decide)
theorem okP_202 : okP (pgRw 202) := show okP (yX12_workOut, cX12_workOut, 8, ((Option.some Jvm.ClassFile.FieldType.int)), 2, false, 12, 1790, 139, 1789, 87) from okP_i (tb_7 _ (List.mem_of_getElem? (i := 224) rfl)) (tb_1 _ (List.mem_of_getElem? (i := 13) rfl)) (tb_7 _ (List.mem_of_getElem? (i := 223) rfl)) (pb_6 _ (List.mem_of_getElem? (i := 7) rfl)) ok_c12 ok_d17 rfl (by decide)
theorem okP_203 : okP (pgRw 203) := show okP (yX12_isWhat, cX12_isWhat, 1, ((Option.some Jvm.ClassFile.FieldType.boolean)), 1, true, 12, 1786, 139, 1785, 0) from okP_s (tb_7 _ (List.mem_of_getElem? (i := 220) rfl)) (tb_1 _ (List.mem_of_getElem? (i := 13) rfl)) (tb_7 _ (List.mem_of_getElem? (i := 219) rfl)) ok_c12 ok_d1 rfl (by decide)
theorem okP_204 : okP (pgRw 204) := show okP (yX12_text, cX12_text, 6, ((Option.some Jvm.ClassFile.FieldType.int)), 2, false, 12, 1783, 139, 1781, 1782) from okP_i (tb_7 _ (List.mem_of_getElem? (i := 217) rfl)) (tb_1 _ (List.mem_of_getElem? (i := 13) rfl)) (tb_7 _ (List.mem_of_getElem? (i := 215) rfl)) (tb_7 _ (List.mem_of_getElem? (i := 216) rfl)) ok_c12 ok_d17 rfl (by decide)
theorem okP_205 : okP (pgRw 205) := show okP (yX12_force, cX12_force, 6, ((Option.some Jvm.ClassFile.FieldType.int)), 3, false, 12, 1845, 139, 1844, 99) from okP_i (tb_8 _ (List.mem_of_getElem? (i := 39) rfl)) (tb_1 _ (List.mem_of_getElem? (i := 13) rfl)) (tb_8 _ (List.mem_of_getElem? (i := 38) rfl)) (pb_7 _ (List.mem_of_getElem? (i := 3) rfl)) ok_c12 ok_d3 rfl (by decide)
theorem okP_206 : okP (pgRw 206) := show okP (yX12_inForce, cX12_inForce, 5, ((Option.some Jvm.ClassFile.FieldType.int)), 3, false, 12, 1841, 139, 1839, 1840) from okP_i (tb_8 _ (List.mem_of_getElem? (i := 35) rfl)) (tb_1 _ (List.mem_of_getElem? (i := 13) rfl)) (tb_8 _ (List.mem_of_getElem? (i := 33) rfl)) (tb_8 _ (List.mem_of_getElem? (i := 34) rfl)) ok_c12 ok_d3 rfl (by decide)
theorem okP_207 : okP (pgRw 207) := show okP (yX12_landsOf, cX12_landsOf, 4, ((Option.some Jvm.ClassFile.FieldType.int)), 1, false, 12, 1861, 139, 1860, 102) from okP_i (tb_8 _ (List.mem_of_getElem? (i := 55) rfl)) (tb_1 _ (List.mem_of_getElem? (i := 13) rfl)) (tb_8 _ (List.mem_of_getElem? (i := 54) rfl)) (pb_7 _ (List.mem_of_getElem? (i := 6) rfl)) ok_c12 ok_d4 rfl (by decide)
theorem okP_208 : okP (pgRw 208) := show okP (yX12_countOf, cX12_countOf, 3, ((Option.some Jvm.ClassFile.FieldType.int)), 1, true, 12, 1864, 139, 1863, 0) from okP_s (tb_8 _ (List.mem_of_getElem? (i := 58) rfl)) (tb_1 _ (List.mem_of_getElem? (i := 13) rfl)) (tb_8 _ (List.mem_of_getElem? (i := 57) rfl)) ok_c12 ok_d4 rfl (by decide)
theorem okP_209 : okP (pgRw 209) := show okP (yX12_nameFilm, cX12_nameFilm, 6, (Option.none), 4, false, 12, 1857, 139, 1856, 101) from okP_i (tb_8 _ (List.mem_of_getElem? (i := 51) rfl)) (tb_1 _ (List.mem_of_getElem? (i := 13) rfl)) (tb_8 _ (List.mem_of_getElem? (i := 50) rfl)) (pb_7 _ (List.mem_of_getElem? (i := 5) rfl)) ok_c12 ok_d11 rfl (by decide)
theorem okP_210 : okP (pgRw 210) := show okP (yX12_gives, cX12_gives, 9, ((Option.some Jvm.ClassFile.FieldType.int)), 6, false, 12, 1868, 139, 1867, 103) from okP_i (tb_8 _ (List.mem_of_getElem? (i := 62) rfl)) (tb_1 _ (List.mem_of_getElem? (i := 13) rfl)) (tb_8 _ (List.mem_of_getElem? (i := 61) rfl)) (pb_7 _ (List.mem_of_getElem? (i := 7) rfl)) ok_c12 ok_d29 rfl (by decide)
theorem okP_211 : okP (pgRw 211) := show okP (yX12_lawOf, cX12_lawOf, 6, ((Option.some Jvm.ClassFile.FieldType.int)), 5, false, 12, 1853, 139, 1852, 100) from okP_i (tb_8 _ (List.mem_of_getElem? (i := 47) rfl)) (tb_1 _ (List.mem_of_getElem? (i := 13) rfl)) (tb_8 _ (List.mem_of_getElem? (i := 46) rfl)) (pb_7 _ (List.mem_of_getElem? (i := 4) rfl)) ok_c12 ok_d12 rfl (by decide)
theorem okP_212 : okP (pgRw 212) := show okP (yX12_law, cX12_law, 6, ((Option.some Jvm.ClassFile.FieldType.int)), 5, false, 12, 1849, 139, 1847, 1848) from okP_i (tb_8 _ (List.mem_of_getElem? (i := 43) rfl)) (tb_1 _ (List.mem_of_getElem? (i := 13) rfl)) (tb_8 _ (List.mem_of_getElem? (i := 41) rfl)) (tb_8 _ (List.mem_of_getElem? (i := 42) rfl)) ok_c12 ok_d12 rfl (by decide)
theorem okP_213 : okP (pgRw 213) := show okP (yX12_isLocal, cX12_isLocal, 4, ((Option.some Jvm.ClassFile.FieldType.boolean)), 2, false, 12, 1837, 139, 1836, 98) from okP_i (tb_8 _ (List.mem_of_getElem? (i := 31) rfl)) (tb_1 _ (List.mem_of_getElem? (i := 13) rfl)) (tb_8 _ (List.mem_of_getElem? (i := 30) rfl)) (pb_7 _ (List.mem_of_getElem? (i := 2) rfl)) ok_c12 ok_d15 rfl (by decide)
theorem okP_214 : okP (pgRw 214) := show okP (yX12_countsTwice, cX12_countsTwice, 6, ((Option.some Jvm.ClassFile.FieldType.boolean)), 2, false, 12, 1888, 139, 1887, 107) from okP_i (tb_8 _ (List.mem_of_getElem? (i := 82) rfl)) (tb_1 _ (List.mem_of_getElem? (i := 13) rfl)) (tb_8 _ (List.mem_of_getElem? (i := 81) rfl)) (pb_7 _ (List.mem_of_getElem? (i := 11) rfl)) ok_c12 ok_d15 rfl (by decide)
theorem okP_215 : okP (pgRw 215) := show okP (yX12_countedOf, cX12_countedOf, 9, ((Option.some Jvm.ClassFile.FieldType.int)), 2, false, 12, 1876, 139, 1875, 104) from okP_i (tb_8 _ (List.mem_of_getElem? (i := 70) rfl)) (tb_1 _ (List.mem_of_getElem? (i := 13) rfl)) (tb_8 _ (List.mem_of_getElem? (i := 69) rfl)) (pb_7 _ (List.mem_of_getElem? (i := 8) rfl)) ok_c12 ok_d17 rfl (by decide)
theorem okP_216 : okP (pgRw 216) := show okP (yX12_counted, cX12_counted, 5, ((Option.some Jvm.ClassFile.FieldType.int)), 3, false, 12, 1872, 139, 1870, 1871) from okP_i (tb_8 _ (List.mem_of_getElem? (i := 66) rfl)) (tb_1 _ (List.mem_of_getElem? (i := 13) rfl)) (tb_8 _ (List.mem_of_getElem? (i := 64) rfl)) (tb_8 _ (List.mem_of_getElem? (i := 65) rfl)) ok_c12 ok_d3 rfl (by decide)
theorem okP_217 : okP (pgRw 217) := show okP (yX12_baseOf, cX12_baseOf, 8, ((Option.some Jvm.ClassFile.FieldType.int)), 4, false, 12, 1911, 139, 1910, 111) from okP_i (tb_8 _ (List.mem_of_getElem? (i := 105) rfl)) (tb_1 _ (List.mem_of_getElem? (i := 13) rfl)) (tb_8 _ (List.mem_of_getElem? (i := 104) rfl)) (pb_7 _ (List.mem_of_getElem? (i := 15) rfl)) ok_c12 ok_d25 rfl (by decide)
theorem okP_218 : okP (pgRw 218) := show okP (yX12_dueOf, cX12_dueOf, 9, ((Option.some Jvm.ClassFile.FieldType.int)), 3, false, 12, 1915, 139, 1914, 112) from okP_i (tb_8 _ (List.mem_of_getElem? (i := 109) rfl)) (tb_1 _ (List.mem_of_getElem? (i := 13) rfl)) (tb_8 _ (List.mem_of_getElem? (i := 108) rfl)) (pb_8 _ (List.mem_of_getElem? (i := 0) rfl)) ok_c12 ok_d3 rfl (by decide)
theorem okP_219 : okP (pgRw 219) := show okP (yX12_base, cX12_base, 6, ((Option.some Jvm.ClassFile.FieldType.int)), 5, false, 12, 1907, 139, 1905, 1906) from okP_i (tb_8 _ (List.mem_of_getElem? (i := 101) rfl)) (tb_1 _ (List.mem_of_getElem? (i := 13) rfl)) (tb_8 _ (List.mem_of_getElem? (i := 99) rfl)) (tb_8 _ (List.mem_of_getElem? (i := 100) rfl)) ok_c12 ok_d12 rfl (by decide)
theorem okP_220 : okP (pgRw 220) := show okP (yX12_cap, cX12_cap, 5, ((Option.some Jvm.ClassFile.FieldType.int)), 3, false, 12, 1919, 139, 1917, 1918) from okP_i (tb_8 _ (List.mem_of_getElem? (i := 113) rfl)) (tb_1 _ (List.mem_of_getElem? (i := 13) rfl)) (tb_8 _ (List.mem_of_getElem? (i := 111) rfl)) (tb_8 _ (List.mem_of_getElem? (i := 112) rfl)) ok_c12 ok_d3 rfl (by decide)
theorem okP_221 : okP (pgRw 221) := show okP (yX12_ask, cX12_ask, 4, ((Option.some Jvm.ClassFile.FieldType.int)), 2, false, 12, 1926, 139, 1924, 1925) from okP_i (tb_8 _ (List.mem_of_getElem? (i := 120) rfl)) (tb_1 _ (List.mem_of_getElem? (i := 13) rfl)) (tb_8 _ (List.mem_of_getElem? (i := 118) rfl)) (tb_8 _ (List.mem_of_getElem? (i := 119) rfl)) ok_c12 ok_d17 rfl (by decide)
theorem okP_222 : okP (pgRw 222) := show okP (yX12_findDues, cX12_findDues, 3, (Option.none), 1, false, 12, 1942, 139, 1941, 115) from okP_i (tb_8 _ (List.mem_of_getElem? (i := 136) rfl)) (tb_1 _ (List.mem_of_getElem? (i := 13) rfl)) (tb_8 _ (List.mem_of_getElem? (i := 135) rfl)) (pb_8 _ (List.mem_of_getElem? (i := 3) rfl)) ok_c12 ok_d6 rfl (by decide)
theorem okP_223 : okP (pgRw 223) := show okP (yX12_goYear, cX12_goYear, 6, (Option.none), 2, false, 12, 1946, 139, 1945, 116) from okP_i (tb_8 _ (List.mem_of_getElem? (i := 140) rfl)) (tb_1 _ (List.mem_of_getElem? (i := 13) rfl)) (tb_8 _ (List.mem_of_getElem? (i := 139) rfl)) (pb_8 _ (List.mem_of_getElem? (i := 4) rfl)) ok_c12 ok_d24 rfl (by decide)
theorem okP_224 : okP (pgRw 224) := show okP (yX12_isCert, cX12_isCert, 2, ((Option.some Jvm.ClassFile.FieldType.boolean)), 1, false, 12, 1934, 139, 1933, 113) from okP_i (tb_8 _ (List.mem_of_getElem? (i := 128) rfl)) (tb_1 _ (List.mem_of_getElem? (i := 13) rfl)) (tb_8 _ (List.mem_of_getElem? (i := 127) rfl)) (pb_8 _ (List.mem_of_getElem? (i := 1) rfl)) ok_c12 ok_d1 rfl (by decide)
theorem okP_225 : okP (pgRw 225) := show okP (yX12_givenTo, cX12_givenTo, 3, ((Option.some Jvm.ClassFile.FieldType.int)), 1, false, 12, 1938, 139, 1937, 114) from okP_i (tb_8 _ (List.mem_of_getElem? (i := 132) rfl)) (tb_1 _ (List.mem_of_getElem? (i := 13) rfl)) (tb_8 _ (List.mem_of_getElem? (i := 131) rfl)) (pb_8 _ (List.mem_of_getElem? (i := 2) rfl)) ok_c12 ok_d4 rfl (by decide)
theorem okP_226 : okP (pgRw 226) := show okP (yX12_given, cX12_given, 4, ((Option.some Jvm.ClassFile.FieldType.int)), 2, false, 12, 1930, 139, 1928, 1929) from okP_i (tb_8 _ (List.mem_of_getElem? (i := 124) rfl)) (tb_1 _ (List.mem_of_getElem? (i := 13) rfl)) (tb_8 _ (List.mem_of_getElem? (i := 122) rfl)) (tb_8 _ (List.mem_of_getElem? (i := 123) rfl)) ok_c12 ok_d17 rfl (by decide)
theorem okP_227 : okP (pgRw 227) := show okP (yX12_foretold, cX12_foretold, 3, ((Option.some Jvm.ClassFile.FieldType.int)), 1, false, 12, 1950, 139, 1948, 1949) from okP_i (tb_8 _ (List.mem_of_getElem? (i := 144) rfl)) (tb_1 _ (List.mem_of_getElem? (i := 13) rfl)) (tb_8 _ (List.mem_of_getElem? (i := 142) rfl)) (tb_8 _ (List.mem_of_getElem? (i := 143) rfl)) ok_c12 ok_d4 rfl (by decide)
theorem okP_228 : okP (pgRw 228) := show okP (yX12_loan, cX12_loan, 5, ((Option.some Jvm.ClassFile.FieldType.int)), 4, false, 12, 1954, 139, 1952, 1953) from okP_i (tb_8 _ (List.mem_of_getElem? (i := 148) rfl)) (tb_1 _ (List.mem_of_getElem? (i := 13) rfl)) (tb_8 _ (List.mem_of_getElem? (i := 146) rfl)) (tb_8 _ (List.mem_of_getElem? (i := 147) rfl)) ok_c12 ok_d25 rfl (by decide)
theorem okP_229 : okP (pgRw 229) := show okP (yX12_repayRank, cX12_repayRank, 12, ((Option.some Jvm.ClassFile.FieldType.int)), 3, false, 12, 1966, 139, 1965, 118) from okP_i (tb_8 _ (List.mem_of_getElem? (i := 160) rfl)) (tb_1 _ (List.mem_of_getElem? (i := 13) rfl)) (tb_8 _ (List.mem_of_getElem? (i := 159) rfl)) (pb_8 _ (List.mem_of_getElem? (i := 6) rfl)) ok_c12 ok_d3 rfl (by decide)
theorem okP_230 : okP (pgRw 230) := show okP (yX12_pay, cX12_pay, 5, (Option.none), 2, false, 12, 1962, 139, 1961, 117) from okP_i (tb_8 _ (List.mem_of_getElem? (i := 156) rfl)) (tb_1 _ (List.mem_of_getElem? (i := 13) rfl)) (tb_8 _ (List.mem_of_getElem? (i := 155) rfl)) (pb_8 _ (List.mem_of_getElem? (i := 5) rfl)) ok_c12 ok_d24 rfl (by decide)
theorem okP_231 : okP (pgRw 231) := show okP (yX12_advance, cX12_advance, 2, ((Option.some Jvm.ClassFile.FieldType.int)), 1, false, 12, 1958, 139, 1956, 1957) from okP_i (tb_8 _ (List.mem_of_getElem? (i := 152) rfl)) (tb_1 _ (List.mem_of_getElem? (i := 13) rfl)) (tb_8 _ (List.mem_of_getElem? (i := 150) rfl)) (tb_8 _ (List.mem_of_getElem? (i := 151) rfl)) ok_c12 ok_d4 rfl (by decide)
theorem okP_232 : okP (pgRw 232) := show okP (yX12_settle, cX12_settle, 3, ((Option.some Jvm.ClassFile.FieldType.int)), 1, false, 12, 1971, 139, 1969, 1970) from okP_i (tb_8 _ (List.mem_of_getElem? (i := 165) rfl)) (tb_1 _ (List.mem_of_getElem? (i := 13) rfl)) (tb_8 _ (List.mem_of_getElem? (i := 163) rfl)) (tb_8 _ (List.mem_of_getElem? (i := 164) rfl)) ok_c12 ok_d4 rfl (by decide)
theorem okP_233 : okP (pgRw 233) := show okP (yX12_repaid, cX12_repaid, 3, ((Option.some Jvm.ClassFile.FieldType.int)), 2, false, 12, 1975, 139, 1973, 1974) from okP_i (tb_8 _ (List.mem_of_getElem? (i := 169) rfl)) (tb_1 _ (List.mem_of_getElem? (i := 13) rfl)) (tb_8 _ (List.mem_of_getElem? (i := 167) rfl)) (tb_8 _ (List.mem_of_getElem? (i := 168) rfl)) ok_c12 ok_d17 rfl (by decide)
theorem okP_234 : okP (pgRw 234) := show okP (yX12_got, cX12_got, 2, ((Option.some Jvm.ClassFile.FieldType.int)), 1, false, 12, 1979, 139, 1977, 1978) from okP_i (tb_8 _ (List.mem_of_getElem? (i := 173) rfl)) (tb_1 _ (List.mem_of_getElem? (i := 13) rfl)) (tb_8 _ (List.mem_of_getElem? (i := 171) rfl)) (tb_8 _ (List.mem_of_getElem? (i := 172) rfl)) ok_c12 ok_d4 rfl (by decide)
theorem okP_235 : okP (pgRw 235) := show okP (yX12_move, cX12_move, 3, ((Option.some Jvm.ClassFile.FieldType.int)), 2, false, 12, 1983, 139, 1981, 1982) from okP_i (tb_8 _ (List.mem_of_getElem? (i := 177) rfl)) (tb_1 _ (List.mem_of_getElem? (i := 13) rfl)) (tb_8 _ (List.mem_of_getElem? (i := 175) rfl)) (tb_8 _ (List.mem_of_getElem? (i := 176) rfl)) ok_c12 ok_d17 rfl (by decide)
theorem okP_236 : okP (pgRw 236) := show okP (yX12_tryMoves, cX12_tryMoves, 9, (Option.none), 5, false, 12, 1991, 139, 1990, 119) from okP_i (tb_8 _ (List.mem_of_getElem? (i := 185) rfl)) (tb_1 _ (List.mem_of_getElem? (i := 13) rfl)) (tb_8 _ (List.mem_of_getElem? (i := 184) rfl)) (pb_8 _ (List.mem_of_getElem? (i := 7) rfl)) ok_c12 ok_d30 rfl (by decide)
theorem okP_237 : okP (pgRw 237) := show okP (yX12_split, cX12_split, 6, ((Option.some Jvm.ClassFile.FieldType.int)), 3, false, 12, 1987, 139, 1985, 1986) from okP_i (tb_8 _ (List.mem_of_getElem? (i := 181) rfl)) (tb_1 _ (List.mem_of_getElem? (i := 13) rfl)) (tb_8 _ (List.mem_of_getElem? (i := 179) rfl)) (tb_8 _ (List.mem_of_getElem? (i := 180) rfl)) ok_c12 ok_d3 rfl (by decide)
theorem okP_238 : okP (pgRw 238) := show okP (yX12_moved, cX12_moved, 2, ((Option.some Jvm.ClassFile.FieldType.int)), 1, false, 12, 1995, 139, 1993, 1994) from okP_i (tb_8 _ (List.mem_of_getElem? (i := 189) rfl)) (tb_1 _ (List.mem_of_getElem? (i := 13) rfl)) (tb_8 _ (List.mem_of_getElem? (i := 187) rfl)) (tb_8 _ (List.mem_of_getElem? (i := 188) rfl)) ok_c12 ok_d4 rfl (by decide)
theorem okP_239 : okP (pgRw 239) := show okP (yX12_without, cX12_without, 1, ((Option.some Jvm.ClassFile.FieldType.int)), 0, false, 12, 1999, 139, 1997, 1998) from okP_i (tb_8 _ (List.mem_of_getElem? (i := 193) rfl)) (tb_1 _ (List.mem_of_getElem? (i := 13) rfl)) (tb_8 _ (List.mem_of_getElem? (i := 191) rfl)) (tb_8 _ (List.mem_of_getElem? (i := 192) rfl)) ok_c12 ok_d7 rfl (by decide)
theorem okP_240 : okP (pgRw 240) := show okP (yX12_gain, cX12_gain, 14, ((Option.some Jvm.ClassFile.FieldType.int)), 5, false, 12, 2003, 139, 2001, 2002) from okP_i (tb_8 _ (List.mem_of_getElem? (i := 197) rfl)) (tb_1 _ (List.mem_of_getElem? (i := 13) rfl)) (tb_8 _ (List.mem_of_getElem? (i := 195) rfl)) (tb_8 _ (List.mem_of_getElem? (i := 196) rfl)) ok_c12 ok_d12 rfl (by decide)
theorem okP_241 : okP (pgRw 241) := show okP (yX12_audited, cX12_audited, 4, ((Option.some Jvm.ClassFile.FieldType.int)), 1, false, 12, 2011, 139, 2010, 120) from okP_i (tb_8 _ (List.mem_of_getElem? (i := 205) rfl)) (tb_1 _ (List.mem_of_getElem? (i := 13) rfl)) (tb_8 _ (List.mem_of_getElem? (i := 204) rfl)) (pb_8 _ (List.mem_of_getElem? (i := 8) rfl)) ok_c12 ok_d4 rfl (by decide)
theorem okP_242 : okP (pgRw 242) := show okP (yX12_audit, cX12_audit, 3, ((Option.some Jvm.ClassFile.FieldType.int)), 2, false, 12, 2007, 139, 2005, 2006) from okP_i (tb_8 _ (List.mem_of_getElem? (i := 201) rfl)) (tb_1 _ (List.mem_of_getElem? (i := 13) rfl)) (tb_8 _ (List.mem_of_getElem? (i := 199) rfl)) (tb_8 _ (List.mem_of_getElem? (i := 200) rfl)) ok_c12 ok_d17 rfl (by decide)
theorem okP_243 : okP (pgRw 243) := show okP (yX12_lots, cX12_lots, 2, ((Option.some Jvm.ClassFile.FieldType.int)), 1, false, 12, 2015, 139, 2013, 2014) from okP_i (tb_8 _ (List.mem_of_getElem? (i := 209) rfl)) (tb_1 _ (List.mem_of_getElem? (i := 13) rfl)) (tb_8 _ (List.mem_of_getElem? (i := 207) rfl)) (tb_8 _ (List.mem_of_getElem? (i := 208) rfl)) ok_c12 ok_d4 rfl (by decide)
theorem okP_244 : okP (pgRw 244) := show okP (yX12_costsOf, cX12_costsOf, 4, ((Option.some Jvm.ClassFile.FieldType.int)), 1, false, 12, 2023, 139, 2022, 121) from okP_i (tb_8 _ (List.mem_of_getElem? (i := 217) rfl)) (tb_1 _ (List.mem_of_getElem? (i := 13) rfl)) (tb_8 _ (List.mem_of_getElem? (i := 216) rfl)) (pb_8 _ (List.mem_of_getElem? (i := 9) rfl)) ok_c12 ok_d4 rfl (by decide)
theorem okP_245 : okP (pgRw 245) := show okP (yX12_draw, cX12_draw, 5, ((Option.some Jvm.ClassFile.FieldType.int)), 1, false, 12, 2019, 139, 2017, 2018) from okP_i (tb_8 _ (List.mem_of_getElem? (i := 213) rfl)) (tb_1 _ (List.mem_of_getElem? (i := 13) rfl)) (tb_8 _ (List.mem_of_getElem? (i := 211) rfl)) (tb_8 _ (List.mem_of_getElem? (i := 212) rfl)) ok_c12 ok_d4 rfl (by decide)
theorem okP_246 : okP (pgRw 246) := show okP (yX12_choose, cX12_choose, 5, ((Option.some Jvm.ClassFile.FieldType.long)), 2, true, 12, 2031, 139, 2030, 0) from okP_s (tb_8 _ (List.mem_of_getElem? (i := 225) rfl)) (tb_1 _ (List.mem_of_getElem? (i := 13) rfl)) (tb_8 _ (List.mem_of_getElem? (i := 224) rfl)) ok_c12 ok_d21 rfl (by decide)
theorem okP_247 : okP (pgRw 247) := show okP (yX12_bound, cX12_bound, 10, ((Option.some Jvm.ClassFile.FieldType.int)), 1, false, 12, 2028, 139, 2026, 2027) from okP_i (tb_8 _ (List.mem_of_getElem? (i := 222) rfl)) (tb_1 _ (List.mem_of_getElem? (i := 13) rfl)) (tb_8 _ (List.mem_of_getElem? (i := 220) rfl)) (tb_8 _ (List.mem_of_getElem? (i := 221) rfl)) ok_c12 ok_d4 rfl (by decide)
theorem okP_248 : okP (pgRw 248) := show okP (yX12_tryText, cX12_tryText, 5, ((Option.some Jvm.ClassFile.FieldType.int)), 1, false, 12, 2036, 139, 2034, 2035) from okP_i (tb_8 _ (List.mem_of_getElem? (i := 230) rfl)) (tb_1 _ (List.mem_of_getElem? (i := 13) rfl)) (tb_8 _ (List.mem_of_getElem? (i := 228) rfl)) (tb_8 _ (List.mem_of_getElem? (i := 229) rfl)) ok_c12 ok_d4 rfl (by decide)
theorem okP_249 : okP (pgRw 249) := show okP (yX12_twice, cX12_twice, 7, ((Option.some Jvm.ClassFile.FieldType.int)), 1, false, 12, 2040, 139, 2038, 2039) from okP_i (tb_8 _ (List.mem_of_getElem? (i := 234) rfl)) (tb_1 _ (List.mem_of_getElem? (i := 13) rfl)) (tb_8 _ (List.mem_of_getElem? (i := 232) rfl)) (tb_8 _ (List.mem_of_getElem? (i := 233) rfl)) ok_c12 ok_d4 rfl (by decide)
theorem okP_250 : okP (pgRw 250) := show okP (yX12_above, cX12_above, 1, ((Option.some Jvm.ClassFile.FieldType.int)), 1, true, 12, 2055, 139, 2054, 0) from okP_s (tb_9 _ (List.mem_of_getElem? (i := 9) rfl)) (tb_1 _ (List.mem_of_getElem? (i := 13) rfl)) (tb_9 _ (List.mem_of_getElem? (i := 8) rfl)) ok_c12 ok_d4 rfl (by decide)
theorem okP_251 : okP (pgRw 251) := show okP (yX12_begins, cX12_begins, 2, (Option.none), 1, false, 12, 2052, 139, 2051, 123) from okP_i (tb_9 _ (List.mem_of_getElem? (i := 6) rfl)) (tb_1 _ (List.mem_of_getElem? (i := 13) rfl)) (tb_9 _ (List.mem_of_getElem? (i := 5) rfl)) (pb_8 _ (List.mem_of_getElem? (i := 11) rfl)) ok_c12 ok_d6 rfl (by decide)
theorem okP_252 : okP (pgRw 252) := show okP (yX12_spends, cX12_spends, 3, ((Option.some Jvm.ClassFile.FieldType.int)), 2, false, 12, 2048, 139, 2047, 122) from okP_i (tb_9 _ (List.mem_of_getElem? (i := 2) rfl)) (tb_1 _ (List.mem_of_getElem? (i := 13) rfl)) (tb_9 _ (List.mem_of_getElem? (i := 1) rfl)) (pb_8 _ (List.mem_of_getElem? (i := 10) rfl)) ok_c12 ok_d17 rfl (by decide)
theorem okP_253 : okP (pgRw 253) := show okP (yX12_counts, cX12_counts, 4, ((Option.some Jvm.ClassFile.FieldType.int)), 2, false, 12, 2059, 139, 2058, 124) from okP_i (tb_9 _ (List.mem_of_getElem? (i := 13) rfl)) (tb_1 _ (List.mem_of_getElem? (i := 13) rfl)) (tb_9 _ (List.mem_of_getElem? (i := 12) rfl)) (pb_8 _ (List.mem_of_getElem? (i := 12) rfl)) ok_c12 ok_d17 rfl (by decide)
theorem okP_254 : okP (pgRw 254) := show okP (yX12_proves, cX12_proves, 4, ((Option.some Jvm.ClassFile.FieldType.int)), 2, false, 12, 2063, 139, 2062, 125) from okP_i (tb_9 _ (List.mem_of_getElem? (i := 17) rfl)) (tb_1 _ (List.mem_of_getElem? (i := 13) rfl)) (tb_9 _ (List.mem_of_getElem? (i := 16) rfl)) (pb_8 _ (List.mem_of_getElem? (i := 13) rfl)) ok_c12 ok_d17 rfl (by decide)
theorem okP_255 : okP (pgRw 255) := show okP (yX12_act, cX12_act, 4, ((Option.some Jvm.ClassFile.FieldType.int)), 3, false, 12, 2044, 139, 2042, 2043) from okP_i (tb_8 _ (List.mem_of_getElem? (i := 238) rfl)) (tb_1 _ (List.mem_of_getElem? (i := 13) rfl)) (tb_8 _ (List.mem_of_getElem? (i := 236) rfl)) (tb_8 _ (List.mem_of_getElem? (i := 237) rfl)) ok_c12 ok_d3 rfl (by decide)
theorem okP_256 : okP (pgRw 256) := show okP (yX12_trace, cX12_trace, 2, ((Option.some Jvm.ClassFile.FieldType.int)), 1, false, 12, 2067, 139, 2065, 2066) from okP_i (tb_9 _ (List.mem_of_getElem? (i := 21) rfl)) (tb_1 _ (List.mem_of_getElem? (i := 13) rfl)) (tb_9 _ (List.mem_of_getElem? (i := 19) rfl)) (tb_9 _ (List.mem_of_getElem? (i := 20) rfl)) ok_c12 ok_d4 rfl (by decide)
theorem okP_257 : okP (pgRw 257) := show okP (yX12_taken, cX12_taken, 3, ((Option.some Jvm.ClassFile.FieldType.int)), 2, false, 12, 2071, 139, 2069, 2070) from okP_i (tb_9 _ (List.mem_of_getElem? (i := 25) rfl)) (tb_1 _ (List.mem_of_getElem? (i := 13) rfl)) (tb_9 _ (List.mem_of_getElem? (i := 23) rfl)) (tb_9 _ (List.mem_of_getElem? (i := 24) rfl)) ok_c12 ok_d17 rfl (by decide)
theorem okP_258 : okP (pgRw 258) := show okP (yX12_count, cX12_count, 5, ((Option.some Jvm.ClassFile.FieldType.int)), 1, false, 12, 2075, 139, 2073, 2074) from okP_i (tb_9 _ (List.mem_of_getElem? (i := 29) rfl)) (tb_1 _ (List.mem_of_getElem? (i := 13) rfl)) (tb_9 _ (List.mem_of_getElem? (i := 27) rfl)) (tb_9 _ (List.mem_of_getElem? (i := 28) rfl)) ok_c12 ok_d4 rfl (by decide)
theorem okP_259 : okP (pgRw 259) := show okP (yJ6_bitCount_0f7a4, cJ6_bitCount_0f7a4, 1, ((Option.some Jvm.ClassFile.FieldType.int)), 1, true, 14, 930, 142, 929, 0) from okP_s (tb_4 _ (List.mem_of_getElem? (i := 84) rfl)) (tb_1 _ (List.mem_of_getElem? (i := 16) rfl)) (tb_4 _ (List.mem_of_getElem? (i := 83) rfl)) ok_c13 ok_d4 rfl (by decide)
theorem okP_264 : okP (pgRw 264) := show okP (yJ0_length_8abf5, cJ0_length_8abf5, 1, ((Option.some Jvm.ClassFile.FieldType.int)), 0, false, 16, 1040, 143, 1038, 1039) from okP_i (tb_4 _ (List.mem_of_getElem? (i := 194) rfl)) (tb_1 _ (List.mem_of_getElem? (i := 17) rfl)) (tb_4 _ (List.mem_of_getElem? (i := 192) rfl)) (tb_4 _ (List.mem_of_getElem? (i := 193) rfl)) ok_c14 ok_d7 rfl (by decide)
theorem okP_265 : okP (pgRw 265) := show okP (yJ0_indexOf_0f7a4, cJ0_indexOf_0f7a4, 2, ((Option.some Jvm.ClassFile.FieldType.int)), 1, false, 16, 1026, 143, 1024, 1025) from okP_i (tb_4 _ (List.mem_of_getElem? (i := 180) rfl)) (tb_1 _ (List.mem_of_getElem? (i := 17) rfl)) (tb_4 _ (List.mem_of_getElem? (i := 178) rfl)) (tb_4 _ (List.mem_of_getElem? (i := 179) rfl)) ok_c14 ok_d4 rfl (by decide)
theorem okP_266 : okP (pgRw 266) := show okP (yJ0_indexOf_7cf53, cJ0_indexOf_7cf53, 3, ((Option.some Jvm.ClassFile.FieldType.int)), 2, false, 16, 1030, 143, 1028, 1029) from okP_i (tb_4 _ (List.mem_of_getElem? (i := 184) rfl)) (tb_1 _ (List.mem_of_getElem? (i := 17) rfl)) (tb_4 _ (List.mem_of_getElem? (i := 182) rfl)) (tb_4 _ (List.mem_of_getElem? (i := 183) rfl)) ok_c14 ok_d17 rfl (by decide)
theorem okP_267 : okP (pgRw 267) := show okP (yJ0_coder_7d493, cJ0_coder_7d493, 1, ((Option.some Jvm.ClassFile.FieldType.byte)), 0, false, 16, 1044, 143, 1042, 1043) from okP_i (tb_4 _ (List.mem_of_getElem? (i := 198) rfl)) (tb_1 _ (List.mem_of_getElem? (i := 17) rfl)) (tb_4 _ (List.mem_of_getElem? (i := 196) rfl)) (tb_4 _ (List.mem_of_getElem? (i := 197) rfl)) ok_c14 ok_d31 rfl (by decide)
theorem okP_268 : okP (pgRw 268) := show okP (yJ0_isLatin1_aae02, cJ0_isLatin1_aae02, 1, ((Option.some Jvm.ClassFile.FieldType.boolean)), 0, false, 16, 1034, 143, 1032, 1033) from okP_i (tb_4 _ (List.mem_of_getElem? (i := 188) rfl)) (tb_1 _ (List.mem_of_getElem? (i := 17) rfl)) (tb_4 _ (List.mem_of_getElem? (i := 186) rfl)) (tb_4 _ (List.mem_of_getElem? (i := 187) rfl)) ok_c14 ok_d32 rfl (by decide)
theorem okP_269 : okP (pgRw 269) := show okP (yJ1_canEncode_9a6ad, cJ1_canEncode_9a6ad, 1, ((Option.some Jvm.ClassFile.FieldType.boolean)), 1, true, 17, 1050, 144, 1049, 0) from okP_s (tb_4 _ (List.mem_of_getElem? (i := 204) rfl)) (tb_1 _ (List.mem_of_getElem? (i := 18) rfl)) (tb_4 _ (List.mem_of_getElem? (i := 203) rfl)) ok_c15 ok_d1 rfl (by decide)
theorem okP_270 : okP (pgRw 270) := show okP (yJ1_indexOf_4cfef, cJ1_indexOf_4cfef, 4, ((Option.some Jvm.ClassFile.FieldType.int)), 4, true, 17, 1047, 144, 1046, 0) from okP_s (tb_4 _ (List.mem_of_getElem? (i := 201) rfl)) (tb_1 _ (List.mem_of_getElem? (i := 18) rfl)) (tb_4 _ (List.mem_of_getElem? (i := 200) rfl)) ok_c15 ok_d33 rfl (by decide)
theorem okP_271 : okP (pgRw 271) := show okP (yJ1_indexOfChar_4cfef, cJ1_indexOfChar_4cfef, 6, ((Option.some Jvm.ClassFile.FieldType.int)), 4, true, 17, 1055, 144, 1054, 0) from okP_s (tb_4 _ (List.mem_of_getElem? (i := 209) rfl)) (tb_1 _ (List.mem_of_getElem? (i := 18) rfl)) (tb_4 _ (List.mem_of_getElem? (i := 208) rfl)) ok_c15 ok_d33 rfl (by decide)
theorem okP_272 : okP (pgRw 272) := show okP (yJ7_fill_53178, cJ7_fill_53178, 4, (Option.none), 2, true, 19, 165, 129, 164, 0) from okP_s (tb_1 _ (List.mem_of_getElem? (i := 39) rfl)) (tb_1 _ (List.mem_of_getElem? (i := 3) rfl)) (tb_1 _ (List.mem_of_getElem? (i := 38) rfl)) ok_c16 ok_d34 rfl (by decide)
theorem okP_273 : okP (pgRw 273) := show okP (yJ7_copyOf_59c91, cJ7_copyOf_59c91, 3, ((Option.some (Jvm.ClassFile.FieldType.array Jvm.ClassFile.FieldType.int))), 2, true, 19, 1122, 129, 1121, 0) from okP_s (tb_5 _ (List.mem_of_getElem? (i := 36) rfl)) (tb_1 _ (List.mem_of_getElem? (i := 3) rfl)) (tb_5 _ (List.mem_of_getElem? (i := 35) rfl)) ok_c16 ok_d35 rfl (by decide)
theorem okP_all : ∀ k, k < 274 → m_pl k = true → okP (pgRw k) := by
  intro k hk hp
  have q0 : 0 ≤ k := Nat.zero_le k
  rcases Nat.lt_or_ge k 137 with q | q
  · rcases Nat.lt_or_ge k 68 with q | q
    · rcases Nat.lt_or_ge k 34 with q | q
      · rcases Nat.lt_or_ge k 17 with q | q
        · rcases Nat.lt_or_ge k 8 with q | q
          · rcases Nat.lt_or_ge k 4 with q | q
            · rcases Nat.lt_or_ge k 2 with q | q
              · rcases Nat.lt_or_ge k 1 with q | q
                · have e : k = 0 := by omega
                  subst e; exact okP_0
                · have e : k = 1 := by omega
                  subst e; exact okP_1
              · rcases Nat.lt_or_ge k 3 with q | q
                · have e : k = 2 := by omega
                  subst e; exact okP_2
                · have e : k = 3 := by omega
                  subst e; exact okP_3
            · rcases Nat.lt_or_ge k 6 with q | q
              · rcases Nat.lt_or_ge k 5 with q | q
                · have e : k = 4 := by omega
                  subst e; exact okP_4
                · have e : k = 5 := by omega
                  subst e; exact okP_5
              · rcases Nat.lt_or_ge k 7 with q | q
                · have e : k = 6 := by omega
                  subst e; exact okP_6
                · have e : k = 7 := by omega
                  subst e; exact okP_7
          · rcases Nat.lt_or_ge k 12 with q | q
            · rcases Nat.lt_or_ge k 10 with q | q
              · rcases Nat.lt_or_ge k 9 with q | q
                · have e : k = 8 := by omega
                  subst e; exact okP_8
                · have e : k = 9 := by omega
                  subst e; exact okP_9
              · rcases Nat.lt_or_ge k 11 with q | q
                · have e : k = 10 := by omega
                  subst e; exact okP_10
                · have e : k = 11 := by omega
                  subst e; exact okP_11
            · rcases Nat.lt_or_ge k 14 with q | q
              · rcases Nat.lt_or_ge k 13 with q | q
                · have e : k = 12 := by omega
                  subst e; exact okP_12
                · have e : k = 13 := by omega
                  subst e; exact okP_13
              · rcases Nat.lt_or_ge k 15 with q | q
                · have e : k = 14 := by omega
                  subst e; exact okP_14
                · rcases Nat.lt_or_ge k 16 with q | q
                  · have e : k = 15 := by omega
                    subst e; exact okP_15
                  · have e : k = 16 := by omega
                    subst e; exact okP_16
        · rcases Nat.lt_or_ge k 25 with q | q
          · rcases Nat.lt_or_ge k 21 with q | q
            · rcases Nat.lt_or_ge k 19 with q | q
              · rcases Nat.lt_or_ge k 18 with q | q
                · have e : k = 17 := by omega
                  subst e; exact okP_17
                · have e : k = 18 := by omega
                  subst e; exact okP_18
              · rcases Nat.lt_or_ge k 20 with q | q
                · have e : k = 19 := by omega
                  subst e; exact okP_19
                · have e : k = 20 := by omega
                  subst e; exact okP_20
            · rcases Nat.lt_or_ge k 23 with q | q
              · rcases Nat.lt_or_ge k 22 with q | q
                · have e : k = 21 := by omega
                  subst e; exact okP_21
                · have e : k = 22 := by omega
                  subst e; exact okP_22
              · rcases Nat.lt_or_ge k 24 with q | q
                · have e : k = 23 := by omega
                  subst e; exact okP_23
                · have e : k = 24 := by omega
                  subst e; exact okP_24
          · rcases Nat.lt_or_ge k 29 with q | q
            · rcases Nat.lt_or_ge k 27 with q | q
              · rcases Nat.lt_or_ge k 26 with q | q
                · have e : k = 25 := by omega
                  subst e; exact okP_25
                · have e : k = 26 := by omega
                  subst e; exact okP_26
              · rcases Nat.lt_or_ge k 28 with q | q
                · have e : k = 27 := by omega
                  subst e; exact okP_27
                · have e : k = 28 := by omega
                  subst e; exact okP_28
            · rcases Nat.lt_or_ge k 31 with q | q
              · rcases Nat.lt_or_ge k 30 with q | q
                · have e : k = 29 := by omega
                  subst e; exact okP_29
                · have e : k = 30 := by omega
                  subst e; exact okP_30
              · rcases Nat.lt_or_ge k 32 with q | q
                · have e : k = 31 := by omega
                  subst e; exact okP_31
                · rcases Nat.lt_or_ge k 33 with q | q
                  · have e : k = 32 := by omega
                    subst e; exact okP_32
                  · have e : k = 33 := by omega
                    subst e; exact okP_33
      · rcases Nat.lt_or_ge k 51 with q | q
        · rcases Nat.lt_or_ge k 42 with q | q
          · rcases Nat.lt_or_ge k 38 with q | q
            · rcases Nat.lt_or_ge k 36 with q | q
              · rcases Nat.lt_or_ge k 35 with q | q
                · have e : k = 34 := by omega
                  subst e; exact okP_34
                · have e : k = 35 := by omega
                  subst e; exact okP_35
              · rcases Nat.lt_or_ge k 37 with q | q
                · have e : k = 36 := by omega
                  subst e; exact okP_36
                · have e : k = 37 := by omega
                  subst e; exact okP_37
            · rcases Nat.lt_or_ge k 40 with q | q
              · rcases Nat.lt_or_ge k 39 with q | q
                · have e : k = 38 := by omega
                  subst e; exact okP_38
                · have e : k = 39 := by omega
                  subst e; exact okP_39
              · rcases Nat.lt_or_ge k 41 with q | q
                · have e : k = 40 := by omega
                  subst e; exact okP_40
                · have e : k = 41 := by omega
                  subst e; exact okP_41
          · rcases Nat.lt_or_ge k 46 with q | q
            · rcases Nat.lt_or_ge k 44 with q | q
              · rcases Nat.lt_or_ge k 43 with q | q
                · have e : k = 42 := by omega
                  subst e; exact okP_42
                · have e : k = 43 := by omega
                  subst e; exact okP_43
              · rcases Nat.lt_or_ge k 45 with q | q
                · have e : k = 44 := by omega
                  subst e; exact okP_44
                · have e : k = 45 := by omega
                  subst e; exact okP_45
            · rcases Nat.lt_or_ge k 48 with q | q
              · rcases Nat.lt_or_ge k 47 with q | q
                · have e : k = 46 := by omega
                  subst e; exact okP_46
                · have e : k = 47 := by omega
                  subst e; exact okP_47
              · rcases Nat.lt_or_ge k 49 with q | q
                · have e : k = 48 := by omega
                  subst e; exact okP_48
                · rcases Nat.lt_or_ge k 50 with q | q
                  · have e : k = 49 := by omega
                    subst e; exact okP_49
                  · have e : k = 50 := by omega
                    subst e; exact okP_50
        · rcases Nat.lt_or_ge k 59 with q | q
          · rcases Nat.lt_or_ge k 55 with q | q
            · rcases Nat.lt_or_ge k 53 with q | q
              · rcases Nat.lt_or_ge k 52 with q | q
                · have e : k = 51 := by omega
                  subst e; exact okP_51
                · have e : k = 52 := by omega
                  subst e; exact okP_52
              · rcases Nat.lt_or_ge k 54 with q | q
                · have e : k = 53 := by omega
                  subst e; exact okP_53
                · have e : k = 54 := by omega
                  subst e; exact okP_54
            · rcases Nat.lt_or_ge k 57 with q | q
              · rcases Nat.lt_or_ge k 56 with q | q
                · have e : k = 55 := by omega
                  subst e; exact okP_55
                · have e : k = 56 := by omega
                  subst e; exact okP_56
              · rcases Nat.lt_or_ge k 58 with q | q
                · have e : k = 57 := by omega
                  subst e; exact okP_57
                · have e : k = 58 := by omega
                  subst e; exact okP_58
          · rcases Nat.lt_or_ge k 63 with q | q
            · rcases Nat.lt_or_ge k 61 with q | q
              · rcases Nat.lt_or_ge k 60 with q | q
                · have e : k = 59 := by omega
                  subst e; exact okP_59
                · have e : k = 60 := by omega
                  subst e; exact okP_60
              · rcases Nat.lt_or_ge k 62 with q | q
                · have e : k = 61 := by omega
                  subst e; exact okP_61
                · have e : k = 62 := by omega
                  subst e; exact okP_62
            · rcases Nat.lt_or_ge k 65 with q | q
              · rcases Nat.lt_or_ge k 64 with q | q
                · have e : k = 63 := by omega
                  subst e; exact okP_63
                · have e : k = 64 := by omega
                  subst e; exact okP_64
              · rcases Nat.lt_or_ge k 66 with q | q
                · have e : k = 65 := by omega
                  subst e; exact okP_65
                · rcases Nat.lt_or_ge k 67 with q | q
                  · have e : k = 66 := by omega
                    subst e; exact okP_66
                  · have e : k = 67 := by omega
                    subst e; exact okP_67
    · rcases Nat.lt_or_ge k 102 with q | q
      · rcases Nat.lt_or_ge k 85 with q | q
        · rcases Nat.lt_or_ge k 76 with q | q
          · rcases Nat.lt_or_ge k 72 with q | q
            · rcases Nat.lt_or_ge k 70 with q | q
              · rcases Nat.lt_or_ge k 69 with q | q
                · have e : k = 68 := by omega
                  subst e; exact okP_68
                · have e : k = 69 := by omega
                  subst e; exact okP_69
              · rcases Nat.lt_or_ge k 71 with q | q
                · have e : k = 70 := by omega
                  subst e; exact okP_70
                · have e : k = 71 := by omega
                  subst e; exact okP_71
            · rcases Nat.lt_or_ge k 74 with q | q
              · rcases Nat.lt_or_ge k 73 with q | q
                · have e : k = 72 := by omega
                  subst e; exact okP_72
                · have e : k = 73 := by omega
                  subst e; exact okP_73
              · rcases Nat.lt_or_ge k 75 with q | q
                · have e : k = 74 := by omega
                  subst e; exact okP_74
                · have e : k = 75 := by omega
                  subst e; exact okP_75
          · rcases Nat.lt_or_ge k 80 with q | q
            · rcases Nat.lt_or_ge k 78 with q | q
              · rcases Nat.lt_or_ge k 77 with q | q
                · have e : k = 76 := by omega
                  subst e; exact okP_76
                · have e : k = 77 := by omega
                  subst e; exact okP_77
              · rcases Nat.lt_or_ge k 79 with q | q
                · have e : k = 78 := by omega
                  subst e; exact okP_78
                · have e : k = 79 := by omega
                  subst e; exact okP_79
            · rcases Nat.lt_or_ge k 82 with q | q
              · rcases Nat.lt_or_ge k 81 with q | q
                · have e : k = 80 := by omega
                  subst e; exact okP_80
                · have e : k = 81 := by omega
                  subst e; exact okP_81
              · rcases Nat.lt_or_ge k 83 with q | q
                · have e : k = 82 := by omega
                  subst e; exact okP_82
                · rcases Nat.lt_or_ge k 84 with q | q
                  · have e : k = 83 := by omega
                    subst e; exact okP_83
                  · have e : k = 84 := by omega
                    subst e; exact okP_84
        · rcases Nat.lt_or_ge k 93 with q | q
          · rcases Nat.lt_or_ge k 89 with q | q
            · rcases Nat.lt_or_ge k 87 with q | q
              · rcases Nat.lt_or_ge k 86 with q | q
                · have e : k = 85 := by omega
                  subst e; exact okP_85
                · have e : k = 86 := by omega
                  subst e; exact okP_86
              · rcases Nat.lt_or_ge k 88 with q | q
                · have e : k = 87 := by omega
                  subst e; exact okP_87
                · have e : k = 88 := by omega
                  subst e; exact okP_88
            · rcases Nat.lt_or_ge k 91 with q | q
              · rcases Nat.lt_or_ge k 90 with q | q
                · have e : k = 89 := by omega
                  subst e; exact okP_89
                · have e : k = 90 := by omega
                  subst e; exact okP_90
              · rcases Nat.lt_or_ge k 92 with q | q
                · have e : k = 91 := by omega
                  subst e; exact okP_91
                · have e : k = 92 := by omega
                  subst e; exact okP_92
          · rcases Nat.lt_or_ge k 97 with q | q
            · rcases Nat.lt_or_ge k 95 with q | q
              · rcases Nat.lt_or_ge k 94 with q | q
                · have e : k = 93 := by omega
                  subst e; exact okP_93
                · have e : k = 94 := by omega
                  subst e; exact okP_94
              · rcases Nat.lt_or_ge k 96 with q | q
                · have e : k = 95 := by omega
                  subst e; exact okP_95
                · have e : k = 96 := by omega
                  subst e; exact okP_96
            · rcases Nat.lt_or_ge k 99 with q | q
              · rcases Nat.lt_or_ge k 98 with q | q
                · have e : k = 97 := by omega
                  subst e; exact okP_97
                · have e : k = 98 := by omega
                  subst e; exact okP_98
              · rcases Nat.lt_or_ge k 100 with q | q
                · have e : k = 99 := by omega
                  subst e; exact okP_99
                · rcases Nat.lt_or_ge k 101 with q | q
                  · have e : k = 100 := by omega
                    subst e; exact okP_100
                  · have e : k = 101 := by omega
                    subst e; exact okP_101
      · rcases Nat.lt_or_ge k 119 with q | q
        · rcases Nat.lt_or_ge k 110 with q | q
          · rcases Nat.lt_or_ge k 106 with q | q
            · rcases Nat.lt_or_ge k 104 with q | q
              · rcases Nat.lt_or_ge k 103 with q | q
                · have e : k = 102 := by omega
                  subst e; exact okP_102
                · have e : k = 103 := by omega
                  subst e; exact okP_103
              · rcases Nat.lt_or_ge k 105 with q | q
                · have e : k = 104 := by omega
                  subst e; exact okP_104
                · have e : k = 105 := by omega
                  subst e; exact okP_105
            · rcases Nat.lt_or_ge k 108 with q | q
              · rcases Nat.lt_or_ge k 107 with q | q
                · have e : k = 106 := by omega
                  subst e; exact okP_106
                · have e : k = 107 := by omega
                  subst e; exact okP_107
              · rcases Nat.lt_or_ge k 109 with q | q
                · have e : k = 108 := by omega
                  subst e; exact okP_108
                · have e : k = 109 := by omega
                  subst e; exact okP_109
          · rcases Nat.lt_or_ge k 114 with q | q
            · rcases Nat.lt_or_ge k 112 with q | q
              · rcases Nat.lt_or_ge k 111 with q | q
                · have e : k = 110 := by omega
                  subst e; exact okP_110
                · have e : k = 111 := by omega
                  subst e; exact okP_111
              · rcases Nat.lt_or_ge k 113 with q | q
                · have e : k = 112 := by omega
                  subst e; exact okP_112
                · have e : k = 113 := by omega
                  subst e; exact okP_113
            · rcases Nat.lt_or_ge k 116 with q | q
              · rcases Nat.lt_or_ge k 115 with q | q
                · have e : k = 114 := by omega
                  subst e; exact okP_114
                · have e : k = 115 := by omega
                  subst e; exact okP_115
              · rcases Nat.lt_or_ge k 117 with q | q
                · have e : k = 116 := by omega
                  subst e; exact okP_116
                · rcases Nat.lt_or_ge k 118 with q | q
                  · have e : k = 117 := by omega
                    subst e; exact okP_117
                  · have e : k = 118 := by omega
                    subst e; exact okP_118
        · rcases Nat.lt_or_ge k 128 with q | q
          · rcases Nat.lt_or_ge k 123 with q | q
            · rcases Nat.lt_or_ge k 121 with q | q
              · rcases Nat.lt_or_ge k 120 with q | q
                · have e : k = 119 := by omega
                  subst e; exact okP_119
                · have e : k = 120 := by omega
                  subst e; exact okP_120
              · rcases Nat.lt_or_ge k 122 with q | q
                · have e : k = 121 := by omega
                  subst e; exact okP_121
                · have e : k = 122 := by omega
                  subst e; exact okP_122
            · rcases Nat.lt_or_ge k 125 with q | q
              · rcases Nat.lt_or_ge k 124 with q | q
                · have e : k = 123 := by omega
                  subst e; exact okP_123
                · have e : k = 124 := by omega
                  subst e; exact okP_124
              · rcases Nat.lt_or_ge k 126 with q | q
                · have e : k = 125 := by omega
                  subst e; exact okP_125
                · rcases Nat.lt_or_ge k 127 with q | q
                  · have e : k = 126 := by omega
                    subst e; exact okP_126
                  · have e : k = 127 := by omega
                    subst e; exact okP_127
          · rcases Nat.lt_or_ge k 132 with q | q
            · rcases Nat.lt_or_ge k 130 with q | q
              · rcases Nat.lt_or_ge k 129 with q | q
                · have e : k = 128 := by omega
                  subst e; exact okP_128
                · have e : k = 129 := by omega
                  subst e; exact okP_129
              · rcases Nat.lt_or_ge k 131 with q | q
                · have e : k = 130 := by omega
                  subst e; exact okP_130
                · have e : k = 131 := by omega
                  subst e; exact okP_131
            · rcases Nat.lt_or_ge k 134 with q | q
              · rcases Nat.lt_or_ge k 133 with q | q
                · have e : k = 132 := by omega
                  subst e; exact okP_132
                · have e : k = 133 := by omega
                  subst e; exact okP_133
              · rcases Nat.lt_or_ge k 135 with q | q
                · have e : k = 134 := by omega
                  subst e; exact okP_134
                · rcases Nat.lt_or_ge k 136 with q | q
                  · have e : k = 135 := by omega
                    subst e; exact okP_135
                  · have e : k = 136 := by omega
                    subst e; exact okP_136
  · rcases Nat.lt_or_ge k 205 with q | q
    · rcases Nat.lt_or_ge k 171 with q | q
      · rcases Nat.lt_or_ge k 154 with q | q
        · rcases Nat.lt_or_ge k 145 with q | q
          · rcases Nat.lt_or_ge k 141 with q | q
            · rcases Nat.lt_or_ge k 139 with q | q
              · rcases Nat.lt_or_ge k 138 with q | q
                · have e : k = 137 := by omega
                  subst e; exact okP_137
                · have e : k = 138 := by omega
                  subst e; exact okP_138
              · rcases Nat.lt_or_ge k 140 with q | q
                · have e : k = 139 := by omega
                  subst e; exact okP_139
                · have e : k = 140 := by omega
                  subst e; exact okP_140
            · rcases Nat.lt_or_ge k 143 with q | q
              · rcases Nat.lt_or_ge k 142 with q | q
                · have e : k = 141 := by omega
                  subst e; exact okP_141
                · have e : k = 142 := by omega
                  subst e; exact okP_142
              · rcases Nat.lt_or_ge k 144 with q | q
                · have e : k = 143 := by omega
                  subst e; exact okP_143
                · have e : k = 144 := by omega
                  subst e; exact okP_144
          · rcases Nat.lt_or_ge k 149 with q | q
            · rcases Nat.lt_or_ge k 147 with q | q
              · rcases Nat.lt_or_ge k 146 with q | q
                · have e : k = 145 := by omega
                  subst e; exact okP_145
                · have e : k = 146 := by omega
                  subst e; exact okP_146
              · rcases Nat.lt_or_ge k 148 with q | q
                · have e : k = 147 := by omega
                  subst e; exact okP_147
                · have e : k = 148 := by omega
                  subst e; exact okP_148
            · rcases Nat.lt_or_ge k 151 with q | q
              · rcases Nat.lt_or_ge k 150 with q | q
                · have e : k = 149 := by omega
                  subst e; exact okP_149
                · have e : k = 150 := by omega
                  subst e; exact okP_150
              · rcases Nat.lt_or_ge k 152 with q | q
                · have e : k = 151 := by omega
                  subst e; exact okP_151
                · rcases Nat.lt_or_ge k 153 with q | q
                  · have e : k = 152 := by omega
                    subst e; exact okP_152
                  · have e : k = 153 := by omega
                    subst e; exact okP_153
        · rcases Nat.lt_or_ge k 162 with q | q
          · rcases Nat.lt_or_ge k 158 with q | q
            · rcases Nat.lt_or_ge k 156 with q | q
              · rcases Nat.lt_or_ge k 155 with q | q
                · have e : k = 154 := by omega
                  subst e; exact okP_154
                · have e : k = 155 := by omega
                  subst e; exact okP_155
              · rcases Nat.lt_or_ge k 157 with q | q
                · have e : k = 156 := by omega
                  subst e; exact okP_156
                · have e : k = 157 := by omega
                  subst e; exact okP_157
            · rcases Nat.lt_or_ge k 160 with q | q
              · rcases Nat.lt_or_ge k 159 with q | q
                · have e : k = 158 := by omega
                  subst e; exact okP_158
                · have e : k = 159 := by omega
                  subst e; exact okP_159
              · rcases Nat.lt_or_ge k 161 with q | q
                · have e : k = 160 := by omega
                  subst e; exact okP_160
                · have e : k = 161 := by omega
                  subst e; exact okP_161
          · rcases Nat.lt_or_ge k 166 with q | q
            · rcases Nat.lt_or_ge k 164 with q | q
              · rcases Nat.lt_or_ge k 163 with q | q
                · have e : k = 162 := by omega
                  subst e; exact okP_162
                · have e : k = 163 := by omega
                  subst e; exact okP_163
              · rcases Nat.lt_or_ge k 165 with q | q
                · have e : k = 164 := by omega
                  subst e; exact okP_164
                · have e : k = 165 := by omega
                  subst e; exact okP_165
            · rcases Nat.lt_or_ge k 168 with q | q
              · rcases Nat.lt_or_ge k 167 with q | q
                · have e : k = 166 := by omega
                  subst e; exact okP_166
                · have e : k = 167 := by omega
                  subst e; exact okP_167
              · rcases Nat.lt_or_ge k 169 with q | q
                · have e : k = 168 := by omega
                  subst e; exact okP_168
                · rcases Nat.lt_or_ge k 170 with q | q
                  · have e : k = 169 := by omega
                    subst e; exact okP_169
                  · have e : k = 170 := by omega
                    subst e; exact okP_170
      · rcases Nat.lt_or_ge k 188 with q | q
        · rcases Nat.lt_or_ge k 179 with q | q
          · rcases Nat.lt_or_ge k 175 with q | q
            · rcases Nat.lt_or_ge k 173 with q | q
              · rcases Nat.lt_or_ge k 172 with q | q
                · have e : k = 171 := by omega
                  subst e; exact okP_171
                · have e : k = 172 := by omega
                  subst e; exact okP_172
              · rcases Nat.lt_or_ge k 174 with q | q
                · have e : k = 173 := by omega
                  subst e; exact okP_173
                · have e : k = 174 := by omega
                  subst e; exact okP_174
            · rcases Nat.lt_or_ge k 177 with q | q
              · rcases Nat.lt_or_ge k 176 with q | q
                · have e : k = 175 := by omega
                  subst e; exact okP_175
                · have e : k = 176 := by omega
                  subst e; exact okP_176
              · rcases Nat.lt_or_ge k 178 with q | q
                · have e : k = 177 := by omega
                  subst e; exact okP_177
                · have e : k = 178 := by omega
                  subst e; exact okP_178
          · rcases Nat.lt_or_ge k 183 with q | q
            · rcases Nat.lt_or_ge k 181 with q | q
              · rcases Nat.lt_or_ge k 180 with q | q
                · have e : k = 179 := by omega
                  subst e; exact okP_179
                · have e : k = 180 := by omega
                  subst e; exact okP_180
              · rcases Nat.lt_or_ge k 182 with q | q
                · have e : k = 181 := by omega
                  subst e; exact okP_181
                · have e : k = 182 := by omega
                  subst e; exact okP_182
            · rcases Nat.lt_or_ge k 185 with q | q
              · rcases Nat.lt_or_ge k 184 with q | q
                · have e : k = 183 := by omega
                  subst e; exact okP_183
                · have e : k = 184 := by omega
                  subst e; exact okP_184
              · rcases Nat.lt_or_ge k 186 with q | q
                · have e : k = 185 := by omega
                  subst e; exact okP_185
                · rcases Nat.lt_or_ge k 187 with q | q
                  · have e : k = 186 := by omega
                    subst e; exact okP_186
                  · have e : k = 187 := by omega
                    subst e; exact okP_187
        · rcases Nat.lt_or_ge k 196 with q | q
          · rcases Nat.lt_or_ge k 192 with q | q
            · rcases Nat.lt_or_ge k 190 with q | q
              · rcases Nat.lt_or_ge k 189 with q | q
                · have e : k = 188 := by omega
                  subst e; exact okP_188
                · have e : k = 189 := by omega
                  subst e; exact okP_189
              · rcases Nat.lt_or_ge k 191 with q | q
                · have e : k = 190 := by omega
                  subst e; exact okP_190
                · have e : k = 191 := by omega
                  subst e; exact okP_191
            · rcases Nat.lt_or_ge k 194 with q | q
              · rcases Nat.lt_or_ge k 193 with q | q
                · have e : k = 192 := by omega
                  subst e; exact okP_192
                · have e : k = 193 := by omega
                  subst e; exact okP_193
              · rcases Nat.lt_or_ge k 195 with q | q
                · have e : k = 194 := by omega
                  subst e; exact okP_194
                · have e : k = 195 := by omega
                  subst e; exact okP_195
          · rcases Nat.lt_or_ge k 200 with q | q
            · rcases Nat.lt_or_ge k 198 with q | q
              · rcases Nat.lt_or_ge k 197 with q | q
                · have e : k = 196 := by omega
                  subst e; exact okP_196
                · have e : k = 197 := by omega
                  subst e; exact okP_197
              · rcases Nat.lt_or_ge k 199 with q | q
                · have e : k = 198 := by omega
                  subst e; exact okP_198
                · have e : k = 199 := by omega
                  subst e; exact okP_199
            · rcases Nat.lt_or_ge k 202 with q | q
              · rcases Nat.lt_or_ge k 201 with q | q
                · have e : k = 200 := by omega
                  subst e; exact okP_200
                · have e : k = 201 := by omega
                  subst e; exact okP_201
              · rcases Nat.lt_or_ge k 203 with q | q
                · have e : k = 202 := by omega
                  subst e; exact okP_202
                · rcases Nat.lt_or_ge k 204 with q | q
                  · have e : k = 203 := by omega
                    subst e; exact okP_203
                  · have e : k = 204 := by omega
                    subst e; exact okP_204
    · rcases Nat.lt_or_ge k 239 with q | q
      · rcases Nat.lt_or_ge k 222 with q | q
        · rcases Nat.lt_or_ge k 213 with q | q
          · rcases Nat.lt_or_ge k 209 with q | q
            · rcases Nat.lt_or_ge k 207 with q | q
              · rcases Nat.lt_or_ge k 206 with q | q
                · have e : k = 205 := by omega
                  subst e; exact okP_205
                · have e : k = 206 := by omega
                  subst e; exact okP_206
              · rcases Nat.lt_or_ge k 208 with q | q
                · have e : k = 207 := by omega
                  subst e; exact okP_207
                · have e : k = 208 := by omega
                  subst e; exact okP_208
            · rcases Nat.lt_or_ge k 211 with q | q
              · rcases Nat.lt_or_ge k 210 with q | q
                · have e : k = 209 := by omega
                  subst e; exact okP_209
                · have e : k = 210 := by omega
                  subst e; exact okP_210
              · rcases Nat.lt_or_ge k 212 with q | q
                · have e : k = 211 := by omega
                  subst e; exact okP_211
                · have e : k = 212 := by omega
                  subst e; exact okP_212
          · rcases Nat.lt_or_ge k 217 with q | q
            · rcases Nat.lt_or_ge k 215 with q | q
              · rcases Nat.lt_or_ge k 214 with q | q
                · have e : k = 213 := by omega
                  subst e; exact okP_213
                · have e : k = 214 := by omega
                  subst e; exact okP_214
              · rcases Nat.lt_or_ge k 216 with q | q
                · have e : k = 215 := by omega
                  subst e; exact okP_215
                · have e : k = 216 := by omega
                  subst e; exact okP_216
            · rcases Nat.lt_or_ge k 219 with q | q
              · rcases Nat.lt_or_ge k 218 with q | q
                · have e : k = 217 := by omega
                  subst e; exact okP_217
                · have e : k = 218 := by omega
                  subst e; exact okP_218
              · rcases Nat.lt_or_ge k 220 with q | q
                · have e : k = 219 := by omega
                  subst e; exact okP_219
                · rcases Nat.lt_or_ge k 221 with q | q
                  · have e : k = 220 := by omega
                    subst e; exact okP_220
                  · have e : k = 221 := by omega
                    subst e; exact okP_221
        · rcases Nat.lt_or_ge k 230 with q | q
          · rcases Nat.lt_or_ge k 226 with q | q
            · rcases Nat.lt_or_ge k 224 with q | q
              · rcases Nat.lt_or_ge k 223 with q | q
                · have e : k = 222 := by omega
                  subst e; exact okP_222
                · have e : k = 223 := by omega
                  subst e; exact okP_223
              · rcases Nat.lt_or_ge k 225 with q | q
                · have e : k = 224 := by omega
                  subst e; exact okP_224
                · have e : k = 225 := by omega
                  subst e; exact okP_225
            · rcases Nat.lt_or_ge k 228 with q | q
              · rcases Nat.lt_or_ge k 227 with q | q
                · have e : k = 226 := by omega
                  subst e; exact okP_226
                · have e : k = 227 := by omega
                  subst e; exact okP_227
              · rcases Nat.lt_or_ge k 229 with q | q
                · have e : k = 228 := by omega
                  subst e; exact okP_228
                · have e : k = 229 := by omega
                  subst e; exact okP_229
          · rcases Nat.lt_or_ge k 234 with q | q
            · rcases Nat.lt_or_ge k 232 with q | q
              · rcases Nat.lt_or_ge k 231 with q | q
                · have e : k = 230 := by omega
                  subst e; exact okP_230
                · have e : k = 231 := by omega
                  subst e; exact okP_231
              · rcases Nat.lt_or_ge k 233 with q | q
                · have e : k = 232 := by omega
                  subst e; exact okP_232
                · have e : k = 233 := by omega
                  subst e; exact okP_233
            · rcases Nat.lt_or_ge k 236 with q | q
              · rcases Nat.lt_or_ge k 235 with q | q
                · have e : k = 234 := by omega
                  subst e; exact okP_234
                · have e : k = 235 := by omega
                  subst e; exact okP_235
              · rcases Nat.lt_or_ge k 237 with q | q
                · have e : k = 236 := by omega
                  subst e; exact okP_236
                · rcases Nat.lt_or_ge k 238 with q | q
                  · have e : k = 237 := by omega
                    subst e; exact okP_237
                  · have e : k = 238 := by omega
                    subst e; exact okP_238
      · rcases Nat.lt_or_ge k 256 with q | q
        · rcases Nat.lt_or_ge k 247 with q | q
          · rcases Nat.lt_or_ge k 243 with q | q
            · rcases Nat.lt_or_ge k 241 with q | q
              · rcases Nat.lt_or_ge k 240 with q | q
                · have e : k = 239 := by omega
                  subst e; exact okP_239
                · have e : k = 240 := by omega
                  subst e; exact okP_240
              · rcases Nat.lt_or_ge k 242 with q | q
                · have e : k = 241 := by omega
                  subst e; exact okP_241
                · have e : k = 242 := by omega
                  subst e; exact okP_242
            · rcases Nat.lt_or_ge k 245 with q | q
              · rcases Nat.lt_or_ge k 244 with q | q
                · have e : k = 243 := by omega
                  subst e; exact okP_243
                · have e : k = 244 := by omega
                  subst e; exact okP_244
              · rcases Nat.lt_or_ge k 246 with q | q
                · have e : k = 245 := by omega
                  subst e; exact okP_245
                · have e : k = 246 := by omega
                  subst e; exact okP_246
          · rcases Nat.lt_or_ge k 251 with q | q
            · rcases Nat.lt_or_ge k 249 with q | q
              · rcases Nat.lt_or_ge k 248 with q | q
                · have e : k = 247 := by omega
                  subst e; exact okP_247
                · have e : k = 248 := by omega
                  subst e; exact okP_248
              · rcases Nat.lt_or_ge k 250 with q | q
                · have e : k = 249 := by omega
                  subst e; exact okP_249
                · have e : k = 250 := by omega
                  subst e; exact okP_250
            · rcases Nat.lt_or_ge k 253 with q | q
              · rcases Nat.lt_or_ge k 252 with q | q
                · have e : k = 251 := by omega
                  subst e; exact okP_251
                · have e : k = 252 := by omega
                  subst e; exact okP_252
              · rcases Nat.lt_or_ge k 254 with q | q
                · have e : k = 253 := by omega
                  subst e; exact okP_253
                · rcases Nat.lt_or_ge k 255 with q | q
                  · have e : k = 254 := by omega
                    subst e; exact okP_254
                  · have e : k = 255 := by omega
                    subst e; exact okP_255
        · rcases Nat.lt_or_ge k 265 with q | q
          · rcases Nat.lt_or_ge k 260 with q | q
            · rcases Nat.lt_or_ge k 258 with q | q
              · rcases Nat.lt_or_ge k 257 with q | q
                · have e : k = 256 := by omega
                  subst e; exact okP_256
                · have e : k = 257 := by omega
                  subst e; exact okP_257
              · rcases Nat.lt_or_ge k 259 with q | q
                · have e : k = 258 := by omega
                  subst e; exact okP_258
                · have e : k = 259 := by omega
                  subst e; exact okP_259
            · rcases Nat.lt_or_ge k 262 with q | q
              · rcases Nat.lt_or_ge k 261 with q | q
                · have e : k = 260 := by omega
                  subst e; exact absurd hp (by decide)
                · have e : k = 261 := by omega
                  subst e; exact absurd hp (by decide)
              · rcases Nat.lt_or_ge k 263 with q | q
                · have e : k = 262 := by omega
                  subst e; exact absurd hp (by decide)
                · rcases Nat.lt_or_ge k 264 with q | q
                  · have e : k = 263 := by omega
                    subst e; exact absurd hp (by decide)
                  · have e : k = 264 := by omega
                    subst e; exact okP_264
          · rcases Nat.lt_or_ge k 269 with q | q
            · rcases Nat.lt_or_ge k 267 with q | q
              · rcases Nat.lt_or_ge k 266 with q | q
                · have e : k = 265 := by omega
                  subst e; exact okP_265
                · have e : k = 266 := by omega
                  subst e; exact okP_266
              · rcases Nat.lt_or_ge k 268 with q | q
                · have e : k = 267 := by omega
                  subst e; exact okP_267
                · have e : k = 268 := by omega
                  subst e; exact okP_268
            · rcases Nat.lt_or_ge k 271 with q | q
              · rcases Nat.lt_or_ge k 270 with q | q
                · have e : k = 269 := by omega
                  subst e; exact okP_269
                · have e : k = 270 := by omega
                  subst e; exact okP_270
              · rcases Nat.lt_or_ge k 272 with q | q
                · have e : k = 271 := by omega
                  subst e; exact okP_271
                · rcases Nat.lt_or_ge k 273 with q | q
                  · have e : k = 272 := by omega
                    subst e; exact okP_272
                  · have e : k = 273 := by omega
                    subst e; exact okP_273
