theorem mAO_use {A : Array Value} {U : State} (h : (Cond.arrayOver (.array .int)).before #[] U = true) : (Cond.arrayOver (.array .int)).before A U = true := h
theorem mv_dflt (B : Nat) (X : Nat → Nat) (ty : FieldType) : mv B X (defaultValue ty) = defaultValue ty := by cases ty <;> rfl
theorem pgDf_len {ci : Nat} {C : String} {T : u_T} {N : Nat} (h : vwCl[ci]? = some (C, T, N)) : (pgDf ci).length = N := by
  unfold pgDf
  rw [h]
  simp
theorem pgDf_at {ci : Nat} {C : String} {T : u_T} {N : Nat} (h : vwCl[ci]? = some (C, T, N)) (B : Nat) (X : Nat → Nat) (j : Nat) (hj : j < N) : defaultValue (m_fty ci j) = vp_V ((pgDf ci).map (mv B X)) j := by
  unfold pgDf vp_V
  rw [h, List.getD_eq_getElem?_getD, List.getElem?_map, List.getElem?_map, List.getElem?_range hj]
  show _ = mv B X (defaultValue _)
  rw [mv_dflt]
  rfl
section RW4
variable {p : Program} {l : Launch} {e : Env} {R : Room} {s : State} {m : MethodId} {args : Array Value} {below : List Frame} {meth : Method} {c : Code} {H : Heap} {locs : List Loc} {cells slots : Nat} {Q : State → Prop}
variable {pc : Nat} {ls : Array Slot} {B L mid : Nat} {xs : Nat → Int32} {X : Nat → Nat} {dT : Nat → ClassId} {D : va_G} {w : mWd} {rest : List Value}
theorem r_new (F : mFr p s m meth c mid B L xs X dT D) (hok : mOK B X dT D w H) (hS : va_S (fun q : Nat => B ≤ q) s.heap H locs) {ix ci : Nat} (hcl : ∀ C T N, vwCl[ci]? = some (C, T, N) → Cond.classLink (pgO.getD (pgOw mid) "") ix C ∈ lw_tbl) (hk : Nat.blt ci 13 = true) (hcells : cells + 1 ≤ R.cells) (hslots : slots + (pgDf ci).length ≤ R.slots) (hdg : decode (pgB mid) pc = .ok (.new ix, 3))
    (kk : ∀ (H1 : Heap), mOK B X dT D (w ++ [.inr (ci, pgDf ci)]) H1 → va_S (fun q : Nat => B ≤ q) s.heap H1 locs → W p l e R s m args below meth c H1 locs (cells + 1) (slots + (pgDf ci).length) Q (F0 m (pc + 3) ls (.ref (B + w.length) :: rest))) : W p l e R s m args below meth c H locs cells slots Q (F0 m pc ls rest) := by
  obtain ⟨hx, hb, -, -, -, hown, -, G, Nw, K, -⟩ := F
  cases hc : vwCl[ci]? with
  | none =>
    rw [List.getElem?_eq_none_iff] at hc
    exact absurd (Nat.le_of_ble_eq_true hk) (by have : vwCl.length = 13 := rfl; omega)
  | some q =>
    obtain ⟨C, T, N⟩ := q
    have hm := hcl C T N hc
    obtain ⟨hlay, hins, hini⟩ := pgLay_ok hc
    have hts : ∀ w ∈ u_ws C T N, w.before args s = true := fun w hw => by
      obtain ⟨k, -, rfl⟩ := List.mem_map.mp hw
      exact G _ (hlay _ hw) (m_layg C T k) _
    have hln := pgDf_len hc
    rw [hln] at hslots kk
    have hKn := K.1 ci _ hc
    refine W.newcK hx hb hown (G _ hm rfl _) (G _ hins rfl _) (G _ hini rfl _) rfl hdg hcells hslots hKn.2.1 hok.1 fun H1 kC hkC e1 z1 o1 => ?_
    rw [← hok.1] at z1 o1
    refine kk H1 (hok.push ?_ z1 o1) (mS_push hS z1 o1)
    exact ⟨_, hc, (u_born (m_fty ci) hts (fun _ h => h) hKn hkC e1 (pgTy_ok hc).1).to (fun j hj => pgDf_at hc B X j hj)⟩
theorem r_newa (F : mFr p s m meth c mid B L xs X dT D) (hok : mOK B X dT D w H) (hS : va_S (fun q : Nat => B ≤ q) s.heap H locs) {t : Nat} {a : ArrayType} {x : Int32} {ce : mE} (hta : (t = 0 ∧ a = .int) ∨ (t = 1 ∧ a = .boolean) ∨ (t = 2 ∧ a = .long)) (hn : ¬ x < 0) (hle : x.toNatClampNeg ≤ 100000) (hce : m_arr t x.toNatClampNeg = some ce) (hcells : cells + 1 ≤ R.cells) (hslots : slots + m_sz ce ≤ R.slots) (hdg : decode (pgB mid) pc = .ok (.newarray a, 2))
    (kk : ∀ (H1 : Heap), mOK B X dT D (w ++ [ce]) H1 → va_S (fun q : Nat => B ≤ q) s.heap H1 locs → W p l e R s m args below meth c H1 locs (cells + 1) (slots + m_sz ce) Q (F0 m (pc + 2) ls (.ref (B + w.length) :: rest))) : W p l e R s m args below meth c H locs cells slots Q (F0 m pc ls (.int x :: rest)) := by
  obtain ⟨hx, hb, -, -, -, hown, -, G, Nw, K, -⟩ := F
  rcases hta with ⟨rfl, rfl⟩ | ⟨rfl, rfl⟩ | ⟨rfl, rfl⟩
  · cases hce
    refine va_newaK (atype := .int) hx hb (G _ aw_int rfl _) rfl hdg rfl hn rfl (by show x.toNatClampNeg * 4 ≤ _; omega) hcells hslots hok.1 fun H1 cA e1 z1 o1 hA hnm => ?_
    rw [← hok.1] at z1 o1
    have hcA : cA = dT 0 := Option.some.inj (hnm.symm.trans (show s.vm.findClass ("[" ++ (FieldType.int).toString) = some (dT 0) from (K.2 0 _ rfl).2))
    subst hcA
    exact kk H1 (hok.push (by show H1[_]? = some (vp_cell _ _); rw [vp_cell_i]; exact e1) z1 o1) (mS_push hS z1 o1)
  · cases hce
    refine va_newaK (atype := .boolean) hx hb (G _ aw_bool rfl _) rfl hdg rfl hn rfl (by show x.toNatClampNeg * 1 ≤ _; omega) hcells hslots hok.1 fun H1 cA e1 z1 o1 hA hnm => ?_
    rw [← hok.1] at z1 o1
    have hcA : cA = dT 1 := Option.some.inj (hnm.symm.trans (show s.vm.findClass ("[" ++ (FieldType.boolean).toString) = some (dT 1) from (K.2 1 _ rfl).2))
    subst hcA
    exact kk H1 (hok.push (by show H1[_]? = some (vp_cell _ _); rw [vp_cell_i]; exact e1) z1 o1) (mS_push hS z1 o1)
  · cases hce
    refine va_newaK (atype := .long) hx hb (G _ aw_long rfl _) rfl hdg rfl hn rfl (by show x.toNatClampNeg * 8 ≤ _; omega) hcells hslots hok.1 fun H1 cA e1 z1 o1 hA hnm => ?_
    rw [← hok.1] at z1 o1
    have hcA : cA = dT 2 := Option.some.inj (hnm.symm.trans (show s.vm.findClass ("[" ++ (FieldType.long).toString) = some (dT 2) from (K.2 2 _ rfl).2))
    subst hcA
    exact kk H1 (hok.push (by show H1[_]? = some (vp_cell _ _); rw [vp_cell_l]; exact e1) z1 o1) (mS_push hS z1 o1)
theorem r_anew (F : mFr p s m meth c mid B L xs X dT D) (hok : mOK B X dT D w H) (hS : va_S (fun q : Nat => B ≤ q) s.heap H locs) {ix t : Nat} {b : Int} {x : Int32} {ce : mE} (hr : pgRs mid ix = some (14, t, b)) (ht : t = 3 ∨ t = 4) (hn : ¬ x < 0) (hle : x.toNatClampNeg ≤ 100000) (hce : m_arr t x.toNatClampNeg = some ce) (hcells : cells + 1 ≤ R.cells) (hslots : slots + m_sz ce ≤ R.slots) (hdg : decode (pgB mid) pc = .ok (.anewarray ix, 3))
    (kk : ∀ (H1 : Heap), mOK B X dT D (w ++ [ce]) H1 → va_S (fun q : Nat => B ≤ q) s.heap H1 locs → W p l e R s m args below meth c H1 locs (cells + 1) (slots + m_sz ce) Q (F0 m (pc + 3) ls (.ref (B + w.length) :: rest))) : W p l e R s m args below meth c H locs cells slots Q (F0 m pc ls (.int x :: rest)) := by
  obtain ⟨hx, hb, -, -, -, hown, -, G, Nw, K, -, hAO, hAA, -⟩ := F
  obtain ⟨hm, hk⟩ := pgRs_ok hr
  simp only [pgW] at hm
  have fin : ∀ (cA : ClassId) (H1 : Heap), H.push ({ cls := cA, slots := Array.replicate x.toNatClampNeg .null, vm := .none } : Cell) = H1 → H1.size = H.size + 1 ∧ H1[B + w.length]? = some (arrV cA x.toNatClampNeg (fun _ => .null)) ∧ ∀ q : Nat, q < H.size → H1[q]? = H[q]? := by
    intro cA H1 hH1
    refine ⟨by rw [← hH1, Array.size_push], by rw [← hok.1, ← hH1, Array.getElem?_push_size, ← arrV_new], fun q hq => by rw [← hH1, Array.getElem?_push, if_neg (Nat.ne_of_lt hq)]⟩
  rcases ht with rfl | rfl
  · cases hce
    refine W.anew (C := "ReelBack$Cost") hx hb hown (G _ hm rfl _) (va_AO.use hAO) rfl hdg rfl hn (by omega) hcells hslots fun cA kA comp f1 f2 f3 f4 => ?_
    obtain ⟨kA', comp', g1, g2, g3, g4⟩ := (K.2 3 _ rfl).2
    have hcA : cA = dT 3 := Option.some.inj (f1.symm.trans g4)
    subst hcA
    generalize hH1 : H.push ({ cls := dT 3, slots := Array.replicate x.toNatClampNeg .null, vm := .none } : Cell) = H1
    obtain ⟨z1, e1, o1⟩ := fin _ H1 hH1
    rw [hok.1]
    exact kk H1 (hok.push (by show H1[_]? = some (vp_cell _ _); rw [vp_cell_q]; exact e1) z1 o1) (mS_push hS z1 o1)
  · cases hce
    refine W.anewA (t := .int) hx hb hown (G _ hm rfl _) (mAO_use hAA) rfl hdg rfl hn (by omega) hcells hslots fun cA kA comp f1 f2 f3 f4 => ?_
    have hcA : cA = dT 4 := Option.some.inj (f1.symm.trans (show s.vm.findClass ("[" ++ (FieldType.array .int).toString) = some (dT 4) from (K.2 4 _ rfl).2))
    subst hcA
    generalize hH1 : H.push ({ cls := dT 4, slots := Array.replicate x.toNatClampNeg .null, vm := .none } : Cell) = H1
    obtain ⟨z1, e1, o1⟩ := fin _ H1 hH1
    rw [hok.1]
    exact kk H1 (hok.push (by show H1[_]? = some (vp_cell _ _); rw [vp_cell_q]; exact e1) z1 o1) (mS_push hS z1 o1)
end RW4
