section RW5
variable {p : Program} {l : Launch} {e : Env} {R : Room} {s : State} {m : MethodId} {args : Array Value} {below : List Frame} {meth : Method} {c : Code} {H : Heap} {locs : List Loc} {cells slots : Nat} {Q : State → Prop}
variable {pc : Nat} {ls : Array Slot} {B L mid : Nat} {xs : Nat → Int32} {X : Nat → Nat} {dT : Nat → ClassId} {D : va_G} {w : mWd} {rest : List Value}
theorem r_clone (F : mFr p s m meth c mid B L xs X dT D) (hok : mOK B X dT D w H) (hS : va_S (fun q : Nat => B ≤ q) s.heap H locs) (hml : ls.size = pgL mid) {ix i n : Nat} {y : Nat} {b : Int} {f : Nat → Int32} (hr : pgRs mid ix = some (11, y, b)) (hw : w[i]? = some (.inl (0, n, .inl f))) (hcat : (rest.map fun v => v.category).sum ≤ 8) (hfr : 1 ≤ R.frames) (hlo : 100 ≤ R.locals) (hcells : cells + 1 ≤ R.cells) (hslots : slots + n ≤ R.slots) (hdg : decode (pgB mid) pc = .ok (.invokevirtual ix, 3))
    (kk : ∀ (H1 : Heap), mOK B X dT D (w ++ [.inl (0, n, .inl f)]) H1 → va_S (fun q : Nat => B ≤ q) s.heap H1 locs → W p l e R s m args below meth c H1 locs (cells + 1) (slots + n) Q (F0 m (pc + 3) ls (.ref (B + w.length) :: rest))) : W p l e R s m args below meth c H locs cells slots Q (F0 m pc ls (.ref (B + i) :: rest)) := by
  obtain ⟨hx, hb, hmL, -, -, hown, -, G, Nw, K, -, -, -, hcl, -⟩ := F
  obtain ⟨hm, hk⟩ := pgRs_ok hr
  simp only [pgW] at hm
  have hsz : (vp_cell (dT 0) (n, .inl f)).slots.size = n := arrV_size _ _ _
  have hnm : s.vm.findClass "[I" = some (dT 0) := (K.2 0 _ rfl).2
  obtain ⟨c0, t0', f1, f2, f3⟩ := Cond.castable_spec (va_Nw.use (A := args) rfl hcl)
  cases hnm.symm.trans f1
  intro T hT X1
  have hcellT : T.heap[B + i]? = some (vp_cell (dT 0) (n, .inl f)) := by rw [hT]; exact hok.2 i _ (mZ_at hw)
  obtain ⟨-, kA, hkA, comp, hkind⟩ := State.isArrayOf_alike X1.warmed.alike ((K.2 0 _ rfl).1 0 (fun _ => .null))
  obtain ⟨-, kS, hkS, compS, hkindS⟩ := (K.2 0 _ rfl).1 0 (fun _ => .null)
  obtain ⟨vm', X', st⟩ := X1.cloneArray hx hown (G _ hm rfl _) (G _ aw_cs rfl _) (G _ aw_cn rfl _) (G _ aw_ci rfl _) (G _ aw_cl rfl _) (a := B + i) (cell := vp_cell (dT 0) (n, .inl f)) hcellT (fun k h => by cases h) (fun h => by cases h) hnm f2 f3
    (fun i v hv => by
      have hk' : T.vm.classes[dT 0]? = some kA := hkA
      have hvi : ∃ z : Int32, v = .int z := by
        have hlt := (Array.getElem?_eq_some_iff.mp hv).1
        rw [hsz] at hlt
        rw [vp_cell_i, arrV_read _ _ hlt] at hv
        cases hv
        exact ⟨_, rfl⟩
      obtain ⟨z, rfl⟩ := hvi
      simp [State.fitsSlot, State.slotType?, vp_cell, arrV, hk', hkind, fits])
    (g := F0 m pc ls (.ref (B + i) :: rest)) rfl (by rw [hmL]; exact hml) rfl (by rw [hb]; exact hdg) hfr (by show 2 * 0 + _ + 14 ≤ _; omega) hcells (by rw [hsz]; exact hslots) (hloader := Vm.clonesLoader_of_array hkS hkindS)
  rw [show ({ cls := (vp_cell (dT 0) (n, .inl f)).cls, slots := (vp_cell (dT 0) (n, .inl f)).slots } : Cell) = vp_cell (dT 0) (n, .inl f) from rfl, hsz] at X'
  generalize hH1 : H.push (vp_cell (dT 0) (n, .inl f)) = H1
  have z1 : H1.size = H.size + 1 := by rw [← hH1, Array.size_push]
  have e1 : H1[B + w.length]? = some (vp_cell (dT 0) (n, .inl f)) := by rw [← hok.1, ← hH1, Array.getElem?_push_size]
  have o1 : ∀ q : Nat, q < H.size → H1[q]? = H[q]? := fun q hq => by rw [← hH1, Array.getElem?_push, if_neg (Nat.ne_of_lt hq)]
  obtain ⟨t, b1, b2⟩ := kk H1 (hok.push e1 z1 o1) (mS_push hS z1 o1) ((T.setVm vm').pushCell (vp_cell (dT 0) (n, .inl f))) (by rw [← hH1, ← hT]; rfl) X'
  refine ⟨t, st t ?_, b2⟩
  rw [hT, hok.1]
  exact b1
theorem r_copy (F : mFr p s m meth c mid B L xs X dT D) (hok : mOK B X dT D w H) (hS : va_S (fun q : Nat => B ≤ q) s.heap H locs) (hml : ls.size = pgL mid) {ix i d : Nat} {y : Nat} {b : Int} {ca cd ce : mE} {sp dp n : Int32} (hr : pgRs mid ix = some (12, y, b)) (ha : w[i]? = some ca) (hd : w[d]? = some cd) (hce : m_copy ca cd sp dp n = some ce) (hcat : (rest.map fun v => v.category).sum ≤ 8) (hfr : 1 ≤ R.frames) (hlo : 100 ≤ R.locals) (hdg : decode (pgB mid) pc = .ok (.invokestatic ix, 3))
    (kk : ∀ (H1 : Heap) (locs1 : List Loc), mOK B X dT D (w.set d ce) H1 → va_S (fun q : Nat => B ≤ q) s.heap H1 locs1 → m_sl (w.set d ce) = m_sl w → W p l e R s m args below meth c H1 locs1 cells slots Q (F0 m (pc + 3) ls rest)) : W p l e R s m args below meth c H locs cells slots Q (F0 m pc ls (.int n :: .int dp :: .ref (B + d) :: .int sp :: .ref (B + i) :: rest)) := by
  obtain ⟨hx, hb, hmL, -, -, hown, -, G, Nw, K, -⟩ := F
  obtain ⟨hm, hk⟩ := pgRs_ok hr
  simp only [pgW] at hm
  unfold m_copy at hce
  split at hce
  next t n0 f u n1 g =>
    split at hce
    next hc =>
      obtain ⟨rfl, rfl, h1, h2, h3, h4, h5⟩ := hc
      cases hce
      have nn : ∀ z : Int32, ¬ z < 0 → z.toInt = (z.toNatClampNeg : Int) := by
        intro z hz
        have hz0 : (0 : Int) ≤ z.toInt := by
          have := Int32.not_lt.mp hz
          simpa using Int32.le_iff_toInt_le.mp this
        show z.toInt = ((z.toInt.toNat : Nat) : Int)
        omega
      have hnw : nativeFrameWords "java/lang/System" "arraycopy" 5 ≤ 60 := by decide +kernel
      intro T hT X1
      have hc0 : H[B + i]? = some (vp_cell (dT 0) (n0, .inl f)) := hok.2 i _ (mZ_at ha)
      have hc1 : H[B + d]? = some (vp_cell (dT 0) (n1, .inl g)) := hok.2 d _ (mZ_at hd)
      obtain ⟨-, k0, hk0, cm0, hkk0⟩ := (K.2 0 _ rfl).1 n0 (fun j => .int (f j))
      obtain ⟨-, k1, hk1, cm1, hkk1⟩ := (K.2 0 _ rfl).1 n1 (fun j => .int (g j))
      obtain ⟨vm', X', step⟩ := X1.arraycopy hx hown (G _ hm rfl _) (G _ aw_an rfl _) (G _ aw_as rfl _) (G _ aw_ai rfl _) (src := B + i) (dst := B + d) (cs := vp_cell (dT 0) (n0, .inl f)) (cd := vp_cell (dT 0) (n1, .inl g)) (srcPos := sp) (destPos := dp) (n := n) (by rw [hT]; exact hc0) (by rw [hT]; exact hc1)
        (fun _ h => by cases h) (fun _ h => by cases h) (fun h => by cases h) (fun h => by cases h) hk0 hk1 hkk0 hkk1 (by simp [refKind]) h1 h2 h3
        (by rw [nn sp h1, nn n h3]; show ¬ _ > ((arrV (dT 0) n0 (fun j => .int (f j))).slots.size : Int); rw [arrV_size]; omega)
        (by rw [nn dp h2, nn n h3]; show ¬ _ > ((arrV (dT 0) n1 (fun j => .int (g j))).slots.size : Int); rw [arrV_size]; omega)
        (fun vm₁ _ i hi => by
          have e : (vp_cell (dT 0) (n0, .inl f)).slots.getD (sp.toNatClampNeg + i) .null = .int (f (sp.toNatClampNeg + i)) := by
            show (arrV (dT 0) n0 (fun j => .int (f j))).slots.getD _ _ = _
            rw [Array.getD_eq_getD_getElem?, arrV_read _ _ (by omega)]
            rfl
          refine ⟨?_, ?_⟩
          · rw [e]
            rfl
          · rw [e]
            exact trivial)
        (g := F0 m pc ls (.int n :: .int dp :: .ref (B + d) :: .int sp :: .ref (B + i) :: rest)) rfl (by rw [hmL]; exact hml) (rest := rest) rfl (by rw [hb]; exact hdg) hfr (by show 2 * 0 + _ + _ ≤ _; omega)
      have e1 : copied (vp_cell (dT 0) (n0, .inl f)) (vp_cell (dT 0) (n1, .inl g)) sp dp n = vp_cell (dT 0) (n1, .inl (va_cpy f g sp.toNatClampNeg dp.toNatClampNeg n.toNatClampNeg)) := va_copied (fun z => .int z) (dT 0) (dT 0) f g h4
      rw [e1] at X' step
      have hl : B + d < H.size := (Array.getElem?_eq_some_iff.mp hc1).1
      have hheap : ((T.setVm vm').setCell (B + d) (vp_cell (dT 0) (n1, .inl (va_cpy f g sp.toNatClampNeg dp.toNatClampNeg n.toNatClampNeg)))).heap = H.setIfInBounds (B + d) (vp_cell (dT 0) (n1, .inl (va_cpy f g sp.toNatClampNeg dp.toNatClampNeg n.toNatClampNeg))) := by rw [← hT]; rfl
      have oq : ∀ q : Nat, q ≠ B + d → (H.setIfInBounds (B + d) (vp_cell (dT 0) (n1, .inl (va_cpy f g sp.toNatClampNeg dp.toNatClampNeg n.toNatClampNeg))))[q]? = H[q]? := fun q hq => by simp [Array.getElem?_setIfInBounds, Ne.symm hq]
      obtain ⟨t, a1, b1⟩ := kk _ _ (hok.set hd (show (H.setIfInBounds (B + d) _)[B + d]? = some _ by simp [Array.getElem?_setIfInBounds, hl]) (by simp) oq) ⟨by simp; exact hS.1, fun q g1 g2 => by
          rw [oq q (fun e => g2 (by rw [e]; exact Nat.le_add_right B d))]
          exact hS.2.1 q g1 g2, fun q hq => by
          rcases List.mem_append.mp hq with h | h
          · exact hS.2.2 q h
          · obtain ⟨z, -, hz⟩ := List.mem_map.mp h
            rw [← hz]
            exact Nat.le_add_right B d⟩ (m_sl_set hd rfl) _ hheap X'
      exact ⟨t, step t a1, b1⟩
    next => cases hce
  next => cases hce
theorem r_gets (F : mFr p s m meth c mid B L xs X dT D) (hS : va_S (fun q : Nat => B ≤ q) s.heap H locs) {ix a : Nat} {b : Int} (hr : pgRs mid ix = some (2, a, b)) (hdg : decode (pgB mid) pc = .ok (.getstatic ix, 3))
    (kk : W p l e R s m args below meth c H locs cells slots Q (F0 m (pc + 3) ls (.ref (X a) :: rest))) : W p l e R s m args below meth c H locs cells slots Q (F0 m pc ls rest) := by
  obtain ⟨hx, hb, -, -, -, hown, -, G, Nw, K, E, -⟩ := F
  obtain ⟨hm, hk⟩ := pgRs_ok hr
  simp only [pgW, pgKd, Bool.and_eq_true] at hm hk
  exact va_gets hx hb (E.2.1 a (Nat.le_of_ble_eq_true hk.1) (Nat.le_of_ble_eq_true hk.2)) hS hown (G _ hm rfl _) (fun _ h => h) hdg kk
theorem r_getz (F : mFr p s m meth c mid B L xs X dT D) (hS : va_S (fun q : Nat => B ≤ q) s.heap H locs) {ix a : Nat} {b : Int} (hr : pgRs mid ix = some (3, a, b)) (hdg : decode (pgB mid) pc = .ok (.getstatic ix, 3))
    (kk : W p l e R s m args below meth c H locs cells slots Q (F0 m (pc + 3) ls (.int (Int32.ofInt b) :: rest))) : W p l e R s m args below meth c H locs cells slots Q (F0 m pc ls rest) := by
  obtain ⟨hx, hb, -, -, -, hown, -, G, Nw, K, E, -⟩ := F
  obtain ⟨hm, hk⟩ := pgRs_ok hr
  simp only [pgW, pgKd, decide_eq_true_eq] at hm hk
  subst hk
  exact va_gets hx hb E.2.2.1 hS hown (G _ hm rfl _) (fun _ h => h) hdg kk
end RW5
section RW5b
variable {p : Program} {l : Launch} {e : Env} {R : Room} {s : State} {m : MethodId} {args : Array Value} {below : List Frame} {meth : Method} {c : Code} {H : Heap} {locs : List Loc} {cells slots : Nat} {Q : State → Prop}
variable {pc : Nat} {ls : Array Slot} {B L mid : Nat} {xs : Nat → Int32} {X : Nat → Nat} {dT : Nat → ClassId} {D : va_G}
theorem r_math (F : mFr p s m meth c mid B L xs X dT D) {ix y : Nat} {b : Int} {st st' : List Value} (hr : pgRs mid ix = some (4, y, b)) (h : m_math y st = some st') (hls : ls.size = pgL mid) (hfr : 1 ≤ R.frames) (hlo : 100 ≤ R.locals) (hcells : cells + 0 ≤ R.cells) (hslots : slots + 0 ≤ R.slots) (hdg : decode (pgB mid) pc = .ok (.invokestatic ix, 3))
    (kk : W p l e R s m args below meth c H locs cells slots Q (F0 m (pc + 3) ls (st'.map (mv B X)))) : W p l e R s m args below meth c H locs cells slots Q (F0 m pc ls (st.map (mv B X))) := by
  obtain ⟨hx, hb, hmL, -, -, hown, -, G, Nw, K, -⟩ := F
  obtain ⟨hm, hk⟩ := pgRs_ok hr
  simp only [pgW] at hm
  have hwr : ∀ r : List Value, m_cat r ≤ 8 → ((r.map (mv B X)).map fun v => v.category).sum ≤ 8 := fun r h => by rw [m_cat_map]; exact h
  unfold m_math at h
  split at h
  next bb a r =>
    split at h
    next hc =>
      cases h
      have := hwr _ hc
      exact va_mmax hx hb (hmL.trans hls.symm) hown (G _ (by rw [aw_n261] at hm; exact hm) rfl _) (G _ aw_s261 rfl _) (G _ aw_im rfl _) (G _ aw_c261 rfl _) hfr (by omega) hcells hslots hdg kk
    next => cases h
  next bb a r =>
    split at h
    next hc =>
      cases h
      have := hwr _ hc
      exact va_mmin hx hb (hmL.trans hls.symm) hown (G _ (by rw [aw_n262] at hm; exact hm) rfl _) (G _ aw_s262 rfl _) (G _ aw_im rfl _) (G _ aw_c262 rfl _) hfr (by omega) hcells hslots hdg kk
    next => cases h
  next a r =>
    split at h
    next hc =>
      cases h
      have := hwr _ hc
      exact va_mabs hx hb (hmL.trans hls.symm) hown (G _ (by rw [aw_n260] at hm; exact hm) rfl _) (G _ aw_s260 rfl _) (G _ aw_im rfl _) (G _ aw_c260 rfl _) hfr (by omega) hcells hslots hdg kk
    next => cases h
  next bb a r =>
    split at h
    next hc =>
      cases h
      have := hwr _ hc
      exact va_mmin_long hx hb (hmL.trans hls.symm) hown (G _ (by rw [aw_n263] at hm; exact hm) rfl _) (G _ aw_s263 rfl _) (G _ aw_im rfl _) (G _ aw_c263 rfl _) hfr (by omega) hcells hslots hdg kk
    next => cases h
  next => cases h
end RW5b
