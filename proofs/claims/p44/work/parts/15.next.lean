/-! EACH STEP -/
def mNext (B L : Nat) (xs : Nat → Int32) (X : Nat → Nat) (dT : Nat → ClassId) (D : va_G) (mid pc : Nat) (lv : mL) (st : List Value) (w : mWd) (pc' : Nat) (lv' : mL) (st' : List Value) (w1 : mWd) : Prop :=
  ∃ dc ds : Nat, w1.length = w.length + dc ∧ m_sl w1 = m_sl w + ds ∧ ∀ (p : Program) (l : Launch) (e : Env) (R : Room) (s : State) (m : MethodId) (args : Array Value) (below : List Frame) (meth : Method) (c : Code) (H : Heap) (locs : List Loc) (cells slots : Nat) (Q : State → Prop) (ls : Array Slot),
    mFr p s m meth c mid B L xs X dT D → 1 ≤ R.frames → 100 ≤ R.locals → cells + dc ≤ R.cells → slots + ds ≤ R.slots → mOK B X dT D w H → va_S (fun q : Nat => B ≤ q) s.heap H locs → lv_has ls (pgL mid) (mlv B X lv) →
    (∀ (H1 : Heap) (locs1 : List Loc) (ls1 : Array Slot), mOK B X dT D w1 H1 → va_S (fun q : Nat => B ≤ q) s.heap H1 locs1 → lv_has ls1 (pgL mid) (mlv B X lv') → W p l e R s m args below meth c H1 locs1 (cells + dc) (slots + ds) Q (F0 m pc' ls1 (st'.map (mv B X)))) → W p l e R s m args below meth c H locs cells slots Q (F0 m pc ls (st.map (mv B X)))
section NX
variable {pc n : Nat} {B L mid : Nat} {xs : Nat → Int32} {X : Nat → Nat} {dT : Nat → ClassId} {D : va_G} {w w1 : mWd} {lv lv' : mL} {st st' : List Value} {pc' ix : Nat}
theorem mn_pure {ins : Instr} (hdg : decode (pgB mid) pc = .ok (ins, m_len ins n)) (h : (match m_pure (pgL mid) ins pc lv st with | some (pc', l', st') => mNx pc' l' st' w | none => none) = some (.inl (pc', lv', st', w1))) : mNext B L xs X dT D mid pc lv st w pc' lv' st' w1 := by
  split at h
  next q1 q2 q3 hq =>
    cases h
    exact ⟨0, 0, rfl, rfl, fun p l e R s m args below meth c H locs cells slots Q ls F _ _ _ _ hok hS hl kk => m_pure_ok F.1 F.2.1 hdg hl hq (fun ls1 h1 => kk H locs ls1 hok hS h1)⟩
  next => cases h
theorem mn_getf {ci i : Nat} {k : Int} {r : List Value} (hr : pgRs mid ix = some (0, ci, k) ∨ pgRs mid ix = some (1, ci, k)) (hdg : decode (pgB mid) pc = .ok (.getfield ix, 3)) (h : m_getf ci k.toNat i pc lv r w = some (.inl (pc', lv', st', w1))) : mNext B L xs X dT D mid pc lv (.ref i :: r) w pc' lv' st' w1 := by
  unfold m_getf at h
  split at h
  next cj fs hw =>
    split at h
    next hc =>
      subst hc
      split at h
      next v hv =>
        cases h
        exact ⟨0, 0, rfl, rfl, fun p l e R s m args below meth c H locs cells slots Q ls F _ _ _ _ hok hS hl kk => r_getf F hok hr hw hv hdg (kk H locs ls hok hS hl)⟩
      next => cases h
    next => cases h
  next => cases h
theorem mn_getfield (hdg : decode (pgB mid) pc = .ok (.getfield ix, 3)) (h : m_step L xs mid pc lv st w (.getfield ix) = some (.inl (pc', lv', st', w1))) : mNext B L xs X dT D mid pc lv st w pc' lv' st' w1 := by
  simp only [m_step] at h
  split at h
  next ci k i r hr => exact mn_getf (Or.inl hr) hdg h
  next ci k i r hr => exact mn_getf (Or.inr hr) hdg h
  next a b r hr =>
    cases h
    exact ⟨0, 0, rfl, rfl, fun p l e R s m args below meth c H locs cells slots Q ls F _ _ _ _ hok hS hl kk => by
      obtain ⟨hm, -⟩ := pgRs_ok hr
      simp only [pgW] at hm
      have F' := F
      obtain ⟨hx, hb, -, -, -, hown, -, G, Nw, K, E, -⟩ := F'
      exact vk_getf hx hb E.2.2.2.2.2 hS hown (G _ hm rfl _) (fun _ h => h) hdg (kk H locs ls hok hS hl)⟩
  next a b r hr =>
    cases h
    exact ⟨0, 0, rfl, rfl, fun p l e R s m args below meth c H locs cells slots Q ls F _ _ _ _ hok hS hl kk => by
      obtain ⟨hm, -⟩ := pgRs_ok hr
      simp only [pgW] at hm
      have F' := F
      obtain ⟨hx, hb, -, -, -, hown, -, G, Nw, K, E, -⟩ := F'
      exact vk_getf hx hb E.2.2.2.2.1 hS hown (G _ hm rfl _) (fun _ h => h) hdg (kk H locs ls hok hS hl)⟩
  next => cases h
theorem mn_putf {ci i : Nat} {k : Int} {v : Value} {r : List Value} (nest : Bool) (hr : pgRs mid ix = some (if nest = true then 1 else 0, ci, k)) (hdg : decode (pgB mid) pc = .ok (.putfield ix, 3)) (h : m_putf (m_may mid ci k.toNat nest) ci k.toNat i v (m_fty ci k.toNat) pc lv r w = some (.inl (pc', lv', st', w1))) : mNext B L xs X dT D mid pc lv (v :: .ref i :: r) w pc' lv' st' w1 := by
  unfold m_putf at h
  split at h
  next cj fs hw =>
    split at h
    next hc =>
      obtain ⟨rfl, hmay, hfit, hl⟩ := hc
      cases h
      refine ⟨0, 0, by rw [List.length_set]; rfl, m_sl_set hw (by show (fs.set _ _).length = fs.length; rw [List.length_set]), fun p l e R s m args below meth c H locs cells slots Q ls F _ _ _ _ hok hS hlv kk => r_putf F hok hS hr hw hmay hfit hl hdg (fun H1 locs1 h1 h2 => kk H1 locs1 ls h1 h2 hlv)⟩
    next => cases h
  next => cases h
theorem mn_putfield (hdg : decode (pgB mid) pc = .ok (.putfield ix, 3)) (h : m_step L xs mid pc lv st w (.putfield ix) = some (.inl (pc', lv', st', w1))) : mNext B L xs X dT D mid pc lv st w pc' lv' st' w1 := by
  simp only [m_step] at h
  split at h
  next ci k v i r hr => exact mn_putf false hr hdg h
  next ci k v i r hr => exact mn_putf true hr hdg h
  next => cases h
theorem mn_getstatic (hdg : decode (pgB mid) pc = .ok (.getstatic ix, 3)) (h : m_step L xs mid pc lv st w (.getstatic ix) = some (.inl (pc', lv', st', w1))) : mNext B L xs X dT D mid pc lv st w pc' lv' st' w1 := by
  simp only [m_step] at h
  split at h
  next a b hr =>
    cases h
    exact ⟨0, 0, rfl, rfl, fun p l e R s m args below meth c H locs cells slots Q ls F _ _ _ _ hok hS hl kk => r_gets F hS hr hdg (kk H locs ls hok hS hl)⟩
  next a b hr =>
    cases h
    exact ⟨0, 0, rfl, rfl, fun p l e R s m args below meth c H locs cells slots Q ls F _ _ _ _ hok hS hl kk => r_getz F hS hr hdg (kk H locs ls hok hS hl)⟩
  next => cases h
theorem mn_ldc (hdg : decode (pgB mid) pc = .ok (.ldc ix, 2)) (h : m_step L xs mid pc lv st w (.ldc ix) = some (.inl (pc', lv', st', w1))) : mNext B L xs X dT D mid pc lv st w pc' lv' st' w1 := by
  simp only [m_step] at h
  split at h
  next a b hr =>
    cases h
    exact ⟨0, 0, rfl, rfl, fun p l e R s m args below meth c H locs cells slots Q ls F _ _ _ _ hok hS hl kk => by
      obtain ⟨hm, -⟩ := pgRs_ok hr
      simp only [pgW] at hm
      have F' := F
      obtain ⟨hx, hb, -, -, -, hown, -, G, -⟩ := F'
      exact lv_ldc hx hb hown (G _ hm rfl _) hdg (kk H locs ls hok hS hl)⟩
  next a b hr =>
    cases h
    exact ⟨0, 0, rfl, rfl, fun p l e R s m args below meth c H locs cells slots Q ls F _ _ _ _ hok hS hl kk => by
      obtain ⟨hm, hk⟩ := pgRs_ok hr
      simp only [pgW, pgKd] at hm hk
      have ha := Nat.eq_of_beq_eq_true hk
      subst ha
      have F' := F
      obtain ⟨hx, hb, -, -, -, hown, -, G, Nw, K, E, -, -, -, -, hR⟩ := F'
      obtain ⟨e1, e2⟩ := aw_str _ _ hm
      rw [e1] at hown
      subst e2
      exact va_ldcS hx hb hown hR hdg (kk H locs ls hok hS hl)⟩
  next => cases h
theorem mn_ldc_w (hdg : decode (pgB mid) pc = .ok (.ldc_w ix, 3)) (h : m_step L xs mid pc lv st w (.ldc_w ix) = some (.inl (pc', lv', st', w1))) : mNext B L xs X dT D mid pc lv st w pc' lv' st' w1 := by
  simp only [m_step] at h
  split at h
  next a b hr =>
    cases h
    exact ⟨0, 0, rfl, rfl, fun p l e R s m args below meth c H locs cells slots Q ls F _ _ _ _ hok hS hl kk => by
      obtain ⟨hm, -⟩ := pgRs_ok hr
      simp only [pgW] at hm
      have F' := F
      obtain ⟨hx, hb, -, -, -, hown, -, G, -⟩ := F'
      exact lv_ldcw hx hb hown (G _ hm rfl _) hdg (kk H locs ls hok hS hl)⟩
  next => cases h
theorem mn_ldc2_w (hdg : decode (pgB mid) pc = .ok (.ldc2_w ix, 3)) (h : m_step L xs mid pc lv st w (.ldc2_w ix) = some (.inl (pc', lv', st', w1))) : mNext B L xs X dT D mid pc lv st w pc' lv' st' w1 := by
  simp only [m_step] at h
  split at h
  next a b hr =>
    cases h
    exact ⟨0, 0, rfl, rfl, fun p l e R s m args below meth c H locs cells slots Q ls F _ _ _ _ hok hS hl kk => by
      obtain ⟨hm, -⟩ := pgRs_ok hr
      simp only [pgW] at hm
      have F' := F
      obtain ⟨hx, hb, -, -, -, hown, -, G, -⟩ := F'
      exact lv_ldc2 hx hb hown (G _ hm rfl _) hdg (kk H locs ls hok hS hl)⟩
  next => cases h
theorem mn_ald {o i : Nat} {j : Int32} {r : List Value} {ins : Instr} (ho : (o = 0 ∧ ins = .iaload) ∨ (o = 1 ∧ ins = .baload) ∨ (o = 2 ∧ ins = .laload) ∨ (o = 3 ∧ ins = .aaload)) (hdg : decode (pgB mid) pc = .ok (ins, 1)) (h : (match m_ald o i j w with | some v => mNx (pc + 1) lv (v :: r) w | none => none) = some (.inl (pc', lv', st', w1))) : mNext B L xs X dT D mid pc lv (.int j :: .ref i :: r) w pc' lv' st' w1 := by
  split at h
  next v hv =>
    cases h
    exact ⟨0, 0, rfl, rfl, fun p l e R s m args below meth c H locs cells slots Q ls F _ _ _ _ hok hS hl kk => r_ald F hok ho hv hdg (kk H locs ls hok hS hl)⟩
  next => cases h
theorem mn_xld {o k : Nat} {j : Int32} {r : List Value} {ins : Instr} (ho : (o = 0 ∧ ins = .iaload) ∨ (o = 1 ∧ ins = .baload)) (hdg : decode (pgB mid) pc = .ok (ins, 1)) (h : (match m_xld L xs o k j with | some v => mNx (pc + 1) lv (v :: r) w | none => none) = some (.inl (pc', lv', st', w1))) : mNext B L xs X dT D mid pc lv (.int j :: .retAddr k :: r) w pc' lv' st' w1 := by
  split at h
  next v hv =>
    cases h
    exact ⟨0, 0, rfl, rfl, fun p l e R s m args below meth c H locs cells slots Q ls F _ _ _ _ hok hS hl kk => r_xld F hS ho hv hdg (kk H locs ls hok hS hl)⟩
  next => cases h
theorem mn_ast {o i : Nat} {j : Int32} {v : Value} {r : List Value} {ins : Instr} (ho : (o = 0 ∧ ins = .iastore) ∨ (o = 1 ∧ ins = .bastore) ∨ (o = 2 ∧ ins = .lastore) ∨ (o = 3 ∧ ins = .aastore)) (hdg : decode (pgB mid) pc = .ok (ins, 1)) (h : (match m_ast o i j v w with | some c => mNx (pc + 1) lv r (w.set i c) | none => none) = some (.inl (pc', lv', st', w1))) : mNext B L xs X dT D mid pc lv (v :: .int j :: .ref i :: r) w pc' lv' st' w1 := by
  split at h
  next ce hc =>
    cases h
    exact ⟨0, 0, by rw [List.length_set]; rfl, m_ast_sl hc, fun p l e R s m args below meth c H locs cells slots Q ls F _ _ _ _ hok hS hl kk => r_ast F hok hS ho hc hdg (fun H1 locs1 h1 h2 _ => kk H1 locs1 ls h1 h2 hl)⟩
  next => cases h
theorem mn_len (hdg : decode (pgB mid) pc = .ok (.arraylength, 1)) (h : m_step L xs mid pc lv st w .arraylength = some (.inl (pc', lv', st', w1))) : mNext B L xs X dT D mid pc lv st w pc' lv' st' w1 := by
  simp only [m_step] at h
  split at h
  next v r =>
    split at h
    next k hk =>
      cases h
      exact ⟨0, 0, rfl, rfl, fun p l e R s m args below meth c H locs cells slots Q ls F _ _ _ _ hok hS hl kk => r_len F hok hS hk hdg (kk H locs ls hok hS hl)⟩
    next => cases h
  next => cases h
theorem mn_newarr {t : Nat} {a : ArrayType} {x : Int32} {r : List Value} (hta : (t = 0 ∧ a = .int) ∨ (t = 1 ∧ a = .boolean) ∨ (t = 2 ∧ a = .long)) (hdg : decode (pgB mid) pc = .ok (.newarray a, 2)) (h : m_new t x (pc + 2) lv r w = some (.inl (pc', lv', st', w1))) : mNext B L xs X dT D mid pc lv (.int x :: r) w pc' lv' st' w1 := by
  unfold m_new at h
  split at h
  next hc =>
    split at h
    next ce hce =>
      cases h
      exact ⟨1, m_sz ce, by rw [List.length_append]; rfl, m_sl_app w ce, fun p l e R s m args below meth c H locs cells slots Q ls F _ _ h1 h2 hok hS hl kk => r_newa F hok hS hta hc.1 hc.2 hce h1 h2 hdg (fun H1 g1 g2 => kk H1 locs ls g1 g2 hl)⟩
    next => cases h
  next => cases h
theorem mn_newarray {a : ArrayType} (hdg : decode (pgB mid) pc = .ok (.newarray a, 2)) (h : m_step L xs mid pc lv st w (.newarray a) = some (.inl (pc', lv', st', w1))) : mNext B L xs X dT D mid pc lv st w pc' lv' st' w1 := by
  simp only [m_step] at h
  split at h
  next x r =>
    split at h
    next => exact mn_newarr (Or.inl ⟨rfl, rfl⟩) hdg h
    next => exact mn_newarr (Or.inr (Or.inl ⟨rfl, rfl⟩)) hdg h
    next => exact mn_newarr (Or.inr (Or.inr ⟨rfl, rfl⟩)) hdg h
    next => cases h
  next => cases h
theorem mn_anewarray (hdg : decode (pgB mid) pc = .ok (.anewarray ix, 3)) (h : m_step L xs mid pc lv st w (.anewarray ix) = some (.inl (pc', lv', st', w1))) : mNext B L xs X dT D mid pc lv st w pc' lv' st' w1 := by
  simp only [m_step] at h
  split at h
  next t b x r hr =>
    split at h
    next ht =>
      unfold m_new at h
      split at h
      next hc =>
        split at h
        next ce hce =>
          cases h
          exact ⟨1, m_sz ce, by rw [List.length_append]; rfl, m_sl_app w ce, fun p l e R s m args below meth c H locs cells slots Q ls F _ _ h1 h2 hok hS hl kk => r_anew F hok hS hr ht hc.1 hc.2 hce h1 h2 hdg (fun H1 g1 g2 => kk H1 locs ls g1 g2 hl)⟩
        next => cases h
      next => cases h
    next => cases h
  next => cases h
theorem mn_new (hdg : decode (pgB mid) pc = .ok (.new ix, 3)) (h : m_step L xs mid pc lv st w (.new ix) = some (.inl (pc', lv', st', w1))) : mNext B L xs X dT D mid pc lv st w pc' lv' st' w1 := by
  simp only [m_step] at h
  split at h
  next ci b hr =>
    cases h
    obtain ⟨hm, hk⟩ := pgRs_ok hr
    simp only [pgW, pgKd] at hm hk
    exact ⟨1, (pgDf ci).length, by rw [List.length_append]; rfl, m_sl_app w _, fun p l e R s m args below meth c H locs cells slots Q ls F _ _ h1 h2 hok hS hl kk => r_new F hok hS (fun C T N hc => by rw [hc] at hm; exact hm) hk h1 h2 hdg (fun H1 g1 g2 => kk H1 locs ls g1 g2 hl)⟩
  next b hr =>
    cases h
    obtain ⟨hm, hk⟩ := pgRs_ok hr
    simp only [pgW, if_true] at hm
    exact ⟨1, (pgDf 2).length, by rw [List.length_append]; rfl, m_sl_app w _, fun p l e R s m args below meth c H locs cells slots Q ls F _ _ h1 h2 hok hS hl kk => r_new F hok hS (fun C T N hc => by
      have h2 : vwCl[2]? = some (RX2, TX2, 13) := rfl
      rw [h2] at hc
      cases hc
      exact hm) rfl h1 h2 hdg (fun H1 g1 g2 => kk H1 locs ls g1 g2 hl)⟩
  next => cases h
theorem mn_checkcast (hdg : decode (pgB mid) pc = .ok (.checkcast ix, 3)) (h : m_step L xs mid pc lv st w (.checkcast ix) = some (.inl (pc', lv', st', w1))) : mNext B L xs X dT D mid pc lv st w pc' lv' st' w1 := by
  simp only [m_step] at h
  split at h
  next a b i r hr =>
    split at h
    next n f hw =>
      cases h
      exact ⟨0, 0, rfl, rfl, fun p l e R s m args below meth c H locs cells slots Q ls F _ _ _ _ hok hS hl kk => by
        obtain ⟨hm, -⟩ := pgRs_ok hr
        simp only [pgW] at hm
        have F' := F
        obtain ⟨hx, hb, -, -, -, hown, -, G, Nw, K, E, -⟩ := F'
        have hk := kk H locs ls hok hS hl
        rcases f with f1 | f1 | f1 | f1 | f1
        · exact va_castA hx hb hown (G _ hm rfl _) hok.2 i (mZ_at hw) (K.2 0 _ rfl).2 hdg hk
        · exact va_castA hx hb hown (G _ hm rfl _) hok.2 i (mZ_at hw) (K.2 0 _ rfl).2 hdg hk
        · exact va_castA hx hb hown (G _ hm rfl _) hok.2 i (mZ_at hw) (K.2 0 _ rfl).2 hdg hk
        · exact va_castA hx hb hown (G _ hm rfl _) hok.2 i (mZ_at hw) (K.2 0 _ rfl).2 hdg hk
        · exact va_castA hx hb hown (G _ hm rfl _) hok.2 i (mZ_at hw) (K.2 0 _ rfl).2 hdg hk⟩
    next => cases h
  next => cases h
end NX
