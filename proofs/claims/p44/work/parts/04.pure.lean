section MP
variable {p : Program} {l : Launch} {e : Env} {R : Room} {s : State} {m : MethodId} {args : Array Value} {below : List Frame} {meth : Method} {c : Code} {H : Heap} {locs : List Loc} {cells slots : Nat} {Q : State → Prop}
variable {cc : ByteArray} {pc : Nat} {ls : Array Slot} {B nL n : Nat} {X : Nat → Nat} {lv lv' : mL} {st st' : List Value} {pc' : Nat}
theorem m_tgt_jmp {off : Int} {lv0 : mL} {st0 : List Value} (h : m_jmp pc off lv0 st0 = some (pc', lv', st')) : (pc : Int) + off = (pc' : Int) ∧ lv0 = lv' ∧ st0 = st' := by
  unfold m_jmp at h
  cases ht : m_tgt pc off with
  | none => rw [ht] at h; cases h
  | some t => rw [ht] at h; cases h; exact ⟨m_tgt_ok ht, rfl, rfl⟩
theorem m_br_ok {b : Bool} {off : Int} {lv0 : mL} {st0 : List Value} (h : m_br b pc off lv0 st0 = some (pc', lv', st')) : ∃ t : Nat, (pc : Int) + off = (t : Int) ∧ lv0 = lv' ∧ st0 = st' ∧ (b = true → pc' = t) ∧ (b = false → pc' = pc + 3) := by
  unfold m_br at h
  cases ht : m_tgt pc off with
  | none => rw [ht] at h; cases h
  | some t =>
    rw [ht] at h
    cases h
    exact ⟨t, m_tgt_ok ht, rfl, rfl, fun q => by rw [q]; rfl, fun q => by rw [q]; rfl⟩
theorem m_pure_ld (hx : p.tables.exec = Jvm.exec) (hb : c.code = cc) {k : Nat} {ty : Nat} {pc1 : Nat} (hl : lv_has ls nL (mlv B X lv)) (h : m_ld ty lv k pc1 st = some (pc', lv', st'))
    (ri : ∀ x, ty = 0 → ls[k]? = some (.val (.int x)) → W p l e R s m args below meth c H locs cells slots Q (F0 m pc1 ls (.int x :: st.map (mv B X))) → W p l e R s m args below meth c H locs cells slots Q (F0 m pc ls (st.map (mv B X))))
    (rl : ∀ x, ty = 1 → ls[k]? = some (.val (.long x)) → W p l e R s m args below meth c H locs cells slots Q (F0 m pc1 ls (.long x :: st.map (mv B X))) → W p l e R s m args below meth c H locs cells slots Q (F0 m pc ls (st.map (mv B X))))
    (rr : ∀ x, ty = 2 → ls[k]? = some (.val (.ref x)) → W p l e R s m args below meth c H locs cells slots Q (F0 m pc1 ls (.ref x :: st.map (mv B X))) → W p l e R s m args below meth c H locs cells slots Q (F0 m pc ls (st.map (mv B X))))
    (rn : ty = 2 → ls[k]? = some (.val .null) → W p l e R s m args below meth c H locs cells slots Q (F0 m pc1 ls (.null :: st.map (mv B X))) → W p l e R s m args below meth c H locs cells slots Q (F0 m pc ls (st.map (mv B X))))
    (kk : ∀ ls', lv_has ls' nL (mlv B X lv') → W p l e R s m args below meth c H locs cells slots Q (F0 m pc' ls' (st'.map (mv B X)))) : W p l e R s m args below meth c H locs cells slots Q (F0 m pc ls (st.map (mv B X))) := by
  unfold m_ld at h
  cases hg : m_get lv k with
  | none => rw [hg] at h; cases h
  | some v =>
    have hv := mlv_get hl hg
    rw [hg] at h
    cases v with
    | int x =>
      simp only [] at h
      split at h
      next ht => cases h; exact ri x ht hv (kk ls hl)
      next => cases h
    | long x =>
      simp only [] at h
      split at h
      next ht => cases h; exact rl x ht hv (kk ls hl)
      next => cases h
    | ref x =>
      simp only [] at h
      split at h
      next ht => cases h; exact rr _ ht hv (kk ls hl)
      next => cases h
    | retAddr x =>
      simp only [] at h
      split at h
      next ht => cases h; exact rr _ ht hv (kk ls hl)
      next => cases h
    | null =>
      simp only [] at h
      split at h
      next ht => cases h; exact rn ht hv (kk ls hl)
      next => cases h
    | float x => cases h
    | double x => cases h
theorem m_pure_st (hx : p.tables.exec = Jvm.exec) (hb : c.code = cc) {k : Nat} {ty : Nat} {pc1 : Nat} (hl : lv_has ls nL (mlv B X lv)) (h : m_st nL ty lv k pc1 st = some (pc', lv', st'))
    (ri : ∀ x r, ty = 0 → k < nL → st = .int x :: r → (∀ ls', lv_has ls' nL (mlv B X (m_put1 lv k (.int x))) → W p l e R s m args below meth c H locs cells slots Q (F0 m pc1 ls' (r.map (mv B X)))) → W p l e R s m args below meth c H locs cells slots Q (F0 m pc ls (st.map (mv B X))))
    (rl : ∀ x r, ty = 1 → k + 1 < nL → st = .long x :: r → (∀ ls', lv_has ls' nL (mlv B X (m_put2 lv k (.long x))) → W p l e R s m args below meth c H locs cells slots Q (F0 m pc1 ls' (r.map (mv B X)))) → W p l e R s m args below meth c H locs cells slots Q (F0 m pc ls (st.map (mv B X))))
    (rr : ∀ x y r, ty = 2 → k < nL → st = x :: r → mv B X x = .ref y → (∀ ls', lv_has ls' nL (mlv B X (m_put1 lv k x)) → W p l e R s m args below meth c H locs cells slots Q (F0 m pc1 ls' (r.map (mv B X)))) → W p l e R s m args below meth c H locs cells slots Q (F0 m pc ls (st.map (mv B X))))
    (rn : ∀ r, ty = 2 → k < nL → st = .null :: r → (∀ ls', lv_has ls' nL (mlv B X (m_put1 lv k .null)) → W p l e R s m args below meth c H locs cells slots Q (F0 m pc1 ls' (r.map (mv B X)))) → W p l e R s m args below meth c H locs cells slots Q (F0 m pc ls (st.map (mv B X))))
    (kk : ∀ ls', lv_has ls' nL (mlv B X lv') → W p l e R s m args below meth c H locs cells slots Q (F0 m pc' ls' (st'.map (mv B X)))) : W p l e R s m args below meth c H locs cells slots Q (F0 m pc ls (st.map (mv B X))) := by
  unfold m_st at h
  split at h
  next x r =>
    split at h
    next ht => cases h; exact ri x _ ht.1 ht.2 rfl kk
    next => cases h
  next x r =>
    split at h
    next ht => cases h; exact rl x _ ht.1 ht.2 rfl kk
    next => cases h
  next x r =>
    split at h
    next ht => cases h; exact rr (.ref x) _ _ ht.1 ht.2 rfl rfl kk
    next => cases h
  next x r =>
    split at h
    next ht => cases h; exact rr (.retAddr x) _ _ ht.1 ht.2 rfl rfl kk
    next => cases h
  next r =>
    split at h
    next ht => cases h; exact rn _ ht.1 ht.2 rfl kk
    next => cases h
  next => cases h
theorem m_bi_ok {ins : Instr} (h : m_bi ins pc lv st = some (pc', lv', st')) : ∃ x y z r, st = .int y :: .int x :: r ∧ m_i2 ins x y = some z ∧ pc' = pc + 1 ∧ lv' = lv ∧ st' = .int z :: r := by
  unfold m_bi at h
  split at h
  next y x r =>
    split at h
    next z hz => cases h; exact ⟨x, y, z, r, rfl, hz, rfl, rfl, rfl⟩
    next => cases h
  next => cases h
theorem m_bl_ok {ins : Instr} (h : m_bl ins pc lv st = some (pc', lv', st')) : ∃ x y z r, st = .long y :: .long x :: r ∧ m_l2 ins x y = some z ∧ pc' = pc + 1 ∧ lv' = lv ∧ st' = z :: r := by
  unfold m_bl at h
  split at h
  next y x r =>
    split at h
    next z hz => cases h; exact ⟨x, y, z, r, rfl, hz, rfl, rfl, rfl⟩
    next => cases h
  next => cases h
theorem m_un_ok {ins : Instr} (h : m_un ins pc lv st = some (pc', lv', st')) : ∃ v z r, st = v :: r ∧ m_cv ins v = some z ∧ pc' = pc + 1 ∧ lv' = lv ∧ st' = z :: r := by
  unfold m_un at h
  split at h
  next v r =>
    split at h
    next z hz => cases h; exact ⟨v, z, r, rfl, hz, rfl, rfl, rfl⟩
    next => cases h
  next => cases h
set_option maxHeartbeats 4000000 in
theorem m_pure_ok {ins : Instr} (hx : p.tables.exec = Jvm.exec) (hb : c.code = cc) (hdg : decode cc pc = .ok (ins, m_len ins n)) (hl : lv_has ls nL (mlv B X lv)) (h : m_pure nL ins pc lv st = some (pc', lv', st'))
    (kk : ∀ ls', lv_has ls' nL (mlv B X lv') → W p l e R s m args below meth c H locs cells slots Q (F0 m pc' ls' (st'.map (mv B X)))) : W p l e R s m args below meth c H locs cells slots Q (F0 m pc ls (st.map (mv B X))) := by
  cases ins
  case iconst n =>
    cases h
    exact lv_iconst hx hb hdg rfl (kk ls hl)
  case bipush n =>
    cases h
    exact lv_bipush hx hb hdg rfl (kk ls hl)
  case sipush n =>
    cases h
    exact lv_sipush hx hb hdg rfl (kk ls hl)
  case lconst n =>
    cases h
    exact lv_lconst hx hb hdg rfl (kk ls hl)
  case aconst_null =>
    cases h
    exact lv_null hx hb hdg (kk ls hl)
  case iload_n k =>
    exact m_pure_ld hx hb hl h (fun x _ hv k1 => lv_iload_n hx hb hdg rfl hv k1) (fun x ht => absurd ht (by decide)) (fun x ht => absurd ht (by decide)) (fun ht => absurd ht (by decide)) kk
  case lload_n k =>
    exact m_pure_ld hx hb hl h (fun x ht => absurd ht (by decide)) (fun x _ hv k1 => lv_lload_n hx hb hdg rfl hv k1) (fun x ht => absurd ht (by decide)) (fun ht => absurd ht (by decide)) kk
  case aload_n k =>
    exact m_pure_ld hx hb hl h (fun x ht => absurd ht (by decide)) (fun x ht => absurd ht (by decide)) (fun x _ hv k1 => lv_aload_n hx hb hdg rfl hv k1) (fun _ hv k1 => lv_aload_nN hx hb hdg rfl hv k1) kk
  case iload k =>
    exact m_pure_ld hx hb hl h (fun x _ hv k1 => lv_iload hx hb hdg hv k1) (fun x ht => absurd ht (by decide)) (fun x ht => absurd ht (by decide)) (fun ht => absurd ht (by decide)) kk
  case lload k =>
    exact m_pure_ld hx hb hl h (fun x ht => absurd ht (by decide)) (fun x _ hv k1 => lv_lload hx hb hdg hv k1) (fun x ht => absurd ht (by decide)) (fun ht => absurd ht (by decide)) kk
  case aload k =>
    exact m_pure_ld hx hb hl h (fun x ht => absurd ht (by decide)) (fun x ht => absurd ht (by decide)) (fun x _ hv k1 => lv_aload hx hb hdg hv k1) (fun _ hv k1 => lv_aloadN hx hb hdg hv k1) kk
  case istore_n k =>
    exact m_pure_st hx hb hl h (fun x r _ hk e1 k1 => by subst e1; exact lv_istore_n hx hb hdg rfl hl hk (mlv_put1 B X lv _ (.int x)) k1) (fun x r ht => absurd ht (by decide)) (fun x y r ht => absurd ht (by decide)) (fun r ht => absurd ht (by decide)) kk
  case lstore_n k =>
    exact m_pure_st hx hb hl h (fun x r ht => absurd ht (by decide)) (fun x r _ hk e1 k1 => by subst e1; exact lv_lstore_n hx hb hdg rfl hl hk (mlv_put2 B X lv _ (.long x)) k1) (fun x y r ht => absurd ht (by decide)) (fun r ht => absurd ht (by decide)) kk
  case astore_n k =>
    exact m_pure_st hx hb hl h (fun x r ht => absurd ht (by decide)) (fun x r ht => absurd ht (by decide)) (fun x y r _ hk e1 e2 k1 => by subst e1; rw [List.map_cons, e2]; exact lv_astore_n hx hb hdg rfl hl hk (by rw [← e2]; exact mlv_put1 B X lv _ x) k1) (fun r _ hk e1 k1 => by subst e1; exact lv_astore_nN hx hb hdg rfl hl hk (mlv_put1 B X lv _ .null) k1) kk
  case istore k =>
    exact m_pure_st hx hb hl h (fun x r _ hk e1 k1 => by subst e1; exact lv_istore hx hb hdg hl hk (mlv_put1 B X lv _ (.int x)) k1) (fun x r ht => absurd ht (by decide)) (fun x y r ht => absurd ht (by decide)) (fun r ht => absurd ht (by decide)) kk
  case lstore k =>
    exact m_pure_st hx hb hl h (fun x r ht => absurd ht (by decide)) (fun x r _ hk e1 k1 => by subst e1; exact lv_lstore hx hb hdg hl hk (mlv_put2 B X lv _ (.long x)) k1) (fun x y r ht => absurd ht (by decide)) (fun r ht => absurd ht (by decide)) kk
  case astore k =>
    exact m_pure_st hx hb hl h (fun x r ht => absurd ht (by decide)) (fun x r ht => absurd ht (by decide)) (fun x y r _ hk e1 e2 k1 => by subst e1; rw [List.map_cons, e2]; exact lv_astore hx hb hdg hl hk (by rw [← e2]; exact mlv_put1 B X lv _ x) k1) (fun r _ hk e1 k1 => by subst e1; exact lv_astoreN hx hb hdg hl hk (mlv_put1 B X lv _ .null) k1) kk
  case iinc i k =>
    simp only [m_pure] at h
    split at h
    next x hg =>
      split at h
      next hk =>
        cases h
        obtain ⟨j, hj⟩ := mlv_at (B := B) (X := X) hg
        exact lv_iinc hx hb hdg hl hj rfl hk (mlv_put1 B X lv _ (.int _)) kk
      next => cases h
    next => cases h
  case iadd =>
    have h : m_bi .iadd pc lv st = some (pc', lv', st') := h
    obtain ⟨x, y, z, r, rfl, hz, rfl, rfl, rfl⟩ := m_bi_ok h
    cases hz
    exact lv_iadd hx hb hdg (kk ls hl)
  case isub =>
    have h : m_bi .isub pc lv st = some (pc', lv', st') := h
    obtain ⟨x, y, z, r, rfl, hz, rfl, rfl, rfl⟩ := m_bi_ok h
    cases hz
    exact lv_isub hx hb hdg (kk ls hl)
  case imul =>
    have h : m_bi .imul pc lv st = some (pc', lv', st') := h
    obtain ⟨x, y, z, r, rfl, hz, rfl, rfl, rfl⟩ := m_bi_ok h
    cases hz
    exact lv_imul hx hb hdg (kk ls hl)
  case iand =>
    have h : m_bi .iand pc lv st = some (pc', lv', st') := h
    obtain ⟨x, y, z, r, rfl, hz, rfl, rfl, rfl⟩ := m_bi_ok h
    cases hz
    exact lv_iand hx hb hdg (kk ls hl)
  case ior =>
    have h : m_bi .ior pc lv st = some (pc', lv', st') := h
    obtain ⟨x, y, z, r, rfl, hz, rfl, rfl, rfl⟩ := m_bi_ok h
    cases hz
    exact lv_ior hx hb hdg (kk ls hl)
  case ixor =>
    have h : m_bi .ixor pc lv st = some (pc', lv', st') := h
    obtain ⟨x, y, z, r, rfl, hz, rfl, rfl, rfl⟩ := m_bi_ok h
    cases hz
    exact lv_ixor hx hb hdg (kk ls hl)
  case ishl =>
    have h : m_bi .ishl pc lv st = some (pc', lv', st') := h
    obtain ⟨x, y, z, r, rfl, hz, rfl, rfl, rfl⟩ := m_bi_ok h
    cases hz
    exact lv_ishl hx hb hdg (kk ls hl)
  case ishr =>
    have h : m_bi .ishr pc lv st = some (pc', lv', st') := h
    obtain ⟨x, y, z, r, rfl, hz, rfl, rfl, rfl⟩ := m_bi_ok h
    cases hz
    exact lv_ishr hx hb hdg (kk ls hl)
  case iushr =>
    have h : m_bi .iushr pc lv st = some (pc', lv', st') := h
    obtain ⟨x, y, z, r, rfl, hz, rfl, rfl, rfl⟩ := m_bi_ok h
    cases hz
    exact lv_iushr hx hb hdg rfl (kk ls hl)
  case idiv =>
    have h : m_bi .idiv pc lv st = some (pc', lv', st') := h
    obtain ⟨x, y, z, r, rfl, hz, rfl, rfl, rfl⟩ := m_bi_ok h
    simp only [m_i2] at hz
    split at hz
    next => cases hz
    next hn => cases hz; exact lv_idiv hx hb hdg hn (kk ls hl)
  case irem =>
    have h : m_bi .irem pc lv st = some (pc', lv', st') := h
    obtain ⟨x, y, z, r, rfl, hz, rfl, rfl, rfl⟩ := m_bi_ok h
    simp only [m_i2] at hz
    split at hz
    next => cases hz
    next hn => cases hz; exact lv_irem hx hb hdg hn (kk ls hl)
  case ladd =>
    have h : m_bl .ladd pc lv st = some (pc', lv', st') := h
    obtain ⟨x, y, z, r, rfl, hz, rfl, rfl, rfl⟩ := m_bl_ok h
    cases hz
    exact lv_ladd hx hb hdg (kk ls hl)
  case lsub =>
    have h : m_bl .lsub pc lv st = some (pc', lv', st') := h
    obtain ⟨x, y, z, r, rfl, hz, rfl, rfl, rfl⟩ := m_bl_ok h
    cases hz
    exact lv_lsub hx hb hdg (kk ls hl)
  case lmul =>
    have h : m_bl .lmul pc lv st = some (pc', lv', st') := h
    obtain ⟨x, y, z, r, rfl, hz, rfl, rfl, rfl⟩ := m_bl_ok h
    cases hz
    exact lv_lmul hx hb hdg (kk ls hl)
  case land =>
    have h : m_bl .land pc lv st = some (pc', lv', st') := h
    obtain ⟨x, y, z, r, rfl, hz, rfl, rfl, rfl⟩ := m_bl_ok h
    cases hz
    exact lv_land hx hb hdg (kk ls hl)
  case lor =>
    have h : m_bl .lor pc lv st = some (pc', lv', st') := h
    obtain ⟨x, y, z, r, rfl, hz, rfl, rfl, rfl⟩ := m_bl_ok h
    cases hz
    exact lv_lor hx hb hdg (kk ls hl)
  case lxor =>
    have h : m_bl .lxor pc lv st = some (pc', lv', st') := h
    obtain ⟨x, y, z, r, rfl, hz, rfl, rfl, rfl⟩ := m_bl_ok h
    cases hz
    exact lv_lxor hx hb hdg (kk ls hl)
  case lcmp =>
    have h : m_bl .lcmp pc lv st = some (pc', lv', st') := h
    obtain ⟨x, y, z, r, rfl, hz, rfl, rfl, rfl⟩ := m_bl_ok h
    cases hz
    exact W.lcmp hx hb hdg (kk ls hl)
  case ldiv =>
    have h : m_bl .ldiv pc lv st = some (pc', lv', st') := h
    obtain ⟨x, y, z, r, rfl, hz, rfl, rfl, rfl⟩ := m_bl_ok h
    simp only [m_l2] at hz
    split at hz
    next => cases hz
    next hn => cases hz; exact lv_ldiv hx hb hdg hn (kk ls hl)
  case lrem =>
    have h : m_bl .lrem pc lv st = some (pc', lv', st') := h
    obtain ⟨x, y, z, r, rfl, hz, rfl, rfl, rfl⟩ := m_bl_ok h
    simp only [m_l2] at hz
    split at hz
    next => cases hz
    next hn => cases hz; exact lv_lrem hx hb hdg hn (kk ls hl)
  case ineg =>
    have h : m_un .ineg pc lv st = some (pc', lv', st') := h
    obtain ⟨v, z, r, rfl, hz, rfl, rfl, rfl⟩ := m_un_ok h
    cases v <;> first | (cases hz; done) | (cases hz; exact lv_ineg hx hb hdg (kk ls hl))
  case lneg =>
    have h : m_un .lneg pc lv st = some (pc', lv', st') := h
    obtain ⟨v, z, r, rfl, hz, rfl, rfl, rfl⟩ := m_un_ok h
    cases v <;> first | (cases hz; done) | (cases hz; exact lv_lneg hx hb hdg (kk ls hl))
  case i2l =>
    have h : m_un .i2l pc lv st = some (pc', lv', st') := h
    obtain ⟨v, z, r, rfl, hz, rfl, rfl, rfl⟩ := m_un_ok h
    cases v <;> first | (cases hz; done) | (cases hz; exact lv_i2l hx hb hdg rfl (kk ls hl))
  case l2i =>
    have h : m_un .l2i pc lv st = some (pc', lv', st') := h
    obtain ⟨v, z, r, rfl, hz, rfl, rfl, rfl⟩ := m_un_ok h
    cases v <;> first | (cases hz; done) | (cases hz; exact lv_l2i hx hb hdg rfl (kk ls hl))
  case i2b =>
    have h : m_un .i2b pc lv st = some (pc', lv', st') := h
    obtain ⟨v, z, r, rfl, hz, rfl, rfl, rfl⟩ := m_un_ok h
    cases v <;> first | (cases hz; done) | (cases hz; exact lv_i2b hx hb hdg rfl (kk ls hl))
  case i2s =>
    have h : m_un .i2s pc lv st = some (pc', lv', st') := h
    obtain ⟨v, z, r, rfl, hz, rfl, rfl, rfl⟩ := m_un_ok h
    cases v <;> first | (cases hz; done) | (cases hz; exact lv_i2s hx hb hdg rfl (kk ls hl))
  case i2c =>
    have h : m_un .i2c pc lv st = some (pc', lv', st') := h
    obtain ⟨v, z, r, rfl, hz, rfl, rfl, rfl⟩ := m_un_ok h
    cases v <;> first | (cases hz; done) | (cases hz; exact lv_i2c hx hb hdg rfl (kk ls hl))
  case dup =>
    simp only [m_pure] at h
    split at h
    next v r =>
      split at h
      next hc => cases h; exact lv_dup hx hb hdg (m_c1_ok hc B X) (kk ls hl)
      next => cases h
    next => cases h
  case pop =>
    simp only [m_pure] at h
    split at h
    next v r =>
      split at h
      next hc => cases h; exact lv_pop hx hb hdg (m_c1_ok hc B X) (kk ls hl)
      next => cases h
    next => cases h
  case dup_x1 =>
    simp only [m_pure] at h
    split at h
    next v u r =>
      split at h
      next hc => cases h; exact lv_dup_x1 hx hb hdg (m_c1_ok hc.1 B X) (m_c1_ok hc.2 B X) (kk ls hl)
      next => cases h
    next => cases h
  case dup_x2 =>
    simp only [m_pure] at h
    split at h
    next v u w r =>
      split at h
      next hc => cases h; exact lv_dup_x2 hx hb hdg (m_c1_ok hc.1 B X) (m_c1_ok hc.2.1 B X) (m_c1_ok hc.2.2 B X) (kk ls hl)
      next => cases h
    next => cases h
  case dup2 =>
    simp only [m_pure] at h
    split at h
    next x r => cases h; exact lv_dup2_2 hx hb hdg rfl (kk ls hl)
    next v u r _ =>
      split at h
      next hc => cases h; exact lv_dup2_11 hx hb hdg (m_c1_ok hc.1 B X) (m_c1_ok hc.2 B X) (kk ls hl)
      next => cases h
    next => cases h
  case pop2 =>
    simp only [m_pure] at h
    split at h
    next x r => cases h; exact lv_pop2_2 hx hb hdg rfl (kk ls hl)
    next v u r _ =>
      split at h
      next hc => cases h; exact lv_pop2_11 hx hb hdg (m_c1_ok hc.1 B X) (m_c1_ok hc.2 B X) (kk ls hl)
      next => cases h
    next => cases h
  case ifCond cd off =>
    simp only [m_pure] at h
    split at h
    next x r =>
      obtain ⟨t, ht, rfl, rfl, h1, h2⟩ := m_br_ok h
      cases cd
      · exact lv_if_eq hx hb hdg ht (fun q => by rw [← h1 (by simp [m_cmp, q])]; exact kk ls hl) (fun q => by rw [← h2 (by simp [m_cmp, q])]; exact kk ls hl)
      · exact lv_if_ne hx hb hdg ht (fun q => by rw [← h1 (by simp [m_cmp, q])]; exact kk ls hl) (fun q => by rw [← h2 (by simp [m_cmp, q])]; exact kk ls hl)
      · exact lv_if_lt hx hb hdg ht (fun q => by rw [← h1 (by simp [m_cmp, q])]; exact kk ls hl) (fun q => by rw [← h2 (by simp [m_cmp, q])]; exact kk ls hl)
      · exact lv_if_ge hx hb hdg ht (fun q => by rw [← h1 (by simp [m_cmp, q])]; exact kk ls hl) (fun q => by rw [← h2 (by simp [m_cmp, q])]; exact kk ls hl)
      · exact lv_if_gt hx hb hdg ht (fun q => by rw [← h1 (by simp [m_cmp, q])]; exact kk ls hl) (fun q => by rw [← h2 (by simp [m_cmp, q])]; exact kk ls hl)
      · exact lv_if_le hx hb hdg ht (fun q => by rw [← h1 (by simp [m_cmp, q])]; exact kk ls hl) (fun q => by rw [← h2 (by simp [m_cmp, q])]; exact kk ls hl)
    next => cases h
  case if_icmp cd off =>
    simp only [m_pure] at h
    split at h
    next y x r =>
      obtain ⟨t, ht, rfl, rfl, h1, h2⟩ := m_br_ok h
      cases cd
      · exact lv_icmp_eq hx hb hdg ht (fun q => by rw [← h1 (by simp [m_cmp, q])]; exact kk ls hl) (fun q => by rw [← h2 (by simp [m_cmp, q])]; exact kk ls hl)
      · exact lv_icmp_ne hx hb hdg ht (fun q => by rw [← h1 (by simp [m_cmp, q])]; exact kk ls hl) (fun q => by rw [← h2 (by simp [m_cmp, q])]; exact kk ls hl)
      · exact lv_icmp_lt hx hb hdg ht (fun q => by rw [← h1 (by simp [m_cmp, q])]; exact kk ls hl) (fun q => by rw [← h2 (by simp [m_cmp, q])]; exact kk ls hl)
      · exact lv_icmp_ge hx hb hdg ht (fun q => by rw [← h1 (by simp [m_cmp, q])]; exact kk ls hl) (fun q => by rw [← h2 (by simp [m_cmp, q])]; exact kk ls hl)
      · exact lv_icmp_gt hx hb hdg ht (fun q => by rw [← h1 (by simp [m_cmp, q])]; exact kk ls hl) (fun q => by rw [← h2 (by simp [m_cmp, q])]; exact kk ls hl)
      · exact lv_icmp_le hx hb hdg ht (fun q => by rw [← h1 (by simp [m_cmp, q])]; exact kk ls hl) (fun q => by rw [← h2 (by simp [m_cmp, q])]; exact kk ls hl)
    next => cases h
  case ifnull off =>
    simp only [m_pure, m_nul] at h
    split at h
    next r => obtain ⟨t, ht, rfl, rfl, h1, h2⟩ := m_br_ok h; cases h1 rfl; exact lv_ifnullN hx hb hdg ht (kk ls hl)
    next x r => obtain ⟨t, ht, rfl, rfl, h1, h2⟩ := m_br_ok h; cases h2 rfl; exact lv_ifnull hx hb hdg (kk ls hl)
    next x r => obtain ⟨t, ht, rfl, rfl, h1, h2⟩ := m_br_ok h; cases h2 rfl; exact lv_ifnull hx hb hdg (kk ls hl)
    next => cases h
  case ifnonnull off =>
    simp only [m_pure, m_nul] at h
    split at h
    next r => obtain ⟨t, ht, rfl, rfl, h1, h2⟩ := m_br_ok h; cases h2 rfl; exact lv_ifnonnullN hx hb hdg (kk ls hl)
    next x r => obtain ⟨t, ht, rfl, rfl, h1, h2⟩ := m_br_ok h; cases h1 rfl; exact lv_ifnonnull hx hb hdg ht (kk ls hl)
    next x r => obtain ⟨t, ht, rfl, rfl, h1, h2⟩ := m_br_ok h; cases h1 rfl; exact lv_ifnonnull hx hb hdg ht (kk ls hl)
    next => cases h
  case if_acmp cd off =>
    cases cd <;> simp only [m_pure, m_acm] at h <;> split at h
    · next r => obtain ⟨t, ht, rfl, rfl, h1, h2⟩ := m_br_ok h; exact lv_acmp_eq (rx := none) (ry := none) hx hb hdg ht (fun q => by have e := h1 rfl; rw [← e]; exact kk ls hl) (fun q => absurd rfl q)
    · next x r => obtain ⟨t, ht, rfl, rfl, h1, h2⟩ := m_br_ok h; exact lv_acmp_eq (rx := none) (ry := (some (B + x))) hx hb hdg ht (fun q => absurd q (by simp)) (fun q => by have e := h2 rfl; rw [← e]; exact kk ls hl)
    · next x r => obtain ⟨t, ht, rfl, rfl, h1, h2⟩ := m_br_ok h; exact lv_acmp_eq (rx := (some (B + x))) (ry := none) hx hb hdg ht (fun q => absurd q (by simp)) (fun q => by have e := h2 rfl; rw [← e]; exact kk ls hl)
    · next x y r =>
        by_cases hxy : x = y
        · rw [if_pos hxy] at h; subst hxy
          obtain ⟨t, ht, rfl, rfl, h1, h2⟩ := m_br_ok h; exact lv_acmp_eq (rx := (some (B + x))) (ry := (some (B + x))) hx hb hdg ht (fun q => by have e := h1 rfl; rw [← e]; exact kk ls hl) (fun q => absurd rfl q)
        · rw [if_neg hxy] at h
          have hne : ¬ (some (B + y) : Option Nat) = some (B + x) := fun q => hxy (Nat.add_left_cancel (Option.some.inj q)).symm
          obtain ⟨t, ht, rfl, rfl, h1, h2⟩ := m_br_ok h; exact lv_acmp_eq (rx := (some (B + y))) (ry := (some (B + x))) hx hb hdg ht (fun q => absurd q hne) (fun q => by have e := h2 rfl; rw [← e]; exact kk ls hl)
    · cases h
    · next r => obtain ⟨t, ht, rfl, rfl, h1, h2⟩ := m_br_ok h; exact lv_acmp_ne (rx := none) (ry := none) hx hb hdg ht (fun q => absurd rfl q) (fun q => by have e := h2 rfl; rw [← e]; exact kk ls hl)
    · next x r => obtain ⟨t, ht, rfl, rfl, h1, h2⟩ := m_br_ok h; exact lv_acmp_ne (rx := none) (ry := (some (B + x))) hx hb hdg ht (fun q => by have e := h1 rfl; rw [← e]; exact kk ls hl) (fun q => absurd q (by simp))
    · next x r => obtain ⟨t, ht, rfl, rfl, h1, h2⟩ := m_br_ok h; exact lv_acmp_ne (rx := (some (B + x))) (ry := none) hx hb hdg ht (fun q => by have e := h1 rfl; rw [← e]; exact kk ls hl) (fun q => absurd q (by simp))
    · next x y r =>
        by_cases hxy : x = y
        · rw [if_pos hxy] at h; subst hxy
          obtain ⟨t, ht, rfl, rfl, h1, h2⟩ := m_br_ok h; exact lv_acmp_ne (rx := (some (B + x))) (ry := (some (B + x))) hx hb hdg ht (fun q => absurd rfl q) (fun q => by have e := h2 rfl; rw [← e]; exact kk ls hl)
        · rw [if_neg hxy] at h
          have hne : ¬ (some (B + y) : Option Nat) = some (B + x) := fun q => hxy (Nat.add_left_cancel (Option.some.inj q)).symm
          obtain ⟨t, ht, rfl, rfl, h1, h2⟩ := m_br_ok h; exact lv_acmp_ne (rx := (some (B + y))) (ry := (some (B + x))) hx hb hdg ht (fun q => by have e := h1 rfl; rw [← e]; exact kk ls hl) (fun q => absurd q hne)
    · cases h
  case goto off =>
    obtain ⟨ht, rfl, rfl⟩ := m_tgt_jmp h
    exact lv_goto hx hb hdg ht (kk ls hl)
  case tableswitch d lo hi offs =>
    simp only [m_pure] at h
    split at h
    next x r =>
      split at h
      next ho => obtain ⟨ht, rfl, rfl⟩ := m_tgt_jmp h; exact lv_tableOut hx hb hdg ho ht (kk ls hl)
      next ho =>
        split at h
        next off hoff => obtain ⟨ht, rfl, rfl⟩ := m_tgt_jmp h; exact lv_tableIn hx hb hdg (fun q => ho (Or.inl q)) (fun q => ho (Or.inr q)) hoff ht (kk ls hl)
        next => cases h
    next => cases h
  case lookupswitch d ps =>
    simp only [m_pure] at h
    split at h
    next x r =>
      split at h
      next hp => obtain ⟨ht, rfl, rfl⟩ := m_tgt_jmp h; exact lv_lookup hx hb hdg hp rfl ht (kk ls hl)
      next => cases h
    next => cases h
  all_goals exact nomatch (show (none : Option (Nat × mL × List Value)) = some _ from h)
end MP
