theorem m_pure_nc2 {L : Nat} {xs : Nat → Int32} {mid : Nat} {ins : Instr} {pc : Nat} {l : mL} {st : List Value} {w : mWd} {q : (Nat × List Value × List Value) ⊕ Option Value} (h : m_step L xs mid pc l st w ins = some (.inr q)) (e : m_step L xs mid pc l st w ins = (match m_pure (pgL mid) ins pc l st with | some (pc', l', st') => mNx pc' l' st' w | none => none)) : False := m_pure_nc (e.symm.trans h)
section RC
variable {pc n : Nat} {B L mid : Nat} {xs : Nat → Int32} {X : Nat → Nat} {dT : Nat → ClassId} {D : va_G} {w : mWd} {lv : mL} {st : List Value} {ix y : Nat} {as r : List Value} {v : Option Value}
theorem mc_static (hdg : decode (pgB mid) pc = .ok (.invokestatic ix, 3)) (h : m_step L xs mid pc lv st w (.invokestatic ix) = some (.inr (.inl (y, as, r)))) : mCalls B L xs X dT D mid pc st w y as r := by
  simp only [m_step] at h
  split at h
  next y b hr =>
    split at h
    next =>
      split at h
      next as r hp =>
        obtain ⟨rfl, rfl, rfl, hc, hl, hpl⟩ := m_call_eq h
        have hk := (pgRs_ok hr).2
        simp only [pgKd, Bool.and_eq_true] at hk
        exact ⟨⟨Nat.le_of_ble_eq_true hk.1, hpl⟩, hl, fun p l e R s m args below meth c H locs cells slots Q ls F hok hS hls => m_callS F hok hS hls (Or.inl hr) hp hc hpl hdg⟩
      next => cases h
    next =>
      split at h
      next => cases h
      next => cases h
  next y b hr =>
    split at h
    next as r hp =>
      obtain ⟨rfl, rfl, rfl, hc, hl, hpl⟩ := m_call_eq h
      have hk := (pgRs_ok hr).2
      simp only [pgKd, Bool.and_eq_true] at hk
      exact ⟨⟨Nat.le_of_ble_eq_true hk.1, hpl⟩, hl, fun p l e R s m args below meth c H locs cells slots Q ls F hok hS hls => m_callS F hok hS hls (Or.inr hr) hp hc hpl hdg⟩
    next => cases h
  next y b hr =>
    split at h
    next =>
      split at h
      next =>
        split at h
        next =>
          split at h
          next => cases h
          next => cases h
        next => cases h
      next => cases h
    next => cases h
  next => cases h
theorem mc_virtual (hdg : decode (pgB mid) pc = .ok (.invokevirtual ix, 3)) (h : m_step L xs mid pc lv st w (.invokevirtual ix) = some (.inr (.inl (y, as, r)))) : mCalls B L xs X dT D mid pc st w y as r := by
  simp only [m_step] at h
  split at h
  next y b hr =>
    split at h
    next as v r hp =>
      split at h
      next hv =>
        obtain ⟨rfl, rfl, rfl, hc, hl, hpl⟩ := m_call_eq h
        have hk := (pgRs_ok hr).2
        simp only [pgKd, Bool.and_eq_true] at hk
        exact ⟨⟨Nat.le_of_ble_eq_true hk.1.1, hpl⟩, hl, fun p l e R s m args below meth c H locs cells slots Q ls F hok hS hls => m_callV F hok hS hls (Or.inl hr) hp hv hc hpl hdg⟩
      next => cases h
    next => cases h
  next y b hr =>
    split at h
    next as v r hp =>
      split at h
      next hv =>
        obtain ⟨rfl, rfl, rfl, hc, hl, hpl⟩ := m_call_eq h
        have hk := (pgRs_ok hr).2
        simp only [pgKd, Bool.and_eq_true] at hk
        exact ⟨⟨Nat.le_of_ble_eq_true hk.1.1, hpl⟩, hl, fun p l e R s m args below meth c H locs cells slots Q ls F hok hS hls => m_callV F hok hS hls (Or.inr hr) hp hv hc hpl hdg⟩
      next => cases h
    next => cases h
  next y b hr =>
    split at h
    next =>
      split at h
      next =>
        split at h
        next => cases h
        next => cases h
      next => cases h
    next => cases h
  next => cases h
theorem mc_special (hdg : decode (pgB mid) pc = .ok (.invokespecial ix, 3)) (h : m_step L xs mid pc lv st w (.invokespecial ix) = some (.inr (.inl (y, as, r)))) : mCalls B L xs X dT D mid pc st w y as r := by
  simp only [m_step] at h
  split at h
  next y b hr =>
    split at h
    next as i r hp =>
      obtain ⟨rfl, rfl, rfl, hc, hl, hpl⟩ := m_call_eq h
      have hk := (pgRs_ok hr).2
      simp only [pgKd, Bool.and_eq_true] at hk
      exact ⟨⟨Nat.le_of_ble_eq_true hk.1.1.1, hpl⟩, hl, fun p l e R s m args below meth c H locs cells slots Q ls F hok hS hls => m_callI F hok hS hls (Or.inl hr) hp hc hpl hdg⟩
    next => cases h
  next y b hr =>
    split at h
    next as i r hp =>
      obtain ⟨rfl, rfl, rfl, hc, hl, hpl⟩ := m_call_eq h
      have hk := (pgRs_ok hr).2
      simp only [pgKd, Bool.and_eq_true] at hk
      exact ⟨⟨Nat.le_of_ble_eq_true hk.1.1.1, hpl⟩, hl, fun p l e R s m args below meth c H locs cells slots Q ls F hok hS hls => m_callI F hok hS hls (Or.inr hr) hp hc hpl hdg⟩
    next => cases h
  next y b hr =>
    split at h
    next =>
      split at h
      next => cases h
      next => cases h
    next => cases h
  next => cases h
theorem m_calls {ins : Instr} (hdg : decode (pgB mid) pc = .ok (ins, m_len ins n)) (h : m_step L xs mid pc lv st w ins = some (.inr (.inl (y, as, r)))) : m_len ins n = 3 ∧ mCalls B L xs X dT D mid pc st w y as r := by
  cases ins
  case invokestatic ix => exact ⟨rfl, mc_static hdg h⟩
  case invokevirtual ix => exact ⟨rfl, mc_virtual hdg h⟩
  case invokespecial ix => exact ⟨rfl, mc_special hdg h⟩
  case getfield ix => exact (nr_getfield h).elim
  case putfield ix => exact (nr_putfield h).elim
  case getstatic ix => exact (nr_getstatic h).elim
  case ldc ix => exact (nr_ldc h).elim
  case ldc_w ix => exact (nr_ldc_w h).elim
  case ldc2_w ix => exact (nr_ldc2_w h).elim
  case iaload => exact (nr_iaload h).elim
  case baload => exact (nr_baload h).elim
  case laload => exact (nr_laload h).elim
  case aaload => exact (nr_aaload h).elim
  case iastore => exact (nr_iastore h).elim
  case bastore => exact (nr_bastore h).elim
  case lastore => exact (nr_lastore h).elim
  case aastore => exact (nr_aastore h).elim
  case arraylength => exact (nr_arraylength h).elim
  case newarray a => exact (nr_newarray h).elim
  case anewarray ix => exact (nr_anewarray h).elim
  case new ix => exact (nr_new0 h).elim
  case checkcast ix => exact (nr_checkcast h).elim
  case ireturn => exact (nr_ireturn h).elim
  case lreturn => exact (nr_lreturn h).elim
  case areturn => exact (nr_areturn h).elim
  case return_ => exact (nr_return_ h).elim
  all_goals exact (m_pure_nc2 h rfl).elim
theorem m_rets {ins : Instr} (h : m_step L xs mid pc lv st w ins = some (.inr (.inr v))) : ∃ o : Nat, ((o = 0 ∧ ins = .ireturn) ∨ (o = 1 ∧ ins = .lreturn) ∨ (o = 2 ∧ ins = .areturn) ∨ (o = 3 ∧ ins = .return_)) ∧ m_ret (pgT mid) o st = some v := by
  cases ins
  case ireturn =>
    simp only [m_step] at h
    split at h
    next v hv => cases h; exact ⟨0, Or.inl ⟨rfl, rfl⟩, hv⟩
    next => cases h
  case lreturn =>
    simp only [m_step] at h
    split at h
    next v hv => cases h; exact ⟨1, Or.inr (Or.inl ⟨rfl, rfl⟩), hv⟩
    next => cases h
  case areturn =>
    simp only [m_step] at h
    split at h
    next v hv => cases h; exact ⟨2, Or.inr (Or.inr (Or.inl ⟨rfl, rfl⟩)), hv⟩
    next => cases h
  case return_ =>
    simp only [m_step] at h
    split at h
    next v hv => cases h; exact ⟨3, Or.inr (Or.inr (Or.inr ⟨rfl, rfl⟩)), hv⟩
    next => cases h
  case getfield ix => exact (nr_getfield h).elim
  case putfield ix => exact (nr_putfield h).elim
  case getstatic ix => exact (nr_getstatic h).elim
  case ldc ix => exact (nr_ldc h).elim
  case ldc_w ix => exact (nr_ldc_w h).elim
  case ldc2_w ix => exact (nr_ldc2_w h).elim
  case iaload => exact (nr_iaload h).elim
  case baload => exact (nr_baload h).elim
  case laload => exact (nr_laload h).elim
  case aaload => exact (nr_aaload h).elim
  case iastore => exact (nr_iastore h).elim
  case bastore => exact (nr_bastore h).elim
  case lastore => exact (nr_lastore h).elim
  case aastore => exact (nr_aastore h).elim
  case arraylength => exact (nr_arraylength h).elim
  case newarray a => exact (nr_newarray h).elim
  case anewarray ix => exact (nr_anewarray h).elim
  case new ix => exact (nr_new0 h).elim
  case checkcast ix => exact (nr_checkcast h).elim
  case invokestatic ix => exact (nr_invokestatic h).elim
  case invokevirtual ix => exact (nr_invokevirtual h).elim
  case invokespecial ix => exact (nr_invokespecial h).elim
  all_goals exact (m_pure_nc2 h rfl).elim
end RC
