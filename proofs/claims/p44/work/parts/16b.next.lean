section RN
variable {pc n : Nat} {B L mid : Nat} {xs : Nat → Int32} {X : Nat → Nat} {dT : Nat → ClassId} {D : va_G} {w w1 : mWd} {lv lv' : mL} {st st' : List Value} {pc' ix : Nat}
set_option maxHeartbeats 4000000 in
theorem m_next {ins : Instr} (hdg : decode (pgB mid) pc = .ok (ins, m_len ins n)) (h : m_step L xs mid pc lv st w ins = some (.inl (pc', lv', st', w1))) : mNext B L xs X dT D mid pc lv st w pc' lv' st' w1 := by
  cases ins
  case getfield ix => exact mn_getfield hdg h
  case putfield ix => exact mn_putfield hdg h
  case getstatic ix => exact mn_getstatic hdg h
  case ldc ix => exact mn_ldc hdg h
  case ldc_w ix => exact mn_ldc_w hdg h
  case ldc2_w ix => exact mn_ldc2_w hdg h
  case iaload =>
    simp only [m_step] at h
    split at h
    next j i r => exact mn_ald (Or.inl ⟨rfl, rfl⟩) hdg h
    next j k r => exact mn_xld (Or.inl ⟨rfl, rfl⟩) hdg h
    next => cases h
  case baload =>
    simp only [m_step] at h
    split at h
    next j i r => exact mn_ald (Or.inr (Or.inl ⟨rfl, rfl⟩)) hdg h
    next j k r => exact mn_xld (Or.inr ⟨rfl, rfl⟩) hdg h
    next => cases h
  case laload =>
    simp only [m_step] at h
    split at h
    next j i r => exact mn_ald (Or.inr (Or.inr (Or.inl ⟨rfl, rfl⟩))) hdg h
    next => cases h
  case aaload =>
    simp only [m_step] at h
    split at h
    next j i r => exact mn_ald (Or.inr (Or.inr (Or.inr ⟨rfl, rfl⟩))) hdg h
    next => cases h
  case iastore =>
    simp only [m_step] at h
    split at h
    next v j i r => exact mn_ast (Or.inl ⟨rfl, rfl⟩) hdg h
    next => cases h
  case bastore =>
    simp only [m_step] at h
    split at h
    next v j i r => exact mn_ast (Or.inr (Or.inl ⟨rfl, rfl⟩)) hdg h
    next => cases h
  case lastore =>
    simp only [m_step] at h
    split at h
    next v j i r => exact mn_ast (Or.inr (Or.inr (Or.inl ⟨rfl, rfl⟩))) hdg h
    next => cases h
  case aastore =>
    simp only [m_step] at h
    split at h
    next v j i r => exact mn_ast (Or.inr (Or.inr (Or.inr ⟨rfl, rfl⟩))) hdg h
    next => cases h
  case arraylength => exact mn_len hdg h
  case newarray a => exact mn_newarray hdg h
  case anewarray ix => exact mn_anewarray hdg h
  case new ix => exact mn_new hdg h
  case checkcast ix => exact mn_checkcast hdg h
  case invokestatic ix => exact mn_invokestatic hdg h
  case invokevirtual ix => exact mn_invokevirtual hdg h
  case invokespecial ix => exact mn_invokespecial hdg h
  case ireturn =>
    simp only [m_step] at h
    split at h <;> cases h
  case lreturn =>
    simp only [m_step] at h
    split at h <;> cases h
  case areturn =>
    simp only [m_step] at h
    split at h <;> cases h
  case return_ =>
    simp only [m_step] at h
    split at h <;> cases h
  all_goals exact mn_pure hdg h
end RN
