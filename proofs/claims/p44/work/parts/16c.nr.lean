theorem m_pure_nc {k : Nat} {ins : Instr} {pc : Nat} {l : mL} {st : List Value} {w : mWd} {q : (Nat × List Value × List Value) ⊕ Option Value} (h : (match m_pure k ins pc l st with | some (pc', l', st') => mNx pc' l' st' w | none => none) = some (.inr q)) : False := by
  split at h <;> cases h
section NR
variable {L : Nat} {xs : Nat → Int32} {mid pc : Nat} {lv : mL} {st : List Value} {w : mWd} {q : (Nat × List Value × List Value) ⊕ Option Value} {ix : Nat}
theorem nr_getf {ci k i : Nat} {r : List Value} (h : m_getf ci k i pc lv r w = some (.inr q)) : False := by
  unfold m_getf at h
  split at h
  · split at h
    · split at h <;> cases h
    · cases h
  · cases h
theorem nr_putf {f : Bool} {ci k i : Nat} {v : Value} {ty : FieldType} {r : List Value} (h : m_putf f ci k i v ty pc lv r w = some (.inr q)) : False := by
  unfold m_putf at h
  split at h
  · split at h <;> cases h
  · cases h
theorem nr_new {t : Nat} {x : Int32} {r : List Value} (h : m_new t x pc lv r w = some (.inr q)) : False := by
  unfold m_new at h
  split at h
  · split at h <;> cases h
  · cases h
theorem nr_getfield (h : m_step L xs mid pc lv st w (.getfield ix) = some (.inr q)) : False := by
  simp only [m_step] at h
  split at h
  · exact nr_getf h
  · exact nr_getf h
  · cases h
  · cases h
  · cases h
theorem nr_putfield (h : m_step L xs mid pc lv st w (.putfield ix) = some (.inr q)) : False := by
  simp only [m_step] at h
  split at h
  · exact nr_putf h
  · exact nr_putf h
  · cases h
theorem nr_getstatic (h : m_step L xs mid pc lv st w (.getstatic ix) = some (.inr q)) : False := by
  simp only [m_step] at h
  split at h <;> cases h
theorem nr_ldc (h : m_step L xs mid pc lv st w (.ldc ix) = some (.inr q)) : False := by
  simp only [m_step] at h
  split at h <;> cases h
theorem nr_ldc_w (h : m_step L xs mid pc lv st w (.ldc_w ix) = some (.inr q)) : False := by
  simp only [m_step] at h
  split at h <;> cases h
theorem nr_ldc2_w (h : m_step L xs mid pc lv st w (.ldc2_w ix) = some (.inr q)) : False := by
  simp only [m_step] at h
  split at h <;> cases h
theorem nr_iaload (h : m_step L xs mid pc lv st w .iaload = some (.inr q)) : False := by
  simp only [m_step] at h
  split at h
  · split at h <;> cases h
  · split at h <;> cases h
  · cases h
theorem nr_baload (h : m_step L xs mid pc lv st w .baload = some (.inr q)) : False := by
  simp only [m_step] at h
  split at h
  · split at h <;> cases h
  · split at h <;> cases h
  · cases h
theorem nr_laload (h : m_step L xs mid pc lv st w .laload = some (.inr q)) : False := by
  simp only [m_step] at h
  split at h
  · split at h <;> cases h
  · cases h
theorem nr_aaload (h : m_step L xs mid pc lv st w .aaload = some (.inr q)) : False := by
  simp only [m_step] at h
  split at h
  · split at h <;> cases h
  · cases h
theorem nr_iastore (h : m_step L xs mid pc lv st w .iastore = some (.inr q)) : False := by
  simp only [m_step] at h
  split at h
  · split at h <;> cases h
  · cases h
theorem nr_bastore (h : m_step L xs mid pc lv st w .bastore = some (.inr q)) : False := by
  simp only [m_step] at h
  split at h
  · split at h <;> cases h
  · cases h
theorem nr_lastore (h : m_step L xs mid pc lv st w .lastore = some (.inr q)) : False := by
  simp only [m_step] at h
  split at h
  · split at h <;> cases h
  · cases h
theorem nr_aastore (h : m_step L xs mid pc lv st w .aastore = some (.inr q)) : False := by
  simp only [m_step] at h
  split at h
  · split at h <;> cases h
  · cases h
theorem nr_arraylength (h : m_step L xs mid pc lv st w .arraylength = some (.inr q)) : False := by
  simp only [m_step] at h
  split at h
  · split at h <;> cases h
  · cases h
theorem nr_newarray {a : ArrayType} (h : m_step L xs mid pc lv st w (.newarray a) = some (.inr q)) : False := by
  simp only [m_step] at h
  split at h
  · split at h
    · exact nr_new h
    · exact nr_new h
    · exact nr_new h
    · cases h
  · cases h
theorem nr_anewarray (h : m_step L xs mid pc lv st w (.anewarray ix) = some (.inr q)) : False := by
  simp only [m_step] at h
  split at h
  · split at h
    · exact nr_new h
    · cases h
  · cases h
theorem nr_new0 (h : m_step L xs mid pc lv st w (.new ix) = some (.inr q)) : False := by
  simp only [m_step] at h
  split at h <;> cases h
theorem nr_checkcast (h : m_step L xs mid pc lv st w (.checkcast ix) = some (.inr q)) : False := by
  simp only [m_step] at h
  split at h
  · split at h <;> cases h
  · cases h
theorem nr_ireturn {y : Nat × List Value × List Value} (h : m_step L xs mid pc lv st w .ireturn = some (.inr (.inl y))) : False := by
  simp only [m_step] at h
  split at h <;> cases h
theorem nr_lreturn {y : Nat × List Value × List Value} (h : m_step L xs mid pc lv st w .lreturn = some (.inr (.inl y))) : False := by
  simp only [m_step] at h
  split at h <;> cases h
theorem nr_areturn {y : Nat × List Value × List Value} (h : m_step L xs mid pc lv st w .areturn = some (.inr (.inl y))) : False := by
  simp only [m_step] at h
  split at h <;> cases h
theorem nr_return_ {y : Nat × List Value × List Value} (h : m_step L xs mid pc lv st w .return_ = some (.inr (.inl y))) : False := by
  simp only [m_step] at h
  split at h <;> cases h
theorem nr_invokestatic {v : Option Value} (h : m_step L xs mid pc lv st w (.invokestatic ix) = some (.inr (.inr v))) : False := by
  simp only [m_step] at h
  split at h
  · split at h
    · split at h
      · exact m_call_nr h
      · cases h
    · split at h <;> cases h
  · split at h
    · exact m_call_nr h
    · cases h
  · split at h
    · split at h
      · split at h
        · split at h <;> cases h
        · cases h
      · cases h
    · cases h
  · cases h
theorem nr_invokevirtual {v : Option Value} (h : m_step L xs mid pc lv st w (.invokevirtual ix) = some (.inr (.inr v))) : False := by
  simp only [m_step] at h
  split at h
  · split at h
    · split at h
      · exact m_call_nr h
      · cases h
    · cases h
  · split at h
    · split at h
      · exact m_call_nr h
      · cases h
    · cases h
  · split at h
    · split at h
      · split at h <;> cases h
      · cases h
    · cases h
  · cases h
theorem nr_invokespecial {v : Option Value} (h : m_step L xs mid pc lv st w (.invokespecial ix) = some (.inr (.inr v))) : False := by
  simp only [m_step] at h
  split at h
  · split at h
    · exact m_call_nr h
    · cases h
  · split at h
    · exact m_call_nr h
    · cases h
  · split at h
    · split at h <;> cases h
    · cases h
  · cases h
end NR
def mCalls (B L : Nat) (xs : Nat → Int32) (X : Nat → Nat) (dT : Nat → ClassId) (D : va_G) (mid pc : Nat) (st : List Value) (w : mWd) (y : Nat) (as r : List Value) : Prop :=
  (y < 274 ∧ m_pl y = true) ∧ m_cat as ≤ pgL y ∧ ∀ (p : Program) (l : Launch) (e : Env) (R : Room) (s : State) (m : MethodId) (args : Array Value) (below : List Frame) (meth : Method) (c : Code) (H : Heap) (locs : List Loc) (cells slots : Nat) (Q : State → Prop) (ls : Array Slot),
    mFr p s m meth c mid B L xs X dT D → mOK B X dT D w H → va_S (fun q : Nat => B ≤ q) s.heap H locs → ls.size = pgL mid → mCallOK p l e R s m args below meth c H locs cells slots Q pc ls B L xs X dT D w y as r st
