/-! THE RUN OF THE SMALL MACHINE IS A RUN OF THE MACHINE -/
theorem m_run_mono {L : Nat} {xs : Nat → Int32} : ∀ (n d mid pc : Nat) (lv : mL) (st : List Value) (w : mWd) (v : Option Value) (w1 : mWd), m_run L xs n d mid pc lv st w = some (v, w1) → w.length ≤ w1.length ∧ m_sl w ≤ m_sl w1 := by
  intro n
  induction n with
  | zero => intro d mid pc lv st w v w1 h; cases h
  | succ n ih =>
    intro d mid pc lv st w v w1 h
    cases d with
    | zero => cases h
    | succ d =>
      simp only [m_run] at h
      split at h
      next => cases h
      next ins k hf =>
        split at h
        next => cases h
        next pc' l' st' w' hs =>
          obtain ⟨dc, ds, h1, h2, -⟩ := m_next (B := 0) (X := fun _ => 0) (dT := fun _ => 0) (D := (fun _ => 0, fun _ _ => 0)) (pgF_ok hf) hs
          obtain ⟨h3, h4⟩ := ih _ _ _ _ _ _ _ _ h
          exact ⟨by omega, by omega⟩
        next y as r hs =>
          split at h
          next => cases h
          next v2 w2 h2 =>
            obtain ⟨h3, h4⟩ := ih _ _ _ _ _ _ _ _ h2
            obtain ⟨h5, h6⟩ := ih _ _ _ _ _ _ _ _ h
            exact ⟨by omega, by omega⟩
        next v2 hs =>
          cases h
          exact ⟨Nat.le_refl _, Nat.le_refl _⟩
theorem m_args (B : Nat) (X : Nat → Nat) : ∀ (i : Nat) (as : List Value), mlv B X (lv_args i as) = lv_args i (as.map (mv B X))
  | _, [] => rfl
  | i, v :: as => by
    show (i, mv B X v) :: mlv B X (lv_args (if v.category = 2 then i + 2 else i + 1) as) = (i, mv B X v) :: lv_args (if (mv B X v).category = 2 then i + 2 else i + 1) (as.map (mv B X))
    rw [m_args B X _ as, mv_cat]
theorem m_lgsl : ∀ (as : List Value), (lg_sl as).length = m_cat as
  | [] => rfl
  | v :: as => by
    have h := m_lgsl as
    unfold lg_sl at h ⊢
    unfold m_cat at h ⊢
    rw [List.flatMap_cons, List.length_append, h, List.map_cons, List.sum_cons]
    congr 1
    rcases lv_cat v with e | e <;> simp [e]
theorem m_lgmap (B : Nat) (X : Nat → Nat) (as : List Value) : (lg_sl (as.map (mv B X))).length = m_cat as := by
  rw [m_lgsl]
  exact m_cat_map B X as
section AD
variable {L B : Nat} {xs : Nat → Int32} {X : Nat → Nat} {dT : Nat → ClassId} {D : va_G}
/-- what a run says of a frame: it comes to a return with that answer and that world -/
def mGood (l : Launch) (L B : Nat) (xs : Nat → Int32) (X : Nat → Nat) (dT : Nat → ClassId) (D : va_G) (d mid pc : Nat) (lv : mL) (st : List Value) (w : mWd) (v : Option Value) (w1 : mWd) : Prop :=
  ∀ (p : Program) (e : Env) (R : Room) (s : State) (m : MethodId) (args : Array Value) (below : List Frame) (meth : Method) (c : Code) (H : Heap) (locs : List Loc) (cells slots : Nat) (ls : Array Slot) (Q : State → Prop),
    mFr p s m meth c mid B L xs X dT D → d ≤ R.frames → 100 * d ≤ R.locals → cells + (w1.length - w.length) ≤ R.cells → slots + (m_sl w1 - m_sl w) ≤ R.slots → mOK B X dT D w H → va_S (fun q : Nat => B ≤ q) s.heap H locs → lv_has ls (pgL mid) (mlv B X lv) →
    (∀ (pcr o : Nat) (ins : Instr) (H1 : Heap) (locs1 : List Loc) (ls1 : Array Slot) (str : List Value), decode (pgB mid) pcr = .ok (ins, 1) → ((o = 0 ∧ ins = .ireturn) ∨ (o = 1 ∧ ins = .lreturn) ∨ (o = 2 ∧ ins = .areturn) ∨ (o = 3 ∧ ins = .return_)) → m_ret (pgT mid) o str = some v → mOK B X dT D w1 H1 → va_S (fun q : Nat => B ≤ q) s.heap H1 locs1 → lv_has ls1 (pgL mid) (mlv B X []) → W p l e R s m args below meth c H1 locs1 (cells + (w1.length - w.length)) (slots + (m_sl w1 - m_sl w)) Q (F0 m pcr ls1 (str.map (mv B X)))) →
    W p l e R s m args below meth c H locs cells slots Q (F0 m pc ls (st.map (mv B X)))
/-- a method's contract out of its frame -/
theorem m_met {l : Launch} {d y : Nat} {as : List Value} {w w1 : mWd} {v : Option Value} (hy : y < 274 ∧ m_pl y = true) (hcat : m_cat as ≤ pgL y) (h : mGood l L B xs X dT D d y 0 (lv_args 0 as) [] w v w1) :
    Met l (pgN y) (mWs y) ({ frames := d, cells := w1.length - w.length, slots := m_sl w1 - m_sl w, locals := 100 * d } : Room) (mPc B L xs X dT D as w) (mQ B X dT D v w1) (w1.length - w.length) (m_sl w1 - m_sl w) (fun q : Nat => B ≤ q) := by
  obtain ⟨a1, a2, a3, a4, a5, a6, a7, a8, a9⟩ := pgM_all hy
  refine Met.ofW (cc := pgB y) (maxL := pgL y) (ret := pgT y) a7 rfl ?_
  intro p e s m args below meth c s₁ Bd hml hv
  obtain ⟨rfl, hok, hC⟩ := hv
  have hown : s.vm.findClass (pgN y).cls = some m.cls := findClass_of_methodNamed Bd.named
  have F : mFr p s m meth c y B L xs X dT D := ⟨Bd.exec, Bd.bytes, hml, Bd.returns, Bd.notSynchronized, by rw [a8]; exact hown, (name_of_methodNamed Bd.named Bd.method).1, hC⟩
  have hl := lv_entry (as.map (mv B X)) (n := pgL y) (by rw [m_lgmap]; exact hcat)
  rw [lg_entry_eq]
  generalize (lg_sl (as.map (mv B X)) ++ List.replicate (pgL y - (lg_sl (as.map (mv B X))).length) Slot.unset).toArray = ls at hl ⊢
  rw [← m_args] at hl
  refine h p e ({ frames := d, cells := w1.length - w.length, slots := m_sl w1 - m_sl w, locals := 100 * d } : Room) s m (as.map (mv B X)).toArray below meth c s.heap [] 0 0 ls _ F (Nat.le_refl _) (Nat.le_refl _) (by show 0 + (w1.length - w.length) ≤ w1.length - w.length; omega) (by show 0 + (m_sl w1 - m_sl w) ≤ m_sl w1 - m_sl w; omega) hok va_S.rf hl (fun pcr o ins H1 locs1 ls1 str g1 g2 g3 g4 g5 _ => ?_)
  rw [Nat.zero_add, Nat.zero_add]
  exact m_retI F g4 g5 g2 g3 g1
theorem m_adq (l : Launch) : ∀ (n d mid pc : Nat) (lv : mL) (st : List Value) (w : mWd) (v : Option Value) (w1 : mWd), m_run L xs n d mid pc lv st w = some (v, w1) → mGood l L B xs X dT D d mid pc lv st w v w1 := by
  intro n
  induction n with
  | zero => intro d mid pc lv st w v w1 h; cases h
  | succ n ih =>
    intro d mid pc lv st w v w1 h
    cases d with
    | zero => cases h
    | succ d =>
      simp only [m_run] at h
      split at h
      next => cases h
      next ins k hf =>
        have hdg := pgF_ok hf
        split at h
        next => cases h
        next pc' l' st' w' hs =>
          obtain ⟨dc, ds, h1, h2, hn⟩ := m_next (B := B) (X := X) (dT := dT) (D := D) hdg hs
          obtain ⟨h3, h4⟩ := m_run_mono _ _ _ _ _ _ _ _ _ h
          intro p e R s m args below meth c H locs cells slots ls Q F hR1 hR2 hc1 hc2 hok hS hl hret
          refine hn p l e R s m args below meth c H locs cells slots Q ls F (by omega) (by omega) (by omega) (by omega) hok hS hl fun H1 locs1 ls1 g1 g2 g3 => ?_
          have e1 : cells + dc + (w1.length - w'.length) = cells + (w1.length - w.length) := by omega
          have e2 : slots + ds + (m_sl w1 - m_sl w') = slots + (m_sl w1 - m_sl w) := by omega
          exact ih _ _ _ _ _ _ _ _ h p e R s m args below meth c H1 locs1 (cells + dc) (slots + ds) ls1 Q F hR1 hR2 (by omega) (by omega) g1 g2 g3 (by rw [e1, e2]; exact hret)
        next y as r hs =>
          split at h
          next => cases h
          next v2 w2 h2 =>
            obtain ⟨hlen, hy, hcat, hcall⟩ := m_calls hdg hs
            obtain ⟨h3, h4⟩ := m_run_mono _ _ _ _ _ _ _ _ _ h2
            obtain ⟨h5, h6⟩ := m_run_mono _ _ _ _ _ _ _ _ _ h
            have hM := m_met (d := d) hy hcat (ih _ _ _ _ _ _ _ _ h2)
            have h60 := (pgM_all hy).2.2.2.2.2.2.2.2
            intro p e R s m args below meth c H locs cells slots ls Q F hR1 hR2 hc1 hc2 hok hS hl hret
            refine hcall p l e R s m args below meth c H locs cells slots Q ls F hok hS hl.1 _ _ _ v2 w2 hM rfl rfl (by show d + 1 ≤ R.frames; omega) (by show 8 + (pgL y + 11) + 100 * d ≤ R.locals; omega) (by omega) (by omega) fun H1 locs1 g1 g2 => ?_
            have e1 : cells + (w2.length - w.length) + (w1.length - w2.length) = cells + (w1.length - w.length) := by omega
            have e2 : slots + (m_sl w2 - m_sl w) + (m_sl w1 - m_sl w2) = slots + (m_sl w1 - m_sl w) := by omega
            exact ih _ _ _ _ _ _ _ _ h p e R s m args below meth c H1 locs1 (cells + (w2.length - w.length)) (slots + (m_sl w2 - m_sl w)) ls Q F hR1 hR2 (by omega) (by omega) g1 g2 hl (by rw [e1, e2]; exact hret)
        next v2 hs =>
          cases h
          obtain ⟨o, ho, hr⟩ := m_rets hs
          intro p e R s m args below meth c H locs cells slots ls Q F hR1 hR2 hc1 hc2 hok hS hl hret
          have h1 : m_len ins k = 1 := by rcases ho with ⟨-, rfl⟩ | ⟨-, rfl⟩ | ⟨-, rfl⟩ | ⟨-, rfl⟩ <;> rfl
          rw [h1] at hdg
          have hz := hret pc o ins H locs ls st hdg ho hr hok hS ⟨hl.1, hl.2.1, fun q hq => by cases hq⟩
          rw [Nat.sub_self, Nat.sub_self] at hz
          exact hz
end AD
