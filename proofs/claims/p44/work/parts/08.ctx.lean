/-! WHAT HOLDS AT EVERY FRAME's start: the tables' words, the classes, the outer cells -/
def m_nest (w : Cond) : Bool := match w with
  | .fieldLinkNest .. => true
  | .methodLinkNest .. => true
  | _ => false
def mExt (B L : Nat) (xs : Nat → Int32) (X : Nat → Nat) (s : State) (H : Heap) : Prop :=
  (∀ (k t n : Nat) (f : Nat → Int32), pgX L xs k = some (t, n, f) → va_T (if t = 0 then .int else .byte) (X k) n (fun j => .int (f j)) (fun q : Nat => B ≤ q) s H) ∧
  (∀ a : Nat, 0 < a → a < 4 → va_Z (pgStat a).1 (pgStat a).2.1 (pgStat a).2.2 (.ref (X a)) (fun q : Nat => B ≤ q) s H) ∧
  va_Z "java/lang/String" "COMPACT_STRINGS" "Z" (.int 1) (fun q : Nat => B ≤ q) s H ∧ va_O "java/lang/String" (X 4) (fun q : Nat => B ≤ q) s H ∧
  va_OF "java/lang/String" "coder" "B" (.int 0) (X 4) (fun q : Nat => B ≤ q) s H ∧ va_OF "java/lang/String" "value" "[B" (.ref (X 5)) (X 4) (fun q : Nat => B ≤ q) s H
theorem mExt.moved {B L : Nat} {xs : Nat → Int32} {X : Nat → Nat} {u U : State} {H : Heap} (hvm : u.vm.Alike U.vm) (h : mExt B L xs X u H) : mExt B L xs X U H :=
  ⟨fun k t n f hk => va_T.moved hvm (h.1 k t n f hk), fun a h1 h2 => va_Z.moved hvm (h.2.1 a h1 h2), va_Z.moved hvm h.2.2.1, va_O.moved hvm h.2.2.2.1, va_OF.moved hvm h.2.2.2.2.1, va_OF.moved hvm h.2.2.2.2.2⟩
theorem mExt.kept {B L : Nat} {xs : Nat → Int32} {X : Nat → Nat} {U : State} {H H1 : Heap} (h : mExt B L xs X U H) (hq : ∀ a : Nat, a < H.size → ¬ (B ≤ a) → H1[a]? = H[a]?) : mExt B L xs X U H1 :=
  ⟨fun k t n f hk => va_T.kept (h.1 k t n f hk) hq, fun a h1 h2 => va_Z.kept (h.2.1 a h1 h2) hq, va_Z.kept h.2.2.1 hq, va_O.kept h.2.2.2.1 hq, va_OF.kept h.2.2.2.2.1 hq, va_OF.kept h.2.2.2.2.2 hq⟩
def mCtx (B L : Nat) (xs : Nat → Int32) (X : Nat → Nat) (dT : Nat → ClassId) (D : va_G) (s : State) : Prop :=
  (∀ w ∈ lw_tbl, goodWord w = true → ∀ a : Array Value, w.before a s = true) ∧ (∀ w ∈ lw_tbl, m_nest w = true → va_Nw w s) ∧ va_K D vwCl (pgTys dT) s ∧ mExt B L xs X s s.heap ∧
  va_AO "ReelBack$Cost" s ∧ (Cond.arrayOver (.array .int)).before #[] s = true ∧ va_Nw (.castable "[I" "java/lang/Cloneable") s ∧ (∃ kA : Class, s.vm.classes[dT 4]? = some kA ∧ kA.kind = .array (dT 0) (.array .int)) ∧ vk_R "ReelBack$Reader" 54 "kscelrypnj" (X 4) s
theorem mAO_moved {u U : State} (hvm : u.vm.Alike U.vm) (h : (Cond.arrayOver (.array .int)).before #[] u = true) : (Cond.arrayOver (.array .int)).before #[] U = true := by
  obtain ⟨comp, c, k, h1, h2, h3, h4, h5⟩ := arrayOverA_spec h
  obtain ⟨k', hk', he⟩ := hvm.2.2 _ _ h3
  have hi : (U.vm.classes.findIdx? fun (x : Class) => match x.kind with | .array component _ => component == comp | _ => false) = some c := by
    refine (va_idx_bare U.vm comp).symm.trans ?_
    first | rw [hvm.bare_eq] | rw [← hvm.bare_eq]
    exact (va_idx_bare u.vm comp).trans h2
  have hkind : k'.kind = .array comp (.array .int) := by rw [he]; exact h4
  have f1 : U.vm.findClass (FieldType.array .int).toString = some comp := by rw [hvm.findClass]; exact h1
  have f2 : U.vm.findClass ("[" ++ (FieldType.array .int).toString) = some c := by rw [hvm.findClass]; exact h5
  unfold Cond.before Cond.holds
  simp only [Cond.value]
  rw [f1, Option.bind_some]
  refine (congrArg (fun o : Option Nat => (o.bind (fun c => (U.vm.classes[c]?).map fun (k : Class) => match k.kind with | .array _ ty => decide (ty = FieldType.array .int) && decide (U.vm.findClass ("[" ++ (FieldType.array .int).toString) = some c) | _ => false) == some true)) hi).trans ?_
  simp [hk', hkind, f2]
theorem mCtx.move {B L : Nat} {xs : Nat → Int32} {X : Nat → Nat} {dT : Nat → ClassId} {D : va_G} {s U : State} {locs : List Loc} (h : mCtx B L xs X dT D s) (hW : s.WarmedH U.vm) (hS : va_S (fun q : Nat => B ≤ q) s.heap U.heap locs) : mCtx B L xs X dT D U := by
  obtain ⟨h1, h2, h3, h4, h5, h6, h7, ⟨kA, h8, h9⟩, h10⟩ := h
  refine ⟨fun w hw hg a => word_at hW (good_of_word hg) (h1 w hw hg #[]), fun w hw hn => ?_, va_K.moved hW.alike h3, (h4.moved hW.alike).kept hS.2.1, va_AO.moved hW.alike h5, mAO_moved hW.alike h6, va_Nw.warmC hW h7, ?_, vk_R.warm hW h10⟩
  · have hz := h2 w hw hn
    cases w <;> first | (cases hn; done) | exact va_Nw.warmF hW hz | exact va_Nw.warmM hW hz
  · obtain ⟨k', hk', he⟩ := hW.alike.2.2 _ _ h8
    exact ⟨k', hk', by rw [he]; exact h9⟩
/-- the same state but for its frame -/
theorem mCtx.same {B L : Nat} {xs : Nat → Int32} {X : Nat → Nat} {dT : Nat → ClassId} {D : va_G} {s U : State} (h : mCtx B L xs X dT D s) (hv : U.vm = s.vm) (hh : U.heap = s.heap) : mCtx B L xs X dT D U := by
  have hal : s.vm.Alike U.vm := by rw [hv]; exact Vm.Alike.refl s.vm
  obtain ⟨h1, h2, h3, h4, h5, h6, h7, h8, h10⟩ := h
  refine ⟨fun w hw hg a => ?_, fun w hw hn => ?_, va_K.moved hal h3, by rw [hh]; exact h4.moved hal, va_AO.moved hal h5, mAO_moved hal h6, va_Nw.same rfl hv.symm h7, by rw [hv]; exact h8, vk_R.same hv h10⟩
  · have h9 := h1 w hw hg #[]
    rcases good_of_word hg with hg2 | ⟨ty, rfl⟩
    · rw [Bool.and_eq_true] at hg2
      exact va_tabs hg2.1 hv.symm h9
    · simp only [Cond.before, Cond.holds, Cond.value] at h9 ⊢
      rw [hv]
      exact h9
  · have hz := h2 w hw hn
    cases w <;> first | (cases hn; done) | exact va_Nw.same rfl hv.symm hz
