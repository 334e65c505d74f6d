/-! A STEP OF THE SMALL MACHINE IS A STEP OF THE MACHINE -/
def mFr (p : Program) (s : State) (m : MethodId) (meth : Method) (c : Code) (mid B L : Nat) (xs : Nat → Int32) (X : Nat → Nat) (dT : Nat → ClassId) (D : va_G) : Prop :=
  p.tables.exec = Jvm.exec ∧ c.code = pgB mid ∧ c.maxLocals = pgL mid ∧ meth.sig.returnType = pgT mid ∧ meth.locks = false ∧ s.vm.findClass (pgO.getD (pgOw mid) "") = some m.cls ∧ meth.name = (pgN mid).name ∧ mCtx B L xs X dT D s
def m_sz (c : mE) : Nat := match c with
  | .inl (_, n, _) => n
  | .inr (_, fs) => fs.length
def m_sl (w : mWd) : Nat := (w.map m_sz).sum
theorem m_sl_app (w : mWd) (c : mE) : m_sl (w ++ [c]) = m_sl w + m_sz c := by simp [m_sl]
theorem m_sl_set {w : mWd} {i : Nat} {c0 c : mE} (h : w[i]? = some c0) (e : m_sz c = m_sz c0) : m_sl (w.set i c) = m_sl w := by
  induction w generalizing i with
  | nil => cases h
  | cons a w ih =>
    cases i with
    | zero =>
      cases h
      simp [m_sl, e]
    | succ i =>
      have h1 := ih (i := i) (by simpa using h)
      unfold m_sl at h1 ⊢
      simp only [List.set_cons_succ, List.map_cons, List.sum_cons, h1]
theorem m_layg (C : String) (T : u_T) (k : Nat) : goodWord (u_lay C T k) = true := by
  unfold u_lay
  split <;> rfl
section RW
variable {p : Program} {l : Launch} {e : Env} {R : Room} {s : State} {m : MethodId} {args : Array Value} {below : List Frame} {meth : Method} {c : Code} {H : Heap} {locs : List Loc} {cells slots : Nat} {Q : State → Prop}
variable {pc : Nat} {ls : Array Slot} {B L mid : Nat} {xs : Nat → Int32} {X : Nat → Nat} {dT : Nat → ClassId} {D : va_G} {w : mWd} {rest : List Value}
theorem r_fld {ix ci : Nat} {k : Int} (hr : pgRs mid ix = some (0, ci, k) ∨ pgRs mid ix = some (1, ci, k)) : ∃ (C : String) (T : u_T) (N : Nat), vwCl[ci]? = some (C, T, N) ∧ k.toNat < N ∧ (T k.toNat).1 = C ∧ (∀ w ∈ u_ws C T N, w ∈ lw_tbl) ∧
    ((pgRs mid ix = some (0, ci, k) ∧ Cond.fieldLink (pgO.getD (pgOw mid) "") ix C (T k.toNat).2.1 (T k.toNat).2.2.1 ∈ lw_tbl) ∨ (pgRs mid ix = some (1, ci, k) ∧ (T k.toNat).2.2.2 = false ∧ Cond.fieldLinkNest (pgO.getD (pgOw mid) "") ix C (T k.toNat).2.1 (T k.toNat).2.2.1 "ReelBack" ∈ lw_tbl) ∨ (pgRs mid ix = some (1, ci, k) ∧ Cond.fieldLinkNest (pgO.getD (pgOw mid) "") ix C (T k.toNat).2.1 (T k.toNat).2.2.1 "ReelBack" ∈ lw_tbl)) := by
  rcases hr with hr | hr
  · obtain ⟨hm, hk⟩ := pgRs_ok hr
    simp only [pgW, pgKd] at hm hk
    cases hc : vwCl[ci]? with
    | none => rw [hc] at hk; cases hk
    | some q =>
      obtain ⟨C, T, N⟩ := q
      rw [hc] at hm hk
      simp only [Bool.and_eq_true, decide_eq_true_eq] at hk
      exact ⟨C, T, N, rfl, hk.1, hk.2, (pgLay_ok hc).1, Or.inl ⟨hr, hm⟩⟩
  · obtain ⟨hm, hk⟩ := pgRs_ok hr
    simp only [pgW, pgKd] at hm hk
    cases hc : vwCl[ci]? with
    | none => rw [hc] at hk; cases hk
    | some q =>
      obtain ⟨C, T, N⟩ := q
      rw [hc] at hm hk
      simp only [Bool.and_eq_true, decide_eq_true_eq] at hk
      exact ⟨C, T, N, rfl, hk.1, hk.2, (pgLay_ok hc).1, Or.inr (Or.inr ⟨hr, hm⟩)⟩
theorem r_getf (F : mFr p s m meth c mid B L xs X dT D) (hok : mOK B X dT D w H) {ix ci i : Nat} {k : Int} {fs : List Value} {v : Value} (hr : pgRs mid ix = some (0, ci, k) ∨ pgRs mid ix = some (1, ci, k)) (hw : w[i]? = some (.inr (ci, fs))) (hv : fs[k.toNat]? = some v) (hdg : decode (pgB mid) pc = .ok (.getfield ix, 3))
    (kk : W p l e R s m args below meth c H locs cells slots Q (F0 m (pc + 3) ls (mv B X v :: rest))) : W p l e R s m args below meth c H locs cells slots Q (F0 m pc ls (.ref (B + i) :: rest)) := by
  obtain ⟨hx, hb, -, -, -, hown, -, G, Nw, K, -⟩ := F
  obtain ⟨C, T, N, hc, hk, hT, hlay, h⟩ := r_fld hr
  have hts : ∀ w ∈ u_ws C T N, w.before args s = true := fun w hw => by
    obtain ⟨k, -, rfl⟩ := List.mem_map.mp hw
    exact G _ (hlay _ hw) (m_layg C T k) _
  rcases h with ⟨-, h⟩ | ⟨-, -, h⟩ | ⟨-, h⟩
  · exact va_get (D := D) (Ts := u_ws C T N) hx hb hts (fun _ h => h) hown K hok.2 i (mZ_at hw) hc k.toNat hk (G _ h rfl _) (fun x h => by rw [hT] at h; exact h) (mv_map_get hv) hdg kk
  · exact va_getN (D := D) (Ts := u_ws C T N) hx hb hts (fun _ h => h) hown K hok.2 i (mZ_at hw) hc k.toNat hk (va_Nw.use rfl (Nw _ h rfl)) (fun x h => by rw [hT] at h; exact h) (mv_map_get hv) hdg kk
  · exact va_getN (D := D) (Ts := u_ws C T N) hx hb hts (fun _ h => h) hown K hok.2 i (mZ_at hw) hc k.toNat hk (va_Nw.use rfl (Nw _ h rfl)) (fun x h => by rw [hT] at h; exact h) (mv_map_get hv) hdg kk
end RW
