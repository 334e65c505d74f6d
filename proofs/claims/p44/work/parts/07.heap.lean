/-! THE WORLD of the small machine in the heap: the cell at place i stands at B + i; nothing else was made since B -/
abbrev pgTys (dT : Nat → ClassId) : List (ClassId × FieldType) := [(dT 0, .int), (dT 1, .boolean), (dT 2, .long), (dT 3, .object "ReelBack$Cost"), (dT 4, .array .int)]
def mc (B : Nat) (X : Nat → Nat) (dT : Nat → ClassId) (c : mE) : va_E := match c with
  | .inl (t, n, .inl f) => .inl (dT t, n, .inl f)
  | .inl (t, n, .inr (.inl f)) => .inl (dT t, n, .inr (.inl f))
  | .inl (t, n, .inr (.inr (.inl f))) => .inl (dT t, n, .inr (.inr (.inl f)))
  | .inl (t, n, .inr (.inr (.inr (.inl f)))) => .inl (dT t, n, .inr (.inr (.inr (.inl f))))
  | .inl (t, n, .inr (.inr (.inr (.inr f)))) => .inl (dT t, n, .inr (.inr (.inr (.inr (fun j => (f j).map (fun a => B + a))))))
  | .inr (ci, fs) => .inr (ci, fs.map (mv B X))
def mZ (B : Nat) (X : Nat → Nat) (dT : Nat → ClassId) (w : mWd) : va_W := w.mapIdx (fun i c => (B + i, mc B X dT c))
section MZ
variable {B : Nat} {X : Nat → Nat} {dT : Nat → ClassId} {D : va_G} {w : mWd} {H H1 H0 : Heap} {locs : List Loc}
theorem mZ_get (i : Nat) : (mZ B X dT w)[i]? = (w[i]?).map (fun c => (B + i, mc B X dT c)) := by
  unfold mZ
  rw [List.getElem?_mapIdx]
theorem mZ_at {i : Nat} {c : mE} (h : w[i]? = some c) : (mZ B X dT w)[i]? = some (B + i, mc B X dT c) := by rw [mZ_get, h]; rfl
theorem mZ_len : (mZ B X dT w).length = w.length := by unfold mZ; rw [List.length_mapIdx]
theorem mZ_set {i : Nat} {c0 c : mE} (h : w[i]? = some c0) : (mZ B X dT w).set i (B + i, mc B X dT c) = mZ B X dT (w.set i c) := by
  have hl := (List.getElem?_eq_some_iff.mp h).1
  apply List.ext_getElem?
  intro k
  rw [mZ_get, List.getElem?_set, List.getElem?_set, mZ_get, mZ_len]
  by_cases hk : i = k
  · subst hk
    simp [hl]
  · simp [hk]
theorem mZ_app {c : mE} : mZ B X dT (w ++ [c]) = mZ B X dT w ++ [(B + w.length, mc B X dT c)] := by
  unfold mZ
  rw [List.mapIdx_append]
  simp
theorem mZ_D : va_D (fun q : Nat => B ≤ q) (mZ B X dT w) := by
  refine ⟨fun i j p q hp hq e => ?_, fun k q hq => ?_⟩
  · rw [mZ_get] at hp hq
    obtain ⟨c, -, rfl⟩ := Option.map_eq_some_iff.mp hp
    obtain ⟨c', -, rfl⟩ := Option.map_eq_some_iff.mp hq
    exact Nat.add_left_cancel e
  · rw [mZ_get] at hq
    obtain ⟨c, -, rfl⟩ := Option.map_eq_some_iff.mp hq
    exact Nat.le_add_right B k
def mOK (B : Nat) (X : Nat → Nat) (dT : Nat → ClassId) (D : va_G) (w : mWd) (H : Heap) : Prop := H.size = B + w.length ∧ va_P D vwCl (mZ B X dT w) H
theorem mOK.set (h : mOK B X dT D w H) {i : Nat} {c0 c : mE} (hi : w[i]? = some c0) (he : va_at D vwCl (B + i, mc B X dT c) H1) (z : H1.size = H.size) (oq : ∀ q : Nat, q ≠ B + i → H1[q]? = H[q]?) : mOK B X dT D (w.set i c) H1 :=
  ⟨by rw [List.length_set, z]; exact h.1, by rw [← mZ_set hi]; exact h.2.set mZ_D (mZ_at hi) he oq⟩
theorem mOK.push (h : mOK B X dT D w H) {c : mE} (he : va_at D vwCl (B + w.length, mc B X dT c) H1) (z : H1.size = H.size + 1) (oq : ∀ q : Nat, q < H.size → H1[q]? = H[q]?) : mOK B X dT D (w ++ [c]) H1 := by
  refine ⟨by rw [z, h.1, List.length_append]; rfl, ?_⟩
  rw [mZ_app]
  refine (h.2.kept fun k q hk => oq q.1 (h.2 k q hk).lt).app fun k q hk => ?_
  have hz : k < 1 := (List.getElem?_eq_some_iff.mp hk).1
  rw [show k = 0 by omega] at hk
  cases hk
  exact he
theorem mS_put {i k : Nat} (hS : va_S (fun q : Nat => B ≤ q) H0 H locs) (z : H1.size = H.size) (oq : ∀ q : Nat, q ≠ B + i → H1[q]? = H[q]?) : va_S (fun q : Nat => B ≤ q) H0 H1 (locs ++ [⟨B + i, k⟩]) := hS.put z oq (Nat.le_add_right B i)
theorem mS_push (hS : va_S (fun q : Nat => B ≤ q) H0 H locs) (z : H1.size = H.size + 1) (oq : ∀ q : Nat, q < H.size → H1[q]? = H[q]?) : va_S (fun q : Nat => B ≤ q) H0 H1 locs :=
  ⟨Nat.le_trans hS.1 (by omega), fun q h1 h2 => (oq q (Nat.lt_of_lt_of_le h1 hS.1)).trans (hS.2.1 q h1 h2), hS.2.2⟩
theorem mv_map_get {fs : List Value} {k : Nat} {v : Value} (h : fs[k]? = some v) : (fs.map (mv B X))[k]? = some (mv B X v) := by rw [List.getElem?_map, h]; rfl
theorem mc_set {ci k : Nat} {fs : List Value} {v : Value} : mc B X dT (.inr (ci, fs.set k v)) = .inr (ci, (fs.map (mv B X)).set k (mv B X v)) := by
  show Sum.inr (ci, (fs.set k v).map (mv B X)) = _
  rw [List.map_set]
theorem m_in_ok {j : Int32} {n : Nat} (h : m_in j n = true) : vp_in j n := by
  unfold m_in at h
  rw [decide_eq_true_eq] at h
  exact h
theorem m_fits_ok {ty : FieldType} {v : Value} (h : m_fits ty v = true) : narrow ty (mv B X v) = mv B X v ∧ fits ty (mv B X v) = true := by
  cases ty <;> cases v <;> first | (cases h; done) | exact ⟨rfl, rfl⟩ | skip
  rename_i x
  simp only [m_fits, Bool.or_eq_true, decide_eq_true_eq] at h
  rcases h with rfl | rfl <;> exact ⟨rfl, rfl⟩
end MZ
theorem m_cat_map (B : Nat) (X : Nat → Nat) (vs : List Value) : ((vs.map (mv B X)).map fun v => v.category).sum = m_cat vs := by
  unfold m_cat
  rw [List.map_map]
  congr 1
  apply List.map_congr_left
  intro v _
  exact mv_cat B X v
