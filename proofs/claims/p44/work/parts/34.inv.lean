/-! WHAT HOLDS OF THE WORLD at all times -/
abbrev zSp : Type := Nat × Int × Int
def okV (w : mWd) (sp : zSp) (v : Value) : Prop := match sp.1 with
  | 0 => ∃ i : Int32, v = .int i ∧ sp.2.1 ≤ i.toInt ∧ i.toInt ≤ sp.2.2
  | 1 => ∃ i : Int64, v = .long i
  | 2 => v = .ref sp.2.1.toNat
  | 3 => v = .null ∨ ∃ i, v = .ref i ∧ wC w i
  | 4 => v = .null ∨ ∃ i n, v = .ref i ∧ wT w i n
  | _ => False
theorem okV_up {w w' : mWd} (hw : w_le w w') {sp : zSp} {v : Value} (h : okV w sp v) : okV w' sp v := by
  obtain ⟨t, a, c⟩ := sp
  unfold okV at h ⊢
  match t, h with
  | 0, h => exact h
  | 1, h => exact h
  | 2, h => exact h
  | 3, h =>
    rcases h with h | ⟨i, h1, h2⟩
    · exact .inl h
    · exact .inr ⟨i, h1, wC_up hw h2⟩
  | 4, h =>
    rcases h with h | ⟨i, n, h1, h2⟩
    · exact .inl h
    · exact .inr ⟨i, n, h1, wT_up hw h2⟩
  | n + 5, h => exact h.elim
/-- a value as a spec has it, new to the store -/
def k_ld (K : sK) (sp : zSp) : sK × sV := match sp.1 with
  | 0 => k_mk 0 K sp.2.1 sp.2.2
  | 1 => k_all 1 K
  | 2 => (K, (2, sp.2.1.toNat, 0))
  | 3 => (k_new K (-1) 0, (3, K.1.length, 0))
  | _ => (k_new (k_new K (-1) 0) 0 161, (4, K.1.length, Int.ofNat (K.1.length + 1)))
theorem vL_new {vs : List Int} {K : sK} (h : nK vs K) (v : Int) : (vs ++ [v])[K.1.length]? = some v := by rw [h.len]; exact vL_last vs v
theorem k_ld_ok {vs : List Int} {K : sK} {w : mWd} {sp : zSp} {v : Value} (h : nK vs K) (hv : okV w sp v) : ∃ vs', vL vs vs' ∧ nK vs' (k_ld K sp).1 ∧ dn vs' w (k_ld K sp).2 v := by
  obtain ⟨t, a, c⟩ := sp
  unfold okV at hv
  match t, hv with
  | 0, ⟨i, h1, h2, h3⟩ =>
    obtain ⟨vs', e1, e2, e3, e4⟩ := k_mk_ok (.inl rfl) h h2 h3
    subst h1
    exact ⟨vs', e1, e2, dn_of_int e4 e3⟩
  | 1, ⟨i, h1⟩ =>
    obtain ⟨vs', e1, e2, e3, e4⟩ := k_all_ok (.inr rfl) h (i64_rg i)
    subst h1
    exact ⟨vs', e1, e2, dn_of_lng e4 e3⟩
  | 2, h1 => exact ⟨vs, vL_refl vs, h, h1⟩
  | 3, h1 =>
    rcases h1 with h1 | ⟨i, h1, h2⟩
    · exact ⟨vs ++ [-1], vL_app _ _, nK_new h (by decide) (by decide), -1, vL_new h _, .inl ⟨rfl, h1⟩⟩
    · exact ⟨vs ++ [0], vL_app _ _, nK_new h (by decide) (by decide), 0, vL_new h _, .inr ⟨rfl, i, h1, h2⟩⟩
  | 4, h1 =>
    rcases h1 with h1 | ⟨i, n, h1, h2⟩
    · have n1 := nK_new (lo := -1) (hi := 0) (v := -1) h (by decide) (by decide)
      exact ⟨vs ++ [-1] ++ [0], vL_trans (vL_app vs [-1]) (vL_app _ _), nK_new n1 (by decide) (by decide), -1, vL_app _ _ _ _ (vL_new h _), .inl ⟨rfl, h1⟩⟩
    · have n1 := nK_new (lo := -1) (hi := 0) (v := 0) h (by decide) (by decide)
      have hn : n ≤ 161 := h2.2.1
      refine ⟨vs ++ [0] ++ [(n : Int)], vL_trans (vL_app vs [0]) (vL_app _ _), nK_new n1 (by omega) (by omega), 0, vL_app _ _ _ _ (vL_new h _), .inr ⟨rfl, i, n, h1, h2, ?_⟩⟩
      show (vs ++ [0] ++ [(n : Int)])[K.1.length + 1]? = some (n : Int)
      have := vL_new n1 (n : Int)
      rw [show (k_new K (-1) 0).1.length = K.1.length + 1 by simp [k_new]] at this
      exact this
  | n + 5, h1 => exact h1.elim
/-- does a value keep a spec -/
def k_fit (K : sK) (sp : zSp) (s : sV) : Bool := match sp.1 with
  | 0 => k_tg 0 s && (z_le sp.2.1 (k_iv K s).1 && z_le (k_iv K s).2 sp.2.2)
  | 1 => k_tg 1 s
  | 3 => Nat.beq s.1 8 || Nat.beq s.1 3
  | 4 => Nat.beq s.1 8 || Nat.beq s.1 4
  | _ => false
theorem k_fit_ok {vs : List Int} {K : sK} {w : mWd} {sp : zSp} {s : sV} {v : Value} (h : nK vs K) (hv : dn vs w s v) (hf : k_fit K sp s = true) : okV w sp v := by
  obtain ⟨t, a, c⟩ := sp
  unfold k_fit at hf
  match t, hf with
  | 0, hf =>
    simp only [Bool.and_eq_true, z_le_iff] at hf
    obtain ⟨i, e1, e2⟩ := dn_int hv hf.1
    have := k_iv_ok h e2
    exact ⟨i, e1, by simp only at hf ⊢; omega, by simp only at hf ⊢; omega⟩
  | 1, hf =>
    obtain ⟨i, e1, e2⟩ := dn_lng hv hf
    exact ⟨i, e1⟩
  | 2, hf => cases hf
  | 3, hf =>
    obtain ⟨t', a', c'⟩ := s
    simp only [Bool.or_eq_true] at hf
    rcases hf with hf | hf
    · have := Nat.eq_of_beq_eq_true hf; subst this; exact .inl hv
    · have := Nat.eq_of_beq_eq_true hf; subst this
      obtain ⟨u, h1, h2⟩ := hv
      rcases h2 with ⟨-, h2⟩ | ⟨h2, i, h3, h4⟩
      · exact .inl h2
      · exact .inr ⟨i, h3, h4⟩
  | 4, hf =>
    obtain ⟨t', a', c'⟩ := s
    simp only [Bool.or_eq_true] at hf
    rcases hf with hf | hf
    · have := Nat.eq_of_beq_eq_true hf; subst this; exact .inl hv
    · have := Nat.eq_of_beq_eq_true hf; subst this
      obtain ⟨u, h1, h2⟩ := hv
      rcases h2 with ⟨-, h2⟩ | ⟨h2, i, n, h3, h4, h5⟩
      · exact .inl h2
      · exact .inr ⟨i, n, h3, h4⟩
  | n + 5, hf => cases hf
abbrev zCt : Type := (Nat → Int32) ⊕ (Nat → Int64) ⊕ (Nat → UInt32) ⊕ (Nat → UInt64) ⊕ (Nat → Option Nat)
def m_el (c : zCt) (j : Nat) : Value := match c with
  | .inl f => .int (f j)
  | .inr (.inl f) => .long (f j)
  | .inr (.inr (.inr (.inr f))) => m_opt f j
  | _ => .null
abbrev zS1 : Type := Nat × Nat × Nat × List zSp
/-- an element's spec: kind 7 is the list of seven that the data give -/
def z_es (W : List (Int × Int)) (e : zSp) (j : Nat) : zSp := bif Nat.beq e.1 7 then (0, W.getD (j % 7) (0, 0)) else e
def z_kd (t : Nat) : Nat := match t with
  | 0 => 0
  | 1 => 0
  | 2 => 1
  | _ => 4
def w_okC (W : List (Int × Int)) (w : mWd) (s : zS1) (c : mE) : Prop := match s.1 with
  | 0 => ∃ fs, c = .inr (s.2.1, fs) ∧ fs.length = s.2.2.1 ∧ ∀ (k : Nat) (sp : zSp) (v : Value), s.2.2.2[k]? = some sp → fs[k]? = some v → okV w sp v
  | _ => shp c = (z_kd s.2.1, s.2.1, s.2.2.1) ∧ ∃ a, c = .inl (s.2.1, s.2.2.1, a) ∧ ∀ (e : zSp) (j : Nat), s.2.2.2.head? = some e → j < s.2.2.1 → okV w (z_es W e j) (m_el a j)
theorem w_okC_up {W : List (Int × Int)} {w w' : mWd} (hw : w_le w w') {s : zS1} {c : mE} (h : w_okC W w s c) : w_okC W w' s c := by
  unfold w_okC at h ⊢
  split at h
  · obtain ⟨fs, h1, h2, h3⟩ := h
    exact ⟨fs, h1, h2, fun k sp v a b => okV_up hw (h3 k sp v a b)⟩
  · obtain ⟨h1, a, h2, h3⟩ := h
    exact ⟨h1, a, h2, fun e j x y => okV_up hw (h3 e j x y)⟩
def w_okD (G : List zSp) (w : mWd) (c : mE) : Prop := (∃ fs, c = .inr (2, fs) ∧ fs.length = 13 ∧ ∀ (k : Nat) (sp : zSp) (v : Value), G[k]? = some sp → fs[k]? = some v → okV w sp v) ∨ (∃ n f, c = .inl (0, n, .inl f) ∧ n ≤ 161)
theorem w_okD_up {G : List zSp} {w w' : mWd} (hw : w_le w w') {c : mE} (h : w_okD G w c) : w_okD G w' c := by
  rcases h with ⟨fs, h1, h2, h3⟩ | h
  · exact .inl ⟨fs, h1, h2, fun k sp v a b => okV_up hw (h3 k sp v a b)⟩
  · exact .inr h
/-- the data: the cells made at the start, a cost's fields, the seven -/
abbrev zDt : Type := List zS1 × List zSp × List (Int × Int)
def WI (Z : zDt) (w : mWd) : Prop := Z.1.length = 129 ∧ (∀ (i : Nat) (s : zS1), Z.1[i]? = some s → ∃ c, w[i]? = some c ∧ w_okC Z.2.2 w s c) ∧ (∀ (i : Nat) (c : mE), 129 ≤ i → w[i]? = some c → w_okD Z.2.1 w c)
section WIN
variable {Z : zDt} {w : mWd}
theorem WI.len (h : WI Z w) : 129 ≤ w.length := by
  have hl : 128 < Z.1.length := by rw [h.1]; decide
  obtain ⟨c, h1, -⟩ := h.2.1 128 _ (List.getElem?_eq_getElem hl)
  have := (List.getElem?_eq_some_iff.mp h1).1
  omega
theorem WI_set (h : WI Z w) {i : Nat} {c c' : mE} (hi : w[i]? = some c) (e : shp c' = shp c) (h1 : ∀ s, Z.1[i]? = some s → w_okC Z.2.2 w s c') (h2 : 129 ≤ i → w_okD Z.2.1 w c') : WI Z (w.set i c') := by
  have hw := w_le_set hi e
  refine ⟨h.1, ?_, ?_⟩
  · intro j s hs
    rw [getE_set hi]
    by_cases ej : j = i
    · rw [if_pos ej]
      subst ej
      exact ⟨c', rfl, w_okC_up hw (h1 s hs)⟩
    · rw [if_neg ej]
      obtain ⟨d, d1, d2⟩ := h.2.1 j s hs
      exact ⟨d, d1, w_okC_up hw d2⟩
  · intro j d hj hd
    rw [getE_set hi] at hd
    by_cases ej : j = i
    · rw [if_pos ej] at hd
      cases hd
      exact w_okD_up hw (h2 (by omega))
    · rw [if_neg ej] at hd
      exact w_okD_up hw (h.2.2 j d hj hd)
theorem WI_app (h : WI Z w) {c : mE} (h2 : w_okD Z.2.1 w c) : WI Z (w ++ [c]) := by
  have hw := w_le_app w c
  have hl := h.len
  refine ⟨h.1, ?_, ?_⟩
  · intro j s hs
    obtain ⟨d, d1, d2⟩ := h.2.1 j s hs
    refine ⟨d, ?_, w_okC_up hw d2⟩
    rw [List.getElem?_append_left (List.getElem?_eq_some_iff.mp d1).1]
    exact d1
  · intro j d hj hd
    by_cases ej : j < w.length
    · rw [List.getElem?_append_left ej] at hd
      exact w_okD_up hw (h.2.2 j d hj hd)
    · rw [List.getElem?_append_right (by omega)] at hd
      have : j - w.length = 0 := by
        have := (List.getElem?_eq_some_iff.mp hd).1
        simp only [List.length_singleton] at this
        omega
      rw [this] at hd
      cases hd
      exact w_okD_up hw h2
/-- an object made at the start -/
theorem WI_obj (h : WI Z w) {i ci n : Nat} {sps : List zSp} (hs : Z.1[i]? = some (0, ci, n, sps)) : ∃ fs, w[i]? = some (.inr (ci, fs)) ∧ fs.length = n ∧ ∀ (k : Nat) (sp : zSp) (v : Value), sps[k]? = some sp → fs[k]? = some v → okV w sp v := by
  obtain ⟨c, h1, fs, h2, h3, h4⟩ := h.2.1 i _ hs
  exact ⟨fs, by rw [h1, h2], h3, h4⟩
theorem WI_arr (h : WI Z w) {i t n : Nat} {e : zSp} (hs : Z.1[i]? = some (1, t, n, [e])) : ∃ a, w[i]? = some (.inl (t, n, a)) ∧ shp (.inl (t, n, a)) = (z_kd t, t, n) ∧ ∀ j, j < n → okV w (z_es Z.2.2 e j) (m_el a j) := by
  obtain ⟨c, h1, h2, a, h3, h4⟩ := h.2.1 i _ hs
  subst h3
  exact ⟨a, h1, h2, fun j hj => h4 e j rfl hj⟩
theorem WI_cost (h : WI Z w) {i : Nat} (hc : wC w i) : ∃ fs, w[i]? = some (.inr (2, fs)) ∧ fs.length = 13 ∧ ∀ (k : Nat) (sp : zSp) (v : Value), Z.2.1[k]? = some sp → fs[k]? = some v → okV w sp v := by
  obtain ⟨h1, c, h2, h3⟩ := hc
  obtain ⟨fs, e1, e2⟩ := shp_obj h3
  subst e1
  rcases h.2.2 i _ h1 h2 with ⟨fs', a1, a2, a3⟩ | ⟨n, f, a1, -⟩
  · cases a1; exact ⟨fs, h2, a2, a3⟩
  · cases a1
theorem WI_txt {i n : Nat} (hc : wT w i n) : ∃ f, w[i]? = some (.inl (0, n, .inl f)) := by
  obtain ⟨h1, h0, c, h2, h3⟩ := hc
  obtain ⟨f, e⟩ := shp_int h3
  subst e
  exact ⟨f, h2⟩
theorem WI_setf (h : WI Z w) {i ci n k : Nat} {sps : List zSp} {fs : List Value} {v : Value} (hs : Z.1[i]? = some (0, ci, n, sps)) (hi : w[i]? = some (.inr (ci, fs))) (hv : ∀ sp, sps[k]? = some sp → okV w sp v) : WI Z (w.set i (.inr (ci, fs.set k v))) := by
  obtain ⟨fs', a1, a2, a3⟩ := WI_obj h hs
  rw [hi] at a1
  cases a1
  refine WI_set h hi (by simp [shp]) ?_ ?_
  · intro s hs'
    rw [hs] at hs'
    cases hs'
    refine ⟨fs.set k v, rfl, by simpa using a2, ?_⟩
    intro k' sp v' hsp hv'
    rw [List.getElem?_set] at hv'
    by_cases e : k = k'
    · subst e
      rw [if_pos rfl] at hv'
      by_cases hl : k < fs.length
      · rw [if_pos hl] at hv'
        cases hv'
        exact hv sp hsp
      · rw [if_neg hl] at hv'; cases hv'
    · rw [if_neg e] at hv'
      exact a3 k' sp v' hsp hv'
  · intro hge
    have := (List.getElem?_eq_some_iff.mp hs).1
    rw [h.1] at this
    omega
theorem WI_setg (h : WI Z w) {i k : Nat} {fs : List Value} {v : Value} (hc : wC w i) (hi : w[i]? = some (.inr (2, fs))) (hv : ∀ sp, Z.2.1[k]? = some sp → okV w sp v) : WI Z (w.set i (.inr (2, fs.set k v))) := by
  obtain ⟨fs', a1, a2, a3⟩ := WI_cost h hc
  rw [hi] at a1
  cases a1
  refine WI_set h hi (by simp [shp]) ?_ ?_
  · intro s hs'
    have := (List.getElem?_eq_some_iff.mp hs').1
    rw [h.1] at this
    have := hc.1
    omega
  · intro _
    refine .inl ⟨fs.set k v, rfl, by simpa using a2, ?_⟩
    intro k' sp v' hsp hv'
    rw [List.getElem?_set] at hv'
    by_cases e : k = k'
    · subst e
      rw [if_pos rfl] at hv'
      by_cases hl : k < fs.length
      · rw [if_pos hl] at hv'
        cases hv'
        exact hv sp hsp
      · rw [if_neg hl] at hv'; cases hv'
    · rw [if_neg e] at hv'
      exact a3 k' sp v' hsp hv'
theorem WI_seta (h : WI Z w) {i t n : Nat} {e : zSp} {a b : zCt} (hs : Z.1[i]? = some (1, t, n, [e])) (hi : w[i]? = some (.inl (t, n, a))) (hsh : shp (.inl (t, n, b)) = shp (.inl (t, n, a))) (hb : ∀ j, j < n → okV w (z_es Z.2.2 e j) (m_el b j)) : WI Z (w.set i (.inl (t, n, b))) := by
  obtain ⟨a', a1, a2, a3⟩ := WI_arr h hs
  rw [hi] at a1
  cases a1
  refine WI_set h hi hsh ?_ ?_
  · intro s hs'
    rw [hs] at hs'
    cases hs'
    refine ⟨hsh.trans a2, b, rfl, ?_⟩
    intro e' j he hj
    cases he
    exact hb j hj
  · intro hge
    have := (List.getElem?_eq_some_iff.mp hs).1
    rw [h.1] at this
    omega
end WIN
