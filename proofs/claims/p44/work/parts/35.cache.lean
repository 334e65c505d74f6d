/-! KNOWN FIELDS AND ELEMENTS, what a method may write, the rule of kinds -/
abbrev cK : Type := Nat × Nat × sV
abbrev sC : Type := List (cK × sV)
abbrev zWr : Type := List (Nat × Nat)
def z_wr (wr : zWr) (ci k : Nat) : Bool := match wr with
  | [] => false
  | q :: r => (Nat.beq q.1 ci && Nat.beq q.2 k) || z_wr r ci k
def z_sub : zWr → zWr → Bool
  | [], _ => true
  | q :: r, wr => z_wr wr q.1 q.2 && z_sub r wr
theorem z_sub_ok : ∀ {a b : zWr}, z_sub a b = true → ∀ {ci k : Nat}, z_wr b ci k = false → z_wr a ci k = false
  | [], _, _, _, _, _ => rfl
  | q :: r, b, h, ci, k, hb => by
    unfold z_sub at h
    rw [Bool.and_eq_true] at h
    unfold z_wr
    rw [z_sub_ok h.2 hb, Bool.or_false]
    cases e : (Nat.beq q.1 ci && Nat.beq q.2 k) with
    | false => rfl
    | true =>
      rw [Bool.and_eq_true] at e
      have h1 := h.1
      rw [Nat.eq_of_beq_eq_true e.1, Nat.eq_of_beq_eq_true e.2, hb] at h1
      cases h1
def f_eq (wr : zWr) (i : Nat) (c c' : mE) : Prop := shp c' = shp c ∧ (∀ ci fs, c = .inr (ci, fs) → ∃ fs', c' = .inr (ci, fs') ∧ ∀ k, z_wr wr ci k = false → fs'[k]? = fs[k]?) ∧ (∀ q, c = .inl q → z_wr wr 98 i = false → c' = c)
def fR (wr : zWr) (w w' : mWd) : Prop := ∀ (i : Nat) (c : mE), w[i]? = some c → ∃ c', w'[i]? = some c' ∧ f_eq wr i c c'
theorem f_eq_refl (wr : zWr) (i : Nat) (c : mE) : f_eq wr i c c := ⟨rfl, fun ci fs h => ⟨fs, h, fun _ _ => rfl⟩, fun _ _ _ => rfl⟩
theorem fR_refl (wr : zWr) (w : mWd) : fR wr w w := fun i c h => ⟨c, h, f_eq_refl wr i c⟩
theorem fR_le {wr : zWr} {w w' : mWd} (h : fR wr w w') : w_le w w' := fun i c hc => by
  obtain ⟨c', h1, h2⟩ := h i c hc
  exact ⟨c', h1, h2.1⟩
theorem fR_trans {wr : zWr} {a b c : mWd} (h1 : fR wr a b) (h2 : fR wr b c) : fR wr a c := fun i x hx => by
  obtain ⟨y, y1, y2, y3, y4⟩ := h1 i x hx
  obtain ⟨z, z1, z2, z3, z4⟩ := h2 i y y1
  refine ⟨z, z1, z2.trans y2, ?_, ?_⟩
  · intro ci fs e
    obtain ⟨fs', e1, e2⟩ := y3 ci fs e
    obtain ⟨fs'', e3, e4⟩ := z3 ci fs' e1
    exact ⟨fs'', e3, fun k hk => (e4 k hk).trans (e2 k hk)⟩
  · intro q e hk
    have e1 := y4 q e hk
    have e2 := z4 q (e1.trans e) hk
    exact e2.trans e1
theorem fR_sub {a b : zWr} (hs : z_sub a b = true) {w w' : mWd} (h : fR a w w') : fR b w w' := fun i c hc => by
  obtain ⟨c', h1, h2, h3, h4⟩ := h i c hc
  refine ⟨c', h1, h2, ?_, ?_⟩
  · intro ci fs e
    obtain ⟨fs', e1, e2⟩ := h3 ci fs e
    exact ⟨fs', e1, fun k hk => e2 k (z_sub_ok hs hk)⟩
  · intro q e hk
    exact h4 q e (z_sub_ok hs hk)
theorem fR_setf {wr : zWr} {w : mWd} {i ci k : Nat} {fs : List Value} {v : Value} (hi : w[i]? = some (.inr (ci, fs))) (hk : z_wr wr ci k = true) : fR wr w (w.set i (.inr (ci, fs.set k v))) := fun j c hc => by
  rw [getE_set hi]
  by_cases e : j = i
  · subst e
    rw [hi] at hc
    cases hc
    refine ⟨_, by rw [if_pos rfl], by simp [shp], ?_, fun q hq => by cases hq⟩
    intro ci' fs' he
    cases he
    refine ⟨_, rfl, ?_⟩
    intro k' hk'
    rw [List.getElem?_set]
    by_cases e : k = k'
    · subst e; rw [hk] at hk'; cases hk'
    · rw [if_neg e]
  · exact ⟨c, by rw [if_neg e]; exact hc, f_eq_refl wr j c⟩
theorem fR_seta {wr : zWr} {w : mWd} {i : Nat} {q q' : Nat × vp_A} (hi : w[i]? = some (.inl q)) (hs : shp (.inl q') = shp (.inl q)) (hk : z_wr wr 98 i = true) : fR wr w (w.set i (.inl q')) := fun j c hc => by
  rw [getE_set hi]
  by_cases e : j = i
  · subst e
    rw [hi] at hc
    cases hc
    exact ⟨_, by rw [if_pos rfl], hs, fun ci fs he => by (cases he), fun q hq h0 => by rw [hk] at h0; cases h0⟩
  · exact ⟨c, by rw [if_neg e]; exact hc, f_eq_refl wr j c⟩
theorem fR_app (wr : zWr) (w : mWd) (c : mE) : fR wr w (w ++ [c]) := fun j x hj => ⟨x, by rw [List.getElem?_append_left (List.getElem?_eq_some_iff.mp hj).1]; exact hj, f_eq_refl wr j x⟩
/-- what a known field (0) or element (2) says -/
def cR (vs : List Int) (w : mWd) (e : cK × sV) : Prop := match e.1.1 with
  | 0 => e.1.2.1 < 129 ∧ ∃ ci fs v, w[e.1.2.1]? = some (.inr (ci, fs)) ∧ fs[e.1.2.2.2.1]? = some v ∧ dn vs w e.2 v
  | 2 => ∃ t n a J, w[e.1.2.1]? = some (.inl (t, n, a)) ∧ vN vs e.1.2.2 J ∧ 0 ≤ J ∧ dn vs w e.2 (m_el a J.toNat)
  | 5 => ∃ t n a t' b, w[e.1.2.1]? = some (.inl (t, n, a)) ∧ w[e.1.2.2.2.1]? = some (.inl (t', n, b)) ∧ ∀ j, j < n → m_el a j = m_el b j
  | 6 => ∃ t n a t' b, w[e.1.2.1]? = some (.inl (t, n, a)) ∧ w[e.1.2.2.2.1]? = some (.inl (t', n, b)) ∧ ∀ j : Nat, j < n → ¬ vN vs e.2 (j : Int) → m_el a j = m_el b j
  | _ => False
def cRL (vs : List Int) (w : mWd) (C : sC) : Prop := ∀ e ∈ C, cR vs w e
theorem cR_up {vs vs' : List Int} {w : mWd} (hv : vL vs vs') {e : cK × sV} (h : cR vs w e) : cR vs' w e := by
  obtain ⟨⟨kd, a, j⟩, s⟩ := e
  unfold cR at h ⊢
  match kd, h with
  | 0, ⟨hl, ci, fs, v, h1, h2, h3⟩ => exact ⟨hl, ci, fs, v, h1, h2, dn_up hv (w_le_refl w) h3⟩
  | 1, h => exact h.elim
  | 2, ⟨t, n, b, J, h1, h2, h3, h4⟩ => exact ⟨t, n, b, J, h1, vN_up hv h2, h3, dn_up hv (w_le_refl w) h4⟩
  | 3, h => exact h.elim
  | 4, h => exact h.elim
  | 5, h => exact h
  | 6, ⟨t, n, b, t', b', h1, h2, h3⟩ => exact ⟨t, n, b, t', b', h1, h2, fun j hj hn => h3 j hj (fun hx => hn (vN_up hv hx))⟩
  | n + 7, h => exact h.elim
theorem cRL_up {vs vs' : List Int} {w : mWd} (hv : vL vs vs') {C : sC} (h : cRL vs w C) : cRL vs' w C := fun e he => cR_up hv (h e he)
def ck_eq (a b : cK) : Bool := Nat.beq a.1 b.1 && (Nat.beq a.2.1 b.2.1 && s_eq a.2.2 b.2.2)
theorem ck_eq_ok {a b : cK} (h : ck_eq a b = true) : a = b := by
  obtain ⟨x, y, z⟩ := a
  obtain ⟨x', y', z'⟩ := b
  unfold ck_eq at h
  rw [Bool.and_eq_true, Bool.and_eq_true] at h
  have e1 : x = x' := Nat.eq_of_beq_eq_true h.1
  have e2 : y = y' := Nat.eq_of_beq_eq_true h.2.1
  have e3 : z = z' := s_eq_ok h.2.2
  rw [e1, e2, e3]
def c_get (C : sC) (key : cK) : Option sV := match C with
  | [] => none
  | e :: C => bif ck_eq e.1 key then some e.2 else c_get C key
theorem c_get_ok {vs : List Int} {w : mWd} {key : cK} {s : sV} : ∀ {C : sC}, cRL vs w C → c_get C key = some s → cR vs w (key, s)
  | [], _, h => by cases h
  | e :: C, hC, h => by
    unfold c_get at h
    cases eq : ck_eq e.1 key with
    | true =>
      rw [eq] at h
      cases h
      have := hC e List.mem_cons_self
      rw [← ck_eq_ok eq]
      exact this
    | false =>
      rw [eq] at h
      exact c_get_ok (fun x hx => hC x (List.mem_cons_of_mem _ hx)) h
/-- without the field k of the cell i -/
def c_kf (i k : Nat) (C : sC) : sC := match C with
  | [] => []
  | e :: C => bif (Nat.beq e.1.1 0 && (Nat.beq e.1.2.1 i && Nat.beq e.1.2.2.2.1 k)) then c_kf i k C else e :: c_kf i k C
/-- does an entry speak of two arrays of which this is one -/
def c_two (i : Nat) (e : cK × sV) : Bool := Nat.beq e.1.2.1 i || Nat.beq e.1.2.2.2.1 i
/-- without the elements of the cell i that may be the j-th; equal arrays are so but for the j-th -/
def c_ka (i : Nat) (j : sV) (C : sC) : sC := match C with
  | [] => []
  | e :: C => bif (Nat.beq e.1.1 2 && (Nat.beq e.1.2.1 i && !(Nat.beq e.1.2.2.1 j.1 && (Nat.beq e.1.2.2.2.1 j.2.1 && !(z_eq e.1.2.2.2.2 j.2.2))))) then c_ka i j C else (bif (Nat.beq e.1.1 5 && c_two i e) then ((6, e.1.2), j) :: c_ka i j C else (bif (Nat.beq e.1.1 6 && (c_two i e && !(s_eq e.2 j))) then c_ka i j C else e :: c_ka i j C))
def c_kl (i : Nat) (C : sC) : sC := match C with
  | [] => []
  | e :: C => bif ((Nat.beq e.1.1 2 && Nat.beq e.1.2.1 i) || ((Nat.beq e.1.1 5 || Nat.beq e.1.1 6) && c_two i e)) then c_kl i C else e :: c_kl i C
def z_cls (S : List zS1) (i : Nat) : Nat := match S[i]? with
  | some s => s.2.1
  | none => 0
/-- may a method write what the entry speaks of -/
def c_wr (S : List zS1) (wr : zWr) (e : cK × sV) : Bool := match e.1.1 with
  | 0 => z_wr wr (z_cls S e.1.2.1) e.1.2.2.2.1
  | 2 => z_wr wr 98 e.1.2.1
  | _ => z_wr wr 98 e.1.2.1 || z_wr wr 98 e.1.2.2.2.1
/-- without what a method may write -/
def c_kw (S : List zS1) (wr : zWr) (C : sC) : sC := match C with
  | [] => []
  | e :: C => bif c_wr S wr e then c_kw S wr C else e :: c_kw S wr C
section CACHE
variable {vs : List Int} {w : mWd} {Z : zDt}
theorem cR_setf {i ci k : Nat} {fs : List Value} {v : Value} (hi : w[i]? = some (.inr (ci, fs))) {e : cK × sV} (h : cR vs w e) (hne : (Nat.beq e.1.1 0 && (Nat.beq e.1.2.1 i && Nat.beq e.1.2.2.2.1 k)) = false) : cR vs (w.set i (.inr (ci, fs.set k v))) e := by
  have hw := w_le_set (c' := .inr (ci, fs.set k v)) hi (by simp [shp])
  obtain ⟨⟨kd, a, j⟩, s⟩ := e
  unfold cR at h ⊢
  match kd, h with
  | 0, ⟨hl, ci', fs', v', h1, h2, h3⟩ =>
    simp only at h1 h2 hne ⊢
    by_cases ea : a = i
    · subst ea
      rw [hi] at h1
      cases h1
      refine ⟨hl, ci, fs.set k v, v', by rw [getE_set hi, if_pos rfl], ?_, dn_up (vL_refl vs) hw h3⟩
      rw [List.getElem?_set]
      by_cases ek : k = j.2.1
      · subst ek
        simp at hne
      · rw [if_neg ek]; exact h2
    · exact ⟨hl, ci', fs', v', by rw [getE_set hi, if_neg ea]; exact h1, h2, dn_up (vL_refl vs) hw h3⟩
  | 1, h => exact h.elim
  | 2, ⟨t, n, b, J, h1, h2, h3, h4⟩ =>
    have ea : a ≠ i := by
      intro ea
      simp only at h1
      rw [ea, hi] at h1
      cases h1
    exact ⟨t, n, b, J, by rw [getE_set hi, if_neg ea]; exact h1, h2, h3, dn_up (vL_refl vs) hw h4⟩
  | 3, h => exact h.elim
  | 4, h => exact h.elim
  | 5, ⟨t, n, b, t', b', h1, h2, h3⟩ =>
    have ea : a ≠ i := by
      intro ea
      simp only at h1
      rw [ea, hi] at h1
      cases h1
    have eb : j.2.1 ≠ i := by
      intro eb
      simp only at h2
      rw [eb, hi] at h2
      cases h2
    exact ⟨t, n, b, t', b', by rw [getE_set hi, if_neg ea]; exact h1, by rw [getE_set hi, if_neg eb]; exact h2, h3⟩
  | 6, ⟨t, n, b, t', b', h1, h2, h3⟩ =>
    have ea : a ≠ i := by
      intro ea
      simp only at h1
      rw [ea, hi] at h1
      cases h1
    have eb : j.2.1 ≠ i := by
      intro eb
      simp only at h2
      rw [eb, hi] at h2
      cases h2
    exact ⟨t, n, b, t', b', by rw [getE_set hi, if_neg ea]; exact h1, by rw [getE_set hi, if_neg eb]; exact h2, h3⟩
  | n + 7, h => exact h.elim
theorem cRL_setf {i ci k : Nat} {fs : List Value} {v : Value} (hi : w[i]? = some (.inr (ci, fs))) : ∀ {C : sC}, cRL vs w C → cRL vs (w.set i (.inr (ci, fs.set k v))) (c_kf i k C)
  | [], _ => fun e he => by cases he
  | e :: C, h => by
    have ih := cRL_setf (k := k) (v := v) hi (fun x hx => h x (List.mem_cons_of_mem _ hx))
    unfold c_kf
    cases eq : (Nat.beq e.1.1 0 && (Nat.beq e.1.2.1 i && Nat.beq e.1.2.2.2.1 k)) with
    | true => exact ih
    | false =>
      intro x hx
      rcases List.mem_cons.mp hx with rfl | hx
      · exact cR_setf hi (h _ List.mem_cons_self) eq
      · exact ih x hx
theorem cRL_setg {i ci k : Nat} {fs : List Value} {v : Value} (hi : w[i]? = some (.inr (ci, fs))) (hge : 129 ≤ i) {C : sC} (h : cRL vs w C) : cRL vs (w.set i (.inr (ci, fs.set k v))) C := by
  intro e he
  refine cR_setf hi (h e he) ?_
  cases e0 : Nat.beq e.1.1 0 with
  | false => rfl
  | true =>
    have h1 := h e he
    unfold cR at h1
    rw [Nat.eq_of_beq_eq_true e0] at h1
    cases e1 : Nat.beq e.1.2.1 i with
    | false => rfl
    | true =>
      have := Nat.eq_of_beq_eq_true e1
      have := h1.1
      omega
/-- an array's cell written so that the element of every entry kept is the same -/
theorem cR_seta {i t n : Nat} {a b : zCt} (hi : w[i]? = some (.inl (t, n, a))) (hsh : shp (.inl (t, n, b)) = shp (.inl (t, n, a))) {e : cK × sV} (h : cR vs w e) (hne : e.1.1 = 2 → e.1.2.1 = i → ∀ J, vN vs e.1.2.2 J → 0 ≤ J → m_el b J.toNat = m_el a J.toNat) (h5 : e.1.1 = 5 ∨ e.1.1 = 6 → c_two i e = false) : cR vs (w.set i (.inl (t, n, b))) e := by
  have hw := w_le_set (c' := .inl (t, n, b)) hi hsh
  obtain ⟨⟨kd, c, j⟩, s⟩ := e
  unfold cR at h ⊢
  match kd, h with
  | 0, ⟨hl, ci', fs', v', h1, h2, h3⟩ =>
    have ea : c ≠ i := by
      intro ea
      simp only at h1
      rw [ea, hi] at h1
      cases h1
    exact ⟨hl, ci', fs', v', by rw [getE_set hi, if_neg ea]; exact h1, h2, dn_up (vL_refl vs) hw h3⟩
  | 1, h => exact h.elim
  | 2, ⟨t', n', b', J, h1, h2, h3, h4⟩ =>
    simp only at h1 h2 h4 ⊢
    by_cases ea : c = i
    · subst ea
      rw [hi] at h1
      cases h1
      refine ⟨t, n, b, J, by rw [getE_set hi, if_pos rfl], h2, h3, ?_⟩
      rw [hne rfl rfl J h2 h3]
      exact dn_up (vL_refl vs) hw h4
    · exact ⟨t', n', b', J, by rw [getE_set hi, if_neg ea]; exact h1, h2, h3, dn_up (vL_refl vs) hw h4⟩
  | 3, h => exact h.elim
  | 4, h => exact h.elim
  | 5, ⟨t', n', b', t'', b'', h1, h2, h3⟩ =>
    have h6 := h5 (.inl rfl)
    unfold c_two at h6
    rw [Bool.or_eq_false_iff] at h6
    exact ⟨t', n', b', t'', b'', by rw [getE_set hi, if_neg (Nat.ne_of_beq_eq_false h6.1)]; exact h1, by rw [getE_set hi, if_neg (Nat.ne_of_beq_eq_false h6.2)]; exact h2, h3⟩
  | 6, ⟨t', n', b', t'', b'', h1, h2, h3⟩ =>
    have h6 := h5 (.inr rfl)
    unfold c_two at h6
    rw [Bool.or_eq_false_iff] at h6
    exact ⟨t', n', b', t'', b'', by rw [getE_set hi, if_neg (Nat.ne_of_beq_eq_false h6.1)]; exact h1, by rw [getE_set hi, if_neg (Nat.ne_of_beq_eq_false h6.2)]; exact h2, h3⟩
  | n + 7, h => exact h.elim
/-- two arrays that are equal but for the j-th stay so when the j-th of one is written -/
theorem cR_two {i t n : Nat} {a b : zCt} {j : sV} {J : Int} (hi : w[i]? = some (.inl (t, n, a))) (hj : vN vs j J) (hJ : 0 ≤ J) (hb : ∀ k, k ≠ J.toNat → m_el b k = m_el a k) {e : cK × sV} (h : ∃ t n a t' b, w[e.1.2.1]? = some (.inl (t, n, a)) ∧ w[e.1.2.2.2.1]? = some (.inl (t', n, b)) ∧ ∀ k : Nat, k < n → ¬ vN vs j (k : Int) → m_el a k = m_el b k) : cR vs (w.set i (.inl (t, n, b))) ((6, e.1.2), j) := by
  obtain ⟨t1, n1, a1, t2, b1, h1, h2, h3⟩ := h
  have hk : ∀ k : Nat, ¬ vN vs j (k : Int) → k ≠ J.toNat := fun k hn e => hn (by
    have : (k : Int) = J := by omega
    rw [this]; exact hj)
  have key : ∀ {c : Nat} {t' n' : Nat} {x : zCt}, w[c]? = some (.inl (t', n', x)) → ∃ y, (w.set i (.inl (t, n, b)))[c]? = some (.inl (t', n', y)) ∧ ∀ k, k ≠ J.toNat → m_el y k = m_el x k := by
    intro c t' n' x hc
    rw [getE_set hi]
    by_cases ec : c = i
    · subst ec
      rw [hi] at hc
      cases hc
      exact ⟨b, if_pos rfl, hb⟩
    · exact ⟨x, by rw [if_neg ec]; exact hc, fun _ _ => rfl⟩
  obtain ⟨y1, p1, p2⟩ := key h1
  obtain ⟨y2, q1, q2⟩ := key h2
  exact ⟨t1, n1, y1, t2, y2, p1, q1, fun k hkn hn => by rw [p2 k (hk k hn), q2 k (hk k hn)]; exact h3 k hkn hn⟩
theorem cRL_seta {i t n : Nat} {j : sV} {J : Int} {a b : zCt} (hi : w[i]? = some (.inl (t, n, a))) (hsh : shp (.inl (t, n, b)) = shp (.inl (t, n, a))) (hj : vN vs j J) (hJ : 0 ≤ J) (hb : ∀ k, k ≠ J.toNat → m_el b k = m_el a k) : ∀ {C : sC}, cRL vs w C → cRL vs (w.set i (.inl (t, n, b))) (c_ka i j C)
  | [], _ => fun e he => by cases he
  | e :: C, h => by
    have ih := cRL_seta hi hsh hj hJ hb (fun x hx => h x (List.mem_cons_of_mem _ hx))
    have he := h e List.mem_cons_self
    unfold c_ka
    cases eq : (Nat.beq e.1.1 2 && (Nat.beq e.1.2.1 i && !(Nat.beq e.1.2.2.1 j.1 && (Nat.beq e.1.2.2.2.1 j.2.1 && !(z_eq e.1.2.2.2.2 j.2.2))))) with
    | true => exact ih
    | false =>
      simp only [cond_false]
      cases e5 : (Nat.beq e.1.1 5 && c_two i e) with
      | true =>
        rw [Bool.and_eq_true] at e5
        simp only [cond_true]
        intro x hx
        rcases List.mem_cons.mp hx with rfl | hx
        · unfold cR at he
          rw [Nat.eq_of_beq_eq_true e5.1] at he
          obtain ⟨t1, n1, a1, t2, b1, h1, h2, h3⟩ := he
          exact cR_two hi hj hJ hb ⟨t1, n1, a1, t2, b1, h1, h2, fun k hk _ => h3 k hk⟩
        · exact ih x hx
      | false =>
        simp only [cond_false]
        cases e6 : (Nat.beq e.1.1 6 && (c_two i e && !(s_eq e.2 j))) with
        | true => exact ih
        | false =>
          simp only [cond_false]
          intro x hx
          rcases List.mem_cons.mp hx with rfl | hx
          · cases e7 : (Nat.beq x.1.1 6 && c_two i x) with
            | true =>
              rw [Bool.and_eq_true] at e7
              rw [e7.1, e7.2] at e6
              simp only [Bool.true_and, Bool.not_eq_false'] at e6
              have ej := s_eq_ok e6
              unfold cR at he
              rw [Nat.eq_of_beq_eq_true e7.1] at he
              have hx6 : x = ((6, x.1.2), j) := by
                obtain ⟨⟨k, y⟩, v⟩ := x
                have h1 : k = 6 := Nat.eq_of_beq_eq_true e7.1
                have h2 : v = j := ej
                rw [h1, h2]
              have hres := cR_two (e := x) hi hj hJ hb (by rw [← ej]; exact he)
              rw [← hx6] at hres
              exact hres
            | false =>
              refine cR_seta hi hsh he ?_ ?_
              · intro e2 ei J' hJ' hJ0
                rw [e2, ei] at eq
                simp only [show Nat.beq 2 2 = true from rfl, Nat.beq_refl, Bool.true_and, Bool.not_eq_false', Bool.and_eq_true, Bool.not_eq_true'] at eq
                obtain ⟨q1, q2, q3⟩ := eq
                obtain ⟨u, hu, hX⟩ := hj
                obtain ⟨u', hu', hX'⟩ := hJ'
                rw [Nat.eq_of_beq_eq_true q2, hu] at hu'
                cases hu'
                rw [Nat.eq_of_beq_eq_true q1] at hX'
                have hne : x.1.2.2.2.2 ≠ j.2.2 := fun h' => by rw [z_eq_iff.mpr h'] at q3; cases q3
                refine hb _ ?_
                intro hh
                have : J' = J := by omega
                omega
              · rintro (h5 | h6)
                · rw [h5] at e5
                  simpa using e5
                · rw [h6] at e7
                  simpa using e7
          · exact ih x hx
theorem cRL_fill {i t n : Nat} {a b : zCt} (hi : w[i]? = some (.inl (t, n, a))) (hsh : shp (.inl (t, n, b)) = shp (.inl (t, n, a))) : ∀ {C : sC}, cRL vs w C → cRL vs (w.set i (.inl (t, n, b))) (c_kl i C)
  | [], _ => fun e he => by cases he
  | e :: C, h => by
    have ih := cRL_fill hi hsh (fun x hx => h x (List.mem_cons_of_mem _ hx))
    unfold c_kl
    cases eq : ((Nat.beq e.1.1 2 && Nat.beq e.1.2.1 i) || ((Nat.beq e.1.1 5 || Nat.beq e.1.1 6) && c_two i e)) with
    | true => exact ih
    | false =>
      rw [Bool.or_eq_false_iff] at eq
      intro x hx
      rcases List.mem_cons.mp hx with rfl | hx
      · refine cR_seta hi hsh (h _ List.mem_cons_self) ?_ ?_
        · intro e2 ei J' hJ' hJ0
          have q := eq.1
          rw [e2, ei] at q
          simp at q
        · intro h56
          have q := eq.2
          rcases h56 with h5 | h6
          · rw [h5] at q; simpa using q
          · rw [h6] at q; simpa using q
      · exact ih x hx
theorem cRL_app {c : mE} {C : sC} (h : cRL vs w C) : cRL vs (w ++ [c]) C := fun e he => by
  have hw := w_le_app w c
  have h := h e he
  obtain ⟨⟨kd, a, j⟩, s⟩ := e
  unfold cR at h ⊢
  match kd, h with
  | 0, ⟨hl, ci', fs', v', h1, h2, h3⟩ => exact ⟨hl, ci', fs', v', by rw [List.getElem?_append_left (List.getElem?_eq_some_iff.mp h1).1]; exact h1, h2, dn_up (vL_refl vs) hw h3⟩
  | 1, h => exact h.elim
  | 2, ⟨t', n', b', J, h1, h2, h3, h4⟩ => exact ⟨t', n', b', J, by rw [List.getElem?_append_left (List.getElem?_eq_some_iff.mp h1).1]; exact h1, h2, h3, dn_up (vL_refl vs) hw h4⟩
  | 3, h => exact h.elim
  | 4, h => exact h.elim
  | 5, ⟨t', n', b', t'', b'', h1, h2, h3⟩ => exact ⟨t', n', b', t'', b'', by rw [List.getElem?_append_left (List.getElem?_eq_some_iff.mp h1).1]; exact h1, by rw [List.getElem?_append_left (List.getElem?_eq_some_iff.mp h2).1]; exact h2, h3⟩
  | 6, ⟨t', n', b', t'', b'', h1, h2, h3⟩ => exact ⟨t', n', b', t'', b'', by rw [List.getElem?_append_left (List.getElem?_eq_some_iff.mp h1).1]; exact h1, by rw [List.getElem?_append_left (List.getElem?_eq_some_iff.mp h2).1]; exact h2, h3⟩
  | n + 7, h => exact h.elim
theorem cRL_kw {wr : zWr} {w' : mWd} (hW : WI Z w) (hf : fR wr w w') : ∀ {C : sC}, cRL vs w C → cRL vs w' (c_kw Z.1 wr C)
  | [], _ => fun e he => by cases he
  | e :: C, h => by
    have ih := cRL_kw hW hf (fun x hx => h x (List.mem_cons_of_mem _ hx))
    have hw := fR_le hf
    unfold c_kw
    cases eq : c_wr Z.1 wr e with
    | true => exact ih
    | false =>
      intro x hx
      rcases List.mem_cons.mp hx with rfl | hx
      · have h1 := h _ List.mem_cons_self
        obtain ⟨⟨kd, a, j⟩, s⟩ := x
        unfold cR at h1 ⊢
        match kd, h1, eq with
        | 0, ⟨hl, ci, fs, v, a1, a2, a3⟩, eq =>
          simp only at a1 a2 ⊢
          simp only [c_wr] at eq
          have hlt : a < Z.1.length := by rw [hW.1]; exact hl
          obtain ⟨c, c1, c2⟩ := hW.2.1 a _ (List.getElem?_eq_getElem hlt)
          rw [a1] at c1
          cases c1
          have hc : z_cls Z.1 a = ci := by
            unfold z_cls
            rw [List.getElem?_eq_getElem hlt]
            unfold w_okC at c2
            split at c2
            · obtain ⟨fs', b1, -⟩ := c2
              cases b1; rfl
            · obtain ⟨-, b, b1, -⟩ := c2
              cases b1
          rw [hc] at eq
          obtain ⟨c', d1, d2, d3, d4⟩ := hf a _ a1
          obtain ⟨fs', e1, e2⟩ := d3 ci fs rfl
          subst e1
          exact ⟨hl, ci, fs', v, d1, by rw [e2 _ eq]; exact a2, dn_up (vL_refl vs) hw a3⟩
        | 1, h1, _ => exact h1.elim
        | 2, ⟨t, n, b, J, a1, a2, a3, a4⟩, eq =>
          simp only at a1 a2 a4 ⊢
          simp only [c_wr] at eq
          obtain ⟨c', d1, d2, d3, d4⟩ := hf a _ a1
          have := d4 _ rfl eq
          subst this
          exact ⟨t, n, b, J, d1, a2, a3, dn_up (vL_refl vs) hw a4⟩
        | 3, h1, _ => exact h1.elim
        | 4, h1, _ => exact h1.elim
        | 5, ⟨t, n, b, t', b', a1, a2, a3⟩, eq =>
          simp only at a1 a2 ⊢
          simp only [c_wr, Bool.or_eq_false_iff] at eq
          obtain ⟨c', d1, d2, d3, d4⟩ := hf a _ a1
          have := d4 _ rfl eq.1
          subst this
          obtain ⟨c'', g1, g2, g3, g4⟩ := hf _ _ a2
          have := g4 _ rfl eq.2
          subst this
          exact ⟨t, n, b, t', b', d1, g1, a3⟩
        | 6, ⟨t, n, b, t', b', a1, a2, a3⟩, eq =>
          simp only at a1 a2 ⊢
          simp only [c_wr, Bool.or_eq_false_iff] at eq
          obtain ⟨c', d1, d2, d3, d4⟩ := hf a _ a1
          have := d4 _ rfl eq.1
          subst this
          obtain ⟨c'', g1, g2, g3, g4⟩ := hf _ _ a2
          have := g4 _ rfl eq.2
          subst this
          exact ⟨t, n, b, t', b', d1, g1, a3⟩
        | n + 7, h1, _ => exact h1.elim
      · exact ih x hx
end CACHE
