/-! VALUES AND WORLDS of the checker -/
def shp (c : mE) : Nat × Nat × Nat := match c with
  | .inl (t, n, .inl _) => (0, t, n)
  | .inl (t, n, .inr (.inl _)) => (1, t, n)
  | .inl (t, n, .inr (.inr (.inl _))) => (2, t, n)
  | .inl (t, n, .inr (.inr (.inr (.inl _)))) => (3, t, n)
  | .inl (t, n, .inr (.inr (.inr (.inr _)))) => (4, t, n)
  | .inr (ci, fs) => (5, ci, fs.length)
theorem shp_obj {c : mE} {ci n : Nat} (h : shp c = (5, ci, n)) : ∃ fs, c = .inr (ci, fs) ∧ fs.length = n := by
  unfold shp at h
  split at h <;> simp only [Prod.mk.injEq] at h
  all_goals first | (exact absurd h.1 (by decide)) | skip
  next ci' fs => exact ⟨fs, by rw [h.2.1], h.2.2⟩
theorem shp_int {c : mE} {t n : Nat} (h : shp c = (0, t, n)) : ∃ f, c = .inl (t, n, .inl f) := by
  unfold shp at h
  split at h <;> simp only [Prod.mk.injEq] at h
  all_goals first | (exact absurd h.1 (by decide)) | skip
  next t' n' f => exact ⟨f, by rw [h.2.1, h.2.2]⟩
def w_le (w w' : mWd) : Prop := ∀ (i : Nat) (c : mE), w[i]? = some c → ∃ c', w'[i]? = some c' ∧ shp c' = shp c
theorem w_le_refl (w : mWd) : w_le w w := fun _ c h => ⟨c, h, rfl⟩
theorem getE_set {w : mWd} {i : Nat} {c c' : mE} (h : w[i]? = some c) (j : Nat) : (w.set i c')[j]? = if j = i then some c' else w[j]? := by
  rw [List.getElem?_set]
  by_cases e : i = j
  · subst e; simp [(List.getElem?_eq_some_iff.mp h).1]
  · rw [if_neg e, if_neg (fun h => e h.symm)]
theorem w_le_set {w : mWd} {i : Nat} {c c' : mE} (h : w[i]? = some c) (e : shp c' = shp c) : w_le w (w.set i c') := fun j x hj => by
  rw [getE_set h]
  by_cases ej : j = i
  · subst ej
    rw [h] at hj
    cases hj
    exact ⟨c', by rw [if_pos rfl], e⟩
  · exact ⟨x, by rw [if_neg ej]; exact hj, rfl⟩
theorem w_le_app (w : mWd) (c : mE) : w_le w (w ++ [c]) := fun j x hj => ⟨x, by rw [List.getElem?_append_left (List.getElem?_eq_some_iff.mp hj).1]; exact hj, rfl⟩
def wC (w : mWd) (i : Nat) : Prop := 129 ≤ i ∧ ∃ c, w[i]? = some c ∧ shp c = (5, 2, 13)
def wT (w : mWd) (i n : Nat) : Prop := 129 ≤ i ∧ n ≤ 161 ∧ ∃ c, w[i]? = some c ∧ shp c = (0, 0, n)
theorem wC_up {w w' : mWd} (hw : w_le w w') {i : Nat} (h : wC w i) : wC w' i := by
  obtain ⟨h1, c, h2, h3⟩ := h
  obtain ⟨c', h4, h5⟩ := hw i c h2
  exact ⟨h1, c', h4, h5.trans h3⟩
theorem wT_up {w w' : mWd} (hw : w_le w w') {i n : Nat} (h : wT w i n) : wT w' i n := by
  obtain ⟨h1, h0, c, h2, h3⟩ := h
  obtain ⟨c', h4, h5⟩ := hw i c h2
  exact ⟨h1, h0, c', h4, h5.trans h3⟩
/-- what a value of the checker stands for: 0 ints, 1 longs, 2 cells made at the start, 3 costs, 4 texts (with their length), 5 outer cells, 6 the sign of a number, 7 seven times an atom, 8 null -/
def dn (vs : List Int) (w : mWd) (s : sV) (v : Value) : Prop := match s.1 with
  | 0 => ∃ i : Int32, v = .int i ∧ vN vs s i.toInt
  | 1 => ∃ i : Int64, v = .long i ∧ vN vs s i.toInt
  | 2 => v = .ref s.2.1
  | 3 => ∃ u, vs[s.2.1]? = some u ∧ ((u = -1 ∧ v = .null) ∨ (u = 0 ∧ ∃ i, v = .ref i ∧ wC w i))
  | 4 => ∃ u, vs[s.2.1]? = some u ∧ ((u = -1 ∧ v = .null) ∨ (u = 0 ∧ ∃ (i n : Nat), v = .ref i ∧ wT w i n ∧ vs[s.2.2.toNat]? = some (n : Int)))
  | 5 => v = .retAddr s.2.1
  | 6 => ∃ (i : Int32) (X : Int), v = .int i ∧ vN vs s X ∧ (i.toInt < 0 ↔ X < 0) ∧ (i.toInt = 0 ↔ X = 0)
  | 7 => ∃ i : Int32, v = .int i ∧ vN vs s i.toInt
  | 8 => v = .null
  | _ => False
theorem dn_up {vs vs' : List Int} {w w' : mWd} (hv : vL vs vs') (hw : w_le w w') {s : sV} {v : Value} (h : dn vs w s v) : dn vs' w' s v := by
  obtain ⟨t, a, c⟩ := s
  unfold dn at h ⊢
  match t, h with
  | 0, ⟨i, h1, h2⟩ => exact ⟨i, h1, vN_up hv h2⟩
  | 1, ⟨i, h1, h2⟩ => exact ⟨i, h1, vN_up hv h2⟩
  | 2, h => exact h
  | 3, ⟨u, h1, h2⟩ =>
    refine ⟨u, hv _ _ h1, ?_⟩
    rcases h2 with h2 | ⟨h2, i, h3, h4⟩
    · exact .inl h2
    · exact .inr ⟨h2, i, h3, wC_up hw h4⟩
  | 4, ⟨u, h1, h2⟩ =>
    refine ⟨u, hv _ _ h1, ?_⟩
    rcases h2 with h2 | ⟨h2, i, n, h3, h4, h5⟩
    · exact .inl h2
    · exact .inr ⟨h2, i, n, h3, wT_up hw h4, hv _ _ h5⟩
  | 5, h => exact h
  | 6, ⟨i, X, h1, h2, h3⟩ => exact ⟨i, X, h1, vN_up hv h2, h3⟩
  | 7, ⟨i, h1, h2⟩ => exact ⟨i, h1, vN_up hv h2⟩
  | 8, h => exact h
  | n + 9, h => exact h.elim
def s_cat (s : sV) : Nat := bif Nat.beq s.1 1 then 2 else 1
theorem dn_cat {vs : List Int} {w : mWd} {s : sV} {v : Value} (h : dn vs w s v) : v.category = s_cat s := by
  obtain ⟨t, a, c⟩ := s
  unfold dn at h
  match t, h with
  | 0, ⟨i, h1, h2⟩ => subst h1; rfl
  | 1, ⟨i, h1, h2⟩ => subst h1; rfl
  | 2, h => subst h; rfl
  | 3, ⟨u, h1, h2⟩ =>
    rcases h2 with ⟨-, h2⟩ | ⟨h2, i, h3, h4⟩
    · subst h2; rfl
    · subst h3; rfl
  | 4, ⟨u, h1, h2⟩ =>
    rcases h2 with ⟨-, h2⟩ | ⟨h2, i, n, h3, h4, h5⟩
    · subst h2; rfl
    · subst h3; rfl
  | 5, h => subst h; rfl
  | 6, ⟨i, X, h1, h2, h3⟩ => subst h1; rfl
  | 7, ⟨i, h1, h2⟩ => subst h1; rfl
  | 8, h => subst h; rfl
  | n + 9, h => exact h.elim
theorem dn_c1 {vs : List Int} {w : mWd} {s : sV} {v : Value} (h : dn vs w s v) (h1 : Nat.beq s.1 1 = false) : m_c1 v = true := by
  have hc := dn_cat h
  unfold s_cat at hc
  rw [h1] at hc
  cases v <;> first | rfl | (cases hc; done)
/-- ints: kinds 0 and 7 -/
theorem dn_int {vs : List Int} {w : mWd} {s : sV} {v : Value} (h : dn vs w s v) (ht : k_tg 0 s = true) : ∃ i : Int32, v = .int i ∧ vN vs s i.toInt := by
  obtain ⟨t, a, c⟩ := s
  unfold k_tg at ht
  simp only [show Nat.beq 0 0 = true from rfl, cond_true, Bool.or_eq_true] at ht
  rcases ht with ht | ht
  · have := Nat.eq_of_beq_eq_true ht; subst this; exact h
  · have := Nat.eq_of_beq_eq_true ht; subst this; exact h
theorem dn_lng {vs : List Int} {w : mWd} {s : sV} {v : Value} (h : dn vs w s v) (ht : k_tg 1 s = true) : ∃ i : Int64, v = .long i ∧ vN vs s i.toInt := by
  obtain ⟨t, a, c⟩ := s
  have := Nat.eq_of_beq_eq_true (show Nat.beq t 1 = true from ht)
  subst this
  exact h
theorem dn_of_int {vs : List Int} {w : mWd} {s : sV} {i : Int32} (ht : k_tg 0 s = true) (h : vN vs s i.toInt) : dn vs w s (.int i) := by
  obtain ⟨t, a, c⟩ := s
  unfold k_tg at ht
  simp only [show Nat.beq 0 0 = true from rfl, cond_true, Bool.or_eq_true] at ht
  rcases ht with ht | ht
  · have := Nat.eq_of_beq_eq_true ht; subst this; exact ⟨i, rfl, h⟩
  · have := Nat.eq_of_beq_eq_true ht; subst this; exact ⟨i, rfl, h⟩
theorem dn_of_lng {vs : List Int} {w : mWd} {s : sV} {i : Int64} (ht : k_tg 1 s = true) (h : vN vs s i.toInt) : dn vs w s (.long i) := by
  obtain ⟨t, a, c⟩ := s
  have := Nat.eq_of_beq_eq_true (show Nat.beq t 1 = true from ht)
  subst this
  exact ⟨i, rfl, h⟩
def dnL (vs : List Int) (w : mWd) : List sV → List Value → Prop
  | [], [] => True
  | s :: ss, v :: vv => dn vs w s v ∧ dnL vs w ss vv
  | _, _ => False
theorem dnL_up {vs vs' : List Int} {w w' : mWd} (hv : vL vs vs') (hw : w_le w w') : ∀ {ss : List sV} {vv : List Value}, dnL vs w ss vv → dnL vs' w' ss vv
  | [], [], h => h
  | _ :: _, _ :: _, h => ⟨dn_up hv hw h.1, dnL_up hv hw h.2⟩
  | [], _ :: _, h => h.elim
  | _ :: _, [], h => h.elim
theorem dnL_cons {vs : List Int} {w : mWd} {s : sV} {ss : List sV} {vv : List Value} (h : dnL vs w (s :: ss) vv) : ∃ v r, vv = v :: r ∧ dn vs w s v ∧ dnL vs w ss r := by
  cases vv with
  | nil => exact h.elim
  | cons v r => exact ⟨v, r, rfl, h.1, h.2⟩
theorem dnL_nil {vs : List Int} {w : mWd} {vv : List Value} (h : dnL vs w [] vv) : vv = [] := by
  cases vv with
  | nil => rfl
  | cons v r => exact h.elim
def s_cats : List sV → Nat
  | [] => 0
  | s :: ss => s_cat s + s_cats ss
theorem dnL_cats {vs : List Int} {w : mWd} : ∀ {ss : List sV} {vv : List Value}, dnL vs w ss vv → m_cat vv = s_cats ss
  | [], [], _ => rfl
  | s :: ss, v :: vv, h => by
    have ih := dnL_cats h.2
    unfold m_cat at ih ⊢
    rw [List.map_cons, List.sum_cons, ih, dn_cat h.1]
    rfl
  | [], _ :: _, h => h.elim
  | _ :: _, [], h => h.elim
abbrev sL : Type := List (Nat × sV)
def s_get : sL → Nat → Option sV
  | [], _ => none
  | q :: l, i => bif Nat.beq q.1 i then some q.2 else s_get l i
/-- the locals that are known -/
def lvR (vs : List Int) (w : mWd) (ss : sL) (vv : mL) : Prop := ∀ i s, s_get ss i = some s → ∃ v, m_get vv i = some v ∧ dn vs w s v
theorem lvR_up {vs vs' : List Int} {w w' : mWd} (hv : vL vs vs') (hw : w_le w w') {ss : sL} {vv : mL} (h : lvR vs w ss vv) : lvR vs' w' ss vv := fun i s hs => by
  obtain ⟨v, h1, h2⟩ := h i s hs
  exact ⟨v, h1, dn_up hv hw h2⟩
theorem lvR_get {vs : List Int} {w : mWd} {i : Nat} {s : sV} {ss : sL} {vv : mL} (h : lvR vs w ss vv) (hg : s_get ss i = some s) : ∃ v, m_get vv i = some v ∧ dn vs w s v := h i s hg
def s_del (i : Nat) : sL → sL
  | [] => []
  | q :: l => bif Nat.beq q.1 i then s_del i l else q :: s_del i l
theorem s_del_get (i j : Nat) : ∀ l : sL, s_get (s_del i l) j = bif Nat.beq i j then none else s_get l j
  | [] => by cases e : Nat.beq i j <;> simp [s_del, s_get]
  | q :: l => by
    have ih := s_del_get i j l
    unfold s_del
    cases e : Nat.beq q.1 i with
    | true =>
      simp only [cond_true, ih]
      have := Nat.eq_of_beq_eq_true e
      rw [← this]
      cases e2 : Nat.beq q.1 j with
      | true => rfl
      | false => simp only [cond_false, s_get, e2]
    | false =>
      simp only [cond_false, s_get]
      cases e2 : Nat.beq q.1 j with
      | true =>
        have := Nat.eq_of_beq_eq_true e2
        rw [this] at e
        have e3 : Nat.beq i j = false := by
          cases e4 : Nat.beq i j with
          | false => rfl
          | true =>
            have := Nat.eq_of_beq_eq_true e4
            rw [this, Nat.beq_refl] at e
            cases e
        rw [e3]
        rfl
      | false => simp only [cond_false, ih]
/-- is the local ahead of i a long -/
def s_lp (i : Nat) (l : sL) : Bool := match i with
  | 0 => false
  | j + 1 => (match s_get l j with
    | some s => Nat.beq s.1 1
    | none => false)
def s_rm1 (i : Nat) (l : sL) : sL := bif s_lp i l then s_del i (s_del (i - 1) l) else s_del i l
def s_rm2 (i : Nat) (l : sL) : sL := s_del (i + 1) (s_rm1 i l)
theorem s_rm1_get {i j : Nat} {l : sL} {s : sV} (h : s_get (s_rm1 i l) j = some s) : j ≠ i ∧ s_get l j = some s ∧ (j + 1 = i → Nat.beq s.1 1 = false) := by
  unfold s_rm1 at h
  cases e : s_lp i l with
  | true =>
    rw [e] at h
    simp only [cond_true, s_del_get] at h
    cases e1 : Nat.beq i j with
    | true => rw [e1] at h; cases h
    | false =>
      rw [e1] at h
      simp only [cond_false] at h
      cases e2 : Nat.beq (i - 1) j with
      | true => rw [e2] at h; cases h
      | false =>
        rw [e2] at h
        have n1 := Nat.ne_of_beq_eq_false e1
        have n2 := Nat.ne_of_beq_eq_false e2
        exact ⟨fun h => n1 h.symm, h, fun h => absurd (show i - 1 = j by omega) n2⟩
  | false =>
    rw [e] at h
    simp only [cond_false, s_del_get] at h
    cases e1 : Nat.beq i j with
    | true => rw [e1] at h; cases h
    | false =>
      rw [e1] at h
      simp only [cond_false] at h
      have n1 := Nat.ne_of_beq_eq_false e1
      refine ⟨fun h => n1 h.symm, h, fun hj => ?_⟩
      subst hj
      unfold s_lp at e
      simp only at e
      rw [h] at e
      exact e
theorem beq_nat (a b : Nat) : (a == b) = Nat.beq a b := by
  cases h : Nat.beq a b with
  | true => simp [Nat.eq_of_beq_eq_true h]
  | false =>
    have : a ≠ b := Nat.ne_of_beq_eq_false h
    simp [this]
theorem beq_ne {a b : Nat} (h : a ≠ b) : Nat.beq a b = false := by
  cases e : Nat.beq a b with
  | false => rfl
  | true => exact absurd (Nat.eq_of_beq_eq_true e) h
theorem m_get_filter {p : Nat × Value → Bool} {j : Nat} {v : Value} : ∀ {l : mL}, m_get l j = some v → p (j, v) = true → m_get (l.filter p) j = some v
  | [], h, _ => by cases h
  | (k, u) :: l, h, hp => by
    unfold m_get at h
    cases e : Nat.beq k j with
    | true =>
      rw [e] at h
      cases h
      have := Nat.eq_of_beq_eq_true e
      subst this
      rw [List.filter_cons, if_pos hp]
      unfold m_get
      rw [e]
      rfl
    | false =>
      rw [e] at h
      have ih := m_get_filter h hp
      rw [List.filter_cons]
      split
      · unfold m_get
        rw [e]
        exact ih
      · exact ih
theorem lvR_put1 {vs : List Int} {w : mWd} {i : Nat} {s : sV} {v : Value} {ss : sL} {vv : mL} (h : lvR vs w ss vv) (hs : dn vs w s v) : lvR vs w ((i, s) :: s_rm1 i ss) (m_put1 vv i v) := by
  intro j t ht
  unfold s_get at ht
  unfold m_put1 m_get
  cases e : Nat.beq i j with
  | true =>
    rw [e] at ht
    cases ht
    exact ⟨v, rfl, hs⟩
  | false =>
    rw [e] at ht
    obtain ⟨h1, h2, h3⟩ := s_rm1_get ht
    obtain ⟨u, u1, u2⟩ := h j t h2
    refine ⟨u, ?_, u2⟩
    refine m_get_filter u1 ?_
    have c := dn_cat u2
    simp only [Bool.and_eq_true, Bool.not_eq_true', beq_nat, beq_eq_false_iff_ne, Bool.and_eq_false_iff]
    refine ⟨beq_ne h1, ?_⟩
    by_cases e5 : j + 1 = i
    · right
      rw [c]
      unfold s_cat
      rw [h3 e5]
      rfl
    · left
      exact beq_ne e5
theorem lvR_put2 {vs : List Int} {w : mWd} {i : Nat} {s : sV} {v : Value} {ss : sL} {vv : mL} (h : lvR vs w ss vv) (hs : dn vs w s v) : lvR vs w ((i, s) :: s_rm2 i ss) (m_put2 vv i v) := by
  intro j t ht
  unfold s_get at ht
  unfold m_put2 m_get
  cases e : Nat.beq i j with
  | true =>
    rw [e] at ht
    cases ht
    exact ⟨v, rfl, hs⟩
  | false =>
    rw [e] at ht
    simp only [cond_false] at ht
    unfold s_rm2 at ht
    rw [s_del_get] at ht
    cases e0 : Nat.beq (i + 1) j with
    | true => rw [e0] at ht; cases ht
    | false =>
      rw [e0] at ht
      have n0 := Nat.ne_of_beq_eq_false e0
      obtain ⟨h1, h2, h3⟩ := s_rm1_get ht
      obtain ⟨u, u1, u2⟩ := h j t h2
      refine ⟨u, ?_, u2⟩
      refine m_get_filter u1 ?_
      have c := dn_cat u2
      simp only [Bool.and_eq_true, Bool.not_eq_true', beq_nat, beq_eq_false_iff_ne, Bool.and_eq_false_iff]
      refine ⟨beq_ne h1, ?_, ?_⟩
      · have : j ≠ i + 1 := fun h => n0 h.symm
        exact beq_ne this
      · by_cases e5 : j + 1 = i
        · right
          rw [c]
          unfold s_cat
          rw [h3 e5]
          rfl
        · left
          exact beq_ne e5
