/-! THE WORLD AT THE LOOP'S FIRST ROUND: the two constructors ran, the script was not read -/
def m_stA (mid pc : Nat) (l : mL) (st : List Value) (w : mWd) (ins : Instr) : Option mOut := match ins, st with
  | .arraylength, .retAddr _ :: _ => none
  | ins, st => m_step 0 (fun _ => 0) mid pc l st w ins
theorem xld_any {L : Nat} {xs : Nat → Int32} {o k : Nat} {j : Int32} {v : Value} (h : m_xld 0 (fun _ => 0) o k j = some v) : m_xld L xs o k j = some v := by
  match k with
  | 0 =>
    unfold m_xld at h
    simp only [pgX] at h
    split at h
    next hc =>
      have := hc.1
      unfold m_in at this
      rw [decide_eq_true_eq] at this
      exact absurd (Or.inr (Nat.zero_le _)) this
    next => cases h
  | 1 => exact h
  | 2 => exact h
  | 3 => exact h
  | 4 => exact h
  | 5 => exact h
  | k + 6 => exact h
theorem m_stA_ok {L : Nat} {xs : Nat → Int32} {mid pc : Nat} {l : mL} {st : List Value} {w : mWd} {ins : Instr} {r : mOut} (h : m_stA mid pc l st w ins = some r) : m_step L xs mid pc l st w ins = some r := by
  cases ins
  case arraylength =>
    match st, h with
    | [], h => exact h
    | .ref i :: st, h => exact h
    | .retAddr k :: st, h => cases h
    | .null :: st, h => exact h
    | .int _ :: st, h => exact h
    | .long _ :: st, h => exact h
    | .float _ :: st, h => exact h
    | .double _ :: st, h => exact h
  case iaload =>
    have h' : m_step 0 (fun _ => 0) mid pc l st w .iaload = some r := h
    simp only [m_step] at h' ⊢
    split at h'
    · exact h'
    · split at h'
      next v hv => rw [xld_any hv]; exact h'
      next => cases h'
    · cases h'
  case baload =>
    have h' : m_step 0 (fun _ => 0) mid pc l st w .baload = some r := h
    simp only [m_step] at h' ⊢
    split at h'
    · exact h'
    · split at h'
      next v hv => rw [xld_any hv]; exact h'
      next => cases h'
    · cases h'
  all_goals exact h
def m_rnA : Nat → Nat → Nat → Nat → mL → List Value → mWd → Option (Option Value × mWd)
  | 0, _, _, _, _, _, _ => none
  | _ + 1, 0, _, _, _, _, _ => none
  | n + 1, d + 1, mid, pc, l, st, w => (match pgF mid pc with
    | none => none
    | some (ins, _) => (match m_stA mid pc l st w ins with
      | none => none
      | some (.inl (pc', l', st', w')) => m_rnA n (d + 1) mid pc' l' st' w'
      | some (.inr (.inl (y, as, r))) => (match m_rnA n d y 0 (lv_args 0 as) [] w with
        | none => none
        | some (v, w1) => m_rnA n (d + 1) mid (pc + 3) l (v.toList ++ r) w1)
      | some (.inr (.inr v)) => some (v, w)))
theorem m_rnA_ok {L : Nat} {xs : Nat → Int32} : ∀ (n d mid pc : Nat) (l : mL) (st : List Value) (w : mWd) (r : Option Value × mWd), m_rnA n d mid pc l st w = some r → m_run L xs n d mid pc l st w = some r := by
  intro n
  induction n with
  | zero => intro d mid pc l st w r h; cases h
  | succ n ih =>
    intro d mid pc l st w r h
    cases d with
    | zero => cases h
    | succ d =>
      simp only [m_rnA] at h
      simp only [m_run]
      split at h
      next => cases h
      next ins k hf =>
        rw [hf]
        simp only
        split at h
        next => cases h
        next pc' l' st' w' hs => rw [m_stA_ok hs]; exact ih _ _ _ _ _ _ _ h
        next y as rr hs =>
          rw [m_stA_ok hs]
          simp only
          split at h
          next => cases h
          next v w1 h2 => rw [ih _ _ _ _ _ _ _ h2]; exact ih _ _ _ _ _ _ _ h
        next v hs => rw [m_stA_ok hs]; exact h
def m_tA (tgt : Nat) : Nat → Nat → Nat → Nat → mL → List Value → mWd → Option (mL × List Value × mWd)
  | 0, _, _, _, _, _, _ => none
  | _ + 1, 0, _, _, _, _, _ => none
  | n + 1, d + 1, mid, pc, l, st, w => bif Nat.beq pc tgt then some (l, st, w) else (match pgF mid pc with
    | none => none
    | some (ins, _) => (match m_stA mid pc l st w ins with
      | none => none
      | some (.inl (pc', l', st', w')) => m_tA tgt n (d + 1) mid pc' l' st' w'
      | some (.inr (.inl (y, as, r))) => (match m_rnA n d y 0 (lv_args 0 as) [] w with
        | none => none
        | some (v, w1) => m_tA tgt n (d + 1) mid (pc + 3) l (v.toList ++ r) w1)
      | some (.inr (.inr _)) => none))
theorem m_tA_ok {L : Nat} {xs : Nat → Int32} {tgt : Nat} : ∀ (n d mid pc : Nat) (l : mL) (st : List Value) (w : mWd) (r : mL × List Value × mWd), m_tA tgt n d mid pc l st w = some r → m_to L xs tgt n d mid pc l st w = some r := by
  intro n
  induction n with
  | zero => intro d mid pc l st w r h; cases h
  | succ n ih =>
    intro d mid pc l st w r h
    cases d with
    | zero => cases h
    | succ d =>
      simp only [m_tA] at h
      simp only [m_to]
      cases hb : Nat.beq pc tgt with
      | true => rw [hb] at h; exact h
      | false =>
        rw [hb] at h
        simp only [cond_false] at h ⊢
        split at h
        next => cases h
        next ins k hf =>
          rw [hf]
          simp only
          split at h
          next => cases h
          next pc' l' st' w' hs => rw [m_stA_ok hs]; exact ih _ _ _ _ _ _ _ h
          next y as rr hs =>
            rw [m_stA_ok hs]
            simp only
            split at h
            next => cases h
            next v w1 h2 => rw [m_rnA_ok _ _ _ _ _ _ _ _ h2]; exact ih _ _ _ _ _ _ _ h
          next => cases h
/-! does a world hold what the data say: by evaluation -/
def b_val (sp : zSp) (v : Value) : Bool := match sp.1, v with
  | 0, .int i => z_le sp.2.1 i.toInt && z_le i.toInt sp.2.2
  | 1, .long _ => true
  | 2, .ref i => Nat.beq i sp.2.1.toNat
  | 3, .null => true
  | 4, .null => true
  | _, _ => false
theorem b_val_ok {w : mWd} {sp : zSp} {v : Value} (h : b_val sp v = true) : okV w sp v := by
  obtain ⟨t, a, b⟩ := sp
  unfold b_val at h
  split at h
  next i e =>
    simp only at e
    subst e
    rw [Bool.and_eq_true, z_le_iff, z_le_iff] at h
    exact ⟨i, rfl, h.1, h.2⟩
  next i e =>
    simp only at e
    subst e
    exact ⟨i, rfl⟩
  next i e =>
    simp only at e
    subst e
    show Value.ref i = Value.ref a.toNat
    rw [Nat.eq_of_beq_eq_true h]
  next e =>
    simp only at e
    subst e
    exact .inl rfl
  next e =>
    simp only at e
    subst e
    exact .inl rfl
  next => cases h
def b_flds : List zSp → List Value → Bool
  | [], [] => true
  | sp :: sps, v :: vs => b_val sp v && b_flds sps vs
  | _, _ => false
theorem b_flds_ok {w : mWd} : ∀ {sps : List zSp} {fs : List Value}, b_flds sps fs = true → fs.length = sps.length ∧ ∀ (k : Nat) (sp : zSp) (v : Value), sps[k]? = some sp → fs[k]? = some v → okV w sp v
  | [], [], _ => ⟨rfl, fun k sp v h => by simp at h⟩
  | sp :: sps, v :: fs, h => by
    unfold b_flds at h
    rw [Bool.and_eq_true] at h
    obtain ⟨h1, h2⟩ := b_flds_ok (w := w) h.2
    refine ⟨by simp [h1], fun k sp' v' hs hv => ?_⟩
    cases k with
    | zero =>
      simp at hs hv
      subst hs hv
      exact b_val_ok h.1
    | succ k => exact h2 k sp' v' (by simpa using hs) (by simpa using hv)
  | [], _ :: _, h => by cases h
  | _ :: _, [], h => by cases h
def b_els (W : List (Int × Int)) (e : zSp) (a : zCt) : Nat → Bool
  | 0 => true
  | n + 1 => b_val (z_es W e n) (m_el a n) && b_els W e a n
theorem b_els_ok {w : mWd} {W : List (Int × Int)} {e : zSp} {a : zCt} : ∀ {n : Nat}, b_els W e a n = true → ∀ j, j < n → okV w (z_es W e j) (m_el a j)
  | 0, _, j, hj => by omega
  | n + 1, h, j, hj => by
    unfold b_els at h
    rw [Bool.and_eq_true] at h
    by_cases e : j = n
    · subst e; exact b_val_ok h.1
    · exact b_els_ok h.2 j (by omega)
def b_cell (W : List (Int × Int)) (s : zS1) (c : mE) : Bool := match s, c with
  | (0, ci, n, sps), .inr (cj, fs) => Nat.beq ci cj && (Nat.beq n sps.length && b_flds sps fs)
  | (1, t, n, [e]), .inl (t', n', a) => (Nat.beq t t' && Nat.beq n n') && (decide (shp (.inl (t', n', a)) = (z_kd t, t, n)) && b_els W e a n)
  | _, _ => false
theorem b_cell_ok {w : mWd} {W : List (Int × Int)} {s : zS1} {c : mE} (h : b_cell W s c = true) : w_okC W w s c := by
  unfold b_cell at h
  split at h
  next ci n sps cj fs =>
    rw [Bool.and_eq_true, Bool.and_eq_true] at h
    have e1 := Nat.eq_of_beq_eq_true h.1
    have e2 := Nat.eq_of_beq_eq_true h.2.1
    subst e1
    obtain ⟨h1, h2⟩ := b_flds_ok (w := w) h.2.2
    exact ⟨fs, rfl, by show fs.length = n; omega, h2⟩
  next t n e t' n' a =>
    rw [Bool.and_eq_true, Bool.and_eq_true, Bool.and_eq_true, decide_eq_true_eq] at h
    obtain ⟨⟨e1, e2⟩, e3, e4⟩ := h
    have e1 := Nat.eq_of_beq_eq_true e1
    have e2 := Nat.eq_of_beq_eq_true e2
    subst e1 e2
    refine ⟨e3, a, rfl, fun e' j he hj => ?_⟩
    cases he
    exact b_els_ok e4 j hj
  next => cases h
def b_cells (W : List (Int × Int)) : List zS1 → mWd → Bool
  | [], [] => true
  | s :: S, c :: w => b_cell W s c && b_cells W S w
  | _, _ => false
theorem b_cells_ok {w0 : mWd} {W : List (Int × Int)} : ∀ {S : List zS1} {w : mWd}, b_cells W S w = true → w.length = S.length ∧ ∀ (i : Nat) (s : zS1), S[i]? = some s → ∃ c, w[i]? = some c ∧ w_okC W w0 s c
  | [], [], _ => ⟨rfl, fun i s h => by simp at h⟩
  | s :: S, c :: w, h => by
    unfold b_cells at h
    rw [Bool.and_eq_true] at h
    obtain ⟨h1, h2⟩ := b_cells_ok (w0 := w0) h.2
    refine ⟨by simp [h1], fun i s' hs => ?_⟩
    cases i with
    | zero =>
      simp at hs
      subst hs
      exact ⟨c, rfl, b_cell_ok h.1⟩
    | succ i => exact h2 i s' (by simpa using hs)
  | [], _ :: _, h => by cases h
  | _ :: _, [], h => by cases h
/-- no kind is set -/
def b_kind (w : mWd) : Bool := match w[z_KC]? with
  | some (.inl (_, n, .inl f)) => Nat.beq n 150 && (List.range 150).all (fun k => z_eq (f k).toInt 0)
  | _ => false
def b_all (S : List zS1) (W : List (Int × Int)) (q : mL × List Value × mWd) : Bool := (b_cells W S q.2.2 && b_kind q.2.2) && (Nat.ble (m_sl q.2.2) 100000 && (match q.1, q.2.1 with
  | [(3, .int i), (2, .ref 69), (1, .ref 0), (0, .retAddr 0)], [] => z_eq i.toInt 0
  | _, _ => false))
