/-! THE LAW'S ROUND, WITH PAIRS -/
def l_at (xs : Nat → Int32) (i : Int32) (c : Int) : Int32 := xs (i.toInt + c).toNat
def lR2 (xs : Nat → Int32) (i r0 : Int32) (e : lE) (v : Value) : Prop := match e.1 with
  | 0 => v = .retAddr 0
  | 1 => v = .ref e.2.1.toNat
  | 2 => ∃ x : Int32, v = .int x ∧ e.2.1 ≤ x.toInt ∧ x.toInt ≤ e.2.2
  | 3 => ∃ x : Int32, v = .int x ∧ x.toInt = i.toInt + e.2.1
  | 4 => v = .int (l_at xs i e.2.1)
  | 5 => v = .int r0
  | _ => False
def lR2L (xs : Nat → Int32) (i r0 : Int32) : List lE → List Value → Prop
  | [], [] => True
  | e :: es, v :: vs => lR2 xs i r0 e v ∧ lR2L xs i r0 es vs
  | _, _ => False
section LK2
variable {xs : Nat → Int32} {i r0 : Int32}
theorem lR2L_cons {e : lE} {es : List lE} {st : List Value} (h : lR2L xs i r0 (e :: es) st) : ∃ v r, st = v :: r ∧ lR2 xs i r0 e v ∧ lR2L xs i r0 es r := by
  cases st with
  | nil => exact h.elim
  | cons v r => exact ⟨v, r, rfl, h.1, h.2⟩
theorem lR2L_nil {st : List Value} (h : lR2L xs i r0 [] st) : st = [] := by
  cases st with
  | nil => rfl
  | cons v r => exact h.elim
theorem lR2_cat {e : lE} {v : Value} (h : lR2 xs i r0 e v) : v.category = 1 := by
  obtain ⟨t, a, b⟩ := e
  unfold lR2 at h
  match t, h with
  | 0, h => subst h; rfl
  | 1, h => subst h; rfl
  | 2, ⟨x, h, _⟩ => subst h; rfl
  | 3, ⟨x, h, _⟩ => subst h; rfl
  | 4, h => subst h; rfl
  | 5, h => subst h; rfl
  | n + 6, h => exact h.elim
theorem lR2L_cat : ∀ {es : List lE} {st : List Value}, lR2L xs i r0 es st → m_cat st = es.length
  | [], [], _ => rfl
  | e :: es, v :: st, h => by
    have ih := lR2L_cat h.2
    unfold m_cat at ih ⊢
    rw [List.map_cons, List.sum_cons, ih, lR2_cat h.1, List.length_cons]
    omega
  | [], _ :: _, h => h.elim
  | _ :: _, [], h => h.elim
def l_int (e : lE) : Bool := Nat.beq e.1 2 || (Nat.beq e.1 4 || Nat.beq e.1 5)
theorem l_int_ok {e : lE} {v : Value} (h : lR2 xs i r0 e v) (hi : l_int e = true) : ∃ x : Int32, v = .int x := by
  obtain ⟨t, a, b⟩ := e
  unfold l_int at hi
  rw [Bool.or_eq_true, Bool.or_eq_true] at hi
  rcases hi with e | e | e <;> (have e := Nat.eq_of_beq_eq_true e; simp only at e; subst e)
  · obtain ⟨x, hx, -⟩ := h
    exact ⟨x, hx⟩
  · exact ⟨_, h⟩
  · exact ⟨_, h⟩
def l_ints2 : Nat → List lE → Option (List lE)
  | 0, st => some st
  | n + 1, e :: st => bif l_int e then l_ints2 n st else none
  | _ + 1, [] => none
theorem l_ints2_ok : ∀ {n : Nat} {es r : List lE} {st : List Value} (acc : List Value), lR2L xs i r0 es st → l_ints2 n es = some r → ∃ (as : List Int32) (rst : List Value), as.length = n ∧ m_pop n st acc = some (as.map Value.int ++ acc, rst) ∧ lR2L xs i r0 r rst
  | 0, es, r, st, acc, h, ho => by
    cases ho
    exact ⟨[], st, rfl, rfl, h⟩
  | n + 1, [], r, st, acc, h, ho => by cases ho
  | n + 1, e :: es, r, st, acc, h, ho => by
    obtain ⟨v, r1, e1, d1, d2⟩ := lR2L_cons h
    subst e1
    unfold l_ints2 at ho
    cases e2 : l_int e with
    | false => rw [e2] at ho; cases ho
    | true =>
      rw [e2] at ho
      obtain ⟨x, hx⟩ := l_int_ok d1 e2
      subst hx
      obtain ⟨as, rst, a1, a2, a3⟩ := l_ints2_ok (.int x :: acc) d2 ho
      refine ⟨as ++ [x], rst, by simp [a1], ?_, a3⟩
      show m_pop n r1 (.int x :: acc) = _
      rw [a2]
      simp
/-- the call's ints are the script's, in their order -/
def l_as (xs : Nat → Int32) (i : Int32) (n : Nat) : List Int32 := (List.range n).map fun (k : Nat) => l_at xs i (Int.ofNat (k + 1))
theorem l_as_len (n : Nat) : (l_as xs i n).length = n := by unfold l_as; rw [List.length_map, List.length_range]
def l_ex : Nat → List lE → Option (List lE)
  | 0, st => some st
  | n + 1, e :: st => bif (Nat.beq e.1 4 && z_eq e.2.1 (Int.ofNat (n + 1))) then l_ex n st else none
  | _ + 1, [] => none
theorem l_ex_ok : ∀ {n : Nat} {es r : List lE} {st : List Value} (acc : List Value), lR2L xs i r0 es st → l_ex n es = some r → ∃ rst : List Value, m_pop n st acc = some ((l_as xs i n).map Value.int ++ acc, rst) ∧ lR2L xs i r0 r rst
  | 0, es, r, st, acc, h, ho => by
    cases ho
    exact ⟨st, rfl, h⟩
  | n + 1, [], r, st, acc, h, ho => by cases ho
  | n + 1, e :: es, r, st, acc, h, ho => by
    obtain ⟨v, r1, e1, d1, d2⟩ := lR2L_cons h
    subst e1
    unfold l_ex at ho
    cases e2 : (Nat.beq e.1 4 && z_eq e.2.1 (Int.ofNat (n + 1))) with
    | false => rw [e2] at ho; cases ho
    | true =>
      rw [e2] at ho
      rw [Bool.and_eq_true, z_eq_iff] at e2
      obtain ⟨t, a, b⟩ := e
      have h4 := Nat.eq_of_beq_eq_true e2.1
      have h5 := e2.2
      simp only at h4 h5
      subst h4 h5
      have hv : v = .int (l_at xs i (Int.ofNat (n + 1))) := d1
      subst hv
      obtain ⟨rst, a2, a3⟩ := l_ex_ok (.int (l_at xs i (Int.ofNat (n + 1))) :: acc) d2 ho
      refine ⟨rst, ?_, a3⟩
      show m_pop n r1 (.int (l_at xs i (Int.ofNat (n + 1))) :: acc) = _
      rw [a2]
      unfold l_as
      rw [List.range_succ]
      simp
def l_same (a b : lE) : Bool := (Nat.beq a.1 5 && Nat.beq b.1 5) || ((Nat.beq a.1 2 && Nat.beq b.1 2) && (z_eq a.2.1 b.2.1 && (z_eq b.2.1 b.2.2 && z_eq a.2.1 a.2.2)))
theorem l_same_ok {a b : lE} {u v : Value} (h : l_same a b = true) (ha : lR2 xs i r0 a u) (hb : lR2 xs i r0 b v) : ∃ x : Int32, u = .int x ∧ v = .int x := by
  unfold l_same at h
  obtain ⟨t, a1, a2⟩ := a
  obtain ⟨s, b1, b2⟩ := b
  rw [Bool.or_eq_true, Bool.and_eq_true, Bool.and_eq_true, Bool.and_eq_true, Bool.and_eq_true, Bool.and_eq_true, z_eq_iff, z_eq_iff, z_eq_iff] at h
  rcases h with ⟨e1, e2⟩ | ⟨⟨e1, e2⟩, e3, e4, e5⟩ <;> (have e1 := Nat.eq_of_beq_eq_true e1; have e2 := Nat.eq_of_beq_eq_true e2; simp only at e1 e2; subst e1 e2)
  · exact ⟨r0, ha, hb⟩
  · obtain ⟨x, hx, x1, x2⟩ := ha
    obtain ⟨y, hy, y1, y2⟩ := hb
    simp only at x1 x2 y1 y2 e3 e4 e5
    have : x = y := Int32.toInt_inj.mp (by omega)
    subst this
    exact ⟨x, hx, hy⟩
def pr_get (y : Nat) : List zPr → Option zPr
  | [] => none
  | p :: PS => bif Nat.beq p.1 y then some p else pr_get y PS
theorem pr_get_ok {y : Nat} {p : zPr} : ∀ {PS : List zPr}, pr_get y PS = some p → p ∈ PS ∧ p.1 = y
  | [], h => by cases h
  | q :: PS, h => by
    unfold pr_get at h
    cases e : Nat.beq q.1 y with
    | true =>
      rw [e] at h
      cases h
      exact ⟨List.mem_cons_self, Nat.eq_of_beq_eq_true e⟩
    | false =>
      rw [e] at h
      obtain ⟨h1, h2⟩ := pr_get_ok h
      exact ⟨List.mem_cons_of_mem _ h1, h2⟩
end LK2
def S2 (Z : zDt) (F : zRF) (A : zRA) (L : Nat) (xs : Nat → Int32) (d : Nat) (i : Int32) (w0 : mWd) (al : Nat × Nat) (r0 : Int32) (w : mWd) : Option zPr → Prop
  | none => LW Z w0 al w ∧ RI F A w
  | some p => ∃ wp, LW Z w0 al wp ∧ WI Z w ∧ Rn L xs d p.2.1 0 (lv_args 0 (.ref 69 :: (l_as xs i p.2.2.1).map Value.int)) [] w (fun v2 w2 => prQ2 Z F A p wp (some (.int r0)) v2 w2)
theorem int_cat : ∀ zs : List Int32, m_cat (zs.map Value.int) = zs.length
  | [] => rfl
  | z :: zs => by
    have ihz := int_cat zs
    unfold m_cat at ihz ⊢
    rw [List.map_cons, List.map_cons, List.sum_cons, ihz, List.length_cons]
    show 1 + zs.length = zs.length + 1
    omega
theorem l_rcv_ok {Z : zDt} {y cell : Nat} {w : mWd} (hW : WI Z w) (h : l_rcv Z y cell = true) : m_rcv y (.ref cell) w = true := by
  unfold l_rcv at h
  split at h
  next ci nn sps hZ =>
    obtain ⟨fs, f1, -⟩ := WI_obj hW hZ
    simp only [m_rcv, f1]
    exact h
  next => cases h
/-- a call's step -/
theorem l_stp {L : Nat} {xs : Nat → Int32} {pc ix y cell : Nat} {q : Int} {lv : mL} {st r : List Value} {w : mWd} {as : List Int32} (hr : pgRs 274 ix = some (6, y, q)) (hp : m_pop (pgA y) st [] = some (as.map Value.int ++ [], .ref cell :: r)) (hl : as.length = pgA y) (hrc : m_rcv y (.ref cell) w = true) (hc : m_cat r ≤ 8) (g3 : Nat.ble (pgA y + 1) (pgL y) = true) (g4 : m_pl y = true) : m_step L xs 274 pc lv st w (.invokevirtual ix) = some (.inr (.inl (y, .ref cell :: as.map Value.int, r))) := by
  have hca : m_cat (.ref cell :: (as.map Value.int ++ [])) ≤ pgL y := by
    have h9 := Nat.le_of_ble_eq_true g3
    have h10 := int_cat as
    rw [List.append_nil]
    show 1 + m_cat (as.map Value.int) ≤ pgL y
    omega
  simp only [m_step, hr, hp, hrc, if_true]
  unfold m_call
  rw [if_pos ⟨hc, hca, g4⟩, List.append_nil]
