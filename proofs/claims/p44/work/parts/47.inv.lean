/-! what a call takes, what an end answers -/
def s_pop : Nat → List sV → List sV → Option (List sV × List sV)
  | 0, st, acc => some (acc, st)
  | n + 1, v :: st, acc => s_pop n st (v :: acc)
  | _ + 1, [], _ => none
section INV
variable {Z : zDt} {wr : zWr} {w0 w : mWd} {vs : List Int} {K : sK} {C : sC} {lv : sL} {ss : List sV} {al : Nat × Nat} {wk : Option sV} {l : mL} {st : List Value} {L mid pc : Nat} {xs : Nat → Int32}
theorem s_pop_ok : ∀ {n : Nat} {ss acc : List sV} {st acv : List Value} {q : List sV × List sV}, dnL vs w ss st → dnL vs w acc acv → s_pop n ss acc = some q → ∃ as r, m_pop n st acv = some (as, r) ∧ dnL vs w q.1 as ∧ dnL vs w q.2 r
  | 0, ss, acc, st, acv, q, h, ha, ho => by
    cases ho
    exact ⟨acv, st, rfl, ha, h⟩
  | n + 1, [], _, _, _, _, _, _, ho => by cases ho
  | n + 1, s :: ss, acc, st, acv, q, h, ha, ho => by
    obtain ⟨v, r, e, d1, d2⟩ := dnL_cons h
    subst e
    have ho' : s_pop n ss (s :: acc) = some q := ho
    exact s_pop_ok (acv := v :: acv) d2 (show dnL vs w (s :: acc) (v :: acv) from ⟨d1, ha⟩) ho'
/-- may the value be an object of the class that has this method -/
def h_rcv (Z : zDt) (K : sK) (y : Nat) (s : sV) : Bool := match s.1 with
  | 2 => (match Z.1[s.2.1]? with
    | some (0, ci, _, _) => Nat.beq (pgOw y) ci && Nat.blt ci 13
    | _ => false)
  | 3 => h_nn K s && Nat.beq (pgOw y) 2
  | 5 => Nat.beq s.2.1 4 && Nat.beq (pgOw y) 16
  | _ => false
theorem h_rcv_ok {y : Nat} {s : sV} {v : Value} (hW : WI Z w) (hK : nK vs K) (hd : dn vs w s v) (h : h_rcv Z K y s = true) : m_rcv y v w = true := by
  obtain ⟨t, a, c⟩ := s
  unfold h_rcv at h
  split at h
  next e =>
    simp only at e
    subst e
    have hv : v = .ref a := hd
    subst hv
    split at h
    next ci n sps hZ =>
      obtain ⟨fs, f1, -⟩ := WI_obj hW hZ
      simp only [m_rcv, f1]
      exact h
    next => cases h
  next e =>
    simp only at e
    subst e
    rw [Bool.and_eq_true] at h
    obtain ⟨i, hi, hC⟩ := dn_cost hK hd h.1
    subst hi
    obtain ⟨fs, f1, -⟩ := WI_cost hW hC
    simp only [m_rcv, f1]
    rw [h.2]
    rfl
  next e =>
    simp only at e
    subst e
    have hv : v = .retAddr a := hd
    subst hv
    exact h
  next => cases h
def h_rf (K : sK) (s : sV) : Bool := Nat.beq s.1 2 || (Nat.beq s.1 3 && h_nn K s)
theorem h_rf_ok {s : sV} {v : Value} (hK : nK vs K) (hd : dn vs w s v) (h : h_rf K s = true) : ∃ i, v = .ref i := by
  obtain ⟨t, a, c⟩ := s
  unfold h_rf at h
  rw [Bool.or_eq_true, Bool.and_eq_true] at h
  rcases h with h | ⟨h1, h2⟩
  · have := Nat.eq_of_beq_eq_true h
    simp only at this
    subst this
    exact ⟨a, hd⟩
  · have := Nat.eq_of_beq_eq_true h1
    simp only at this
    subst this
    obtain ⟨i, hi, -⟩ := dn_cost hK hd h2
    exact ⟨i, hi⟩
def h_cl (y : Nat) (q : List sV × List sV) : Option (Nat × List sV × List sV) := bif (Nat.ble (s_cats q.2) 8 && (Nat.ble (s_cats q.1) (pgL y) && m_pl y)) then some (y, q.1, q.2) else none
theorem h_cl_ok {y : Nat} {q : List sV × List sV} {as r : List Value} {p : Nat × List sV × List sV} (h1 : dnL vs w q.1 as) (h2 : dnL vs w q.2 r) (h : h_cl y q = some p) : p = (y, q.1, q.2) ∧ m_call y as r = some (.inr (.inl (y, as, r))) := by
  unfold h_cl at h
  cases e : (Nat.ble (s_cats q.2) 8 && (Nat.ble (s_cats q.1) (pgL y) && m_pl y)) with
  | false => rw [e] at h; cases h
  | true =>
    rw [e] at h
    cases h
    rw [Bool.and_eq_true, Bool.and_eq_true] at e
    refine ⟨rfl, ?_⟩
    unfold m_call
    rw [if_pos ⟨by rw [dnL_cats h2]; exact Nat.le_of_ble_eq_true e.1, by rw [dnL_cats h1]; exact Nat.le_of_ble_eq_true e.2.1, e.2.2⟩]
/-- the method that is called, its arguments, the rest of the stack -/
def s_inv (Z : zDt) (mid : Nat) (ins : Instr) (K : sK) (ss : List sV) : Option (Nat × List sV × List sV) := match ins with
  | .invokestatic ix => (match pgRs mid ix with
    | some (4, y, _) => bif m_pl y then (match s_pop (pgA y) ss [] with
      | some q => h_cl y q
      | none => none) else none
    | some (5, y, _) => (match s_pop (pgA y) ss [] with
      | some q => h_cl y q
      | none => none)
    | _ => none)
  | .invokevirtual ix => (match pgRs mid ix with
    | some (6, y, _) => (match s_pop (pgA y) ss [] with
      | some (as, v :: r) => bif h_rcv Z K y v then h_cl y (v :: as, r) else none
      | _ => none)
    | some (7, y, _) => (match s_pop (pgA y) ss [] with
      | some (as, v :: r) => bif h_rcv Z K y v then h_cl y (v :: as, r) else none
      | _ => none)
    | _ => none)
  | .invokespecial ix => (match pgRs mid ix with
    | some (8, y, _) => (match s_pop (pgA y) ss [] with
      | some (as, v :: r) => bif h_rf K v then h_cl y (v :: as, r) else none
      | _ => none)
    | some (9, y, _) => (match s_pop (pgA y) ss [] with
      | some (as, v :: r) => bif h_rf K v then h_cl y (v :: as, r) else none
      | _ => none)
    | _ => none)
  | _ => none
theorem s_inv_ok {ins : Instr} {p : Nat × List sV × List sV} (hW : WI Z w) (hK : nK vs K) (hd : dnL vs w ss st) (h : s_inv Z mid ins K ss = some p) : ∃ as r, m_step L xs mid pc l st w ins = some (.inr (.inl (p.1, as, r))) ∧ dnL vs w p.2.1 as ∧ dnL vs w p.2.2 r := by
  unfold s_inv at h
  split at h
  · simp only [m_step]
    split at h
    next y _ hr =>
      cases e : m_pl y with
      | false => rw [e] at h; cases h
      | true =>
        rw [e] at h
        simp only [cond_true] at h
        split at h
        next q hq =>
          obtain ⟨as, r, a1, a2, a3⟩ := s_pop_ok hd (show dnL vs w [] [] from trivial) hq
          obtain ⟨b1, b2⟩ := h_cl_ok a2 a3 h
          subst b1
          refine ⟨as, r, ?_, a2, a3⟩
          simp only [hr, e, a1, if_true]
          exact b2
        next => cases h
    next y _ hr =>
      split at h
      next q hq =>
        obtain ⟨as, r, a1, a2, a3⟩ := s_pop_ok hd (show dnL vs w [] [] from trivial) hq
        obtain ⟨b1, b2⟩ := h_cl_ok a2 a3 h
        subst b1
        refine ⟨as, r, ?_, a2, a3⟩
        simp only [hr, a1]
        exact b2
      next => cases h
    next => cases h
  · simp only [m_step]
    split at h
    next y _ hr =>
      split at h
      next as v r hq =>
        cases e : h_rcv Z K y v with
        | false => rw [e] at h; cases h
        | true =>
          rw [e] at h
          obtain ⟨as', r', a1, a2, a3⟩ := s_pop_ok hd (show dnL vs w [] [] from trivial) hq
          obtain ⟨vv, r2, e2, d1, d2⟩ := dnL_cons a3
          subst e2
          obtain ⟨b1, b2⟩ := h_cl_ok (q := (v :: as, r)) (show dnL vs w (v :: as) (vv :: as') from ⟨d1, a2⟩) d2 h
          subst b1
          refine ⟨vv :: as', r2, ?_, ⟨d1, a2⟩, d2⟩
          simp only [hr, a1, h_rcv_ok hW hK d1 e, if_true]
          exact b2
      next => cases h
    next y _ hr =>
      split at h
      next as v r hq =>
        cases e : h_rcv Z K y v with
        | false => rw [e] at h; cases h
        | true =>
          rw [e] at h
          obtain ⟨as', r', a1, a2, a3⟩ := s_pop_ok hd (show dnL vs w [] [] from trivial) hq
          obtain ⟨vv, r2, e2, d1, d2⟩ := dnL_cons a3
          subst e2
          obtain ⟨b1, b2⟩ := h_cl_ok (q := (v :: as, r)) (show dnL vs w (v :: as) (vv :: as') from ⟨d1, a2⟩) d2 h
          subst b1
          refine ⟨vv :: as', r2, ?_, ⟨d1, a2⟩, d2⟩
          simp only [hr, a1, h_rcv_ok hW hK d1 e, if_true]
          exact b2
      next => cases h
    next => cases h
  · simp only [m_step]
    split at h
    next y _ hr =>
      split at h
      next as v r hq =>
        cases e : h_rf K v with
        | false => rw [e] at h; cases h
        | true =>
          rw [e] at h
          obtain ⟨as', r', a1, a2, a3⟩ := s_pop_ok hd (show dnL vs w [] [] from trivial) hq
          obtain ⟨vv, r2, e2, d1, d2⟩ := dnL_cons a3
          subst e2
          obtain ⟨i, hi⟩ := h_rf_ok hK d1 e
          subst hi
          obtain ⟨b1, b2⟩ := h_cl_ok (q := (v :: as, r)) (show dnL vs w (v :: as) (.ref i :: as') from ⟨d1, a2⟩) d2 h
          subst b1
          refine ⟨.ref i :: as', r2, ?_, ⟨d1, a2⟩, d2⟩
          simp only [hr, a1]
          exact b2
      next => cases h
    next y _ hr =>
      split at h
      next as v r hq =>
        cases e : h_rf K v with
        | false => rw [e] at h; cases h
        | true =>
          rw [e] at h
          obtain ⟨as', r', a1, a2, a3⟩ := s_pop_ok hd (show dnL vs w [] [] from trivial) hq
          obtain ⟨vv, r2, e2, d1, d2⟩ := dnL_cons a3
          subst e2
          obtain ⟨i, hi⟩ := h_rf_ok hK d1 e
          subst hi
          obtain ⟨b1, b2⟩ := h_cl_ok (q := (v :: as, r)) (show dnL vs w (v :: as) (.ref i :: as') from ⟨d1, a2⟩) d2 h
          subst b1
          refine ⟨.ref i :: as', r2, ?_, ⟨d1, a2⟩, d2⟩
          simp only [hr, a1]
          exact b2
      next => cases h
    next => cases h
  · cases h
/-- an end: what is answered -/
def s_ret (mid : Nat) (ins : Instr) (K : sK) (ss : List sV) : Option (Option sV) := match ins, ss, pgT mid with
  | .ireturn, [s], some .int => bif k_tg 0 s then some (some s) else none
  | .ireturn, [s], some .boolean => bif (k_tg 0 s && (z_le 0 (k_iv K s).1 && z_le (k_iv K s).2 1)) then some (some s) else none
  | .ireturn, [s], some .byte => bif (k_tg 0 s && (z_le 0 (k_iv K s).1 && z_le (k_iv K s).2 0)) then some (some s) else none
  | .lreturn, [s], some .long => bif k_tg 1 s then some (some s) else none
  | .areturn, [s], some (.object _) => bif (Nat.beq s.1 2 || (Nat.beq s.1 3 || Nat.beq s.1 8)) then some (some s) else none
  | .return_, [], none => some none
  | _, _, _ => none
def oR (vs : List Int) (w : mWd) (o : Option sV) (v : Option Value) : Prop := match o, v with
  | some s, some x => dn vs w s x
  | none, none => True
  | _, _ => False
theorem s_ret_ok {ins : Instr} {o : Option sV} (hK : nK vs K) (hd : dnL vs w ss st) (h : s_ret mid ins K ss = some o) : ∃ v, m_step L xs mid pc l st w ins = some (.inr (.inr v)) ∧ oR vs w o v := by
  unfold s_ret at h
  split at h
  next s ht =>
    cases e : k_tg 0 s with
    | false => rw [e] at h; cases h
    | true =>
      rw [e] at h
      cases h
      obtain ⟨v, r, e2, d1, d2⟩ := dnL_cons hd
      have := dnL_nil d2
      subst this e2
      obtain ⟨i, hi, hN⟩ := dn_int d1 e
      subst hi
      exact ⟨some (.int i), by simp only [m_step, ht, m_ret], d1⟩
  next s ht =>
    cases e : (k_tg 0 s && (z_le 0 (k_iv K s).1 && z_le (k_iv K s).2 1)) with
    | false => rw [e] at h; cases h
    | true =>
      rw [e] at h
      cases h
      rw [Bool.and_eq_true, Bool.and_eq_true, z_le_iff, z_le_iff] at e
      obtain ⟨v, r, e2, d1, d2⟩ := dnL_cons hd
      have := dnL_nil d2
      subst this e2
      obtain ⟨i, hi, hN⟩ := dn_int d1 e.1
      subst hi
      have b := k_iv_ok hK hN
      have h01 : i = 0 ∨ i = 1 := i32_01 (by omega) (by omega)
      exact ⟨some (.int i), by simp only [m_step, ht, m_ret, if_pos h01], d1⟩
  next s ht =>
    cases e : (k_tg 0 s && (z_le 0 (k_iv K s).1 && z_le (k_iv K s).2 0)) with
    | false => rw [e] at h; cases h
    | true =>
      rw [e] at h
      cases h
      rw [Bool.and_eq_true, Bool.and_eq_true, z_le_iff, z_le_iff] at e
      obtain ⟨v, r, e2, d1, d2⟩ := dnL_cons hd
      have := dnL_nil d2
      subst this e2
      obtain ⟨i, hi, hN⟩ := dn_int d1 e.1
      subst hi
      have b := k_iv_ok hK hN
      have h0 : i = 0 := Int32.toInt_inj.mp (by show i.toInt = 0; omega)
      exact ⟨some (.int i), by simp only [m_step, ht, m_ret, if_pos h0], d1⟩
  next s ht =>
    cases e : k_tg 1 s with
    | false => rw [e] at h; cases h
    | true =>
      rw [e] at h
      cases h
      obtain ⟨v, r, e2, d1, d2⟩ := dnL_cons hd
      have := dnL_nil d2
      subst this e2
      obtain ⟨i, hi, hN⟩ := dn_lng d1 e
      subst hi
      exact ⟨some (.long i), by simp only [m_step, ht, m_ret], d1⟩
  next s cl ht =>
    cases e : (Nat.beq s.1 2 || (Nat.beq s.1 3 || Nat.beq s.1 8)) with
    | false => rw [e] at h; cases h
    | true =>
      rw [e] at h
      cases h
      obtain ⟨v, r, e2, d1, d2⟩ := dnL_cons hd
      have := dnL_nil d2
      subst this e2
      have hv : (∃ i, v = .ref i) ∨ v = .null := by
        obtain ⟨t, a, c⟩ := s
        rw [Bool.or_eq_true, Bool.or_eq_true] at e
        rcases e with e | e | e
        · have := Nat.eq_of_beq_eq_true e
          simp only at this
          subst this
          exact .inl ⟨a, d1⟩
        · have := Nat.eq_of_beq_eq_true e
          simp only at this
          subst this
          obtain ⟨u, -, ⟨-, h2⟩ | ⟨-, i, h2, -⟩⟩ := d1
          · exact .inr h2
          · exact .inl ⟨i, h2⟩
        · have := Nat.eq_of_beq_eq_true e
          simp only at this
          subst this
          exact .inr d1
      rcases hv with ⟨i, hi⟩ | hi
      · subst hi
        exact ⟨some (.ref i), by simp only [m_step, ht, m_ret], d1⟩
      · subst hi
        exact ⟨some .null, by simp only [m_step, ht, m_ret], d1⟩
  next ht =>
    cases h
    have := dnL_nil hd
    subst this
    exact ⟨none, by simp only [m_step, ht, m_ret], trivial⟩
  next => cases h
/-- what a method leaves where it ends -/
def k_fin (Z : zDt) (c : zKt) (nE : Nat) (D : sD) (o : Option sV) : Bool := match D with
  | (K, C, lv, ss, al, wk) => (k_wkk K C wk && (Nat.ble al.1 c.2.2.2.2.1.1 && Nat.ble al.2 c.2.2.2.2.1.2)) && (match (match c.2.1.1, o with
    | 9, none => some (0, 0, 0)
    | 0, some s => bif (Nat.beq s.1 0 && (z_le c.2.1.2.1 (k_iv K s).1 && z_le (k_iv K s).2 c.2.1.2.2)) then some s else none
    | 1, some s => bif (Nat.beq s.1 1 && (z_le c.2.1.2.1 (k_iv K s).1 && z_le (k_iv K s).2 c.2.1.2.2)) then some (0, s.2.1, s.2.2) else none
    | _, _ => none : Option sV) with
    | some rv => (match c_flds Z K C c.1.2.1 with
      | some r => c.2.2.1.all (c_fact r.1 nE (rv :: r.2.2))
      | none => false)
    | none => false)
theorem k_fin_ok {c : zKt} {nE : Nat} {o : Option sV} {v : Option Value} {vs0 : List Int} (h : gD Z c.2.2.2.1 w0 vs (K, C, lv, ss, al, wk) l st w) (hv : vL vs0 vs) (hl : vs0.length = nE) (ho : oR vs w o v) (hf : k_fin Z c nE (K, C, lv, ss, al, wk) o = true) : zPost Z c w0 vs0 v w := by
  unfold k_fin at hf
  simp only at hf
  rw [Bool.and_eq_true, Bool.and_eq_true, Bool.and_eq_true] at hf
  obtain ⟨⟨f1, f2, f3⟩, f4⟩ := hf
  have hK : nK vs K := h.1
  have hg := h.2.2.2.2
  have hW : gW Z c.2.2.2.1 w0 [] c.2.2.2.2.1 none w := ⟨hg.1, hg.2.1, by have := hg.2.2.1; have := Nat.le_of_ble_eq_true f2; simp only at *; omega, by have := hg.2.2.2.1; have := Nat.le_of_ble_eq_true f3; simp only at *; omega, k_wkk_ok hK h.2.1 hg.2.2.2.2 f1⟩
  split at f4
  next rv hrv =>
    have hres : ∃ R, resR c.2.1 v R ∧ n7 rv = true ∧ vN vs rv R := by
      obtain ⟨tm, ⟨t, lo, hi⟩, rest⟩ := c
      unfold resR
      simp only at hrv ⊢
      split at hrv
      · cases hrv
        cases v with
        | none => exact ⟨0, ⟨rfl, rfl⟩, rfl, vN_0 hK.1 0 rfl 0⟩
        | some _ => exact ho.elim
      · next s =>
        cases v with
        | none => exact ho.elim
        | some x =>
          have hd : dn vs w s x := ho
          cases e : (Nat.beq s.1 0 && (z_le lo (k_iv K s).1 && z_le (k_iv K s).2 hi)) with
          | false => rw [e] at hrv; cases hrv
          | true =>
            rw [e] at hrv
            cases hrv
            rw [Bool.and_eq_true, Bool.and_eq_true, z_le_iff, z_le_iff] at e
            obtain ⟨i, hi', hN⟩ := dn_int hd (by unfold k_tg; rw [e.1]; rfl)
            have b := k_iv_ok hK hN
            subst hi'
            refine ⟨i.toInt, ⟨i, rfl, rfl, by omega, by omega⟩, ?_, hN⟩
            unfold n7
            rw [Nat.eq_of_beq_eq_true e.1]
            rfl
      · next s =>
        cases v with
        | none => exact ho.elim
        | some x =>
          have hd : dn vs w s x := ho
          cases e : (Nat.beq s.1 1 && (z_le lo (k_iv K s).1 && z_le (k_iv K s).2 hi)) with
          | false => rw [e] at hrv; cases hrv
          | true =>
            rw [e] at hrv
            cases hrv
            rw [Bool.and_eq_true, Bool.and_eq_true, z_le_iff, z_le_iff] at e
            obtain ⟨i, hi', hN⟩ := dn_lng hd e.1
            have b := k_iv_ok hK hN
            subst hi'
            refine ⟨i.toInt, ⟨i, rfl, rfl, by omega, by omega⟩, rfl, ?_⟩
            obtain ⟨u, hu, hX⟩ := hN
            rw [Nat.eq_of_beq_eq_true e.1] at hX
            exact ⟨u, hu, hX⟩
      · cases hrv
    obtain ⟨R, r1, r2, r3⟩ := hres
    split at f4
    next r hr =>
      obtain ⟨vs1, V, a1, a2, a3, a4, a5⟩ := c_flds_ok hg.1 hK h.2.1 hr
      refine ⟨hW, R, V, r1, a5, ?_⟩
      intro f hfm
      have hx := List.all_eq_true.mp f4 f hfm
      have hm : mvR vs1 (rv :: r.2.2) (R :: V) := ⟨⟨r2, vN_up a1 r3⟩, a4⟩
      have hv1 := vL_trans hv a1
      have htk : vs1.take nE = vs0 := take_of hv1 hl
      have hn : nE ≤ vs1.length := by
        have := congrArg List.length htk
        rw [List.length_take] at this
        omega
      unfold c_fact at hx
      split at hx
      next x y hx' hy' =>
        obtain ⟨X, x1, x2, x3⟩ := c_sv_ok hn hm hx'
        obtain ⟨Y, y1, y2, y3⟩ := c_sv_ok hn hm hy'
        rw [htk] at x1 y1
        exact ⟨X, Y, x1, y1, Int.le_trans (k_df_ok a2 x2 y2 x3 y3) (z_le_iff.mp hx)⟩
      next => cases hx
    next => cases f4
  next => cases f4
end INV
