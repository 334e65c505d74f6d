/-! CALLS, ENDS AND LOOPS of the checker -/
abbrev zTb : Type := List (Option (Nat × zKt))
abbrev zTT : Type := Nat × List Nat × kI × zTm × (Nat × Nat) × List (Bool × sV)
abbrev sFr : Type := Nat × Nat × sL × List sV
abbrev cF : Type := Nat × Nat × mL × List Value
def rkR (vs : List Int) : List (Bool × sV) → List (Bool × Int) → Prop
  | [], [] => True
  | s :: ss, x :: xs => (s.1 = x.1 ∧ n7 s.2 = true ∧ vN vs s.2 x.2) ∧ rkR vs ss xs
  | _, _ => False
theorem rkR_up {vs vs' : List Int} (hv : vL vs vs') : ∀ {ss : List (Bool × sV)} {qs : List (Bool × Int)}, rkR vs ss qs → rkR vs' ss qs
  | [], [], h => h
  | _ :: _, _ :: _, h => ⟨⟨h.1.1, h.1.2.1, vN_up hv h.1.2.2⟩, rkR_up hv h.2⟩
  | [], _ :: _, h => h.elim
  | _ :: _, [], h => h.elim
theorem rkR_len {vs : List Int} : ∀ {ss : List (Bool × sV)} {qs : List (Bool × Int)}, rkR vs ss qs → ss.length = qs.length
  | [], [], _ => rfl
  | _ :: _, _ :: _, h => by simp [rkR_len h.2]
  | [], _ :: _, h => h.elim
  | _ :: _, [], h => h.elim
def z_cv (q : Bool × Int) : Nat := (bif q.1 then 2147483648 - q.2 else q.2 + 2147483648).toNat
def z_mu : List (Bool × Int) → Nat
  | [] => 0
  | q :: r => z_cv q * 8589934592 ^ r.length + z_mu r
def k_rg (K : sK) (s : sV) : Bool := z_le (-2147483648) (k_iv K s).1 && z_le (k_iv K s).2 2147483648
def c_rng (K : sK) (n : Nat) (m : List sV) : List (Bool × sV) → Bool
  | [] => true
  | q :: qs => (match c_vs n m q.2 with
    | some s => n7 q.2 && (k_rg K s && c_rng K n m qs)
    | none => false)
def c_lex (K : sK) (n : Nat) (m : List sV) : List (Bool × sV) → List (Bool × sV) → Bool
  | o :: os, q :: qs => (match c_vs n m q.2 with
    | some s => (n7 q.2 && ((bif o.1 then q.1 else !q.1) && k_rg K s)) && (bif q.1 then ((z_le (k_df K o.2 s) (-1) && (Nat.beq os.length qs.length && c_rng K n m qs)) || (z_le (k_df K o.2 s) 0 && c_lex K n m os qs)) else ((z_le (k_df K s o.2) (-1) && (Nat.beq os.length qs.length && c_rng K n m qs)) || (z_le (k_df K s o.2) 0 && c_lex K n m os qs)))
    | none => false)
  | _, _ => false
section LEX
variable {vs : List Int} {K : sK}
theorem c_vs_ok2 {n : Nat} {m : List sV} {V : List Int} {v s : sV} (hn : n ≤ vs.length) (hm : mvR vs m V) (hv : n7 v = true) (h : c_vs n m v = some s) : ∃ X, vN (vs.take n ++ V) v X ∧ n7 s = true ∧ vN vs s X := by
  unfold c_vs at h
  split at h
  next t ht =>
    cases h
    obtain ⟨X, a1, a2, a3⟩ := c_sv_ok hn hm ht
    refine ⟨X + v.2.2, ⟨X, a1, ?_⟩, a2, vN_off a3 _ rfl⟩
    unfold n7 at hv
    rw [Bool.not_eq_true'] at hv
    rw [hv]
    rfl
  next => cases h
theorem z_cv_lt {b : Bool} {x : Int} (h1 : -2147483648 ≤ x) (h2 : x ≤ 2147483648) : z_cv (b, x) < 8589934592 := by
  unfold z_cv
  cases b <;> simp only [cond_true, cond_false] <;> omega
theorem k_rg_ok {s : sV} {X : Int} (hK : nK vs K) (hs : vN vs s X) (h : k_rg K s = true) : -2147483648 ≤ X ∧ X ≤ 2147483648 := by
  unfold k_rg at h
  rw [Bool.and_eq_true, z_le_iff, z_le_iff] at h
  have := k_iv_ok hK hs
  omega
theorem c_rng_ok {n : Nat} {m : List sV} {V : List Int} (hK : nK vs K) (hn : n ≤ vs.length) (hm : mvR vs m V) : ∀ {qs : List (Bool × sV)}, c_rng K n m qs = true → ∃ qv, rkR (vs.take n ++ V) qs qv ∧ z_mu qv < 8589934592 ^ qs.length
  | [], _ => ⟨[], trivial, by decide⟩
  | q :: qs, h => by
    unfold c_rng at h
    split at h
    next s hs =>
      rw [Bool.and_eq_true, Bool.and_eq_true] at h
      obtain ⟨X, x1, x2, x3⟩ := c_vs_ok2 hn hm h.1 hs
      have hr := k_rg_ok hK x3 h.2.1
      obtain ⟨qv, q1, q2⟩ := c_rng_ok hK hn hm h.2.2
      refine ⟨(q.1, X) :: qv, ⟨⟨rfl, h.1, x1⟩, q1⟩, ?_⟩
      have hl := rkR_len q1
      have hc := z_cv_lt (b := q.1) hr.1 hr.2
      show z_cv (q.1, X) * 8589934592 ^ qv.length + z_mu qv < 8589934592 ^ (qs.length + 1)
      rw [← hl, Nat.pow_succ]
      have : z_cv (q.1, X) * 8589934592 ^ qs.length + 8589934592 ^ qs.length ≤ 8589934592 * 8589934592 ^ qs.length := by
        rw [← Nat.succ_mul]
        exact Nat.mul_le_mul_right _ hc
      rw [Nat.mul_comm (8589934592 ^ qs.length) 8589934592]
      omega
    next => cases h
theorem z_mu_lt {a b : Nat} {P x y : Nat} (h : a < b) (hx : x < P) : a * P + x < b * P + y := by
  have : a * P + P ≤ b * P := by rw [← Nat.succ_mul]; exact Nat.mul_le_mul_right _ h
  omega
theorem c_lex_ok {n : Nat} {m : List sV} {V : List Int} (hK : nK vs K) (hn : n ≤ vs.length) (hm : mvR vs m V) : ∀ {os qs : List (Bool × sV)} {ov : List (Bool × Int)}, rkR vs os ov → c_lex K n m os qs = true → ∃ qv, rkR (vs.take n ++ V) qs qv ∧ qv.length = ov.length ∧ z_mu qv < z_mu ov
  | [], _, _, _, h => by cases h
  | _ :: _, [], _, _, h => by cases h
  | o :: os, q :: qs, [], ho, _ => ho.elim
  | o :: os, q :: qs, x :: ov, ho, h => by
    unfold c_lex at h
    split at h
    next s hs =>
      rw [Bool.and_eq_true, Bool.and_eq_true, Bool.and_eq_true] at h
      obtain ⟨⟨h1, h2, h3⟩, h4⟩ := h
      obtain ⟨X, x1, x2, x3⟩ := c_vs_ok2 hn hm h1 hs
      have hr := k_rg_ok hK x3 h3
      obtain ⟨⟨o1, o2, o3⟩, o4⟩ := ho
      have hb : o.1 = q.1 := by
        cases ho1 : o.1 <;> cases hq1 : q.1 <;> rw [ho1, hq1] at h2 <;> first | rfl | (cases h2; done)
      have hlo := rkR_len o4
      obtain ⟨xb, xv⟩ := x
      have hxb : xb = q.1 := by rw [← hb]; exact o1.symm
      subst hxb
      have o3' : vN vs o.2 xv := o3
      have key : (z_cv (q.1, X) < z_cv (q.1, xv) ∧ Nat.beq os.length qs.length = true ∧ c_rng K n m qs = true) ∨ (z_cv (q.1, X) ≤ z_cv (q.1, xv) ∧ c_lex K n m os qs = true) := by
        cases hq1 : q.1 with
        | true =>
          rw [hq1] at h4
          simp only [cond_true, Bool.or_eq_true, Bool.and_eq_true, z_le_iff] at h4
          have d := k_df_ok hK o2 x2 o3' x3
          unfold z_cv
          simp only [cond_true]
          rcases h4 with ⟨e1, e2, e3⟩ | ⟨e1, e2⟩
          · exact .inl ⟨by omega, e2, e3⟩
          · exact .inr ⟨by omega, e2⟩
        | false =>
          rw [hq1] at h4
          simp only [cond_false, Bool.or_eq_true, Bool.and_eq_true, z_le_iff] at h4
          have d := k_df_ok hK x2 o2 x3 o3'
          unfold z_cv
          simp only [cond_false]
          rcases h4 with ⟨e1, e2, e3⟩ | ⟨e1, e2⟩
          · exact .inl ⟨by omega, e2, e3⟩
          · exact .inr ⟨by omega, e2⟩
      rcases key with ⟨k1, k2, k3⟩ | ⟨k1, k2⟩
      · obtain ⟨qv, q1, q2⟩ := c_rng_ok hK hn hm k3
        have hl := rkR_len q1
        have hle := Nat.eq_of_beq_eq_true k2
        refine ⟨(q.1, X) :: qv, ⟨⟨rfl, h1, x1⟩, q1⟩, by simp; omega, ?_⟩
        show z_cv (q.1, X) * 8589934592 ^ qv.length + z_mu qv < z_cv (q.1, xv) * 8589934592 ^ ov.length + z_mu ov
        rw [show ov.length = qv.length by omega]
        exact z_mu_lt k1 (by rw [← hl]; exact q2)
      · obtain ⟨qv, q1, q2, q3⟩ := c_lex_ok hK hn hm o4 k2
        refine ⟨(q.1, X) :: qv, ⟨⟨rfl, h1, x1⟩, q1⟩, by simp [q2], ?_⟩
        show z_cv (q.1, X) * 8589934592 ^ qv.length + z_mu qv < z_cv (q.1, xv) * 8589934592 ^ ov.length + z_mu ov
        rw [q2]
        have := Nat.mul_le_mul_right (8589934592 ^ ov.length) k1
        omega
    next => cases h
end LEX
def k_arr1 (Z : zDt) (nE : Nat) (src : Option (List (Bool × sV))) (D : sD) (t : zTT) : Bool := match D with
  | (K, C, lv, [], al, none) => bif (Nat.beq t.2.2.1.length nE && (Nat.ble al.1 t.2.2.2.2.1.1 && Nat.ble al.2 t.2.2.2.2.1.2)) then (match c_keys lv t.2.1 with
    | some ss => (match t_chk Z K C t.2.2.1 t.2.2.2.1 ss with
      | some r => (match src with
        | none => c_rng r.1 nE r.2.2 t.2.2.2.2.2
        | some os => c_lex r.1 nE r.2.2 os t.2.2.2.2.2)
      | none => false)
    | none => false) else false
  | _ => false
def k_arr (Z : zDt) (nE : Nat) (src : Option (List (Bool × sV))) (pc : Nat) (D : sD) : List zTT → Bool
  | [] => false
  | t :: ts => (Nat.beq t.1 pc && k_arr1 Z nE src D t) || k_arr Z nE src pc D ts
def zHT (Z : zDt) (L : Nat) (xs : Nat → Int32) (y : Nat) (c : zKt) (w0 : mWd) (vs0 : List Int) (D : Nat) (TS : List zTT) (M : Option Nat) (Q : Option Value → mWd → Prop) : Prop := ∀ t ∈ TS, ∀ (V : List Int) (l : mL) (w : mWd) (args : List Value) (qv : List (Bool × Int)), vs0.length = t.2.2.1.length → tE t.2.2.1 t.2.2.2.1 vs0 V w args → kyR l t.2.1 args → gW Z c.2.2.2.1 w0 [] t.2.2.2.2.1 none w → rkR (vs0 ++ V) t.2.2.2.2.2 qv → (∀ m, M = some m → z_mu qv < m) → Rn L xs D y t.1 l [] w Q
section ARRV
variable {Z : zDt} {L : Nat} {xs : Nat → Int32} {y : Nat} {c : zKt} {w0 w : mWd} {vs0 vs : List Int} {D0 : Nat} {M : Option Nat} {Q : Option Value → mWd → Prop}
theorem take_of {n : Nat} (hv : vL vs0 vs) (hl : vs0.length = n) : vs.take n = vs0 := by
  apply List.ext_getElem?
  intro i
  by_cases hi : i < n
  · rw [List.getElem?_take_of_lt hi]
    have hg : vs0[i]? = some (vs0[i]'(by omega)) := List.getElem?_eq_getElem (by omega)
    rw [hg, hv _ _ hg]
  · rw [List.getElem?_eq_none (by rw [List.length_take]; omega), List.getElem?_eq_none (by omega)]
theorem k_arr1_ok {nE pc : Nat} {src : Option (List (Bool × sV))} {t : zTT} {D : sD} {l : mL} {st : List Value} {TS : List zTT} (h : gD Z c.2.2.2.1 w0 vs D l st w) (hv : vL vs0 vs) (hl : vs0.length = nE) (ht : t ∈ TS) (hs : ∀ os, src = some os → ∃ ov, rkR vs os ov ∧ M = some (z_mu ov)) (hM : src = none → M = none) (hT : zHT Z L xs y c w0 vs0 D0 TS M Q) (ha : k_arr1 Z nE src D t = true) : Rn L xs D0 y t.1 l st w Q := by
  unfold k_arr1 at ha
  split at ha
  next K C lv al =>
    cases e : (Nat.beq t.2.2.1.length nE && (Nat.ble al.1 t.2.2.2.2.1.1 && Nat.ble al.2 t.2.2.2.2.1.2)) with
    | false => rw [e] at ha; cases ha
    | true =>
      rw [e] at ha
      simp only [cond_true] at ha
      rw [Bool.and_eq_true, Bool.and_eq_true] at e
      obtain ⟨e1, e2, e3⟩ := e
      have e1 := Nat.eq_of_beq_eq_true e1
      split at ha
      next ss hss =>
        split at ha
        next r hr =>
          obtain ⟨args, a1, a2⟩ := c_keys_ok h.2.2.1 hss
          obtain ⟨vs1, V, b1, b2, b3, b4, b5, b6, b7⟩ := t_chk_ok h.2.2.2.2.1 h.1 h.2.1 a1 hr
          have htk : vs.take t.2.2.1.length = vs0 := take_of hv (by omega)
          rw [htk] at b7
          have hv1 := vL_trans hv b1
          have hlen1 : nE ≤ vs1.length := by
            have h0 : vs1.take nE = vs0 := take_of hv1 hl
            have := congrArg List.length h0
            rw [List.length_take] at this
            omega
          have htk1 : vs1.take nE = vs0 := take_of hv1 hl
          have hst := dnL_nil h.2.2.2.1
          subst hst
          have hgW : gW Z c.2.2.2.1 w0 [] t.2.2.2.2.1 none w := gW_al (gW_any h.2.2.2.2) (Nat.le_of_ble_eq_true e2) (Nat.le_of_ble_eq_true e3)
          have fin : ∀ qv, rkR (vs0 ++ V) t.2.2.2.2.2 qv → (∀ m, M = some m → z_mu qv < m) → Rn L xs D0 y t.1 l [] w Q := fun qv q1 q2 => hT t ht V l w args qv (by omega) b7 a2 hgW q1 q2
          split at ha
          · obtain ⟨qv, q1, q2⟩ := c_rng_ok b2 hlen1 b4 ha
            rw [htk1] at q1
            exact fin qv q1 (fun m hm => by rw [hM rfl] at hm; cases hm)
          · next os =>
            obtain ⟨ov, o1, o2⟩ := hs os rfl
            obtain ⟨qv, q1, q2, q3⟩ := c_lex_ok b2 hlen1 b4 (rkR_up b1 o1) ha
            rw [htk1] at q1
            exact fin qv q1 (fun m hm => by rw [o2] at hm; cases hm; exact q3)
        next => cases ha
      next => cases ha
  next => cases ha
theorem k_arr_ok {nE pc : Nat} {src : Option (List (Bool × sV))} {D : sD} {l : mL} {st : List Value} {TS : List zTT} (h : gD Z c.2.2.2.1 w0 vs D l st w) (hv : vL vs0 vs) (hl : vs0.length = nE) (hs : ∀ os, src = some os → ∃ ov, rkR vs os ov ∧ M = some (z_mu ov)) (hM : src = none → M = none) (hT : zHT Z L xs y c w0 vs0 D0 TS M Q) : ∀ (ts : List zTT), (∀ t ∈ ts, t ∈ TS) → k_arr Z nE src pc D ts = true → Rn L xs D0 y pc l st w Q
  | [], _, ha => by cases ha
  | t :: ts, hsub, ha => by
    unfold k_arr at ha
    rw [Bool.or_eq_true, Bool.and_eq_true] at ha
    rcases ha with ⟨a1, a2⟩ | ha
    · have := Nat.eq_of_beq_eq_true a1
      subst this
      exact k_arr1_ok (pc := t.1) h hv hl (hsub t List.mem_cons_self) hs hM hT a2
    · exact k_arr_ok h hv hl hs hM hT ts (fun x hx => hsub x (List.mem_cons_of_mem _ hx)) ha
end ARRV
/-- the rule of kinds holds of the cost that was written, too -/
def k_wkk (K : sK) (C : sC) (wk : Option sV) : Bool := match wk with
  | none => true
  | some j => Nat.beq j.1 0 && ((match c_get C (2, z_WC, (7, j.2.1, 7 * j.2.2 + 4)) with
    | some v => Nat.beq v.1 0 && z_le (k_iv K v).2 19
    | none => false) || (match c_get C (2, z_KC, j) with
    | some v => Nat.beq v.1 0 && (k_nz K (0, v.2.1, v.2.2 - 2) && (k_nz K (0, v.2.1, v.2.2 - 3) && k_nz K (0, v.2.1, v.2.2 - 5)))
    | none => false))
theorem cR_el {vs : List Int} {w : mWd} {i t n : Nat} {f : Nat → Int32} {j s : sV} {J : Int} (hi : w[i]? = some (.inl (t, n, .inl f))) (hj : vN vs j J) (h : cR vs w ((2, i, j), s)) : 0 ≤ J ∧ dn vs w s (.int (f J.toNat)) := by
  obtain ⟨t', n', b, J', c1, c2, c3, c4⟩ := h
  have c1' : w[i]? = some (.inl (t', n', b)) := c1
  rw [hi] at c1'
  cases c1'
  have := vN_fun hj c2
  subst this
  exact ⟨c3, c4⟩
theorem k_wkk_ok {vs : List Int} {w : mWd} {K : sK} {C : sC} {wk : Option sV} (hK : nK vs K) (hC : cRL vs w C) (hw : wkR vs wk w) (h : k_wkk K C wk = true) : wkR [] none w := by
  cases wk with
  | none => exact wkR_any hw
  | some j =>
    obtain ⟨K0, h1, h2⟩ := hw
    have hj := h1 j rfl
    unfold k_wkk at h
    simp only at h
    rw [Bool.and_eq_true, Bool.or_eq_true] at h
    obtain ⟨h0, h⟩ := h
    refine ⟨K0, (fun (j : sV) (hj : none = some j) => (nomatch hj)), ?_⟩
    intro f g n m t u hf hg c hc0 _ hc
    by_cases hcK : (c : Int) ≠ K0
    · exact h2 f g n m t u hf hg c hc0 (.inr hcK) hc
    · have hcK : (c : Int) = K0 := by omega
      obtain ⟨x, hx, hX⟩ := hj
      have e0 := Nat.eq_of_beq_eq_true h0
      rw [e0] at hX
      have hX' : K0 = x + j.2.2 := hX
      rcases h with h | h
      · split at h
        next v hv =>
          rw [Bool.and_eq_true, z_le_iff] at h
          have hwN : vN vs (7, j.2.1, 7 * j.2.2 + 4) (7 * x + (7 * j.2.2 + 4)) := ⟨x, hx, rfl⟩
          obtain ⟨p1, p2⟩ := cR_el hg hwN (c_get_ok hC hv)
          obtain ⟨i, i1, i2⟩ := dn_int p2 (by unfold k_tg; rw [h.1]; rfl)
          have b := k_iv_ok hK i2
          have hJ : (7 * x + (7 * j.2.2 + 4)).toNat = 7 * c + 4 := by omega
          rw [hJ] at i1
          have : g (7 * c + 4) = i := by injection i1
          rw [this]
          omega
        next => cases h
      · split at h
        next v hv =>
          rw [Bool.and_eq_true, Bool.and_eq_true, Bool.and_eq_true] at h
          obtain ⟨q0, q1, q2, q3⟩ := h
          obtain ⟨p1, p2⟩ := cR_el hf (h1 j rfl) (c_get_ok hC hv)
          obtain ⟨i, i1, i2⟩ := dn_int p2 (by unfold k_tg; rw [q0]; rfl)
          have hJ : K0.toNat = c := by omega
          rw [hJ] at i1
          have hfi : f c = i := by injection i1
          obtain ⟨a, ha, hA⟩ := i2
          rw [Nat.eq_of_beq_eq_true q0] at hA
          have hA' : i.toInt = a + v.2.2 := hA
          have nz : ∀ k : Int, k_nz K (0, v.2.1, v.2.2 - k) = true → i.toInt ≠ k := fun k hk => by
            have := k_nz_ok hK (x := (0, v.2.1, v.2.2 - k)) (X := a + (v.2.2 - k)) ⟨a, ha, rfl⟩ hk
            omega
          have n2 := nz 2 q1
          have n3 := nz 3 q2
          have n5 := nz 5 q3
          rw [hfi] at hc
          omega
        next => cases h
