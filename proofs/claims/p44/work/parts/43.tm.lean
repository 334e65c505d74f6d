/-! TEMPLATES: what is asked where a method begins or a loop comes round, and what is known then -/
abbrev zPs : Type := List (Nat × Int × Int)
abbrev zFl : Type := List (Nat × Nat × Int × Int)
abbrev zTm : Type := zPs × zFl × kF × kN
def e_arg (n : Nat) (p : Nat × Int × Int) : sV := match p.1 with
  | 2 => (2, p.2.1.toNat, 0)
  | 5 => (5, p.2.1.toNat, 0)
  | 8 => (8, 0, -1)
  | 4 => (4, n, Int.ofNat (n + 1))
  | t => (t, n, 0)
def e_iv (p : Nat × Int × Int) : kI := match p.1 with
  | 2 => []
  | 5 => []
  | 8 => []
  | 4 => [(p.2.1, p.2.2), (0, 161)]
  | _ => [(p.2.1, p.2.2)]
def e_args : Nat → zPs → List sV
  | _, [] => []
  | n, p :: ps => e_arg n p :: e_args (n + (e_iv p).length) ps
def e_ivs : zPs → kI
  | [] => []
  | p :: ps => e_iv p ++ e_ivs ps
def f_ivs : zFl → kI
  | [] => []
  | f :: fl => (f.2.2.1, f.2.2.2) :: f_ivs fl
/-- the numbers of a value that is given for one asked -/
def c_arg (N : Nat) (p : Nat × Int × Int) (s : sV) : Option (List sV) := match p.1 with
  | 0 => bif Nat.beq s.1 0 then some [s] else none
  | 1 => bif Nat.beq s.1 1 then some [(0, s.2.1, s.2.2)] else none
  | 2 => bif s_eq s (2, p.2.1.toNat, 0) then some [] else none
  | 3 => bif Nat.beq s.1 8 then some [(0, 0, -1)] else (bif Nat.beq s.1 3 then some [(0, s.2.1, 0)] else none)
  | 4 => bif Nat.beq s.1 8 then some [(0, 0, -1), (0, 0, 0)] else (bif (Nat.beq s.1 4 && Nat.blt s.2.2.toNat N) then some [(0, s.2.1, 0), (0, s.2.2.toNat, 0)] else none)
  | 5 => bif s_eq s (5, p.2.1.toNat, 0) then some [] else none
  | 8 => bif Nat.beq s.1 8 then some [] else none
  | _ => none
def c_args (N : Nat) : zPs → List sV → Option (List sV)
  | [], [] => some []
  | p :: ps, s :: ss => (match c_arg N p s, c_args N ps ss with
    | some a, some b => some (a ++ b)
    | _, _ => none)
  | _, _ => none
def mvR (vs : List Int) : List sV → List Int → Prop
  | [], [] => True
  | s :: m, X :: V => (n7 s = true ∧ vN vs s X) ∧ mvR vs m V
  | _, _ => False
theorem mvR_len {vs : List Int} : ∀ {m : List sV} {V : List Int}, mvR vs m V → m.length = V.length
  | [], [], _ => rfl
  | _ :: _, _ :: _, h => by simp [mvR_len h.2]
  | [], _ :: _, h => h.elim
  | _ :: _, [], h => h.elim
theorem mvR_up {vs vs' : List Int} (hv : vL vs vs') : ∀ {m : List sV} {V : List Int}, mvR vs m V → mvR vs' m V
  | [], [], h => h
  | _ :: _, _ :: _, h => ⟨⟨h.1.1, vN_up hv h.1.2⟩, mvR_up hv h.2⟩
  | [], _ :: _, h => h.elim
  | _ :: _, [], h => h.elim
theorem mvR_app {vs : List Int} : ∀ {m : List sV} {V : List Int} {m' : List sV} {V' : List Int}, mvR vs m V → mvR vs m' V' → mvR vs (m ++ m') (V ++ V')
  | [], [], _, _, _, h => h
  | _ :: _, _ :: _, _, _, h, h' => ⟨h.1, mvR_app h.2 h'⟩
  | [], _ :: _, _, _, h, _ => h.elim
  | _ :: _, [], _, _, h, _ => h.elim
theorem mvR_get {vs : List Int} : ∀ {m : List sV} {V : List Int} {i : Nat} {s : sV}, mvR vs m V → m[i]? = some s → ∃ X, V[i]? = some X ∧ n7 s = true ∧ vN vs s X
  | [], [], _, _, _, h => by simp at h
  | t :: m, X :: V, 0, s, h, hs => by
    simp at hs
    subst hs
    exact ⟨X, rfl, h.1.1, h.1.2⟩
  | t :: m, X :: V, i + 1, s, h, hs => by
    rw [List.getElem?_cons_succ] at hs
    obtain ⟨Y, h1, h2⟩ := mvR_get h.2 hs
    exact ⟨Y, by rw [List.getElem?_cons_succ]; exact h1, h2⟩
  | [], _ :: _, _, _, h, _ => h.elim
  | _ :: _, [], _, _, h, _ => h.elim
section TM
variable {vs : List Int} {w : mWd} {K : sK} {C : sC} {Z : zDt}
theorem vN_0 (h0 : vs[0]? = some 0) (t : Nat) (ht : Nat.beq t 7 = false) (c : Int) : vN vs (t, 0, c) c := ⟨0, h0, by
  show c = (bif Nat.beq t 7 then 7 * 0 else 0) + c
  rw [ht]; simp⟩
theorem c_arg_ok {p : Nat × Int × Int} {s : sV} {v : Value} {a : List sV} (h0 : vs[0]? = some 0) (hd : dn vs w s v) (ho : c_arg vs.length p s = some a) : ∃ V, mvR vs a V ∧ a.length = (e_iv p).length ∧ ∀ (vs' : List Int) (n : Nat), (∀ i x, V[i]? = some x → vs'[n + i]? = some x) → dn vs' w (e_arg n p) v := by
  obtain ⟨t, lo, hi⟩ := p
  obtain ⟨ts, as, cs⟩ := s
  unfold c_arg at ho
  match t, ho with
  | 0, ho =>
    simp only at ho
    cases e : Nat.beq ts 0 with
    | false => rw [e] at ho; cases ho
    | true =>
      rw [e] at ho
      cases ho
      have := Nat.eq_of_beq_eq_true e
      subst this
      obtain ⟨i, hi, hN⟩ := hd
      refine ⟨[i.toInt], ⟨⟨rfl, hN⟩, trivial⟩, rfl, fun vs' n hv => ?_⟩
      exact ⟨i, hi, i.toInt, hv 0 _ rfl, by show i.toInt = i.toInt + 0; omega⟩
  | 1, ho =>
    simp only at ho
    cases e : Nat.beq ts 1 with
    | false => rw [e] at ho; cases ho
    | true =>
      rw [e] at ho
      cases ho
      have := Nat.eq_of_beq_eq_true e
      subst this
      obtain ⟨i, hi, hN⟩ := hd
      refine ⟨[i.toInt], ⟨⟨rfl, hN⟩, trivial⟩, rfl, fun vs' n hv => ?_⟩
      exact ⟨i, hi, i.toInt, hv 0 _ rfl, by show i.toInt = i.toInt + 0; omega⟩
  | 2, ho =>
    simp only at ho
    cases e : s_eq (ts, as, cs) (2, lo.toNat, 0) with
    | false => rw [e] at ho; cases ho
    | true =>
      rw [e] at ho
      cases ho
      have := s_eq_ok e
      cases this
      exact ⟨[], trivial, rfl, fun vs' n hv => hd⟩
  | 3, ho =>
    simp only at ho
    cases e8 : Nat.beq ts 8 with
    | true =>
      rw [e8] at ho
      cases ho
      have := Nat.eq_of_beq_eq_true e8
      subst this
      exact ⟨[-1], ⟨⟨rfl, vN_0 h0 0 rfl (-1)⟩, trivial⟩, rfl, fun vs' n hv => ⟨-1, hv 0 _ rfl, .inl ⟨rfl, hd⟩⟩⟩
    | false =>
      rw [e8] at ho
      simp only [cond_false] at ho
      cases e : Nat.beq ts 3 with
      | false => rw [e] at ho; cases ho
      | true =>
        rw [e] at ho
        cases ho
        have := Nat.eq_of_beq_eq_true e
        subst this
        obtain ⟨u, h1, h2⟩ := hd
        refine ⟨[u], ⟨⟨rfl, u, h1, by show u = u + 0; omega⟩, trivial⟩, rfl, fun vs' n hv => ⟨u, hv 0 _ rfl, h2⟩⟩
  | 4, ho =>
    simp only at ho
    cases e8 : Nat.beq ts 8 with
    | true =>
      rw [e8] at ho
      cases ho
      have := Nat.eq_of_beq_eq_true e8
      subst this
      exact ⟨[-1, 0], ⟨⟨rfl, vN_0 h0 0 rfl (-1)⟩, ⟨rfl, vN_0 h0 0 rfl 0⟩, trivial⟩, rfl, fun vs' n hv => ⟨-1, hv 0 _ rfl, .inl ⟨rfl, hd⟩⟩⟩
    | false =>
      rw [e8] at ho
      simp only [cond_false] at ho
      cases e : (Nat.beq ts 4 && Nat.blt cs.toNat vs.length) with
      | false => rw [e] at ho; cases ho
      | true =>
        rw [e] at ho
        cases ho
        rw [Bool.and_eq_true] at e
        have := Nat.eq_of_beq_eq_true e.1
        subst this
        obtain ⟨u, h1, h2⟩ := hd
        have hlt : cs.toNat < vs.length := Nat.le_of_ble_eq_true e.2
        have hm : vs[cs.toNat]? = some (vs[cs.toNat]'hlt) := List.getElem?_eq_getElem hlt
        refine ⟨[u, vs[cs.toNat]'hlt], ⟨⟨rfl, u, h1, by show u = u + 0; omega⟩, ⟨rfl, _, hm, (Int.add_zero _).symm⟩, trivial⟩, rfl, fun vs' n hv => ⟨u, hv 0 _ rfl, ?_⟩⟩
        rcases h2 with h2 | ⟨h2, i, k, h3, h4, h5⟩
        · exact .inl h2
        · refine .inr ⟨h2, i, k, h3, h4, ?_⟩
          rw [hm] at h5
          have := hv 1 _ rfl
          have e5 : vs[cs.toNat]'hlt = (k : Int) := by injection h5
          rw [e5] at this
          exact this
  | 5, ho =>
    simp only at ho
    cases e : s_eq (ts, as, cs) (5, lo.toNat, 0) with
    | false => rw [e] at ho; cases ho
    | true =>
      rw [e] at ho
      cases ho
      have := s_eq_ok e
      cases this
      exact ⟨[], trivial, rfl, fun vs' n hv => hd⟩
  | 6, ho => cases ho
  | 7, ho => cases ho
  | 8, ho =>
    simp only at ho
    cases e : Nat.beq ts 8 with
    | false => rw [e] at ho; cases ho
    | true =>
      rw [e] at ho
      cases ho
      have := Nat.eq_of_beq_eq_true e
      subst this
      exact ⟨[], trivial, rfl, fun vs' n hv => hd⟩
  | t + 9, ho => cases ho
theorem c_args_ok (h0 : vs[0]? = some 0) : ∀ {ps : zPs} {ss : List sV} {args : List Value} {m : List sV}, dnL vs w ss args → c_args vs.length ps ss = some m → ∃ V, mvR vs m V ∧ m.length = (e_ivs ps).length ∧ ∀ (vs' : List Int) (n : Nat), (∀ i x, V[i]? = some x → vs'[n + i]? = some x) → dnL vs' w (e_args n ps) args
  | [], [], [], m, _, ho => by
    cases ho
    exact ⟨[], trivial, rfl, fun _ _ _ => trivial⟩
  | p :: ps, s :: ss, v :: args, m, hd, ho => by
    unfold c_args at ho
    split at ho
    next a b ha hb =>
      cases ho
      obtain ⟨V1, r1, r2, r3⟩ := c_arg_ok h0 hd.1 ha
      obtain ⟨V2, q1, q2, q3⟩ := c_args_ok h0 hd.2 hb
      refine ⟨V1 ++ V2, mvR_app r1 q1, by simp [e_ivs, r2, q2], fun vs' n hv => ⟨?_, ?_⟩⟩
      · refine r3 vs' n (fun i x hx => hv i x ?_)
        rw [List.getElem?_append_left (List.getElem?_eq_some_iff.mp hx).1]
        exact hx
      · refine q3 vs' (n + (e_iv p).length) (fun i x hx => ?_)
        have hl := mvR_len r1
        have := hv (V1.length + i) x (by rw [List.getElem?_append_right (by omega)]; rw [show V1.length + i - V1.length = i by omega]; exact hx)
        rw [show n + (e_iv p).length + i = n + (V1.length + i) by omega]
        exact this
    next => cases ho
  | [], [], _ :: _, _, h, _ => h.elim
  | [], _ :: _, _, _, _, ho => by cases ho
  | _ :: _, [], _, _, _, ho => by cases ho
  | _ :: _, _ :: _, [], _, h, _ => h.elim
/-- a field that is an int, and its number -/
def fvR (w : mWd) : zFl → List Int → Prop
  | [], [] => True
  | f :: fl, X :: V => (f.1 < 129 ∧ ∃ (ci : Nat) (fs : List Value) (x : Int32), w[f.1]? = some (.inr (ci, fs)) ∧ fs[f.2.1]? = some (.int x) ∧ x.toInt = X) ∧ fvR w fl V
  | _, _ => False
theorem fvR_fun : ∀ {fl : zFl} {V V' : List Int}, fvR w fl V → fvR w fl V' → V = V'
  | [], [], [], _, _ => rfl
  | f :: fl, X :: V, X' :: V', h, h' => by
    obtain ⟨⟨-, ci, fs, x, a1, a2, a3⟩, b⟩ := h
    obtain ⟨⟨-, ci', fs', x', c1, c2, c3⟩, d⟩ := h'
    rw [a1] at c1
    cases c1
    rw [a2] at c2
    cases c2
    rw [fvR_fun b d, ← a3, ← c3]
  | [], _ :: _, _, h, _ => h.elim
  | [], [], _ :: _, _, h => h.elim
  | _ :: _, [], _, h, _ => h.elim
  | _ :: _, _ :: _, [], _, h => h.elim
def z_fs (Z : zDt) (i k : Nat) : Option zSp := match Z.1[i]? with
  | some (0, _, n, sps) => (match sps[k]? with
    | some sp => bif (Nat.blt k n && (Nat.beq sp.1 0 && Nat.blt i 129)) then some sp else none
    | none => none)
  | _ => none
theorem z_fs_ok {i k : Nat} {sp : zSp} (hW : WI Z w) (h : z_fs Z i k = some sp) : i < 129 ∧ ∃ (ci : Nat) (fs : List Value) (x : Int32), w[i]? = some (.inr (ci, fs)) ∧ fs[k]? = some (.int x) ∧ okV w sp (.int x) := by
  unfold z_fs at h
  split at h
  next ci n sps hZ =>
    split at h
    next sp' hsp =>
      cases e : (Nat.blt k n && (Nat.beq sp'.1 0 && Nat.blt i 129)) with
      | false => rw [e] at h; cases h
      | true =>
        rw [e] at h
        cases h
        rw [Bool.and_eq_true, Bool.and_eq_true] at e
        have hk : k < n := Nat.le_of_ble_eq_true e.1
        obtain ⟨fs, f1, f2, f3⟩ := WI_obj hW hZ
        have hg : fs[k]? = some (fs[k]'(by omega)) := List.getElem?_eq_getElem (by omega)
        have hv := f3 k sp _ hsp hg
        obtain ⟨t, a, c⟩ := sp
        have := Nat.eq_of_beq_eq_true e.2.1
        simp only at this
        subst this
        obtain ⟨x, hx, hb⟩ := id hv
        rw [hx] at hg hv
        exact ⟨Nat.le_of_ble_eq_true e.2.2, ci, fs, x, f1, hg, hv⟩
    next => cases h
  next => cases h
def c_flds (Z : zDt) : sK → sC → zFl → Option (sK × sC × List sV)
  | K, C, [] => some (K, C, [])
  | K, C, f :: fl => (match z_fs Z f.1 f.2.1 with
    | some sp => (match c_get C (f_key f.1 f.2.1) with
      | some v => bif Nat.beq v.1 0 then (match c_flds Z K C fl with
        | some r => some (r.1, r.2.1, v :: r.2.2)
        | none => none) else none
      | none => (match c_flds Z (k_ld K sp).1 ((f_key f.1 f.2.1, (k_ld K sp).2) :: C) fl with
        | some r => some (r.1, r.2.1, (k_ld K sp).2 :: r.2.2)
        | none => none))
    | none => none)
theorem c_flds_ok (hW : WI Z w) : ∀ {fl : zFl} {K : sK} {C : sC} {vs : List Int} {r : sK × sC × List sV}, nK vs K → cRL vs w C → c_flds Z K C fl = some r → ∃ vs' V, vL vs vs' ∧ nK vs' r.1 ∧ cRL vs' w r.2.1 ∧ mvR vs' r.2.2 V ∧ fvR w fl V
  | [], K, C, vs, r, hK, hC, ho => by
    cases ho
    exact ⟨vs, [], vL_refl vs, hK, hC, trivial, trivial⟩
  | f :: fl, K, C, vs, r, hK, hC, ho => by
    unfold c_flds at ho
    split at ho
    next sp hsp =>
      obtain ⟨hl, ci, fs, x, f1, f2, f3⟩ := z_fs_ok hW hsp
      split at ho
      next v hv =>
        cases e : Nat.beq v.1 0 with
        | false => rw [e] at ho; cases ho
        | true =>
          rw [e] at ho
          simp only [cond_true] at ho
          split at ho
          next r' hr =>
            cases ho
            obtain ⟨vs', V, a1, a2, a3, a4, a5⟩ := c_flds_ok hW hK hC hr
            have hd := cR_f f1 f2 (c_get_ok hC hv)
            obtain ⟨y, hy, hN⟩ := dn_int hd (by unfold k_tg; rw [e]; rfl)
            cases hy
            refine ⟨vs', x.toInt :: V, a1, a2, a3, ⟨⟨?_, vN_up a1 hN⟩, a4⟩, ⟨⟨hl, ci, fs, x, f1, f2, rfl⟩, a5⟩⟩
            unfold n7
            rw [Nat.eq_of_beq_eq_true e]
            rfl
          next => cases ho
      next =>
        split at ho
        next r' hr =>
          cases ho
          obtain ⟨vs1, b1, b2, b3⟩ := k_ld_ok hK f3
          have hC1 : cRL vs1 w ((f_key f.1 f.2.1, (k_ld K sp).2) :: C) := by
            intro y hy
            rcases List.mem_cons.mp hy with rfl | hy
            · exact ⟨hl, ci, fs, _, f1, f2, b3⟩
            · exact cRL_up b1 hC y hy
          obtain ⟨vs', V, a1, a2, a3, a4, a5⟩ := c_flds_ok hW b2 hC1 hr
          have h0 : (k_ld K sp).2.1 = 0 := by
            obtain ⟨t, a, c⟩ := sp
            unfold okV at f3
            match t, f3 with
            | 0, _ => rfl
            | 1, ⟨i, hi⟩ => cases hi
            | 2, hi => cases hi
            | 3, hi => rcases hi with hi | ⟨_, hi, _⟩ <;> cases hi
            | 4, hi => rcases hi with hi | ⟨_, _, hi, _⟩ <;> cases hi
            | n + 5, hi => exact hi.elim
          obtain ⟨y, hy, hN⟩ := dn_int b3 (by unfold k_tg; rw [h0]; rfl)
          cases hy
          refine ⟨vs', x.toInt :: V, vL_trans b1 a1, a2, a3, ⟨⟨?_, vN_up a1 hN⟩, a4⟩, ⟨⟨hl, ci, fs, x, f1, f2, rfl⟩, a5⟩⟩
          unfold n7
          rw [h0]
          rfl
        next => cases ho
    next => cases ho
/-- the numbers of a template's atoms: first those of the beginning, then the given -/
def c_sv (n : Nat) (m : List sV) (i : Nat) : Option sV := bif Nat.blt i n then some (0, i, 0) else m[i - n]?
def c_fact (K : sK) (n : Nat) (m : List sV) (f : Nat × Nat × Int) : Bool := match c_sv n m f.1, c_sv n m f.2.1 with
  | some x, some y => z_le (k_df K x y) f.2.2
  | _, _ => false
def c_fne (K : sK) (n : Nat) (m : List sV) (q : Nat × Int) : Bool := match c_sv n m q.1 with
  | some x => k_nz K (x.1, x.2.1, x.2.2 - q.2)
  | none => false
def c_pre (K : sK) : Nat → kI → Bool
  | _, [] => true
  | a, b :: E => (z_le b.1 (k_at K.1 a).1 && z_le (k_at K.1 a).2 b.2) && c_pre K (a + 1) E
def c_ivs (K : sK) : List sV → kI → Bool
  | [], [] => true
  | s :: m, b :: E => (z_le b.1 (k_iv K s).1 && z_le (k_iv K s).2 b.2) && c_ivs K m E
  | _, _ => false
theorem c_pre_ok (hK : nK vs K) : ∀ {E : kI} {a : Nat}, c_pre K a E = true → ∀ i x, i < E.length → vs[a + i]? = some x → (k_at E i).1 ≤ x ∧ x ≤ (k_at E i).2
  | [], _, _, _, _, hi, _ => by simp at hi
  | b :: E, a, h, 0, x, _, hx => by
    unfold c_pre at h
    rw [Bool.and_eq_true, Bool.and_eq_true, z_le_iff, z_le_iff] at h
    have := hK.at hx
    show b.1 ≤ x ∧ x ≤ b.2
    simp only [Nat.add_zero] at this
    omega
  | b :: E, a, h, i + 1, x, hi, hx => by
    unfold c_pre at h
    rw [Bool.and_eq_true] at h
    refine c_pre_ok hK h.2 i x (by simpa using hi) ?_
    rw [show a + 1 + i = a + (i + 1) by omega]
    exact hx
theorem c_ivs_ok (hK : nK vs K) : ∀ {m : List sV} {V : List Int} {E : kI}, mvR vs m V → c_ivs K m E = true → E.length = V.length ∧ ∀ i x, V[i]? = some x → (k_at E i).1 ≤ x ∧ x ≤ (k_at E i).2
  | [], [], [], _, _ => ⟨rfl, fun i x hx => by simp at hx⟩
  | s :: m, X :: V, b :: E, hm, h => by
    unfold c_ivs at h
    rw [Bool.and_eq_true, Bool.and_eq_true, z_le_iff, z_le_iff] at h
    obtain ⟨h1, h2⟩ := c_ivs_ok hK hm.2 h.2
    refine ⟨by simp [h1], fun i x hx => ?_⟩
    cases i with
    | zero =>
      simp at hx
      subst hx
      have := k_iv_ok hK hm.1.2
      show b.1 ≤ X ∧ X ≤ b.2
      omega
    | succ i =>
      rw [List.getElem?_cons_succ] at hx
      exact h2 i x hx
  | [], [], _ :: _, _, h => by cases h
  | _ :: _, _ :: _, [], _, h => by cases h
  | [], _ :: _, _, h, _ => h.elim
  | _ :: _, [], _, h, _ => h.elim
theorem k_at_app2 : ∀ (E E' : kI) (a : Nat), k_at (E ++ E') a = if a < E.length then k_at E a else k_at E' (a - E.length)
  | [], E', a => by simp
  | b :: E, E', 0 => by simp [k_at]
  | b :: E, E', a + 1 => by simp only [List.cons_append, k_at, List.length_cons, k_at_app2 E E' a, Nat.add_lt_add_iff_right, Nat.add_sub_add_right]
/-- the history that a template speaks of -/
theorem c_sv_ok {n : Nat} {m : List sV} {V : List Int} {i : Nat} {s : sV} (hn : n ≤ vs.length) (hm : mvR vs m V) (h : c_sv n m i = some s) : ∃ X, (vs.take n ++ V)[i]? = some X ∧ n7 s = true ∧ vN vs s X := by
  unfold c_sv at h
  have hl : (vs.take n).length = n := by rw [List.length_take]; omega
  cases e : Nat.blt i n with
  | true =>
    rw [e] at h
    cases h
    have hi : i < n := Nat.le_of_ble_eq_true e
    have hg : vs[i]? = some (vs[i]'(by omega)) := List.getElem?_eq_getElem (by omega)
    refine ⟨vs[i]'(by omega), ?_, rfl, _, hg, (Int.add_zero _).symm⟩
    rw [List.getElem?_append_left (by omega), List.getElem?_take_of_lt hi]
    exact hg
  | false =>
    rw [e] at h
    have hi : ¬ i < n := fun hi => by
      have : Nat.blt i n = true := Nat.ble_eq_true_of_le hi
      rw [this] at e; cases e
    obtain ⟨X, h1, h2⟩ := mvR_get hm h
    refine ⟨X, ?_, h2⟩
    rw [List.getElem?_append_right (by omega), hl]
    exact h1
/-- what a template says of numbers, arguments and fields -/
def tE (Ep : kI) (tm : zTm) (vp V : List Int) (w : mWd) (args : List Value) : Prop := nK (vp ++ V) (Ep ++ (e_ivs tm.1 ++ f_ivs tm.2.1), tm.2.2.1, tm.2.2.2, [], []) ∧ dnL (vp ++ V) w (e_args Ep.length tm.1) args ∧ ∃ V1 V2, V = V1 ++ V2 ∧ V1.length = (e_ivs tm.1).length ∧ fvR w tm.2.1 V2
def t_chk (Z : zDt) (K : sK) (C : sC) (Ep : kI) (tm : zTm) (ss : List sV) : Option (sK × sC × List sV) := match c_args K.1.length tm.1 ss with
  | some m1 => (match c_flds Z K C tm.2.1 with
    | some r => bif (c_pre r.1 0 Ep && (c_ivs r.1 (m1 ++ r.2.2) (e_ivs tm.1 ++ f_ivs tm.2.1) && (tm.2.2.1.all (c_fact r.1 Ep.length (m1 ++ r.2.2)) && (tm.2.2.2.all (c_fne r.1 Ep.length (m1 ++ r.2.2)) && (Nat.blt 0 Ep.length && Nat.ble Ep.length K.1.length))))) then some (r.1, r.2.1, m1 ++ r.2.2) else none
    | none => none)
  | none => none
theorem t_chk_ok {Ep : kI} {tm : zTm} {ss : List sV} {args : List Value} {r : sK × sC × List sV} (hW : WI Z w) (hK : nK vs K) (hC : cRL vs w C) (hd : dnL vs w ss args) (ho : t_chk Z K C Ep tm ss = some r) : ∃ vs1 V, vL vs vs1 ∧ nK vs1 r.1 ∧ cRL vs1 w r.2.1 ∧ mvR vs1 r.2.2 V ∧ Ep.length ≤ vs.length ∧ 0 < Ep.length ∧ tE Ep tm (vs.take Ep.length) V w args := by
  unfold t_chk at ho
  split at ho
  next m1 hm1 =>
    split at ho
    next q hq =>
      cases e : (c_pre q.1 0 Ep && (c_ivs q.1 (m1 ++ q.2.2) (e_ivs tm.1 ++ f_ivs tm.2.1) && (tm.2.2.1.all (c_fact q.1 Ep.length (m1 ++ q.2.2)) && (tm.2.2.2.all (c_fne q.1 Ep.length (m1 ++ q.2.2)) && (Nat.blt 0 Ep.length && Nat.ble Ep.length K.1.length))))) with
      | false => rw [e] at ho; cases ho
      | true =>
        rw [e] at ho
        cases ho
        rw [Bool.and_eq_true, Bool.and_eq_true, Bool.and_eq_true, Bool.and_eq_true, Bool.and_eq_true] at e
        obtain ⟨e1, e2, e3, e4, e5, e6⟩ := e
        have hn0 : 0 < Ep.length := Nat.le_of_ble_eq_true e5
        have hn1 : Ep.length ≤ vs.length := by rw [← hK.len]; exact Nat.le_of_ble_eq_true e6
        rw [hK.len] at hm1
        obtain ⟨V1, a1, a2, a3⟩ := c_args_ok hK.1 hd hm1
        obtain ⟨vs1, V2, b1, b2, b3, b4, b5⟩ := c_flds_ok hW hK hC hq
        have hmv := mvR_app (mvR_up b1 a1) b4
        have hlen1 : vs.length ≤ vs1.length := by
          rcases Nat.lt_or_ge vs1.length vs.length with h | h
          · have := b1 (vs.length - 1) _ (List.getElem?_eq_getElem (by omega))
            have := (List.getElem?_eq_some_iff.mp this).1
            omega
          · exact h
        have htake : vs1.take Ep.length = vs.take Ep.length := by
          apply List.ext_getElem?
          intro i
          by_cases hi : i < Ep.length
          · rw [List.getElem?_take_of_lt hi, List.getElem?_take_of_lt hi]
            have hg : vs[i]? = some (vs[i]'(by omega)) := List.getElem?_eq_getElem (by omega)
            rw [hg, b1 _ _ hg]
          · rw [List.getElem?_eq_none (by rw [List.length_take]; omega), List.getElem?_eq_none (by rw [List.length_take]; omega)]
        have hlt : (vs.take Ep.length).length = Ep.length := by rw [List.length_take]; omega
        obtain ⟨c1, c2⟩ := c_ivs_ok b2 hmv e2
        have hsv : ∀ {i s}, c_sv Ep.length (m1 ++ q.2.2) i = some s → ∃ X, (vs.take Ep.length ++ (V1 ++ V2))[i]? = some X ∧ n7 s = true ∧ vN vs1 s X := by
          intro i s h
          have := c_sv_ok (by omega) hmv h
          rw [htake] at this
          exact this
        have hg0 : ∀ i, i < Ep.length → (vs.take Ep.length ++ (V1 ++ V2))[i]? = vs[i]? := fun i hi => by
          rw [List.getElem?_append_left (by omega), List.getElem?_take_of_lt hi]
        refine ⟨vs1, V1 ++ V2, b1, b2, b3, hmv, hn1, hn0, ⟨?_, ?_, ?_, ?_, ?_, ?_, ?_⟩, ?_, V1, V2, rfl, by rw [← a2]; exact (mvR_len a1).symm, b5⟩
        · rw [hg0 0 hn0]; exact hK.1
        · show (Ep ++ (e_ivs tm.1 ++ f_ivs tm.2.1)).length = (vs.take Ep.length ++ (V1 ++ V2)).length
          rw [List.length_append, c1, List.length_append (as := vs.take Ep.length), hlt]
        · intro a x hx
          show (k_at (Ep ++ (e_ivs tm.1 ++ f_ivs tm.2.1)) a).1 ≤ x ∧ x ≤ (k_at (Ep ++ (e_ivs tm.1 ++ f_ivs tm.2.1)) a).2
          rw [k_at_app2]
          by_cases ha : a < Ep.length
          · rw [if_pos ha]
            rw [hg0 a ha] at hx
            exact c_pre_ok b2 e1 a x ha (by rw [Nat.zero_add]; exact b1 _ _ hx)
          · rw [if_neg ha]
            rw [List.getElem?_append_right (by omega), hlt] at hx
            exact c2 _ x hx
        · intro f hf
          have h := List.all_eq_true.mp e3 f hf
          unfold c_fact at h
          split at h
          next x y hx hy =>
            obtain ⟨X, x1, x2, x3⟩ := hsv hx
            obtain ⟨Y, y1, y2, y3⟩ := hsv hy
            have := k_df_ok b2 x2 y2 x3 y3
            exact ⟨X, Y, x1, y1, Int.le_trans this (z_le_iff.mp h)⟩
          next => cases h
        · intro f hf
          have h := List.all_eq_true.mp e4 f hf
          unfold c_fne at h
          split at h
          next x hx =>
            obtain ⟨X, x1, x2, x3⟩ := hsv hx
            have hv := vN_off (Z := X + -f.2) x3 (-f.2) rfl
            rw [← Int.sub_eq_add_neg] at hv
            have := k_nz_ok b2 hv h
            exact ⟨X, x1, by omega⟩
          next => cases h
        · intro d hd
          exact absurd hd (by simp)
        · intro d hd
          exact absurd hd (by simp)
        · refine a3 _ _ (fun i x hx => ?_)
          rw [List.getElem?_append_right (by omega), hlt, show Ep.length + i - Ep.length = i by omega, List.getElem?_append_left (List.getElem?_eq_some_iff.mp hx).1]
          exact hx
    next => cases ho
  next => cases ho
end TM

