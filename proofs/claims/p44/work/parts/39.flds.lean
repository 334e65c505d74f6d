/-! A STEP OF THE CHECKER: fields, constants, lengths -/
/-- one of the states told is that of the step, which may write -/
def tOK (Z : zDt) (wr : zWr) (w0 : mWd) (vs : List Int) (w : mWd) (out : List sN) (r : Option mOut) : Prop := ∃ (x : sN) (vs' : List Int) (l' : mL) (st' : List Value) (w' : mWd), x ∈ out ∧ r = some (.inl (x.1, l', st', w')) ∧ vL vs vs' ∧ w_le w w' ∧ gD Z wr w0 vs' x.2 l' st' w'
section FLDS
variable {Z : zDt} {wr : zWr} {w0 w : mWd} {vs : List Int} {K : sK} {C : sC} {lv : sL} {ss : List sV} {al : Nat × Nat} {wk : Option sV} {l : mL} {st : List Value} {out : List sN} {L mid pc : Nat} {xs : Nat → Int32}
def m_lift (w : mWd) (r : Option (Nat × mL × List Value)) : Option mOut := match r with
  | some (pc', l', st') => mNx pc' l' st' w
  | none => none
theorem tOK_of {r : Option (Nat × mL × List Value)} (h : sOK Z wr w0 vs w out r) : tOK Z wr w0 vs w out (m_lift w r) := by
  obtain ⟨x, vs', l', st', h1, h2, h3, h4⟩ := h
  subst h2
  exact ⟨x, vs', l', st', w, h1, rfl, h3, w_le_refl w, h4⟩
theorem tOK_nx {pc' : Nat} {l' : mL} {st' : List Value} (h : sOK Z wr w0 vs w out (some (pc', l', st'))) : tOK Z wr w0 vs w out (mNx pc' l' st' w) := tOK_of h
/-- a value on the stack (what was taken off it is given), and perhaps an entry to what is known -/
def h_put (pc : Nat) (q : sK × sV) (e : Option (cK × sV)) (ss : List sV) (D : sD) : List sN := [(pc, (q.1, (match e with
  | some x => x :: D.2.1
  | none => D.2.1), D.2.2.1, q.2 :: ss, D.2.2.2.2))]
theorem h_put_ok {pc' : Nat} {q : sK × sV} {e : Option (cK × sV)} {v : Value} {vs' : List Int} {st' : List Value} (h : gD Z wr w0 vs (K, C, lv, ss, al, wk) l st w) (hv : vL vs vs') (hK : nK vs' q.1) (hd : dn vs' w q.2 v) (he : ∀ x, e = some x → cR vs' w x) {ss' : List sV} (hs : dnL vs w ss' st') : sOK Z wr w0 vs w (h_put pc' q e ss' (K, C, lv, ss, al, wk)) (some (pc', l, v :: st')) := by
  refine sOK_one hv ⟨hK, ?_, gD_lv h hv, ⟨hd, dnL_up hv (w_le_refl w) hs⟩, gW_up hv h.2.2.2.2⟩
  have hC := cRL_up hv h.2.1
  cases e with
  | none => exact hC
  | some x =>
    intro y hy
    rcases List.mem_cons.mp hy with rfl | hy
    · exact he _ rfl
    · exact hC y hy
/-- a value by its spec, or as it is known -/
def h_rd (pc : Nat) (key : cK) (sp : zSp) (ss : List sV) (D : sD) : List sN := match c_get D.2.1 key with
  | some v => h_put pc (D.1, v) none ss D
  | none => h_put pc (k_ld D.1 sp) (some (key, (k_ld D.1 sp).2)) ss D
theorem h_rd_ok {pc' : Nat} {key : cK} {sp : zSp} {v : Value} {st' : List Value} (h : gD Z wr w0 vs (K, C, lv, ss, al, wk) l st w) (hv : okV w sp v) (hg : ∀ s, cR vs w (key, s) → dn vs w s v) (hc : ∀ vs' s, vL vs vs' → dn vs' w s v → cR vs' w (key, s)) {ss' : List sV} (hs : dnL vs w ss' st') : sOK Z wr w0 vs w (h_rd pc' key sp ss' (K, C, lv, ss, al, wk)) (some (pc', l, v :: st')) := by
  unfold h_rd
  split
  next s hs' => exact h_put_ok h (vL_refl vs) h.1 (hg s (c_get_ok h.2.1 hs')) (fun x hx => by cases hx) hs
  next =>
    obtain ⟨vs', v1, v2, v3⟩ := k_ld_ok h.1 hv
    refine h_put_ok h v1 v2 v3 (fun x hx => ?_) hs
    cases hx
    exact hc vs' _ v1 v3
def f_key (i k : Nat) : cK := (0, i, (0, k, 0))
theorem cR_f {i ci k : Nat} {fs : List Value} {v : Value} {s : sV} (hi : w[i]? = some (.inr (ci, fs))) (hk : fs[k]? = some v) : cR vs w (f_key i k, s) → dn vs w s v := by
  rintro ⟨-, ci', fs', v', h1, h2, h3⟩
  have h1' : w[i]? = some (.inr (ci', fs')) := h1
  rw [hi] at h1'
  cases h1'
  have h2' : fs[k]? = some v' := h2
  rw [hk] at h2'
  cases h2'
  exact h3
/-- the null flag says not null -/
def h_nn (K : sK) (s : sV) : Bool := z_le 0 (k_at K.1 s.2.1).1
theorem dn_cost {a : Nat} {c : Int} {v : Value} (h : nK vs K) (hd : dn vs w (3, a, c) v) (hn : h_nn K (3, a, c) = true) : ∃ i, v = .ref i ∧ wC w i := by
  obtain ⟨u, h1, h2 | ⟨h2, i, h3, h4⟩⟩ := hd
  · have h6 : (k_at K.1 a).1 ≤ u := (h.at h1).1
    have h5 : (0 : Int) ≤ (k_at K.1 a).1 := z_le_iff.mp hn
    omega
  · exact ⟨i, h3, h4⟩
theorem dn_text {a : Nat} {c : Int} {v : Value} (h : nK vs K) (hd : dn vs w (4, a, c) v) (hn : h_nn K (4, a, c) = true) : ∃ i n : Nat, v = .ref i ∧ wT w i n ∧ vs[c.toNat]? = some (n : Int) := by
  obtain ⟨u, h1, h2 | ⟨h2, i, n, h3, h4, h5⟩⟩ := hd
  · have h6 : (k_at K.1 a).1 ≤ u := (h.at h1).1
    have h5 : (0 : Int) ≤ (k_at K.1 a).1 := z_le_iff.mp hn
    omega
  · exact ⟨i, n, h3, h4, h5⟩
def h_gf1 (Z : zDt) (ci k pc : Nat) (D : sD) : Option (List sN) := match D.2.2.2.1 with
  | x :: ss => (match x.1 with
    | 2 => (match Z.1[x.2.1]? with
      | some (0, cj, n, sps) => (match sps[k]? with
        | some sp => bif (Nat.beq cj ci && (Nat.blt k n && Nat.blt x.2.1 129)) then some (h_rd (pc + 3) (f_key x.2.1 k) sp ss D) else none
        | none => none)
      | _ => none)
    | 3 => (match Z.2.1[k]? with
      | some sp => bif (Nat.beq ci 2 && (Nat.blt k 13 && h_nn D.1 x)) then some (h_put (pc + 3) (k_ld D.1 sp) none ss D) else none
      | none => none)
    | _ => none)
  | _ => none
theorem h_gf1_ok {ci k : Nat} (h : gD Z wr w0 vs (K, C, lv, ss, al, wk) l st w) (ho : h_gf1 Z ci k pc (K, C, lv, ss, al, wk) = some out) : ∃ i r, st = .ref i :: r ∧ tOK Z wr w0 vs w out (m_getf ci k i pc l r w) := by
  unfold h_gf1 at ho
  split at ho
  next x ss' hD =>
    simp only at hD
    subst hD
    obtain ⟨v, r1, e1, d1, hr1⟩ := dnL_cons h.2.2.2.1
    subst e1
    obtain ⟨t, a, c⟩ := x
    split at ho
    next e =>
      simp only at e
      subst e
      have hv : v = .ref a := d1
      subst hv
      refine ⟨a, r1, rfl, ?_⟩
      split at ho
      next cj n sps hZ =>
        split at ho
        next sp hsp =>
          cases e : (Nat.beq cj ci && (Nat.blt k n && Nat.blt a 129)) with
          | false => simp only [e] at ho; cases ho
          | true =>
            simp only [e] at ho
            cases ho
            rw [Bool.and_eq_true, Bool.and_eq_true] at e
            have ec := Nat.eq_of_beq_eq_true e.1
            subst ec
            have hkn : k < n := Nat.le_of_ble_eq_true e.2.1
            have hal : a < 129 := Nat.le_of_ble_eq_true e.2.2
            obtain ⟨fs, f1, f2, f3⟩ := WI_obj h.2.2.2.2.1 hZ
            have hg : fs[k]? = some (fs[k]'(by omega)) := List.getElem?_eq_getElem (by omega)
            have hm : m_getf cj k a pc l r1 w = mNx (pc + 3) l (fs[k]'(by omega) :: r1) w := by
              unfold m_getf
              rw [f1]
              simp only [if_true, hg]
            rw [hm]
            refine tOK_nx (h_rd_ok h (f3 k sp _ hsp hg) (fun s => cR_f f1 hg) (fun vs' s hv hd => ?_) hr1)
            exact ⟨hal, cj, fs, _, f1, hg, hd⟩
        next => cases ho
      next => cases ho
    next e =>
      simp only at e
      subst e
      split at ho
      next sp hsp =>
        cases e : (Nat.beq ci 2 && (Nat.blt k 13 && h_nn K (3, a, c))) with
        | false => simp only [e] at ho; cases ho
        | true =>
          simp only [e] at ho
          cases ho
          rw [Bool.and_eq_true, Bool.and_eq_true] at e
          have ec := Nat.eq_of_beq_eq_true e.1
          subst ec
          have hkn : k < 13 := Nat.le_of_ble_eq_true e.2.1
          obtain ⟨i, hi, hC⟩ := dn_cost h.1 d1 e.2.2
          subst hi
          refine ⟨i, r1, rfl, ?_⟩
          obtain ⟨fs, f1, f2, f3⟩ := WI_cost h.2.2.2.2.1 hC
          have hg : fs[k]? = some (fs[k]'(by omega)) := List.getElem?_eq_getElem (by omega)
          have hm : m_getf 2 k i pc l r1 w = mNx (pc + 3) l (fs[k]'(by omega) :: r1) w := by
            unfold m_getf
            rw [f1]
            simp only [if_true, hg]
          rw [hm]
          obtain ⟨vs', v1, v2, v3⟩ := k_ld_ok h.1 (f3 k sp _ hsp hg)
          exact tOK_nx (h_put_ok h v1 v2 v3 (fun x hx => by cases hx) hr1)
      next => cases ho
    next => cases ho
  next => cases ho
def h_gf (Z : zDt) (mid ix pc : Nat) (D : sD) : Option (List sN) := match pgRs mid ix with
  | some (0, ci, k) => h_gf1 Z ci k.toNat pc D
  | some (1, ci, k) => h_gf1 Z ci k.toNat pc D
  | some (20, _, _) => (match D.2.2.2.1 with
    | x :: ss => bif s_eq x (5, 4, 0) then some (h_put (pc + 3) (D.1, (5, 5, 0)) none ss D) else none
    | _ => none)
  | some (21, _, _) => (match D.2.2.2.1 with
    | x :: ss => bif s_eq x (5, 4, 0) then some (h_put (pc + 3) (D.1, (0, 0, 0)) none ss D) else none
    | _ => none)
  | _ => none
theorem h_gf_ok {ix : Nat} (h : gD Z wr w0 vs (K, C, lv, ss, al, wk) l st w) (ho : h_gf Z mid ix pc (K, C, lv, ss, al, wk) = some out) : tOK Z wr w0 vs w out (m_step L xs mid pc l st w (.getfield ix)) := by
  unfold h_gf at ho
  simp only [m_step]
  split at ho
  next ci k hr =>
    obtain ⟨i, r, e, ht⟩ := h_gf1_ok h ho
    subst e
    rw [hr]
    exact ht
  next ci k hr =>
    obtain ⟨i, r, e, ht⟩ := h_gf1_ok h ho
    subst e
    rw [hr]
    exact ht
  next hr =>
    split at ho
    next x ss' hD =>
      simp only at hD
      subst hD
      obtain ⟨v, r1, e1, d1, hr1⟩ := dnL_cons h.2.2.2.1
      subst e1
      cases e : s_eq x (5, 4, 0) with
      | false => rw [e] at ho; cases ho
      | true =>
        rw [e] at ho
        cases ho
        have := s_eq_ok e
        subst this
        have hv : v = .retAddr 4 := d1
        subst hv
        rw [hr]
        exact tOK_nx (h_put_ok h (vL_refl vs) h.1 (show dn vs w (5, 5, 0) (.retAddr 5) from (rfl : Value.retAddr 5 = Value.retAddr 5)) (fun x hx => by cases hx) hr1)
    next => cases ho
  next hr =>
    split at ho
    next x ss' hD =>
      simp only at hD
      subst hD
      obtain ⟨v, r1, e1, d1, hr1⟩ := dnL_cons h.2.2.2.1
      subst e1
      cases e : s_eq x (5, 4, 0) with
      | false => rw [e] at ho; cases ho
      | true =>
        rw [e] at ho
        cases ho
        have := s_eq_ok e
        subst this
        have hv : v = .retAddr 4 := d1
        subst hv
        rw [hr]
        exact tOK_nx (h_put_ok h (vL_refl vs) h.1 (show dn vs w (0, 0, 0) (.int 0) from ⟨0, rfl, vN_cst h.1 rfl 0⟩) (fun x hx => by cases hx) hr1)
    next => cases ho
  next => cases ho
/-- the value suits the field's type -/
def h_fty (ty : FieldType) (K : sK) (s : sV) : Bool := match ty with
  | .int => Nat.beq s.1 0
  | .boolean => Nat.beq s.1 0 && (z_le 0 (k_iv K s).1 && z_le (k_iv K s).2 1)
  | .long => Nat.beq s.1 1
  | .object _ => Nat.beq s.1 8 || Nat.beq s.1 3
  | .array _ => Nat.beq s.1 8 || Nat.beq s.1 4
  | _ => false
theorem h_fty_ok {ty : FieldType} {s : sV} {v : Value} (h : nK vs K) (hd : dn vs w s v) (ht : h_fty ty K s = true) : m_fits ty v = true := by
  obtain ⟨t, a, c⟩ := s
  unfold h_fty at ht
  split at ht
  · have := Nat.eq_of_beq_eq_true ht
    simp only at this
    subst this
    obtain ⟨i, hi, -⟩ := hd
    subst hi
    rfl
  · rw [Bool.and_eq_true, Bool.and_eq_true, z_le_iff, z_le_iff] at ht
    have := Nat.eq_of_beq_eq_true ht.1
    simp only at this
    subst this
    obtain ⟨i, hi, hN⟩ := hd
    subst hi
    have b := k_iv_ok h hN
    have h01 : i = 0 ∨ i = 1 := by
      have : i.toInt = 0 ∨ i.toInt = 1 := by omega
      rcases this with e | e
      · exact .inl (Int32.toInt_inj.mp e)
      · exact .inr (Int32.toInt_inj.mp e)
    rcases h01 with rfl | rfl <;> rfl
  · have := Nat.eq_of_beq_eq_true ht
    simp only at this
    subst this
    obtain ⟨i, hi, -⟩ := hd
    subst hi
    rfl
  · rw [Bool.or_eq_true] at ht
    rcases ht with ht | ht
    · have := Nat.eq_of_beq_eq_true ht
      simp only at this
      subst this
      have hv : v = .null := hd
      subst hv; rfl
    · have := Nat.eq_of_beq_eq_true ht
      simp only at this
      subst this
      obtain ⟨u, -, ⟨-, h2⟩ | ⟨-, i, h2, -⟩⟩ := hd <;> (subst h2; rfl)
  · rw [Bool.or_eq_true] at ht
    rcases ht with ht | ht
    · have := Nat.eq_of_beq_eq_true ht
      simp only at this
      subst this
      have hv : v = .null := hd
      subst hv; rfl
    · have := Nat.eq_of_beq_eq_true ht
      simp only at this
      subst this
      obtain ⟨u, -, ⟨-, h2⟩ | ⟨-, i, n, h2, -⟩⟩ := hd <;> (subst h2; rfl)
  · cases ht
theorem wkR_setf {i : Nat} {q q' : Nat × List Value} (hi : w[i]? = some (.inr q)) (h : wkR vs wk w) : wkR vs wk (w.set i (.inr q')) := by
  obtain ⟨K0, h1, h2⟩ := h
  refine ⟨K0, h1, ?_⟩
  intro f g n m t u hf hg
  rw [getE_set hi] at hf hg
  split at hf
  · cases hf
  · split at hg
    · cases hg
    · exact h2 f g n m t u hf hg
theorem gW_setf {i : Nat} {q q' : Nat × List Value} (h : gW Z wr w0 vs al wk w) (hi : w[i]? = some (.inr q)) (hW : WI Z (w.set i (.inr q'))) (hf : fR wr w (w.set i (.inr q'))) (hn : q'.2.length = q.2.length) : gW Z wr w0 vs al wk (w.set i (.inr q')) := by
  obtain ⟨h1, h2, h3, h4, h5⟩ := h
  refine ⟨hW, fR_trans h2 hf, by simpa using h3, ?_, wkR_setf hi h5⟩
  rw [m_sl_set (c := .inr q') hi (by simp [m_sz, hn])]
  exact h4
def h_pf1 (Z : zDt) (wr : zWr) (may : Bool) (ty : FieldType) (ci k pc : Nat) (D : sD) : Option (List sN) := match D with
  | (K, C, lv, v :: x :: ss, r) => bif (may && (z_wr wr ci k && h_fty ty K v)) then (match x.1 with
    | 2 => (match Z.1[x.2.1]? with
      | some (0, cj, n, sps) => (match sps[k]? with
        | some sp => bif (Nat.beq cj ci && (Nat.blt k n && (k_fit K sp v && Nat.blt x.2.1 129))) then some [(pc + 3, (K, (f_key x.2.1 k, v) :: c_kf x.2.1 k C, lv, ss, r))] else none
        | none => none)
      | _ => none)
    | 3 => (match Z.2.1[k]? with
      | some sp => bif (Nat.beq ci 2 && (Nat.blt k 13 && (h_nn K x && k_fit K sp v))) then some [(pc + 3, (K, C, lv, ss, r))] else none
      | none => none)
    | _ => none) else none
  | _ => none
theorem h_pf1_ok {may : Bool} {ty : FieldType} {ci k : Nat} (h : gD Z wr w0 vs (K, C, lv, ss, al, wk) l st w) (ho : h_pf1 Z wr may ty ci k pc (K, C, lv, ss, al, wk) = some out) : ∃ v i r, st = v :: .ref i :: r ∧ tOK Z wr w0 vs w out (m_putf may ci k i v ty pc l r w) := by
  unfold h_pf1 at ho
  split at ho
  next K' C' lv' vv x ss' r hD =>
    cases hD
    obtain ⟨v, r1, e1, d1, hr1⟩ := dnL_cons h.2.2.2.1
    obtain ⟨o, r2, e2, d2, hr2⟩ := dnL_cons hr1
    subst e1 e2
    cases em : (may && (z_wr wr ci k && h_fty ty K vv)) with
    | false => simp only [em] at ho; cases ho
    | true =>
      simp only [em, cond_true] at ho
      rw [Bool.and_eq_true, Bool.and_eq_true] at em
      obtain ⟨m1, m2, m3⟩ := em
      have hft := h_fty_ok h.1 d1 m3
      obtain ⟨t, a, c⟩ := x
      split at ho
      next e =>
        simp only at e
        subst e
        have hv : o = .ref a := d2
        subst hv
        refine ⟨v, a, r2, rfl, ?_⟩
        split at ho
        next cj n sps hZ =>
          split at ho
          next sp hsp =>
            cases e : (Nat.beq cj ci && (Nat.blt k n && (k_fit K sp vv && Nat.blt a 129))) with
            | false => simp only [e] at ho; cases ho
            | true =>
              simp only [e] at ho
              cases ho
              rw [Bool.and_eq_true, Bool.and_eq_true, Bool.and_eq_true] at e
              have ec := Nat.eq_of_beq_eq_true e.1
              subst ec
              have hkn : k < n := Nat.le_of_ble_eq_true e.2.1
              have hal : a < 129 := Nat.le_of_ble_eq_true e.2.2.2
              obtain ⟨fs, f1, f2, f3⟩ := WI_obj h.2.2.2.2.1 hZ
              have hfit := k_fit_ok h.1 d1 e.2.2.1
              have hW := WI_setf (k := k) (v := v) h.2.2.2.2.1 hZ f1 (fun sp' hs' => by rw [hsp] at hs'; cases hs'; exact hfit)
              have hf := fR_setf (v := v) f1 m2
              have hm : m_putf may cj k a v ty pc l r2 w = mNx (pc + 3) l r2 (w.set a (.inr (cj, fs.set k v))) := by
                unfold m_putf
                rw [f1]
                simp only [m1, hft, f2, hkn, and_self, if_true]
              rw [hm]
              have hw := w_le_set (c' := .inr (cj, fs.set k v)) f1 (by simp [shp])
              refine ⟨_, vs, l, r2, _, List.mem_singleton.mpr rfl, rfl, vL_refl vs, hw, h.1, ?_, lvR_up (vL_refl vs) hw h.2.2.1, dnL_up (vL_refl vs) hw hr2, gW_setf h.2.2.2.2 f1 hW hf (by simp)⟩
              intro y hy
              rcases List.mem_cons.mp hy with rfl | hy
              · refine ⟨hal, cj, fs.set k v, v, by rw [getE_set f1]; exact if_pos rfl, ?_, dn_up (vL_refl vs) hw d1⟩
                show (fs.set k v)[k]? = some v
                rw [List.getElem?_set_self (by omega)]
              · exact cRL_setf f1 h.2.1 y hy
          next => cases ho
        next => cases ho
      next e =>
        simp only at e
        subst e
        split at ho
        next sp hsp =>
          cases e : (Nat.beq ci 2 && (Nat.blt k 13 && (h_nn K (3, a, c) && k_fit K sp vv))) with
          | false => simp only [e] at ho; cases ho
          | true =>
            simp only [e] at ho
            cases ho
            rw [Bool.and_eq_true, Bool.and_eq_true, Bool.and_eq_true] at e
            have ec := Nat.eq_of_beq_eq_true e.1
            subst ec
            have hkn : k < 13 := Nat.le_of_ble_eq_true e.2.1
            obtain ⟨i, hi, hC⟩ := dn_cost h.1 d2 e.2.2.1
            subst hi
            refine ⟨v, i, r2, rfl, ?_⟩
            obtain ⟨fs, f1, f2, f3⟩ := WI_cost h.2.2.2.2.1 hC
            have hfit := k_fit_ok h.1 d1 e.2.2.2
            have hW := WI_setg (k := k) (v := v) h.2.2.2.2.1 hC f1 (fun sp' hs' => by rw [hsp] at hs'; cases hs'; exact hfit)
            have hf := fR_setf (v := v) f1 m2
            have hm : m_putf may 2 k i v ty pc l r2 w = mNx (pc + 3) l r2 (w.set i (.inr (2, fs.set k v))) := by
              unfold m_putf
              rw [f1]
              simp only [m1, hft, f2, hkn, and_self, if_true]
            rw [hm]
            have hw := w_le_set (c' := .inr (2, fs.set k v)) f1 (by simp [shp])
            exact ⟨_, vs, l, r2, _, List.mem_singleton.mpr rfl, rfl, vL_refl vs, hw, h.1, cRL_setg f1 hC.1 h.2.1, lvR_up (vL_refl vs) hw h.2.2.1, dnL_up (vL_refl vs) hw hr2, gW_setf h.2.2.2.2 f1 hW hf (by simp)⟩
        next => cases ho
      next => cases ho
  next => cases ho
def h_pf (Z : zDt) (wr : zWr) (mid ix pc : Nat) (D : sD) : Option (List sN) := match pgRs mid ix with
  | some (0, ci, k) => h_pf1 Z wr (m_may mid ci k.toNat false) (m_fty ci k.toNat) ci k.toNat pc D
  | some (1, ci, k) => h_pf1 Z wr (m_may mid ci k.toNat true) (m_fty ci k.toNat) ci k.toNat pc D
  | _ => none
theorem h_pf_ok {ix : Nat} (h : gD Z wr w0 vs (K, C, lv, ss, al, wk) l st w) (ho : h_pf Z wr mid ix pc (K, C, lv, ss, al, wk) = some out) : tOK Z wr w0 vs w out (m_step L xs mid pc l st w (.putfield ix)) := by
  unfold h_pf at ho
  simp only [m_step]
  split at ho
  next ci k hr =>
    obtain ⟨v, i, r, e, ht⟩ := h_pf1_ok h ho
    subst e
    rw [hr]
    exact ht
  next ci k hr =>
    obtain ⟨v, i, r, e, ht⟩ := h_pf1_ok h ho
    subst e
    rw [hr]
    exact ht
  next => cases ho
/-- getstatic, ldc, ldc_w, ldc2_w -/
def h_ld (ins : Instr) (mid pc : Nat) (D : sD) : Option (List sN) := match ins with
  | .getstatic ix => (match pgRs mid ix with
    | some (2, a, _) => h_push (pc + 3) (5, a, 0) D
    | some (3, _, b) => h_cst (pc + 3) (-2147483648) 2147483647 b D
    | _ => none)
  | .ldc ix => (match pgRs mid ix with
    | some (16, _, b) => h_cst (pc + 2) (-2147483648) 2147483647 b D
    | some (18, a, _) => h_push (pc + 2) (5, a, 0) D
    | _ => none)
  | .ldc_w ix => (match pgRs mid ix with
    | some (16, _, b) => h_cst (pc + 3) (-2147483648) 2147483647 b D
    | _ => none)
  | .ldc2_w ix => (match pgRs mid ix with
    | some (17, _, b) => h_lcst (pc + 3) b D
    | _ => none)
  | _ => none
theorem h_ld_ok {ins : Instr} (h : gD Z wr w0 vs (K, C, lv, ss, al, wk) l st w) (ho : h_ld ins mid pc (K, C, lv, ss, al, wk) = some out) : tOK Z wr w0 vs w out (m_step L xs mid pc l st w ins) := by
  have hc : ∀ (b : Int), (-2147483648 : Int) ≤ b → b ≤ 2147483647 → (Int32.ofInt b).toInt = b := fun b h1 h2 => by rw [Int32.toInt_ofInt]; exact z_bm0 ⟨h1, h2⟩
  have hx : ∀ a, dn vs w (5, a, 0) (.retAddr a) := fun a => (rfl : Value.retAddr a = Value.retAddr a)
  unfold h_ld at ho
  split at ho
  · simp only [m_step]
    split at ho
    next a _ hr => rw [hr]; exact tOK_nx (h_push_ok h (hx a) ho)
    next b hr => rw [hr]; exact tOK_nx (h_cst_ok h (hc b) ho)
    next => cases ho
  · simp only [m_step]
    split at ho
    next b hr => rw [hr]; exact tOK_nx (h_cst_ok h (hc b) ho)
    next a _ hr => rw [hr]; exact tOK_nx (h_push_ok h (hx a) ho)
    next => cases ho
  · simp only [m_step]
    split at ho
    next b hr => rw [hr]; exact tOK_nx (h_cst_ok h (hc b) ho)
    next => cases ho
  · simp only [m_step]
    split at ho
    next b hr =>
      rw [hr]
      refine tOK_nx (h_lcst_ok h (fun hb => ?_) ho)
      rw [Int64.toInt_ofInt]; exact z_bm1 hb
    next => cases ho
  · cases ho
end FLDS
