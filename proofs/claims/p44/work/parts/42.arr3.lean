/-! A STEP OF THE CHECKER: stores, new objects, Math; every step but calls and ends -/
theorem i32_01 {i : Int32} (h0 : 0 ≤ i.toInt) (h1 : i.toInt ≤ 1) : i = 0 ∨ i = 1 := by
  have : i.toInt = 0 ∨ i.toInt = 1 := by omega
  rcases this with e | e
  · exact .inl (Int32.toInt_inj.mp e)
  · exact .inr (Int32.toInt_inj.mp e)
theorem nar_01 {i : Int32} (h0 : 0 ≤ i.toInt) (h1 : i.toInt ≤ 1) : vp_nar .boolean i = i := by
  rcases i32_01 h0 h1 with rfl | rfl <;> rfl
section ARR3
variable {Z : zDt} {wr : zWr} {w0 w : mWd} {vs : List Int} {K : sK} {C : sC} {lv : sL} {ss : List sV} {al : Nat × Nat} {wk : Option sV} {l : mL} {st : List Value} {out : List sN} {L mid pc : Nat} {xs : Nat → Int32}
def h_ot (K : sK) (o t : Nat) (v : sV) : Bool := match o with
  | 0 => Nat.beq t 0 && Nat.beq v.1 0
  | 1 => Nat.beq t 1 && (Nat.beq v.1 0 && (z_le 0 (k_iv K v).1 && z_le (k_iv K v).2 1))
  | 2 => Nat.beq t 2 && Nat.beq v.1 1
  | _ => bif Nat.beq t 3 then (Nat.beq v.1 3 && h_nn K v) else (Nat.beq t 4 && (Nat.beq v.1 4 && h_nn K v))
theorem m_ast_ok {o t n i : Nat} {a : zCt} {j : Int32} {s : sV} {v : Value} (hK : nK vs K) (hd : dn vs w s v) (ho : h_ot K o t s = true) (ho3 : o ≤ 3) (hi : w[i]? = some (.inl (t, n, a))) (hs : shp (.inl (t, n, a)) = (z_kd t, t, n)) (h0 : 0 ≤ j.toInt) (h1 : j.toInt < n) : ∃ b, m_ast o i j v w = some (.inl (t, n, b)) ∧ shp (.inl (t, n, b)) = shp (.inl (t, n, a)) ∧ ∀ k, m_el b k = if k = j.toInt.toNat then v else m_el a k := by
  obtain ⟨m1, m2, m3, m4⟩ := m_nb_ok h0 h1
  obtain ⟨s0, s1, s4⟩ := shp_of hs
  obtain ⟨ts, as, cs⟩ := s
  match o, ho, ho3 with
  | 0, ho, _ =>
    simp only [h_ot, Bool.and_eq_true] at ho
    have := Nat.eq_of_beq_eq_true ho.1
    subst this
    have := Nat.eq_of_beq_eq_true ho.2
    subst this
    obtain ⟨x, hx, -⟩ := hd
    subst hx
    obtain ⟨f, rfl⟩ := s0 rfl
    refine ⟨.inl (upd f j.toNatClampNeg x), ?_, rfl, ?_⟩
    · unfold m_ast
      rw [hi]
      simp only
      rw [if_pos ⟨m1, trivial, trivial⟩]
    · intro k
      rw [← m4]
      show Value.int (upd f j.toNatClampNeg x k) = _
      unfold upd
      split <;> rfl
  | 1, ho, _ =>
    simp only [h_ot, Bool.and_eq_true, z_le_iff] at ho
    obtain ⟨q1, q2, q3, q4⟩ := ho
    have := Nat.eq_of_beq_eq_true q1
    subst this
    have := Nat.eq_of_beq_eq_true q2
    subst this
    obtain ⟨x, hx, hN⟩ := hd
    subst hx
    have b := k_iv_ok hK hN
    obtain ⟨f, rfl⟩ := s0 rfl
    refine ⟨.inl (upd f j.toNatClampNeg x), ?_, rfl, ?_⟩
    · unfold m_ast
      rw [hi]
      simp only
      rw [if_neg (by rintro ⟨-, e, -⟩; cases e), if_pos ⟨m1, trivial, trivial⟩, nar_01 (by omega) (by omega)]
    · intro k
      rw [← m4]
      show Value.int (upd f j.toNatClampNeg x k) = _
      unfold upd
      split <;> rfl
  | 2, ho, _ =>
    simp only [h_ot, Bool.and_eq_true] at ho
    have := Nat.eq_of_beq_eq_true ho.1
    subst this
    have := Nat.eq_of_beq_eq_true ho.2
    subst this
    obtain ⟨x, hx, -⟩ := hd
    subst hx
    obtain ⟨f, rfl⟩ := s1 rfl
    refine ⟨.inr (.inl (vp_updL f j.toNatClampNeg x)), ?_, rfl, ?_⟩
    · unfold m_ast
      rw [hi]
      simp only
      rw [if_pos ⟨m1, trivial, trivial⟩]
    · intro k
      rw [← m4]
      show Value.long (vp_updL f j.toNatClampNeg x k) = _
      unfold vp_updL
      split <;> rfl
  | 3, ho, _ =>
    replace ho : (bif Nat.beq t 3 then (Nat.beq ts 3 && h_nn K (ts, as, cs)) else (Nat.beq t 4 && (Nat.beq ts 4 && h_nn K (ts, as, cs)))) = true := ho
    cases e3 : Nat.beq t 3 with
    | true =>
      rw [e3] at ho
      simp only [cond_true, Bool.and_eq_true] at ho
      obtain ⟨hq1, hq2⟩ := ho
      have := Nat.eq_of_beq_eq_true e3
      subst this
      have := Nat.eq_of_beq_eq_true hq1
      subst this
      obtain ⟨q, hq, hC⟩ := dn_cost hK hd hq2
      subst hq
      obtain ⟨f, rfl⟩ := s4 rfl
      obtain ⟨-, c, c1, c2⟩ := hC
      obtain ⟨fs, rfl, -⟩ := shp_obj c2
      refine ⟨.inr (.inr (.inr (.inr (va_up f j.toNatClampNeg (some q))))), ?_, rfl, ?_⟩
      · unfold m_ast
        rw [hi]
        simp only [c1]
        rw [if_pos ⟨m1, trivial, trivial, trivial⟩]
      · intro k
        rw [← m4]
        show m_opt (va_up f j.toNatClampNeg (some q)) k = _
        unfold m_opt va_up
        split <;> rename_i h5 <;> split at h5 <;> rename_i h6
        · cases h5; rw [if_pos h6]
        · rw [if_neg h6]; show _ = m_opt f k; unfold m_opt; rw [h5]
        · cases h5
        · rw [if_neg h6]; show _ = m_opt f k; unfold m_opt; rw [h5]
    | false =>
      rw [e3] at ho
      simp only [cond_false, Bool.and_eq_true] at ho
      obtain ⟨hq1, hq2, hq3⟩ := ho
      have := Nat.eq_of_beq_eq_true hq1
      subst this
      have := Nat.eq_of_beq_eq_true hq2
      subst this
      obtain ⟨q, nn, hq, hT, -⟩ := dn_text hK hd hq3
      subst hq
      obtain ⟨f, rfl⟩ := s4 rfl
      obtain ⟨g, c1⟩ := WI_txt hT
      refine ⟨.inr (.inr (.inr (.inr (va_up f j.toNatClampNeg (some q))))), ?_, rfl, ?_⟩
      · unfold m_ast
        rw [hi]
        simp only [c1]
        rw [if_pos ⟨m1, trivial, trivial, trivial⟩]
      · intro k
        rw [← m4]
        show m_opt (va_up f j.toNatClampNeg (some q)) k = _
        unfold m_opt va_up
        split <;> rename_i h5 <;> split at h5 <;> rename_i h6
        · cases h5; rw [if_pos h6]
        · rw [if_neg h6]; show _ = m_opt f k; unfold m_opt; rw [h5]
        · cases h5
        · rw [if_neg h6]; show _ = m_opt f k; unfold m_opt; rw [h5]
def h_sp (W : List (Int × Int)) (j : sV) (e : zSp) : Option zSp := bif Nat.beq e.1 7 then (bif Nat.beq j.1 7 then some (0, W.getD (j.2.2 % 7).toNat (0, 0)) else none) else some e
theorem h_sp_ok {W : List (Int × Int)} {j : sV} {J : Int} {e sp : zSp} {v : Value} (hj : vN vs j J) (h0 : 0 ≤ J) (ho : h_sp W j e = some sp) (hv : okV w sp v) : okV w (z_es W e J.toNat) v := by
  unfold h_sp at ho
  unfold z_es
  cases e7 : Nat.beq e.1 7 with
  | false => rw [e7] at ho; cases ho; exact hv
  | true =>
    rw [e7] at ho
    simp only [cond_true] at ho ⊢
    cases ej : Nat.beq j.1 7 with
    | false => rw [ej] at ho; cases ho
    | true =>
      rw [ej] at ho
      cases ho
      obtain ⟨u, hu, hJ⟩ := hj
      rw [ej] at hJ
      simp only [cond_true] at hJ
      rw [show J.toNat % 7 = (j.2.2 % 7).toNat by omega]
      exact hv
def h_as (Z : zDt) (wr : zWr) (o pc : Nat) (D : sD) : Option (List sN) := match D with
  | (K, C, lv, v :: j :: x :: ss, al, wk) => bif Nat.beq x.1 2 then (match Z.1[x.2.1]? with
    | some (1, t, n, [e]) => bif (z_wr wr 98 x.2.1 && (k_nb K j n && h_ot K o t v)) then (match h_sp Z.2.2 j e with
      | some sp => bif k_fit K sp v then (match h_wk x.2.1 j wk with
        | some wk' => some [(pc + 1, (K, ((2, x.2.1, j), v) :: c_ka x.2.1 j C, lv, ss, al, wk'))]
        | none => none) else none
      | none => none) else none
    | _ => none) else none
  | _ => none
theorem h_as_ok {o : Nat} (ho3 : o ≤ 3) (h : gD Z wr w0 vs (K, C, lv, ss, al, wk) l st w) (ho : h_as Z wr o pc (K, C, lv, ss, al, wk) = some out) : ∃ v j i r c, st = v :: .int j :: .ref i :: r ∧ m_ast o i j v w = some c ∧ tOK Z wr w0 vs w out (mNx (pc + 1) l r (w.set i c)) := by
  unfold h_as at ho
  split at ho
  next K' C' lv' s j x ss' al' wk' hD =>
    cases hD
    obtain ⟨v, r0, e0, d0, hr0⟩ := dnL_cons h.2.2.2.1
    obtain ⟨vj, r1, e1, d1, hr1⟩ := dnL_cons hr0
    obtain ⟨vx, r2, e2, d2, hr2⟩ := dnL_cons hr1
    subst e0 e1 e2
    have hK : nK vs K := h.1
    obtain ⟨t0, a0, c0⟩ := x
    cases ex : Nat.beq t0 2 with
    | false => simp only [ex] at ho; cases ho
    | true =>
      have := Nat.eq_of_beq_eq_true ex
      subst this
      have hv : vx = .ref a0 := d2
      subst hv
      simp only [ex, cond_true] at ho
      split at ho
      next t n e hZ =>
        cases eb : (z_wr wr 98 a0 && (k_nb K j n && h_ot K o t s)) with
        | false => simp only [eb] at ho; cases ho
        | true =>
          simp only [eb, cond_true] at ho
          rw [Bool.and_eq_true, Bool.and_eq_true] at eb
          obtain ⟨b1, b2, b3⟩ := eb
          split at ho
          next sp hsp =>
            cases ef : k_fit K sp s with
            | false => rw [ef] at ho; cases ho
            | true =>
              rw [ef] at ho
              simp only [cond_true] at ho
              split at ho
              next wk2 hw =>
                cases ho
                obtain ⟨i, hi, hN, h0, h1⟩ := k_nb_ok hK d1 b2
                subst hi
                obtain ⟨a, f1, f2, f3⟩ := WI_arr h.2.2.2.2.1 hZ
                obtain ⟨b, g1, g2, g3⟩ := m_ast_ok hK d0 b3 ho3 f1 f2 h0 h1
                obtain ⟨c1, c2⟩ := as_core h hZ f1 g2 g3 (h_sp_ok hN h0 hsp (k_fit_ok hK d0 ef)) hN h0 b1 d0 hw hr2
                exact ⟨v, i, a0, r2, _, rfl, g1, _, vs, l, r2, _, List.mem_singleton.mpr rfl, rfl, vL_refl vs, c1, c2⟩
              next => cases ho
          next => cases ho
      next => cases ho
  next => cases ho
/-- a new cost -/
def h_n2 (mid ix : Nat) : Bool := match pgRs mid ix with
  | some (13, ci, _) => Nat.beq ci 2
  | some (14, 3, _) => true
  | _ => false
def h_new (mid ix pc : Nat) (D : sD) : Option (List sN) := bif h_n2 mid ix then some [(pc + 3, (k_new D.1 0 0, D.2.1, D.2.2.1, (3, D.1.1.length, 0) :: D.2.2.2.1, (D.2.2.2.2.1.1 + 1, D.2.2.2.2.1.2 + 13), D.2.2.2.2.2))] else none
theorem h_n2_ok {mid ix pc : Nat} {L : Nat} {xs : Nat → Int32} {l : mL} {st : List Value} {w : mWd} (h : h_n2 mid ix = true) : m_step L xs mid pc l st w (.new ix) = mNx (pc + 3) l (.ref w.length :: st) (w ++ [.inr (2, pgDf 2)]) := by
  unfold h_n2 at h
  split at h
  next ci b hr =>
    have := Nat.eq_of_beq_eq_true h
    subst this
    simp only [m_step, hr]
  next b hr => simp only [m_step, hr]
  next => cases h
theorem wkR_app {c : mE} (hW : WI Z w) (h : wkR vs wk w) : wkR vs wk (w ++ [c]) := by
  obtain ⟨K0, a1, a2⟩ := h
  refine ⟨K0, a1, ?_⟩
  intro f g n m t u hf hg
  have hl := hW.len
  rw [List.getElem?_append_left (show z_KC < w.length by unfold z_KC; omega)] at hf
  rw [List.getElem?_append_left (show z_WC < w.length by unfold z_WC; omega)] at hg
  exact a2 f g n m t u hf hg
theorem gW_app {c : mE} {sz : Nat} (h : gW Z wr w0 vs al wk w) (hd : w_okD Z.2.1 w c) (hs : m_sz c ≤ sz) : gW Z wr w0 vs (al.1 + 1, al.2 + sz) wk (w ++ [c]) := by
  obtain ⟨h1, h2, h3, h4, h5⟩ := h
  refine ⟨WI_app h1 hd, fR_trans h2 (fR_app wr w c), ?_, ?_, wkR_app h1 h5⟩
  · rw [List.length_append, List.length_singleton]
    show w.length + 1 ≤ w0.length + (al.1 + 1)
    omega
  · rw [m_sl_app]
    show m_sl w + m_sz c ≤ m_sl w0 + (al.2 + sz)
    omega
theorem h_new_ok {ix : Nat} (hN : ∀ w, w_okD Z.2.1 w (.inr (2, pgDf 2))) (h : gD Z wr w0 vs (K, C, lv, ss, al, wk) l st w) (ho : h_new mid ix pc (K, C, lv, ss, al, wk) = some out) : tOK Z wr w0 vs w out (m_step L xs mid pc l st w (.new ix)) := by
  unfold h_new at ho
  cases e : h_n2 mid ix with
  | false => rw [e] at ho; cases ho
  | true =>
    rw [e] at ho
    cases ho
    rw [h_n2_ok e]
    have hlen : (pgDf 2).length = 13 := by
      rcases hN w with ⟨fs, e1, e2, -⟩ | ⟨n, f, e1, -⟩
      · cases e1; exact e2
      · cases e1
    have hw := w_le_app w (.inr (2, pgDf 2))
    have hv := vL_app vs [0]
    refine ⟨_, vs ++ [0], l, _, _, List.mem_singleton.mpr rfl, rfl, hv, hw, nK_new h.1 (by decide) (by decide), cRL_app (cRL_up hv h.2.1), lvR_up hv hw h.2.2.1, ⟨?_, dnL_up hv hw h.2.2.2.1⟩, ?_⟩
    · refine ⟨0, vL_new h.1 0, .inr ⟨rfl, w.length, rfl, h.2.2.2.2.1.len, .inr (2, pgDf 2), by simp, ?_⟩⟩
      show (5, 2, (pgDf 2).length) = (5, 2, 13)
      rw [hlen]
    · exact gW_up hv (gW_app h.2.2.2.2 (hN w) (by show (pgDf 2).length ≤ 13; omega))
/-- Object's constructor -/
def h_oi (mid ix pc : Nat) (D : sD) : Option (List sN) := match pgRs mid ix, D with
  | some (10, _, _), (K, C, lv, x :: ss, r) => bif ((Nat.beq x.1 2 || (Nat.beq x.1 3 && h_nn K x)) && Nat.ble (s_cats ss) 8) then some [(pc + 3, (K, C, lv, ss, r))] else none
  | _, _ => none
theorem h_oi_ok {ix : Nat} (h : gD Z wr w0 vs (K, C, lv, ss, al, wk) l st w) (ho : h_oi mid ix pc (K, C, lv, ss, al, wk) = some out) : tOK Z wr w0 vs w out (m_step L xs mid pc l st w (.invokespecial ix)) := by
  unfold h_oi at ho
  simp only [m_step]
  split at ho
  next K' C' lv' x ss' r hr hD =>
    cases hD
    obtain ⟨v, r0, e0, d0, hr0⟩ := dnL_cons h.2.2.2.1
    subst e0
    cases e : ((Nat.beq x.1 2 || (Nat.beq x.1 3 && h_nn K x)) && Nat.ble (s_cats ss') 8) with
    | false => rw [e] at ho; cases ho
    | true =>
      rw [e] at ho
      cases ho
      rw [Bool.and_eq_true, Bool.or_eq_true, Bool.and_eq_true] at e
      obtain ⟨e1, e2⟩ := e
      have hc : m_cat r0 ≤ 8 := by rw [dnL_cats hr0]; exact Nat.le_of_ble_eq_true e2
      obtain ⟨t, a, c⟩ := x
      have hv : ∃ i, v = .ref i := by
        rcases e1 with e1 | ⟨e1, e3⟩
        · have := Nat.eq_of_beq_eq_true e1
          simp only at this
          subst this
          exact ⟨a, d0⟩
        · have := Nat.eq_of_beq_eq_true e1
          simp only at this
          subst this
          obtain ⟨i, hi, -⟩ := dn_cost h.1 d0 e3
          exact ⟨i, hi⟩
      obtain ⟨i, rfl⟩ := hv
      rw [hr]
      simp only
      rw [if_pos hc]
      exact tOK_nx (sOK_one (vL_refl vs) (gD_pop h))
  next => cases ho
def h_o2 (a b : Option sK) (f g : sK → Option sN) : Option (List sN) := match a, b with
  | some K1, some K2 => (match f K1, g K2 with
    | some x, some y => some [x, y]
    | _, _ => none)
  | some K1, none => (match f K1 with
    | some x => some [x]
    | none => none)
  | none, some K2 => (match g K2 with
    | some y => some [y]
    | none => none)
  | none, none => some []
theorem h_o2_l {a b : Option sK} {f g : sK → Option sN} {K1 : sK} (e : a = some K1) (ho : h_o2 a b f g = some out) : ∃ x, f K1 = some x ∧ x ∈ out := by
  subst e
  unfold h_o2 at ho
  cases b with
  | none =>
    simp only at ho
    split at ho
    next x hx => cases ho; exact ⟨x, hx, List.mem_singleton.mpr rfl⟩
    next => cases ho
  | some K2 =>
    simp only at ho
    split at ho
    next x y hx hy => cases ho; exact ⟨x, hx, List.mem_cons_self⟩
    next => cases ho
theorem h_o2_r {a b : Option sK} {f g : sK → Option sN} {K2 : sK} (e : b = some K2) (ho : h_o2 a b f g = some out) : ∃ x, g K2 = some x ∧ x ∈ out := by
  subst e
  unfold h_o2 at ho
  cases a with
  | none =>
    simp only at ho
    split at ho
    next x hx => cases ho; exact ⟨x, hx, List.mem_singleton.mpr rfl⟩
    next => cases ho
  | some K1 =>
    simp only at ho
    split at ho
    next x y hx hy => cases ho; exact ⟨y, hy, List.mem_cons_of_mem _ List.mem_cons_self⟩
    next => cases ho
def h_math (y pc : Nat) (D : sD) : Option (List sN) := match y, D with
  | 261, (K, C, lv, b :: a :: ss, r) => bif (Nat.beq a.1 0 && (Nat.beq b.1 0 && Nat.ble (s_cats ss) 8)) then h_o2 (k_asm K .lt a b) (k_asm K .ge a b) (fun K1 => some (pc, (K1, C, lv, b :: ss, r))) (fun K2 => some (pc, (K2, C, lv, a :: ss, r))) else none
  | 262, (K, C, lv, b :: a :: ss, r) => bif (Nat.beq a.1 0 && (Nat.beq b.1 0 && Nat.ble (s_cats ss) 8)) then h_o2 (k_asm K .gt a b) (k_asm K .le a b) (fun K1 => some (pc, (K1, C, lv, b :: ss, r))) (fun K2 => some (pc, (K2, C, lv, a :: ss, r))) else none
  | 263, (K, C, lv, b :: a :: ss, r) => bif (Nat.beq a.1 1 && (Nat.beq b.1 1 && Nat.ble (s_cats ss) 8)) then h_o2 (k_asm K .gt a b) (k_asm K .le a b) (fun K1 => some (pc, (K1, C, lv, b :: ss, r))) (fun K2 => some (pc, (K2, C, lv, a :: ss, r))) else none
  | 260, (K, C, lv, a :: ss, r) => bif (Nat.beq a.1 0 && Nat.ble (s_cats ss) 8) then h_o2 (k_asm K .ge a (0, 0, 0)) (k_asm K .lt a (0, 0, 0)) (fun K1 => some (pc, (K1, C, lv, a :: ss, r))) (fun K2 => match k_bin 1 0 K2 (0, 0, 0) a with
    | some q => some (pc, (q.1, C, lv, q.2 :: ss, r))
    | none => none) else none
  | _, _ => none
theorem h_math_ok {y pc' : Nat} (h : gD Z wr w0 vs (K, C, lv, ss, al, wk) l st w) (ho : h_math y pc' (K, C, lv, ss, al, wk) = some out) : ∃ st', m_math y st = some st' ∧ sOK Z wr w0 vs w out (some (pc', l, st')) := by
  have hK : nK vs K := h.1
  unfold h_math at ho
  split at ho
  next K' C' lv' b a ss' r hD =>
    cases hD
    obtain ⟨vb, r1, e1, d1, hr1⟩ := dnL_cons h.2.2.2.1
    obtain ⟨va, r2, e2, d2, hr2⟩ := dnL_cons hr1
    subst e1 e2
    cases e : (Nat.beq a.1 0 && (Nat.beq b.1 0 && Nat.ble (s_cats ss') 8)) with
    | false => rw [e] at ho; cases ho
    | true =>
      rw [e] at ho
      simp only [cond_true] at ho
      rw [Bool.and_eq_true, Bool.and_eq_true] at e
      obtain ⟨q1, q2, q3⟩ := e
      have hc : m_cat r2 ≤ 8 := by rw [dnL_cats hr2]; exact Nat.le_of_ble_eq_true q3
      obtain ⟨ta, aa, ca⟩ := a
      obtain ⟨tb, ab, cb⟩ := b
      have t1 := Nat.eq_of_beq_eq_true q1
      have t2 := Nat.eq_of_beq_eq_true q2
      simp only at t1 t2
      subst t1 t2
      obtain ⟨x, hx, hX⟩ := id d2
      obtain ⟨z, hz, hY⟩ := id d1
      subst hx hz
      refine ⟨_, by simp only [m_math]; rw [if_pos hc], ?_⟩
      by_cases hlt : x < z
      · rw [if_pos hlt]
        obtain ⟨K1, k1, n1⟩ := k_asm_ok (cd := .lt) hK rfl rfl hX hY (Int32.lt_iff_toInt_lt.mp hlt)
        obtain ⟨s, s1, s2⟩ := h_o2_l k1 ho
        cases s1
        exact ⟨_, vs, l, _, s2, rfl, vL_refl vs, gD_new h (vL_refl vs) n1 h.2.2.1 ⟨d1, hr2⟩⟩
      · rw [if_neg hlt]
        obtain ⟨K1, k1, n1⟩ := k_asm_ok (cd := .ge) hK rfl rfl hX hY (by show z.toInt ≤ x.toInt; have : ¬ x.toInt < z.toInt := fun h' => hlt (Int32.lt_iff_toInt_lt.mpr h'); omega)
        obtain ⟨s, s1, s2⟩ := h_o2_r k1 ho
        cases s1
        exact ⟨_, vs, l, _, s2, rfl, vL_refl vs, gD_new h (vL_refl vs) n1 h.2.2.1 ⟨d2, hr2⟩⟩
  next K' C' lv' b a ss' r hD =>
    cases hD
    obtain ⟨vb, r1, e1, d1, hr1⟩ := dnL_cons h.2.2.2.1
    obtain ⟨va, r2, e2, d2, hr2⟩ := dnL_cons hr1
    subst e1 e2
    cases e : (Nat.beq a.1 0 && (Nat.beq b.1 0 && Nat.ble (s_cats ss') 8)) with
    | false => rw [e] at ho; cases ho
    | true =>
      rw [e] at ho
      simp only [cond_true] at ho
      rw [Bool.and_eq_true, Bool.and_eq_true] at e
      obtain ⟨q1, q2, q3⟩ := e
      have hc : m_cat r2 ≤ 8 := by rw [dnL_cats hr2]; exact Nat.le_of_ble_eq_true q3
      obtain ⟨ta, aa, ca⟩ := a
      obtain ⟨tb, ab, cb⟩ := b
      have t1 := Nat.eq_of_beq_eq_true q1
      have t2 := Nat.eq_of_beq_eq_true q2
      simp only at t1 t2
      subst t1 t2
      obtain ⟨x, hx, hX⟩ := id d2
      obtain ⟨z, hz, hY⟩ := id d1
      subst hx hz
      refine ⟨_, by simp only [m_math]; rw [if_pos hc], ?_⟩
      by_cases hlt : z < x
      · rw [if_pos hlt]
        obtain ⟨K1, k1, n1⟩ := k_asm_ok (cd := .gt) hK rfl rfl hX hY (Int32.lt_iff_toInt_lt.mp hlt)
        obtain ⟨s, s1, s2⟩ := h_o2_l k1 ho
        cases s1
        exact ⟨_, vs, l, _, s2, rfl, vL_refl vs, gD_new h (vL_refl vs) n1 h.2.2.1 ⟨d1, hr2⟩⟩
      · rw [if_neg hlt]
        obtain ⟨K1, k1, n1⟩ := k_asm_ok (cd := .le) hK rfl rfl hX hY (by show x.toInt ≤ z.toInt; have : ¬ z.toInt < x.toInt := fun h' => hlt (Int32.lt_iff_toInt_lt.mpr h'); omega)
        obtain ⟨s, s1, s2⟩ := h_o2_r k1 ho
        cases s1
        exact ⟨_, vs, l, _, s2, rfl, vL_refl vs, gD_new h (vL_refl vs) n1 h.2.2.1 ⟨d2, hr2⟩⟩
  next K' C' lv' b a ss' r hD =>
    cases hD
    obtain ⟨vb, r1, e1, d1, hr1⟩ := dnL_cons h.2.2.2.1
    obtain ⟨va, r2, e2, d2, hr2⟩ := dnL_cons hr1
    subst e1 e2
    cases e : (Nat.beq a.1 1 && (Nat.beq b.1 1 && Nat.ble (s_cats ss') 8)) with
    | false => rw [e] at ho; cases ho
    | true =>
      rw [e] at ho
      simp only [cond_true] at ho
      rw [Bool.and_eq_true, Bool.and_eq_true] at e
      obtain ⟨q1, q2, q3⟩ := e
      have hc : m_cat r2 ≤ 8 := by rw [dnL_cats hr2]; exact Nat.le_of_ble_eq_true q3
      obtain ⟨ta, aa, ca⟩ := a
      obtain ⟨tb, ab, cb⟩ := b
      have t1 := Nat.eq_of_beq_eq_true q1
      have t2 := Nat.eq_of_beq_eq_true q2
      simp only at t1 t2
      subst t1 t2
      obtain ⟨x, hx, hX⟩ := id d2
      obtain ⟨z, hz, hY⟩ := id d1
      subst hx hz
      refine ⟨_, by simp only [m_math]; rw [if_pos hc], ?_⟩
      by_cases hlt : z < x
      · rw [if_pos hlt]
        obtain ⟨K1, k1, n1⟩ := k_asm_ok (cd := .gt) hK rfl rfl hX hY (Int64.lt_iff_toInt_lt.mp hlt)
        obtain ⟨s, s1, s2⟩ := h_o2_l k1 ho
        cases s1
        exact ⟨_, vs, l, _, s2, rfl, vL_refl vs, gD_new h (vL_refl vs) n1 h.2.2.1 ⟨d1, hr2⟩⟩
      · rw [if_neg hlt]
        obtain ⟨K1, k1, n1⟩ := k_asm_ok (cd := .le) hK rfl rfl hX hY (by show x.toInt ≤ z.toInt; have : ¬ z.toInt < x.toInt := fun h' => hlt (Int64.lt_iff_toInt_lt.mpr h'); omega)
        obtain ⟨s, s1, s2⟩ := h_o2_r k1 ho
        cases s1
        exact ⟨_, vs, l, _, s2, rfl, vL_refl vs, gD_new h (vL_refl vs) n1 h.2.2.1 ⟨d2, hr2⟩⟩
  next K' C' lv' a ss' r hD =>
    cases hD
    obtain ⟨va, r2, e2, d2, hr2⟩ := dnL_cons h.2.2.2.1
    subst e2
    cases e : (Nat.beq a.1 0 && Nat.ble (s_cats ss') 8) with
    | false => rw [e] at ho; cases ho
    | true =>
      rw [e] at ho
      simp only [cond_true] at ho
      rw [Bool.and_eq_true] at e
      obtain ⟨q1, q3⟩ := e
      have hc : m_cat r2 ≤ 8 := by rw [dnL_cats hr2]; exact Nat.le_of_ble_eq_true q3
      obtain ⟨ta, aa, ca⟩ := a
      have t1 := Nat.eq_of_beq_eq_true q1
      simp only at t1
      subst t1
      obtain ⟨x, hx, hX⟩ := id d2
      subst hx
      have h0 : (0 : Int32).toInt = 0 := by decide
      refine ⟨_, by simp only [m_math]; rw [if_pos hc], ?_⟩
      by_cases hlt : 0 ≤ x
      · rw [if_pos hlt]
        obtain ⟨K1, k1, n1⟩ := k_asm_ok (cd := .ge) hK rfl rfl hX (vN_cst hK (t := 0) rfl 0) (by show (0 : Int) ≤ x.toInt; have := Int32.le_iff_toInt_le.mp hlt; omega)
        obtain ⟨s, s1, s2⟩ := h_o2_l k1 ho
        cases s1
        exact ⟨_, vs, l, _, s2, rfl, vL_refl vs, gD_new h (vL_refl vs) n1 h.2.2.1 ⟨d2, hr2⟩⟩
      · rw [if_neg hlt]
        obtain ⟨K1, k1, n1⟩ := k_asm_ok (cd := .lt) hK rfl rfl hX (vN_cst hK (t := 0) rfl 0) (by show x.toInt < (0 : Int); have : ¬ (0 : Int32).toInt ≤ x.toInt := fun h' => hlt (Int32.le_iff_toInt_le.mpr h'); omega)
        obtain ⟨s, s1, s2⟩ := h_o2_r k1 ho
        split at s1
        next q hq =>
          cases s1
          obtain ⟨z, hz1, hz2⟩ := m_i2_op (ins := .isub) (o := 1) rfl 0 x (by simp)
          obtain ⟨vs', v1, v2, v3, v4⟩ := k_bin_ok (.inl rfl) n1 (X := (0 : Int32).toInt) (by rw [h0]; exact vN_cst hK (t := 0) rfl 0) hX hq hz2
          have : z = 0 - x := by simp only [m_i2, Option.some.injEq] at hz1; exact hz1.symm
          subst this
          exact ⟨_, vs', l, _, s2, rfl, v1, gD_new h v1 v2 (gD_lv h v1) ⟨dn_of_int v4 v3, dnL_up v1 (w_le_refl w) hr2⟩⟩
        next => cases s1
  next => cases ho
/-- every step but calls and ends -/
def s_step (Z : zDt) (wr : zWr) (mid : Nat) (ins : Instr) (pc : Nat) (D : sD) : Option (List sN) := match ins with
  | .getfield ix => h_gf Z mid ix pc D
  | .putfield ix => h_pf Z wr mid ix pc D
  | .getstatic ix => h_ld (.getstatic ix) mid pc D
  | .ldc ix => h_ld (.ldc ix) mid pc D
  | .ldc_w ix => h_ld (.ldc_w ix) mid pc D
  | .ldc2_w ix => h_ld (.ldc2_w ix) mid pc D
  | .arraylength => h_len Z pc D
  | .iaload => h_al Z 0 pc D
  | .baload => h_al Z 1 pc D
  | .laload => h_al Z 2 pc D
  | .aaload => h_al Z 3 pc D
  | .iastore => h_as Z wr 0 pc D
  | .bastore => h_as Z wr 1 pc D
  | .lastore => h_as Z wr 2 pc D
  | .aastore => h_as Z wr 3 pc D
  | .new ix => h_new mid ix pc D
  | .invokespecial ix => h_oi mid ix pc D
  | .invokestatic ix => (match pgRs mid ix with
    | some (4, y, _) => bif m_pl y then none else h_math y (pc + 3) D
    | _ => none)
  | _ => s_pure (pgL mid) ins pc D
theorem m_step_pure {nL : Nat} {ins : Instr} {q : List sN} {D : sD} (h : s_pure nL ins pc D = some q) : m_step L xs mid pc l st w ins = m_lift w (m_pure (pgL mid) ins pc l st) := by
  cases ins <;> first | rfl | (simp [s_pure] at h; done)
theorem s_step_ok {ins : Instr} (hN : ∀ w, w_okD Z.2.1 w (.inr (2, pgDf 2))) (h : gD Z wr w0 vs (K, C, lv, ss, al, wk) l st w) (ho : s_step Z wr mid ins pc (K, C, lv, ss, al, wk) = some out) : tOK Z wr w0 vs w out (m_step L xs mid pc l st w ins) := by
  have hload : ∀ {o : Nat} {q : Option mOut}, o ≤ 3 → h_al Z o pc (K, C, lv, ss, al, wk) = some out → (∀ j i r v, st = .int j :: .ref i :: r → m_ald o i j w = some v → q = mNx (pc + 1) l (v :: r) w) → (∀ j k r v, st = .int j :: .retAddr k :: r → m_xld L xs o k j = some v → o ≤ 1 → q = mNx (pc + 1) l (v :: r) w) → tOK Z wr w0 vs w out q := by
    intro o q h3 hh c1 c2
    obtain ⟨j, x, r, e, ⟨i, v, e1, e2, e3⟩ | ⟨k, v, e1, e2, e3, e4⟩⟩ := h_al_ok (L := L) (xs := xs) h3 h hh
    · subst e1
      rw [c1 j i r v e e2]; exact e3
    · subst e1
      rw [c2 j k r v e e2 e3]; exact e4
  have hstore : ∀ {o : Nat} {q : Option mOut}, o ≤ 3 → h_as Z wr o pc (K, C, lv, ss, al, wk) = some out → (∀ v j i r c, st = v :: .int j :: .ref i :: r → m_ast o i j v w = some c → q = mNx (pc + 1) l r (w.set i c)) → tOK Z wr w0 vs w out q := by
    intro o q h3 hh c1
    obtain ⟨v, j, i, r, c, e, e2, e3⟩ := h_as_ok h3 h hh
    rw [c1 v j i r c e e2]; exact e3
  unfold s_step at ho
  split at ho
  · exact h_gf_ok h ho
  · exact h_pf_ok h ho
  · exact h_ld_ok h ho
  · exact h_ld_ok h ho
  · exact h_ld_ok h ho
  · exact h_ld_ok h ho
  · exact h_len_ok h ho
  · refine hload (by decide) ho ?_ ?_
    · intro j i r v e e2; subst e; simp only [m_step, e2]
    · intro j k r v e e2 _; subst e; simp only [m_step, e2]
  · refine hload (by decide) ho ?_ ?_
    · intro j i r v e e2; subst e; simp only [m_step, e2]
    · intro j k r v e e2 _; subst e; simp only [m_step, e2]
  · refine hload (by decide) ho ?_ ?_
    · intro j i r v e e2; subst e; simp only [m_step, e2]
    · intro j k r v e e2 e3; omega
  · refine hload (by decide) ho ?_ ?_
    · intro j i r v e e2; subst e; simp only [m_step, e2]
    · intro j k r v e e2 e3; omega
  · exact hstore (by decide) ho (fun v j i r c e e2 => by subst e; simp only [m_step, e2])
  · exact hstore (by decide) ho (fun v j i r c e e2 => by subst e; simp only [m_step, e2])
  · exact hstore (by decide) ho (fun v j i r c e e2 => by subst e; simp only [m_step, e2])
  · exact hstore (by decide) ho (fun v j i r c e e2 => by subst e; simp only [m_step, e2])
  · exact h_new_ok hN h ho
  · exact h_oi_ok h ho
  · next ix =>
    split at ho
    next y _ hr =>
      cases e : m_pl y with
      | true => rw [e] at ho; cases ho
      | false =>
        rw [e] at ho
        obtain ⟨st', e1, e2⟩ := h_math_ok h ho
        simp only [m_step, hr, e, e1, Bool.false_eq_true, if_false]
        exact tOK_nx e2
    next => cases ho
  · rw [m_step_pure ho]
    exact tOK_of (s_pure_ok h ho)
end ARR3
