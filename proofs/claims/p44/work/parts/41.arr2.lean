/-! A STEP OF THE CHECKER: loads and stores of arrays, lengths -/
section ARR2
variable {Z : zDt} {wr : zWr} {w0 w : mWd} {vs : List Int} {K : sK} {C : sC} {lv : sL} {ss : List sV} {al : Nat × Nat} {wk : Option sV} {l : mL} {st : List Value} {out : List sN} {L mid pc : Nat} {xs : Nat → Int32}
theorem vN_fun {s : sV} {X Y : Int} (h1 : vN vs s X) (h2 : vN vs s Y) : X = Y := by
  obtain ⟨u, hu, rfl⟩ := h1
  obtain ⟨v, hv, rfl⟩ := h2
  rw [hu] at hv
  cases hv
  rfl
def s_non (wk : Option sV) : Bool := match wk with
  | none => true
  | some _ => false
/-- what is known of the equal arrays' elements then -/
def c_par (i : Nat) (j v : sV) : sC → sC
  | [] => []
  | e :: C => bif (Nat.beq e.1.1 5 && Nat.beq e.1.2.1 i) then ((2, e.1.2.2.2.1, j), v) :: c_par i j v C else (bif (Nat.beq e.1.1 5 && Nat.beq e.1.2.2.2.1 i) then ((2, e.1.2.1, j), v) :: c_par i j v C else c_par i j v C)
theorem par_ok {i t n : Nat} {a : zCt} {j v : sV} {J : Int} (hi : w[i]? = some (.inl (t, n, a))) (hj : vN vs j J) (h0 : 0 ≤ J) (h1 : J < n) (hd : dn vs w v (m_el a J.toNat)) : ∀ {C : sC}, cRL vs w C → cRL vs w (c_par i j v C)
  | [], _ => fun e he => by cases he
  | e :: C, h => by
    have ih := par_ok hi hj h0 h1 hd (fun x hx => h x (List.mem_cons_of_mem _ hx))
    have he := h e List.mem_cons_self
    unfold c_par
    cases e1 : (Nat.beq e.1.1 5 && Nat.beq e.1.2.1 i) with
    | true =>
      rw [Bool.and_eq_true] at e1
      intro x hx
      rcases List.mem_cons.mp hx with rfl | hx
      · unfold cR at he
        rw [Nat.eq_of_beq_eq_true e1.1] at he
        obtain ⟨t1, n1, a1, t2, b1, p1, p2, p3⟩ := he
        rw [Nat.eq_of_beq_eq_true e1.2, hi] at p1
        cases p1
        refine ⟨t2, n, b1, J, p2, hj, h0, ?_⟩
        rw [← p3 J.toNat (by omega)]
        exact hd
      · exact ih x hx
    | false =>
      simp only [cond_false]
      cases e2 : (Nat.beq e.1.1 5 && Nat.beq e.1.2.2.2.1 i) with
      | true =>
        rw [Bool.and_eq_true] at e2
        intro x hx
        rcases List.mem_cons.mp hx with rfl | hx
        · unfold cR at he
          rw [Nat.eq_of_beq_eq_true e2.1] at he
          obtain ⟨t1, n1, a1, t2, b1, p1, p2, p3⟩ := he
          rw [Nat.eq_of_beq_eq_true e2.2, hi] at p2
          cases p2
          refine ⟨t1, n, a1, J, p1, hj, h0, ?_⟩
          rw [p3 J.toNat (by omega)]
          exact hd
        · exact ih x hx
      | false => exact ih
def h_rda (pc i : Nat) (j : sV) (sp : zSp) (ss : List sV) (D : sD) : List sN := match c_get D.2.1 (2, i, j) with
  | some v => h_put pc (D.1, v) none ss D
  | none => [(pc, ((k_ld D.1 sp).1, ((2, i, j), (k_ld D.1 sp).2) :: (c_par i j (k_ld D.1 sp).2 D.2.1 ++ D.2.1), D.2.2.1, (k_ld D.1 sp).2 :: ss, D.2.2.2.2))]
theorem h_rda_ok {pc' i t n : Nat} {a : zCt} {j : sV} {J : Int} {sp : zSp} {st' : List Value} (h : gD Z wr w0 vs (K, C, lv, ss, al, wk) l st w) (hi : w[i]? = some (.inl (t, n, a))) (hj : vN vs j J) (h0 : 0 ≤ J) (h1 : J < n) (hv : okV w sp (m_el a J.toNat)) {ss' : List sV} (hs : dnL vs w ss' st') : sOK Z wr w0 vs w (h_rda pc' i j sp ss' (K, C, lv, ss, al, wk)) (some (pc', l, m_el a J.toNat :: st')) := by
  unfold h_rda
  split
  next s hs' =>
    refine h_put_ok h (vL_refl vs) h.1 ?_ (fun x hx => by cases hx) hs
    obtain ⟨t', n', b, J', c1, c2, c3, c4⟩ := c_get_ok h.2.1 hs'
    have c1' : w[i]? = some (.inl (t', n', b)) := c1
    rw [hi] at c1'
    cases c1'
    have := vN_fun hj c2
    subst this
    exact c4
  next =>
    obtain ⟨vs', v1, v2, v3⟩ := k_ld_ok h.1 hv
    refine sOK_one v1 ⟨v2, ?_, gD_lv h v1, ⟨v3, dnL_up v1 (w_le_refl w) hs⟩, gW_up v1 h.2.2.2.2⟩
    have hC := cRL_up v1 h.2.1
    intro y hy
    rcases List.mem_cons.mp hy with rfl | hy
    · exact ⟨t, n, a, J, hi, vN_up v1 hj, h0, v3⟩
    · rcases List.mem_append.mp hy with hy | hy
      · exact par_ok hi (vN_up v1 hj) h0 h1 v3 hC y hy
      · exact hC y hy
def h_al (Z : zDt) (o pc : Nat) (D : sD) : Option (List sN) := match D with
  | (K, C, lv, j :: x :: ss, al, wk) => (match x.1 with
    | 2 => (match Z.1[x.2.1]? with
      | some (1, t, n, [e]) => bif (h_o o t && (k_nb K j n && (!(Nat.beq e.1 7) || (Nat.beq x.2.1 z_WC && (Nat.beq t 0 && Nat.ble n 1050))))) then (match h_es Z.2.2 (s_non wk) K C j e with
        | some sp => some (h_rda (pc + 1) x.2.1 j sp ss (K, C, lv, j :: x :: ss, al, wk))
        | none => none) else none
      | _ => none)
    | 5 => bif (Nat.blt 0 (h_xt x.2.1).length && (Nat.beq o (h_xo x.2.1) && k_nb K j (h_xt x.2.1).length)) then some (h_put (pc + 1) (k_mk 0 K (z_lo (((h_xt x.2.1).drop (k_iv K j).1.toNat).take ((k_iv K j).2.toNat + 1 - (k_iv K j).1.toNat))) (z_hi (((h_xt x.2.1).drop (k_iv K j).1.toNat).take ((k_iv K j).2.toNat + 1 - (k_iv K j).1.toNat)))) none ss (K, C, lv, j :: x :: ss, al, wk)) else none
    | 4 => bif (Nat.beq o 0 && (h_nn K x && (Nat.beq j.1 0 && (z_le 0 (k_iv K j).1 && z_le (k_df K j (0, x.2.2.toNat, 0)) (-1))))) then some (h_put (pc + 1) (k_all 0 K) none ss (K, C, lv, j :: x :: ss, al, wk)) else none
    | _ => none)
  | _ => none
theorem h_al_ok {o : Nat} (ho3 : o ≤ 3) (h : gD Z wr w0 vs (K, C, lv, ss, al, wk) l st w) (ho : h_al Z o pc (K, C, lv, ss, al, wk) = some out) : ∃ j x r, st = .int j :: x :: r ∧ ((∃ i v, x = .ref i ∧ m_ald o i j w = some v ∧ tOK Z wr w0 vs w out (mNx (pc + 1) l (v :: r) w)) ∨ (∃ k v, x = .retAddr k ∧ m_xld L xs o k j = some v ∧ o ≤ 1 ∧ tOK Z wr w0 vs w out (mNx (pc + 1) l (v :: r) w))) := by
  unfold h_al at ho
  split at ho
  next K' C' lv' j x ss' al' wk' hD =>
    cases hD
    obtain ⟨vj, r1, e1, d1, hr1⟩ := dnL_cons h.2.2.2.1
    obtain ⟨vx, r2, e2, d2, hr2⟩ := dnL_cons hr1
    subst e1 e2
    have hK : nK vs K := h.1
    obtain ⟨t0, a0, c0⟩ := x
    split at ho
    next e =>
      simp only at e
      subst e
      have hv : vx = .ref a0 := d2
      subst hv
      split at ho
      next t n e hZ =>
        cases eb : (h_o o t && (k_nb K j n && (!(Nat.beq e.1 7) || (Nat.beq a0 z_WC && (Nat.beq t 0 && Nat.ble n 1050))))) with
        | false => simp only [eb] at ho; cases ho
        | true =>
          simp only [eb, cond_true] at ho
          rw [Bool.and_eq_true, Bool.and_eq_true] at eb
          obtain ⟨b1, b2, b3⟩ := eb
          split at ho
          next sp hsp =>
            cases ho
            obtain ⟨i, hi, hN, h0, h1⟩ := k_nb_ok hK d1 b2
            subst hi
            obtain ⟨a, f1, f2, f3⟩ := WI_arr h.2.2.2.2.1 hZ
            have hm := m_ald_ok b1 ho3 f1 f2 h0 h1
            have hv := h_es_ok (b0 := s_non wk) h.2.1 hK (fun hb => by
              cases wk with
              | none => exact h.2.2.2.2.2.2.2.2
              | some _ => cases hb) f1 f2 hN h0 (fun e7 => by
                rw [e7] at b3
                simp only [Bool.not_true, Bool.false_or, Bool.and_eq_true] at b3
                exact ⟨Nat.eq_of_beq_eq_true b3.1, Nat.eq_of_beq_eq_true b3.2.1, by have := Nat.le_of_ble_eq_true b3.2.2; omega⟩) (f3 i.toInt.toNat (by omega)) hsp
            exact ⟨i, _, r2, rfl, .inl ⟨a0, _, rfl, hm, tOK_nx (h_rda_ok h f1 hN h0 h1 hv hr2)⟩⟩
          next => cases ho
      next => cases ho
    next e =>
      simp only at e
      subst e
      have hv : vx = .retAddr a0 := d2
      subst hv
      cases eb : (Nat.blt 0 (h_xt a0).length && (Nat.beq o (h_xo a0) && k_nb K j (h_xt a0).length)) with
      | false => simp only [eb] at ho; cases ho
      | true =>
        simp only [eb, cond_true, Option.some.injEq] at ho
        subst ho
        rw [Bool.and_eq_true, Bool.and_eq_true] at eb
        obtain ⟨b1, b2, b3⟩ := eb
        obtain ⟨i, hi, hN, h0, h1⟩ := k_nb_ok hK d1 b3
        subst hi
        have bj : (k_iv K j).1 ≤ i.toInt ∧ i.toInt ≤ (k_iv K j).2 := k_iv_ok hK hN
        obtain ⟨t, f, p1, p2, p3⟩ := h_xt_ok (L := L) (xs := xs) (k := a0) rfl (Nat.le_of_ble_eq_true b1)
        obtain ⟨m1, m2, m3, m4⟩ := m_nb_ok h0 h1
        have hz := p3 i.toNatClampNeg m3
        have hmem : (f i.toNatClampNeg).toInt ∈ ((h_xt a0).drop (k_iv K j).1.toNat).take ((k_iv K j).2.toNat + 1 - (k_iv K j).1.toNat) := by
          have e : (((h_xt a0).drop (k_iv K j).1.toNat).take ((k_iv K j).2.toNat + 1 - (k_iv K j).1.toNat))[i.toNatClampNeg - (k_iv K j).1.toNat]? = some (f i.toNatClampNeg).toInt := by
            rw [List.getElem?_take_of_lt (by omega), List.getElem?_drop, show (k_iv K j).1.toNat + (i.toNatClampNeg - (k_iv K j).1.toNat) = i.toNatClampNeg by omega]
            exact hz
          exact List.mem_of_getElem? e
        have hb := z_lohi hmem
        have eo := Nat.eq_of_beq_eq_true b2
        have hot : (o = 0 ∧ t = 0) ∨ (o = 1 ∧ t = 5) := by
          rcases p2 with ⟨q1, q2⟩ | ⟨q1, q2⟩
          · exact .inl ⟨by omega, q2⟩
          · exact .inr ⟨by omega, q2⟩
        have hm : m_xld L xs o a0 i = some (.int (f i.toNatClampNeg)) := by
          unfold m_xld
          rw [p1]
          simp only
          rw [if_pos ⟨m1, hot⟩]
        obtain ⟨vs', v1, v2, v3, v4⟩ := k_mk_ok (Z := (f i.toNatClampNeg).toInt) (t := 0) (.inl rfl) hK hb.1 hb.2
        exact ⟨i, _, r2, rfl, .inr ⟨a0, _, rfl, hm, by omega, tOK_nx (h_put_ok h v1 v2 (dn_of_int v4 v3) (fun x hx => by cases hx) hr2)⟩⟩
    next e =>
      simp only at e
      subst e
      cases eb : (Nat.beq o 0 && (h_nn K (4, a0, c0) && (Nat.beq j.1 0 && (z_le 0 (k_iv K j).1 && z_le (k_df K j (0, c0.toNat, 0)) (-1))))) with
      | false => simp only [eb] at ho; cases ho
      | true =>
        simp only [eb, cond_true, Option.some.injEq] at ho
        subst ho
        rw [Bool.and_eq_true, Bool.and_eq_true, Bool.and_eq_true, Bool.and_eq_true, z_le_iff, z_le_iff] at eb
        obtain ⟨b1, b2, b3, b4, b5⟩ := eb
        have := Nat.eq_of_beq_eq_true b1
        subst this
        obtain ⟨i, n, hi, hT, hl⟩ := dn_text hK d2 b2
        subst hi
        obtain ⟨f, hf⟩ := WI_txt hT
        obtain ⟨tj, aj, cj⟩ := j
        have := Nat.eq_of_beq_eq_true b3
        simp only at this
        subst this
        obtain ⟨jj, hjj, hN⟩ := d1
        subst hjj
        have bj : (k_iv K (0, aj, cj)).1 ≤ jj.toInt := (k_iv_ok hK hN).1
        have hlN : vN vs (0, c0.toNat, 0) (n : Int) := ⟨n, hl, by show (n : Int) = n + 0; omega⟩
        have hd := k_df_ok hK rfl rfl hN hlN
        have hm := m_ald_ok (o := 0) (j := jj) (by rfl) (by decide) hf rfl (by omega) (by omega)
        obtain ⟨vs', v1, v2, v3, v4⟩ := k_all_ok (Z := (f jj.toInt.toNat).toInt) (t := 0) (.inl rfl) hK (i32_rg _)
        exact ⟨jj, _, r2, rfl, .inl ⟨i, _, rfl, hm, tOK_nx (h_put_ok h v1 v2 (dn_of_int (i := f jj.toInt.toNat) v4 v3) (fun x hx => by cases hx) hr2)⟩⟩
    next => cases ho
  next => cases ho
/-- the length of an array -/
def h_len (Z : zDt) (pc : Nat) (D : sD) : Option (List sN) := match D with
  | (K, C, lv, x :: ss, r) => (match x.1 with
    | 2 => (match Z.1[x.2.1]? with
      | some (1, t, n, _) => bif (Nat.blt t 5 && Nat.blt n 2147483648) then some (h_put (pc + 1) (K, (0, 0, Int.ofNat n)) none ss (K, C, lv, x :: ss, r)) else none
      | _ => none)
    | 5 => bif (Nat.blt 0 (h_xt x.2.1).length && Nat.blt (h_xt x.2.1).length 2147483648) then some (h_put (pc + 1) (K, (0, 0, Int.ofNat (h_xt x.2.1).length)) none ss (K, C, lv, x :: ss, r)) else none
    | 4 => bif h_nn K x then some (h_put (pc + 1) (K, (0, x.2.2.toNat, 0)) none ss (K, C, lv, x :: ss, r)) else none
    | _ => none)
  | _ => none
theorem h_len_ok (h : gD Z wr w0 vs (K, C, lv, ss, al, wk) l st w) (ho : h_len Z pc (K, C, lv, ss, al, wk) = some out) : tOK Z wr w0 vs w out (m_step L xs mid pc l st w .arraylength) := by
  unfold h_len at ho
  simp only [m_step]
  split at ho
  next K' C' lv' x ss' r hD =>
    cases hD
    obtain ⟨vx, r1, e1, d1, hr1⟩ := dnL_cons h.2.2.2.1
    subst e1
    have hK : nK vs K := h.1
    obtain ⟨t0, a0, c0⟩ := x
    split at ho
    next e =>
      simp only at e
      subst e
      have hv : vx = .ref a0 := d1
      subst hv
      split at ho
      next t n e hZ =>
        cases eb : (Nat.blt t 5 && Nat.blt n 2147483648) with
        | false => simp only [eb] at ho; cases ho
        | true =>
          simp only [eb] at ho
          cases ho
          rw [Bool.and_eq_true] at eb
          obtain ⟨c, c1, c2, a, c3, c4⟩ := h.2.2.2.2.1.2.1 a0 _ hZ
          subst c3
          have hm : m_len1 L xs (.ref a0) w = some n := by
            have c1' : w[a0]? = some (.inl (t, n, a)) := c1
            simp only [m_len1, c1']
            rw [if_pos (show t < 5 from Nat.le_of_ble_eq_true eb.1)]
          simp only [hm]
          refine tOK_nx (h_put_ok h (vL_refl vs) hK (dn_of_int (i := Int32.ofNat n) (s := (0, 0, Int.ofNat n)) rfl ?_) (fun x hx => by cases hx) hr1)
          rw [i32_nat (Nat.le_of_ble_eq_true eb.2)]
          exact vN_cst hK rfl n
      next => cases ho
    next e =>
      simp only at e
      subst e
      have hv : vx = .retAddr a0 := d1
      subst hv
      cases eb : (Nat.blt 0 (h_xt a0).length && Nat.blt (h_xt a0).length 2147483648) with
      | false => simp only [eb] at ho; cases ho
      | true =>
        simp only [eb] at ho
        cases ho
        rw [Bool.and_eq_true] at eb
        obtain ⟨t, f, p1, p2, p3⟩ := h_xt_ok (L := L) (xs := xs) (k := a0) rfl (Nat.le_of_ble_eq_true eb.1)
        have hm : m_len1 L xs (.retAddr a0) w = some (h_xt a0).length := by
          simp only [m_len1, p1]
        simp only [hm]
        refine tOK_nx (h_put_ok h (vL_refl vs) hK (dn_of_int (i := Int32.ofNat (h_xt a0).length) (s := (0, 0, Int.ofNat (h_xt a0).length)) rfl ?_) (fun x hx => by cases hx) hr1)
        rw [i32_nat (Nat.le_of_ble_eq_true eb.2)]
        exact vN_cst hK rfl _
    next e =>
      simp only at e
      subst e
      cases eb : h_nn K (4, a0, c0) with
      | false => simp only [eb] at ho; cases ho
      | true =>
        simp only [eb] at ho
        cases ho
        obtain ⟨i, n, hi, hT, hl⟩ := dn_text hK d1 eb
        subst hi
        obtain ⟨f, hf⟩ := WI_txt hT
        have hn : n ≤ 161 := hT.2.1
        have hm : m_len1 L xs (.ref i) w = some n := by
          simp only [m_len1, hf]
          rfl
        simp only [hm]
        refine tOK_nx (h_put_ok h (vL_refl vs) hK (dn_of_int (i := Int32.ofNat n) (s := (0, c0.toNat, 0)) rfl ?_) (fun x hx => by cases hx) hr1)
        rw [i32_nat (by omega)]
        exact ⟨n, hl, by show (n : Int) = n + 0; omega⟩
    next => cases ho
  next => cases ho
/-! stores -/
theorem wkR_oth {i : Nat} {c c' : mE} (hi : w[i]? = some c) (h1 : i ≠ z_KC) (h2 : i ≠ z_WC) (h : wkR vs wk w) : wkR vs wk (w.set i c') := by
  obtain ⟨K0, a1, a2⟩ := h
  refine ⟨K0, a1, ?_⟩
  intro f g n m t u hf hg
  rw [getE_set hi, if_neg (fun e => h1 e.symm)] at hf
  rw [getE_set hi, if_neg (fun e => h2 e.symm)] at hg
  exact a2 f g n m t u hf hg
def h_wk (i : Nat) (j : sV) (wk : Option sV) : Option (Option sV) := bif Nat.beq i z_KC then (bif Nat.beq j.1 0 then (match wk with
    | none => some (some j)
    | some k => bif s_eq k j then some (some j) else none) else none) else (bif Nat.beq i z_WC then (bif Nat.beq j.1 7 then (match wk with
    | none => some (some (0, j.2.1, j.2.2 / 7))
    | some k => bif s_eq k (0, j.2.1, j.2.2 / 7) then some (some (0, j.2.1, j.2.2 / 7)) else none) else none) else some wk)
theorem wkR_pick {j : sV} {X : Int} (hj : vN vs j X) (hw : wk = none ∨ wk = some j) (h : wkR vs wk w) : ∀ (f g : Nat → Int32) (n m t u : Nat), w[z_KC]? = some (.inl (t, n, .inl f)) → w[z_WC]? = some (.inl (u, m, .inl g)) → ∀ c : Nat, c < 150 → (c : Int) ≠ X → ((f c).toInt = 2 ∨ (f c).toInt = 3 ∨ (f c).toInt = 5) → (g (7 * c + 4)).toInt ≤ 19 := by
  obtain ⟨K0, a1, a2⟩ := h
  intro f g n m t u hf hg c hc0 hc
  refine a2 f g n m t u hf hg c hc0 ?_
  rcases hw with hw | hw
  · exact .inl hw
  · right
    have := vN_fun (a1 j hw) hj
    omega
theorem h_wk_ok {i t n : Nat} {j : sV} {J : Int} {a b : zCt} {wk' : Option sV} (hi : w[i]? = some (.inl (t, n, a))) (hj : vN vs j J) (h0 : 0 ≤ J) (hel : ∀ k, k ≠ J.toNat → m_el b k = m_el a k) (hsh : shp (.inl (t, n, b)) = shp (.inl (t, n, a))) (hw : h_wk i j wk = some wk') (h : wkR vs wk w) : wkR vs wk' (w.set i (.inl (t, n, b))) := by
  have hint : ∀ f, b = .inl f → ∃ g, a = .inl g ∧ ∀ k, k ≠ J.toNat → f k = g k := by
    intro f hf
    subst hf
    obtain ⟨g, hg⟩ := shp_int (c := .inl (t, n, a)) (t := t) (n := n) (by rw [← hsh]; rfl)
    cases hg
    refine ⟨g, rfl, fun k hk => ?_⟩
    have := hel k hk
    have h2 : Value.int (f k) = Value.int (g k) := this
    injection h2
  have hKW : z_KC ≠ z_WC := by decide
  unfold h_wk at hw
  cases e1 : Nat.beq i z_KC with
  | true =>
    rw [e1] at hw
    have := Nat.eq_of_beq_eq_true e1
    subst this
    simp only [cond_true] at hw
    cases ej : Nat.beq j.1 0 with
    | false => rw [ej] at hw; cases hw
    | true =>
      rw [ej] at hw
      simp only [cond_true] at hw
      have hc : (wk = none ∨ wk = some j) ∧ wk' = some j := by
        split at hw
        · cases hw; exact ⟨.inl rfl, rfl⟩
        · next k =>
          cases e : s_eq k j with
          | false => rw [e] at hw; cases hw
          | true => rw [e] at hw; cases hw; exact ⟨.inr (by rw [s_eq_ok e]), rfl⟩
      obtain ⟨hc, rfl⟩ := hc
      have hp := wkR_pick hj hc h
      refine ⟨J, fun k hk => by cases hk; exact hj, ?_⟩
      intro f g n' m t' u hf hg c hc0 hcc
      rw [getE_set hi, if_pos rfl] at hf
      rw [getE_set hi, if_neg (fun e => hKW e.symm)] at hg
      cases hf
      obtain ⟨f', ha, hf'⟩ := hint f rfl
      subst ha
      have hcJ : (c : Int) ≠ J := by
        rcases hcc with hcc | hcc
        · cases hcc
        · exact hcc
      rw [hf' c (by omega)]
      exact hp f' g _ _ _ _ hi hg c hc0 hcJ
  | false =>
    rw [e1] at hw
    have n1 : i ≠ z_KC := Nat.ne_of_beq_eq_false e1
    simp only [cond_false] at hw
    cases e2 : Nat.beq i z_WC with
    | false =>
      rw [e2] at hw
      cases hw
      exact wkR_oth hi n1 (Nat.ne_of_beq_eq_false e2) h
    | true =>
      rw [e2] at hw
      have := Nat.eq_of_beq_eq_true e2
      subst this
      simp only [cond_true] at hw
      cases ej : Nat.beq j.1 7 with
      | false => rw [ej] at hw; cases hw
      | true =>
        rw [ej] at hw
        simp only [cond_true] at hw
        have hc : (wk = none ∨ wk = some (0, j.2.1, j.2.2 / 7)) ∧ wk' = some (0, j.2.1, j.2.2 / 7) := by
          split at hw
          · cases hw; exact ⟨.inl rfl, rfl⟩
          · next k =>
            cases e : s_eq k (0, j.2.1, j.2.2 / 7) with
            | false => rw [e] at hw; cases hw
            | true => rw [e] at hw; cases hw; exact ⟨.inr (by rw [s_eq_ok e]), rfl⟩
        obtain ⟨hc, rfl⟩ := hc
        obtain ⟨x, hx, hX⟩ := hj
        rw [ej] at hX
        simp only [cond_true] at hX
        have hj' : vN vs (0, j.2.1, j.2.2 / 7) (x + j.2.2 / 7) := ⟨x, hx, rfl⟩
        have hp := wkR_pick hj' hc h
        refine ⟨x + j.2.2 / 7, fun k hk => by cases hk; exact hj', ?_⟩
        intro f g n' m t' u hf hg c hc0 hcc
        rw [getE_set hi, if_neg hKW] at hf
        rw [getE_set hi, if_pos rfl] at hg
        cases hg
        obtain ⟨g', ha, hg'⟩ := hint g rfl
        subst ha
        have hcJ : (c : Int) ≠ x + j.2.2 / 7 := by
          rcases hcc with hcc | hcc
          · cases hcc
          · exact hcc
        rw [hg' (7 * c + 4) (by omega)]
        exact hp f g' _ _ _ _ hf hi c hc0 hcJ
theorem as_core {i t n : Nat} {e : zSp} {a b : zCt} {j s : sV} {J : Int} {v : Value} {wk' : Option sV} {ss' : List sV} {st' : List Value} (h : gD Z wr w0 vs (K, C, lv, ss, al, wk) l st w) (hZ : Z.1[i]? = some (1, t, n, [e])) (hi : w[i]? = some (.inl (t, n, a))) (hsh : shp (.inl (t, n, b)) = shp (.inl (t, n, a))) (hel : ∀ k, m_el b k = if k = J.toNat then v else m_el a k) (hv : okV w (z_es Z.2.2 e J.toNat) v) (hj : vN vs j J) (h0 : 0 ≤ J) (hwr : z_wr wr 98 i = true) (hd : dn vs w s v) (hw : h_wk i j wk = some wk') (hs : dnL vs w ss' st') : w_le w (w.set i (.inl (t, n, b))) ∧ gD Z wr w0 vs (K, ((2, i, j), s) :: c_ka i j C, lv, ss', al, wk') l st' (w.set i (.inl (t, n, b))) := by
  have hwl := w_le_set (c' := .inl (t, n, b)) hi hsh
  obtain ⟨a', f1, f2, f3⟩ := WI_arr h.2.2.2.2.1 hZ
  rw [hi] at f1
  cases f1
  have hne : ∀ k, k ≠ J.toNat → m_el b k = m_el a k := fun k hk => by rw [hel k, if_neg hk]
  have hW := WI_seta h.2.2.2.2.1 hZ hi hsh (fun k hk => by
    rw [hel k]
    by_cases ek : k = J.toNat
    · rw [if_pos ek, ek]; exact hv
    · rw [if_neg ek]; exact f3 k hk)
  refine ⟨hwl, h.1, ?_, lvR_up (vL_refl vs) hwl h.2.2.1, dnL_up (vL_refl vs) hwl hs, hW, fR_trans h.2.2.2.2.2.1 (fR_seta hi hsh hwr), ?_, ?_, h_wk_ok hi hj h0 hne hsh hw h.2.2.2.2.2.2.2.2⟩
  · intro y hy
    rcases List.mem_cons.mp hy with rfl | hy
    · refine ⟨t, n, b, J, by rw [getE_set hi]; exact if_pos rfl, hj, h0, ?_⟩
      have : m_el b J.toNat = v := by rw [hel, if_pos rfl]
      rw [this]
      exact dn_up (vL_refl vs) hwl hd
    · exact cRL_seta hi hsh hj h0 hne h.2.1 y hy
  · have := h.2.2.2.2.2.2.1
    simpa using this
  · have h9 := h.2.2.2.2.2.2.2.1
    rw [m_sl_set (c := .inl (t, n, b)) hi rfl]
    exact h9
end ARR2
