/-! A STEP OF THE CHECKER: conversions, copies on the stack; all of locals and stack -/
section PURE3
variable {Z : zDt} {wr : zWr} {w0 w : mWd} {vs : List Int} {K : sK} {C : sC} {lv : sL} {ss : List sV} {al : Nat × Nat} {wk : Option sV} {l : mL} {st : List Value} {out : List sN}
/-- a value in place of the one on top -/
def h_top (pc : Nat) (q : sK × sV) (D : sD) : Option (List sN) := match D with
  | (_, C, lv, _ :: ss, r) => some [(pc, (q.1, C, lv, q.2 :: ss, r))]
  | _ => none
theorem h_top_ok {pc : Nat} {q : sK × sV} {x : sV} {v v' : Value} {vs' : List Int} (h : gD Z wr w0 vs (K, C, lv, x :: ss, al, wk) l (v :: st) w) (hv : vL vs vs') (hK : nK vs' q.1) (hd : dn vs' w q.2 v') (ho : h_top pc q (K, C, lv, x :: ss, al, wk) = some out) : sOK Z wr w0 vs w out (some (pc, l, v' :: st)) := by
  cases ho
  exact sOK_one hv (gD_new h hv hK (gD_lv h hv) ⟨hd, dnL_up hv (w_le_refl w) h.2.2.2.1.2⟩)
def h_ineg (pc : Nat) (D : sD) : Option (List sN) := match D.2.2.2.1 with
  | x :: _ => bif k_tg 0 x then h_top pc (bif z_le (-2147483647) (k_iv D.1 x).1 then k_mk 0 D.1 (-(k_iv D.1 x).2) (-(k_iv D.1 x).1) else k_all 0 D.1) D else none
  | _ => none
theorem h_ineg_ok {pc nL : Nat} (h : gD Z wr w0 vs (K, C, lv, ss, al, wk) l st w) (ho : h_ineg (pc + 1) (K, C, lv, ss, al, wk) = some out) : sOK Z wr w0 vs w out (m_pure nL .ineg pc l st) := by
  unfold h_ineg at ho
  split at ho
  next x ss' hD =>
    simp only at hD
    subst hD
    obtain ⟨v, r1, e1, d1, hr1⟩ := dnL_cons h.2.2.2.1
    subst e1
    cases e : k_tg 0 x with
    | false => rw [e] at ho; cases ho
    | true =>
      rw [e] at ho
      obtain ⟨i, hi, hN⟩ := dn_int d1 e
      subst hi
      have hK : nK vs K := h.1
      have bX := k_iv_ok hK hN
      simp only [cond_true] at ho
      cases e2 : z_le (-2147483647) (k_iv K x).1 with
      | true =>
        rw [e2] at ho
        have := z_le_iff.mp e2
        have hr := (i32_rg i).2
        have hm : (-i).toInt = -i.toInt := by
          rw [Int32.toInt_neg, z_bm0]
          show (-2147483648 : Int) ≤ _ ∧ _ ≤ (2147483647 : Int)
          have : i.toInt ≤ 2147483647 := hr
          omega
        obtain ⟨vs', v1, v2, v3, v4⟩ := k_mk_ok (Z := (-i).toInt) (.inl rfl) h.1 (lo := -(k_iv K x).2) (hi := -(k_iv K x).1) (by omega) (by omega)
        exact h_top_ok h v1 v2 (dn_of_int v4 v3) ho
      | false =>
        rw [e2] at ho
        obtain ⟨vs', v1, v2, v3, v4⟩ := k_all_ok (Z := (-i).toInt) (.inl rfl) h.1 (i32_rg _)
        exact h_top_ok h v1 v2 (dn_of_int v4 v3) ho
  next => cases ho
def h_i2l (pc : Nat) (D : sD) : Option (List sN) := match D.2.2.2.1 with
  | x :: _ => bif Nat.beq x.1 0 then h_top pc (D.1, (1, x.2.1, x.2.2)) D else none
  | _ => none
theorem h_i2l_ok {pc nL : Nat} (h : gD Z wr w0 vs (K, C, lv, ss, al, wk) l st w) (ho : h_i2l (pc + 1) (K, C, lv, ss, al, wk) = some out) : sOK Z wr w0 vs w out (m_pure nL .i2l pc l st) := by
  unfold h_i2l at ho
  split at ho
  next x ss' hD =>
    simp only at hD
    subst hD
    obtain ⟨v, r1, e1, d1, hr1⟩ := dnL_cons h.2.2.2.1
    subst e1
    cases e : Nat.beq x.1 0 with
    | false => rw [e] at ho; cases ho
    | true =>
      rw [e] at ho
      obtain ⟨t, a, c⟩ := x
      have := Nat.eq_of_beq_eq_true e
      simp only at this
      subst this
      obtain ⟨i, hi, hN⟩ := d1
      subst hi
      refine h_top_ok h (vL_refl vs) h.1 ?_ ho
      refine ⟨i.toInt64, rfl, ?_⟩
      rw [Int32.toInt_toInt64]
      exact hN
  next => cases ho
def h_l2i (pc : Nat) (D : sD) : Option (List sN) := match D.2.2.2.1 with
  | x :: _ => bif Nat.beq x.1 1 then h_top pc (bif z_in 0 (k_iv D.1 x).1 (k_iv D.1 x).2 then (D.1, (0, x.2.1, x.2.2)) else k_all 0 D.1) D else none
  | _ => none
theorem h_l2i_ok {pc nL : Nat} (h : gD Z wr w0 vs (K, C, lv, ss, al, wk) l st w) (ho : h_l2i (pc + 1) (K, C, lv, ss, al, wk) = some out) : sOK Z wr w0 vs w out (m_pure nL .l2i pc l st) := by
  unfold h_l2i at ho
  split at ho
  next x ss' hD =>
    simp only at hD
    subst hD
    obtain ⟨v, r1, e1, d1, hr1⟩ := dnL_cons h.2.2.2.1
    subst e1
    cases e : Nat.beq x.1 1 with
    | false => rw [e] at ho; cases ho
    | true =>
      rw [e] at ho
      obtain ⟨t, a, c⟩ := x
      have := Nat.eq_of_beq_eq_true e
      simp only at this
      subst this
      obtain ⟨i, hi, hN⟩ := d1
      subst hi
      have hK : nK vs K := h.1
      have bX := k_iv_ok hK hN
      simp only [cond_true] at ho
      cases e2 : z_in 0 (k_iv K (1, a, c)).1 (k_iv K (1, a, c)).2 with
      | true =>
        rw [e2] at ho
        have e3 := z_in_iff.mp e2
        refine h_top_ok h (vL_refl vs) h.1 ?_ ho
        refine ⟨i.toInt32, rfl, ?_⟩
        rw [Int64.toInt_toInt32, z_bm0 ⟨by omega, by omega⟩]
        exact hN
      | false =>
        rw [e2] at ho
        obtain ⟨vs', v1, v2, v3, v4⟩ := k_all_ok (Z := i.toInt32.toInt) (.inl rfl) h.1 (i32_rg _)
        exact h_top_ok h v1 v2 (dn_of_int v4 v3) ho
  next => cases ho
theorem i32_i2b {i : Int32} (h1 : 0 ≤ i.toInt) (h2 : i.toInt ≤ 127) : i.toInt8.toInt32 = i := by
  apply Int32.toInt_inj.mp
  rw [Int8.toInt_toInt32, Int32.toInt_toInt8, Int.bmod_def]
  omega
theorem i32_i2c {i : Int32} (h1 : 0 ≤ i.toInt) (h2 : i.toInt ≤ 127) : (i.toUInt32 % 65536).toInt32 = i := by
  obtain ⟨a1, a2⟩ := i32_nat_pos h1
  apply Int32.toInt_inj.mp
  have e : (i.toUInt32 % 65536).toInt32.toBitVec.toNat = i.toBitVec.toNat := by
    show (i.toUInt32 % 65536).toNat = _
    rw [UInt32.toNat_mod]
    show i.toBitVec.toNat % 65536 = i.toBitVec.toNat
    omega
  rw [i32_of_nat (by omega), e, a2]
/-- i2b, i2c: the same, where it is 0 .. 127 -/
def h_i2s (pc : Nat) (D : sD) : Option (List sN) := match D.2.2.2.1 with
  | x :: _ => bif Nat.beq x.1 0 then h_top pc (bif (z_le 0 (k_iv D.1 x).1 && z_le (k_iv D.1 x).2 127) then (D.1, x) else k_all 0 D.1) D else none
  | _ => none
theorem h_i2s_ok {pc : Nat} {f : Int32 → Int32} (hf : ∀ i : Int32, 0 ≤ i.toInt → i.toInt ≤ 127 → f i = i) (h : gD Z wr w0 vs (K, C, lv, ss, al, wk) l st w) (ho : h_i2s (pc + 1) (K, C, lv, ss, al, wk) = some out) : ∃ i r, st = .int i :: r ∧ sOK Z wr w0 vs w out (some (pc + 1, l, .int (f i) :: r)) := by
  unfold h_i2s at ho
  split at ho
  next x ss' hD =>
    simp only at hD
    subst hD
    obtain ⟨v, r1, e1, d1, hr1⟩ := dnL_cons h.2.2.2.1
    subst e1
    cases e : Nat.beq x.1 0 with
    | false => rw [e] at ho; cases ho
    | true =>
      rw [e] at ho
      obtain ⟨t, a, c⟩ := x
      have := Nat.eq_of_beq_eq_true e
      simp only at this
      subst this
      obtain ⟨i, hi, hN⟩ := id d1
      subst hi
      have hK : nK vs K := h.1
      have bX := k_iv_ok hK hN
      refine ⟨i, r1, rfl, ?_⟩
      simp only [cond_true] at ho
      cases e2 : (z_le 0 (k_iv K (0, a, c)).1 && z_le (k_iv K (0, a, c)).2 127) with
      | true =>
        rw [e2] at ho
        rw [Bool.and_eq_true, z_le_iff, z_le_iff] at e2
        rw [hf i (by omega) (by omega)]
        exact h_top_ok h (vL_refl vs) h.1 d1 ho
      | false =>
        rw [e2] at ho
        obtain ⟨vs', v1, v2, v3, v4⟩ := k_all_ok (Z := (f i).toInt) (.inl rfl) h.1 (i32_rg _)
        exact h_top_ok h v1 v2 (dn_of_int v4 v3) ho
  next => cases ho
theorem lg_sign (x y : Int64) : ((lg_cmp x y).toInt < 0 ↔ x.toInt - y.toInt < 0) ∧ ((lg_cmp x y).toInt = 0 ↔ x.toInt - y.toInt = 0) ∧ -1 ≤ (lg_cmp x y).toInt ∧ (lg_cmp x y).toInt ≤ 1 := by
  unfold lg_cmp
  by_cases h1 : x > y
  · rw [if_pos h1]
    have : y.toInt < x.toInt := Int64.lt_iff_toInt_lt.mp h1
    have e : (1 : Int32).toInt = 1 := by decide
    omega
  · rw [if_neg h1]
    by_cases h2 : x = y
    · rw [if_pos h2]
      have e : (0 : Int32).toInt = 0 := by decide
      subst h2
      omega
    · rw [if_neg h2]
      have e : (-1 : Int32).toInt = -1 := by decide
      have h3 : ¬ y.toInt < x.toInt := fun h => h1 (Int64.lt_iff_toInt_lt.mpr h)
      have h4 : ¬ x.toInt = y.toInt := fun h => h2 (Int64.toInt_inj.mp h)
      omega
def h_lcmp (pc : Nat) (D : sD) : Option (List sN) := match D with
  | (K, C, lv, y :: x :: ss, r) => bif (Nat.beq x.1 1 && Nat.beq y.1 1) then (bif k_single (k_iv K y) then some [(pc, (K, C, lv, (6, x.2.1, x.2.2 - (k_iv K y).1) :: ss, r))] else some [(pc, ((k_mk 0 K (-1) 1).1, C, lv, (k_mk 0 K (-1) 1).2 :: ss, r))]) else none
  | _ => none
theorem h_lcmp_ok {pc nL : Nat} (h : gD Z wr w0 vs (K, C, lv, ss, al, wk) l st w) (ho : h_lcmp (pc + 1) (K, C, lv, ss, al, wk) = some out) : sOK Z wr w0 vs w out (m_pure nL .lcmp pc l st) := by
  unfold h_lcmp at ho
  split at ho
  next K' C' lv' y x ss' r hD =>
    cases hD
    obtain ⟨vy, r1, e1, d1, hr1⟩ := dnL_cons h.2.2.2.1
    obtain ⟨vx, r2, e2, d2, hr2⟩ := dnL_cons hr1
    subst e1 e2
    cases e : (Nat.beq x.1 1 && Nat.beq y.1 1) with
    | false => rw [e] at ho; cases ho
    | true =>
      rw [e] at ho
      rw [Bool.and_eq_true] at e
      obtain ⟨t, a, c⟩ := x
      obtain ⟨t', a', c'⟩ := y
      have e1 := Nat.eq_of_beq_eq_true e.1
      have e2 := Nat.eq_of_beq_eq_true e.2
      simp only at e1 e2
      subst e1 e2
      obtain ⟨j, hj, hM⟩ := d1
      obtain ⟨i, hi, hN⟩ := d2
      subst hi hj
      obtain ⟨s1, s2, s3, s4⟩ := lg_sign i j
      have hK : nK vs K := h.1
      have bY := k_iv_ok hK hM
      simp only [cond_true] at ho
      show sOK Z wr w0 vs w out (some (pc + 1, l, .int (lg_cmp i j) :: r2))
      cases e3 : k_single (k_iv K (1, a', c')) with
      | true =>
        rw [e3] at ho
        cases ho
        have e4 := z_sgl e3
        refine sOK_one (vL_refl vs) (gD_new h (vL_refl vs) h.1 h.2.2.1 ⟨?_, hr2⟩)
        refine ⟨lg_cmp i j, i.toInt - j.toInt, rfl, ?_, s1, s2⟩
        obtain ⟨u, hu, hX⟩ := hN
        refine ⟨u, hu, ?_⟩
        have hX' : i.toInt = u + c := hX
        show i.toInt - j.toInt = u + (c - (k_iv K (1, a', c')).1)
        omega
      | false =>
        rw [e3] at ho
        cases ho
        obtain ⟨vs', v1, v2, v3, v4⟩ := k_mk_ok (Z := (lg_cmp i j).toInt) (.inl rfl) h.1 s3 s4
        exact sOK_one v1 (gD_new h v1 v2 (gD_lv h v1) ⟨dn_of_int v4 v3, dnL_up v1 (w_le_refl w) hr2⟩)
  next => cases ho
/-- dup, pop, dup_x1, dup_x2, dup2 -/
def h_stk (ins : Instr) (pc : Nat) (D : sD) : Option (List sN) := match ins, D with
  | .dup, (K, C, lv, a :: ss, r) => bif Nat.beq a.1 1 then none else some [(pc, (K, C, lv, a :: a :: ss, r))]
  | .pop, (K, C, lv, a :: ss, r) => bif Nat.beq a.1 1 then none else some [(pc, (K, C, lv, ss, r))]
  | .dup_x1, (K, C, lv, a :: b :: ss, r) => bif (Nat.beq a.1 1 || Nat.beq b.1 1) then none else some [(pc, (K, C, lv, a :: b :: a :: ss, r))]
  | .dup_x2, (K, C, lv, a :: b :: d :: ss, r) => bif (Nat.beq a.1 1 || (Nat.beq b.1 1 || Nat.beq d.1 1)) then none else some [(pc, (K, C, lv, a :: b :: d :: a :: ss, r))]
  | .dup2, (K, C, lv, a :: ss, r) => bif Nat.beq a.1 1 then some [(pc, (K, C, lv, a :: a :: ss, r))] else (match ss with
    | b :: ss' => bif (Nat.beq b.1 1 || Nat.beq a.1 6) then none else some [(pc, (K, C, lv, a :: b :: a :: b :: ss', r))]
    | _ => none)
  | _, _ => none
theorem h_stk_ok {ins : Instr} {pc nL : Nat} (h : gD Z wr w0 vs (K, C, lv, ss, al, wk) l st w) (ho : h_stk ins (pc + 1) (K, C, lv, ss, al, wk) = some out) : sOK Z wr w0 vs w out (m_pure nL ins pc l st) := by
  unfold h_stk at ho
  split at ho
  next K' C' lv' a ss' r hD =>
    cases hD
    obtain ⟨v, r1, e1, d1, hr1⟩ := dnL_cons h.2.2.2.1
    subst e1
    cases e : Nat.beq a.1 1 with
    | true => rw [e] at ho; cases ho
    | false =>
      rw [e] at ho
      cases ho
      simp only [m_pure, dn_c1 d1 e, if_true]
      exact sOK_one (vL_refl vs) (gD_new h (vL_refl vs) h.1 h.2.2.1 ⟨d1, d1, hr1⟩)
  next K' C' lv' a ss' r hD =>
    cases hD
    obtain ⟨v, r1, e1, d1, hr1⟩ := dnL_cons h.2.2.2.1
    subst e1
    cases e : Nat.beq a.1 1 with
    | true => rw [e] at ho; cases ho
    | false =>
      rw [e] at ho
      cases ho
      simp only [m_pure, dn_c1 d1 e, if_true]
      exact sOK_one (vL_refl vs) (gD_new h (vL_refl vs) h.1 h.2.2.1 hr1)
  next K' C' lv' a b ss' r hD =>
    cases hD
    obtain ⟨v, r1, e1, d1, hr1⟩ := dnL_cons h.2.2.2.1
    obtain ⟨v2, r2, e2, d2, hr2⟩ := dnL_cons hr1
    subst e1 e2
    cases e : (Nat.beq a.1 1 || Nat.beq b.1 1) with
    | true => rw [e] at ho; cases ho
    | false =>
      rw [e] at ho
      cases ho
      rw [Bool.or_eq_false_iff] at e
      simp only [m_pure, dn_c1 d1 e.1, dn_c1 d2 e.2, and_self, if_true]
      exact sOK_one (vL_refl vs) (gD_new h (vL_refl vs) h.1 h.2.2.1 ⟨d1, d2, d1, hr2⟩)
  next K' C' lv' a b d ss' r hD =>
    cases hD
    obtain ⟨v, r1, e1, d1, hr1⟩ := dnL_cons h.2.2.2.1
    obtain ⟨v2, r2, e2, d2, hr2⟩ := dnL_cons hr1
    obtain ⟨v3, r3, e3, d3, hr3⟩ := dnL_cons hr2
    subst e1 e2 e3
    cases e : (Nat.beq a.1 1 || (Nat.beq b.1 1 || Nat.beq d.1 1)) with
    | true => rw [e] at ho; cases ho
    | false =>
      rw [e] at ho
      cases ho
      rw [Bool.or_eq_false_iff, Bool.or_eq_false_iff] at e
      simp only [m_pure, dn_c1 d1 e.1, dn_c1 d2 e.2.1, dn_c1 d3 e.2.2, and_self, if_true]
      exact sOK_one (vL_refl vs) (gD_new h (vL_refl vs) h.1 h.2.2.1 ⟨d1, d2, d3, d1, hr3⟩)
  next K' C' lv' a ss' r hD =>
    cases hD
    obtain ⟨v, r1, e1, d1, hr1⟩ := dnL_cons h.2.2.2.1
    subst e1
    cases e : Nat.beq a.1 1 with
    | true =>
      rw [e] at ho
      cases ho
      obtain ⟨i, hi, -⟩ := dn_lng d1 e
      subst hi
      simp only [m_pure]
      exact sOK_one (vL_refl vs) (gD_new h (vL_refl vs) h.1 h.2.2.1 ⟨d1, d1, hr1⟩)
    | false =>
      rw [e] at ho
      simp only [cond_false] at ho
      split at ho
      next b ss'' =>
        obtain ⟨v2, r2, e2, d2, hr2⟩ := dnL_cons hr1
        subst e2
        cases e2 : (Nat.beq b.1 1 || Nat.beq a.1 6) with
        | true => rw [e2] at ho; cases ho
        | false =>
          rw [e2] at ho
          cases ho
          rw [Bool.or_eq_false_iff] at e2
          have c1 := dn_c1 d1 e
          have c2 := dn_c1 d2 e2.1
          have hm : m_pure nL .dup2 pc l (v :: v2 :: r2) = some (pc + 1, l, v :: v2 :: v :: v2 :: r2) := by
            cases v <;> first | (cases c1; done) | (simp only [m_pure]; rw [if_pos ⟨rfl, c2⟩])
          rw [hm]
          exact sOK_one (vL_refl vs) (gD_new h (vL_refl vs) h.1 h.2.2.1 ⟨d1, d2, d1, d2, hr2⟩)
      next => cases ho
  next => cases ho
/-- all of locals and stack -/
def s_pure (nL : Nat) (ins : Instr) (pc : Nat) (D : sD) : Option (List sN) := match ins with
  | .iconst n => h_cst (pc + 1) (-2147483648) 2147483647 n D
  | .bipush n => h_cst (pc + 2) (-128) 127 n D
  | .sipush n => h_cst (pc + 3) (-32768) 32767 n D
  | .lconst n => h_lcst (pc + 1) (Int.ofNat n.val) D
  | .aconst_null => h_push (pc + 1) (8, 0, -1) D
  | .iload_n k => h_load 0 k (pc + 1) D
  | .iload k => h_load 0 k (pc + 2) D
  | .lload_n k => h_load 1 k (pc + 1) D
  | .lload k => h_load 1 k (pc + 2) D
  | .aload_n k => h_load 2 k (pc + 1) D
  | .aload k => h_load 2 k (pc + 2) D
  | .istore_n k => h_store nL 0 k (pc + 1) D
  | .istore k => h_store nL 0 k (pc + 2) D
  | .lstore_n k => h_store nL 1 k (pc + 1) D
  | .lstore k => h_store nL 1 k (pc + 2) D
  | .astore_n k => h_store nL 2 k (pc + 1) D
  | .astore k => h_store nL 2 k (pc + 2) D
  | .iinc i n => h_iinc nL i n pc D
  | .iadd => h_bi .iadd pc D
  | .isub => h_bi .isub pc D
  | .imul => h_bi .imul pc D
  | .iand => h_bi .iand pc D
  | .ior => h_bi .ior pc D
  | .ixor => h_bi .ixor pc D
  | .idiv => h_bi .idiv pc D
  | .irem => h_bi .irem pc D
  | .ishl => h_bi .ishl pc D
  | .ishr => h_bi .ishr pc D
  | .iushr => h_bi .iushr pc D
  | .ladd => h_bl .ladd pc D
  | .lsub => h_bl .lsub pc D
  | .lmul => h_bl .lmul pc D
  | .land => h_bl .land pc D
  | .ldiv => h_bl .ldiv pc D
  | .lrem => h_bl .lrem pc D
  | .lcmp => h_lcmp (pc + 1) D
  | .ineg => h_ineg (pc + 1) D
  | .i2l => h_i2l (pc + 1) D
  | .l2i => h_l2i (pc + 1) D
  | .i2b => h_i2s (pc + 1) D
  | .i2c => h_i2s (pc + 1) D
  | .dup => h_stk .dup (pc + 1) D
  | .pop => h_stk .pop (pc + 1) D
  | .dup_x1 => h_stk .dup_x1 (pc + 1) D
  | .dup_x2 => h_stk .dup_x2 (pc + 1) D
  | .dup2 => h_stk .dup2 (pc + 1) D
  | .ifCond cd off => h_ic cd pc off D
  | .if_icmp cd off => h_cc cd pc off D
  | .ifnull off => h_nul true pc off D
  | .ifnonnull off => h_nul false pc off D
  | .goto off => h_jmp pc off D
  | .tableswitch d lo hi offs => h_ts d lo hi offs pc D
  | .lookupswitch d ps => h_ls d ps pc D
  | _ => none
theorem s_pure_ok {nL : Nat} {ins : Instr} {pc : Nat} (h : gD Z wr w0 vs (K, C, lv, ss, al, wk) l st w) (ho : s_pure nL ins pc (K, C, lv, ss, al, wk) = some out) : sOK Z wr w0 vs w out (m_pure nL ins pc l st) := by
  unfold s_pure at ho
  split at ho
  · exact h_cst_ok h (fun a b => by rw [Int32.toInt_ofInt]; exact z_bm0 ⟨a, b⟩) ho
  · refine h_cst_ok h (fun a b => ?_) ho
    rw [Int8.toInt_toInt32, Int8.toInt_ofInt, show Int8.size = 256 from rfl, Int.bmod_def]; omega
  · refine h_cst_ok h (fun a b => ?_) ho
    rw [Int16.toInt_toInt32, Int16.toInt_ofInt, show Int16.size = 65536 from rfl, Int.bmod_def]; omega
  · next n =>
    refine h_lcst_ok h (fun a => ?_) ho
    have : n.val < 2 := n.isLt
    show (Int64.ofNat n.val).toInt = (n.val : Int)
    exact Int64.toInt_ofNat_of_lt (by omega)
  · exact h_push_ok (s := (8, 0, -1)) h (show dn vs w (8, 0, -1) .null from (rfl : Value.null = Value.null)) ho
  · exact h_load_ok (by decide) h ho
  · exact h_load_ok (by decide) h ho
  · exact h_load_ok (by decide) h ho
  · exact h_load_ok (by decide) h ho
  · exact h_load_ok (by decide) h ho
  · exact h_load_ok (by decide) h ho
  · exact h_store_ok (by decide) h ho
  · exact h_store_ok (by decide) h ho
  · exact h_store_ok (by decide) h ho
  · exact h_store_ok (by decide) h ho
  · exact h_store_ok (by decide) h ho
  · exact h_store_ok (by decide) h ho
  · exact h_iinc_ok h ho
  · exact h_bi_ok h ho
  · exact h_bi_ok h ho
  · exact h_bi_ok h ho
  · exact h_bi_ok h ho
  · exact h_bi_ok h ho
  · exact h_bi_ok h ho
  · exact h_bi_ok h ho
  · exact h_bi_ok h ho
  · exact h_bi_ok h ho
  · exact h_bi_ok h ho
  · exact h_bi_ok h ho
  · exact h_bl_ok h ho
  · exact h_bl_ok h ho
  · exact h_bl_ok h ho
  · exact h_bl_ok h ho
  · exact h_bl_ok h ho
  · exact h_bl_ok h ho
  · exact h_lcmp_ok h ho
  · exact h_ineg_ok h ho
  · exact h_i2l_ok h ho
  · exact h_l2i_ok h ho
  · obtain ⟨i, r, e, hr⟩ := h_i2s_ok (f := fun i => i.toInt8.toInt32) (fun i a b => i32_i2b a b) h ho
    subst e
    exact hr
  · obtain ⟨i, r, e, hr⟩ := h_i2s_ok (f := fun i => (i.toUInt32 % 65536).toInt32) (fun i a b => i32_i2c a b) h ho
    subst e
    exact hr
  · exact h_stk_ok h ho
  · exact h_stk_ok h ho
  · exact h_stk_ok h ho
  · exact h_stk_ok h ho
  · exact h_stk_ok h ho
  · exact h_ic_ok h ho
  · exact h_cc_ok h ho
  · exact h_nul_ok h ho
  · exact h_nul_ok h ho
  · exact h_jmp_ok h ho
  · exact h_ts_ok h ho
  · exact h_ls_ok h ho
  · cases ho
end PURE3
