/-! A STEP OF THE CHECKER: the rest of locals and stack -/
def k_ng (cd : Jvm.ClassFile.Cond) : Jvm.ClassFile.Cond := match cd with
  | .eq => .ne
  | .ne => .eq
  | .lt => .ge
  | .ge => .lt
  | .gt => .le
  | .le => .gt
theorem m_cmp_t {cd : Jvm.ClassFile.Cond} {x y : Int32} (h : m_cmp cd x y = true) : z_hold cd x.toInt y.toInt := by
  cases cd <;> simp only [m_cmp, Bool.not_eq_true', decide_eq_true_eq, decide_eq_false_iff_not, Int32.lt_iff_toInt_lt, Int32.le_iff_toInt_le] at h <;> simp only [z_hold]
  · rw [h]
  · exact fun e => h (Int32.toInt_inj.mp e)
  all_goals exact h
theorem m_cmp_f {cd : Jvm.ClassFile.Cond} {x y : Int32} (h : m_cmp cd x y = false) : z_hold (k_ng cd) x.toInt y.toInt := by
  cases cd <;> simp only [m_cmp, Bool.not_eq_false', decide_eq_true_eq, decide_eq_false_iff_not, Int32.lt_iff_toInt_lt, Int32.le_iff_toInt_le] at h <;> simp only [z_hold, k_ng]
  · exact fun e => h (Int32.toInt_inj.mp e)
  · rw [h]
  all_goals omega
theorem z_sign {cd : Jvm.ClassFile.Cond} {a b : Int} (h1 : a < 0 ↔ b < 0) (h2 : a = 0 ↔ b = 0) (h : z_hold cd a 0) : z_hold cd b 0 := by
  cases cd <;> simp only [z_hold] at h ⊢ <;> omega
def h_two (a b : Option sK) (p q : Nat) (C : sC) (lv : sL) (ss : List sV) (r : (Nat × Nat) × Option sV) : List sN := match a, b with
  | some K1, some K2 => [(p, (K1, C, lv, ss, r)), (q, (K2, C, lv, ss, r))]
  | some K1, none => [(p, (K1, C, lv, ss, r))]
  | none, some K2 => [(q, (K2, C, lv, ss, r))]
  | none, none => []
section PURE2
variable {Z : zDt} {wr : zWr} {w0 w : mWd} {vs : List Int} {K : sK} {C : sC} {lv : sL} {ss : List sV} {al : Nat × Nat} {wk : Option sV} {l : mL} {st : List Value} {out : List sN}
theorem h_two_l {a b : Option sK} {p q : Nat} {K1 : sK} (e : a = some K1) : (p, (K1, C, lv, ss, al, wk)) ∈ h_two a b p q C lv ss (al, wk) := by
  subst e; cases b <;> simp [h_two]
theorem h_two_r {a b : Option sK} {p q : Nat} {K1 : sK} (e : b = some K1) : (q, (K1, C, lv, ss, al, wk)) ∈ h_two a b p q C lv ss (al, wk) := by
  subst e; cases a <;> simp [h_two]
/-- what may then be known: unequal is less or greater -/
def k_asm2 (K : sK) (cd : Jvm.ClassFile.Cond) (x y : sV) : List sK := match cd with
  | .ne => bif (k_single (k_iv K y) || k_single (k_iv K x)) then (k_asm K .ne x y).toList else (k_le K x y (-1)).toList ++ (k_le K y x (-1)).toList
  | cd => (k_asm K cd x y).toList
theorem k_asm2_ok {x y : sV} {X Y : Int} {cd : Jvm.ClassFile.Cond} (h : nK vs K) (hx7 : n7 x = true) (hy7 : n7 y = true) (hx : vN vs x X) (hy : vN vs y Y) (hc : z_hold cd X Y) : ∃ K' ∈ k_asm2 K cd x y, nK vs K' := by
  obtain ⟨K0, e0, n0⟩ := k_asm_ok h hx7 hy7 hx hy hc
  have h0 : K0 ∈ (k_asm K cd x y).toList := by rw [e0]; simp
  cases cd with
  | ne =>
    show ∃ K' ∈ (bif (k_single (k_iv K y) || k_single (k_iv K x)) then (k_asm K .ne x y).toList else (k_le K x y (-1)).toList ++ (k_le K y x (-1)).toList), nK vs K'
    cases (k_single (k_iv K y) || k_single (k_iv K x)) with
    | true => exact ⟨K0, h0, n0⟩
    | false =>
      have hc' : X ≠ Y := hc
      by_cases hlt : X < Y
      · obtain ⟨K1, e1, n1⟩ := k_le_ok h hx7 hy7 hx hy (c := -1) (by omega)
        exact ⟨K1, by rw [e1]; simp, n1⟩
      · obtain ⟨K1, e1, n1⟩ := k_le_ok h hy7 hx7 hy hx (c := -1) (by omega)
        exact ⟨K1, by rw [e1]; simp, n1⟩
  | _ => exact ⟨K0, h0, n0⟩
def h_br (cd : Jvm.ClassFile.Cond) (x y : sV) (pc : Nat) (off : Int) (K : sK) (C : sC) (lv : sL) (ss : List sV) (r : (Nat × Nat) × Option sV) : Option (List sN) := match m_tgt pc off with
  | some t => some ((k_asm2 K cd x y).map (fun K1 => (t, (K1, C, lv, ss, r))) ++ (k_asm2 K (k_ng cd) x y).map (fun K1 => (pc + 3, (K1, C, lv, ss, r))))
  | none => none
theorem h_br_ok {cd : Jvm.ClassFile.Cond} {x y : sV} {X Y : Int} {b : Bool} {pc : Nat} {off : Int} (h : gD Z wr w0 vs (K, C, lv, ss, al, wk) l st w) (hx7 : n7 x = true) (hy7 : n7 y = true) (hx : vN vs x X) (hy : vN vs y Y) (ht : b = true → z_hold cd X Y) (hf : b = false → z_hold (k_ng cd) X Y) (ho : h_br cd x y pc off K C lv ss (al, wk) = some out) : sOK Z wr w0 vs w out (m_br b pc off l st) := by
  unfold h_br at ho
  split at ho
  next t hm =>
    cases ho
    unfold m_br
    rw [hm]
    cases b with
    | true =>
      obtain ⟨K1, e1, n1⟩ := k_asm2_ok h.1 hx7 hy7 hx hy (ht rfl)
      exact ⟨_, vs, l, st, List.mem_append_left _ (List.mem_map.mpr ⟨K1, e1, rfl⟩), rfl, vL_refl vs, gD_new h (vL_refl vs) n1 h.2.2.1 h.2.2.2.1⟩
    | false =>
      obtain ⟨K1, e1, n1⟩ := k_asm2_ok h.1 hx7 hy7 hx hy (hf rfl)
      exact ⟨_, vs, l, st, List.mem_append_right _ (List.mem_map.mpr ⟨K1, e1, rfl⟩), rfl, vL_refl vs, gD_new h (vL_refl vs) n1 h.2.2.1 h.2.2.2.1⟩
  next => cases ho
def h_ic (cd : Jvm.ClassFile.Cond) (pc : Nat) (off : Int) (D : sD) : Option (List sN) := match D with
  | (K, C, lv, x :: ss, r) => bif (Nat.beq x.1 0 || Nat.beq x.1 6) then h_br cd x (0, 0, 0) pc off K C lv ss r else none
  | _ => none
theorem gD_pop {s : sV} {v : Value} (h : gD Z wr w0 vs (K, C, lv, s :: ss, al, wk) l (v :: st) w) : gD Z wr w0 vs (K, C, lv, ss, al, wk) l st w := ⟨h.1, h.2.1, h.2.2.1, h.2.2.2.1.2, h.2.2.2.2⟩
theorem h_ic_ok {cd : Jvm.ClassFile.Cond} {pc : Nat} {off : Int} {nL : Nat} (h : gD Z wr w0 vs (K, C, lv, ss, al, wk) l st w) (ho : h_ic cd pc off (K, C, lv, ss, al, wk) = some out) : sOK Z wr w0 vs w out (m_pure nL (.ifCond cd off) pc l st) := by
  unfold h_ic at ho
  split at ho
  next K' C' lv' x ss' r hD =>
    cases hD
    obtain ⟨v, r1, e1, d1, hr1⟩ := dnL_cons h.2.2.2.1
    subst e1
    cases e : (Nat.beq x.1 0 || Nat.beq x.1 6) with
    | false => rw [e] at ho; cases ho
    | true =>
      rw [e] at ho
      rw [Bool.or_eq_true] at e
      obtain ⟨t, a, c⟩ := x
      rcases e with e | e
      · have := Nat.eq_of_beq_eq_true e
        simp only at this
        subst this
        obtain ⟨i, hi, hN⟩ := d1
        subst hi
        exact h_br_ok (gD_pop h) rfl rfl hN (vN_cst h.1 rfl 0) (fun hb => m_cmp_t hb) (fun hb => m_cmp_f hb) ho
      · have := Nat.eq_of_beq_eq_true e
        simp only at this
        subst this
        obtain ⟨i, X, hi, hN, s1, s2⟩ := d1
        subst hi
        exact h_br_ok (gD_pop h) rfl rfl hN (vN_cst h.1 rfl 0) (fun hb => z_sign s1 s2 (m_cmp_t hb)) (fun hb => z_sign s1 s2 (m_cmp_f hb)) ho
  next => cases ho
def h_cc (cd : Jvm.ClassFile.Cond) (pc : Nat) (off : Int) (D : sD) : Option (List sN) := match D with
  | (K, C, lv, y :: x :: ss, r) => bif (Nat.beq x.1 0 && Nat.beq y.1 0) then h_br cd x y pc off K C lv ss r else none
  | _ => none
theorem h_cc_ok {cd : Jvm.ClassFile.Cond} {pc : Nat} {off : Int} {nL : Nat} (h : gD Z wr w0 vs (K, C, lv, ss, al, wk) l st w) (ho : h_cc cd pc off (K, C, lv, ss, al, wk) = some out) : sOK Z wr w0 vs w out (m_pure nL (.if_icmp cd off) pc l st) := by
  unfold h_cc at ho
  split at ho
  next K' C' lv' y x ss' r hD =>
    cases hD
    obtain ⟨vy, r1, e1, d1, hr1⟩ := dnL_cons h.2.2.2.1
    obtain ⟨vx, r2, e2, d2, hr2⟩ := dnL_cons hr1
    subst e1 e2
    cases e : (Nat.beq x.1 0 && Nat.beq y.1 0) with
    | false => rw [e] at ho; cases ho
    | true =>
      rw [e] at ho
      rw [Bool.and_eq_true] at e
      obtain ⟨t, a, c⟩ := x
      obtain ⟨t', a', c'⟩ := y
      have e1 := Nat.eq_of_beq_eq_true e.1
      have e2 := Nat.eq_of_beq_eq_true e.2
      simp only at e1 e2
      subst e1 e2
      obtain ⟨i, hi, hN⟩ := d1
      obtain ⟨j, hj, hM⟩ := d2
      subst hi hj
      exact h_br_ok (gD_pop (gD_pop h)) rfl rfl hM hN (fun hb => m_cmp_t hb) (fun hb => m_cmp_f hb) ho
  next => cases ho
def h_jmp (pc : Nat) (off : Int) (D : sD) : Option (List sN) := match m_tgt pc off with
  | some t => some [(t, D)]
  | none => none
theorem h_jmp_ok {pc : Nat} {off : Int} (h : gD Z wr w0 vs (K, C, lv, ss, al, wk) l st w) (ho : h_jmp pc off (K, C, lv, ss, al, wk) = some out) : sOK Z wr w0 vs w out (m_jmp pc off l st) := by
  unfold h_jmp at ho
  split at ho
  next t hm =>
    cases ho
    unfold m_jmp
    rw [hm]
    exact sOK_one (vL_refl vs) h
  next => cases ho
/-- ifnull (b) and ifnonnull -/
def h_nul (b : Bool) (pc : Nat) (off : Int) (D : sD) : Option (List sN) := match D with
  | (K, C, lv, x :: ss, r) => (match m_tgt pc off with
    | some t => bif Nat.beq x.1 8 then some [(bif b then t else pc + 3, (K, C, lv, ss, r))] else (bif (Nat.beq x.1 2 || Nat.beq x.1 5) then some [(bif b then pc + 3 else t, (K, C, lv, ss, r))] else (bif (Nat.beq x.1 3 || Nat.beq x.1 4) then some (h_two (k_ref K x.2.1 (-1) (-1)) (k_ref K x.2.1 0 0) (bif b then t else pc + 3) (bif b then pc + 3 else t) C lv ss r) else none))
    | none => none)
  | _ => none
theorem h_nul_ok {b : Bool} {pc : Nat} {off : Int} (h : gD Z wr w0 vs (K, C, lv, ss, al, wk) l st w) (ho : h_nul b pc off (K, C, lv, ss, al, wk) = some out) : sOK Z wr w0 vs w out (m_nul b pc off l st) := by
  unfold h_nul at ho
  split at ho
  next K' C' lv' x ss' r hD =>
    cases hD
    obtain ⟨v, r1, e1, d1, hr1⟩ := dnL_cons h.2.2.2.1
    subst e1
    have hp := gD_pop h
    split at ho
    next t hm =>
      obtain ⟨tg, a, c⟩ := x
      cases e8 : Nat.beq tg 8 with
      | true =>
        have := Nat.eq_of_beq_eq_true e8
        subst this
        simp only [show Nat.beq 8 8 = true from rfl, cond_true, Option.some.injEq] at ho
        subst ho
        have hv : v = .null := d1
        subst hv
        simp only [m_nul, m_br, hm]
        exact sOK_one (vL_refl vs) hp
      | false =>
        simp only [e8, cond_false] at ho
        cases e2 : (Nat.beq tg 2 || Nat.beq tg 5) with
        | true =>
          rw [e2] at ho
          cases ho
          rw [Bool.or_eq_true] at e2
          rcases e2 with e | e
          · have := Nat.eq_of_beq_eq_true e
            subst this
            have hv : v = .ref a := d1
            subst hv
            simp only [m_nul, m_br, hm]
            cases b <;> exact sOK_one (vL_refl vs) hp
          · have := Nat.eq_of_beq_eq_true e
            subst this
            have hv : v = .retAddr a := d1
            subst hv
            simp only [m_nul, m_br, hm]
            cases b <;> exact sOK_one (vL_refl vs) hp
        | false =>
          rw [e2] at ho
          simp only [cond_false] at ho
          cases e3 : (Nat.beq tg 3 || Nat.beq tg 4) with
          | false => rw [e3] at ho; cases ho
          | true =>
            rw [e3] at ho
            cases ho
            have key : ∃ u, vs[a]? = some u ∧ ((u = -1 ∧ v = .null) ∨ (u = 0 ∧ ∃ i, v = .ref i)) := by
              rw [Bool.or_eq_true] at e3
              rcases e3 with e | e
              · have := Nat.eq_of_beq_eq_true e
                subst this
                obtain ⟨u, h1, h2 | ⟨h2, i, h3, h4⟩⟩ := d1
                · exact ⟨u, h1, .inl h2⟩
                · exact ⟨u, h1, .inr ⟨h2, i, h3⟩⟩
              · have := Nat.eq_of_beq_eq_true e
                subst this
                obtain ⟨u, h1, h2 | ⟨h2, i, n, h3, h4⟩⟩ := d1
                · exact ⟨u, h1, .inl h2⟩
                · exact ⟨u, h1, .inr ⟨h2, i, h3⟩⟩
            obtain ⟨u, h1, h2 | ⟨h2, i, h3⟩⟩ := key
            · obtain ⟨hu, hv⟩ := h2
              subst hv
              obtain ⟨K1, e1, n1⟩ := k_ref_ok h.1 (lo := -1) (hi := -1) h1 (by omega) (by omega)
              simp only [m_nul, m_br, hm]
              exact ⟨_, vs, l, _, h_two_l e1, rfl, vL_refl vs, gD_new hp (vL_refl vs) n1 h.2.2.1 hr1⟩
            · subst h3
              obtain ⟨K1, e1, n1⟩ := k_ref_ok h.1 (lo := 0) (hi := 0) h1 (by omega) (by omega)
              simp only [m_nul, m_br, hm]
              refine ⟨_, vs, l, _, h_two_r e1, ?_, vL_refl vs, gD_new hp (vL_refl vs) n1 h.2.2.1 hr1⟩
              cases b <;> rfl
    next => cases ho
  next => cases ho
/-- the cases of a switch one after another -/
def h_sw (pc : Nat) (x : sV) (C : sC) (lv : sL) (ss : List sV) (r : (Nat × Nat) × Option sV) (d : Int) : List (Int × Int) → sK → Option (List sN)
  | [], K => (match m_tgt pc d with
    | some t => some [(t, (K, C, lv, ss, r))]
    | none => none)
  | q :: qs, K => (match m_tgt pc q.2 with
    | some t => (match (match k_asm K .ne x (0, 0, q.1) with
        | some K2 => h_sw pc x C lv ss r d qs K2
        | none => some []) with
      | some L => (match k_asm K .eq x (0, 0, q.1) with
        | some K1 => some ((t, (K1, C, lv, ss, r)) :: L)
        | none => some L)
      | none => none)
    | none => none)
theorem h_sw_ok {pc : Nat} {x : sV} {X d : Int} (hx7 : n7 x = true) (hx : vN vs x X) : ∀ (qs : List (Int × Int)) (K : sK) (out : List sN), gD Z wr w0 vs (K, C, lv, ss, al, wk) l st w → h_sw pc x C lv ss (al, wk) d qs K = some out → sOK Z wr w0 vs w out (m_jmp pc (Op.lookupswitch.offset qs d X) l st)
  | [], K, out, h, ho => by
    unfold h_sw at ho
    split at ho
    next t hm =>
      cases ho
      show sOK Z wr w0 vs w _ (m_jmp pc d l st)
      unfold m_jmp
      rw [hm]
      exact sOK_one (vL_refl vs) h
    next => cases ho
  | q :: qs, K, out, h, ho => by
    have hc := vN_cst h.1 (t := 0) rfl q.1
    unfold h_sw at ho
    split at ho
    next t hm =>
      by_cases e : q.1 = X
      · obtain ⟨K1, e1, n1⟩ := k_asm_ok (cd := .eq) h.1 hx7 rfl hx hc e.symm
        rw [e1] at ho
        have ho2 : ∃ L, out = (t, (K1, C, lv, ss, al, wk)) :: L := by
          split at ho
          · cases ho; exact ⟨_, rfl⟩
          · cases ho
        obtain ⟨L, rfl⟩ := ho2
        obtain ⟨q1, q2⟩ := q
        rw [Op.lookupswitch.offset_cons, if_pos e]
        unfold m_jmp
        rw [hm]
        exact ⟨_, vs, l, st, List.mem_cons_self, rfl, vL_refl vs, gD_new h (vL_refl vs) n1 h.2.2.1 h.2.2.2.1⟩
      · obtain ⟨K2, e2, n2⟩ := k_asm_ok (cd := .ne) h.1 hx7 rfl hx hc (fun h' => e h'.symm)
        rw [e2] at ho
        simp only at ho
        obtain ⟨q1, q2⟩ := q
        rw [Op.lookupswitch.offset_cons, if_neg e]
        split at ho
        next L hL =>
          have ih := h_sw_ok hx7 hx qs K2 L (gD_new h (vL_refl vs) n2 h.2.2.1 h.2.2.2.1) hL
          obtain ⟨y, vs', l', st', m1, m2⟩ := ih
          split at ho
          · cases ho; exact ⟨y, vs', l', st', List.mem_cons_of_mem _ m1, m2⟩
          · cases ho; exact ⟨y, vs', l', st', m1, m2⟩
        next => cases ho
    next => cases ho
def z_tab (lo : Int) : List Int → List (Int × Int)
  | [] => []
  | o :: os => (lo, o) :: z_tab (lo + 1) os
theorem z_tab_out : ∀ (os : List Int) (lo d X : Int), (X < lo ∨ lo + os.length ≤ X) → Op.lookupswitch.offset (z_tab lo os) d X = d
  | [], _, _, _, _ => rfl
  | o :: os, lo, d, X, h => by
    unfold z_tab
    rw [Op.lookupswitch.offset_cons]
    rw [List.length_cons] at h
    rw [if_neg (by omega)]
    exact z_tab_out os (lo + 1) d X (by omega)
theorem z_tab_in : ∀ (os : List Int) (lo d X : Int) (o : Int), lo ≤ X → os[(X - lo).toNat]? = some o → Op.lookupswitch.offset (z_tab lo os) d X = o
  | [], _, _, _, _, _, h => by simp at h
  | p :: os, lo, d, X, o, hl, h => by
    unfold z_tab
    rw [Op.lookupswitch.offset_cons]
    by_cases e : lo = X
    · subst e
      rw [if_pos rfl]
      simp at h
      exact h
    · rw [if_neg e]
      refine z_tab_in os (lo + 1) d X o (by omega) ?_
      rw [show (X - lo).toNat = (X - (lo + 1)).toNat + 1 by omega, List.getElem?_cons_succ] at h
      exact h
def h_ts (d lo hi : Int) (offs : Array Int) (pc : Nat) (D : sD) : Option (List sN) := match D with
  | (K, C, lv, x :: ss, r) => bif (Nat.beq x.1 0 && z_eq (lo + Int.ofNat offs.toList.length) (hi + 1)) then h_sw pc x C lv ss r d (z_tab lo offs.toList) K else none
  | _ => none
theorem h_ts_ok {d lo hi : Int} {offs : Array Int} {pc nL : Nat} (h : gD Z wr w0 vs (K, C, lv, ss, al, wk) l st w) (ho : h_ts d lo hi offs pc (K, C, lv, ss, al, wk) = some out) : sOK Z wr w0 vs w out (m_pure nL (.tableswitch d lo hi offs) pc l st) := by
  unfold h_ts at ho
  split at ho
  next K' C' lv' x ss' r hD =>
    cases hD
    obtain ⟨v, r1, e1, d1, hr1⟩ := dnL_cons h.2.2.2.1
    subst e1
    cases e : (Nat.beq x.1 0 && z_eq (lo + Int.ofNat offs.toList.length) (hi + 1)) with
    | false => rw [e] at ho; cases ho
    | true =>
      rw [e] at ho
      rw [Bool.and_eq_true, z_eq_iff] at e
      obtain ⟨t, a, c⟩ := x
      have e1 := Nat.eq_of_beq_eq_true e.1
      simp only at e1
      subst e1
      obtain ⟨i, hi', hN⟩ := d1
      subst hi'
      have hlen : lo + (offs.toList.length : Int) = hi + 1 := e.2
      have r := h_sw_ok rfl hN _ _ _ (gD_pop h) ho
      simp only [m_pure]
      by_cases ho2 : i.toInt < lo ∨ hi < i.toInt
      · rw [if_pos ho2]
        rw [z_tab_out _ _ _ _ (by omega)] at r
        exact r
      · rw [if_neg ho2]
        have hlt : (i.toInt - lo).toNat < offs.toList.length := by omega
        have hg : offs.toList[(i.toInt - lo).toNat]? = some (offs.toList[(i.toInt - lo).toNat]) := List.getElem?_eq_getElem hlt
        have hg2 : offs[(i.toInt - lo).toNat]? = some (offs.toList[(i.toInt - lo).toNat]) := by rw [← Array.getElem?_toList]; exact hg
        rw [z_tab_in _ _ _ _ _ (by omega) hg] at r
        rw [hg2]
        exact r
  next => cases ho
def h_ls (d : Int) (ps : Array (Int × Int)) (pc : Nat) (D : sD) : Option (List sN) := match D with
  | (K, C, lv, x :: ss, r) => bif (Nat.beq x.1 0 && m_srt ps.toList) then h_sw pc x C lv ss r d ps.toList K else none
  | _ => none
theorem h_ls_ok {d : Int} {ps : Array (Int × Int)} {pc nL : Nat} (h : gD Z wr w0 vs (K, C, lv, ss, al, wk) l st w) (ho : h_ls d ps pc (K, C, lv, ss, al, wk) = some out) : sOK Z wr w0 vs w out (m_pure nL (.lookupswitch d ps) pc l st) := by
  unfold h_ls at ho
  split at ho
  next K' C' lv' x ss' r hD =>
    cases hD
    obtain ⟨v, r1, e1, d1, hr1⟩ := dnL_cons h.2.2.2.1
    subst e1
    cases e : (Nat.beq x.1 0 && m_srt ps.toList) with
    | false => rw [e] at ho; cases ho
    | true =>
      rw [e] at ho
      rw [Bool.and_eq_true] at e
      obtain ⟨t, a, c⟩ := x
      have e1 := Nat.eq_of_beq_eq_true e.1
      simp only at e1
      subst e1
      obtain ⟨i, hi', hN⟩ := d1
      subst hi'
      have r := h_sw_ok rfl hN _ _ _ (gD_pop h) ho
      simp only [m_pure, e.2, if_true]
      exact r
  next => cases ho
end PURE2
