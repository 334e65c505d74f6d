/-! THE LAW'S ROUND, WITH PAIRS AND ANY RELATION THAT OTHER CALLS KEEP -/
def prQ3 (Z : zDt) (R : mWd → Prop) (p : zPr) (w : mWd) (v v2 : Option Value) (w2 : mWd) : Prop := (∃ x y : Int32, v = some (.int x) ∧ v2 = some (.int y) ∧ (p.2.2.2.1 = true → x = y)) ∧ WI Z w2 ∧ wkR [] none w2 ∧ R w2 ∧ w2.length ≤ w.length + p.2.2.2.2.2.2.1.1 ∧ m_sl w2 ≤ m_sl w + p.2.2.2.2.2.2.1.2
def l_inv3 (Z : zDt) (T : zTb) (kp : zWr → Bool) (PS : List zPr) (y : Nat) (st : List lE) (al : Nat × Nat) : Option zPr → Option (List lE × (Nat × Nat) × Option zPr)
  | some p => bif Nat.beq y p.2.1 then (match l_ex p.2.2.1 st with
    | some ((1, cl, _) :: r) => bif ((z_eq cl 69 && Nat.beq (pgA y) p.2.2.1) && (l_rcv Z y 69 && (Nat.ble r.length 8 && (Nat.ble (pgA y + 1) (pgL y) && m_pl y)))) then some ((bif p.2.2.2.1 then (5, 0, 0) else (2, -2147483648, 2147483647)) :: r, (al.1 + p.2.2.2.2.2.2.1.1, al.2 + p.2.2.2.2.2.2.1.2), none) else none
    | _ => none) else none
  | none => (match pr_get y PS with
    | some p => (match l_ex p.2.2.1 st with
      | some ((1, cl, _) :: r) => bif ((z_eq cl 0 && Nat.beq (pgA y) p.2.2.1) && (l_rcv Z y 0 && (Nat.ble r.length 0 && (Nat.ble (pgA y + 1) (pgL y) && m_pl y)))) then some ((5, 0, 0) :: r, al, some p) else none
      | _ => none)
    | none => (match l_ints2 (pgA y) st with
      | some ((1, cl, _) :: r) => bif (l_rcv Z y cl.toNat && (Nat.ble r.length 8 && (Nat.ble (pgA y + 1) (pgL y) && m_pl y))) then (match l_con T y cl.toNat (pgA y) with
        | some q => bif kp q.2.2.2 then some ((2, q.1, q.2.1) :: r, (al.1 + q.2.2.1.1, al.2 + q.2.2.1.2), none) else none
        | none => none) else none
      | _ => none))
def lk3 (Z : zDt) (T : zTb) (kp : zWr → Bool) (PS : List zPr) : Nat → Nat → List lE → Nat × Nat → Option zPr → Bool
  | 0, _, _, _, _ => false
  | n + 1, pc, st, al, pd => bif Nat.beq pc 1904 then (match st, pd with
      | [], none => Nat.ble al.1 1 && Nat.ble al.2 161
      | _, _ => false) else (match pgF 274 pc with
    | none => false
    | some (ins, _) => (match ins, st with
      | .aload_n 0, st => lk3 Z T kp PS n (pc + 1) ((0, 0, 0) :: st) al pd
      | .aload_n 1, st => lk3 Z T kp PS n (pc + 1) ((1, 0, 0) :: st) al pd
      | .aload_n 2, st => lk3 Z T kp PS n (pc + 1) ((1, 69, 0) :: st) al pd
      | .iload_n 3, st => lk3 Z T kp PS n (pc + 1) ((3, 0, 0) :: st) al pd
      | .iconst k, st => bif z_in 0 k k then lk3 Z T kp PS n (pc + 1) ((2, k, k) :: st) al pd else false
      | .bipush k, st => bif (z_le (-128) k && z_le k 127) then lk3 Z T kp PS n (pc + 2) ((2, k, k) :: st) al pd else false
      | .iadd, (2, a, b) :: (3, c, _) :: st => bif (z_eq a b && (z_le 0 (c + a) && z_le (c + a) 5)) then lk3 Z T kp PS n (pc + 1) ((3, c + a, 0) :: st) al pd else false
      | .iaload, (3, c, _) :: (0, _, _) :: st => bif (z_le 0 c && z_le c 5) then lk3 Z T kp PS n (pc + 1) ((4, c, 0) :: st) al pd else false
      | .iand, a :: b :: st => bif (l_int a && l_int b) then lk3 Z T kp PS n (pc + 1) ((2, -2147483648, 2147483647) :: st) al pd else false
      | .pop, _ :: st => lk3 Z T kp PS n (pc + 1) st al pd
      | .goto off, st => (match m_tgt pc off with
        | some t => lk3 Z T kp PS n t st al pd
        | none => false)
      | .tableswitch dd lo hi offs, e :: st => (l_int e && z_eq (lo + Int.ofNat offs.toList.length) (hi + 1)) && ((match m_tgt pc dd with
          | some t => lk3 Z T kp PS n t st al pd
          | none => false) && offs.toList.all (fun off => match m_tgt pc off with
          | some t => lk3 Z T kp PS n t st al pd
          | none => false))
      | .if_icmp .eq off, a :: b :: st => bif l_same a b then (match m_tgt pc off with
        | some t => lk3 Z T kp PS n t st al pd
        | none => false) else false
      | .invokevirtual ix, st => (match pgRs 274 ix with
        | some (6, y, _) => (match l_inv3 Z T kp PS y st al pd with
          | some q => lk3 Z T kp PS n (pc + 3) q.1 q.2.1 q.2.2
          | none => false)
        | _ => false)
      | _, _ => false))
def S3 (Z : zDt) (R : mWd → Prop) (L : Nat) (xs : Nat → Int32) (d : Nat) (i : Int32) (w0 : mWd) (al : Nat × Nat) (r0 : Int32) (w : mWd) : Option zPr → Prop
  | none => LW Z w0 al w ∧ R w
  | some p => ∃ wp, LW Z w0 al wp ∧ WI Z w ∧ Rn L xs d p.2.1 0 (lv_args 0 (.ref 69 :: (l_as xs i p.2.2.1).map Value.int)) [] w (fun v2 w2 => prQ3 Z R p wp (some (.int r0)) v2 w2)
/-- what is left after a call -/
theorem l_inv3_ok {Z : zDt} {T : zTb} {kp : zWr → Bool} {R : mWd → Prop} {PS : List zPr} {L : Nat} {xs : Nat → Int32} {d pc ix y : Nat} {q9 : Int} {i r0 : Int32} {w0 : mWd} {Q : Option Value → mWd → Prop} {q : List lE × (Nat × Nat) × Option zPr} {al : Nat × Nat} {pd : Option zPr} {es : List lE} {st : List Value} {w : mWd} {kk : Nat} (hkp : ∀ (wr : zWr) (w w1 : mWd), WI Z w → R w → WI Z w1 → fR wr w w1 → kp wr = true → R w1) (hall : ∀ (o r y : Nat) (c : zKt), T.getD y none = some (o, c) → zCall Z L xs y c r) (hd : 700 ≤ d) (hps : ∀ p ∈ PS, ∀ (w : mWd) (as : List Int32), WI Z w → wkR [] none w → R w → as.length = p.2.2.1 → Rn L xs d p.1 0 (lv_args 0 (.ref 0 :: as.map Value.int)) [] w (fun v w1 => WI Z w1 ∧ Rn L xs d p.2.1 0 (lv_args 0 (.ref 69 :: as.map Value.int)) [] w1 (fun v2 w2 => prQ3 Z R p w v v2 w2))) (hf : pgF 274 pc = some (.invokevirtual ix, kk)) (hr : pgRs 274 ix = some (6, y, q9)) (h : l_inv3 Z T kp PS y es al pd = some q) (hs : lR2L xs i r0 es st) (hw : S3 Z R L xs d i w0 al r0 w pd) (hN : ∀ (r1 : Int32) (st1 : List Value) (w1 : mWd), lR2L xs i r1 q.1 st1 → S3 Z R L xs d i w0 q.2.1 r1 w1 q.2.2 → Rn L xs (d + 1) 274 (pc + 3) (lL i) st1 w1 Q) : Rn L xs (d + 1) 274 pc (lL i) st w Q := by
  cases pd with
  | some p =>
    simp only [l_inv3] at h
    cases ey : Nat.beq y p.2.1 with
    | false => rw [ey] at h; cases h
    | true =>
      rw [ey] at h
      simp only [cond_true] at h
      have ey := Nat.eq_of_beq_eq_true ey
      subst ey
      split at h
      next cl c2 r hli =>
        cases e : ((z_eq cl 69 && Nat.beq (pgA p.2.1) p.2.2.1) && (l_rcv Z p.2.1 69 && (Nat.ble r.length 8 && (Nat.ble (pgA p.2.1 + 1) (pgL p.2.1) && m_pl p.2.1)))) with
        | false => rw [e] at h; cases h
        | true =>
          rw [e] at h
          cases h
          rw [Bool.and_eq_true, Bool.and_eq_true, Bool.and_eq_true, Bool.and_eq_true, Bool.and_eq_true, z_eq_iff] at e
          obtain ⟨⟨e0, eA⟩, g1, g2, g3, g4⟩ := e
          have eA := Nat.eq_of_beq_eq_true eA
          subst e0
          obtain ⟨wp, hwp, hW, hRn⟩ := hw
          obtain ⟨rst, a2, a3⟩ := l_ex_ok [] hs hli
          obtain ⟨v, r2, e2, d2, hr2⟩ := lR2L_cons a3
          subst e2
          have hv : v = .ref 69 := d2
          subst hv
          rw [← eA] at a2
          refine Rn.call hf (l_stp hr a2 (l_as_len _) (l_rcv_ok hW g1) (by rw [lR2L_cat hr2]; exact Nat.le_of_ble_eq_true g2) g3 g4) ?_
          rw [eA]
          refine hRn.mono (fun v2 w2 hq => ?_)
          obtain ⟨⟨x, y, hx, hy, hxy⟩, q1, q2, q3, q4, q5⟩ := hq
          cases hx
          subst hy
          refine hN r0 (.int y :: r2) w2 ⟨?_, hr2⟩ ⟨⟨q1, q2, ?_, ?_⟩, q3⟩
          · cases ee : p.2.2.2.1 with
            | true =>
              have := hxy ee
              subst this
              rfl
            | false => exact ⟨y, rfl, (i32_rg _).1, (i32_rg _).2⟩
          · have := hwp.2.2.1; show w2.length ≤ w0.length + (al.1 + p.2.2.2.2.2.2.1.1); omega
          · have := hwp.2.2.2; show m_sl w2 ≤ m_sl w0 + (al.2 + p.2.2.2.2.2.2.1.2); omega
      next => cases h
  | none =>
    simp only [l_inv3] at h
    split at h
    next p hp =>
      obtain ⟨hm, ey⟩ := pr_get_ok hp
      subst ey
      split at h
      next cl c2 r hli =>
        cases e : ((z_eq cl 0 && Nat.beq (pgA p.1) p.2.2.1) && (l_rcv Z p.1 0 && (Nat.ble r.length 0 && (Nat.ble (pgA p.1 + 1) (pgL p.1) && m_pl p.1)))) with
        | false => rw [e] at h; cases h
        | true =>
          rw [e] at h
          cases h
          rw [Bool.and_eq_true, Bool.and_eq_true, Bool.and_eq_true, Bool.and_eq_true, Bool.and_eq_true, z_eq_iff] at e
          obtain ⟨⟨e0, eA⟩, g1, g2, g3, g4⟩ := e
          have eA := Nat.eq_of_beq_eq_true eA
          subst e0
          have hr0 : r = [] := by
            cases r with
            | nil => rfl
            | cons a b => exact absurd (Nat.le_of_ble_eq_true g2) (by simp)
          subst hr0
          obtain ⟨rst, a2, a3⟩ := l_ex_ok [] hs hli
          obtain ⟨v, r2, e2, d2, hr2⟩ := lR2L_cons a3
          subst e2
          have hv : v = .ref 0 := d2
          subst hv
          rw [← eA] at a2
          refine Rn.call hf (l_stp hr a2 (l_as_len _) (l_rcv_ok hw.1.1 g1) (by rw [lR2L_cat hr2]; exact Nat.zero_le _) g3 g4) ?_
          rw [eA]
          refine (hps p hm w _ hw.1.1 hw.1.2.1 hw.2 (l_as_len _)).mono (fun v w1 hq => ?_)
          obtain ⟨hW1, hRn⟩ := hq
          obtain ⟨n, v2, w2, k1, ⟨x, y, hx, hy, hxy⟩, k2⟩ := id hRn
          subst hx
          exact hN x (.int x :: r2) w1 ⟨rfl, by rw [lR2L_nil hr2]; trivial⟩ ⟨w, hw.1, hW1, hRn⟩
      next => cases h
    next hp =>
      split at h
      next cl c2 r hli =>
        cases e : (l_rcv Z y cl.toNat && (Nat.ble r.length 8 && (Nat.ble (pgA y + 1) (pgL y) && m_pl y))) with
        | false => rw [e] at h; cases h
        | true =>
          rw [e] at h
          simp only [cond_true] at h
          rw [Bool.and_eq_true, Bool.and_eq_true, Bool.and_eq_true] at e
          obtain ⟨g1, g2, g3, g4⟩ := e
          split at h
          next qq hq =>
            cases er : kp qq.2.2.2 with
            | false => rw [er] at h; cases h
            | true =>
              rw [er] at h
              cases h
              obtain ⟨as, rst, a1, a2, a3⟩ := l_ints2_ok [] hs hli
              obtain ⟨v, r2, e2, d2, hr2⟩ := lR2L_cons a3
              subst e2
              have hv : v = .ref cl.toNat := d2
              subst hv
              refine Rn.call hf (l_stp hr a2 a1 (l_rcv_ok hw.1.1 g1) (by rw [lR2L_cat hr2]; exact Nat.le_of_ble_eq_true g2) g3 g4) ?_
              refine l_call hall hq hw.1.1 hw.1.2.1 a1 hd ?_
              intro x w1 b1 b2 b3 b4 b5 b6 b7
              refine hN r0 (.int x :: r2) w1 ⟨⟨x, rfl, b1, b2⟩, hr2⟩ ⟨⟨b3, b4, ?_, ?_⟩, hkp _ _ _ hw.1.1 hw.2 b3 b7 er⟩
              · have := hw.1.2.2.1; show w1.length ≤ w0.length + (al.1 + qq.2.2.1.1); omega
              · have := hw.1.2.2.2; show m_sl w1 ≤ m_sl w0 + (al.2 + qq.2.2.1.2); omega
          next => cases h
      next => cases h
theorem lk3_ok {Z : zDt} {T : zTb} {kp : zWr → Bool} {R : mWd → Prop} {PS : List zPr} {L : Nat} {xs : Nat → Int32} {d : Nat} {i : Int32} {w0 : mWd} {Q : Option Value → mWd → Prop} (hkp : ∀ (wr : zWr) (w w1 : mWd), WI Z w → R w → WI Z w1 → fR wr w w1 → kp wr = true → R w1) (hall : ∀ (o r y : Nat) (c : zKt), T.getD y none = some (o, c) → zCall Z L xs y c r) (hd : 700 ≤ d) (hps : ∀ p ∈ PS, ∀ (w : mWd) (as : List Int32), WI Z w → wkR [] none w → R w → as.length = p.2.2.1 → Rn L xs d p.1 0 (lv_args 0 (.ref 0 :: as.map Value.int)) [] w (fun v w1 => WI Z w1 ∧ Rn L xs d p.2.1 0 (lv_args 0 (.ref 69 :: as.map Value.int)) [] w1 (fun v2 w2 => prQ3 Z R p w v v2 w2))) (hi0 : 0 ≤ i.toInt) (hi1 : i.toInt + 5 < (L : Int)) (hL : L ≤ 3072) (hEnd : ∀ w, LW Z w0 (1, 161) w → R w → Rn L xs (d + 1) 274 1904 (lL i) [] w Q) : ∀ (n pc : Nat) (es : List lE) (al : Nat × Nat) (pd : Option zPr), lk3 Z T kp PS n pc es al pd = true → ∀ (r0 : Int32) (st : List Value) (w : mWd), lR2L xs i r0 es st → S3 Z R L xs d i w0 al r0 w pd → Rn L xs (d + 1) 274 pc (lL i) st w Q := by
  intro n
  induction n with
  | zero => intro pc es al pd h; cases h
  | succ n ih =>
    intro pc es al pd h r0 st w hs hw
    unfold lk3 at h
    cases ep : Nat.beq pc 1904 with
    | true =>
      rw [ep] at h
      have := Nat.eq_of_beq_eq_true ep
      subst this
      simp only [cond_true] at h
      split at h
      · rw [Bool.and_eq_true] at h
        have e := lR2L_nil hs
        subst e
        have h1 := Nat.le_of_ble_eq_true h.1
        have h2 := Nat.le_of_ble_eq_true h.2
        refine hEnd w ⟨hw.1.1, hw.1.2.1, ?_, ?_⟩ hw.2
        · have := hw.1.2.2.1; show w.length ≤ w0.length + 1; omega
        · have := hw.1.2.2.2; show m_sl w ≤ m_sl w0 + 161; omega
      · cases h
    | false =>
      rw [ep] at h
      simp only [cond_false] at h
      split at h
      next => cases h
      next ins kk hf =>
        split at h
        · exact Rn.step hf (by rfl) (ih _ _ _ _ h r0 (.retAddr 0 :: st) w ⟨rfl, hs⟩ hw)
        · exact Rn.step hf (by rfl) (ih _ _ _ _ h r0 (.ref 0 :: st) w ⟨rfl, hs⟩ hw)
        · exact Rn.step hf (by rfl) (ih _ _ _ _ h r0 (.ref 69 :: st) w ⟨rfl, hs⟩ hw)
        · exact Rn.step hf (by rfl) (ih _ _ _ _ h r0 (.int i :: st) w ⟨⟨i, rfl, by show i.toInt = i.toInt + 0; omega⟩, hs⟩ hw)
        · next k =>
          cases e : z_in 0 k k with
          | false => rw [e] at h; cases h
          | true =>
            rw [e] at h
            have hk := z_in_iff.mp e
            have hv : (Int32.ofInt k).toInt = k := by rw [Int32.toInt_ofInt]; exact z_bm0 hk
            exact Rn.step hf (by rfl) (ih _ _ _ _ h r0 (.int (Int32.ofInt k) :: st) w ⟨⟨_, rfl, by show k ≤ _; omega, by show _ ≤ k; omega⟩, hs⟩ hw)
        · next k =>
          cases e : (z_le (-128) k && z_le k 127) with
          | false => rw [e] at h; cases h
          | true =>
            rw [e] at h
            rw [Bool.and_eq_true, z_le_iff, z_le_iff] at e
            have hv : (Int8.ofInt k).toInt32.toInt = k := by
              rw [Int8.toInt_toInt32, Int8.toInt_ofInt, show Int8.size = 256 from rfl, Int.bmod_def]; omega
            exact Rn.step hf (by rfl) (ih _ _ _ _ h r0 (.int (Int8.ofInt k).toInt32 :: st) w ⟨⟨_, rfl, by show k ≤ _; omega, by show _ ≤ k; omega⟩, hs⟩ hw)
        · next a b c _ st' =>
          cases e : (z_eq a b && (z_le 0 (c + a) && z_le (c + a) 5)) with
          | false => rw [e] at h; cases h
          | true =>
            rw [e] at h
            rw [Bool.and_eq_true, Bool.and_eq_true, z_eq_iff, z_le_iff, z_le_iff] at e
            obtain ⟨v1, r1, e1, d1, hr1⟩ := lR2L_cons hs
            obtain ⟨v2, r2, e2, d2, hr2⟩ := lR2L_cons hr1
            subst e1 e2
            obtain ⟨y, hy, y1, y2⟩ := d1
            obtain ⟨x, hx, x1⟩ := d2
            subst hy hx
            simp only at y1 y2 x1
            have hsum : (x + y).toInt = i.toInt + (c + a) := by
              rw [Int32.toInt_add, z_bm0 ⟨by show (-2147483648 : Int) ≤ _; omega, by show _ ≤ (2147483647 : Int); omega⟩]
              omega
            exact Rn.step hf (by rfl) (ih _ _ _ _ h r0 (.int (x + y) :: r2) w ⟨⟨_, rfl, hsum⟩, hr2⟩ hw)
        · next c _ _ _ st' =>
          cases e : (z_le 0 c && z_le c 5) with
          | false => rw [e] at h; cases h
          | true =>
            rw [e] at h
            rw [Bool.and_eq_true, z_le_iff, z_le_iff] at e
            obtain ⟨v1, r1, e1, d1, hr1⟩ := lR2L_cons hs
            obtain ⟨v2, r2, e2, d2, hr2⟩ := lR2L_cons hr1
            subst e1 e2
            obtain ⟨x, hx, x1⟩ := d1
            have hv2 : v2 = .retAddr 0 := d2
            subst hx hv2
            simp only at x1
            obtain ⟨m1, m2, m3, m4⟩ := m_nb_ok (j := x) (n := L) (by omega) (by omega)
            have hm : m_xld L xs 0 0 x = some (.int (xs x.toNatClampNeg)) := by
              show (if m_in x L = true ∧ ((0 = 0 ∧ 0 = 0) ∨ (0 = 1 ∧ 0 = 5)) then some (Value.int (xs x.toNatClampNeg)) else none) = _
              rw [if_pos ⟨m1, .inl ⟨rfl, rfl⟩⟩]
            have hat : xs x.toNatClampNeg = l_at xs i c := by
              unfold l_at
              rw [← x1]
              rfl
            exact Rn.step hf (by simp only [m_step, hm]; rfl) (ih _ _ _ _ h r0 (.int (xs x.toNatClampNeg) :: r2) w ⟨by show Value.int _ = .int (l_at xs i c); rw [hat], hr2⟩ hw)
        · next a b st' =>
          cases e : (l_int a && l_int b) with
          | false => rw [e] at h; cases h
          | true =>
            rw [e] at h
            rw [Bool.and_eq_true] at e
            obtain ⟨v1, r1, e1, d1, hr1⟩ := lR2L_cons hs
            obtain ⟨v2, r2, e2, d2, hr2⟩ := lR2L_cons hr1
            subst e1 e2
            obtain ⟨y, hy⟩ := l_int_ok d1 e.1
            obtain ⟨x, hx⟩ := l_int_ok d2 e.2
            subst hy hx
            exact Rn.step hf (by rfl) (ih _ _ _ _ h r0 (.int (x &&& y) :: r2) w ⟨⟨_, rfl, (i32_rg _).1, (i32_rg _).2⟩, hr2⟩ hw)
        · next e0 st' =>
          obtain ⟨v1, r1, e1, d1, hr1⟩ := lR2L_cons hs
          subst e1
          have hc : m_c1 v1 = true := by
            have := lR2_cat d1
            cases v1 <;> first | rfl | (cases this; done)
          exact Rn.step hf (by simp only [m_step, m_pure, hc, if_true]; rfl) (ih _ _ _ _ h r0 r1 w hr1 hw)
        · next off _ =>
          split at h
          next t ht => exact Rn.step hf (by simp only [m_step, m_pure, m_jmp, ht]; rfl) (ih _ _ _ _ h r0 st w hs hw)
          next => cases h
        · next dd lo hi offs e0 st' =>
          rw [Bool.and_eq_true, Bool.and_eq_true, Bool.and_eq_true, z_eq_iff] at h
          obtain ⟨⟨h0, h1⟩, h2, h3⟩ := h
          have hlen : lo + (offs.toList.length : Int) = hi + 1 := h1
          obtain ⟨v1, r1, e1, d1, hr1⟩ := lR2L_cons hs
          subst e1
          obtain ⟨x, hx⟩ := l_int_ok d1 h0
          subst hx
          by_cases ho : x.toInt < lo ∨ hi < x.toInt
          · split at h2
            next t ht => exact Rn.step hf (by simp only [m_step, m_pure, if_pos ho, m_jmp, ht]; rfl) (ih _ _ _ _ h2 r0 r1 w hr1 hw)
            next => cases h2
          · have hlt : (x.toInt - lo).toNat < offs.toList.length := by omega
            have hg : offs.toList[(x.toInt - lo).toNat]? = some (offs.toList[(x.toInt - lo).toNat]) := List.getElem?_eq_getElem hlt
            have hg2 : offs[(x.toInt - lo).toNat]? = some (offs.toList[(x.toInt - lo).toNat]) := by rw [← Array.getElem?_toList]; exact hg
            have h4 := List.all_eq_true.mp h3 _ (List.mem_of_getElem? hg)
            split at h4
            next t ht => exact Rn.step hf (by simp only [m_step, m_pure, if_neg ho, hg2, m_jmp, ht]; rfl) (ih _ _ _ _ h4 r0 r1 w hr1 hw)
            next => cases h4
        · next off a b st' =>
          cases e : l_same a b with
          | false => rw [e] at h; cases h
          | true =>
            rw [e] at h
            simp only [cond_true] at h
            obtain ⟨v1, r1, e1, d1, hr1⟩ := lR2L_cons hs
            obtain ⟨v2, r2, e2, d2, hr2⟩ := lR2L_cons hr1
            subst e1 e2
            obtain ⟨x, hx, hy⟩ := l_same_ok e d1 d2
            subst hx hy
            split at h
            next t ht => exact Rn.step hf (by simp only [m_step, m_pure, m_br, ht, m_cmp, decide_true]; rfl) (ih _ _ _ _ h r0 r2 w hr2 hw)
            next => cases h
        · next ix =>
          split at h
          next y q hr =>
            split at h
            next qq hq => exact l_inv3_ok hkp hall hd hps hf hr hq hs hw (fun r1 st1 w1 a b => ih _ _ _ _ h r1 st1 w1 a b)
            next => cases h
          next => cases h
        · cases h
/-- the loop, from its head on, the equal parts kept -/
theorem l_loop3 {Z : zDt} {T : zTb} {kp : zWr → Bool} {R : mWd → Prop} {PS : List zPr} {L : Nat} {xs : Nat → Int32} {d N : Nat} {wS : mWd} (hkp : ∀ (wr : zWr) (w w1 : mWd), WI Z w → R w → WI Z w1 → fR wr w w1 → kp wr = true → R w1) (hall : ∀ (o r y : Nat) (c : zKt), T.getD y none = some (o, c) → zCall Z L xs y c r) (hd : 700 ≤ d) (hps : ∀ p ∈ PS, ∀ (w : mWd) (as : List Int32), WI Z w → wkR [] none w → R w → as.length = p.2.2.1 → Rn L xs d p.1 0 (lv_args 0 (.ref 0 :: as.map Value.int)) [] w (fun v w1 => WI Z w1 ∧ Rn L xs d p.2.1 0 (lv_args 0 (.ref 69 :: as.map Value.int)) [] w1 (fun v2 w2 => prQ3 Z R p w v v2 w2))) (hL : L ≤ 3072) (hlk : lk3 Z T kp PS N 27 [] (0, 0) none = true) : ∀ (m k : Nat) (w : mWd), k + m = 512 → LW Z wS (k, 161 * k) w → R w → Rn L xs (d + 1) 274 18 (lL (Int32.ofNat (6 * k))) [] w (fun v w1 => v = some (.int 1) ∧ LW Z wS (512, 161 * 512) w1) := by
  intro m
  induction m with
  | zero =>
    intro k w hk hw hR
    refine l_head hL (by omega) (fun _ => ⟨rfl, hw.1, hw.2.1, ?_, ?_⟩) (fun h => by omega)
    · have := hw.2.2.1; simp only at this ⊢; omega
    · have := hw.2.2.2; simp only at this ⊢; omega
  | succ m ih =>
    intro k w hk hw hR
    refine l_head hL (by omega) (fun _ => ⟨rfl, hw.1, hw.2.1, ?_, ?_⟩) (fun h => ?_)
    · have := hw.2.2.1; simp only at this ⊢; omega
    · have := hw.2.2.2; simp only at this ⊢; omega
    · have hki := i32_nat (show 6 * k < 2147483648 by omega)
      refine lk3_ok (w0 := w) hkp hall hd hps (by omega) (by omega) hL (fun w' hw' hR' => ?_) N 27 [] (0, 0) none hlk 0 [] w trivial ⟨⟨hw.1, hw.2.1, Nat.le_refl _, Nat.le_refl _⟩, hR⟩
      refine Rn.step (hf := by rfl) (hs := by rfl) ?_
      refine Rn.step (hf := by rfl) (hs := by rfl) ?_
      have h6 : Int32.ofNat (6 * k) + Int32.ofInt 6 = Int32.ofNat (6 * (k + 1)) := by
        apply Int32.toInt_inj.mp
        rw [Int32.toInt_add, hki, i32_nat (by omega), show (Int32.ofInt 6).toInt = 6 by decide, z_bm0 ⟨by show (-2147483648 : Int) ≤ _; omega, by show _ ≤ (2147483647 : Int); omega⟩]
        omega
      have hn := ih (k + 1) w' (by omega) ⟨hw'.1, hw'.2.1, by have h1 := hw'.2.2.1; have h2 := hw.2.2.1; simp only at h1 h2 ⊢; omega, by have h1 := hw'.2.2.2; have h2 := hw.2.2.2; simp only at h1 h2 ⊢; omega⟩ hR'
      rw [← h6] at hn
      exact hn
