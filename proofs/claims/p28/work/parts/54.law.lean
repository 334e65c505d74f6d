/-! THE LAW'S LOOP: what a round of it does, by a small checker of its own -/
abbrev lE : Type := Nat × Int × Int
def lR (i : Int32) (e : lE) (v : Value) : Prop := match e.1 with
  | 0 => v = .retAddr 0
  | 1 => v = .ref e.2.1.toNat
  | 2 => ∃ x : Int32, v = .int x ∧ e.2.1 ≤ x.toInt ∧ x.toInt ≤ e.2.2
  | 3 => ∃ x : Int32, v = .int x ∧ x.toInt = i.toInt + e.2.1
  | _ => False
def lRL (i : Int32) : List lE → List Value → Prop
  | [], [] => True
  | e :: es, v :: vs => lR i e v ∧ lRL i es vs
  | _, _ => False
theorem lRL_cons {i : Int32} {e : lE} {es : List lE} {st : List Value} (h : lRL i (e :: es) st) : ∃ v r, st = v :: r ∧ lR i e v ∧ lRL i es r := by
  cases st with
  | nil => exact h.elim
  | cons v r => exact ⟨v, r, rfl, h.1, h.2⟩
theorem lRL_nil {i : Int32} {st : List Value} (h : lRL i [] st) : st = [] := by
  cases st with
  | nil => rfl
  | cons v r => exact h.elim
theorem lRL_len {i : Int32} : ∀ {es : List lE} {st : List Value}, lRL i es st → st.length = es.length
  | [], [], _ => rfl
  | _ :: _, _ :: _, h => by simp [lRL_len h.2]
  | [], _ :: _, h => h.elim
  | _ :: _, [], h => h.elim
theorem lR_cat {i : Int32} {e : lE} {v : Value} (h : lR i e v) : v.category = 1 := by
  obtain ⟨t, a, b⟩ := e
  unfold lR at h
  match t, h with
  | 0, h => subst h; rfl
  | 1, h => subst h; rfl
  | 2, ⟨x, h, _⟩ => subst h; rfl
  | 3, ⟨x, h, _⟩ => subst h; rfl
  | n + 4, h => exact h.elim
theorem lRL_cat {i : Int32} : ∀ {es : List lE} {st : List Value}, lRL i es st → m_cat st = es.length
  | [], [], _ => rfl
  | e :: es, v :: st, h => by
    have ih := lRL_cat h.2
    unfold m_cat at ih ⊢
    rw [List.map_cons, List.sum_cons, ih, lR_cat h.1, List.length_cons]
    omega
  | [], _ :: _, h => h.elim
  | _ :: _, [], h => h.elim
/-- the ints of a call: n of them, any -/
def l_ints : Nat → List lE → Option (List lE)
  | 0, st => some st
  | n + 1, e :: st => bif Nat.beq e.1 2 then l_ints n st else none
  | _ + 1, [] => none
theorem l_ints_ok {i : Int32} : ∀ {n : Nat} {es r : List lE} {st : List Value} (acc : List Value), lRL i es st → l_ints n es = some r → ∃ (as : List Int32) (rst : List Value), as.length = n ∧ m_pop n st acc = some (as.map Value.int ++ acc, rst) ∧ lRL i r rst
  | 0, es, r, st, acc, h, ho => by
    cases ho
    exact ⟨[], st, rfl, rfl, h⟩
  | n + 1, [], r, st, acc, h, ho => by cases ho
  | n + 1, e :: es, r, st, acc, h, ho => by
    obtain ⟨v, r1, e1, d1, d2⟩ := lRL_cons h
    subst e1
    unfold l_ints at ho
    cases e2 : Nat.beq e.1 2 with
    | false => rw [e2] at ho; cases ho
    | true =>
      rw [e2] at ho
      obtain ⟨t, a, b⟩ := e
      have := Nat.eq_of_beq_eq_true e2
      simp only at this
      subst this
      obtain ⟨x, hx, -⟩ := d1
      subst hx
      obtain ⟨as, rst, a1, a2, a3⟩ := l_ints_ok (.int x :: acc) d2 ho
      refine ⟨as ++ [x], rst, by simp [a1], ?_, a3⟩
      show m_pop n r1 (.int x :: acc) = _
      rw [a2]
      simp
def l_ps (cell : Nat) (n : Nat) : zPs := (2, Int.ofNat cell, 0) :: List.replicate n (0, -2147483648, 2147483647)
def p_eq (a b : Nat × Int × Int) : Bool := Nat.beq a.1 b.1 && (z_eq a.2.1 b.2.1 && z_eq a.2.2 b.2.2)
theorem p_eq_ok {a b : Nat × Int × Int} (h : p_eq a b = true) : a = b := by
  obtain ⟨x, y, z⟩ := a
  obtain ⟨x', y', z'⟩ := b
  unfold p_eq at h
  rw [Bool.and_eq_true, Bool.and_eq_true] at h
  have e1 : x = x' := Nat.eq_of_beq_eq_true h.1
  have e2 : y = y' := z_eq_iff.mp h.2.1
  have e3 : z = z' := z_eq_iff.mp h.2.2
  rw [e1, e2, e3]
def l_rep : Nat → zPs → Bool
  | 0, [] => true
  | n + 1, p :: ps => p_eq p (0, -2147483648, 2147483647) && l_rep n ps
  | _, _ => false
theorem l_rep_ok : ∀ {n : Nat} {ps : zPs}, l_rep n ps = true → ps = List.replicate n (0, -2147483648, 2147483647)
  | 0, [], _ => rfl
  | n + 1, p :: ps, h => by
    unfold l_rep at h
    rw [Bool.and_eq_true] at h
    rw [List.replicate_succ, p_eq_ok h.1, l_rep_ok h.2]
  | 0, _ :: _, h => by cases h
  | _ + 1, [], h => by cases h
def l_tm (cl n : Nat) (tm : zTm) : Bool := match tm with
  | (p :: ps, [], [], []) => p_eq p (2, Int.ofNat cl, 0) && l_rep n ps
  | _ => false
theorem l_tm_ok {cl n : Nat} {tm : zTm} (h : l_tm cl n tm = true) : tm = (l_ps cl n, [], [], []) := by
  unfold l_tm at h
  split at h
  next p ps =>
    rw [Bool.and_eq_true] at h
    rw [p_eq_ok h.1, l_rep_ok h.2]
    rfl
  next => cases h
/-- the contract of a method of the face: ints, no more asked; an int answered -/
def l_con (T : zTb) (y cell n : Nat) : Option (Int × Int × (Nat × Nat) × zWr) := match T.getD y none with
  | some q => bif (l_tm cell n q.2.1 && (Nat.beq q.2.2.2.2.2.2.2.1 0 && (Nat.beq q.2.2.1.1 0 && Nat.ble q.2.2.2.2.2.2.1 700))) then some (q.2.2.1.2.1, q.2.2.1.2.2, q.2.2.2.2.2.1, q.2.2.2.2.1) else none
  | none => none
def LW (Z : zDt) (w0 : mWd) (al : Nat × Nat) (w : mWd) : Prop := WI Z w ∧ wkR [] none w ∧ w.length ≤ w0.length + al.1 ∧ m_sl w ≤ m_sl w0 + al.2
theorem l_ent {w : mWd} {cell : Nat} : ∀ (as : List Int32) (n : Nat) (vs : List Int), (∀ i x, (as.map Int32.toInt)[i]? = some x → vs[n + i]? = some x) → dnL vs w (e_args n (List.replicate as.length (0, -2147483648, 2147483647))) (as.map Value.int)
  | [], _, _, _ => trivial
  | x :: as, n, vs, h => by
    refine ⟨⟨x, rfl, x.toInt, h 0 _ rfl, ?_⟩, ?_⟩
    · show x.toInt = x.toInt + 0; omega
    · refine l_ent (cell := cell) as (n + 1) vs (fun i y hy => ?_)
      rw [show n + 1 + i = n + (i + 1) by omega]
      exact h (i + 1) y (by simpa using hy)
theorem l_ivs : ∀ n : Nat, e_ivs (List.replicate n (0, -2147483648, 2147483647)) = List.replicate n (-2147483648, 2147483647)
  | 0 => rfl
  | n + 1 => by
    rw [List.replicate_succ, List.replicate_succ]
    show [((-2147483648 : Int), (2147483647 : Int))] ++ e_ivs _ = _
    rw [l_ivs n]
    rfl
theorem k_at_rep (b : Int × Int) : ∀ (n a : Nat), a < n → k_at (List.replicate n b) a = b
  | 0, a, h => by omega
  | n + 1, 0, _ => rfl
  | n + 1, a + 1, h => by
    rw [List.replicate_succ]
    exact k_at_rep b n a (by omega)
theorem l_call {Z : zDt} {T : zTb} {L : Nat} {xs : Nat → Int32} {y cell n d : Nat} {q : Int × Int × (Nat × Nat) × zWr} {w : mWd} {as : List Int32} {Q : Option Value → mWd → Prop} (hall : ∀ (o r y : Nat) (c : zKt), T.getD y none = some (o, c) → zCall Z L xs y c r) (hc : l_con T y cell n = some q) (hW : WI Z w) (hk : wkR [] none w) (hl : as.length = n) (hd : 700 ≤ d) (hQ : ∀ (x : Int32) (w1 : mWd), q.1 ≤ x.toInt → x.toInt ≤ q.2.1 → WI Z w1 → wkR [] none w1 → w1.length ≤ w.length + q.2.2.1.1 → m_sl w1 ≤ m_sl w + q.2.2.1.2 → fR q.2.2.2 w w1 → Q (some (.int x)) w1) : Rn L xs d y 0 (lv_args 0 (.ref cell :: as.map Value.int)) [] w Q := by
  unfold l_con at hc
  split at hc
  next p hp =>
    obtain ⟨ord, tm, rs, post, wr, al, base, mu, rest⟩ := p
    cases e : (l_tm cell n tm && (Nat.beq mu 0 && (Nat.beq rs.1 0 && Nat.ble base 700))) with
    | false =>
      simp only [e] at hc
      cases hc
    | true =>
      simp only [e] at hc
      cases hc
      rw [Bool.and_eq_true, Bool.and_eq_true, Bool.and_eq_true] at e
      obtain ⟨e1, e2, e3, e4⟩ := e
      have e1 := l_tm_ok e1
      subst e1
      have hmu := Nat.eq_of_beq_eq_true e2
      have hb := Nat.le_of_ble_eq_true e4
      have h := hall ord 0 y _ hp
      subst hl
      have hE : tE [(0, 0)] (l_ps cell as.length, [], [], []) [0] (as.map Int32.toInt) w (.ref cell :: as.map Value.int) := by
        have hiv : e_ivs (l_ps cell as.length) = List.replicate as.length (-2147483648, 2147483647) := by
          show [] ++ e_ivs (List.replicate as.length (0, -2147483648, 2147483647)) = _
          rw [l_ivs]
          rfl
        refine ⟨⟨rfl, ?_, ?_, fun f hf => (by cases hf), fun f hf => (by cases hf), fun f hf => (by cases hf), fun f hf => (by cases hf)⟩, ⟨rfl, ?_⟩, as.map Int32.toInt, [], by simp, ?_, trivial⟩
        · show ([(0, 0)] ++ (e_ivs (l_ps cell as.length) ++ [])).length = _
          rw [hiv]
          simp
        · intro a x hx
          show (k_at ([(0, 0)] ++ (e_ivs (l_ps cell as.length) ++ [])) a).1 ≤ x ∧ x ≤ (k_at ([(0, 0)] ++ (e_ivs (l_ps cell as.length) ++ [])) a).2
          rw [hiv, List.append_nil]
          cases a with
          | zero =>
            simp at hx
            subst hx
            exact ⟨Int.le_refl 0, Int.le_refl 0⟩
          | succ a =>
            have hx' : (as.map Int32.toInt)[a]? = some x := hx
            have hlt := (List.getElem?_eq_some_iff.mp hx').1
            rw [List.length_map] at hlt
            show (k_at (List.replicate as.length (-2147483648, 2147483647)) a).1 ≤ x ∧ x ≤ (k_at (List.replicate as.length (-2147483648, 2147483647)) a).2
            rw [k_at_rep _ _ _ hlt]
            rw [List.getElem?_map] at hx'
            obtain ⟨z, hz1, hz2⟩ := Option.map_eq_some_iff.mp hx'
            subst hz2
            exact i32_rg z
        · exact l_ent (cell := cell) as 1 _ (fun i x hx => by
            show (0 :: as.map Int32.toInt)[1 + i]? = some x
            rw [show 1 + i = i + 1 by omega, List.getElem?_cons_succ]
            exact hx)
        · rw [hiv]; simp
      refine (h d w _ _ hW hk hE (.inl ⟨hmu, rfl⟩) (by show base + 3 * 0 ≤ d; omega)).mono ?_
      rintro v w1 ⟨⟨g1, g2, g3, g4, g5⟩, R, V, r1, -, -⟩
      obtain ⟨rt, rlo, rhi⟩ := rs
      have ert : rt = 0 := Nat.eq_of_beq_eq_true e3
      subst ert
      obtain ⟨x, x1, x2, x3, x4⟩ := r1
      subst x1 x2
      exact hQ x w1 x3 x4 g1 g5 g3 g4 g2
  next => cases hc
def l_rcv (Z : zDt) (y cell : Nat) : Bool := match Z.1[cell]? with
  | some (0, ci, _, _) => Nat.beq (pgOw y) ci && Nat.blt ci 13
  | _ => false
def lk (Z : zDt) (T : zTb) : Nat → Nat → List lE → Nat × Nat → Bool
  | 0, _, _, _ => false
  | n + 1, pc, st, al => bif Nat.beq pc 1904 then (match st with
      | [] => Nat.ble al.1 1 && Nat.ble al.2 161
      | _ => false) else (match pgF 274 pc with
    | none => false
    | some (ins, _) => (match ins, st with
      | .aload_n 0, st => lk Z T n (pc + 1) ((0, 0, 0) :: st) al
      | .aload_n 1, st => lk Z T n (pc + 1) ((1, 0, 0) :: st) al
      | .aload_n 2, st => lk Z T n (pc + 1) ((1, 69, 0) :: st) al
      | .iload_n 3, st => lk Z T n (pc + 1) ((3, 0, 0) :: st) al
      | .iconst k, st => bif z_in 0 k k then lk Z T n (pc + 1) ((2, k, k) :: st) al else false
      | .bipush k, st => bif (z_le (-128) k && z_le k 127) then lk Z T n (pc + 2) ((2, k, k) :: st) al else false
      | .iadd, (2, a, b) :: (3, c, _) :: st => bif (z_eq a b && (z_le 0 (c + a) && z_le (c + a) 5)) then lk Z T n (pc + 1) ((3, c + a, 0) :: st) al else false
      | .iaload, (3, c, _) :: (0, _, _) :: st => bif (z_le 0 c && z_le c 5) then lk Z T n (pc + 1) ((2, -2147483648, 2147483647) :: st) al else false
      | .iand, (2, _, _) :: (2, _, _) :: st => lk Z T n (pc + 1) ((2, -2147483648, 2147483647) :: st) al
      | .pop, _ :: st => lk Z T n (pc + 1) st al
      | .goto off, st => (match m_tgt pc off with
        | some t => lk Z T n t st al
        | none => false)
      | .tableswitch dd lo hi offs, (2, _, _) :: st => z_eq (lo + Int.ofNat offs.toList.length) (hi + 1) && ((match m_tgt pc dd with
          | some t => lk Z T n t st al
          | none => false) && offs.toList.all (fun off => match m_tgt pc off with
          | some t => lk Z T n t st al
          | none => false))
      | .if_icmp .eq off, (2, a, b) :: (2, c, e) :: st => bif (z_eq a b && (z_eq c e && z_eq a c)) then (match m_tgt pc off with
        | some t => lk Z T n t st al
        | none => false) else false
      | .invokevirtual ix, st => (match pgRs 274 ix with
        | some (6, y, _) => (match l_ints (pgA y) st with
          | some ((1, cl, _) :: r) => bif (l_rcv Z y cl.toNat && (Nat.ble r.length 8 && (Nat.ble (pgA y + 1) (pgL y) && m_pl y))) then (match l_con T y cl.toNat (pgA y) with
            | some q => lk Z T n (pc + 3) ((2, q.1, q.2.1) :: r) (al.1 + q.2.2.1.1, al.2 + q.2.2.1.2)
            | none => false) else false
          | _ => false)
        | _ => false)
      | _, _ => false))
def lL (i : Int32) : mL := [(3, .int i), (2, .ref 69), (1, .ref 0), (0, .retAddr 0)]
theorem lk_ok {Z : zDt} {T : zTb} {L : Nat} {xs : Nat → Int32} {d : Nat} {i : Int32} {w0 : mWd} {Q : Option Value → mWd → Prop} (hall : ∀ (o r y : Nat) (c : zKt), T.getD y none = some (o, c) → zCall Z L xs y c r) (hd : 700 ≤ d) (hi0 : 0 ≤ i.toInt) (hi1 : i.toInt + 5 < (L : Int)) (hL : L ≤ 3072) (hEnd : ∀ w, LW Z w0 (1, 161) w → Rn L xs (d + 1) 274 1904 (lL i) [] w Q) : ∀ (n pc : Nat) (es : List lE) (al : Nat × Nat), lk Z T n pc es al = true → ∀ (st : List Value) (w : mWd), lRL i es st → LW Z w0 al w → Rn L xs (d + 1) 274 pc (lL i) st w Q := by
  intro n
  induction n with
  | zero => intro pc es al h; cases h
  | succ n ih =>
    intro pc es al h st w hs hw
    unfold lk at h
    cases ep : Nat.beq pc 1904 with
    | true =>
      rw [ep] at h
      have := Nat.eq_of_beq_eq_true ep
      subst this
      simp only [cond_true] at h
      split at h
      · rw [Bool.and_eq_true] at h
        have e := lRL_nil hs
        subst e
        have h1 := Nat.le_of_ble_eq_true h.1
        have h2 := Nat.le_of_ble_eq_true h.2
        refine hEnd w ⟨hw.1, hw.2.1, ?_, ?_⟩
        · have := hw.2.2.1; show w.length ≤ w0.length + 1; omega
        · have := hw.2.2.2; show m_sl w ≤ m_sl w0 + 161; omega
      · cases h
    | false =>
      rw [ep] at h
      simp only [cond_false] at h
      split at h
      next => cases h
      next ins kk hf =>
        split at h
        · exact Rn.step hf (by rfl) (ih _ _ _ h (.retAddr 0 :: st) w ⟨rfl, hs⟩ hw)
        · exact Rn.step hf (by rfl) (ih _ _ _ h (.ref 0 :: st) w ⟨rfl, hs⟩ hw)
        · exact Rn.step hf (by rfl) (ih _ _ _ h (.ref 69 :: st) w ⟨rfl, hs⟩ hw)
        · exact Rn.step hf (by rfl) (ih _ _ _ h (.int i :: st) w ⟨⟨i, rfl, by show i.toInt = i.toInt + 0; omega⟩, hs⟩ hw)
        · next k =>
          cases e : z_in 0 k k with
          | false => rw [e] at h; cases h
          | true =>
            rw [e] at h
            have hk := z_in_iff.mp e
            have hv : (Int32.ofInt k).toInt = k := by rw [Int32.toInt_ofInt]; exact z_bm0 hk
            exact Rn.step hf (by rfl) (ih _ _ _ h (.int (Int32.ofInt k) :: st) w ⟨⟨_, rfl, by show k ≤ _; omega, by show _ ≤ k; omega⟩, hs⟩ hw)
        · next k =>
          cases e : (z_le (-128) k && z_le k 127) with
          | false => rw [e] at h; cases h
          | true =>
            rw [e] at h
            rw [Bool.and_eq_true, z_le_iff, z_le_iff] at e
            have hv : (Int8.ofInt k).toInt32.toInt = k := by
              rw [Int8.toInt_toInt32, Int8.toInt_ofInt, show Int8.size = 256 from rfl, Int.bmod_def]; omega
            exact Rn.step hf (by rfl) (ih _ _ _ h (.int (Int8.ofInt k).toInt32 :: st) w ⟨⟨_, rfl, by show k ≤ _; omega, by show _ ≤ k; omega⟩, hs⟩ hw)
        · next a b c _ st' =>
          cases e : (z_eq a b && (z_le 0 (c + a) && z_le (c + a) 5)) with
          | false => rw [e] at h; cases h
          | true =>
            rw [e] at h
            rw [Bool.and_eq_true, Bool.and_eq_true, z_eq_iff, z_le_iff, z_le_iff] at e
            obtain ⟨v1, r1, e1, d1, hr1⟩ := lRL_cons hs
            obtain ⟨v2, r2, e2, d2, hr2⟩ := lRL_cons hr1
            subst e1 e2
            obtain ⟨y, hy, y1, y2⟩ := d1
            obtain ⟨x, hx, x1⟩ := d2
            subst hy hx
            simp only at y1 y2 x1
            have hsum : (x + y).toInt = i.toInt + (c + a) := by
              rw [Int32.toInt_add, z_bm0 ⟨by show (-2147483648 : Int) ≤ _; omega, by show _ ≤ (2147483647 : Int); omega⟩]
              omega
            exact Rn.step hf (by rfl) (ih _ _ _ h (.int (x + y) :: r2) w ⟨⟨_, rfl, hsum⟩, hr2⟩ hw)
        · next c _ _ _ st' =>
          cases e : (z_le 0 c && z_le c 5) with
          | false => rw [e] at h; cases h
          | true =>
            rw [e] at h
            rw [Bool.and_eq_true, z_le_iff, z_le_iff] at e
            obtain ⟨v1, r1, e1, d1, hr1⟩ := lRL_cons hs
            obtain ⟨v2, r2, e2, d2, hr2⟩ := lRL_cons hr1
            subst e1 e2
            obtain ⟨x, hx, x1⟩ := d1
            have hv2 : v2 = .retAddr 0 := d2
            subst hx hv2
            simp only at x1
            obtain ⟨m1, m2, m3, m4⟩ := m_nb_ok (j := x) (n := L) (by omega) (by omega)
            have hm : m_xld L xs 0 0 x = some (.int (xs x.toNatClampNeg)) := by
              show (if m_in x L = true ∧ ((0 = 0 ∧ 0 = 0) ∨ (0 = 1 ∧ 0 = 5)) then some (Value.int (xs x.toNatClampNeg)) else none) = _
              rw [if_pos ⟨m1, .inl ⟨rfl, rfl⟩⟩]
            exact Rn.step hf (by simp only [m_step, hm]; rfl) (ih _ _ _ h (.int (xs x.toNatClampNeg) :: r2) w ⟨⟨_, rfl, (i32_rg _).1, (i32_rg _).2⟩, hr2⟩ hw)
        · next st' =>
          obtain ⟨v1, r1, e1, d1, hr1⟩ := lRL_cons hs
          obtain ⟨v2, r2, e2, d2, hr2⟩ := lRL_cons hr1
          subst e1 e2
          obtain ⟨y, hy, -⟩ := d1
          obtain ⟨x, hx, -⟩ := d2
          subst hy hx
          exact Rn.step hf (by rfl) (ih _ _ _ h (.int (x &&& y) :: r2) w ⟨⟨_, rfl, (i32_rg _).1, (i32_rg _).2⟩, hr2⟩ hw)
        · next e0 st' =>
          obtain ⟨v1, r1, e1, d1, hr1⟩ := lRL_cons hs
          subst e1
          have hc : m_c1 v1 = true := by
            have := lR_cat d1
            cases v1 <;> first | rfl | (cases this; done)
          exact Rn.step hf (by simp only [m_step, m_pure, hc, if_true]; rfl) (ih _ _ _ h r1 w hr1 hw)
        · next off _ =>
          split at h
          next t ht => exact Rn.step hf (by simp only [m_step, m_pure, m_jmp, ht]; rfl) (ih _ _ _ h st w hs hw)
          next => cases h
        · next dd lo hi offs _ _ st' =>
          rw [Bool.and_eq_true, Bool.and_eq_true, z_eq_iff] at h
          obtain ⟨h1, h2, h3⟩ := h
          have hlen : lo + (offs.toList.length : Int) = hi + 1 := h1
          obtain ⟨v1, r1, e1, d1, hr1⟩ := lRL_cons hs
          subst e1
          obtain ⟨x, hx, -⟩ := d1
          subst hx
          by_cases ho : x.toInt < lo ∨ hi < x.toInt
          · split at h2
            next t ht => exact Rn.step hf (by simp only [m_step, m_pure, if_pos ho, m_jmp, ht]; rfl) (ih _ _ _ h2 r1 w hr1 hw)
            next => cases h2
          · have hlt : (x.toInt - lo).toNat < offs.toList.length := by omega
            have hg : offs.toList[(x.toInt - lo).toNat]? = some (offs.toList[(x.toInt - lo).toNat]) := List.getElem?_eq_getElem hlt
            have hg2 : offs[(x.toInt - lo).toNat]? = some (offs.toList[(x.toInt - lo).toNat]) := by rw [← Array.getElem?_toList]; exact hg
            have h4 := List.all_eq_true.mp h3 _ (List.mem_of_getElem? hg)
            split at h4
            next t ht => exact Rn.step hf (by simp only [m_step, m_pure, if_neg ho, hg2, m_jmp, ht]; rfl) (ih _ _ _ h4 r1 w hr1 hw)
            next => cases h4
        · next off a b c e5 st' =>
          cases e : (z_eq a b && (z_eq c e5 && z_eq a c)) with
          | false => rw [e] at h; cases h
          | true =>
            rw [e] at h
            rw [Bool.and_eq_true, Bool.and_eq_true, z_eq_iff, z_eq_iff, z_eq_iff] at e
            simp only [cond_true] at h
            obtain ⟨v1, r1, e1, d1, hr1⟩ := lRL_cons hs
            obtain ⟨v2, r2, e2, d2, hr2⟩ := lRL_cons hr1
            subst e1 e2
            obtain ⟨y, hy, y1, y2⟩ := d1
            obtain ⟨x, hx, x1, x2⟩ := d2
            subst hy hx
            simp only at y1 y2 x1 x2
            have hxy : x = y := Int32.toInt_inj.mp (by omega)
            subst hxy
            split at h
            next t ht => exact Rn.step hf (by simp only [m_step, m_pure, m_br, ht, m_cmp, decide_true]; rfl) (ih _ _ _ h r2 w hr2 hw)
            next => cases h
        · next ix =>
          split at h
          next y q hr =>
            split at h
            next cell _ r hli =>
              cases e : (l_rcv Z y cell.toNat && (Nat.ble r.length 8 && (Nat.ble (pgA y + 1) (pgL y) && m_pl y))) with
              | false => rw [e] at h; cases h
              | true =>
                rw [e] at h
                simp only [cond_true] at h
                rw [Bool.and_eq_true, Bool.and_eq_true, Bool.and_eq_true] at e
                obtain ⟨g1, g2, g3, g4⟩ := e
                split at h
                next qq hq =>
                  obtain ⟨as, rst, a1, a2, a3⟩ := l_ints_ok [] hs hli
                  obtain ⟨v, r2, e2, d2, hr2⟩ := lRL_cons a3
                  subst e2
                  have hv : v = .ref cell.toNat := d2
                  subst hv
                  have hrc : m_rcv y (.ref cell.toNat) w = true := by
                    unfold l_rcv at g1
                    split at g1
                    next ci nn sps hZ =>
                      obtain ⟨fs, f1, -⟩ := WI_obj hw.1 hZ
                      simp only [m_rcv, f1]
                      exact g1
                    next => cases g1
                  have hcat : m_cat r2 ≤ 8 := by rw [lRL_cat hr2]; exact Nat.le_of_ble_eq_true g2
                  have hint : ∀ zs : List Int32, m_cat (zs.map Value.int) = zs.length := by
                    intro zs
                    induction zs with
                    | nil => rfl
                    | cons z zs ihz =>
                      unfold m_cat at ihz ⊢
                      rw [List.map_cons, List.map_cons, List.sum_cons, ihz, List.length_cons]
                      show 1 + zs.length = zs.length + 1
                      omega
                  have hca : m_cat (.ref cell.toNat :: (as.map Value.int ++ [])) ≤ pgL y := by
                    have h9 := Nat.le_of_ble_eq_true g3
                    have h10 := hint as
                    rw [List.append_nil]
                    show 1 + m_cat (as.map Value.int) ≤ pgL y
                    omega
                  have hstep : m_step L xs 274 pc (lL i) st w (.invokevirtual ix) = some (.inr (.inl (y, .ref cell.toNat :: as.map Value.int, r2))) := by
                    simp only [m_step, hr, a2, hrc, if_true]
                    unfold m_call
                    rw [if_pos ⟨hcat, hca, g4⟩, List.append_nil]
                  refine Rn.call hf hstep ?_
                  refine l_call hall hq hw.1 hw.2.1 a1 hd ?_
                  intro x w1 b1 b2 b3 b4 b5 b6 _
                  refine ih _ _ _ h (.int x :: r2) w1 ⟨⟨x, rfl, b1, b2⟩, hr2⟩ ⟨b3, b4, ?_, ?_⟩
                  · have := hw.2.2.1; show w1.length ≤ w0.length + (al.1 + qq.2.2.1.1); omega
                  · have := hw.2.2.2; show m_sl w1 ≤ m_sl w0 + (al.2 + qq.2.2.1.2); omega
                next => cases h
            next => cases h
          next => cases h
        · cases h
theorem l_head {L : Nat} {xs : Nat → Int32} {d k : Nat} {w : mWd} {Q : Option Value → mWd → Prop} (hL : L ≤ 3072) (hk : k ≤ 3072) (h1 : L < k + 6 → Q (some (.int 1)) w) (h2 : k + 6 ≤ L → Rn L xs (d + 1) 274 27 (lL (Int32.ofNat k)) [] w Q) : Rn L xs (d + 1) 274 18 (lL (Int32.ofNat k)) [] w Q := by
  refine Rn.step (hf := by rfl) (hs := by rfl) ?_
  refine Rn.step (hf := by rfl) (hs := by rfl) ?_
  refine Rn.step (hf := by rfl) (hs := by rfl) ?_
  refine Rn.step (hf := by rfl) (hs := by rfl) ?_
  refine Rn.step (hf := by rfl) (hs := by rfl) ?_
  refine Rn.step (hf := by rfl) (hs := by simp only [m_step, m_pure]; rfl) ?_
  have hc : m_cmp .gt (Int32.ofNat k) (Int32.ofNat L - (Int8.ofInt 6).toInt32) = decide (L < k + 6) := by
    unfold m_cmp
    rw [Bool.eq_iff_iff, decide_eq_true_eq, decide_eq_true_eq, Int32.lt_iff_toInt_lt, i32_nat (by omega), Int32.toInt_sub, i32_nat (by omega), show (Int8.ofInt 6).toInt32.toInt = 6 by decide, z_bm0 ⟨by show (-2147483648 : Int) ≤ _; omega, by show _ ≤ (2147483647 : Int); omega⟩]
    omega
  rw [hc]
  by_cases e : L < k + 6
  · rw [decide_eq_true e]
    refine Rn.step (hf := by rfl) (hs := by rfl) ?_
    exact Rn.ret (hf := by rfl) (hs := by rfl) (h1 e)
  · rw [decide_eq_false e]
    exact h2 (by omega)
/-- the loop, from its head on -/
theorem l_loop {Z : zDt} {T : zTb} {L : Nat} {xs : Nat → Int32} {d F : Nat} {wS : mWd} (hall : ∀ (o r y : Nat) (c : zKt), T.getD y none = some (o, c) → zCall Z L xs y c r) (hd : 700 ≤ d) (hL : L ≤ 3072) (hlk : lk Z T F 27 [] (0, 0) = true) : ∀ (m k : Nat) (w : mWd), k + m = 512 → LW Z wS (k, 161 * k) w → Rn L xs (d + 1) 274 18 (lL (Int32.ofNat (6 * k))) [] w (fun v w1 => v = some (.int 1) ∧ LW Z wS (512, 161 * 512) w1) := by
  intro m
  induction m with
  | zero =>
    intro k w hk hw
    refine l_head hL (by omega) (fun _ => ⟨rfl, hw.1, hw.2.1, ?_, ?_⟩) (fun h => by omega)
    · have := hw.2.2.1; simp only at this ⊢; omega
    · have := hw.2.2.2; simp only at this ⊢; omega
  | succ m ih =>
    intro k w hk hw
    refine l_head hL (by omega) (fun _ => ⟨rfl, hw.1, hw.2.1, ?_, ?_⟩) (fun h => ?_)
    · have := hw.2.2.1; simp only at this ⊢; omega
    · have := hw.2.2.2; simp only at this ⊢; omega
    · have hki := i32_nat (show 6 * k < 2147483648 by omega)
      refine lk_ok (w0 := w) hall hd (by omega) (by omega) hL (fun w' hw' => ?_) F 27 [] (0, 0) hlk [] w trivial ⟨hw.1, hw.2.1, Nat.le_refl _, Nat.le_refl _⟩
      refine Rn.step (hf := by rfl) (hs := by rfl) ?_
      refine Rn.step (hf := by rfl) (hs := by rfl) ?_
      have h6 : Int32.ofNat (6 * k) + Int32.ofInt 6 = Int32.ofNat (6 * (k + 1)) := by
        apply Int32.toInt_inj.mp
        rw [Int32.toInt_add, hki, i32_nat (by omega), show (Int32.ofInt 6).toInt = 6 by decide, z_bm0 ⟨by show (-2147483648 : Int) ≤ _; omega, by show _ ≤ (2147483647 : Int); omega⟩]
        omega
      have hn := ih (k + 1) w' (by omega) ⟨hw'.1, hw'.2.1, by have h1 := hw'.2.2.1; have h2 := hw.2.2.1; simp only at h1 h2 ⊢; omega, by have h1 := hw'.2.2.2; have h2 := hw.2.2.2; simp only at h1 h2 ⊢; omega⟩
      rw [← h6] at hn
      exact hn
