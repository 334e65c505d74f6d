/-! THE LAW'S LOOP: what a round of it does, by a small checker of its own -/
abbrev lE : Type := Nat × Int × Int
/-- the ints of a call: n of them, any -/
def l_ints : Nat → List lE → Option (List lE)
  | 0, st => some st
  | n + 1, e :: st => bif Nat.beq e.1 2 then l_ints n st else none
  | _ + 1, [] => none
def l_ps (cell : Nat) (n : Nat) : zPs := (2, Int.ofNat cell, 0) :: List.replicate n (0, -2147483648, 2147483647)
def p_eq (a b : Nat × Int × Int) : Bool := Nat.beq a.1 b.1 && (z_eq a.2.1 b.2.1 && z_eq a.2.2 b.2.2)
theorem p_eq_ok {a b : Nat × Int × Int} (h : p_eq a b = true) : a = b := by
  obtain ⟨x, y, z⟩ := a
  obtain ⟨x', y', z'⟩ := b
  unfold p_eq at h
  rw [Bool.and_eq_true, Bool.and_eq_true] at h
  have e1 : x = x' := Nat.eq_of_beq_eq_true h.1
  have e2 : y = y' := z_eq_iff.mp h.2.1
  have e3 : z = z' := z_eq_iff.mp h.2.2
  rw [e1, e2, e3]
def l_rep : Nat → zPs → Bool
  | 0, [] => true
  | n + 1, p :: ps => p_eq p (0, -2147483648, 2147483647) && l_rep n ps
  | _, _ => false
theorem l_rep_ok : ∀ {n : Nat} {ps : zPs}, l_rep n ps = true → ps = List.replicate n (0, -2147483648, 2147483647)
  | 0, [], _ => rfl
  | n + 1, p :: ps, h => by
    unfold l_rep at h
    rw [Bool.and_eq_true] at h
    rw [List.replicate_succ, p_eq_ok h.1, l_rep_ok h.2]
  | 0, _ :: _, h => by cases h
  | _ + 1, [], h => by cases h
def l_tm (cl n : Nat) (tm : zTm) : Bool := match tm with
  | (p :: ps, [], [], []) => p_eq p (2, Int.ofNat cl, 0) && l_rep n ps
  | _ => false
theorem l_tm_ok {cl n : Nat} {tm : zTm} (h : l_tm cl n tm = true) : tm = (l_ps cl n, [], [], []) := by
  unfold l_tm at h
  split at h
  next p ps =>
    rw [Bool.and_eq_true] at h
    rw [p_eq_ok h.1, l_rep_ok h.2]
    rfl
  next => cases h
/-- the contract of a method of the face: ints, no more asked; an int answered -/
def l_con (T : zTb) (y cell n : Nat) : Option (Int × Int × (Nat × Nat) × zWr) := match T.getD y none with
  | some q => bif (l_tm cell n q.2.1 && (Nat.beq q.2.2.2.2.2.2.2.1 0 && (Nat.beq q.2.2.1.1 0 && Nat.ble q.2.2.2.2.2.2.1 700))) then some (q.2.2.1.2.1, q.2.2.1.2.2, q.2.2.2.2.2.1, q.2.2.2.2.1) else none
  | none => none
def LW (Z : zDt) (w0 : mWd) (al : Nat × Nat) (w : mWd) : Prop := WI Z w ∧ wkR [] none w ∧ w.length ≤ w0.length + al.1 ∧ m_sl w ≤ m_sl w0 + al.2
theorem l_ent {w : mWd} {cell : Nat} : ∀ (as : List Int32) (n : Nat) (vs : List Int), (∀ i x, (as.map Int32.toInt)[i]? = some x → vs[n + i]? = some x) → dnL vs w (e_args n (List.replicate as.length (0, -2147483648, 2147483647))) (as.map Value.int)
  | [], _, _, _ => trivial
  | x :: as, n, vs, h => by
    refine ⟨⟨x, rfl, x.toInt, h 0 _ rfl, ?_⟩, ?_⟩
    · show x.toInt = x.toInt + 0; omega
    · refine l_ent (cell := cell) as (n + 1) vs (fun i y hy => ?_)
      rw [show n + 1 + i = n + (i + 1) by omega]
      exact h (i + 1) y (by simpa using hy)
theorem l_ivs : ∀ n : Nat, e_ivs (List.replicate n (0, -2147483648, 2147483647)) = List.replicate n (-2147483648, 2147483647)
  | 0 => rfl
  | n + 1 => by
    rw [List.replicate_succ, List.replicate_succ]
    show [((-2147483648 : Int), (2147483647 : Int))] ++ e_ivs _ = _
    rw [l_ivs n]
    rfl
theorem k_at_rep (b : Int × Int) : ∀ (n a : Nat), a < n → k_at (List.replicate n b) a = b
  | 0, a, h => by omega
  | n + 1, 0, _ => rfl
  | n + 1, a + 1, h => by
    rw [List.replicate_succ]
    exact k_at_rep b n a (by omega)
theorem l_call {Z : zDt} {T : zTb} {L : Nat} {xs : Nat → Int32} {y cell n d : Nat} {q : Int × Int × (Nat × Nat) × zWr} {w : mWd} {as : List Int32} {Q : Option Value → mWd → Prop} (hall : ∀ (o r y : Nat) (c : zKt), T.getD y none = some (o, c) → zCall Z L xs y c r) (hc : l_con T y cell n = some q) (hW : WI Z w) (hk : wkR [] none w) (hl : as.length = n) (hd : 700 ≤ d) (hQ : ∀ (x : Int32) (w1 : mWd), q.1 ≤ x.toInt → x.toInt ≤ q.2.1 → WI Z w1 → wkR [] none w1 → w1.length ≤ w.length + q.2.2.1.1 → m_sl w1 ≤ m_sl w + q.2.2.1.2 → fR q.2.2.2 w w1 → Q (some (.int x)) w1) : Rn L xs d y 0 (lv_args 0 (.ref cell :: as.map Value.int)) [] w Q := by
  unfold l_con at hc
  split at hc
  next p hp =>
    obtain ⟨ord, tm, rs, post, wr, al, base, mu, rest⟩ := p
    cases e : (l_tm cell n tm && (Nat.beq mu 0 && (Nat.beq rs.1 0 && Nat.ble base 700))) with
    | false =>
      simp only [e] at hc
      cases hc
    | true =>
      simp only [e] at hc
      cases hc
      rw [Bool.and_eq_true, Bool.and_eq_true, Bool.and_eq_true] at e
      obtain ⟨e1, e2, e3, e4⟩ := e
      have e1 := l_tm_ok e1
      subst e1
      have hmu := Nat.eq_of_beq_eq_true e2
      have hb := Nat.le_of_ble_eq_true e4
      have h := hall ord 0 y _ hp
      subst hl
      have hE : tE [(0, 0)] (l_ps cell as.length, [], [], []) [0] (as.map Int32.toInt) w (.ref cell :: as.map Value.int) := by
        have hiv : e_ivs (l_ps cell as.length) = List.replicate as.length (-2147483648, 2147483647) := by
          show [] ++ e_ivs (List.replicate as.length (0, -2147483648, 2147483647)) = _
          rw [l_ivs]
          rfl
        refine ⟨⟨rfl, ?_, ?_, fun f hf => (by cases hf), fun f hf => (by cases hf), fun f hf => (by cases hf), fun f hf => (by cases hf)⟩, ⟨rfl, ?_⟩, as.map Int32.toInt, [], by simp, ?_, trivial⟩
        · show ([(0, 0)] ++ (e_ivs (l_ps cell as.length) ++ [])).length = _
          rw [hiv]
          simp
        · intro a x hx
          show (k_at ([(0, 0)] ++ (e_ivs (l_ps cell as.length) ++ [])) a).1 ≤ x ∧ x ≤ (k_at ([(0, 0)] ++ (e_ivs (l_ps cell as.length) ++ [])) a).2
          rw [hiv, List.append_nil]
          cases a with
          | zero =>
            simp at hx
            subst hx
            exact ⟨Int.le_refl 0, Int.le_refl 0⟩
          | succ a =>
            have hx' : (as.map Int32.toInt)[a]? = some x := hx
            have hlt := (List.getElem?_eq_some_iff.mp hx').1
            rw [List.length_map] at hlt
            show (k_at (List.replicate as.length (-2147483648, 2147483647)) a).1 ≤ x ∧ x ≤ (k_at (List.replicate as.length (-2147483648, 2147483647)) a).2
            rw [k_at_rep _ _ _ hlt]
            rw [List.getElem?_map] at hx'
            obtain ⟨z, hz1, hz2⟩ := Option.map_eq_some_iff.mp hx'
            subst hz2
            exact i32_rg z
        · exact l_ent (cell := cell) as 1 _ (fun i x hx => by
            show (0 :: as.map Int32.toInt)[1 + i]? = some x
            rw [show 1 + i = i + 1 by omega, List.getElem?_cons_succ]
            exact hx)
        · rw [hiv]; simp
      refine (h d w _ _ hW hk hE (.inl ⟨hmu, rfl⟩) (by show base + 3 * 0 ≤ d; omega)).mono ?_
      rintro v w1 ⟨⟨g1, g2, g3, g4, g5⟩, R, V, r1, -, -⟩
      obtain ⟨rt, rlo, rhi⟩ := rs
      have ert : rt = 0 := Nat.eq_of_beq_eq_true e3
      subst ert
      obtain ⟨x, x1, x2, x3, x4⟩ := r1
      subst x1 x2
      exact hQ x w1 x3 x4 g1 g5 g3 g4 g2
  next => cases hc
def l_rcv (Z : zDt) (y cell : Nat) : Bool := match Z.1[cell]? with
  | some (0, ci, _, _) => Nat.beq (pgOw y) ci && Nat.blt ci 13
  | _ => false
def lk (Z : zDt) (T : zTb) : Nat → Nat → List lE → Nat × Nat → Bool
  | 0, _, _, _ => false
  | n + 1, pc, st, al => bif Nat.beq pc 1904 then (match st with
      | [] => Nat.ble al.1 1 && Nat.ble al.2 161
      | _ => false) else (match pgF 274 pc with
    | none => false
    | some (ins, _) => (match ins, st with
      | .aload_n 0, st => lk Z T n (pc + 1) ((0, 0, 0) :: st) al
      | .aload_n 1, st => lk Z T n (pc + 1) ((1, 0, 0) :: st) al
      | .aload_n 2, st => lk Z T n (pc + 1) ((1, 69, 0) :: st) al
      | .iload_n 3, st => lk Z T n (pc + 1) ((3, 0, 0) :: st) al
      | .iconst k, st => bif z_in 0 k k then lk Z T n (pc + 1) ((2, k, k) :: st) al else false
      | .bipush k, st => bif (z_le (-128) k && z_le k 127) then lk Z T n (pc + 2) ((2, k, k) :: st) al else false
      | .iadd, (2, a, b) :: (3, c, _) :: st => bif (z_eq a b && (z_le 0 (c + a) && z_le (c + a) 5)) then lk Z T n (pc + 1) ((3, c + a, 0) :: st) al else false
      | .iaload, (3, c, _) :: (0, _, _) :: st => bif (z_le 0 c && z_le c 5) then lk Z T n (pc + 1) ((2, -2147483648, 2147483647) :: st) al else false
      | .iand, (2, _, _) :: (2, _, _) :: st => lk Z T n (pc + 1) ((2, -2147483648, 2147483647) :: st) al
      | .pop, _ :: st => lk Z T n (pc + 1) st al
      | .goto off, st => (match m_tgt pc off with
        | some t => lk Z T n t st al
        | none => false)
      | .tableswitch dd lo hi offs, (2, _, _) :: st => z_eq (lo + Int.ofNat offs.toList.length) (hi + 1) && ((match m_tgt pc dd with
          | some t => lk Z T n t st al
          | none => false) && offs.toList.all (fun off => match m_tgt pc off with
          | some t => lk Z T n t st al
          | none => false))
      | .if_icmp .eq off, (2, a, b) :: (2, c, e) :: st => bif (z_eq a b && (z_eq c e && z_eq a c)) then (match m_tgt pc off with
        | some t => lk Z T n t st al
        | none => false) else false
      | .invokevirtual ix, st => (match pgRs 274 ix with
        | some (6, y, _) => (match l_ints (pgA y) st with
          | some ((1, cl, _) :: r) => bif (l_rcv Z y cl.toNat && (Nat.ble r.length 8 && (Nat.ble (pgA y + 1) (pgL y) && m_pl y))) then (match l_con T y cl.toNat (pgA y) with
            | some q => lk Z T n (pc + 3) ((2, q.1, q.2.1) :: r) (al.1 + q.2.2.1.1, al.2 + q.2.2.1.2)
            | none => false) else false
          | _ => false)
        | _ => false)
      | _, _ => false))
def lL (i : Int32) : mL := [(3, .int i), (2, .ref 69), (1, .ref 0), (0, .retAddr 0)]
theorem l_head {L : Nat} {xs : Nat → Int32} {d k : Nat} {w : mWd} {Q : Option Value → mWd → Prop} (hL : L ≤ 3072) (hk : k ≤ 3072) (h1 : L < k + 6 → Q (some (.int 1)) w) (h2 : k + 6 ≤ L → Rn L xs (d + 1) 274 27 (lL (Int32.ofNat k)) [] w Q) : Rn L xs (d + 1) 274 18 (lL (Int32.ofNat k)) [] w Q := by
  refine Rn.step (hf := by rfl) (hs := by rfl) ?_
  refine Rn.step (hf := by rfl) (hs := by rfl) ?_
  refine Rn.step (hf := by rfl) (hs := by rfl) ?_
  refine Rn.step (hf := by rfl) (hs := by rfl) ?_
  refine Rn.step (hf := by rfl) (hs := by rfl) ?_
  refine Rn.step (hf := by rfl) (hs := by simp only [m_step, m_pure]; rfl) ?_
  have hc : m_cmp .gt (Int32.ofNat k) (Int32.ofNat L - (Int8.ofInt 6).toInt32) = decide (L < k + 6) := by
    unfold m_cmp
    rw [Bool.eq_iff_iff, decide_eq_true_eq, decide_eq_true_eq, Int32.lt_iff_toInt_lt, i32_nat (by omega), Int32.toInt_sub, i32_nat (by omega), show (Int8.ofInt 6).toInt32.toInt = 6 by decide, z_bm0 ⟨by show (-2147483648 : Int) ≤ _; omega, by show _ ≤ (2147483647 : Int); omega⟩]
    omega
  rw [hc]
  by_cases e : L < k + 6
  · rw [decide_eq_true e]
    refine Rn.step (hf := by rfl) (hs := by rfl) ?_
    exact Rn.ret (hf := by rfl) (hs := by rfl) (h1 e)
  · rw [decide_eq_false e]
    exact h2 (by omega)
