/-! THE SMALL MACHINE's step over the world, and its run -/
def m_rf : List (Nat × (Nat × Nat × Int) × Nat) → Nat → Option ((Nat × Nat × Int) × Nat)
  | [], _ => none
  | (j, x) :: l, i => bif Nat.beq j i then some x else m_rf l i
theorem m_rf_mem {l : List (Nat × (Nat × Nat × Int) × Nat)} {i : Nat} {x : (Nat × Nat × Int) × Nat} (h : m_rf l i = some x) : (i, x) ∈ l := by
  induction l with
  | nil => cases h
  | cons q l ih =>
    obtain ⟨j, u⟩ := q
    simp only [m_rf] at h
    cases hb : Nat.beq j i with
    | true =>
      rw [hb] at h
      cases h
      have := Nat.eq_of_beq_eq_true hb
      subst this
      exact List.mem_cons_self
    | false =>
      rw [hb] at h
      exact List.mem_cons_of_mem _ (ih h)
/-- what a pool entry of a method's class stands for -/
def pgRs (k ix : Nat) : Option (Nat × Nat × Int) := match m_rf (pgR.getD (pgOw k) []) ix with
  | some x => some x.1
  | none => none
def pgDf (ci : Nat) : List Value := match vwCl[ci]? with
  | some q => (List.range q.2.2).map (fun k => defaultValue ((pgTy.getD ci (fun _ => .int)) k))
  | none => []
def m_in (j : Int32) (n : Nat) : Bool := decide (¬ (j < 0 ∨ n ≤ j.toNatClampNeg))
def m_fits (ty : FieldType) (v : Value) : Bool := match ty, v with
  | .int, .int _ => true
  | .boolean, .int x => decide (x = 0) || decide (x = 1)
  | .long, .long _ => true
  | .object _, .ref _ => true
  | .object _, .null => true
  | .array _, .ref _ => true
  | .array _, .null => true
  | _, _ => false
abbrev mOut : Type := (Nat × mL × List Value × mWd) ⊕ ((Nat × List Value × List Value) ⊕ Option Value)
def mNx (pc : Nat) (l : mL) (st : List Value) (w : mWd) : Option mOut := some (.inl (pc, l, st, w))
/-- the outer cells: 0 the script, 1 to 3 the class's own tables, 4 a text, 5 its bytes: type's place, length, contents -/
def pgX (L : Nat) (xs : Nat → Int32) (k : Nat) : Option (Nat × Nat × (Nat → Int32)) := match k with
  | 0 => some (0, L, xs)
  | 1 => some (0, 7, fun j => ([-1, 0, 0, 2, 0, 2, 4] : List Int32).getD j 0)
  | 2 => some (0, 21, fun j => ([10, 0, 30, 0, 0, 60, 0, 11, 20, 0, 0, 50, 0, 70, 12, 0, 0, 40, 0, 61, 0] : List Int32).getD j 0)
  | 3 => some (0, 5, fun j => ([100, 30, 0, 99999999, 0] : List Int32).getD j 0)
  | 5 => some (5, 10, fun j => ([107, 115, 99, 101, 108, 114, 121, 112, 110, 106] : List Int32).getD j 0)
  | _ => none
def m_getf (ci k i : Nat) (pc : Nat) (l : mL) (r : List Value) (w : mWd) : Option mOut := match w[i]? with
  | some (.inr (cj, fs)) => if cj = ci then (match fs[k]? with
    | some v => mNx (pc + 3) l (v :: r) w
    | none => none) else none
  | _ => none
def m_putf (fin : Bool) (ci k i : Nat) (v : Value) (ty : FieldType) (pc : Nat) (l : mL) (r : List Value) (w : mWd) : Option mOut := match w[i]? with
  | some (.inr (cj, fs)) => if cj = ci ∧ fin = true ∧ m_fits ty v = true ∧ k < fs.length then mNx (pc + 3) l r (w.set i (.inr (cj, fs.set k v))) else none
  | _ => none
/-- may this method write the field: one that isn't final, or its own in a constructor -/
def m_may (mid ci k : Nat) (nest : Bool) : Bool := match vwCl[ci]? with
  | some (_, T, _) => if (T k).2.2.2 = true then (!nest && decide ((pgN mid).name = "<init>") && decide ((T k).1 = (pgN mid).cls)) else true
  | none => false
def m_fty (ci k : Nat) : FieldType := (pgTy.getD ci (fun _ => .int)) k
def m_opt (f : Nat → Option Nat) (j : Nat) : Value := match f j with
  | some a => .ref a
  | none => .null
def m_ald (o i : Nat) (j : Int32) (w : mWd) : Option Value := match w[i]? with
  | some (.inl (t, n, .inl f)) => if m_in j n = true ∧ t = o ∧ o < 2 then some (.int (f j.toNatClampNeg)) else none
  | some (.inl (t, n, .inr (.inl f))) => if m_in j n = true ∧ t = o ∧ o = 2 then some (.long (f j.toNatClampNeg)) else none
  | some (.inl (t, n, .inr (.inr (.inr (.inr f))))) => if m_in j n = true ∧ o = 3 ∧ (t = 3 ∨ t = 4) then some (m_opt f j.toNatClampNeg) else none
  | _ => none
def m_xld (L : Nat) (xs : Nat → Int32) (o k : Nat) (j : Int32) : Option Value := match pgX L xs k with
  | some (t, n, f) => if m_in j n = true ∧ ((o = 0 ∧ t = 0) ∨ (o = 1 ∧ t = 5)) then some (.int (f j.toNatClampNeg)) else none
  | none => none
def m_ast (o i : Nat) (j : Int32) (v : Value) (w : mWd) : Option mE := match w[i]?, v with
  | some (.inl (t, n, .inl f)), .int x => if m_in j n = true ∧ o = 0 ∧ t = 0 then some (.inl (t, n, .inl (upd f j.toNatClampNeg x))) else if m_in j n = true ∧ o = 1 ∧ t = 1 then some (.inl (t, n, .inl (upd f j.toNatClampNeg (vp_nar .boolean x)))) else none
  | some (.inl (t, n, .inr (.inl f))), .long x => if m_in j n = true ∧ o = 2 ∧ t = 2 then some (.inl (t, n, .inr (.inl (vp_updL f j.toNatClampNeg x)))) else none
  | some (.inl (t, n, .inr (.inr (.inr (.inr f))))), .ref a => (match w[a]? with
    | some (.inr (cj, _)) => if m_in j n = true ∧ o = 3 ∧ t = 3 ∧ cj = 2 then some (.inl (t, n, .inr (.inr (.inr (.inr (va_up f j.toNatClampNeg (some a))))))) else none
    | some (.inl (ta, _, .inl _)) => if m_in j n = true ∧ o = 3 ∧ t = 4 ∧ ta = 0 then some (.inl (t, n, .inr (.inr (.inr (.inr (va_up f j.toNatClampNeg (some a))))))) else none
    | _ => none)
  | _, _ => none
def m_arr (t n : Nat) : Option mE := match t with
  | 0 => some (.inl (0, n, .inl (fun _ => 0)))
  | 1 => some (.inl (1, n, .inl (fun _ => 0)))
  | 2 => some (.inl (2, n, .inr (.inl (fun _ => 0))))
  | 3 => some (.inl (3, n, .inr (.inr (.inr (.inr (fun _ => none))))))
  | 4 => some (.inl (4, n, .inr (.inr (.inr (.inr (fun _ => none))))))
  | _ => none
def m_new (t : Nat) (x : Int32) (pc : Nat) (l : mL) (r : List Value) (w : mWd) : Option mOut := if ¬ x < 0 ∧ x.toNatClampNeg ≤ 100000 then (match m_arr t x.toNatClampNeg with
    | some c => mNx pc l (.ref w.length :: r) (w ++ [c])
    | none => none) else none
/-- n arguments off the stack, the last one first -/
def m_pop : Nat → List Value → List Value → Option (List Value × List Value)
  | 0, st, acc => some (acc, st)
  | n + 1, v :: st, acc => m_pop n st (v :: acc)
  | _ + 1, [], _ => none
def m_cat (vs : List Value) : Nat := (vs.map fun v => v.category).sum
def m_call (y : Nat) (args rest : List Value) : Option mOut := if m_cat rest ≤ 8 ∧ m_cat args ≤ pgL y ∧ m_pl y = true then some (.inr (.inl (y, args, rest))) else none
/-- Math's max, min, abs, and min of longs -/
def m_math (y : Nat) (st : List Value) : Option (List Value) := match y, st with
  | 261, .int b :: .int a :: r => if m_cat r ≤ 8 then some (.int (if a < b then b else a) :: r) else none
  | 262, .int b :: .int a :: r => if m_cat r ≤ 8 then some (.int (if b < a then b else a) :: r) else none
  | 260, .int a :: r => if m_cat r ≤ 8 then some (.int (if 0 ≤ a then a else 0 - a) :: r) else none
  | 263, .long b :: .long a :: r => if m_cat r ≤ 8 then some (.long (if b < a then b else a) :: r) else none
  | _, _ => none
/-- is the value an object of the class that has this method -/
def m_rcv (y : Nat) (v : Value) (w : mWd) : Bool := match v with
  | .ref i => (match w[i]? with
    | some (.inr (cj, _)) => Nat.beq (pgOw y) cj && Nat.blt cj 13
    | _ => false)
  | .retAddr k => Nat.beq k 4 && Nat.beq (pgOw y) 16
  | _ => false
def m_copy (a b : mE) (sp dp ln : Int32) : Option mE := match a, b with
  | .inl (t, n, .inl f), .inl (u, k, .inl g) => if t = 0 ∧ u = 0 ∧ ¬ sp < 0 ∧ ¬ dp < 0 ∧ ¬ ln < 0 ∧ sp.toNatClampNeg + ln.toNatClampNeg ≤ n ∧ dp.toNatClampNeg + ln.toNatClampNeg ≤ k then some (.inl (0, k, .inl (va_cpy f g sp.toNatClampNeg dp.toNatClampNeg ln.toNatClampNeg))) else none
  | _, _ => none
def m_ret (ty : Option FieldType) (o : Nat) (st : List Value) : Option (Option Value) := match o, st, ty with
  | 0, [.int x], some .int => some (some (.int x))
  | 0, [.int x], some .boolean => if x = 0 ∨ x = 1 then some (some (.int x)) else none
  | 0, [.int x], some .byte => if x = 0 then some (some (.int x)) else none
  | 1, [.long x], some .long => some (some (.long x))
  | 2, [.ref i], some (.object _) => some (some (.ref i))
  | 2, [.null], some (.object _) => some (some .null)
  | 2, [.ref i], some (.array _) => some (some (.ref i))
  | 3, [], none => some none
  | _, _, _ => none
def m_len1 (L : Nat) (xs : Nat → Int32) (v : Value) (w : mWd) : Option Nat := match v with
  | .ref i => (match w[i]? with
    | some (.inl (t, n, _)) => if t < 5 then some n else none
    | _ => none)
  | .retAddr k => (match pgX L xs k with
    | some (_, n, _) => some n
    | none => none)
  | _ => none
def m_step (L : Nat) (xs : Nat → Int32) (mid pc : Nat) (l : mL) (st : List Value) (w : mWd) (ins : Instr) : Option mOut := match ins with
  | .getfield ix => (match pgRs mid ix, st with
    | some (0, ci, k), .ref i :: r => m_getf ci k.toNat i pc l r w
    | some (1, ci, k), .ref i :: r => m_getf ci k.toNat i pc l r w
    | some (20, _, _), .retAddr 4 :: r => mNx (pc + 3) l (.retAddr 5 :: r) w
    | some (21, _, _), .retAddr 4 :: r => mNx (pc + 3) l (.int 0 :: r) w
    | _, _ => none)
  | .putfield ix => (match pgRs mid ix, st with
    | some (0, ci, k), v :: .ref i :: r => m_putf (m_may mid ci k.toNat false) ci k.toNat i v (m_fty ci k.toNat) pc l r w
    | some (1, ci, k), v :: .ref i :: r => m_putf (m_may mid ci k.toNat true) ci k.toNat i v (m_fty ci k.toNat) pc l r w
    | _, _ => none)
  | .getstatic ix => (match pgRs mid ix with
    | some (2, a, _) => mNx (pc + 3) l (.retAddr a :: st) w
    | some (3, _, b) => mNx (pc + 3) l (.int (Int32.ofInt b) :: st) w
    | _ => none)
  | .ldc ix => (match pgRs mid ix with
    | some (16, _, b) => mNx (pc + 2) l (.int (Int32.ofInt b) :: st) w
    | some (18, a, _) => mNx (pc + 2) l (.retAddr a :: st) w
    | _ => none)
  | .ldc_w ix => (match pgRs mid ix with
    | some (16, _, b) => mNx (pc + 3) l (.int (Int32.ofInt b) :: st) w
    | _ => none)
  | .ldc2_w ix => (match pgRs mid ix with
    | some (17, _, b) => mNx (pc + 3) l (.long (Int64.ofInt b) :: st) w
    | _ => none)
  | .iaload => (match st with
    | .int j :: .ref i :: r => (match m_ald 0 i j w with | some v => mNx (pc + 1) l (v :: r) w | none => none)
    | .int j :: .retAddr k :: r => (match m_xld L xs 0 k j with | some v => mNx (pc + 1) l (v :: r) w | none => none)
    | _ => none)
  | .baload => (match st with
    | .int j :: .ref i :: r => (match m_ald 1 i j w with | some v => mNx (pc + 1) l (v :: r) w | none => none)
    | .int j :: .retAddr k :: r => (match m_xld L xs 1 k j with | some v => mNx (pc + 1) l (v :: r) w | none => none)
    | _ => none)
  | .laload => (match st with
    | .int j :: .ref i :: r => (match m_ald 2 i j w with | some v => mNx (pc + 1) l (v :: r) w | none => none)
    | _ => none)
  | .aaload => (match st with
    | .int j :: .ref i :: r => (match m_ald 3 i j w with | some v => mNx (pc + 1) l (v :: r) w | none => none)
    | _ => none)
  | .iastore => (match st with
    | v :: .int j :: .ref i :: r => (match m_ast 0 i j v w with | some c => mNx (pc + 1) l r (w.set i c) | none => none)
    | _ => none)
  | .bastore => (match st with
    | v :: .int j :: .ref i :: r => (match m_ast 1 i j v w with | some c => mNx (pc + 1) l r (w.set i c) | none => none)
    | _ => none)
  | .lastore => (match st with
    | v :: .int j :: .ref i :: r => (match m_ast 2 i j v w with | some c => mNx (pc + 1) l r (w.set i c) | none => none)
    | _ => none)
  | .aastore => (match st with
    | v :: .int j :: .ref i :: r => (match m_ast 3 i j v w with | some c => mNx (pc + 1) l r (w.set i c) | none => none)
    | _ => none)
  | .arraylength => (match st with
    | v :: r => (match m_len1 L xs v w with | some n => mNx (pc + 1) l (.int (Int32.ofNat n) :: r) w | none => none)
    | _ => none)
  | .newarray a => (match st with
    | .int x :: r => (match a with
      | .int => m_new 0 x (pc + 2) l r w
      | .boolean => m_new 1 x (pc + 2) l r w
      | .long => m_new 2 x (pc + 2) l r w
      | _ => none)
    | _ => none)
  | .anewarray ix => (match pgRs mid ix, st with
    | some (14, t, _), .int x :: r => if t = 3 ∨ t = 4 then m_new t x (pc + 3) l r w else none
    | _, _ => none)
  | .new ix => (match pgRs mid ix with
    | some (13, ci, _) => mNx (pc + 3) l (.ref w.length :: st) (w ++ [.inr (ci, pgDf ci)])
    | some (14, 3, _) => mNx (pc + 3) l (.ref w.length :: st) (w ++ [.inr (2, pgDf 2)])
    | _ => none)
  | .checkcast ix => (match pgRs mid ix, st with
    | some (15, _, _), .ref i :: r => (match w[i]? with | some (.inl (0, _, _)) => mNx (pc + 3) l (.ref i :: r) w | _ => none)
    | _, _ => none)
  | .invokestatic ix => (match pgRs mid ix with
    | some (4, y, _) => if m_pl y = true then (match m_pop (pgA y) st [] with | some (as, r) => m_call y as r | none => none) else (match m_math y st with | some st' => mNx (pc + 3) l st' w | none => none)
    | some (5, y, _) => (match m_pop (pgA y) st [] with | some (as, r) => m_call y as r | none => none)
    | some (12, _, _) => (match st with
      | .int ln :: .int dp :: .ref d :: .int sp :: .ref a :: r => (match w[a]?, w[d]? with
        | some ca, some cd => (match m_copy ca cd sp dp ln with | some c => if a ≠ d ∧ m_cat r ≤ 8 then mNx (pc + 3) l r (w.set d c) else none | none => none)
        | _, _ => none)
      | _ => none)
    | _ => none)
  | .invokevirtual ix => (match pgRs mid ix with
    | some (6, y, _) => (match m_pop (pgA y) st [] with | some (as, v :: r) => if m_rcv y v w = true then m_call y (v :: as) r else none | _ => none)
    | some (7, y, _) => (match m_pop (pgA y) st [] with | some (as, v :: r) => if m_rcv y v w = true then m_call y (v :: as) r else none | _ => none)
    | some (11, _, _) => (match st with
      | .ref i :: r => (match w[i]? with | some (.inl (0, n, .inl f)) => if m_cat r ≤ 8 then mNx (pc + 3) l (.ref w.length :: r) (w ++ [.inl (0, n, .inl f)]) else none | _ => none)
      | _ => none)
    | _ => none)
  | .invokespecial ix => (match pgRs mid ix with
    | some (8, y, _) => (match m_pop (pgA y) st [] with | some (as, .ref i :: r) => m_call y (.ref i :: as) r | _ => none)
    | some (9, y, _) => (match m_pop (pgA y) st [] with | some (as, .ref i :: r) => m_call y (.ref i :: as) r | _ => none)
    | some (10, _, _) => (match st with | .ref _ :: r => if m_cat r ≤ 8 then mNx (pc + 3) l r w else none | _ => none)
    | _ => none)
  | .ireturn => (match m_ret (pgT mid) 0 st with | some v => some (.inr (.inr v)) | none => none)
  | .lreturn => (match m_ret (pgT mid) 1 st with | some v => some (.inr (.inr v)) | none => none)
  | .areturn => (match m_ret (pgT mid) 2 st with | some v => some (.inr (.inr v)) | none => none)
  | .return_ => (match m_ret (pgT mid) 3 st with | some v => some (.inr (.inr v)) | none => none)
  | _ => (match m_pure (pgL mid) ins pc l st with
    | some (pc', l', st') => mNx pc' l' st' w
    | none => none)
/-- the run: n steps at most, d calls deep at most; what the method answers, and the world behind it -/
def m_run (L : Nat) (xs : Nat → Int32) : Nat → Nat → Nat → Nat → mL → List Value → mWd → Option (Option Value × mWd)
  | 0, _, _, _, _, _, _ => none
  | _ + 1, 0, _, _, _, _, _ => none
  | n + 1, d + 1, mid, pc, l, st, w => (match pgF mid pc with
    | none => none
    | some (ins, _) => (match m_step L xs mid pc l st w ins with
      | none => none
      | some (.inl (pc', l', st', w')) => m_run L xs n (d + 1) mid pc' l' st' w'
      | some (.inr (.inl (y, as, r))) => (match m_run L xs n d y 0 (lv_args 0 as) [] w with
        | none => none
        | some (v, w1) => m_run L xs n (d + 1) mid (pc + 3) l (v.toList ++ r) w1)
      | some (.inr (.inr v)) => some (v, w)))
