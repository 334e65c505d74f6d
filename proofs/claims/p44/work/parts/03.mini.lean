/-! THE SMALL MACHINE: cells by their places (a reference is a place in the world; retAddr k is an outer cell k), one list of locals, one stack. It is a program (a total function with fuel); what it answers the machine does (part 03, 04). -/
abbrev mE : Type := (Nat × vp_A) ⊕ (Nat × List Value)
abbrev mWd : Type := List mE
abbrev mL : Type := List (Nat × Value)
def mv (B : Nat) (X : Nat → Nat) (v : Value) : Value := match v with
  | .ref i => .ref (B + i)
  | .retAddr k => .ref (X k)
  | .int x => .int x
  | .long x => .long x
  | .float x => .float x
  | .double x => .double x
  | .null => .null
theorem mv_cat (B : Nat) (X : Nat → Nat) (v : Value) : (mv B X v).category = v.category := by cases v <;> rfl
def m_get : mL → Nat → Option Value
  | [], _ => none
  | (j, v) :: l, i => bif Nat.beq j i then some v else m_get l i
theorem m_get_mem {lv : mL} {i : Nat} {v : Value} (h : m_get lv i = some v) : (i, v) ∈ lv := by
  induction lv with
  | nil => cases h
  | cons q l ih =>
    obtain ⟨j, u⟩ := q
    simp only [m_get] at h
    cases hb : Nat.beq j i with
    | true =>
      rw [hb] at h
      cases h
      have := Nat.eq_of_beq_eq_true hb
      subst this
      exact List.mem_cons_self
    | false =>
      rw [hb] at h
      exact List.mem_cons_of_mem _ (ih h)
def m_put1 (l : mL) (i : Nat) (v : Value) : mL := (i, v) :: l.filter (fun q => !(q.1 == i) && !(q.1 + 1 == i && q.2.category == 2))
def m_put2 (l : mL) (i : Nat) (v : Value) : mL := (i, v) :: l.filter (fun q => !(q.1 == i) && (!(q.1 == i + 1) && !(q.1 + 1 == i && q.2.category == 2)))
def mlv (B : Nat) (X : Nat → Nat) (l : mL) : List (Nat × Value) := l.map (fun q => (q.1, mv B X q.2))
theorem mlv_put1 (B : Nat) (X : Nat → Nat) (l : mL) (i : Nat) (v : Value) : (i, mv B X v) :: (mlv B X l).filter (fun q => !(q.1 == i) && !(q.1 + 1 == i && q.2.category == 2)) = mlv B X (m_put1 l i v) := by
  unfold mlv m_put1
  rw [List.map_cons, List.filter_map]
  congr 2
  apply List.filter_congr
  intro q _
  simp [mv_cat]
theorem mlv_put2 (B : Nat) (X : Nat → Nat) (l : mL) (i : Nat) (v : Value) : (i, mv B X v) :: (mlv B X l).filter (fun q => !(q.1 == i) && (!(q.1 == i + 1) && !(q.1 + 1 == i && q.2.category == 2))) = mlv B X (m_put2 l i v) := by
  unfold mlv m_put2
  rw [List.map_cons, List.filter_map]
  congr 2
  apply List.filter_congr
  intro q _
  simp [mv_cat]
theorem mlv_get {B : Nat} {X : Nat → Nat} {ls : Array Slot} {nL : Nat} {l : mL} {i : Nat} {v : Value} (h : lv_has ls nL (mlv B X l)) (hg : m_get l i = some v) : ls[i]? = some (.val (mv B X v)) :=
  h.2.2 (i, mv B X v) (List.mem_map.mpr ⟨(i, v), m_get_mem hg, rfl⟩)
theorem mlv_at {B : Nat} {X : Nat → Nat} {l : mL} {i : Nat} {v : Value} (hg : m_get l i = some v) : ∃ k : Nat, (mlv B X l)[k]? = some (i, mv B X v) := by
  obtain ⟨k, hk⟩ := List.getElem?_of_mem (m_get_mem hg)
  exact ⟨k, by unfold mlv; rw [List.getElem?_map, hk]; rfl⟩
def m_tgt (pc : Nat) (off : Int) : Option Nat := match (pc : Int) + off with
  | .ofNat n => some n
  | .negSucc _ => none
theorem m_tgt_ok {pc : Nat} {off : Int} {t : Nat} (h : m_tgt pc off = some t) : (pc : Int) + off = (t : Int) := by
  unfold m_tgt at h
  split at h
  next n e => cases h; exact e
  next => cases h
def m_cmp (cd : Jvm.ClassFile.Cond) (x y : Int32) : Bool := match cd with
  | .eq => decide (x = y)
  | .ne => !decide (x = y)
  | .lt => decide (x < y)
  | .ge => decide (y ≤ x)
  | .gt => decide (y < x)
  | .le => decide (x ≤ y)
def m_i2 (ins : Instr) (x y : Int32) : Option Int32 := match ins with
  | .iadd => some (x + y)
  | .isub => some (x - y)
  | .imul => some (x * y)
  | .iand => some (x &&& y)
  | .ior => some (x ||| y)
  | .ixor => some (x ^^^ y)
  | .idiv => if y = 0 then none else some (x / y)
  | .irem => if y = 0 then none else some (x - x / y * y)
  | .ishl => some (x <<< (y &&& 31))
  | .ishr => some (x >>> (y &&& 31))
  | .iushr => some ((x.toUInt32 >>> (y.toUInt32 &&& Int32.toUInt32 31)).toInt32)
  | _ => none
def m_l2 (ins : Instr) (x y : Int64) : Option Value := match ins with
  | .ladd => some (.long (x + y))
  | .lsub => some (.long (x - y))
  | .lmul => some (.long (x * y))
  | .land => some (.long (x &&& y))
  | .lor => some (.long (x ||| y))
  | .lxor => some (.long (x ^^^ y))
  | .ldiv => if y = 0 then none else some (.long (x / y))
  | .lrem => if y = 0 then none else some (.long (x - x / y * y))
  | .lcmp => some (.int (lg_cmp x y))
  | _ => none
def m_isl2 (ins : Instr) : Bool := match ins with
  | .ladd | .lsub | .lmul | .land | .lor | .lxor | .ldiv | .lrem | .lcmp => true
  | _ => false
def m_cv (ins : Instr) (v : Value) : Option Value := match ins, v with
  | .ineg, .int x => some (.int (-x))
  | .lneg, .long x => some (.long (-x))
  | .i2l, .int x => some (.long x.toInt64)
  | .l2i, .long x => some (.int x.toInt32)
  | .i2b, .int x => some (.int x.toInt8.toInt32)
  | .i2s, .int x => some (.int x.toInt16.toInt32)
  | .i2c, .int x => some (.int (x.toUInt32 % 65536).toInt32)
  | _, _ => none
def m_ld (ty : Nat) (l : mL) (i : Nat) (pc : Nat) (st : List Value) : Option (Nat × mL × List Value) := match m_get l i with
  | some (.int x) => if ty = 0 then some (pc, l, .int x :: st) else none
  | some (.long x) => if ty = 1 then some (pc, l, .long x :: st) else none
  | some (.ref x) => if ty = 2 then some (pc, l, .ref x :: st) else none
  | some (.retAddr x) => if ty = 2 then some (pc, l, .retAddr x :: st) else none
  | some .null => if ty = 2 then some (pc, l, .null :: st) else none
  | _ => none
def m_st (nL ty : Nat) (l : mL) (i : Nat) (pc : Nat) (st : List Value) : Option (Nat × mL × List Value) := match st with
  | .int x :: r => if ty = 0 ∧ i < nL then some (pc, m_put1 l i (.int x), r) else none
  | .long x :: r => if ty = 1 ∧ i + 1 < nL then some (pc, m_put2 l i (.long x), r) else none
  | .ref x :: r => if ty = 2 ∧ i < nL then some (pc, m_put1 l i (.ref x), r) else none
  | .retAddr x :: r => if ty = 2 ∧ i < nL then some (pc, m_put1 l i (.retAddr x), r) else none
  | .null :: r => if ty = 2 ∧ i < nL then some (pc, m_put1 l i .null, r) else none
  | _ => none
def m_c1 (v : Value) : Bool := match v with
  | .long _ => false
  | .double _ => false
  | _ => true
theorem m_c1_ok {v : Value} (h : m_c1 v = true) (B : Nat) (X : Nat → Nat) : (mv B X v).category = 1 := by
  cases v <;> first | rfl | cases h
def m_br (b : Bool) (pc : Nat) (off : Int) (l : mL) (st : List Value) : Option (Nat × mL × List Value) := match m_tgt pc off with
  | some t => some (bif b then t else pc + 3, l, st)
  | none => none
def m_jmp (pc : Nat) (off : Int) (l : mL) (st : List Value) : Option (Nat × mL × List Value) := match m_tgt pc off with
  | some t => some (t, l, st)
  | none => none
def m_bi (ins : Instr) (pc : Nat) (l : mL) (st : List Value) : Option (Nat × mL × List Value) := match st with
  | .int y :: .int x :: r => (match m_i2 ins x y with
    | some z => some (pc + 1, l, .int z :: r)
    | none => none)
  | _ => none
def m_bl (ins : Instr) (pc : Nat) (l : mL) (st : List Value) : Option (Nat × mL × List Value) := match st with
  | .long y :: .long x :: r => (match m_l2 ins x y with
    | some z => some (pc + 1, l, z :: r)
    | none => none)
  | _ => none
def m_un (ins : Instr) (pc : Nat) (l : mL) (st : List Value) : Option (Nat × mL × List Value) := match st with
  | v :: r => (match m_cv ins v with
    | some z => some (pc + 1, l, z :: r)
    | none => none)
  | _ => none
def m_nul (b : Bool) (pc : Nat) (off : Int) (l : mL) (st : List Value) : Option (Nat × mL × List Value) := match st with
  | .null :: r => m_br b pc off l r
  | .ref _ :: r => m_br (!b) pc off l r
  | .retAddr _ :: r => m_br (!b) pc off l r
  | _ => none
def m_acm (b : Bool) (pc : Nat) (off : Int) (l : mL) (st : List Value) : Option (Nat × mL × List Value) := match st with
  | .null :: .null :: r => m_br b pc off l r
  | .ref _ :: .null :: r => m_br (!b) pc off l r
  | .null :: .ref _ :: r => m_br (!b) pc off l r
  | .ref x :: .ref y :: r => m_br (if x = y then b else !b) pc off l r
  | _ => none
def m_srt (ps : List (Int × Int)) : Bool := (ps.zip (ps.drop 1)).all (fun (a, next) => a.1 < next.1)
/-- the instructions that touch locals and stack alone -/
def m_pure (nL : Nat) (ins : Instr) (pc : Nat) (l : mL) (st : List Value) : Option (Nat × mL × List Value) := match ins with
  | .iconst n => some (pc + 1, l, .int (Int32.ofInt n) :: st)
  | .bipush n => some (pc + 2, l, .int (Int8.ofInt n).toInt32 :: st)
  | .sipush n => some (pc + 3, l, .int (Int16.ofInt n).toInt32 :: st)
  | .lconst n => some (pc + 1, l, .long (Int64.ofNat (n : Nat)) :: st)
  | .aconst_null => some (pc + 1, l, .null :: st)
  | .iload_n k => m_ld 0 l k (pc + 1) st
  | .iload k => m_ld 0 l k (pc + 2) st
  | .lload_n k => m_ld 1 l k (pc + 1) st
  | .lload k => m_ld 1 l k (pc + 2) st
  | .aload_n k => m_ld 2 l k (pc + 1) st
  | .aload k => m_ld 2 l k (pc + 2) st
  | .istore_n k => m_st nL 0 l k (pc + 1) st
  | .istore k => m_st nL 0 l k (pc + 2) st
  | .lstore_n k => m_st nL 1 l k (pc + 1) st
  | .lstore k => m_st nL 1 l k (pc + 2) st
  | .astore_n k => m_st nL 2 l k (pc + 1) st
  | .astore k => m_st nL 2 l k (pc + 2) st
  | .iinc i n => (match m_get l i with
    | some (.int x) => if i < nL then some (pc + 3, m_put1 l i (.int (x + Int32.ofInt n)), st) else none
    | _ => none)
  | .iadd => m_bi .iadd pc l st
  | .isub => m_bi .isub pc l st
  | .imul => m_bi .imul pc l st
  | .iand => m_bi .iand pc l st
  | .ior => m_bi .ior pc l st
  | .ixor => m_bi .ixor pc l st
  | .idiv => m_bi .idiv pc l st
  | .irem => m_bi .irem pc l st
  | .ishl => m_bi .ishl pc l st
  | .ishr => m_bi .ishr pc l st
  | .iushr => m_bi .iushr pc l st
  | .ladd => m_bl .ladd pc l st
  | .lsub => m_bl .lsub pc l st
  | .lmul => m_bl .lmul pc l st
  | .land => m_bl .land pc l st
  | .lor => m_bl .lor pc l st
  | .lxor => m_bl .lxor pc l st
  | .ldiv => m_bl .ldiv pc l st
  | .lrem => m_bl .lrem pc l st
  | .lcmp => m_bl .lcmp pc l st
  | .ineg => m_un .ineg pc l st
  | .lneg => m_un .lneg pc l st
  | .i2l => m_un .i2l pc l st
  | .l2i => m_un .l2i pc l st
  | .i2b => m_un .i2b pc l st
  | .i2s => m_un .i2s pc l st
  | .i2c => m_un .i2c pc l st
  | .dup => (match st with
    | a :: r => if m_c1 a = true then some (pc + 1, l, a :: a :: r) else none
    | _ => none)
  | .pop => (match st with
    | a :: r => if m_c1 a = true then some (pc + 1, l, r) else none
    | _ => none)
  | .dup_x1 => (match st with
    | a :: b :: r => if m_c1 a = true ∧ m_c1 b = true then some (pc + 1, l, a :: b :: a :: r) else none
    | _ => none)
  | .dup_x2 => (match st with
    | a :: b :: d :: r => if m_c1 a = true ∧ m_c1 b = true ∧ m_c1 d = true then some (pc + 1, l, a :: b :: d :: a :: r) else none
    | _ => none)
  | .dup2 => (match st with
    | .long x :: r => some (pc + 1, l, .long x :: .long x :: r)
    | a :: b :: r => if m_c1 a = true ∧ m_c1 b = true then some (pc + 1, l, a :: b :: a :: b :: r) else none
    | _ => none)
  | .pop2 => (match st with
    | .long _ :: r => some (pc + 1, l, r)
    | a :: b :: r => if m_c1 a = true ∧ m_c1 b = true then some (pc + 1, l, r) else none
    | _ => none)
  | .ifCond cd off => (match st with
    | .int x :: r => m_br (m_cmp cd x 0) pc off l r
    | _ => none)
  | .if_icmp cd off => (match st with
    | .int y :: .int x :: r => m_br (m_cmp cd x y) pc off l r
    | _ => none)
  | .ifnull off => m_nul true pc off l st
  | .ifnonnull off => m_nul false pc off l st
  | .if_acmp .eq off => m_acm true pc off l st
  | .if_acmp .ne off => m_acm false pc off l st
  | .goto off => m_jmp pc off l st
  | .tableswitch d lo hi offs => (match st with
    | .int x :: r => if x.toInt < lo ∨ hi < x.toInt then m_jmp pc d l r else (match offs[(x.toInt - lo).toNat]? with
      | some off => m_jmp pc off l r
      | none => none)
    | _ => none)
  | .lookupswitch d ps => (match st with
    | .int x :: r => if m_srt ps.toList = true then m_jmp pc (Op.lookupswitch.offset ps.toList d x.toInt) l r else none
    | _ => none)
  | _ => none
/-- the length of an instruction in its plain form (a switch's is told beside it) -/
def m_len (ins : Instr) (n : Nat) : Nat := match ins with
  | .bipush _ | .iload _ | .lload _ | .aload _ | .istore _ | .lstore _ | .astore _ | .ldc _ | .newarray _ => 2
  | .sipush _ | .iinc _ _ | .ifCond _ _ | .if_icmp _ _ | .ifnull _ | .ifnonnull _ | .if_acmp _ _ | .goto _ | .getfield _ | .putfield _ | .getstatic _ | .invokevirtual _ | .invokespecial _ | .invokestatic _ | .new _ | .anewarray _ | .ldc_w _ | .ldc2_w _ | .checkcast _ | .instanceof _ => 3
  | .tableswitch _ _ _ _ | .lookupswitch _ _ => n
  | _ => 1
