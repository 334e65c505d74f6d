section
/-! THE SMALL MACHINE: cells by their places (a reference is a place in the world; retAddr k is an outer cell k), one list of locals, one stack. It is a program (a total function with fuel); what it answers the machine does (part 03, 04). -/
abbrev mE : Type := (Nat × vp_A) ⊕ (Nat × List Value)
abbrev mWd : Type := List mE
abbrev mL : Type := List (Nat × Value)
def mv (B : Nat) (X : Nat → Nat) (v : Value) : Value := match v with
  | .ref i => .ref (B + i)
  | .retAddr k => .ref (X k)
  | .int x => .int x
  | .long x => .long x
  | .float x => .float x
  | .double x => .double x
  | .null => .null
theorem mv_cat (B : Nat) (X : Nat → Nat) (v : Value) : (mv B X v).category = v.category := by cases v <;> rfl
def m_get : mL → Nat → Option Value
  | [], _ => none
  | (j, v) :: l, i => bif Nat.beq j i then some v else m_get l i
theorem m_get_mem {lv : mL} {i : Nat} {v : Value} (h : m_get lv i = some v) : (i, v) ∈ lv := by
  induction lv with
  | nil => cases h
  | cons q l ih =>
    obtain ⟨j, u⟩ := q
    simp only [m_get] at h
    cases hb : Nat.beq j i with
    | true =>
      rw [hb] at h
      cases h
      have := Nat.eq_of_beq_eq_true hb
      subst this
      exact List.mem_cons_self
    | false =>
      rw [hb] at h
      exact List.mem_cons_of_mem _ (ih h)
def m_put1 (l : mL) (i : Nat) (v : Value) : mL := (i, v) :: l.filter (fun q => !(q.1 == i) && !(q.1 + 1 == i && q.2.category == 2))
def m_put2 (l : mL) (i : Nat) (v : Value) : mL := (i, v) :: l.filter (fun q => !(q.1 == i) && (!(q.1 == i + 1) && !(q.1 + 1 == i && q.2.category == 2)))
def mlv (B : Nat) (X : Nat → Nat) (l : mL) : List (Nat × Value) := l.map (fun q => (q.1, mv B X q.2))
theorem mlv_put1 (B : Nat) (X : Nat → Nat) (l : mL) (i : Nat) (v : Value) : (i, mv B X v) :: (mlv B X l).filter (fun q => !(q.1 == i) && !(q.1 + 1 == i && q.2.category == 2)) = mlv B X (m_put1 l i v) := by
  unfold mlv m_put1
  rw [List.map_cons, List.filter_map]
  congr 2
  apply List.filter_congr
  intro q _
  simp [mv_cat]
theorem mlv_put2 (B : Nat) (X : Nat → Nat) (l : mL) (i : Nat) (v : Value) : (i, mv B X v) :: (mlv B X l).filter (fun q => !(q.1 == i) && (!(q.1 == i + 1) && !(q.1 + 1 == i && q.2.category == 2))) = mlv B X (m_put2 l i v) := by
  unfold mlv m_put2
  rw [List.map_cons, List.filter_map]
  congr 2
  apply List.filter_congr
  intro q _
  simp [mv_cat]
theorem mlv_get {B : Nat} {X : Nat → Nat} {ls : Array Slot} {nL : Nat} {l : mL} {i : Nat} {v : Value} (h : lv_has ls nL (mlv B X l)) (hg : m_get l i = some v) : ls[i]? = some (.val (mv B X v)) :=
  h.2.2 (i, mv B X v) (List.mem_map.mpr ⟨(i, v), m_get_mem hg, rfl⟩)
theorem mlv_at {B : Nat} {X : Nat → Nat} {l : mL} {i : Nat} {v : Value} (hg : m_get l i = some v) : ∃ k : Nat, (mlv B X l)[k]? = some (i, mv B X v) := by
  obtain ⟨k, hk⟩ := List.getElem?_of_mem (m_get_mem hg)
  exact ⟨k, by unfold mlv; rw [List.getElem?_map, hk]; rfl⟩
def m_tgt (pc : Nat) (off : Int) : Option Nat := match (pc : Int) + off with
  | .ofNat n => some n
  | .negSucc _ => none
theorem m_tgt_ok {pc : Nat} {off : Int} {t : Nat} (h : m_tgt pc off = some t) : (pc : Int) + off = (t : Int) := by
  unfold m_tgt at h
  split at h
  next n e => cases h; exact e
  next => cases h
def m_cmp (cd : Jvm.ClassFile.Cond) (x y : Int32) : Bool := match cd with
  | .eq => decide (x = y)
  | .ne => !decide (x = y)
  | .lt => decide (x < y)
  | .ge => decide (y ≤ x)
  | .gt => decide (y < x)
  | .le => decide (x ≤ y)
def m_i2 (ins : Instr) (x y : Int32) : Option Int32 := match ins with
  | .iadd => some (x + y)
  | .isub => some (x - y)
  | .imul => some (x * y)
  | .iand => some (x &&& y)
  | .ior => some (x ||| y)
  | .ixor => some (x ^^^ y)
  | .idiv => if y = 0 then none else some (x / y)
  | .irem => if y = 0 then none else some (x - x / y * y)
  | .ishl => some (x <<< (y &&& 31))
  | .ishr => some (x >>> (y &&& 31))
  | .iushr => some ((x.toUInt32 >>> (y.toUInt32 &&& Int32.toUInt32 31)).toInt32)
  | _ => none
def m_l2 (ins : Instr) (x y : Int64) : Option Value := match ins with
  | .ladd => some (.long (x + y))
  | .lsub => some (.long (x - y))
  | .lmul => some (.long (x * y))
  | .land => some (.long (x &&& y))
  | .lor => some (.long (x ||| y))
  | .lxor => some (.long (x ^^^ y))
  | .ldiv => if y = 0 then none else some (.long (x / y))
  | .lrem => if y = 0 then none else some (.long (x - x / y * y))
  | .lcmp => some (.int (lg_cmp x y))
  | _ => none
def m_isl2 (ins : Instr) : Bool := match ins with
  | .ladd | .lsub | .lmul | .land | .lor | .lxor | .ldiv | .lrem | .lcmp => true
  | _ => false
def m_cv (ins : Instr) (v : Value) : Option Value := match ins, v with
  | .ineg, .int x => some (.int (-x))
  | .lneg, .long x => some (.long (-x))
  | .i2l, .int x => some (.long x.toInt64)
  | .l2i, .long x => some (.int x.toInt32)
  | .i2b, .int x => some (.int x.toInt8.toInt32)
  | .i2s, .int x => some (.int x.toInt16.toInt32)
  | .i2c, .int x => some (.int (x.toUInt32 % 65536).toInt32)
  | _, _ => none
def m_ld (ty : Nat) (l : mL) (i : Nat) (pc : Nat) (st : List Value) : Option (Nat × mL × List Value) := match m_get l i with
  | some (.int x) => if ty = 0 then some (pc, l, .int x :: st) else none
  | some (.long x) => if ty = 1 then some (pc, l, .long x :: st) else none
  | some (.ref x) => if ty = 2 then some (pc, l, .ref x :: st) else none
  | some (.retAddr x) => if ty = 2 then some (pc, l, .retAddr x :: st) else none
  | some .null => if ty = 2 then some (pc, l, .null :: st) else none
  | _ => none
def m_st (nL ty : Nat) (l : mL) (i : Nat) (pc : Nat) (st : List Value) : Option (Nat × mL × List Value) := match st with
  | .int x :: r => if ty = 0 ∧ i < nL then some (pc, m_put1 l i (.int x), r) else none
  | .long x :: r => if ty = 1 ∧ i + 1 < nL then some (pc, m_put2 l i (.long x), r) else none
  | .ref x :: r => if ty = 2 ∧ i < nL then some (pc, m_put1 l i (.ref x), r) else none
  | .retAddr x :: r => if ty = 2 ∧ i < nL then some (pc, m_put1 l i (.retAddr x), r) else none
  | .null :: r => if ty = 2 ∧ i < nL then some (pc, m_put1 l i .null, r) else none
  | _ => none
def m_c1 (v : Value) : Bool := match v with
  | .long _ => false
  | .double _ => false
  | _ => true
theorem m_c1_ok {v : Value} (h : m_c1 v = true) (B : Nat) (X : Nat → Nat) : (mv B X v).category = 1 := by
  cases v <;> first | rfl | cases h
def m_br (b : Bool) (pc : Nat) (off : Int) (l : mL) (st : List Value) : Option (Nat × mL × List Value) := match m_tgt pc off with
  | some t => some (bif b then t else pc + 3, l, st)
  | none => none
def m_jmp (pc : Nat) (off : Int) (l : mL) (st : List Value) : Option (Nat × mL × List Value) := match m_tgt pc off with
  | some t => some (t, l, st)
  | none => none
def m_bi (ins : Instr) (pc : Nat) (l : mL) (st : List Value) : Option (Nat × mL × List Value) := match st with
  | .int y :: .int x :: r => (match m_i2 ins x y with
    | some z => some (pc + 1, l, .int z :: r)
    | none => none)
  | _ => none
def m_bl (ins : Instr) (pc : Nat) (l : mL) (st : List Value) : Option (Nat × mL × List Value) := match st with
  | .long y :: .long x :: r => (match m_l2 ins x y with
    | some z => some (pc + 1, l, z :: r)
    | none => none)
  | _ => none
def m_un (ins : Instr) (pc : Nat) (l : mL) (st : List Value) : Option (Nat × mL × List Value) := match st with
  | v :: r => (match m_cv ins v with
    | some z => some (pc + 1, l, z :: r)
    | none => none)
  | _ => none
def m_nul (b : Bool) (pc : Nat) (off : Int) (l : mL) (st : List Value) : Option (Nat × mL × List Value) := match st with
  | .null :: r => m_br b pc off l r
  | .ref _ :: r => m_br (!b) pc off l r
  | .retAddr _ :: r => m_br (!b) pc off l r
  | _ => none
def m_acm (b : Bool) (pc : Nat) (off : Int) (l : mL) (st : List Value) : Option (Nat × mL × List Value) := match st with
  | .null :: .null :: r => m_br b pc off l r
  | .ref _ :: .null :: r => m_br (!b) pc off l r
  | .null :: .ref _ :: r => m_br (!b) pc off l r
  | .ref x :: .ref y :: r => m_br (if x = y then b else !b) pc off l r
  | _ => none
def m_srt (ps : List (Int × Int)) : Bool := (ps.zip (ps.drop 1)).all (fun (a, next) => a.1 < next.1)
/-- the instructions that touch locals and stack alone -/
def m_pure (nL : Nat) (ins : Instr) (pc : Nat) (l : mL) (st : List Value) : Option (Nat × mL × List Value) := match ins with
  | .iconst n => some (pc + 1, l, .int (Int32.ofInt n) :: st)
  | .bipush n => some (pc + 2, l, .int (Int8.ofInt n).toInt32 :: st)
  | .sipush n => some (pc + 3, l, .int (Int16.ofInt n).toInt32 :: st)
  | .lconst n => some (pc + 1, l, .long (Int64.ofNat (n : Nat)) :: st)
  | .aconst_null => some (pc + 1, l, .null :: st)
  | .iload_n k => m_ld 0 l k (pc + 1) st
  | .iload k => m_ld 0 l k (pc + 2) st
  | .lload_n k => m_ld 1 l k (pc + 1) st
  | .lload k => m_ld 1 l k (pc + 2) st
  | .aload_n k => m_ld 2 l k (pc + 1) st
  | .aload k => m_ld 2 l k (pc + 2) st
  | .istore_n k => m_st nL 0 l k (pc + 1) st
  | .istore k => m_st nL 0 l k (pc + 2) st
  | .lstore_n k => m_st nL 1 l k (pc + 1) st
  | .lstore k => m_st nL 1 l k (pc + 2) st
  | .astore_n k => m_st nL 2 l k (pc + 1) st
  | .astore k => m_st nL 2 l k (pc + 2) st
  | .iinc i n => (match m_get l i with
    | some (.int x) => if i < nL then some (pc + 3, m_put1 l i (.int (x + Int32.ofInt n)), st) else none
    | _ => none)
  | .iadd => m_bi .iadd pc l st
  | .isub => m_bi .isub pc l st
  | .imul => m_bi .imul pc l st
  | .iand => m_bi .iand pc l st
  | .ior => m_bi .ior pc l st
  | .ixor => m_bi .ixor pc l st
  | .idiv => m_bi .idiv pc l st
  | .irem => m_bi .irem pc l st
  | .ishl => m_bi .ishl pc l st
  | .ishr => m_bi .ishr pc l st
  | .iushr => m_bi .iushr pc l st
  | .ladd => m_bl .ladd pc l st
  | .lsub => m_bl .lsub pc l st
  | .lmul => m_bl .lmul pc l st
  | .land => m_bl .land pc l st
  | .lor => m_bl .lor pc l st
  | .lxor => m_bl .lxor pc l st
  | .ldiv => m_bl .ldiv pc l st
  | .lrem => m_bl .lrem pc l st
  | .lcmp => m_bl .lcmp pc l st
  | .ineg => m_un .ineg pc l st
  | .lneg => m_un .lneg pc l st
  | .i2l => m_un .i2l pc l st
  | .l2i => m_un .l2i pc l st
  | .i2b => m_un .i2b pc l st
  | .i2s => m_un .i2s pc l st
  | .i2c => m_un .i2c pc l st
  | .dup => (match st with
    | a :: r => if m_c1 a = true then some (pc + 1, l, a :: a :: r) else none
    | _ => none)
  | .pop => (match st with
    | a :: r => if m_c1 a = true then some (pc + 1, l, r) else none
    | _ => none)
  | .dup_x1 => (match st with
    | a :: b :: r => if m_c1 a = true ∧ m_c1 b = true then some (pc + 1, l, a :: b :: a :: r) else none
    | _ => none)
  | .dup_x2 => (match st with
    | a :: b :: d :: r => if m_c1 a = true ∧ m_c1 b = true ∧ m_c1 d = true then some (pc + 1, l, a :: b :: d :: a :: r) else none
    | _ => none)
  | .dup2 => (match st with
    | .long x :: r => some (pc + 1, l, .long x :: .long x :: r)
    | a :: b :: r => if m_c1 a = true ∧ m_c1 b = true then some (pc + 1, l, a :: b :: a :: b :: r) else none
    | _ => none)
  | .pop2 => (match st with
    | .long _ :: r => some (pc + 1, l, r)
    | a :: b :: r => if m_c1 a = true ∧ m_c1 b = true then some (pc + 1, l, r) else none
    | _ => none)
  | .ifCond cd off => (match st with
    | .int x :: r => m_br (m_cmp cd x 0) pc off l r
    | _ => none)
  | .if_icmp cd off => (match st with
    | .int y :: .int x :: r => m_br (m_cmp cd x y) pc off l r
    | _ => none)
  | .ifnull off => m_nul true pc off l st
  | .ifnonnull off => m_nul false pc off l st
  | .if_acmp .eq off => m_acm true pc off l st
  | .if_acmp .ne off => m_acm false pc off l st
  | .goto off => m_jmp pc off l st
  | .tableswitch d lo hi offs => (match st with
    | .int x :: r => if x.toInt < lo ∨ hi < x.toInt then m_jmp pc d l r else (match offs[(x.toInt - lo).toNat]? with
      | some off => m_jmp pc off l r
      | none => none)
    | _ => none)
  | .lookupswitch d ps => (match st with
    | .int x :: r => if m_srt ps.toList = true then m_jmp pc (Op.lookupswitch.offset ps.toList d x.toInt) l r else none
    | _ => none)
  | _ => none
/-- the length of an instruction in its plain form (a switch's is told beside it) -/
def m_len (ins : Instr) (n : Nat) : Nat := match ins with
  | .bipush _ | .iload _ | .lload _ | .aload _ | .istore _ | .lstore _ | .astore _ | .ldc _ | .newarray _ => 2
  | .sipush _ | .iinc _ _ | .ifCond _ _ | .if_icmp _ _ | .ifnull _ | .ifnonnull _ | .if_acmp _ _ | .goto _ | .getfield _ | .putfield _ | .getstatic _ | .invokevirtual _ | .invokespecial _ | .invokestatic _ | .new _ | .anewarray _ | .ldc_w _ | .ldc2_w _ | .checkcast _ | .instanceof _ => 3
  | .tableswitch _ _ _ _ | .lookupswitch _ _ => n
  | _ => 1
end
section
section MP
variable {p : Program} {l : Launch} {e : Env} {R : Room} {s : State} {m : MethodId} {args : Array Value} {below : List Frame} {meth : Method} {c : Code} {H : Heap} {locs : List Loc} {cells slots : Nat} {Q : State → Prop}
variable {cc : ByteArray} {pc : Nat} {ls : Array Slot} {B nL n : Nat} {X : Nat → Nat} {lv lv' : mL} {st st' : List Value} {pc' : Nat}
theorem m_tgt_jmp {off : Int} {lv0 : mL} {st0 : List Value} (h : m_jmp pc off lv0 st0 = some (pc', lv', st')) : (pc : Int) + off = (pc' : Int) ∧ lv0 = lv' ∧ st0 = st' := by
  unfold m_jmp at h
  cases ht : m_tgt pc off with
  | none => rw [ht] at h; cases h
  | some t => rw [ht] at h; cases h; exact ⟨m_tgt_ok ht, rfl, rfl⟩
theorem m_br_ok {b : Bool} {off : Int} {lv0 : mL} {st0 : List Value} (h : m_br b pc off lv0 st0 = some (pc', lv', st')) : ∃ t : Nat, (pc : Int) + off = (t : Int) ∧ lv0 = lv' ∧ st0 = st' ∧ (b = true → pc' = t) ∧ (b = false → pc' = pc + 3) := by
  unfold m_br at h
  cases ht : m_tgt pc off with
  | none => rw [ht] at h; cases h
  | some t =>
    rw [ht] at h
    cases h
    exact ⟨t, m_tgt_ok ht, rfl, rfl, fun q => by rw [q]; rfl, fun q => by rw [q]; rfl⟩
theorem m_pure_ld (hx : p.tables.exec = Jvm.exec) (hb : c.code = cc) {k : Nat} {ty : Nat} {pc1 : Nat} (hl : lv_has ls nL (mlv B X lv)) (h : m_ld ty lv k pc1 st = some (pc', lv', st'))
    (ri : ∀ x, ty = 0 → ls[k]? = some (.val (.int x)) → W p l e R s m args below meth c H locs cells slots Q (F0 m pc1 ls (.int x :: st.map (mv B X))) → W p l e R s m args below meth c H locs cells slots Q (F0 m pc ls (st.map (mv B X))))
    (rl : ∀ x, ty = 1 → ls[k]? = some (.val (.long x)) → W p l e R s m args below meth c H locs cells slots Q (F0 m pc1 ls (.long x :: st.map (mv B X))) → W p l e R s m args below meth c H locs cells slots Q (F0 m pc ls (st.map (mv B X))))
    (rr : ∀ x, ty = 2 → ls[k]? = some (.val (.ref x)) → W p l e R s m args below meth c H locs cells slots Q (F0 m pc1 ls (.ref x :: st.map (mv B X))) → W p l e R s m args below meth c H locs cells slots Q (F0 m pc ls (st.map (mv B X))))
    (rn : ty = 2 → ls[k]? = some (.val .null) → W p l e R s m args below meth c H locs cells slots Q (F0 m pc1 ls (.null :: st.map (mv B X))) → W p l e R s m args below meth c H locs cells slots Q (F0 m pc ls (st.map (mv B X))))
    (kk : ∀ ls', lv_has ls' nL (mlv B X lv') → W p l e R s m args below meth c H locs cells slots Q (F0 m pc' ls' (st'.map (mv B X)))) : W p l e R s m args below meth c H locs cells slots Q (F0 m pc ls (st.map (mv B X))) := by
  unfold m_ld at h
  cases hg : m_get lv k with
  | none => rw [hg] at h; cases h
  | some v =>
    have hv := mlv_get hl hg
    rw [hg] at h
    cases v with
    | int x =>
      simp only [] at h
      split at h
      next ht => cases h; exact ri x ht hv (kk ls hl)
      next => cases h
    | long x =>
      simp only [] at h
      split at h
      next ht => cases h; exact rl x ht hv (kk ls hl)
      next => cases h
    | ref x =>
      simp only [] at h
      split at h
      next ht => cases h; exact rr _ ht hv (kk ls hl)
      next => cases h
    | retAddr x =>
      simp only [] at h
      split at h
      next ht => cases h; exact rr _ ht hv (kk ls hl)
      next => cases h
    | null =>
      simp only [] at h
      split at h
      next ht => cases h; exact rn ht hv (kk ls hl)
      next => cases h
    | float x => cases h
    | double x => cases h
theorem m_pure_st (hx : p.tables.exec = Jvm.exec) (hb : c.code = cc) {k : Nat} {ty : Nat} {pc1 : Nat} (hl : lv_has ls nL (mlv B X lv)) (h : m_st nL ty lv k pc1 st = some (pc', lv', st'))
    (ri : ∀ x r, ty = 0 → k < nL → st = .int x :: r → (∀ ls', lv_has ls' nL (mlv B X (m_put1 lv k (.int x))) → W p l e R s m args below meth c H locs cells slots Q (F0 m pc1 ls' (r.map (mv B X)))) → W p l e R s m args below meth c H locs cells slots Q (F0 m pc ls (st.map (mv B X))))
    (rl : ∀ x r, ty = 1 → k + 1 < nL → st = .long x :: r → (∀ ls', lv_has ls' nL (mlv B X (m_put2 lv k (.long x))) → W p l e R s m args below meth c H locs cells slots Q (F0 m pc1 ls' (r.map (mv B X)))) → W p l e R s m args below meth c H locs cells slots Q (F0 m pc ls (st.map (mv B X))))
    (rr : ∀ x y r, ty = 2 → k < nL → st = x :: r → mv B X x = .ref y → (∀ ls', lv_has ls' nL (mlv B X (m_put1 lv k x)) → W p l e R s m args below meth c H locs cells slots Q (F0 m pc1 ls' (r.map (mv B X)))) → W p l e R s m args below meth c H locs cells slots Q (F0 m pc ls (st.map (mv B X))))
    (rn : ∀ r, ty = 2 → k < nL → st = .null :: r → (∀ ls', lv_has ls' nL (mlv B X (m_put1 lv k .null)) → W p l e R s m args below meth c H locs cells slots Q (F0 m pc1 ls' (r.map (mv B X)))) → W p l e R s m args below meth c H locs cells slots Q (F0 m pc ls (st.map (mv B X))))
    (kk : ∀ ls', lv_has ls' nL (mlv B X lv') → W p l e R s m args below meth c H locs cells slots Q (F0 m pc' ls' (st'.map (mv B X)))) : W p l e R s m args below meth c H locs cells slots Q (F0 m pc ls (st.map (mv B X))) := by
  unfold m_st at h
  split at h
  next x r =>
    split at h
    next ht => cases h; exact ri x _ ht.1 ht.2 rfl kk
    next => cases h
  next x r =>
    split at h
    next ht => cases h; exact rl x _ ht.1 ht.2 rfl kk
    next => cases h
  next x r =>
    split at h
    next ht => cases h; exact rr (.ref x) _ _ ht.1 ht.2 rfl rfl kk
    next => cases h
  next x r =>
    split at h
    next ht => cases h; exact rr (.retAddr x) _ _ ht.1 ht.2 rfl rfl kk
    next => cases h
  next r =>
    split at h
    next ht => cases h; exact rn _ ht.1 ht.2 rfl kk
    next => cases h
  next => cases h
theorem m_bi_ok {ins : Instr} (h : m_bi ins pc lv st = some (pc', lv', st')) : ∃ x y z r, st = .int y :: .int x :: r ∧ m_i2 ins x y = some z ∧ pc' = pc + 1 ∧ lv' = lv ∧ st' = .int z :: r := by
  unfold m_bi at h
  split at h
  next y x r =>
    split at h
    next z hz => cases h; exact ⟨x, y, z, r, rfl, hz, rfl, rfl, rfl⟩
    next => cases h
  next => cases h
theorem m_bl_ok {ins : Instr} (h : m_bl ins pc lv st = some (pc', lv', st')) : ∃ x y z r, st = .long y :: .long x :: r ∧ m_l2 ins x y = some z ∧ pc' = pc + 1 ∧ lv' = lv ∧ st' = z :: r := by
  unfold m_bl at h
  split at h
  next y x r =>
    split at h
    next z hz => cases h; exact ⟨x, y, z, r, rfl, hz, rfl, rfl, rfl⟩
    next => cases h
  next => cases h
theorem m_un_ok {ins : Instr} (h : m_un ins pc lv st = some (pc', lv', st')) : ∃ v z r, st = v :: r ∧ m_cv ins v = some z ∧ pc' = pc + 1 ∧ lv' = lv ∧ st' = z :: r := by
  unfold m_un at h
  split at h
  next v r =>
    split at h
    next z hz => cases h; exact ⟨v, z, r, rfl, hz, rfl, rfl, rfl⟩
    next => cases h
  next => cases h
set_option maxHeartbeats 4000000 in
theorem m_pure_ok {ins : Instr} (hx : p.tables.exec = Jvm.exec) (hb : c.code = cc) (hdg : decode cc pc = .ok (ins, m_len ins n)) (hl : lv_has ls nL (mlv B X lv)) (h : m_pure nL ins pc lv st = some (pc', lv', st'))
    (kk : ∀ ls', lv_has ls' nL (mlv B X lv') → W p l e R s m args below meth c H locs cells slots Q (F0 m pc' ls' (st'.map (mv B X)))) : W p l e R s m args below meth c H locs cells slots Q (F0 m pc ls (st.map (mv B X))) := by
  cases ins
  case iconst n =>
    cases h
    exact lv_iconst hx hb hdg rfl (kk ls hl)
  case bipush n =>
    cases h
    exact lv_bipush hx hb hdg rfl (kk ls hl)
  case sipush n =>
    cases h
    exact lv_sipush hx hb hdg rfl (kk ls hl)
  case lconst n =>
    cases h
    exact lv_lconst hx hb hdg rfl (kk ls hl)
  case aconst_null =>
    cases h
    exact lv_null hx hb hdg (kk ls hl)
  case iload_n k =>
    exact m_pure_ld hx hb hl h (fun x _ hv k1 => lv_iload_n hx hb hdg rfl hv k1) (fun x ht => absurd ht (by decide)) (fun x ht => absurd ht (by decide)) (fun ht => absurd ht (by decide)) kk
  case lload_n k =>
    exact m_pure_ld hx hb hl h (fun x ht => absurd ht (by decide)) (fun x _ hv k1 => lv_lload_n hx hb hdg rfl hv k1) (fun x ht => absurd ht (by decide)) (fun ht => absurd ht (by decide)) kk
  case aload_n k =>
    exact m_pure_ld hx hb hl h (fun x ht => absurd ht (by decide)) (fun x ht => absurd ht (by decide)) (fun x _ hv k1 => lv_aload_n hx hb hdg rfl hv k1) (fun _ hv k1 => lv_aload_nN hx hb hdg rfl hv k1) kk
  case iload k =>
    exact m_pure_ld hx hb hl h (fun x _ hv k1 => lv_iload hx hb hdg hv k1) (fun x ht => absurd ht (by decide)) (fun x ht => absurd ht (by decide)) (fun ht => absurd ht (by decide)) kk
  case lload k =>
    exact m_pure_ld hx hb hl h (fun x ht => absurd ht (by decide)) (fun x _ hv k1 => lv_lload hx hb hdg hv k1) (fun x ht => absurd ht (by decide)) (fun ht => absurd ht (by decide)) kk
  case aload k =>
    exact m_pure_ld hx hb hl h (fun x ht => absurd ht (by decide)) (fun x ht => absurd ht (by decide)) (fun x _ hv k1 => lv_aload hx hb hdg hv k1) (fun _ hv k1 => lv_aloadN hx hb hdg hv k1) kk
  case istore_n k =>
    exact m_pure_st hx hb hl h (fun x r _ hk e1 k1 => by subst e1; exact lv_istore_n hx hb hdg rfl hl hk (mlv_put1 B X lv _ (.int x)) k1) (fun x r ht => absurd ht (by decide)) (fun x y r ht => absurd ht (by decide)) (fun r ht => absurd ht (by decide)) kk
  case lstore_n k =>
    exact m_pure_st hx hb hl h (fun x r ht => absurd ht (by decide)) (fun x r _ hk e1 k1 => by subst e1; exact lv_lstore_n hx hb hdg rfl hl hk (mlv_put2 B X lv _ (.long x)) k1) (fun x y r ht => absurd ht (by decide)) (fun r ht => absurd ht (by decide)) kk
  case astore_n k =>
    exact m_pure_st hx hb hl h (fun x r ht => absurd ht (by decide)) (fun x r ht => absurd ht (by decide)) (fun x y r _ hk e1 e2 k1 => by subst e1; rw [List.map_cons, e2]; exact lv_astore_n hx hb hdg rfl hl hk (by rw [← e2]; exact mlv_put1 B X lv _ x) k1) (fun r _ hk e1 k1 => by subst e1; exact lv_astore_nN hx hb hdg rfl hl hk (mlv_put1 B X lv _ .null) k1) kk
  case istore k =>
    exact m_pure_st hx hb hl h (fun x r _ hk e1 k1 => by subst e1; exact lv_istore hx hb hdg hl hk (mlv_put1 B X lv _ (.int x)) k1) (fun x r ht => absurd ht (by decide)) (fun x y r ht => absurd ht (by decide)) (fun r ht => absurd ht (by decide)) kk
  case lstore k =>
    exact m_pure_st hx hb hl h (fun x r ht => absurd ht (by decide)) (fun x r _ hk e1 k1 => by subst e1; exact lv_lstore hx hb hdg hl hk (mlv_put2 B X lv _ (.long x)) k1) (fun x y r ht => absurd ht (by decide)) (fun r ht => absurd ht (by decide)) kk
  case astore k =>
    exact m_pure_st hx hb hl h (fun x r ht => absurd ht (by decide)) (fun x r ht => absurd ht (by decide)) (fun x y r _ hk e1 e2 k1 => by subst e1; rw [List.map_cons, e2]; exact lv_astore hx hb hdg hl hk (by rw [← e2]; exact mlv_put1 B X lv _ x) k1) (fun r _ hk e1 k1 => by subst e1; exact lv_astoreN hx hb hdg hl hk (mlv_put1 B X lv _ .null) k1) kk
  case iinc i k =>
    simp only [m_pure] at h
    split at h
    next x hg =>
      split at h
      next hk =>
        cases h
        obtain ⟨j, hj⟩ := mlv_at (B := B) (X := X) hg
        exact lv_iinc hx hb hdg hl hj rfl hk (mlv_put1 B X lv _ (.int _)) kk
      next => cases h
    next => cases h
  case iadd =>
    have h : m_bi .iadd pc lv st = some (pc', lv', st') := h
    obtain ⟨x, y, z, r, rfl, hz, rfl, rfl, rfl⟩ := m_bi_ok h
    cases hz
    exact lv_iadd hx hb hdg (kk ls hl)
  case isub =>
    have h : m_bi .isub pc lv st = some (pc', lv', st') := h
    obtain ⟨x, y, z, r, rfl, hz, rfl, rfl, rfl⟩ := m_bi_ok h
    cases hz
    exact lv_isub hx hb hdg (kk ls hl)
  case imul =>
    have h : m_bi .imul pc lv st = some (pc', lv', st') := h
    obtain ⟨x, y, z, r, rfl, hz, rfl, rfl, rfl⟩ := m_bi_ok h
    cases hz
    exact lv_imul hx hb hdg (kk ls hl)
  case iand =>
    have h : m_bi .iand pc lv st = some (pc', lv', st') := h
    obtain ⟨x, y, z, r, rfl, hz, rfl, rfl, rfl⟩ := m_bi_ok h
    cases hz
    exact lv_iand hx hb hdg (kk ls hl)
  case ior =>
    have h : m_bi .ior pc lv st = some (pc', lv', st') := h
    obtain ⟨x, y, z, r, rfl, hz, rfl, rfl, rfl⟩ := m_bi_ok h
    cases hz
    exact lv_ior hx hb hdg (kk ls hl)
  case ixor =>
    have h : m_bi .ixor pc lv st = some (pc', lv', st') := h
    obtain ⟨x, y, z, r, rfl, hz, rfl, rfl, rfl⟩ := m_bi_ok h
    cases hz
    exact lv_ixor hx hb hdg (kk ls hl)
  case ishl =>
    have h : m_bi .ishl pc lv st = some (pc', lv', st') := h
    obtain ⟨x, y, z, r, rfl, hz, rfl, rfl, rfl⟩ := m_bi_ok h
    cases hz
    exact lv_ishl hx hb hdg (kk ls hl)
  case ishr =>
    have h : m_bi .ishr pc lv st = some (pc', lv', st') := h
    obtain ⟨x, y, z, r, rfl, hz, rfl, rfl, rfl⟩ := m_bi_ok h
    cases hz
    exact lv_ishr hx hb hdg (kk ls hl)
  case iushr =>
    have h : m_bi .iushr pc lv st = some (pc', lv', st') := h
    obtain ⟨x, y, z, r, rfl, hz, rfl, rfl, rfl⟩ := m_bi_ok h
    cases hz
    exact lv_iushr hx hb hdg rfl (kk ls hl)
  case idiv =>
    have h : m_bi .idiv pc lv st = some (pc', lv', st') := h
    obtain ⟨x, y, z, r, rfl, hz, rfl, rfl, rfl⟩ := m_bi_ok h
    simp only [m_i2] at hz
    split at hz
    next => cases hz
    next hn => cases hz; exact lv_idiv hx hb hdg hn (kk ls hl)
  case irem =>
    have h : m_bi .irem pc lv st = some (pc', lv', st') := h
    obtain ⟨x, y, z, r, rfl, hz, rfl, rfl, rfl⟩ := m_bi_ok h
    simp only [m_i2] at hz
    split at hz
    next => cases hz
    next hn => cases hz; exact lv_irem hx hb hdg hn (kk ls hl)
  case ladd =>
    have h : m_bl .ladd pc lv st = some (pc', lv', st') := h
    obtain ⟨x, y, z, r, rfl, hz, rfl, rfl, rfl⟩ := m_bl_ok h
    cases hz
    exact lv_ladd hx hb hdg (kk ls hl)
  case lsub =>
    have h : m_bl .lsub pc lv st = some (pc', lv', st') := h
    obtain ⟨x, y, z, r, rfl, hz, rfl, rfl, rfl⟩ := m_bl_ok h
    cases hz
    exact lv_lsub hx hb hdg (kk ls hl)
  case lmul =>
    have h : m_bl .lmul pc lv st = some (pc', lv', st') := h
    obtain ⟨x, y, z, r, rfl, hz, rfl, rfl, rfl⟩ := m_bl_ok h
    cases hz
    exact lv_lmul hx hb hdg (kk ls hl)
  case land =>
    have h : m_bl .land pc lv st = some (pc', lv', st') := h
    obtain ⟨x, y, z, r, rfl, hz, rfl, rfl, rfl⟩ := m_bl_ok h
    cases hz
    exact lv_land hx hb hdg (kk ls hl)
  case lor =>
    have h : m_bl .lor pc lv st = some (pc', lv', st') := h
    obtain ⟨x, y, z, r, rfl, hz, rfl, rfl, rfl⟩ := m_bl_ok h
    cases hz
    exact lv_lor hx hb hdg (kk ls hl)
  case lxor =>
    have h : m_bl .lxor pc lv st = some (pc', lv', st') := h
    obtain ⟨x, y, z, r, rfl, hz, rfl, rfl, rfl⟩ := m_bl_ok h
    cases hz
    exact lv_lxor hx hb hdg (kk ls hl)
  case lcmp =>
    have h : m_bl .lcmp pc lv st = some (pc', lv', st') := h
    obtain ⟨x, y, z, r, rfl, hz, rfl, rfl, rfl⟩ := m_bl_ok h
    cases hz
    exact W.lcmp hx hb hdg (kk ls hl)
  case ldiv =>
    have h : m_bl .ldiv pc lv st = some (pc', lv', st') := h
    obtain ⟨x, y, z, r, rfl, hz, rfl, rfl, rfl⟩ := m_bl_ok h
    simp only [m_l2] at hz
    split at hz
    next => cases hz
    next hn => cases hz; exact lv_ldiv hx hb hdg hn (kk ls hl)
  case lrem =>
    have h : m_bl .lrem pc lv st = some (pc', lv', st') := h
    obtain ⟨x, y, z, r, rfl, hz, rfl, rfl, rfl⟩ := m_bl_ok h
    simp only [m_l2] at hz
    split at hz
    next => cases hz
    next hn => cases hz; exact lv_lrem hx hb hdg hn (kk ls hl)
  case ineg =>
    have h : m_un .ineg pc lv st = some (pc', lv', st') := h
    obtain ⟨v, z, r, rfl, hz, rfl, rfl, rfl⟩ := m_un_ok h
    cases v <;> first | (cases hz; done) | (cases hz; exact lv_ineg hx hb hdg (kk ls hl))
  case lneg =>
    have h : m_un .lneg pc lv st = some (pc', lv', st') := h
    obtain ⟨v, z, r, rfl, hz, rfl, rfl, rfl⟩ := m_un_ok h
    cases v <;> first | (cases hz; done) | (cases hz; exact lv_lneg hx hb hdg (kk ls hl))
  case i2l =>
    have h : m_un .i2l pc lv st = some (pc', lv', st') := h
    obtain ⟨v, z, r, rfl, hz, rfl, rfl, rfl⟩ := m_un_ok h
    cases v <;> first | (cases hz; done) | (cases hz; exact lv_i2l hx hb hdg rfl (kk ls hl))
  case l2i =>
    have h : m_un .l2i pc lv st = some (pc', lv', st') := h
    obtain ⟨v, z, r, rfl, hz, rfl, rfl, rfl⟩ := m_un_ok h
    cases v <;> first | (cases hz; done) | (cases hz; exact lv_l2i hx hb hdg rfl (kk ls hl))
  case i2b =>
    have h : m_un .i2b pc lv st = some (pc', lv', st') := h
    obtain ⟨v, z, r, rfl, hz, rfl, rfl, rfl⟩ := m_un_ok h
    cases v <;> first | (cases hz; done) | (cases hz; exact lv_i2b hx hb hdg rfl (kk ls hl))
  case i2s =>
    have h : m_un .i2s pc lv st = some (pc', lv', st') := h
    obtain ⟨v, z, r, rfl, hz, rfl, rfl, rfl⟩ := m_un_ok h
    cases v <;> first | (cases hz; done) | (cases hz; exact lv_i2s hx hb hdg rfl (kk ls hl))
  case i2c =>
    have h : m_un .i2c pc lv st = some (pc', lv', st') := h
    obtain ⟨v, z, r, rfl, hz, rfl, rfl, rfl⟩ := m_un_ok h
    cases v <;> first | (cases hz; done) | (cases hz; exact lv_i2c hx hb hdg rfl (kk ls hl))
  case dup =>
    simp only [m_pure] at h
    split at h
    next v r =>
      split at h
      next hc => cases h; exact lv_dup hx hb hdg (m_c1_ok hc B X) (kk ls hl)
      next => cases h
    next => cases h
  case pop =>
    simp only [m_pure] at h
    split at h
    next v r =>
      split at h
      next hc => cases h; exact lv_pop hx hb hdg (m_c1_ok hc B X) (kk ls hl)
      next => cases h
    next => cases h
  case dup_x1 =>
    simp only [m_pure] at h
    split at h
    next v u r =>
      split at h
      next hc => cases h; exact lv_dup_x1 hx hb hdg (m_c1_ok hc.1 B X) (m_c1_ok hc.2 B X) (kk ls hl)
      next => cases h
    next => cases h
  case dup_x2 =>
    simp only [m_pure] at h
    split at h
    next v u w r =>
      split at h
      next hc => cases h; exact lv_dup_x2 hx hb hdg (m_c1_ok hc.1 B X) (m_c1_ok hc.2.1 B X) (m_c1_ok hc.2.2 B X) (kk ls hl)
      next => cases h
    next => cases h
  case dup2 =>
    simp only [m_pure] at h
    split at h
    next x r => cases h; exact lv_dup2_2 hx hb hdg rfl (kk ls hl)
    next v u r _ =>
      split at h
      next hc => cases h; exact lv_dup2_11 hx hb hdg (m_c1_ok hc.1 B X) (m_c1_ok hc.2 B X) (kk ls hl)
      next => cases h
    next => cases h
  case pop2 =>
    simp only [m_pure] at h
    split at h
    next x r => cases h; exact lv_pop2_2 hx hb hdg rfl (kk ls hl)
    next v u r _ =>
      split at h
      next hc => cases h; exact lv_pop2_11 hx hb hdg (m_c1_ok hc.1 B X) (m_c1_ok hc.2 B X) (kk ls hl)
      next => cases h
    next => cases h
  case ifCond cd off =>
    simp only [m_pure] at h
    split at h
    next x r =>
      obtain ⟨t, ht, rfl, rfl, h1, h2⟩ := m_br_ok h
      cases cd
      · exact lv_if_eq hx hb hdg ht (fun q => by rw [← h1 (by simp [m_cmp, q])]; exact kk ls hl) (fun q => by rw [← h2 (by simp [m_cmp, q])]; exact kk ls hl)
      · exact lv_if_ne hx hb hdg ht (fun q => by rw [← h1 (by simp [m_cmp, q])]; exact kk ls hl) (fun q => by rw [← h2 (by simp [m_cmp, q])]; exact kk ls hl)
      · exact lv_if_lt hx hb hdg ht (fun q => by rw [← h1 (by simp [m_cmp, q])]; exact kk ls hl) (fun q => by rw [← h2 (by simp [m_cmp, q])]; exact kk ls hl)
      · exact lv_if_ge hx hb hdg ht (fun q => by rw [← h1 (by simp [m_cmp, q])]; exact kk ls hl) (fun q => by rw [← h2 (by simp [m_cmp, q])]; exact kk ls hl)
      · exact lv_if_gt hx hb hdg ht (fun q => by rw [← h1 (by simp [m_cmp, q])]; exact kk ls hl) (fun q => by rw [← h2 (by simp [m_cmp, q])]; exact kk ls hl)
      · exact lv_if_le hx hb hdg ht (fun q => by rw [← h1 (by simp [m_cmp, q])]; exact kk ls hl) (fun q => by rw [← h2 (by simp [m_cmp, q])]; exact kk ls hl)
    next => cases h
  case if_icmp cd off =>
    simp only [m_pure] at h
    split at h
    next y x r =>
      obtain ⟨t, ht, rfl, rfl, h1, h2⟩ := m_br_ok h
      cases cd
      · exact lv_icmp_eq hx hb hdg ht (fun q => by rw [← h1 (by simp [m_cmp, q])]; exact kk ls hl) (fun q => by rw [← h2 (by simp [m_cmp, q])]; exact kk ls hl)
      · exact lv_icmp_ne hx hb hdg ht (fun q => by rw [← h1 (by simp [m_cmp, q])]; exact kk ls hl) (fun q => by rw [← h2 (by simp [m_cmp, q])]; exact kk ls hl)
      · exact lv_icmp_lt hx hb hdg ht (fun q => by rw [← h1 (by simp [m_cmp, q])]; exact kk ls hl) (fun q => by rw [← h2 (by simp [m_cmp, q])]; exact kk ls hl)
      · exact lv_icmp_ge hx hb hdg ht (fun q => by rw [← h1 (by simp [m_cmp, q])]; exact kk ls hl) (fun q => by rw [← h2 (by simp [m_cmp, q])]; exact kk ls hl)
      · exact lv_icmp_gt hx hb hdg ht (fun q => by rw [← h1 (by simp [m_cmp, q])]; exact kk ls hl) (fun q => by rw [← h2 (by simp [m_cmp, q])]; exact kk ls hl)
      · exact lv_icmp_le hx hb hdg ht (fun q => by rw [← h1 (by simp [m_cmp, q])]; exact kk ls hl) (fun q => by rw [← h2 (by simp [m_cmp, q])]; exact kk ls hl)
    next => cases h
  case ifnull off =>
    simp only [m_pure, m_nul] at h
    split at h
    next r => obtain ⟨t, ht, rfl, rfl, h1, h2⟩ := m_br_ok h; cases h1 rfl; exact lv_ifnullN hx hb hdg ht (kk ls hl)
    next x r => obtain ⟨t, ht, rfl, rfl, h1, h2⟩ := m_br_ok h; cases h2 rfl; exact lv_ifnull hx hb hdg (kk ls hl)
    next x r => obtain ⟨t, ht, rfl, rfl, h1, h2⟩ := m_br_ok h; cases h2 rfl; exact lv_ifnull hx hb hdg (kk ls hl)
    next => cases h
  case ifnonnull off =>
    simp only [m_pure, m_nul] at h
    split at h
    next r => obtain ⟨t, ht, rfl, rfl, h1, h2⟩ := m_br_ok h; cases h2 rfl; exact lv_ifnonnullN hx hb hdg (kk ls hl)
    next x r => obtain ⟨t, ht, rfl, rfl, h1, h2⟩ := m_br_ok h; cases h1 rfl; exact lv_ifnonnull hx hb hdg ht (kk ls hl)
    next x r => obtain ⟨t, ht, rfl, rfl, h1, h2⟩ := m_br_ok h; cases h1 rfl; exact lv_ifnonnull hx hb hdg ht (kk ls hl)
    next => cases h
  case if_acmp cd off =>
    cases cd <;> simp only [m_pure, m_acm] at h <;> split at h
    · next r => obtain ⟨t, ht, rfl, rfl, h1, h2⟩ := m_br_ok h; exact lv_acmp_eq (rx := none) (ry := none) hx hb hdg ht (fun q => by have e := h1 rfl; rw [← e]; exact kk ls hl) (fun q => absurd rfl q)
    · next x r => obtain ⟨t, ht, rfl, rfl, h1, h2⟩ := m_br_ok h; exact lv_acmp_eq (rx := none) (ry := (some (B + x))) hx hb hdg ht (fun q => absurd q (by simp)) (fun q => by have e := h2 rfl; rw [← e]; exact kk ls hl)
    · next x r => obtain ⟨t, ht, rfl, rfl, h1, h2⟩ := m_br_ok h; exact lv_acmp_eq (rx := (some (B + x))) (ry := none) hx hb hdg ht (fun q => absurd q (by simp)) (fun q => by have e := h2 rfl; rw [← e]; exact kk ls hl)
    · next x y r =>
        by_cases hxy : x = y
        · rw [if_pos hxy] at h; subst hxy
          obtain ⟨t, ht, rfl, rfl, h1, h2⟩ := m_br_ok h; exact lv_acmp_eq (rx := (some (B + x))) (ry := (some (B + x))) hx hb hdg ht (fun q => by have e := h1 rfl; rw [← e]; exact kk ls hl) (fun q => absurd rfl q)
        · rw [if_neg hxy] at h
          have hne : ¬ (some (B + y) : Option Nat) = some (B + x) := fun q => hxy (Nat.add_left_cancel (Option.some.inj q)).symm
          obtain ⟨t, ht, rfl, rfl, h1, h2⟩ := m_br_ok h; exact lv_acmp_eq (rx := (some (B + y))) (ry := (some (B + x))) hx hb hdg ht (fun q => absurd q hne) (fun q => by have e := h2 rfl; rw [← e]; exact kk ls hl)
    · cases h
    · next r => obtain ⟨t, ht, rfl, rfl, h1, h2⟩ := m_br_ok h; exact lv_acmp_ne (rx := none) (ry := none) hx hb hdg ht (fun q => absurd rfl q) (fun q => by have e := h2 rfl; rw [← e]; exact kk ls hl)
    · next x r => obtain ⟨t, ht, rfl, rfl, h1, h2⟩ := m_br_ok h; exact lv_acmp_ne (rx := none) (ry := (some (B + x))) hx hb hdg ht (fun q => by have e := h1 rfl; rw [← e]; exact kk ls hl) (fun q => absurd q (by simp))
    · next x r => obtain ⟨t, ht, rfl, rfl, h1, h2⟩ := m_br_ok h; exact lv_acmp_ne (rx := (some (B + x))) (ry := none) hx hb hdg ht (fun q => by have e := h1 rfl; rw [← e]; exact kk ls hl) (fun q => absurd q (by simp))
    · next x y r =>
        by_cases hxy : x = y
        · rw [if_pos hxy] at h; subst hxy
          obtain ⟨t, ht, rfl, rfl, h1, h2⟩ := m_br_ok h; exact lv_acmp_ne (rx := (some (B + x))) (ry := (some (B + x))) hx hb hdg ht (fun q => absurd rfl q) (fun q => by have e := h2 rfl; rw [← e]; exact kk ls hl)
        · rw [if_neg hxy] at h
          have hne : ¬ (some (B + y) : Option Nat) = some (B + x) := fun q => hxy (Nat.add_left_cancel (Option.some.inj q)).symm
          obtain ⟨t, ht, rfl, rfl, h1, h2⟩ := m_br_ok h; exact lv_acmp_ne (rx := (some (B + y))) (ry := (some (B + x))) hx hb hdg ht (fun q => by have e := h1 rfl; rw [← e]; exact kk ls hl) (fun q => absurd q hne)
    · cases h
  case goto off =>
    obtain ⟨ht, rfl, rfl⟩ := m_tgt_jmp h
    exact lv_goto hx hb hdg ht (kk ls hl)
  case tableswitch d lo hi offs =>
    simp only [m_pure] at h
    split at h
    next x r =>
      split at h
      next ho => obtain ⟨ht, rfl, rfl⟩ := m_tgt_jmp h; exact lv_tableOut hx hb hdg ho ht (kk ls hl)
      next ho =>
        split at h
        next off hoff => obtain ⟨ht, rfl, rfl⟩ := m_tgt_jmp h; exact lv_tableIn hx hb hdg (fun q => ho (Or.inl q)) (fun q => ho (Or.inr q)) hoff ht (kk ls hl)
        next => cases h
    next => cases h
  case lookupswitch d ps =>
    simp only [m_pure] at h
    split at h
    next x r =>
      split at h
      next hp => obtain ⟨ht, rfl, rfl⟩ := m_tgt_jmp h; exact lv_lookup hx hb hdg hp rfl ht (kk ls hl)
      next => cases h
    next => cases h
  all_goals exact nomatch (show (none : Option (Nat × mL × List Value)) = some _ from h)
end MP
end
