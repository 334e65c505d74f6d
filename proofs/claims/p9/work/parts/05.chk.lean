/-! what a program decides of the tables: each row is held by the Statement's words and bytes -/
def pgD : pgRow := (⟨"", "", ""⟩, ⟨#[]⟩, 0, none, 0, false, 0, 0, 0, 0, 0)
def pgRw (k : Nat) : pgRow := (pgMs.getD (k / 16) []).getD (k % 16) pgD
def pgN (k : Nat) : MethodName := (pgRw k).1
def pgB (k : Nat) : ByteArray := (pgRw k).2.1
def pgL (k : Nat) : Nat := (pgRw k).2.2.1
def pgT (k : Nat) : Option FieldType := (pgRw k).2.2.2.1
def pgA (k : Nat) : Nat := (pgRw k).2.2.2.2.1
def pgS (k : Nat) : Bool := (pgRw k).2.2.2.2.2.1
def pgOw (k : Nat) : Nat := (pgRw k).2.2.2.2.2.2.1
def pgCd (k : Nat) : List (List (Nat × Instr × Nat)) := (pgCs.getD (k / 16) []).getD (k % 16) []
def m_find : List (Nat × Instr × Nat) → Nat → Option (Instr × Nat)
  | [], _ => none
  | (j, x) :: l, i => bif Nat.beq j i then some x else m_find l i
/-- the instruction at a place of a method, and a switch's length -/
def pgF (k pc : Nat) : Option (Instr × Nat) := bif Nat.blt k 275 then m_find ((pgCd k).getD (pc / 8) []) pc else none
def okM (r : pgRow) : Bool := match r with
  | (y, b, ml, ret, n, st, o, p1, p2, p3, p4) =>
    decide (lw_tbl[p1]? = some (Jvm.Cond.code y b ml ret)) && decide (lw_tbl[p2]? = some (Jvm.Cond.initialized y.cls)) && (if st then decide (lw_tbl[p3]? = some (Jvm.Cond.static y)) else decide (lw_tbl[p3]? = some (Jvm.Cond.instanceMethod y))) &&
    (st || decide (y.name = "<init>") || decide (lw_tbl[p4]? = some (Jvm.Cond.selects y.cls y y))) && decide (y.cls ≠ "java/lang/invoke/MethodHandle" ∧ y.cls ≠ "java/lang/invoke/VarHandle" ∧ (parseMethodDescriptor y.desc).map (fun d => d.parameters.length) = some n) && plainName y.cls && decide (pgO.getD o "" = y.cls) && decide (ml ≤ 60)
def okC (b : ByteArray) (L : List (List (Nat × Instr × Nat))) : Bool := L.all (fun bk => bk.all (fun q => decide (decode b q.1 = .ok (q.2.1, m_len q.2.1 q.2.2))))
def okMid (k : Nat) : Bool := (Nat.beq k 274 || okM (pgRw k)) && okC (pgB k) (pgCd k)
theorem okC_cat (b : ByteArray) (n a : Nat) (L : List (List (Nat × Instr × Nat))) (h1 : okC b ((L.drop a).take n) = true) (h2 : okC b (L.drop (a + n)) = true) : okC b (L.drop a) = true := by
  unfold okC at h1 h2 ⊢
  rw [← List.take_append_drop n (L.drop a), List.all_append, h1, List.drop_drop, h2]; rfl
