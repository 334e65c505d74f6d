/-! the machine's operations on ints and longs are the checker's -/
theorem i32_rg (x : Int32) : z_rg 0 x.toInt := by
  have h1 := Int32.le_toInt x
  have h2 := Int32.toInt_lt x
  show (-2147483648 : Int) ≤ x.toInt ∧ x.toInt ≤ 2147483647
  omega
theorem i64_rg (x : Int64) : z_rg 1 x.toInt := by
  have h1 := Int64.le_toInt x
  have h2 := Int64.toInt_lt x
  show (-9223372036854775808 : Int) ≤ x.toInt ∧ x.toInt ≤ 9223372036854775807
  omega
theorem z_bm0 {x : Int} (h : z_rg 0 x) : x.bmod (2 ^ 32) = x := by
  have h1 : (-2147483648 : Int) ≤ x := h.1
  have h2 : x ≤ 2147483647 := h.2
  rw [Int.bmod_def]; omega
theorem z_bm1 {x : Int} (h : z_rg 1 x) : x.bmod (2 ^ 64) = x := by
  have h1 : (-9223372036854775808 : Int) ≤ x := h.1
  have h2 : x ≤ 9223372036854775807 := h.2
  rw [Int.bmod_def]; omega
theorem z_rgm {t : Nat} {X Y : Int} (hX : z_rg t X) (h0 : 0 ≤ X) {Z : Int} (h1 : 0 ≤ Z) (h2 : Z ≤ X) : z_rg t Z := by
  have a : z_mn t ≤ 0 := by unfold z_mn; cases Nat.beq t 1 <;> decide
  exact ⟨by omega, Int.le_trans h2 hX.2⟩
theorem z_divm {X Y : Int} (hX : 0 ≤ X) (hY : 0 < Y) : 0 ≤ X / Y ∧ X / Y ≤ X ∧ 0 ≤ X / Y * Y ∧ X / Y * Y ≤ X ∧ X - X / Y * Y = X % Y := by
  have a := Int.ediv_nonneg hX (Int.le_of_lt hY)
  have b := Int.ediv_le_self Y hX
  have c := Int.mul_nonneg a (Int.le_of_lt hY)
  have d := Int.ediv_mul_add_emod X Y
  have e := Int.emod_nonneg X (show Y ≠ 0 by omega)
  exact ⟨a, b, c, by omega, by omega⟩
def k_oi (ins : Instr) : Option Nat := match ins with
  | .iadd => some 0
  | .isub => some 1
  | .imul => some 2
  | .idiv => some 3
  | .irem => some 4
  | .iand => some 5
  | .ishr => some 6
  | .iushr => some 7
  | .ishl => some 8
  | .ior => some 8
  | .ixor => some 8
  | _ => none
def k_ol (ins : Instr) : Option Nat := match ins with
  | .ladd => some 0
  | .lsub => some 1
  | .lmul => some 2
  | .ldiv => some 3
  | .lrem => some 4
  | .land => some 8
  | _ => none
theorem i32_nat_pos {x : Int32} (h : 0 ≤ x.toInt) : 2 * x.toBitVec.toNat < 4294967296 ∧ (x.toBitVec.toNat : Int) = x.toInt := by
  have e : x.toInt = if 2 * x.toBitVec.toNat < 2 ^ 32 then (x.toBitVec.toNat : Int) else (x.toBitVec.toNat : Int) - ((2 ^ 32 : Nat) : Int) := BitVec.toInt_eq_toNat_cond x.toBitVec
  have hl := x.toBitVec.isLt
  split at e <;> omega
theorem i32_of_nat {z : Int32} (h : 2 * z.toBitVec.toNat < 4294967296) : z.toInt = (z.toBitVec.toNat : Int) := by
  have e : z.toInt = if 2 * z.toBitVec.toNat < 2 ^ 32 then (z.toBitVec.toNat : Int) else (z.toBitVec.toNat : Int) - ((2 ^ 32 : Nat) : Int) := BitVec.toInt_eq_toNat_cond z.toBitVec
  rw [if_pos (by omega)] at e
  exact e
theorem i32_and_l {x y : Int32} (h : 0 ≤ x.toInt) : 0 ≤ (x &&& y).toInt ∧ (x &&& y).toInt ≤ x.toInt := by
  obtain ⟨h1, h2⟩ := i32_nat_pos h
  have e : (x &&& y).toBitVec.toNat = x.toBitVec.toNat &&& y.toBitVec.toNat := by rw [Int32.toBitVec_and, BitVec.toNat_and]
  have l : x.toBitVec.toNat &&& y.toBitVec.toNat ≤ x.toBitVec.toNat := Nat.and_le_left
  have z := i32_of_nat (z := x &&& y) (by omega)
  omega
theorem i32_and_r {x y : Int32} (h : 0 ≤ y.toInt) : 0 ≤ (x &&& y).toInt ∧ (x &&& y).toInt ≤ y.toInt := by
  obtain ⟨h1, h2⟩ := i32_nat_pos h
  have e : (x &&& y).toBitVec.toNat = x.toBitVec.toNat &&& y.toBitVec.toNat := by rw [Int32.toBitVec_and, BitVec.toNat_and]
  have l : x.toBitVec.toNat &&& y.toBitVec.toNat ≤ y.toBitVec.toNat := Nat.and_le_right
  have z := i32_of_nat (z := x &&& y) (by omega)
  omega
theorem i32_shr {x s : Int32} (h : 0 ≤ x.toInt) : 0 ≤ (x >>> s).toInt ∧ (x >>> s).toInt ≤ x.toInt := by
  have e : (x >>> s).toInt = x.toInt >>> (s.toBitVec.smod 32).toNat := by
    show (x >>> s).toBitVec.toInt = _
    rw [Int32.toBitVec_shiftRight]
    show (x.toBitVec.sshiftRight (s.toBitVec.smod 32).toNat).toInt = _
    rw [BitVec.toInt_sshiftRight]
    rfl
  rw [e, Int.shiftRight_eq_div_pow]
  have hp : (0 : Int) < ((2 ^ (s.toBitVec.smod 32).toNat : Nat) : Int) := by
    have := Nat.two_pow_pos (s.toBitVec.smod 32).toNat
    omega
  exact ⟨Int.ediv_nonneg h (Int.le_of_lt hp), Int.ediv_le_self _ h⟩
theorem i32_ushr {x y : Int32} (h1 : 1 ≤ y.toInt) (h2 : y.toInt ≤ 31) : 0 ≤ (x.toUInt32 >>> (y.toUInt32 &&& Int32.toUInt32 31)).toInt32.toInt := by
  obtain ⟨a1, a2⟩ := i32_nat_pos (x := y) (by omega)
  have s1 : (y.toUInt32 &&& Int32.toUInt32 31).toNat = y.toBitVec.toNat := by
    rw [UInt32.toNat_and]
    show y.toBitVec.toNat &&& 31 = y.toBitVec.toNat
    rw [show (31 : Nat) = 2 ^ 5 - 1 by decide, Nat.and_two_pow_sub_one_eq_mod]
    omega
  have s2 : (x.toUInt32 >>> (y.toUInt32 &&& Int32.toUInt32 31)).toNat = x.toUInt32.toNat >>> y.toBitVec.toNat := by
    rw [UInt32.toNat_shiftRight, s1]
    congr 1
    omega
  have hu : x.toUInt32.toNat < 4294967296 := x.toUInt32.toNat_lt
  have hs : x.toUInt32.toNat >>> y.toBitVec.toNat ≤ x.toUInt32.toNat / 2 := by
    rw [Nat.shiftRight_eq_div_pow]
    refine Nat.div_le_div_left ?_ (by decide)
    have : 2 ^ 1 ≤ 2 ^ y.toBitVec.toNat := Nat.pow_le_pow_right (by decide) (by omega)
    omega
  have e : (x.toUInt32 >>> (y.toUInt32 &&& Int32.toUInt32 31)).toInt32.toBitVec.toNat = (x.toUInt32 >>> (y.toUInt32 &&& Int32.toUInt32 31)).toNat := rfl
  rw [i32_of_nat (by omega)]
  omega
theorem m_i2_op {ins : Instr} {o : Nat} (hi : k_oi ins = some o) (x y : Int32) (hnz : o = 3 ∨ o = 4 → y.toInt ≠ 0) : ∃ z, m_i2 ins x y = some z ∧ opR o 0 x.toInt y.toInt z.toInt := by
  have hy0 : o = 3 ∨ o = 4 → ¬ y = 0 := fun h e => hnz h (by rw [e]; rfl)
  cases ins <;> first
    | (exfalso; revert hi; simp [k_oi]; done)
    | skip
  all_goals (simp only [k_oi, Option.some.injEq] at hi; subst hi)
  case iadd => exact ⟨x + y, rfl, i32_rg _, fun h => by rw [Int32.toInt_add, z_bm0 h]⟩
  case isub => exact ⟨x - y, rfl, i32_rg _, fun h => by rw [Int32.toInt_sub, z_bm0 h]⟩
  case imul => exact ⟨x * y, rfl, i32_rg _, fun h => by rw [Int32.toInt_mul, z_bm0 h]⟩
  case idiv =>
    refine ⟨x / y, by simp only [m_i2]; rw [if_neg (hy0 (.inl rfl))], i32_rg _, fun hX hY => ?_⟩
    obtain ⟨d1, d2, -⟩ := z_divm hX hY
    rw [Int32.toInt_div, Int.tdiv_eq_ediv_of_nonneg hX, z_bm0 (z_rgm (Y := 0) (i32_rg x) hX d1 d2)]
  case irem =>
    refine ⟨x - x / y * y, by simp only [m_i2]; rw [if_neg (hy0 (.inr rfl))], i32_rg _, fun hX hY => ?_⟩
    obtain ⟨d1, d2, d3, d4, d5⟩ := z_divm hX hY
    have r1 := Int.emod_nonneg x.toInt (show y.toInt ≠ 0 by omega)
    rw [Int32.toInt_sub, Int32.toInt_mul, Int32.toInt_div, Int.tdiv_eq_ediv_of_nonneg hX, z_bm0 (z_rgm (Y := 0) (i32_rg x) hX d1 d2), z_bm0 (z_rgm (Y := 0) (i32_rg x) hX d3 d4), d5, z_bm0 (z_rgm (Y := 0) (i32_rg x) hX r1 (by omega))]
  case iand => exact ⟨x &&& y, rfl, i32_rg _, fun h => i32_and_l h, fun h => i32_and_r h⟩
  case ishr => exact ⟨x >>> (y &&& 31), rfl, i32_rg _, fun h => i32_shr h⟩
  case iushr => exact ⟨_, rfl, i32_rg _, fun h1 h2 => i32_ushr h1 h2⟩
  case ishl => exact ⟨_, rfl, i32_rg _, trivial⟩
  case ior => exact ⟨_, rfl, i32_rg _, trivial⟩
  case ixor => exact ⟨_, rfl, i32_rg _, trivial⟩
theorem m_l2_op {ins : Instr} {o : Nat} (hi : k_ol ins = some o) (x y : Int64) (hnz : o = 3 ∨ o = 4 → y.toInt ≠ 0) : ∃ z, m_l2 ins x y = some (.long z) ∧ opR o 1 x.toInt y.toInt z.toInt := by
  have hy0 : o = 3 ∨ o = 4 → ¬ y = 0 := fun h e => hnz h (by rw [e]; rfl)
  cases ins <;> first
    | (exfalso; revert hi; simp [k_ol]; done)
    | skip
  all_goals (simp only [k_ol, Option.some.injEq] at hi; subst hi)
  case ladd => exact ⟨x + y, rfl, i64_rg _, fun h => by rw [Int64.toInt_add, z_bm1 h]⟩
  case lsub => exact ⟨x - y, rfl, i64_rg _, fun h => by rw [Int64.toInt_sub, z_bm1 h]⟩
  case lmul => exact ⟨x * y, rfl, i64_rg _, fun h => by rw [Int64.toInt_mul, z_bm1 h]⟩
  case ldiv =>
    refine ⟨x / y, by simp only [m_l2]; rw [if_neg (hy0 (.inl rfl))], i64_rg _, fun hX hY => ?_⟩
    obtain ⟨d1, d2, -⟩ := z_divm hX hY
    rw [Int64.toInt_div, Int.tdiv_eq_ediv_of_nonneg hX, z_bm1 (z_rgm (Y := 0) (i64_rg x) hX d1 d2)]
  case lrem =>
    refine ⟨x - x / y * y, by simp only [m_l2]; rw [if_neg (hy0 (.inr rfl))], i64_rg _, fun hX hY => ?_⟩
    obtain ⟨d1, d2, d3, d4, d5⟩ := z_divm hX hY
    have r1 := Int.emod_nonneg x.toInt (show y.toInt ≠ 0 by omega)
    rw [Int64.toInt_sub, Int64.toInt_mul, Int64.toInt_div, Int.tdiv_eq_ediv_of_nonneg hX, z_bm1 (z_rgm (Y := 0) (i64_rg x) hX d1 d2), z_bm1 (z_rgm (Y := 0) (i64_rg x) hX d3 d4), d5, z_bm1 (z_rgm (Y := 0) (i64_rg x) hX r1 (by omega))]
  case land => exact ⟨_, rfl, i64_rg _, trivial⟩
