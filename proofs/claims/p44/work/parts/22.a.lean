theorem i32_nat {k : Nat} (h : k < 2147483648) : (Int32.ofNat k).toInt = k := by
  rw [Int32.toInt_ofNat_of_lt h]
theorem i32_clamp {k : Nat} (h : k < 2147483648) : (Int32.ofNat k).toNatClampNeg = k := by
  unfold Int32.toNatClampNeg
  rw [i32_nat h]
  rfl
theorem i32_ge {a b : Nat} (ha : a < 2147483648) (hb : b < 2147483648) : m_cmp .ge (Int32.ofNat a) (Int32.ofNat b) = decide (b ≤ a) := by
  unfold m_cmp
  rw [Bool.eq_iff_iff]
  simp [Int32.le_iff_toInt_le, Int32.lt_iff_toInt_lt, i32_nat ha, i32_nat hb]
theorem i32_in {a n : Nat} (ha : a < n) (hn : n < 2147483648) : m_in (Int32.ofNat a) n = true := by
  unfold m_in
  have h1 := i32_nat (show a < 2147483648 by omega)
  have h2 := i32_clamp (show a < 2147483648 by omega)
  simp [Int32.lt_iff_toInt_lt, h1, h2, ha]
theorem i32_succ {k : Nat} (h : k + 1 < 2147483648) : Int32.ofNat k + Int32.ofInt 1 = Int32.ofNat (k + 1) := by
  apply Int32.toInt_inj.mp
  rw [Int32.toInt_add, i32_nat (show k < 2147483648 by omega), i32_nat h]
  rw [show (Int32.ofInt 1).toInt = 1 by rfl, Int.bmod_def]
  omega
