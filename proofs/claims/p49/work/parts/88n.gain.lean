/-! GAINS -/
/-- ya film's costs of ya year, yas ya number -/
noncomputable def smI (yA : AW) (yf l yy yk : Int32) : Nat → Int
  | 0 => 0
  | yn + 1 => smI yA yf l yy yk yn + @ite _ (inB yA yf l (-1) yy yn) (Classical.propDecidable _) (cvV yA yn yk).toInt 0
theorem smI_1 {yA : AW} {yf l yy yk : Int32} {yn : Nat} (yh : inB yA yf l (-1) yy yn) : smI yA yf l yy yk (yn + 1) = smI yA yf l yy yk yn + (cvV yA yn yk).toInt := congrArg (smI yA yf l yy yk yn + ·) (@if_pos _ (Classical.propDecidable _) yh _ _ _)
theorem smI_0 {yA : AW} {yf l yy yk : Int32} {yn : Nat} (yh : ¬ inB yA yf l (-1) yy yn) : smI yA yf l yy yk (yn + 1) = smI yA yf l yy yk yn := (congrArg (smI yA yf l yy yk yn + ·) (@if_neg _ (Classical.propDecidable _) yh _ _ _)).trans (Int.add_zero _)
theorem smI_b {yA : AW} (yg : Rgx yA) (hp : Rpr yA) (yf l yy yk : Int32) : ∀ {yn : Nat}, yn ≤ cT yA → -9999801 * (yn : Int) ≤ smI yA yf l yy yk yn ∧ smI yA yf l yy yk yn ≤ 9999801 * (yn : Int)
  | 0, _ => by
    show -9999801 * ((0 : Nat) : Int) ≤ 0 ∧ (0 : Int) ≤ 9999801 * ((0 : Nat) : Int)
    omega
  | yn + 1, hn => by
    have yih := smI_b yg hp yf l yy yk (yn := yn) (by omega)
    have yh := cvV_rg yg hp (yc := yn) (by omega) yk
    by_cases yz : inB yA yf l (-1) yy yn
    · rw [smI_1 yz]
      omega
    · rw [smI_0 yz]
      omega
theorem Rgx.T5 {yA : AW} (yg : Rgx yA) : cT yA ≤ 150 := by
  have := yg.gl.T
  unfold cT
  omega
theorem smV_I {yA : AW} (yg : Rgx yA) (hp : Rpr yA) (yf l yy yk : Int32) : ∀ {yn : Nat}, yn ≤ cT yA → (smV yA yf l (-1) yy yk yn).toInt = smI yA yf l yy yk yn
  | 0, _ => by
    show (Int64.ofNat 0).toInt = 0
    decide
  | yn + 1, hn => by
    have yih := smV_I yg hp yf l yy yk (yn := yn) (by omega)
    have yh := cvV_rg yg hp (yc := yn) (by omega) yk
    have yhb := smI_b yg hp yf l yy yk (yn := yn) (by omega)
    have h5 := yg.T5
    by_cases yz : inB yA yf l (-1) yy yn
    · rw [smV_1 yz, smI_1 yz, Int64.toInt_add, yih, Int32.toInt_toInt64]
      exact z_bm1 ⟨by show (-9223372036854775808 : Int) ≤ _; omega, by show _ ≤ (9223372036854775807 : Int); omega⟩
    · rw [smV_0 yz, smI_0 yz, yih]
theorem i64_held : (1999999999 : Int64).toInt = 1999999999 := by decide
theorem bs_64 {yA : AW} (yg : Rgx yA) (hp : Rpr yA) (yf l yy yk : Int32) : (bsV yA yf l (-1) yy yk).toInt64 = smV yA yf l (-1) yy yk (cT yA) ∧ (smV yA yf l (-1) yy yk (cT yA)).toInt < 1999999999 := by
  have yh := smV_I yg hp yf l yy yk (Nat.le_refl (cT yA))
  have yhb := smI_b yg hp yf l yy yk (Nat.le_refl (cT yA))
  have h5 := yg.T5
  have ye : l_min (smV yA yf l (-1) yy yk (cT yA)) 1999999999 = smV yA yf l (-1) yy yk (cT yA) := by
    unfold l_min
    rw [if_neg (fun yq => by
      have := Int64.lt_iff_toInt_lt.mp yq
      rw [i64_held] at this
      omega)]
  refine ⟨?_, by omega⟩
  apply Int64.toInt_inj.mp
  unfold bsV
  rw [ye, Int32.toInt_toInt64, Int64.toInt_toInt32]
  exact z_bm0 ⟨by show (-2147483648 : Int) ≤ _; omega, by show _ ≤ (2147483647 : Int); omega⟩
/-! the class -/
/-! the reference -/
/-! the ypair -/
