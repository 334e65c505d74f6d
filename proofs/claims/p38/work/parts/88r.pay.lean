/-! WHAT IS PAID -/
/-! pay -/
/-- the film and its house are there -/
def pcOk (yA : AW) (yc : Nat) : Prop := (0 ≤ (yA.1 106 yc).toInt ∧ (yA.1 106 yc).toInt < (yA.1 69 11).toInt ∧ (yA.1 69 11).toInt ≤ 20) ∧ 0 ≤ (yA.1 76 ((yA.1 106 yc).toInt.toNat)).toInt ∧ (yA.1 76 ((yA.1 106 yc).toInt.toNat)).toInt < (yA.1 69 7).toInt ∧ (yA.1 69 7).toInt ≤ 20
/-! ADVANCE, SETTLE -/
/-- what yboth sides hold alike, yfor what is ypaid -/
def Rpx (yA : AW) : Prop := Rqx yA ∧ Rpr yA ∧ Rlt yA ∧ Rpy yA ∧ Rfh yA ∧ (yA.1 47 17 = yA.1 69 57) ∧ (∀ yj, yj < 60 → yA.1 56 yj = yA.1 111 yj) ∧ (∀ yj, yj < 60 → yA.1 57 yj = yA.1 112 yj) ∧ (∀ yj, yj < 60 → yA.1 58 yj = yA.1 113 yj)
theorem Rpx.q {yA : AW} (yh : Rpx yA) : Rqx yA := yh.1
theorem Rpx.py {yA : AW} (yh : Rpx yA) : Rpy yA := yh.2.2.2.1
theorem Rpx.fh {yA : AW} (yh : Rpx yA) : Rfh yA := yh.2.2.2.2.1
theorem Rpx.fn {yA : AW} (yh : Rpx yA) : yA.1 47 17 = yA.1 69 57 := yh.2.2.2.2.2.1
theorem Rpx.r56 {yA : AW} (yh : Rpx yA) : ∀ yj, yj < 60 → yA.1 56 yj = yA.1 111 yj := yh.2.2.2.2.2.2.1
theorem Rpx.r57 {yA : AW} (yh : Rpx yA) : ∀ yj, yj < 60 → yA.1 57 yj = yA.1 112 yj := yh.2.2.2.2.2.2.2.1
theorem Rpx.r58 {yA : AW} (yh : Rpx yA) : ∀ yj, yj < 60 → yA.1 58 yj = yA.1 113 yj := yh.2.2.2.2.2.2.2.2
theorem Rpx.tN {yA : AW} (yg : Rpx yA) : 0 ≤ (yA.1 69 57).toInt ∧ (yA.1 69 57).toInt ≤ 60 := yg.q.gx.gl.ok.fld (i := 69) (k := 57) (lo := 0) (hi := 60) (by decide +kernel)
theorem Rpx.tH {yA : AW} (yg : Rpx yA) : 0 ≤ (yA.1 69 7).toInt ∧ (yA.1 69 7).toInt ≤ 20 := yg.q.gx.gl.ok.fld (i := 69) (k := 7) (lo := 0) (hi := 20) (by decide +kernel)
theorem Rpx.pc {yA : AW} (yg : Rpx yA) {yc : Nat} (yhc : yc < qT yA) : pcOk yA yc := by
  have yhT := yg.q.tQ
  have hF := yg.q.gx.tF
  have hH := yg.tH
  have yf0 := Rqx.f0 (yj := yc) yg.q (by unfold qT at yhc; omega)
  have yf1 := yg.q.rq.1 yc yhc
  have fh := yg.fh ((yA.1 106 yc).toInt.toNat) (by omega)
  exact ⟨⟨yf0.1, yf1, hF.2⟩, fh.1, fh.2, hH.2⟩
theorem Rpx.lnX {yA yW : AW} (yg : Rpx yA) (h1 : yW.1 47 17 = yA.1 47 17) (h2 : ∀ yd yj, yd = 56 ∨ yd = 57 ∨ yd = 58 ∨ yd = 59 → yW.1 yd yj = yA.1 yd yj) : lnW yA yW (yA.1 114) := by
  have yhN := yg.tN
  refine ⟨?_, fun yj hj => (h2 56 yj (by omega)).trans (yg.r56 yj hj), fun yj hj => (h2 57 yj (by omega)).trans (yg.r57 yj hj), fun yj hj => (h2 58 yj (by omega)).trans (yg.r58 yj hj), fun yj hj => (h2 59 yj (by omega)).trans (yg.py.2.2.1 yj hj)⟩
  rw [h1, yg.fn]
  unfold lnT
  omega
/-! settle -/
