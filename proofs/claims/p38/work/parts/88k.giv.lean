/-! WHAT CERTIFICATES ARE GIVEN -/
/-- what yboth sides hold alike of the queue -/
def Rqx (yA : AW) : Prop := Rgx yA ∧ (yA.1 47 16 = yA.1 69 52) ∧ (∀ yj, yj < 60 → yA.1 49 yj = yA.1 106 yj) ∧ (∀ yj, yj < 60 → yA.1 50 yj = yA.1 107 yj) ∧ (∀ yj, yj < 60 → yA.1 48 yj = yA.1 105 yj) ∧ Rq yA
theorem Rqx.gx {yA : AW} (yh : Rqx yA) : Rgx yA := yh.1
theorem Rqx.rq {yA : AW} (yh : Rqx yA) : Rq yA := yh.2.2.2.2.2
theorem Rqx.tQ {yA : AW} (yg : Rqx yA) : 0 ≤ (yA.1 69 52).toInt ∧ (yA.1 69 52).toInt ≤ 60 := yg.gx.gl.ok.fld (i := 69) (k := 52) (lo := 0) (hi := 60) (by decide +kernel)
theorem Rqx.l5 {yA : AW} (yg : Rqx yA) {yj : Nat} (yh : yj < 60) : 0 ≤ (yA.1 107 yj).toInt ∧ (yA.1 107 yj).toInt ≤ 5 := yg.gx.gl.ok.arr (i := 107) (t := 0) (n := 60) (by rfl) yh
theorem Rqx.f0 {yA : AW} (yg : Rqx yA) {yj : Nat} (yh : yj < 60) : 0 ≤ (yA.1 106 yj).toInt ∧ (yA.1 106 yj).toInt ≤ 19 := yg.gx.gl.ok.arr (i := 106) (t := 0) (n := 60) (by rfl) yh
theorem Rqx.dy {yA : AW} (yg : Rqx yA) : yA.1 0 10 = yA.1 69 0 := yg.gx.F11 ((0, 10), (69, 0)) (by simp [F11])
def qT (yA : AW) : Nat := (yA.1 69 52).toInt.toNat
/-! the class -/
/-- yrows but one are yas they were -/
def exR (yc : Nat) (yW yU : AW) : Prop := (∀ yd yj, yd ≠ yc → yU.1 yd yj = yW.1 yd yj) ∧ yU.2 = yW.2
theorem exR_refl (yc : Nat) (yW : AW) : exR yc yW yW := ⟨fun _ _ _ => rfl, rfl⟩
theorem exR_u {yc : Nat} {yW yU : AW} (yh : exR yc yW yU) {yq : Nat} {ym : Int32} : exR yc yW (uI yU yc yq ym) := ⟨fun yd yj yp => (uI_c yp).trans (yh.1 yd yj yp), yh.2⟩
