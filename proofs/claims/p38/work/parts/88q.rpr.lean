/-! LOANS REPAID: runs -/
/-- what the class holds of loans -/
def lnW (yA yW : AW) (yG : Nat → Int32) : Prop := (yW.1 47 17).toInt = (lnT yA : Int) ∧ (∀ yj, yj < 60 → yW.1 56 yj = yA.1 111 yj) ∧ (∀ yj, yj < 60 → yW.1 57 yj = yA.1 112 yj) ∧ (∀ yj, yj < 60 → yW.1 58 yj = yA.1 113 yj) ∧ ∀ yj, yj < 60 → yW.1 59 yj = yG yj
/-! the reference -/
