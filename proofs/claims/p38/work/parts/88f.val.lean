/-! SCRATCH yOF BOTH SIDES -/
abbrev scD (yc : Nat) : Prop := yc ≠ 19 ∧ yc ≠ 20 ∧ yc ≠ 29 ∧ yc ≠ 38 ∧ yc ≠ 44 ∧ yc ≠ 45 ∧ yc ≠ 46
abbrev scC (yc : Nat) : Prop := yc ≠ 19 ∧ yc ≠ 20 ∧ yc ≠ 29 ∧ yc ≠ 38 ∧ yc ≠ 44 ∧ yc ≠ 45 ∧ yc ≠ 46 ∧ yc ≠ 47 ∧ yc ≠ 54 ∧ yc ≠ 55 ∧ (yc < 61 ∨ 68 < yc)
abbrev scK (yc : Nat) : Prop := yc = 47 ∨ yc = 54 ∨ yc = 55 ∨ (61 ≤ yc ∧ yc ≤ 68)
abbrev smD (yc : Nat) : Prop := 69 < yc ∧ yc < 129 ∧ yc ≠ 115 ∧ yc ≠ 116 ∧ yc ≠ 117
abbrev smC (yc : Nat) : Prop := 69 < yc ∧ yc < 129 ∧ yc ≠ 115 ∧ yc ≠ 116 ∧ yc ≠ 117 ∧ (yc < 118 ∨ 127 < yc)
abbrev smQ (yc : Nat) : Prop := 118 ≤ yc ∧ yc ≤ 127
abbrev smK (yc : Nat) : Prop := yc < 69 ∨ (118 ≤ yc ∧ yc ≤ 127)
/-- the class writes its scratch alone; what loops of callers fill is yas in ya further world -/
def scX (B9 yA yW : AW) : Prop := (∀ yc yj, scC yc → yW.1 yc yj = yA.1 yc yj) ∧ (∀ yj, yj ≠ 10 → yW.1 20 yj = yA.1 20 yj) ∧ (∀ yj, yj ≠ 9 → yj ≠ 10 → yW.1 38 yj = yA.1 38 yj) ∧ yW.2 = yA.2 ∧ (∀ yc yj, scK yc → yW.1 yc yj = B9.1 yc yj)
/-- the reference writes its scratch alone, and what the class ymay do besides -/
def smM (B9 yA yW : AW) : Prop := (∀ yc yj, smC yc → yW.1 yc yj = yA.1 yc yj) ∧ (∀ yj, yj ≠ 60 → yj ≠ 61 → yj ≠ 62 → yj ≠ 63 → yj ≠ 64 → yj ≠ 66 → yj ≠ 67 → yj ≠ 68 → yW.1 69 yj = yA.1 69 yj) ∧ (∀ yj, yW.1 21 yj = yA.1 21 yj ∧ yW.1 23 yj = yA.1 23 yj) ∧ ∀ yc yj, smK yc → yW.1 yc yj = B9.1 yc yj
theorem scC_hi {yc : Nat} (yh : 69 ≤ yc) : scC yc := by
  refine ⟨?_, ?_, ?_, ?_, ?_, ?_, ?_, ?_, ?_, ?_, ?_⟩ <;> omega
theorem scC_D {yc : Nat} (yp : scC yc) : scD yc := ⟨yp.1, yp.2.1, yp.2.2.1, yp.2.2.2.1, yp.2.2.2.2.1, yp.2.2.2.2.2.1, yp.2.2.2.2.2.2.1⟩
theorem scK_D {yc : Nat} (yp : scK yc) : scD yc := by
  have yp : yc = 47 ∨ yc = 54 ∨ yc = 55 ∨ (61 ≤ yc ∧ yc ≤ 68) := yp
  refine ⟨?_, ?_, ?_, ?_, ?_, ?_, ?_⟩ <;> omega
theorem smC_D {yc : Nat} (yp : smC yc) : smD yc := ⟨yp.1, yp.2.1, yp.2.2.1, yp.2.2.2.1, yp.2.2.2.2.1⟩
theorem smQ_D {yc : Nat} (yp : smQ yc) : smD yc := by
  have yp : 118 ≤ yc ∧ yc ≤ 127 := yp
  refine ⟨?_, ?_, ?_, ?_, ?_⟩ <;> omega
theorem scX_refl (yA : AW) : scX yA yA yA := ⟨fun _ _ _ => rfl, fun _ _ => rfl, fun _ _ _ => rfl, rfl, fun _ _ _ => rfl⟩
theorem scX_rb {B9 yA yW : AW} (yh : scX B9 yA yW) : scX yW yA yW := ⟨yh.1, yh.2.1, yh.2.2.1, yh.2.2.2.1, fun _ _ _ => rfl⟩
theorem scX_up {B9 yA yW V : AW} (yh : scX B9 yA yW) (h1 : ∀ yc yj, scD yc → V.1 yc yj = yW.1 yc yj) (h2 : ∀ yj, yj ≠ 10 → V.1 20 yj = yW.1 20 yj) (h3 : ∀ yj, yj ≠ 9 → yj ≠ 10 → V.1 38 yj = yW.1 38 yj) (h4 : V.2 = yW.2) : scX B9 yA V := ⟨fun yc yj yp => (h1 yc yj (scC_D yp)).trans (yh.1 yc yj yp), fun yj yp => (h2 yj yp).trans (yh.2.1 yj yp), fun yj yp yq => (h3 yj yp yq).trans (yh.2.2.1 yj yp yq), h4.trans yh.2.2.2.1, fun yc yj yp => (h1 yc yj (scK_D yp)).trans (yh.2.2.2.2 yc yj yp)⟩
theorem scX_lw {B9 yA yW V : AW} (yh : scX B9 yA yW) (yg : lwW yW V) : scX B9 yA V := scX_up yh (fun _ _ yp => lwW_c yg yp.2.2.2.1 yp.2.2.2.2.1 yp.2.2.2.2.2.1) (fun _ _ => lwW_c yg (by decide) (by decide) (by decide)) (fun _ yp yq => lwW_38 yg yp yq) (lwW_2 yg)
/-- what the caller's loops fill -/
theorem scX_K {B9 yA yW V : AW} (yh : scX B9 yA yW) (h1 : ∀ yc yj, ¬ scK yc → V.1 yc yj = yW.1 yc yj) (h2 : V.2 = yW.2) : scX V yA V := ⟨fun yc yj yp => (h1 yc yj (fun yq => by have yq : yc = 47 ∨ yc = 54 ∨ yc = 55 ∨ (61 ≤ yc ∧ yc ≤ 68) := yq; have yr := yp.2.2.2.2.2.2.2; omega)).trans (yh.1 yc yj yp), fun yj yp => (h1 20 yj (by decide)).trans (yh.2.1 yj yp), fun yj yp yq => (h1 38 yj (by decide)).trans (yh.2.2.1 yj yp yq), h2.trans yh.2.2.2.1, fun _ _ _ => rfl⟩
theorem scX_k {B9 yA yW : AW} (yh : scX B9 yA yW) {yc yq : Nat} {ym : Int32} (yhc : scK yc) : scX (uI yW yc yq ym) yA (uI yW yc yq ym) := scX_K yh (fun yd yj yp => uI_c (fun ye => yp (by rw [ye]; exact yhc))) rfl
theorem smM_sc {B9 yA yW : AW} (yh : scX B9 yA yW) : smM yW yA yW := ⟨fun yc yj yp => yh.1 yc yj (scC_hi (by have := yp.1; omega)), fun yj _ _ _ _ _ _ _ _ => yh.1 69 yj (by decide), fun yj => ⟨yh.1 21 yj (by decide), yh.1 23 yj (by decide)⟩, fun _ _ _ => rfl⟩
theorem smM_refl (yA : AW) : smM yA yA yA := smM_sc (scX_refl yA)
theorem smM_rb {B9 yA yW : AW} (yh : smM B9 yA yW) : smM yW yA yW := ⟨yh.1, yh.2.1, yh.2.2.1, fun _ _ _ => rfl⟩
theorem smM_up {B9 yA yW V : AW} (yh : smM B9 yA yW) (h1 : ∀ yc yj, smD yc → V.1 yc yj = yW.1 yc yj) (h2 : ∀ yj, yj ≠ 60 → yj ≠ 61 → yj ≠ 62 → yj ≠ 63 → yj ≠ 64 → yj ≠ 66 → yj ≠ 67 → yj ≠ 68 → V.1 69 yj = yW.1 69 yj) (h3 : ∀ yc yj, yc < 69 → V.1 yc yj = yW.1 yc yj) : smM B9 yA V := ⟨fun yc yj yp => (h1 yc yj (smC_D yp)).trans (yh.1 yc yj yp), fun yj yp1 yp2 yp3 yp4 yp5 yp6 yp7 yp8 => (h2 yj yp1 yp2 yp3 yp4 yp5 yp6 yp7 yp8).trans (yh.2.1 yj yp1 yp2 yp3 yp4 yp5 yp6 yp7 yp8), fun yj => ⟨(h3 21 yj (by decide)).trans (yh.2.2.1 yj).1, (h3 23 yj (by decide)).trans (yh.2.2.1 yj).2⟩, fun yc yj yp => yp.elim (fun yq => (h3 yc yj yq).trans (yh.2.2.2 yc yj yp)) (fun yq => (h1 yc yj (smQ_D yq)).trans (yh.2.2.2 yc yj yp))⟩
theorem smM_lm {B9 yA yW V : AW} (yh : smM B9 yA yW) (yg : lmW yW V) : smM B9 yA V := smM_up yh (fun yc yj yp => yg.1 yc yj (by have := yp.1; omega) yp.2.2.1 yp.2.2.2.2) yg.2.1 (fun yc yj yp => yg.1 yc yj (by omega) (by omega) (by omega))
/-- what the caller's loops fill -/
theorem smM_k {B9 yA yW : AW} (yh : smM B9 yA yW) {yc yq : Nat} {ym : Int32} (yhc : smQ yc) : smM (uI yW yc yq ym) yA (uI yW yc yq ym) := ⟨fun yd yj yp => (uI_c (by have yr := yp.2.2.2.2.2; have yq : 118 ≤ yc ∧ yc ≤ 127 := yhc; omega)).trans (yh.1 yd yj yp), fun yj yp1 yp2 yp3 yp4 yp5 yp6 yp7 yp8 => (uI_c (by have yq : 118 ≤ yc ∧ yc ≤ 127 := yhc; omega)).trans (yh.2.1 yj yp1 yp2 yp3 yp4 yp5 yp6 yp7 yp8), fun yj => ⟨(uI_c (by have yq : 118 ≤ yc ∧ yc ≤ 127 := yhc; omega)).trans (yh.2.2.1 yj).1, (uI_c (by have yq : 118 ≤ yc ∧ yc ≤ 127 := yhc; omega)).trans (yh.2.2.1 yj).2⟩, fun _ _ _ => rfl⟩
theorem smM.lo {B9 yA yW : AW} (yh : smM B9 yA yW) {yc : Nat} (h1 : 69 < yc) (h2 : yc < 115) (yj : Nat) : yW.1 yc yj = yA.1 yc yj := yh.1 yc yj ⟨h1, by omega, by omega, by omega, by omega, by omega⟩
/-! VALUES yOF yA COST, by the reference's yrows -/
/-! the class -/
/-- what the class is ytold of ya cost's yrow -/
def rowC (yA : AW) (ya yc : Nat) : Prop := 129 ≤ ya ∧ yc < cT yA ∧ yc < 150 ∧ rowR yA ya yc
theorem rowC.a9 {yA : AW} {ya yc : Nat} (yh : rowC yA ya yc) : 129 ≤ ya := yh.1
theorem sc_row {B9 yA yW : AW} (hs : scX B9 yA yW) {ya : Nat} (yha : 129 ≤ ya) (yj : Nat) : yW.1 ya yj = yA.1 ya yj := hs.1 ya yj (scC_hi (by omega))
/-- of the world yas ya whole: what yboth sides hold alike -/
def Rgl (yA : AW) : Prop := (yA.1 1 3 = yA.1 69 7) ∧ (yA.1 5 6 = yA.1 69 11) ∧ (yA.1 12 7 = yA.1 69 13) ∧ (yA.1 30 4 = yA.1 69 31) ∧ (yA.1 20 9 = yA.1 69 37) ∧ (∀ yj, yj < 20 → yA.1 6 yj = yA.1 76 yj) ∧ (∀ yj, yj < 20 → yA.1 2 yj = yA.1 73 yj) ∧ (∀ yj, yj < 120 → yA.1 24 yj = yA.1 94 yj ∧ yA.1 25 yj = yA.1 95 yj ∧ yA.1 26 yj = yA.1 96 yj ∧ yA.1 27 yj = yA.1 97 yj ∧ yA.1 28 yj = yA.1 98 yj) ∧ (RX19 yA) ∧ (RZc yA) ∧ (Rfl yA) ∧ (Rz6 yA) ∧ (okA yA)
theorem Rgl.f1 {yA : AW} (yh : Rgl yA) : yA.1 1 3 = yA.1 69 7 := yh.1
theorem Rgl.f5 {yA : AW} (yh : Rgl yA) : yA.1 5 6 = yA.1 69 11 := yh.2.1
theorem Rgl.r6 {yA : AW} (yh : Rgl yA) : ∀ yj, yj < 20 → yA.1 6 yj = yA.1 76 yj := yh.2.2.2.2.2.1
theorem Rgl.r2 {yA : AW} (yh : Rgl yA) : ∀ yj, yj < 20 → yA.1 2 yj = yA.1 73 yj := yh.2.2.2.2.2.2.1
theorem Rgl.lk {yA : AW} (yh : Rgl yA) : ∀ yj, yj < 120 → yA.1 24 yj = yA.1 94 yj ∧ yA.1 25 yj = yA.1 95 yj ∧ yA.1 26 yj = yA.1 96 yj ∧ yA.1 27 yj = yA.1 97 yj ∧ yA.1 28 yj = yA.1 98 yj := yh.2.2.2.2.2.2.2.1
theorem Rgl.rf {yA : AW} (yh : Rgl yA) : Rfl yA := yh.2.2.2.2.2.2.2.2.2.2.1
theorem Rgl.r4 {yA : AW} (yh : Rgl yA) : Rz6 yA := yh.2.2.2.2.2.2.2.2.2.2.2.1
theorem Rgl.ok {yA : AW} (yh : Rgl yA) : okA yA := yh.2.2.2.2.2.2.2.2.2.2.2.2
theorem Rgl.T {yA : AW} (yg : Rgl yA) : 0 ≤ (yA.1 69 31).toInt ∧ (yA.1 69 31).toInt ≤ 150 := yg.ok.fld (i := 69) (k := 31) (lo := 0) (hi := 150) (by decide +kernel)
/-! the reference -/
