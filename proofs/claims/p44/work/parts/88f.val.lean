/-! SCRATCH yOF BOTH SIDES -/
abbrev scD (yc : Nat) : Prop := yc ≠ 19 ∧ yc ≠ 20 ∧ yc ≠ 29 ∧ yc ≠ 38 ∧ yc ≠ 44 ∧ yc ≠ 45 ∧ yc ≠ 46
abbrev scC (yc : Nat) : Prop := yc ≠ 19 ∧ yc ≠ 20 ∧ yc ≠ 29 ∧ yc ≠ 38 ∧ yc ≠ 44 ∧ yc ≠ 45 ∧ yc ≠ 46 ∧ yc ≠ 47 ∧ yc ≠ 54 ∧ yc ≠ 55 ∧ (yc < 61 ∨ 68 < yc)
abbrev scK (yc : Nat) : Prop := yc = 47 ∨ yc = 54 ∨ yc = 55 ∨ (61 ≤ yc ∧ yc ≤ 68)
abbrev smD (yc : Nat) : Prop := 69 < yc ∧ yc < 129 ∧ yc ≠ 115 ∧ yc ≠ 116 ∧ yc ≠ 117
abbrev smC (yc : Nat) : Prop := 69 < yc ∧ yc < 129 ∧ yc ≠ 115 ∧ yc ≠ 116 ∧ yc ≠ 117 ∧ (yc < 118 ∨ 127 < yc)
abbrev smQ (yc : Nat) : Prop := 118 ≤ yc ∧ yc ≤ 127
abbrev smK (yc : Nat) : Prop := yc < 69 ∨ (118 ≤ yc ∧ yc ≤ 127)
/-- the class writes its scratch alone; what loops of callers fill is yas in ya further world -/
def scX (B9 yA yW : AW) : Prop := (∀ yc yj, scC yc → yW.1 yc yj = yA.1 yc yj) ∧ (∀ yj, yj ≠ 10 → yW.1 20 yj = yA.1 20 yj) ∧ (∀ yj, yj ≠ 9 → yj ≠ 10 → yW.1 38 yj = yA.1 38 yj) ∧ yW.2 = yA.2 ∧ (∀ yc yj, scK yc → yW.1 yc yj = B9.1 yc yj)
/-- the reference writes its scratch alone, and what the class ymay do besides -/
def smM (B9 yA yW : AW) : Prop := (∀ yc yj, smC yc → yW.1 yc yj = yA.1 yc yj) ∧ (∀ yj, yj ≠ 60 → yj ≠ 61 → yj ≠ 62 → yj ≠ 63 → yj ≠ 64 → yj ≠ 66 → yj ≠ 67 → (yj ≠ 68 ∧ yj ≠ 69) → yW.1 69 yj = yA.1 69 yj) ∧ (∀ yj, yW.1 21 yj = yA.1 21 yj ∧ yW.1 23 yj = yA.1 23 yj ∧ yW.1 69 69 = yA.1 38 8) ∧ ∀ yc yj, smK yc → yW.1 yc yj = B9.1 yc yj
theorem scC_hi {yc : Nat} (yh : 69 ≤ yc) : scC yc := by
  refine ⟨?_, ?_, ?_, ?_, ?_, ?_, ?_, ?_, ?_, ?_, ?_⟩ <;> omega
theorem scC_D {yc : Nat} (yp : scC yc) : scD yc := ⟨yp.1, yp.2.1, yp.2.2.1, yp.2.2.2.1, yp.2.2.2.2.1, yp.2.2.2.2.2.1, yp.2.2.2.2.2.2.1⟩
theorem scK_D {yc : Nat} (yp : scK yc) : scD yc := by
  have yp : yc = 47 ∨ yc = 54 ∨ yc = 55 ∨ (61 ≤ yc ∧ yc ≤ 68) := yp
  refine ⟨?_, ?_, ?_, ?_, ?_, ?_, ?_⟩ <;> omega
theorem smC_D {yc : Nat} (yp : smC yc) : smD yc := ⟨yp.1, yp.2.1, yp.2.2.1, yp.2.2.2.1, yp.2.2.2.2.1⟩
theorem smQ_D {yc : Nat} (yp : smQ yc) : smD yc := by
  have yp : 118 ≤ yc ∧ yc ≤ 127 := yp
  refine ⟨?_, ?_, ?_, ?_, ?_⟩ <;> omega
theorem scX_refl (yA : AW) : scX yA yA yA := ⟨fun _ _ _ => rfl, fun _ _ => rfl, fun _ _ _ => rfl, rfl, fun _ _ _ => rfl⟩
theorem scX_up {B9 yA yW V : AW} (yh : scX B9 yA yW) (h1 : ∀ yc yj, scD yc → V.1 yc yj = yW.1 yc yj) (h2 : ∀ yj, yj ≠ 10 → V.1 20 yj = yW.1 20 yj) (h3 : ∀ yj, yj ≠ 9 → yj ≠ 10 → V.1 38 yj = yW.1 38 yj) (h4 : V.2 = yW.2) : scX B9 yA V := ⟨fun yc yj yp => (h1 yc yj (scC_D yp)).trans (yh.1 yc yj yp), fun yj yp => (h2 yj yp).trans (yh.2.1 yj yp), fun yj yp yq => (h3 yj yp yq).trans (yh.2.2.1 yj yp yq), h4.trans yh.2.2.2.1, fun yc yj yp => (h1 yc yj (scK_D yp)).trans (yh.2.2.2.2 yc yj yp)⟩
theorem scX_lw {B9 yA yW V : AW} (yh : scX B9 yA yW) (yg : lwW yW V) : scX B9 yA V := scX_up yh (fun _ _ yp => lwW_c yg yp.2.2.2.1 yp.2.2.2.2.1 yp.2.2.2.2.2.1) (fun _ _ => lwW_c yg (by decide) (by decide) (by decide)) (fun _ yp yq => lwW_38 yg yp yq) (lwW_2 yg)
theorem scX_19 {B9 yA yW : AW} (yh : scX B9 yA yW) {yg : Nat → Int32} : scX B9 yA (uF yW 19 yg) := scX_up yh (fun _ _ yp => uF_c yp.1) (fun _ _ => uF_c (by decide)) (fun _ _ _ => uF_c (by decide)) rfl
theorem scX_29 {B9 yA yW : AW} (yh : scX B9 yA yW) {yg : Nat → Int32} {ym : Int32} : scX B9 yA (uI (uF yW 29 yg) 20 10 ym) := scX_up yh (fun _ _ yp => by rw [uI_c yp.2.1, uF_c yp.2.2.1]) (fun _ yp => by rw [uI_k yp, uF_c (by decide)]) (fun _ _ _ => by rw [uI_c (by decide), uF_c (by decide)]) rfl
theorem scX_46 {B9 yA yW : AW} (yh : scX B9 yA yW) {ym : Int32} {yq : Nat} : scX B9 yA (uI yW 46 yq ym) := scX_up yh (fun _ _ yp => uI_c yp.2.2.2.2.2.2) (fun _ _ => uI_c (by decide)) (fun _ _ _ => uI_c (by decide)) rfl
theorem scX_44 {B9 yA yW : AW} (yh : scX B9 yA yW) {ym : Int32} {yq : Nat} : scX B9 yA (uI yW 44 yq ym) := scX_up yh (fun _ _ yp => uI_c yp.2.2.2.2.1) (fun _ _ => uI_c (by decide)) (fun _ _ _ => uI_c (by decide)) rfl
theorem smM_up {B9 yA yW V : AW} (yh : smM B9 yA yW) (h1 : ∀ yc yj, smD yc → V.1 yc yj = yW.1 yc yj) (h2 : ∀ yj, yj ≠ 60 → yj ≠ 61 → yj ≠ 62 → yj ≠ 63 → yj ≠ 64 → yj ≠ 66 → yj ≠ 67 → yj ≠ 68 → V.1 69 yj = yW.1 69 yj) (h3 : ∀ yc yj, yc < 69 → V.1 yc yj = yW.1 yc yj) : smM B9 yA V := ⟨fun yc yj yp => (h1 yc yj (smC_D yp)).trans (yh.1 yc yj yp), fun yj yp1 yp2 yp3 yp4 yp5 yp6 yp7 yp8 => (h2 yj yp1 yp2 yp3 yp4 yp5 yp6 yp7 yp8.1).trans (yh.2.1 yj yp1 yp2 yp3 yp4 yp5 yp6 yp7 yp8), fun yj => ⟨(h3 21 yj (by decide)).trans (yh.2.2.1 yj).1, (h3 23 yj (by decide)).trans (yh.2.2.1 yj).2.1, (h2 69 (by decide) (by decide) (by decide) (by decide) (by decide) (by decide) (by decide) (by decide)).trans (yh.2.2.1 yj).2.2⟩, fun yc yj yp => yp.elim (fun yq => (h3 yc yj yq).trans (yh.2.2.2 yc yj yp)) (fun yq => (h1 yc yj (smQ_D yq)).trans (yh.2.2.2 yc yj yp))⟩
theorem smM_lm {B9 yA yW V : AW} (yh : smM B9 yA yW) (yg : lmW yW V) : smM B9 yA V := smM_up yh (fun yc yj yp => yg.1 yc yj (by have := yp.1; omega) yp.2.2.1 yp.2.2.2.2) yg.2.1 (fun yc yj yp => yg.1 yc yj (by omega) (by omega) (by omega))
theorem smM_116 {B9 yA yW : AW} (yh : smM B9 yA yW) {yg : Nat → Int32} : smM B9 yA (uF yW 116 yg) := smM_up yh (fun _ _ yp => uF_c yp.2.2.2.1) (fun _ _ _ _ _ _ _ _ _ => uF_c (by decide)) (fun _ _ yp => uF_c (by omega))
theorem smM_117 {B9 yA yW : AW} (yh : smM B9 yA yW) {yq : Nat} {ym : Int32} : smM B9 yA (uI yW 117 yq ym) := smM_up yh (fun _ _ yp => uI_c yp.2.2.2.2) (fun _ _ _ _ _ _ _ _ _ => uI_c (by decide)) (fun _ _ yp => uI_c (by omega))
theorem smM.lo {B9 yA yW : AW} (yh : smM B9 yA yW) {yc : Nat} (h1 : 69 < yc) (h2 : yc < 115) (yj : Nat) : yW.1 yc yj = yA.1 yc yj := yh.1 yc yj ⟨h1, by omega, by omega, by omega, by omega, by omega⟩
/-! VALUES yOF yA COST, by the reference's yrows -/
def ocM (yA : AW) (yc yq : Int32) : Int32 := yA.1 90 (((7 * yc) + yq).toInt.toNat)
def thI (yx : Int32) : Int32 := if yx.toInt = 2 ∨ yx.toInt = 3 ∨ yx.toInt = 5 then 1 else 0
theorem thI_iff {yx : Int32} : (thI yx).toInt ≠ 0 ↔ toH yx := by
  unfold thI toH
  by_cases yh : yx.toInt = 2 ∨ yx.toInt = 3 ∨ yx.toInt = 5
  · rw [if_pos yh]
    exact ⟨fun _ => yh, fun _ => by decide⟩
  · rw [if_neg yh]
    exact ⟨fun yz => absurd (by decide) yz, fun yz => absurd yz yh⟩
theorem bm_oc {N : Nat} {yA : AW} {yQ : Option Value → AW → Prop} (yc yq : Int32)
    (l1 : 0 ≤ ((7 * yc) + yq).toInt → ((7 * yc) + yq).toInt < 1050 → yQ (some (.int (yA.1 90 (((7 * yc) + yq).toInt.toNat)))) yA) :
    Pa N 181 0 [(0, .ref 69), (1, .int yc), (2, .int yq)] [] yA yQ := by
  refine Pa.mp 1 (pc' := 1) (l' := [(0, .ref 69), (1, .int yc), (2, .int yq)]) (st' := [.ref 69]) (by rfl) ?_
  refine Pa.gfR (by rfl) (by rfl) (.inl rfl) (by rfl) ?_
  show Pa N 181 4 [(0, .ref 69), (1, .int yc), (2, .int yq)] [.ref 90] yA _
  refine Pa.ic (x := 7) (pc' := 6) (by rfl) (by rfl) (by decide) ?_
  refine Pa.mp 4 (pc' := 10) (l' := [(0, .ref 69), (1, .int yc), (2, .int yq)]) (st' := [.int ((7 * yc) + yq), .ref 90]) (by rfl) ?_
  refine Pa.alds (v := yA.1 90 (((7 * yc) + yq).toInt.toNat)) (by rfl) (by rfl) (by rfl) (fun h1 h2 => ?_)
  have h1 : 0 ≤ ((7 * yc) + yq).toInt := h1
  have h2 : ((7 * yc) + yq).toInt < 1050 := h2
  refine Pa.iret (by rfl) ?_
  exact l1 h1 h2

theorem bm_th {N : Nat} {yA : AW} {yQ : Option Value → AW → Prop} (yx : Int32)
    (l1 : yx.toInt = 2 → yQ (some (.int 1)) yA)
    (l2 : yx.toInt ≠ 2 → yx.toInt = 3 → yQ (some (.int 1)) yA)
    (l3 : yx.toInt ≠ 2 → yx.toInt ≠ 3 → yx.toInt ≠ 5 → yQ (some (.int 0)) yA)
    (l4 : yx.toInt ≠ 2 → yx.toInt ≠ 3 → yx.toInt = 5 → yQ (some (.int 1)) yA) :
    Pa N 178 0 [(0, .int yx)] [] yA yQ := by
  refine Pa.mp 1 (pc' := 1) (l' := [(0, .int yx)]) (st' := [.int yx]) (by rfl) ?_
  refine Pa.ic (x := 2) (pc' := 2) (by rfl) (by rfl) (by decide) ?_
  refine Pa.if2 (a := yx.toInt) (b := 2) (t := 15) (by rfl) (by rfl) (rfl) (by decide) (fun h1 => ?_) (fun h2 => ?_)
  · have h1 : yx.toInt = 2 := h1
    refine Pa.ic (x := 1) (pc' := 16) (by rfl) (by rfl) (by decide) ?_
    refine Pa.mp 1 (pc' := 20) (l' := [(0, .int yx)]) (st' := [.int 1]) (by rfl) ?_
    refine Pa.iret (by rfl) ?_
    exact l1 h1
  · have h2 : yx.toInt ≠ 2 := h2
    refine Pa.mp 1 (pc' := 6) (l' := [(0, .int yx)]) (st' := [.int yx]) (by rfl) ?_
    refine Pa.ic (x := 3) (pc' := 7) (by rfl) (by rfl) (by decide) ?_
    refine Pa.if2 (a := yx.toInt) (b := 3) (t := 15) (by rfl) (by rfl) (rfl) (by decide) (fun h3 => ?_) (fun h4 => ?_)
    · have h3 : yx.toInt = 3 := h3
      refine Pa.ic (x := 1) (pc' := 16) (by rfl) (by rfl) (by decide) ?_
      refine Pa.mp 1 (pc' := 20) (l' := [(0, .int yx)]) (st' := [.int 1]) (by rfl) ?_
      refine Pa.iret (by rfl) ?_
      exact l2 h2 h3
    · have h4 : yx.toInt ≠ 3 := h4
      refine Pa.mp 1 (pc' := 11) (l' := [(0, .int yx)]) (st' := [.int yx]) (by rfl) ?_
      refine Pa.ic (x := 5) (pc' := 12) (by rfl) (by rfl) (by decide) ?_
      refine Pa.if2 (a := yx.toInt) (b := 5) (t := 19) (by rfl) (by rfl) (rfl) (by decide) (fun h5 => ?_) (fun h6 => ?_)
      · have h5 : yx.toInt ≠ 5 := h5
        refine Pa.ic (x := 0) (pc' := 20) (by rfl) (by rfl) (by decide) ?_
        refine Pa.iret (by rfl) ?_
        exact l3 h2 h4 h5
      · have h6 : yx.toInt = 5 := h6
        refine Pa.ic (x := 1) (pc' := 16) (by rfl) (by rfl) (by decide) ?_
        refine Pa.mp 1 (pc' := 20) (l' := [(0, .int yx)]) (st' := [.int 1]) (by rfl) ?_
        refine Pa.iret (by rfl) ?_
        exact l4 h2 h4 h6

theorem c_oc (N : Nat) (yA yW : AW) (yc yq : Int32) (yh : ∀ yj, yW.1 90 yj = yA.1 90 yj) : Pa N 181 0 [(0, .ref 69), (1, .int yc), (2, .int yq)] [] yW (fun yu A1 => yu = some (.int (ocM yA yc yq)) ∧ A1 = yW) :=
  bm_oc yc yq (fun _ _ => ⟨by unfold ocM; rw [yh], rfl⟩)
theorem c_thI (N : Nat) (yW : AW) (yx : Int32) : Pa N 178 0 [(0, .int yx)] [] yW (fun yu A1 => yu = some (.int (thI yx)) ∧ A1 = yW) := by
  refine bm_th yx (fun yq1 => ⟨?_, rfl⟩) (fun yq1 yq2 => ⟨?_, rfl⟩) (fun yq1 yq2 yq3 => ⟨?_, rfl⟩) (fun yq1 yq2 yq3 => ⟨?_, rfl⟩)
  · unfold thI
    rw [if_pos (.inl yq1)]
  · unfold thI
    rw [if_pos (.inr (.inl yq2))]
  · unfold thI
    rw [if_neg (by omega)]
  · unfold thI
    rw [if_pos (.inr (.inr yq3))]
theorem ocM_at {B9 yA yW : AW} (hs : smM B9 yA yW) {yc : Nat} (yhc : yc < 150) {yq : Int32} {yn : Nat} (hq : yq.toInt = (yn : Int)) (hn : yn < 7) : ocM yW (Int32.ofNat yc) yq = yA.1 90 (7 * yc + yn) := by
  unfold ocM
  rw [i7x yhc hq hn]
  exact hs.1 90 _ (by decide)
/-- related: ya house, and by yk -/
def rlx (yA : AW) (yc : Nat) : Int := ((20 * yA.1 90 (7 * yc + 4)) + yA.1 76 (yA.1 90 (7 * yc)).toInt.toNat).toInt
def relP (yA : AW) (yc : Nat) (yk : Int32) : Prop := toH (yA.1 89 yc) ∧ 0 ≤ rlx yA yc ∧ rlx yA yc < 400 ∧ 1 ≤ (yA.1 75 (rlx yA yc).toNat).toInt ∧ (yA.1 75 (rlx yA yc).toNat).toInt ≤ yk.toInt + 1
noncomputable def rlV (yA : AW) (yc : Nat) (yk : Int32) : Int32 := @ite _ (relP yA yc yk) (Classical.propDecidable _) 1 0
theorem rlV_1 {yA : AW} {yc : Nat} {yk : Int32} (yh : relP yA yc yk) : rlV yA yc yk = 1 := @if_pos _ (Classical.propDecidable _) yh _ _ _
theorem rlV_0 {yA : AW} {yc : Nat} {yk : Int32} (yh : ¬ relP yA yc yk) : rlV yA yc yk = 0 := @if_neg _ (Classical.propDecidable _) yh _ _ _
def midV (yA : AW) (yc : Nat) (yk : Int32) : Int32 := if (fndM yA (Int32.ofNat yc) yk).2.toInt = 0 then 0 else (fndM yA (Int32.ofNat yc) yk).1 ((((fndM yA (Int32.ofNat yc) yk).2 - 1) / 2).toInt.toNat)
noncomputable def frV (yA : AW) (yc : Nat) (yk : Int32) : Int32 := if (rlV yA yc yk).toInt = 0 then kofM yA (Int32.ofNat yc) yk else if (kofM yA (Int32.ofNat yc) yk).toInt < (midV yA yc yk).toInt then kofM yA (Int32.ofNat yc) yk else midV yA yc yk
/-- two costs of one receipt, unlike otherwise -/
def dblP (yA : AW) (yc yd : Nat) : Prop := ((yA.1 90 (7 * yc)).toInt ≠ (yA.1 90 (7 * yd)).toInt ∨ (yA.1 90 (7 * yc + 2)).toInt ≠ (yA.1 90 (7 * yd + 2)).toInt) ∧ (yA.1 90 (7 * yc + 5)).toInt = (yA.1 90 (7 * yd + 5)).toInt
noncomputable def ltV (yA : AW) (yc yn : Nat) : Int32 := @ite _ (∃ yd, yd < yn ∧ dblP yA yc yd) (Classical.propDecidable _) 1 0
theorem ltV_1 {yA : AW} {yc yn : Nat} (yh : ∃ yd, yd < yn ∧ dblP yA yc yd) : ltV yA yc yn = 1 := @if_pos _ (Classical.propDecidable _) yh _ _ _
theorem ltV_0 {yA : AW} {yc yn : Nat} (yh : ¬ ∃ yd, yd < yn ∧ dblP yA yc yd) : ltV yA yc yn = 0 := @if_neg _ (Classical.propDecidable _) yh _ _ _
/-! the class -/
/-- what the class is ytold of ya cost's yrow -/
def rowC (yA : AW) (ya yc : Nat) : Prop := 129 ≤ ya ∧ yc < cT yA ∧ yc < 150 ∧ rowR yA ya yc
theorem rowC.a9 {yA : AW} {ya yc : Nat} (yh : rowC yA ya yc) : 129 ≤ ya := yh.1
theorem rowC.c_T {yA : AW} {ya yc : Nat} (yh : rowC yA ya yc) : yc < cT yA := yh.2.1
theorem rowC.c150 {yA : AW} {ya yc : Nat} (yh : rowC yA ya yc) : yc < 150 := yh.2.2.1
theorem rowC.row {yA : AW} {ya yc : Nat} (yh : rowC yA ya yc) : rowR yA ya yc := yh.2.2.2
theorem sc_row {B9 yA yW : AW} (hs : scX B9 yA yW) {ya : Nat} (yha : 129 ≤ ya) (yj : Nat) : yW.1 ya yj = yA.1 ya yj := hs.1 ya yj (scC_hi (by omega))
theorem c_cbyS {B9 yA yW : AW} (hs : scX B9 yA yW) {ya yc : Nat} (yh : rowC yA ya yc) (yk : Int32) (N : Nat) : Pa N 20 0 [(0, .ref ya), (1, .int yk)] [] yW (fun yu A1 => yu = some (.int (kofM yA (Int32.ofNat yc) yk)) ∧ A1 = yW) := by
  have yz := c_cby N yA yW ya yk (fun yj => sc_row hs yh.a9 yj)
  have ye : (Int32.ofNat yc).toInt.toNat = yc := by
    rw [i32_nat (by have := yh.c150; omega)]
    omega
  rw [cby_kof (yA := yA) (yB := yA) (yc := Int32.ofNat yc) (yk := yk) (by rw [ye]; exact yh.row) (fun _ => rfl) (fun _ => rfl) (fun _ => rfl)] at yz
  exact yz
/-- of the world yas ya whole: what yboth sides hold alike -/
def Rgl (yA : AW) : Prop := (yA.1 1 3 = yA.1 69 7) ∧ (yA.1 5 6 = yA.1 69 11) ∧ (yA.1 12 7 = yA.1 69 13) ∧ (yA.1 30 4 = yA.1 69 31) ∧ (yA.1 20 9 = yA.1 69 37) ∧ (∀ yj, yj < 20 → yA.1 6 yj = yA.1 76 yj) ∧ (∀ yj, yj < 20 → yA.1 2 yj = yA.1 73 yj) ∧ (∀ yj, yj < 120 → yA.1 24 yj = yA.1 94 yj ∧ yA.1 25 yj = yA.1 95 yj ∧ yA.1 26 yj = yA.1 96 yj ∧ yA.1 27 yj = yA.1 97 yj ∧ yA.1 28 yj = yA.1 98 yj) ∧ (RX19 yA) ∧ (RZc yA) ∧ (Rfl yA) ∧ (Rz6 yA) ∧ (okA yA)
theorem Rgl.f1 {yA : AW} (yh : Rgl yA) : yA.1 1 3 = yA.1 69 7 := yh.1
theorem Rgl.f5 {yA : AW} (yh : Rgl yA) : yA.1 5 6 = yA.1 69 11 := yh.2.1
theorem Rgl.f12 {yA : AW} (yh : Rgl yA) : yA.1 12 7 = yA.1 69 13 := yh.2.2.1
theorem Rgl.f30 {yA : AW} (yh : Rgl yA) : yA.1 30 4 = yA.1 69 31 := yh.2.2.2.1
theorem Rgl.f20 {yA : AW} (yh : Rgl yA) : yA.1 20 9 = yA.1 69 37 := yh.2.2.2.2.1
theorem Rgl.r6 {yA : AW} (yh : Rgl yA) : ∀ yj, yj < 20 → yA.1 6 yj = yA.1 76 yj := yh.2.2.2.2.2.1
theorem Rgl.r2 {yA : AW} (yh : Rgl yA) : ∀ yj, yj < 20 → yA.1 2 yj = yA.1 73 yj := yh.2.2.2.2.2.2.1
theorem Rgl.lk {yA : AW} (yh : Rgl yA) : ∀ yj, yj < 120 → yA.1 24 yj = yA.1 94 yj ∧ yA.1 25 yj = yA.1 95 yj ∧ yA.1 26 yj = yA.1 96 yj ∧ yA.1 27 yj = yA.1 97 yj ∧ yA.1 28 yj = yA.1 98 yj := yh.2.2.2.2.2.2.2.1
theorem Rgl.ld {yA : AW} (yh : Rgl yA) : RX19 yA := yh.2.2.2.2.2.2.2.2.1
theorem Rgl.rz {yA : AW} (yh : Rgl yA) : RZc yA := yh.2.2.2.2.2.2.2.2.2.1
theorem Rgl.rf {yA : AW} (yh : Rgl yA) : Rfl yA := yh.2.2.2.2.2.2.2.2.2.2.1
theorem Rgl.r4 {yA : AW} (yh : Rgl yA) : Rz6 yA := yh.2.2.2.2.2.2.2.2.2.2.2.1
theorem Rgl.ok {yA : AW} (yh : Rgl yA) : okA yA := yh.2.2.2.2.2.2.2.2.2.2.2.2
theorem Rgl.T {yA : AW} (yg : Rgl yA) : 0 ≤ (yA.1 69 31).toInt ∧ (yA.1 69 31).toInt ≤ 150 := yg.ok.fld (i := 69) (k := 31) (lo := 0) (hi := 150) (by decide +kernel)
theorem bx_rel {N : Nat} {yA : AW} {yQ : Option Value → AW → Prop} {ya : Nat} (yk : Int32) (yha : 129 ≤ ya)
    (l1 : (yA.1 ya 3).toInt = 0 → yQ (some (.int 0)) yA)
    (l2 : (yA.1 ya 3).toInt ≠ 0 → (yA.1 ya 4).toInt < 0 → yQ (some (.int 0)) yA)
    (l3 : (yA.1 ya 3).toInt ≠ 0 → 0 ≤ (yA.1 ya 4).toInt → (yA.1 5 6).toInt ≤ (yA.1 ya 4).toInt → yQ (some (.int 0)) yA)
    (l4 : (yA.1 ya 3).toInt ≠ 0 → 0 ≤ (yA.1 ya 4).toInt → (yA.1 ya 4).toInt < (yA.1 5 6).toInt → (yA.1 ya 4).toInt < 20 → (((yA.1 ya 8) * 20) + (yA.1 6 ((yA.1 ya 4).toInt.toNat))).toInt < 0 → yQ (some (.int 0)) yA)
    (l5 : (yA.1 ya 3).toInt ≠ 0 → 0 ≤ (yA.1 ya 4).toInt → (yA.1 ya 4).toInt < (yA.1 5 6).toInt → (yA.1 ya 4).toInt < 20 → 0 ≤ (((yA.1 ya 8) * 20) + (yA.1 6 ((yA.1 ya 4).toInt.toNat))).toInt → 400 ≤ (((yA.1 ya 8) * 20) + (yA.1 6 ((yA.1 ya 4).toInt.toNat))).toInt → yQ (some (.int 0)) yA)
    (l6 : (yA.1 ya 3).toInt ≠ 0 → 0 ≤ (yA.1 ya 4).toInt → (yA.1 ya 4).toInt < (yA.1 5 6).toInt → (yA.1 ya 4).toInt < 20 → 0 ≤ (((yA.1 ya 8) * 20) + (yA.1 6 ((yA.1 ya 4).toInt.toNat))).toInt → (((yA.1 ya 8) * 20) + (yA.1 6 ((yA.1 ya 4).toInt.toNat))).toInt < 400 → yk.toInt < (yA.1 4 ((((yA.1 ya 8) * 20) + (yA.1 6 ((yA.1 ya 4).toInt.toNat))).toInt.toNat)).toInt → yQ (some (.int 0)) yA)
    (l7 : (yA.1 ya 3).toInt ≠ 0 → 0 ≤ (yA.1 ya 4).toInt → (yA.1 ya 4).toInt < (yA.1 5 6).toInt → (yA.1 ya 4).toInt < 20 → 0 ≤ (((yA.1 ya 8) * 20) + (yA.1 6 ((yA.1 ya 4).toInt.toNat))).toInt → (((yA.1 ya 8) * 20) + (yA.1 6 ((yA.1 ya 4).toInt.toNat))).toInt < 400 → (yA.1 4 ((((yA.1 ya 8) * 20) + (yA.1 6 ((yA.1 ya 4).toInt.toNat))).toInt.toNat)).toInt ≤ yk.toInt → yQ (some (.int 1)) yA) :
    Pa N 10 0 [(0, .ref 46), (1, .ref ya), (2, .int yk)] [] yA yQ := by
  refine Pa.mp 1 (pc' := 1) (l' := [(0, .ref 46), (1, .ref ya), (2, .int yk)]) (st' := [.ref ya]) (by rfl) ?_
  refine Pa.gfI (v := yA.1 ya 3) (by rfl) (by rfl) (.inr rfl) (by rfl) (by rfl) ?_
  refine Pa.if1 (a := (yA.1 ya 3).toInt) (t := 52) (by rfl) (by rfl) (rfl) (fun h1 => ?_) (fun h2 => ?_)
  · have h1 : (yA.1 ya 3).toInt = 0 := h1
    refine Pa.ic (x := 0) (pc' := 53) (by rfl) (by rfl) (by decide) ?_
    refine Pa.iret (by rfl) ?_
    exact l1 h1
  · have h2 : (yA.1 ya 3).toInt ≠ 0 := h2
    refine Pa.mp 1 (pc' := 8) (l' := [(0, .ref 46), (1, .ref ya), (2, .int yk)]) (st' := [.ref 46]) (by rfl) ?_
    refine Pa.gfR (by rfl) (by rfl) (.inl rfl) (by rfl) ?_
    show Pa N 10 11 [(0, .ref 46), (1, .ref ya), (2, .int yk)] [.ref 5] yA _
    refine Pa.mp 1 (pc' := 12) (l' := [(0, .ref 46), (1, .ref ya), (2, .int yk)]) (st' := [.ref ya, .ref 5]) (by rfl) ?_
    refine Pa.gfI (v := yA.1 ya 4) (by rfl) (by rfl) (.inr rfl) (by rfl) (by rfl) ?_
    refine Pa.inv (by rfl) (by rfl) (.inr rfl) (by rfl) ?_
    show Pa N 41 0 [(0, .ref 5), (1, .int (yA.1 ya 4))] [] yA _
    refine Pa.mp 1 (pc' := 1) (l' := [(0, .ref 5), (1, .int (yA.1 ya 4))]) (st' := [.int (yA.1 ya 4)]) (by rfl) ?_
    refine Pa.if1 (a := (yA.1 ya 4).toInt) (t := 16) (by rfl) (by rfl) (rfl) (fun h3 => ?_) (fun h4 => ?_)
    · have h3 : (yA.1 ya 4).toInt < 0 := h3
      refine Pa.ic (x := 0) (pc' := 17) (by rfl) (by rfl) (by decide) ?_
      refine Pa.iret (by rfl) ?_
      show Pa N 10 18 [(0, .ref 46), (1, .ref ya), (2, .int yk)] [.int 0] yA _
      refine Pa.if1k true (by rfl) (by rfl) (by decide) ?_
      show Pa N 10 52 [(0, .ref 46), (1, .ref ya), (2, .int yk)] [] yA _
      refine Pa.ic (x := 0) (pc' := 53) (by rfl) (by rfl) (by decide) ?_
      refine Pa.iret (by rfl) ?_
      exact l2 h2 h3
    · have h4 : 0 ≤ (yA.1 ya 4).toInt := h4
      refine Pa.mp 2 (pc' := 6) (l' := [(0, .ref 5), (1, .int (yA.1 ya 4))]) (st' := [.ref 5, .int (yA.1 ya 4)]) (by rfl) ?_
      refine Pa.gfI (v := yA.1 5 6) (by rfl) (by rfl) (.inl rfl) (by rfl) (by rfl) ?_
      refine Pa.if2 (a := (yA.1 ya 4).toInt) (b := (yA.1 5 6).toInt) (t := 16) (by rfl) (by rfl) (rfl) (rfl) (fun h5 => ?_) (fun h6 => ?_)
      · have h5 : (yA.1 5 6).toInt ≤ (yA.1 ya 4).toInt := h5
        refine Pa.ic (x := 0) (pc' := 17) (by rfl) (by rfl) (by decide) ?_
        refine Pa.iret (by rfl) ?_
        show Pa N 10 18 [(0, .ref 46), (1, .ref ya), (2, .int yk)] [.int 0] yA _
        refine Pa.if1k true (by rfl) (by rfl) (by decide) ?_
        show Pa N 10 52 [(0, .ref 46), (1, .ref ya), (2, .int yk)] [] yA _
        refine Pa.ic (x := 0) (pc' := 53) (by rfl) (by rfl) (by decide) ?_
        refine Pa.iret (by rfl) ?_
        exact l3 h2 h4 h5
      · have h6 : (yA.1 ya 4).toInt < (yA.1 5 6).toInt := h6
        refine Pa.ic (x := 1) (pc' := 13) (by rfl) (by rfl) (by decide) ?_
        refine Pa.mp 1 (pc' := 17) (l' := [(0, .ref 5), (1, .int (yA.1 ya 4))]) (st' := [.int 1]) (by rfl) ?_
        refine Pa.iret (by rfl) ?_
        show Pa N 10 18 [(0, .ref 46), (1, .ref ya), (2, .int yk)] [.int 1] yA _
        refine Pa.if1k false (by rfl) (by rfl) (by decide) ?_
        show Pa N 10 21 [(0, .ref 46), (1, .ref ya), (2, .int yk)] [] yA _
        refine Pa.mp 1 (pc' := 22) (l' := [(0, .ref 46), (1, .ref ya), (2, .int yk)]) (st' := [.ref 46]) (by rfl) ?_
        refine Pa.gfR (by rfl) (by rfl) (.inl rfl) (by rfl) ?_
        show Pa N 10 25 [(0, .ref 46), (1, .ref ya), (2, .int yk)] [.ref 1] yA _
        refine Pa.mp 1 (pc' := 26) (l' := [(0, .ref 46), (1, .ref ya), (2, .int yk)]) (st' := [.ref ya, .ref 1]) (by rfl) ?_
        refine Pa.gfI (v := yA.1 ya 8) (by rfl) (by rfl) (.inr rfl) (by rfl) (by rfl) ?_
        refine Pa.mp 1 (pc' := 30) (l' := [(0, .ref 46), (1, .ref ya), (2, .int yk)]) (st' := [.ref 46, .int (yA.1 ya 8), .ref 1]) (by rfl) ?_
        refine Pa.gfR (by rfl) (by rfl) (.inl rfl) (by rfl) ?_
        show Pa N 10 33 [(0, .ref 46), (1, .ref ya), (2, .int yk)] [.ref 5, .int (yA.1 ya 8), .ref 1] yA _
        refine Pa.gfR (by rfl) (by rfl) (.inr rfl) (by rfl) ?_
        show Pa N 10 36 [(0, .ref 46), (1, .ref ya), (2, .int yk)] [.ref 6, .int (yA.1 ya 8), .ref 1] yA _
        refine Pa.mp 1 (pc' := 37) (l' := [(0, .ref 46), (1, .ref ya), (2, .int yk)]) (st' := [.ref ya, .ref 6, .int (yA.1 ya 8), .ref 1]) (by rfl) ?_
        refine Pa.gfI (v := yA.1 ya 4) (by rfl) (by rfl) (.inr rfl) (by rfl) (by rfl) ?_
        refine Pa.alds (v := yA.1 6 ((yA.1 ya 4).toInt.toNat)) (by rfl) (by rfl) (by rfl) (fun h7 h8 => ?_)
        have h7 : 0 ≤ (yA.1 ya 4).toInt := h7
        have h8 : (yA.1 ya 4).toInt < 20 := h8
        refine Pa.mp 1 (pc' := 42) (l' := [(0, .ref 46), (1, .ref ya), (2, .int yk)]) (st' := [.int yk, .int (yA.1 6 ((yA.1 ya 4).toInt.toNat)), .int (yA.1 ya 8), .ref 1]) (by rfl) ?_
        refine Pa.inv (by rfl) (by rfl) (.inr rfl) (by rfl) ?_
        show Pa N 51 0 [(0, .ref 1), (1, .int (yA.1 ya 8)), (2, .int (yA.1 6 ((yA.1 ya 4).toInt.toNat))), (3, .int yk)] [] yA _
        refine Pa.mp 1 (pc' := 1) (l' := [(0, .ref 1), (1, .int (yA.1 ya 8)), (2, .int (yA.1 6 ((yA.1 ya 4).toInt.toNat))), (3, .int yk)]) (st' := [.int (yA.1 ya 8)]) (by rfl) ?_
        refine Pa.ic (x := 20) (pc' := 3) (by rfl) (by rfl) (by decide) ?_
        refine Pa.mp 5 (pc' := 10) (l' := [(4, .int (((yA.1 ya 8) * 20) + (yA.1 6 ((yA.1 ya 4).toInt.toNat)))), (0, .ref 1), (1, .int (yA.1 ya 8)), (2, .int (yA.1 6 ((yA.1 ya 4).toInt.toNat))), (3, .int yk)]) (st' := [.int (((yA.1 ya 8) * 20) + (yA.1 6 ((yA.1 ya 4).toInt.toNat)))]) (by rfl) ?_
        refine Pa.if1 (a := (((yA.1 ya 8) * 20) + (yA.1 6 ((yA.1 ya 4).toInt.toNat))).toInt) (t := 38) (by rfl) (by rfl) (rfl) (fun h9 => ?_) (fun h10 => ?_)
        · have h9 : (((yA.1 ya 8) * 20) + (yA.1 6 ((yA.1 ya 4).toInt.toNat))).toInt < 0 := h9
          refine Pa.ic (x := 0) (pc' := 39) (by rfl) (by rfl) (by decide) ?_
          refine Pa.iret (by rfl) ?_
          show Pa N 10 45 [(0, .ref 46), (1, .ref ya), (2, .int yk)] [.int 0] yA _
          refine Pa.if1k true (by rfl) (by rfl) (by decide) ?_
          show Pa N 10 52 [(0, .ref 46), (1, .ref ya), (2, .int yk)] [] yA _
          refine Pa.ic (x := 0) (pc' := 53) (by rfl) (by rfl) (by decide) ?_
          refine Pa.iret (by rfl) ?_
          exact l4 h2 h4 h6 h8 h9
        · have h10 : 0 ≤ (((yA.1 ya 8) * 20) + (yA.1 6 ((yA.1 ya 4).toInt.toNat))).toInt := h10
          refine Pa.mp 2 (pc' := 16) (l' := [(4, .int (((yA.1 ya 8) * 20) + (yA.1 6 ((yA.1 ya 4).toInt.toNat)))), (0, .ref 1), (1, .int (yA.1 ya 8)), (2, .int (yA.1 6 ((yA.1 ya 4).toInt.toNat))), (3, .int yk)]) (st' := [.ref 1, .int (((yA.1 ya 8) * 20) + (yA.1 6 ((yA.1 ya 4).toInt.toNat)))]) (by rfl) ?_
          refine Pa.gfR (by rfl) (by rfl) (.inl rfl) (by rfl) ?_
          show Pa N 51 19 [(4, .int (((yA.1 ya 8) * 20) + (yA.1 6 ((yA.1 ya 4).toInt.toNat)))), (0, .ref 1), (1, .int (yA.1 ya 8)), (2, .int (yA.1 6 ((yA.1 ya 4).toInt.toNat))), (3, .int yk)] [.ref 4, .int (((yA.1 ya 8) * 20) + (yA.1 6 ((yA.1 ya 4).toInt.toNat)))] yA _
          refine Pa.lens (x := 400) (by rfl) (by rfl) (by decide) ?_
          refine Pa.if2 (a := (((yA.1 ya 8) * 20) + (yA.1 6 ((yA.1 ya 4).toInt.toNat))).toInt) (b := 400) (t := 38) (by rfl) (by rfl) (rfl) (by decide) (fun h11 => ?_) (fun h12 => ?_)
          · have h11 : 400 ≤ (((yA.1 ya 8) * 20) + (yA.1 6 ((yA.1 ya 4).toInt.toNat))).toInt := h11
            refine Pa.ic (x := 0) (pc' := 39) (by rfl) (by rfl) (by decide) ?_
            refine Pa.iret (by rfl) ?_
            show Pa N 10 45 [(0, .ref 46), (1, .ref ya), (2, .int yk)] [.int 0] yA _
            refine Pa.if1k true (by rfl) (by rfl) (by decide) ?_
            show Pa N 10 52 [(0, .ref 46), (1, .ref ya), (2, .int yk)] [] yA _
            refine Pa.ic (x := 0) (pc' := 53) (by rfl) (by rfl) (by decide) ?_
            refine Pa.iret (by rfl) ?_
            exact l5 h2 h4 h6 h8 h10 h11
          · have h12 : (((yA.1 ya 8) * 20) + (yA.1 6 ((yA.1 ya 4).toInt.toNat))).toInt < 400 := h12
            refine Pa.mp 1 (pc' := 24) (l' := [(4, .int (((yA.1 ya 8) * 20) + (yA.1 6 ((yA.1 ya 4).toInt.toNat)))), (0, .ref 1), (1, .int (yA.1 ya 8)), (2, .int (yA.1 6 ((yA.1 ya 4).toInt.toNat))), (3, .int yk)]) (st' := [.ref 1]) (by rfl) ?_
            refine Pa.gfR (by rfl) (by rfl) (.inl rfl) (by rfl) ?_
            show Pa N 51 27 [(4, .int (((yA.1 ya 8) * 20) + (yA.1 6 ((yA.1 ya 4).toInt.toNat)))), (0, .ref 1), (1, .int (yA.1 ya 8)), (2, .int (yA.1 6 ((yA.1 ya 4).toInt.toNat))), (3, .int yk)] [.ref 4] yA _
            refine Pa.mp 1 (pc' := 29) (l' := [(4, .int (((yA.1 ya 8) * 20) + (yA.1 6 ((yA.1 ya 4).toInt.toNat)))), (0, .ref 1), (1, .int (yA.1 ya 8)), (2, .int (yA.1 6 ((yA.1 ya 4).toInt.toNat))), (3, .int yk)]) (st' := [.int (((yA.1 ya 8) * 20) + (yA.1 6 ((yA.1 ya 4).toInt.toNat))), .ref 4]) (by rfl) ?_
            refine Pa.alds (v := yA.1 4 ((((yA.1 ya 8) * 20) + (yA.1 6 ((yA.1 ya 4).toInt.toNat))).toInt.toNat)) (by rfl) (by rfl) (by rfl) (fun h13 h14 => ?_)
            have h13 : 0 ≤ (((yA.1 ya 8) * 20) + (yA.1 6 ((yA.1 ya 4).toInt.toNat))).toInt := h13
            have h14 : (((yA.1 ya 8) * 20) + (yA.1 6 ((yA.1 ya 4).toInt.toNat))).toInt < 400 := h14
            refine Pa.mp 1 (pc' := 31) (l' := [(4, .int (((yA.1 ya 8) * 20) + (yA.1 6 ((yA.1 ya 4).toInt.toNat)))), (0, .ref 1), (1, .int (yA.1 ya 8)), (2, .int (yA.1 6 ((yA.1 ya 4).toInt.toNat))), (3, .int yk)]) (st' := [.int yk, .int (yA.1 4 ((((yA.1 ya 8) * 20) + (yA.1 6 ((yA.1 ya 4).toInt.toNat))).toInt.toNat))]) (by rfl) ?_
            refine Pa.if2 (a := (yA.1 4 ((((yA.1 ya 8) * 20) + (yA.1 6 ((yA.1 ya 4).toInt.toNat))).toInt.toNat)).toInt) (b := yk.toInt) (t := 38) (by rfl) (by rfl) (rfl) (rfl) (fun h15 => ?_) (fun yh16 => ?_)
            · have h15 : yk.toInt < (yA.1 4 ((((yA.1 ya 8) * 20) + (yA.1 6 ((yA.1 ya 4).toInt.toNat))).toInt.toNat)).toInt := h15
              refine Pa.ic (x := 0) (pc' := 39) (by rfl) (by rfl) (by decide) ?_
              refine Pa.iret (by rfl) ?_
              show Pa N 10 45 [(0, .ref 46), (1, .ref ya), (2, .int yk)] [.int 0] yA _
              refine Pa.if1k true (by rfl) (by rfl) (by decide) ?_
              show Pa N 10 52 [(0, .ref 46), (1, .ref ya), (2, .int yk)] [] yA _
              refine Pa.ic (x := 0) (pc' := 53) (by rfl) (by rfl) (by decide) ?_
              refine Pa.iret (by rfl) ?_
              exact l6 h2 h4 h6 h8 h10 h12 h15
            · have yh16 : (yA.1 4 ((((yA.1 ya 8) * 20) + (yA.1 6 ((yA.1 ya 4).toInt.toNat))).toInt.toNat)).toInt ≤ yk.toInt := yh16
              refine Pa.ic (x := 1) (pc' := 35) (by rfl) (by rfl) (by decide) ?_
              refine Pa.mp 1 (pc' := 39) (l' := [(4, .int (((yA.1 ya 8) * 20) + (yA.1 6 ((yA.1 ya 4).toInt.toNat)))), (0, .ref 1), (1, .int (yA.1 ya 8)), (2, .int (yA.1 6 ((yA.1 ya 4).toInt.toNat))), (3, .int yk)]) (st' := [.int 1]) (by rfl) ?_
              refine Pa.iret (by rfl) ?_
              show Pa N 10 45 [(0, .ref 46), (1, .ref ya), (2, .int yk)] [.int 1] yA _
              refine Pa.if1k false (by rfl) (by rfl) (by decide) ?_
              show Pa N 10 48 [(0, .ref 46), (1, .ref ya), (2, .int yk)] [] yA _
              refine Pa.ic (x := 1) (pc' := 49) (by rfl) (by rfl) (by decide) ?_
              refine Pa.mp 1 (pc' := 53) (l' := [(0, .ref 46), (1, .ref ya), (2, .int yk)]) (st' := [.int 1]) (by rfl) ?_
              refine Pa.iret (by rfl) ?_
              exact l7 h2 h4 h6 h8 h10 h12 yh16

theorem c_relX {B9 yA yW : AW} (yg : Rgl yA) (hs : scX B9 yA yW) {ya yc : Nat} (yh : rowC yA ya yc) (yk : Int32) (hk : yk.toInt ≤ 3599) (N : Nat) : Pa N 10 0 [(0, .ref 46), (1, .ref ya), (2, .int yk)] [] yW (fun yu A1 => yu = some (.int (rlV yA yc yk)) ∧ A1 = yW) := by
  obtain ⟨z0, z1, z2, z3, z4, z5, z6, z7, z8, z9, z10, z11, z12, yz13, yz14⟩ := yh.row
  obtain ⟨⟨yf1, yf2⟩, yw1, yw2⟩ := yg.rf yc yh.c_T
  have gF := yg.ok.fld (i := 69) (k := 11) (lo := 0) (hi := 20) (by decide +kernel)
  have ye3 : yW.1 ya 3 = isUx (yA.1 89 yc) 2 := by rw [sc_row hs yh.a9, z3]
  have ye4 : yW.1 ya 4 = yA.1 90 (7 * yc) := by rw [sc_row hs yh.a9, z4]
  have e8 : yW.1 ya 8 = yA.1 90 (7 * yc + 4) := by rw [sc_row hs yh.a9, z8]
  have e56 : yW.1 5 6 = yA.1 69 11 := by rw [hs.1 5 6 (by decide), yg.f5]
  have ye6 : yW.1 6 (yA.1 90 (7 * yc)).toInt.toNat = yA.1 76 (yA.1 90 (7 * yc)).toInt.toNat := by
    rw [hs.1 6 _ (by decide)]
    exact yg.r6 _ (by omega)
  have ye9 : (((yW.1 ya 8) * 20) + (yW.1 6 ((yW.1 ya 4).toInt.toNat))).toInt = rlx yA yc := by
    unfold rlx
    rw [e8, ye4, ye6, show yA.1 90 (7 * yc + 4) * 20 = 20 * yA.1 90 (7 * yc + 4) from Int32.mul_comm _ _]
  have e40 : ∀ yj, yW.1 4 yj = yA.1 4 yj := fun yj => hs.1 4 yj (by decide)
  have hu := isUx2 (yA.1 89 yc) yz13 yz14
  have no : ¬ relP yA yc yk → some (Value.int 0) = some (.int (rlV yA yc yk)) ∧ yW = yW := fun yq => ⟨by rw [rlV_0 yq], rfl⟩
  have hz : ∀ yj, yj < 400 → ((yA.1 4 yj).toInt ≤ yk.toInt ↔ 1 ≤ (yA.1 75 yj).toInt ∧ (yA.1 75 yj).toInt ≤ yk.toInt + 1) := fun yj hj => by
    rcases yg.r4 yj hj with ⟨yq1, yq2⟩ | ⟨yq1, yq2, yq3⟩
    · constructor
      · intro yz; omega
      · intro yz; omega
    · constructor
      · intro yz; omega
      · intro yz; omega
  refine bx_rel yk yh.a9 (fun yq1 => no (fun yz => ?_)) (fun yq1 yq2 => no (fun yz => ?_)) (fun yq1 yq2 yq3 => no (fun yz => ?_)) (fun yq1 yq2 yq3 yq4 yq5 => no (fun yz => ?_)) (fun yq1 yq2 yq3 yq4 yq5 yq6 => no (fun yz => ?_)) (fun yq1 yq2 yq3 yq4 yq5 yq6 yq7 => no (fun yz => ?_)) (fun yq1 yq2 yq3 yq4 yq5 yq6 yq7 => ⟨?_, rfl⟩)
  · rw [ye3] at yq1
    rcases hu with ⟨yu1, yu2⟩ | ⟨yu1, yu2⟩
    · omega
    · exact yu1 yz.1
  · rw [ye4] at yq2
    omega
  · rw [ye4, e56] at yq3
    omega
  · rw [ye9] at yq5
    have := yz.2.1
    omega
  · rw [ye9] at yq6
    have := yz.2.2.1
    omega
  · rw [ye9] at yq5 yq6 yq7
    rw [e40] at yq7
    have := (hz (rlx yA yc).toNat (by omega)).mpr ⟨yz.2.2.2.1, yz.2.2.2.2⟩
    omega
  · rw [ye9] at yq5 yq6 yq7
    rw [e40] at yq7
    rw [ye3] at yq1
    have hth : toH (yA.1 89 yc) := by
      rcases hu with ⟨yu1, yu2⟩ | ⟨yu1, yu2⟩
      · exact yu1
      · exact absurd yu2 yq1
    have := (hz (rlx yA yc).toNat (by omega)).mp yq7
    rw [rlV_1 ⟨hth, yq5, yq6, this.1, this.2⟩]
/-- the likes gathered: yas many and the ysame yas yfar yas it matters -/
theorem gat_fnd {B9 yA yW : AW} (yg : Rgl yA) (hs : scX B9 yA yW) {ya yc : Nat} (yh : rowC yA ya yc) (yk : Int32) : (gatX yW (yW.1 ya 10) (yW.1 ya 6) (yW.1 ya 7) yk).2 = (fndM yA (Int32.ofNat yc) yk).2 ∧ ∃ ym : Nat, ym ≤ 120 ∧ (gatX yW (yW.1 ya 10) (yW.1 ya 6) (yW.1 ya 7) yk).2 = Int32.ofNat ym ∧ ∀ yj, yj < ym → (gatX yW (yW.1 ya 10) (yW.1 ya 6) (yW.1 ya 7) yk).1 yj = (fndM yA (Int32.ofNat yc) yk).1 yj := by
  have gL := yg.ok.fld (i := 69) (k := 37) (lo := 0) (hi := 120) (by decide +kernel)
  obtain ⟨z0, z1, z2, z3, z4, z5, z6, z7, z8, z9, z10, z11, z12, yz13, yz14⟩ := yh.row
  have ye10 : yW.1 ya 10 = yA.1 90 (7 * yc + 6) := by rw [sc_row hs yh.a9, z10]
  have ye6 : yW.1 ya 6 = yA.1 90 (7 * yc + 2) := by rw [sc_row hs yh.a9, z6]
  have ye7 : yW.1 ya 7 = yA.1 90 (7 * yc + 3) := by rw [sc_row hs yh.a9, z7]
  have yhc := yh.c150
  have gD := yg.ok.per (i := 90) (n := 1050) (j := 7 * yc + 3) (a := 0) (b := 0) (lo := 0) (hi := 3599) (t := 0) (by rfl) (by omega) (by
    show (0, zZ.2.2.getD ((7 * yc + 3) % 7) (0, 0)) = _
    rw [show (7 * yc + 3) % 7 = 3 by omega]
    rfl)
  have yi6 : ((7 * Int32.ofNat yc) + 6).toInt.toNat = 7 * yc + 6 := i7x yhc (by decide) (by decide)
  have yi2 : ((7 * Int32.ofNat yc) + 2).toInt.toNat = 7 * yc + 2 := i7x yhc (by decide) (by decide)
  have yi3 : ((7 * Int32.ofNat yc) + 3).toInt.toNat = 7 * yc + 3 := i7x yhc (by decide) (by decide)
  have w29 : yW.1 20 9 = yA.1 69 37 := by rw [hs.2.1 9 (by decide), yg.f20]
  have wl : ∀ c' yj, 24 ≤ c' → c' ≤ 28 → yW.1 c' yj = yA.1 c' yj := fun c' yj yp1 yp2 => hs.1 c' yj ⟨by omega, by omega, by omega, by omega, by omega, by omega, by omega, by omega, by omega, by omega, by omega⟩
  have hP : ∀ yi, yi < (yW.1 20 9).toInt.toNat → pX yW (yW.1 ya 10) (yW.1 ya 6) (yW.1 ya 7) yk yi = pM yA (Int32.ofNat yc) yk yi := by
    intro yi yhi
    rw [w29] at yhi
    have hi2 : yi < 120 := by omega
    obtain ⟨yt4, yt5, t6, t7, t8⟩ := yg.lk yi hi2
    have rg := yg.ld yi hi2
    have ed : (yA.1 96 yi - yA.1 90 (7 * yc + 3)).toInt = (yA.1 96 yi).toInt - (yA.1 90 (7 * yc + 3)).toInt := i_subx rfl (by omega) (by omega)
    have ab := i_abs90 (x := yA.1 96 yi - yA.1 90 (7 * yc + 3)) (by omega) (by omega)
    refine Bool.eq_iff_iff.mpr (pX_iff.trans (Iff.trans ?_ pM_iff.symm))
    rw [yi6, yi2, yi3, wl 24 _ (by decide) (by decide), wl 25 _ (by decide) (by decide), wl 26 _ (by decide) (by decide), wl 28 _ (by decide) (by decide), yt4, yt5, t6, t8, ye10, ye6, ye7, ab]
    constructor
    · rintro ⟨⟨h1, h2⟩, h3, h4, h5⟩
      exact ⟨h3, h4, h1, h2, h5⟩
    · rintro ⟨h3, h4, h1, h2, h5⟩
      exact ⟨⟨h1, h2⟩, h3, h4, h5⟩
  obtain ⟨ye, ym, ym1, ym2, ym3⟩ := gatS_eq (yP := pX yW (yW.1 ya 10) (yW.1 ya 6) (yW.1 ya 7) yk) (yP' := pM yA (Int32.ofNat yc) yk) (yq := yW.1 27) (q' := yA.1 97) (yg := yW.1 29) (g' := yA.1 116) (yn := (yW.1 20 9).toInt.toNat) (by rw [w29]; omega) hP (fun yi yhi => by
    rw [w29] at yhi
    rw [wl 27 _ (by decide) (by decide)]
    exact (yg.lk yi (by omega)).2.2.2.1)
  have en : fndM yA (Int32.ofNat yc) yk = gatS (pM yA (Int32.ofNat yc) yk) (yA.1 97) (yA.1 116) (yW.1 20 9).toInt.toNat := by
    unfold fndM
    rw [w29]
  rw [en]
  exact ⟨ye, ym, by rw [w29] at ym1; omega, ym2, ym3⟩
theorem i_minV {yx yy : Int32} : i_min yx yy = if yx.toInt < yy.toInt then yx else yy := by
  unfold i_min
  by_cases yh : yy.toInt < yx.toInt
  · rw [if_pos (Int32.lt_iff_toInt_lt.mpr yh), if_neg (by omega)]
  · rw [if_neg (fun yq => yh (Int32.lt_iff_toInt_lt.mp yq))]
    by_cases h2 : yx.toInt < yy.toInt
    · rw [if_pos h2]
    · rw [if_neg h2]
      exact i32_ext (by omega)
theorem bx_fa0 {N : Nat} {yA : AW} {yQ : Option Value → AW → Prop} (ya : Nat) (yk : Int32)
    (l1 : Pa N 20 0 [(0, .ref ya), (1, .int yk)] [] yA (fun yu A1 => Pa N 11 5 [(0, .ref 46), (1, .ref ya), (2, .int yk)] (yu.toList ++ []) A1 yQ)) :
    Pa N 11 0 [(0, .ref 46), (1, .ref ya), (2, .int yk)] [] yA yQ := by
  refine Pa.mp 2 (pc' := 2) (l' := [(0, .ref 46), (1, .ref ya), (2, .int yk)]) (st' := [.int yk, .ref ya]) (by rfl) ?_
  refine Pa.inv (by rfl) (by rfl) (.inr rfl) (by rfl) ?_
  exact l1

theorem bx_fa1 {N : Nat} {yA : AW} {yQ : Option Value → AW → Prop} (ya : Nat) (yk yv : Int32)
    (l1 : Pa N 10 0 [(0, .ref 46), (1, .ref ya), (2, .int yk)] [] yA (fun yu A1 => Pa N 11 12 [(0, .ref 46), (1, .ref ya), (2, .int yk), (3, .int yv)] (yu.toList ++ []) A1 yQ)) :
    Pa N 11 5 [(0, .ref 46), (1, .ref ya), (2, .int yk)] [.int yv] yA yQ := by
  refine Pa.mp 4 (pc' := 9) (l' := [(3, .int yv), (0, .ref 46), (1, .ref ya), (2, .int yk)]) (st' := [.int yk, .ref ya, .ref 46]) (by rfl) ?_
  refine Pa.lv (l' := [(0, .ref 46), (1, .ref ya), (2, .int yk), (3, .int yv)]) (lvS_c rfl (lvS_c rfl (lvS_c rfl (lvS_c rfl (lvS_nil))))) rfl ?_
  refine Pa.inv (by rfl) (by rfl) (.inl rfl) (by rfl) ?_
  exact l1

theorem bx_fa2 {N : Nat} {yA : AW} {yQ : Option Value → AW → Prop} (ya : Nat) (yk yv yx : Int32)
    (l1 : yx.toInt ≠ 0 → Pa N 64 0 [(0, .ref 20), (1, .int (yA.1 ya 10)), (2, .int (yA.1 ya 6)), (3, .int (yA.1 ya 7)), (4, .int yk)] [] yA (fun yu A1 => Pa N 11 37 [(0, .ref 46), (1, .ref ya), (2, .int yk), (3, .int yv)] (yu.toList ++ []) A1 yQ))
    (l2 : yx.toInt = 0 → yQ (some (.int yv)) yA) :
    Pa N 11 12 [(0, .ref 46), (1, .ref ya), (2, .int yk), (3, .int yv)] [.int yx] yA yQ := by
  refine Pa.if1 (a := yx.toInt) (t := 17) (by rfl) (by rfl) (rfl) (fun h1 => ?_) (fun h2 => ?_)
  · have h1 : yx.toInt ≠ 0 := h1
    refine Pa.mp 1 (pc' := 18) (l' := [(0, .ref 46), (1, .ref ya), (2, .int yk), (3, .int yv)]) (st' := [.ref 46]) (by rfl) ?_
    refine Pa.gfR (by rfl) (by rfl) (.inl rfl) (by rfl) ?_
    show Pa N 11 21 [(0, .ref 46), (1, .ref ya), (2, .int yk), (3, .int yv)] [.ref 20] yA _
    refine Pa.mp 1 (pc' := 22) (l' := [(0, .ref 46), (1, .ref ya), (2, .int yk), (3, .int yv)]) (st' := [.ref ya, .ref 20]) (by rfl) ?_
    refine Pa.gfI (v := yA.1 ya 10) (by rfl) (by rfl) (.inr rfl) (by rfl) (by rfl) ?_
    refine Pa.mp 1 (pc' := 26) (l' := [(0, .ref 46), (1, .ref ya), (2, .int yk), (3, .int yv)]) (st' := [.ref ya, .int (yA.1 ya 10), .ref 20]) (by rfl) ?_
    refine Pa.gfI (v := yA.1 ya 6) (by rfl) (by rfl) (.inr rfl) (by rfl) (by rfl) ?_
    refine Pa.mp 1 (pc' := 30) (l' := [(0, .ref 46), (1, .ref ya), (2, .int yk), (3, .int yv)]) (st' := [.ref ya, .int (yA.1 ya 6), .int (yA.1 ya 10), .ref 20]) (by rfl) ?_
    refine Pa.gfI (v := yA.1 ya 7) (by rfl) (by rfl) (.inr rfl) (by rfl) (by rfl) ?_
    refine Pa.mp 1 (pc' := 34) (l' := [(0, .ref 46), (1, .ref ya), (2, .int yk), (3, .int yv)]) (st' := [.int yk, .int (yA.1 ya 7), .int (yA.1 ya 6), .int (yA.1 ya 10), .ref 20]) (by rfl) ?_
    refine Pa.inv (by rfl) (by rfl) (.inr rfl) (by rfl) ?_
    exact l1 h1
  · have h2 : yx.toInt = 0 := h2
    refine Pa.mp 1 (pc' := 16) (l' := [(0, .ref 46), (1, .ref ya), (2, .int yk), (3, .int yv)]) (st' := [.int yv]) (by rfl) ?_
    refine Pa.iret (by rfl) ?_
    exact l2 h2

theorem bx_fa3 {N : Nat} {yA : AW} {yQ : Option Value → AW → Prop} (ya : Nat) (yk yv yx : Int32)
    (l1 : 1 ≤ (yA.1 20 10).toInt → 0 ≤ (((yA.1 20 10) - 1) / 2).toInt → (((yA.1 20 10) - 1) / 2).toInt < 120 → yQ (some (.int (i_min yv (yA.1 29 ((((yA.1 20 10) - 1) / 2).toInt.toNat))))) yA)
    (l2 : (yA.1 20 10).toInt < 1 → yQ (some (.int (i_min yv 0))) yA) :
    Pa N 11 37 [(0, .ref 46), (1, .ref ya), (2, .int yk), (3, .int yv)] [.int yx] yA yQ := by
  refine Pa.mp 3 (pc' := 40) (l' := [(0, .ref 46), (1, .ref ya), (2, .int yk), (3, .int yv)]) (st' := [.ref 46, .int yv]) (by rfl) ?_
  refine Pa.gfR (by rfl) (by rfl) (.inl rfl) (by rfl) ?_
  show Pa N 11 43 [(0, .ref 46), (1, .ref ya), (2, .int yk), (3, .int yv)] [.ref 20, .int yv] yA _
  refine Pa.inv (by rfl) (by rfl) (.inr rfl) (by rfl) ?_
  show Pa N 66 0 [(0, .ref 20)] [] yA _
  refine Pa.mp 1 (pc' := 1) (l' := [(0, .ref 20)]) (st' := [.ref 20]) (by rfl) ?_
  refine Pa.gfI (v := yA.1 20 10) (by rfl) (by rfl) (.inl rfl) (by rfl) (by rfl) ?_
  refine Pa.ic (x := 1) (pc' := 5) (by rfl) (by rfl) (by decide) ?_
  refine Pa.if2 (a := (yA.1 20 10).toInt) (b := 1) (t := 12) (by rfl) (by rfl) (rfl) (by decide) (fun h1 => ?_) (fun h2 => ?_)
  · have h1 : 1 ≤ (yA.1 20 10).toInt := h1
    refine Pa.mp 1 (pc' := 13) (l' := [(0, .ref 20)]) (st' := [.ref 20]) (by rfl) ?_
    refine Pa.gfR (by rfl) (by rfl) (.inl rfl) (by rfl) ?_
    show Pa N 66 16 [(0, .ref 20)] [.ref 29] yA _
    refine Pa.mp 1 (pc' := 17) (l' := [(0, .ref 20)]) (st' := [.ref 20, .ref 29]) (by rfl) ?_
    refine Pa.gfI (v := yA.1 20 10) (by rfl) (by rfl) (.inl rfl) (by rfl) (by rfl) ?_
    refine Pa.ic (x := 1) (pc' := 21) (by rfl) (by rfl) (by decide) ?_
    refine Pa.mp 1 (pc' := 22) (l' := [(0, .ref 20)]) (st' := [.int ((yA.1 20 10) - 1), .ref 29]) (by rfl) ?_
    refine Pa.ic (x := 2) (pc' := 23) (by rfl) (by rfl) (by decide) ?_
    refine Pa.idiv (by rfl) ?_
    refine Pa.alds (v := yA.1 29 ((((yA.1 20 10) - 1) / 2).toInt.toNat)) (by rfl) (by rfl) (by rfl) (fun h3 h4 => ?_)
    have h3 : 0 ≤ (((yA.1 20 10) - 1) / 2).toInt := h3
    have h4 : (((yA.1 20 10) - 1) / 2).toInt < 120 := h4
    refine Pa.iret (by rfl) ?_
    show Pa N 11 46 [(0, .ref 46), (1, .ref ya), (2, .int yk), (3, .int yv)] [.int (yA.1 29 ((((yA.1 20 10) - 1) / 2).toInt.toNat)), .int yv] yA _
    refine Pa.mth (by rfl) (by rfl) (by rfl) mm_min ?_
    refine Pa.iret (by rfl) ?_
    exact l1 h1 h3 h4
  · have h2 : (yA.1 20 10).toInt < 1 := h2
    refine Pa.ic (x := 0) (pc' := 9) (by rfl) (by rfl) (by decide) ?_
    refine Pa.mp 1 (pc' := 25) (l' := [(0, .ref 20)]) (st' := [.int 0]) (by rfl) ?_
    refine Pa.iret (by rfl) ?_
    show Pa N 11 46 [(0, .ref 46), (1, .ref ya), (2, .int yk), (3, .int yv)] [.int 0, .int yv] yA _
    refine Pa.mth (by rfl) (by rfl) (by rfl) mm_min ?_
    refine Pa.iret (by rfl) ?_
    exact l2 h2

theorem bx_lt0 {N : Nat} {yA : AW} {yQ : Option Value → AW → Prop} (yb : Nat)
    (l1 : Pa N 28 2 [(0, .ref 30), (1, .ref yb), (2, .int 0)] [] yA yQ) :
    Pa N 28 0 [(0, .ref 30), (1, .ref yb)] [] yA yQ := by
  refine Pa.ic (x := 0) (pc' := 1) (by rfl) (by rfl) (by decide) ?_
  refine Pa.mp 1 (pc' := 2) (l' := [(2, .int 0), (0, .ref 30), (1, .ref yb)]) (st' := []) (by rfl) ?_
  refine Pa.lv (l' := [(0, .ref 30), (1, .ref yb), (2, .int 0)]) (lvS_c rfl (lvS_c rfl (lvS_c rfl (lvS_nil)))) rfl ?_
  exact l1

theorem bx_lt {N : Nat} {yA : AW} {yQ : Option Value → AW → Prop} (yb : Nat) (yi : Int32)
    (l1 : (yA.1 yb 0).toInt ≤ yi.toInt → yQ (some (.int 0)) yA)
    (l2 : yi.toInt < (yA.1 yb 0).toInt → yi.toInt < 0 → Pa N 28 2 [(0, .ref 30), (1, .ref yb), (2, .int (yi + 1))] [] yA yQ)
    (l3 : yi.toInt < (yA.1 yb 0).toInt → 0 ≤ yi.toInt → (yA.1 30 4).toInt ≤ yi.toInt → Pa N 28 2 [(0, .ref 30), (1, .ref yb), (2, .int (yi + 1))] [] yA yQ)
    (l4 : yi.toInt < (yA.1 yb 0).toInt → 0 ≤ yi.toInt → yi.toInt < (yA.1 30 4).toInt → yi.toInt < 150 → ∀ ya1, yA.2.2.1 31 yi.toInt.toNat = some ya1 → 129 ≤ ya1 → ya1 < yA.2.2.2.2 → (yA.1 ya1 9).toInt ≠ (yA.1 yb 9).toInt → Pa N 28 2 [(0, .ref 30), (1, .ref yb), (2, .int (yi + 1))] [] yA yQ)
    (l5 : yi.toInt < (yA.1 yb 0).toInt → 0 ≤ yi.toInt → yi.toInt < (yA.1 30 4).toInt → yi.toInt < 150 → ∀ ya1, yA.2.2.1 31 yi.toInt.toNat = some ya1 → 129 ≤ ya1 → ya1 < yA.2.2.2.2 → (yA.1 ya1 9).toInt = (yA.1 yb 9).toInt → (yA.1 ya1 4).toInt ≠ (yA.1 yb 4).toInt → yQ (some (.int 1)) yA)
    (l6 : yi.toInt < (yA.1 yb 0).toInt → 0 ≤ yi.toInt → yi.toInt < (yA.1 30 4).toInt → yi.toInt < 150 → ∀ ya1, yA.2.2.1 31 yi.toInt.toNat = some ya1 → 129 ≤ ya1 → ya1 < yA.2.2.2.2 → (yA.1 ya1 9).toInt = (yA.1 yb 9).toInt → (yA.1 ya1 4).toInt = (yA.1 yb 4).toInt → (yA.1 ya1 6).toInt = (yA.1 yb 6).toInt → Pa N 28 2 [(0, .ref 30), (1, .ref yb), (2, .int (yi + 1))] [] yA yQ)
    (l7 : yi.toInt < (yA.1 yb 0).toInt → 0 ≤ yi.toInt → yi.toInt < (yA.1 30 4).toInt → yi.toInt < 150 → ∀ ya1, yA.2.2.1 31 yi.toInt.toNat = some ya1 → 129 ≤ ya1 → ya1 < yA.2.2.2.2 → (yA.1 ya1 9).toInt = (yA.1 yb 9).toInt → (yA.1 ya1 4).toInt = (yA.1 yb 4).toInt → (yA.1 ya1 6).toInt ≠ (yA.1 yb 6).toInt → yQ (some (.int 1)) yA)
    (l8 : yi.toInt < (yA.1 yb 0).toInt → 0 ≤ yi.toInt → yi.toInt < (yA.1 30 4).toInt → yi.toInt < 150 → yA.2.2.1 31 yi.toInt.toNat = none → Pa N 28 2 [(0, .ref 30), (1, .ref yb), (2, .int (yi + 1))] [] yA yQ) :
    Pa (N + 1) 28 2 [(0, .ref 30), (1, .ref yb), (2, .int yi)] [] yA yQ := by
  refine Pa.mp1 1 (pc' := 4) (l' := [(0, .ref 30), (1, .ref yb), (2, .int yi)]) (st' := [.ref yb, .int yi]) (by rfl) ?_
  refine Pa.gfI (v := yA.1 yb 0) (by rfl) (by rfl) (.inr rfl) (by rfl) (by rfl) ?_
  refine Pa.if2 (a := yi.toInt) (b := (yA.1 yb 0).toInt) (t := 30) (by rfl) (by rfl) (rfl) (rfl) (fun h1 => ?_) (fun h2 => ?_)
  · have h1 : (yA.1 yb 0).toInt ≤ yi.toInt := h1
    refine Pa.ic (x := 0) (pc' := 31) (by rfl) (by rfl) (by decide) ?_
    refine Pa.iret (by rfl) ?_
    exact l1 h1
  · have h2 : yi.toInt < (yA.1 yb 0).toInt := h2
    refine Pa.mp 2 (pc' := 12) (l' := [(0, .ref 30), (1, .ref yb), (2, .int yi)]) (st' := [.int yi, .ref 30]) (by rfl) ?_
    refine Pa.inv (by rfl) (by rfl) (.inl rfl) (by rfl) ?_
    show Pa N 26 0 [(0, .ref 30), (1, .int yi)] [] yA _
    refine Pa.mp 1 (pc' := 1) (l' := [(0, .ref 30), (1, .int yi)]) (st' := [.int yi]) (by rfl) ?_
    refine Pa.if1 (a := yi.toInt) (t := 21) (by rfl) (by rfl) (rfl) (fun h3 => ?_) (fun h4 => ?_)
    · have h3 : yi.toInt < 0 := h3
      refine Pa.mp 1 (pc' := 22) (l' := [(0, .ref 30), (1, .int yi)]) (st' := [.null]) (by rfl) ?_
      refine Pa.nret (by rfl) ?_
      show Pa N 28 15 [(0, .ref 30), (1, .ref yb), (2, .int yi)] [.null] yA _
      refine Pa.mp 1 (pc' := 16) (l' := [(0, .ref 30), (1, .ref yb), (2, .int yi)]) (st' := [.ref yb, .null]) (by rfl) ?_
      refine Pa.ist (by rfl) (by rfl) (.inl rfl) (by rfl) (by rfl) ?_
      show Pa N 29 0 [(0, .null), (1, .ref yb)] [] yA _
      refine Pa.mp 1 (pc' := 1) (l' := [(0, .null), (1, .ref yb)]) (st' := [.null]) (by rfl) ?_
      refine Pa.mp 1 (pc' := 20) (l' := [(0, .null), (1, .ref yb)]) (st' := []) (by rfl) ?_
      refine Pa.ic (x := 0) (pc' := 21) (by rfl) (by rfl) (by decide) ?_
      refine Pa.iret (by rfl) ?_
      show Pa N 28 19 [(0, .ref 30), (1, .ref yb), (2, .int yi)] [.int 0] yA _
      refine Pa.if1k true (by rfl) (by rfl) (by decide) ?_
      show Pa N 28 24 [(0, .ref 30), (1, .ref yb), (2, .int yi)] [] yA _
      refine Pa.iinc (x := yi) (c := 1) (v := (yi + 1)) (l' := [(2, .int (yi + 1)), (0, .ref 30), (1, .ref yb)]) (by rfl) (by rfl) (by decide) (by rfl) (by rfl) ?_
      refine Pa.mp 1 (pc' := 2) (l' := [(2, .int (yi + 1)), (0, .ref 30), (1, .ref yb)]) (st' := []) (by rfl) ?_
      refine Pa.lv (l' := [(0, .ref 30), (1, .ref yb), (2, .int (yi + 1))]) (lvS_c rfl (lvS_c rfl (lvS_c rfl (lvS_nil)))) rfl ?_
      exact l2 h2 h3
    · have h4 : 0 ≤ yi.toInt := h4
      refine Pa.mp 2 (pc' := 6) (l' := [(0, .ref 30), (1, .int yi)]) (st' := [.ref 30, .int yi]) (by rfl) ?_
      refine Pa.gfI (v := yA.1 30 4) (by rfl) (by rfl) (.inl rfl) (by rfl) (by rfl) ?_
      refine Pa.if2 (a := yi.toInt) (b := (yA.1 30 4).toInt) (t := 21) (by rfl) (by rfl) (rfl) (rfl) (fun h5 => ?_) (fun h6 => ?_)
      · have h5 : (yA.1 30 4).toInt ≤ yi.toInt := h5
        refine Pa.mp 1 (pc' := 22) (l' := [(0, .ref 30), (1, .int yi)]) (st' := [.null]) (by rfl) ?_
        refine Pa.nret (by rfl) ?_
        show Pa N 28 15 [(0, .ref 30), (1, .ref yb), (2, .int yi)] [.null] yA _
        refine Pa.mp 1 (pc' := 16) (l' := [(0, .ref 30), (1, .ref yb), (2, .int yi)]) (st' := [.ref yb, .null]) (by rfl) ?_
        refine Pa.ist (by rfl) (by rfl) (.inl rfl) (by rfl) (by rfl) ?_
        show Pa N 29 0 [(0, .null), (1, .ref yb)] [] yA _
        refine Pa.mp 1 (pc' := 1) (l' := [(0, .null), (1, .ref yb)]) (st' := [.null]) (by rfl) ?_
        refine Pa.mp 1 (pc' := 20) (l' := [(0, .null), (1, .ref yb)]) (st' := []) (by rfl) ?_
        refine Pa.ic (x := 0) (pc' := 21) (by rfl) (by rfl) (by decide) ?_
        refine Pa.iret (by rfl) ?_
        show Pa N 28 19 [(0, .ref 30), (1, .ref yb), (2, .int yi)] [.int 0] yA _
        refine Pa.if1k true (by rfl) (by rfl) (by decide) ?_
        show Pa N 28 24 [(0, .ref 30), (1, .ref yb), (2, .int yi)] [] yA _
        refine Pa.iinc (x := yi) (c := 1) (v := (yi + 1)) (l' := [(2, .int (yi + 1)), (0, .ref 30), (1, .ref yb)]) (by rfl) (by rfl) (by decide) (by rfl) (by rfl) ?_
        refine Pa.mp 1 (pc' := 2) (l' := [(2, .int (yi + 1)), (0, .ref 30), (1, .ref yb)]) (st' := []) (by rfl) ?_
        refine Pa.lv (l' := [(0, .ref 30), (1, .ref yb), (2, .int (yi + 1))]) (lvS_c rfl (lvS_c rfl (lvS_c rfl (lvS_nil)))) rfl ?_
        exact l3 h2 h4 h5
      · have h6 : yi.toInt < (yA.1 30 4).toInt := h6
        refine Pa.mp 1 (pc' := 13) (l' := [(0, .ref 30), (1, .int yi)]) (st' := [.ref 30]) (by rfl) ?_
        refine Pa.gfR (by rfl) (by rfl) (.inl rfl) (by rfl) ?_
        show Pa N 26 16 [(0, .ref 30), (1, .int yi)] [.ref 31] yA _
        refine Pa.mp 1 (pc' := 17) (l' := [(0, .ref 30), (1, .int yi)]) (st' := [.int yi, .ref 31]) (by rfl) ?_
        refine Pa.olds (o := yA.2.2.1 31 yi.toInt.toNat) (by rfl) (by rfl) (by rfl) (fun h7 h8 ya1 h9 h11 h12 => ?_) (fun h7 h8 h10 => ?_)
        · skip
          refine Pa.mp 1 (pc' := 22) (l' := [(0, .ref 30), (1, .int yi)]) (st' := [.ref ya1]) (by rfl) ?_
          refine Pa.aret (by rfl) ?_
          show Pa N 28 15 [(0, .ref 30), (1, .ref yb), (2, .int yi)] [.ref ya1] yA _
          refine Pa.mp 1 (pc' := 16) (l' := [(0, .ref 30), (1, .ref yb), (2, .int yi)]) (st' := [.ref yb, .ref ya1]) (by rfl) ?_
          refine Pa.ist (by rfl) (by rfl) (.inl rfl) (by rfl) (by rfl) ?_
          show Pa N 29 0 [(0, .ref ya1), (1, .ref yb)] [] yA _
          refine Pa.mp 1 (pc' := 1) (l' := [(0, .ref ya1), (1, .ref yb)]) (st' := [.ref ya1]) (by rfl) ?_
          refine Pa.mp 1 (pc' := 4) (l' := [(0, .ref ya1), (1, .ref yb)]) (st' := []) (by rfl) ?_
          refine Pa.mp 1 (pc' := 5) (l' := [(0, .ref ya1), (1, .ref yb)]) (st' := [.ref yb]) (by rfl) ?_
          refine Pa.mp 1 (pc' := 8) (l' := [(0, .ref ya1), (1, .ref yb)]) (st' := []) (by rfl) ?_
          refine Pa.mp 2 (pc' := 10) (l' := [(0, .ref ya1), (1, .ref yb)]) (st' := [.ref yb, .ref ya1]) (by rfl) ?_
          refine Pa.inv (by rfl) (by rfl) (.inr rfl) (by rfl) ?_
          show Pa N 22 0 [(0, .ref ya1), (1, .ref yb)] [] yA _
          refine Pa.mp 1 (pc' := 1) (l' := [(0, .ref ya1), (1, .ref yb)]) (st' := [.ref ya1]) (by rfl) ?_
          refine Pa.gfI (v := yA.1 ya1 9) (by rfl) (by rfl) (.inl rfl) (by rfl) (by rfl) ?_
          refine Pa.mp 1 (pc' := 5) (l' := [(0, .ref ya1), (1, .ref yb)]) (st' := [.ref yb, .int (yA.1 ya1 9)]) (by rfl) ?_
          refine Pa.gfI (v := yA.1 yb 9) (by rfl) (by rfl) (.inl rfl) (by rfl) (by rfl) ?_
          refine Pa.if2 (a := (yA.1 ya1 9).toInt) (b := (yA.1 yb 9).toInt) (t := 37) (by rfl) (by rfl) (rfl) (rfl) (fun h13 => ?_) (fun h14 => ?_)
          · have h13 : (yA.1 ya1 9).toInt ≠ (yA.1 yb 9).toInt := h13
            refine Pa.ic (x := 0) (pc' := 38) (by rfl) (by rfl) (by decide) ?_
            refine Pa.iret (by rfl) ?_
            show Pa N 29 13 [(0, .ref ya1), (1, .ref yb)] [.int 0] yA _
            refine Pa.if1k true (by rfl) (by rfl) (by decide) ?_
            show Pa N 29 20 [(0, .ref ya1), (1, .ref yb)] [] yA _
            refine Pa.ic (x := 0) (pc' := 21) (by rfl) (by rfl) (by decide) ?_
            refine Pa.iret (by rfl) ?_
            show Pa N 28 19 [(0, .ref 30), (1, .ref yb), (2, .int yi)] [.int 0] yA _
            refine Pa.if1k true (by rfl) (by rfl) (by decide) ?_
            show Pa N 28 24 [(0, .ref 30), (1, .ref yb), (2, .int yi)] [] yA _
            refine Pa.iinc (x := yi) (c := 1) (v := (yi + 1)) (l' := [(2, .int (yi + 1)), (0, .ref 30), (1, .ref yb)]) (by rfl) (by rfl) (by decide) (by rfl) (by rfl) ?_
            refine Pa.mp 1 (pc' := 2) (l' := [(2, .int (yi + 1)), (0, .ref 30), (1, .ref yb)]) (st' := []) (by rfl) ?_
            refine Pa.lv (l' := [(0, .ref 30), (1, .ref yb), (2, .int (yi + 1))]) (lvS_c rfl (lvS_c rfl (lvS_c rfl (lvS_nil)))) rfl ?_
            exact l4 h2 h4 h6 h8 ya1 h9 h11 h12 h13
          · have h14 : (yA.1 ya1 9).toInt = (yA.1 yb 9).toInt := h14
            refine Pa.mp 1 (pc' := 12) (l' := [(0, .ref ya1), (1, .ref yb)]) (st' := [.ref ya1]) (by rfl) ?_
            refine Pa.gfI (v := yA.1 ya1 4) (by rfl) (by rfl) (.inl rfl) (by rfl) (by rfl) ?_
            refine Pa.mp 1 (pc' := 16) (l' := [(0, .ref ya1), (1, .ref yb)]) (st' := [.ref yb, .int (yA.1 ya1 4)]) (by rfl) ?_
            refine Pa.gfI (v := yA.1 yb 4) (by rfl) (by rfl) (.inl rfl) (by rfl) (by rfl) ?_
            refine Pa.if2 (a := (yA.1 ya1 4).toInt) (b := (yA.1 yb 4).toInt) (t := 33) (by rfl) (by rfl) (rfl) (rfl) (fun h15 => ?_) (fun yh16 => ?_)
            · have h15 : (yA.1 ya1 4).toInt ≠ (yA.1 yb 4).toInt := h15
              refine Pa.ic (x := 1) (pc' := 34) (by rfl) (by rfl) (by decide) ?_
              refine Pa.mp 1 (pc' := 38) (l' := [(0, .ref ya1), (1, .ref yb)]) (st' := [.int 1]) (by rfl) ?_
              refine Pa.iret (by rfl) ?_
              show Pa N 29 13 [(0, .ref ya1), (1, .ref yb)] [.int 1] yA _
              refine Pa.if1k false (by rfl) (by rfl) (by decide) ?_
              show Pa N 29 16 [(0, .ref ya1), (1, .ref yb)] [] yA _
              refine Pa.ic (x := 1) (pc' := 17) (by rfl) (by rfl) (by decide) ?_
              refine Pa.mp 1 (pc' := 21) (l' := [(0, .ref ya1), (1, .ref yb)]) (st' := [.int 1]) (by rfl) ?_
              refine Pa.iret (by rfl) ?_
              show Pa N 28 19 [(0, .ref 30), (1, .ref yb), (2, .int yi)] [.int 1] yA _
              refine Pa.if1k false (by rfl) (by rfl) (by decide) ?_
              show Pa N 28 22 [(0, .ref 30), (1, .ref yb), (2, .int yi)] [] yA _
              refine Pa.ic (x := 1) (pc' := 23) (by rfl) (by rfl) (by decide) ?_
              refine Pa.iret (by rfl) ?_
              exact l5 h2 h4 h6 h8 ya1 h9 h11 h12 h14 h15
            · have yh16 : (yA.1 ya1 4).toInt = (yA.1 yb 4).toInt := yh16
              refine Pa.mp 1 (pc' := 23) (l' := [(0, .ref ya1), (1, .ref yb)]) (st' := [.ref ya1]) (by rfl) ?_
              refine Pa.gfI (v := yA.1 ya1 6) (by rfl) (by rfl) (.inl rfl) (by rfl) (by rfl) ?_
              refine Pa.mp 1 (pc' := 27) (l' := [(0, .ref ya1), (1, .ref yb)]) (st' := [.ref yb, .int (yA.1 ya1 6)]) (by rfl) ?_
              refine Pa.gfI (v := yA.1 yb 6) (by rfl) (by rfl) (.inl rfl) (by rfl) (by rfl) ?_
              refine Pa.if2 (a := (yA.1 ya1 6).toInt) (b := (yA.1 yb 6).toInt) (t := 37) (by rfl) (by rfl) (rfl) (rfl) (fun h17 => ?_) (fun h18 => ?_)
              · have h17 : (yA.1 ya1 6).toInt = (yA.1 yb 6).toInt := h17
                refine Pa.ic (x := 0) (pc' := 38) (by rfl) (by rfl) (by decide) ?_
                refine Pa.iret (by rfl) ?_
                show Pa N 29 13 [(0, .ref ya1), (1, .ref yb)] [.int 0] yA _
                refine Pa.if1k true (by rfl) (by rfl) (by decide) ?_
                show Pa N 29 20 [(0, .ref ya1), (1, .ref yb)] [] yA _
                refine Pa.ic (x := 0) (pc' := 21) (by rfl) (by rfl) (by decide) ?_
                refine Pa.iret (by rfl) ?_
                show Pa N 28 19 [(0, .ref 30), (1, .ref yb), (2, .int yi)] [.int 0] yA _
                refine Pa.if1k true (by rfl) (by rfl) (by decide) ?_
                show Pa N 28 24 [(0, .ref 30), (1, .ref yb), (2, .int yi)] [] yA _
                refine Pa.iinc (x := yi) (c := 1) (v := (yi + 1)) (l' := [(2, .int (yi + 1)), (0, .ref 30), (1, .ref yb)]) (by rfl) (by rfl) (by decide) (by rfl) (by rfl) ?_
                refine Pa.mp 1 (pc' := 2) (l' := [(2, .int (yi + 1)), (0, .ref 30), (1, .ref yb)]) (st' := []) (by rfl) ?_
                refine Pa.lv (l' := [(0, .ref 30), (1, .ref yb), (2, .int (yi + 1))]) (lvS_c rfl (lvS_c rfl (lvS_c rfl (lvS_nil)))) rfl ?_
                exact l6 h2 h4 h6 h8 ya1 h9 h11 h12 h14 yh16 h17
              · have h18 : (yA.1 ya1 6).toInt ≠ (yA.1 yb 6).toInt := h18
                refine Pa.ic (x := 1) (pc' := 34) (by rfl) (by rfl) (by decide) ?_
                refine Pa.mp 1 (pc' := 38) (l' := [(0, .ref ya1), (1, .ref yb)]) (st' := [.int 1]) (by rfl) ?_
                refine Pa.iret (by rfl) ?_
                show Pa N 29 13 [(0, .ref ya1), (1, .ref yb)] [.int 1] yA _
                refine Pa.if1k false (by rfl) (by rfl) (by decide) ?_
                show Pa N 29 16 [(0, .ref ya1), (1, .ref yb)] [] yA _
                refine Pa.ic (x := 1) (pc' := 17) (by rfl) (by rfl) (by decide) ?_
                refine Pa.mp 1 (pc' := 21) (l' := [(0, .ref ya1), (1, .ref yb)]) (st' := [.int 1]) (by rfl) ?_
                refine Pa.iret (by rfl) ?_
                show Pa N 28 19 [(0, .ref 30), (1, .ref yb), (2, .int yi)] [.int 1] yA _
                refine Pa.if1k false (by rfl) (by rfl) (by decide) ?_
                show Pa N 28 22 [(0, .ref 30), (1, .ref yb), (2, .int yi)] [] yA _
                refine Pa.ic (x := 1) (pc' := 23) (by rfl) (by rfl) (by decide) ?_
                refine Pa.iret (by rfl) ?_
                exact l7 h2 h4 h6 h8 ya1 h9 h11 h12 h14 yh16 h18
        · skip
          refine Pa.mp 1 (pc' := 22) (l' := [(0, .ref 30), (1, .int yi)]) (st' := [.null]) (by rfl) ?_
          refine Pa.nret (by rfl) ?_
          show Pa N 28 15 [(0, .ref 30), (1, .ref yb), (2, .int yi)] [.null] yA _
          refine Pa.mp 1 (pc' := 16) (l' := [(0, .ref 30), (1, .ref yb), (2, .int yi)]) (st' := [.ref yb, .null]) (by rfl) ?_
          refine Pa.ist (by rfl) (by rfl) (.inl rfl) (by rfl) (by rfl) ?_
          show Pa N 29 0 [(0, .null), (1, .ref yb)] [] yA _
          refine Pa.mp 1 (pc' := 1) (l' := [(0, .null), (1, .ref yb)]) (st' := [.null]) (by rfl) ?_
          refine Pa.mp 1 (pc' := 20) (l' := [(0, .null), (1, .ref yb)]) (st' := []) (by rfl) ?_
          refine Pa.ic (x := 0) (pc' := 21) (by rfl) (by rfl) (by decide) ?_
          refine Pa.iret (by rfl) ?_
          show Pa N 28 19 [(0, .ref 30), (1, .ref yb), (2, .int yi)] [.int 0] yA _
          refine Pa.if1k true (by rfl) (by rfl) (by decide) ?_
          show Pa N 28 24 [(0, .ref 30), (1, .ref yb), (2, .int yi)] [] yA _
          refine Pa.iinc (x := yi) (c := 1) (v := (yi + 1)) (l' := [(2, .int (yi + 1)), (0, .ref 30), (1, .ref yb)]) (by rfl) (by rfl) (by decide) (by rfl) (by rfl) ?_
          refine Pa.mp 1 (pc' := 2) (l' := [(2, .int (yi + 1)), (0, .ref 30), (1, .ref yb)]) (st' := []) (by rfl) ?_
          refine Pa.lv (l' := [(0, .ref 30), (1, .ref yb), (2, .int (yi + 1))]) (lvS_c rfl (lvS_c rfl (lvS_c rfl (lvS_nil)))) rfl ?_
          exact l8 h2 h4 h6 h8 h10

theorem c_fairX {B9 yA yW : AW} (yg : Rgl yA) (hs : scX B9 yA yW) {ya yc : Nat} (yh : rowC yA ya yc) (yk : Int32) (hk : yk.toInt ≤ 3599) (N : Nat) : Pa N 11 0 [(0, .ref 46), (1, .ref ya), (2, .int yk)] [] yW (fun yu A1 => yu = some (.int (frV yA yc yk)) ∧ scX B9 yA A1 ∧ ∀ yj, A1.1 46 yj = yW.1 46 yj) := by
  have gL := yg.ok.fld (i := 69) (k := 37) (lo := 0) (hi := 120) (by decide +kernel)
  refine bx_fa0 ya yk (Pa.mono (c_cbyS hs yh yk N) (fun yu A1 hu => ?_))
  obtain ⟨rfl, rfl⟩ := hu
  refine bx_fa1 ya yk _ (Pa.mono (c_relX yg hs yh yk hk N) (fun yu A2 hu => ?_))
  obtain ⟨rfl, rfl⟩ := hu
  refine bx_fa2 ya yk _ _ (fun yq => ?_) (fun yq => ⟨?_, hs, fun _ => rfl⟩)
  · have w29 : A2.1 20 9 = yA.1 69 37 := by rw [hs.2.1 9 (by decide), yg.f20]
    refine Pa.mono (c_gat N A2 (A2.1 ya 10) (A2.1 ya 6) (A2.1 ya 7) yk (by rw [w29]; exact gL.2)) (fun yu A3 hu => ?_)
    obtain ⟨rfl, rfl⟩ := hu
    obtain ⟨ye, ym, ym1, ym2, ym3⟩ := gat_fnd yg hs yh yk
    have em : (Int32.ofNat ym).toInt = (ym : Int) := i32_nat (by omega)
    have yc20 : (uI (uF A2 29 (gatX A2 (A2.1 ya 10) (A2.1 ya 6) (A2.1 ya 7) yk).1) 20 10 (gatX A2 (A2.1 ya 10) (A2.1 ya 6) (A2.1 ya 7) yk).2).1 20 10 = Int32.ofNat ym := by rw [uI_h, ym2]
    have yc29 : ∀ yj, (uI (uF A2 29 (gatX A2 (A2.1 ya 10) (A2.1 ya 6) (A2.1 ya 7) yk).1) 20 10 (gatX A2 (A2.1 ya 10) (A2.1 ya 6) (A2.1 ya 7) yk).2).1 29 yj = (gatX A2 (A2.1 ya 10) (A2.1 ya 6) (A2.1 ya 7) yk).1 yj := fun yj => by rw [uI_c (by decide), uF_h]
    have hfr : frV yA yc yk = i_min (kofM yA (Int32.ofNat yc) yk) (midV yA yc yk) := by
      unfold frV
      rw [if_neg yq, i_minV]
    have ye2 : (fndM yA (Int32.ofNat yc) yk).2 = Int32.ofNat ym := by rw [← ye, ym2]
    refine bx_fa3 ya yk _ _ (fun yq1 _ _ => ⟨?_, scX_29 hs, fun _ => by rw [uI_c (by decide), uF_c (by decide)]⟩) (fun yq1 => ⟨?_, scX_29 hs, fun _ => by rw [uI_c (by decide), uF_c (by decide)]⟩)
    · rw [yc20] at yq1 ⊢
      rw [em] at yq1
      rw [yc29, hfr]
      unfold midV
      rw [ye2, em, if_neg (by omega), ym3 _ (half_lt ym (by omega) (by omega))]
    · rw [yc20, em] at yq1
      rw [hfr]
      unfold midV
      rw [ye2, em, if_pos (by omega)]
  · unfold frV
    rw [if_pos yq]
theorem c_laterX {B9 yA yW : AW} (yg : Rgl yA) (hs : scX B9 yA yW) {ya yc : Nat} (yh : rowC yA ya yc) (N : Nat) : Pa N 28 0 [(0, .ref 30), (1, .ref ya)] [] yW (fun yu A1 => yu = some (.int (ltV yA yc yc)) ∧ A1 = yW) := by
  have yhc := yh.c150
  have gT := yg.T
  have ye0 : (yW.1 ya 0).toInt = (yc : Int) := by
    rw [sc_row hs yh.a9, yh.row.1]
    exact i32_nat (by omega)
  have e30 : yW.1 30 4 = yA.1 69 31 := by rw [hs.1 30 4 (by decide), yg.f30]
  have eO : yW.2.2.1 = yA.2.2.1 := by rw [hs.2.2.2.1]
  obtain ⟨z0, z1, z2, z3, z4, z5, z6, z7, z8, z9, z10, z11, z12, yz13, yz14⟩ := yh.row
  have ykey : ∀ (N yi : Nat), yi ≤ yc → (∀ yd, yd < yi → ¬ dblP yA yc yd) → Pa N 28 2 [(0, .ref 30), (1, .ref ya), (2, .int (Int32.ofNat yi))] [] yW (fun yu A1 => yu = some (.int (ltV yA yc yc)) ∧ A1 = yW) := by
    intro N
    induction N with
    | zero => intros; exact Pa.zero
    | succ N yih =>
      intro yi yhi hn
      have ei : (Int32.ofNat yi).toInt = (yi : Int) := i32_nat (by omega)
      have nx : ¬ dblP yA yc yi → yi < yc → Pa N 28 2 [(0, .ref 30), (1, .ref ya), (2, .int (Int32.ofNat yi + 1))] [] yW (fun yu A1 => yu = some (.int (ltV yA yc yc)) ∧ A1 = yW) := fun yq yq2 => by
        rw [← on_succ yi]
        refine yih (yi + 1) (by omega) (fun yd yhd => ?_)
        by_cases yz : yd = yi
        · rw [yz]
          exact yq
        · exact hn yd (by omega)
      have rowOf : ∀ yb, yi < yc → yW.2.2.1 31 (Int32.ofNat yi).toInt.toNat = some yb → 129 ≤ yb → (yW.1 yb 9 = yA.1 90 (7 * yi + 5) ∧ yW.1 yb 4 = yA.1 90 (7 * yi) ∧ yW.1 yb 6 = yA.1 90 (7 * yi + 2)) := fun yb hic yhb h9 => by
        rw [eO, ei, Int.toNat_natCast] at yhb
        obtain ⟨b', y1, y2, y3, y4⟩ := yg.rz.1 yi (by have := yh.c_T; omega)
        rw [yhb] at y1
        cases y1
        obtain ⟨yx0, yx1, yx2, x3, yx4, yx5, x6, x7, x8, x9, x10, x11, x12, x13, x14⟩ := y4
        exact ⟨by rw [sc_row hs h9, x9], by rw [sc_row hs h9, yx4], by rw [sc_row hs h9, x6]⟩
      refine bx_lt ya _ (fun yq => ?_) (fun yq yq2 => ?_) (fun yq _ yq2 => ?_) (fun yq _ _ _ yb y1 y2 _ y4 => ?_) (fun yq _ _ _ yb y1 y2 _ y4 y5 => ?_) (fun yq _ _ _ yb y1 y2 _ y4 y5 y6 => ?_) (fun yq _ _ _ yb y1 y2 _ y4 y5 y6 => ?_) (fun yq _ _ _ y1 => ?_)
      · rw [ye0, ei] at yq
        refine ⟨?_, rfl⟩
        rw [ltV_0 (fun ⟨yd, yd1, yd2⟩ => hn yd (by omega) yd2)]
      · exfalso
        rw [ei] at yq2
        omega
      · exfalso
        rw [ye0, ei] at yq
        rw [e30, ei] at yq2
        have := yh.c_T
        unfold cT at this
        omega
      · rw [ye0, ei] at yq
        obtain ⟨yx1, yx2, x3⟩ := rowOf yb (by omega) y1 y2
        rw [yx1, sc_row hs yh.a9, z9] at y4
        exact nx (fun yz => y4 yz.2.symm) (by omega)
      · rw [ye0, ei] at yq
        obtain ⟨yx1, yx2, x3⟩ := rowOf yb (by omega) y1 y2
        rw [yx1, sc_row hs yh.a9, z9] at y4
        rw [yx2, sc_row hs yh.a9, z4] at y5
        refine ⟨?_, rfl⟩
        rw [ltV_1 ⟨yi, by omega, .inl (fun yz => y5 yz.symm), y4.symm⟩]
      · rw [ye0, ei] at yq
        obtain ⟨yx1, yx2, x3⟩ := rowOf yb (by omega) y1 y2
        rw [yx2, sc_row hs yh.a9, z4] at y5
        rw [x3, sc_row hs yh.a9, z6] at y6
        refine nx (fun yz => ?_) (by omega)
        rcases yz.1 with yz | yz
        · exact yz y5.symm
        · exact yz y6.symm
      · rw [ye0, ei] at yq
        obtain ⟨yx1, yx2, x3⟩ := rowOf yb (by omega) y1 y2
        rw [yx1, sc_row hs yh.a9, z9] at y4
        rw [x3, sc_row hs yh.a9, z6] at y6
        refine ⟨?_, rfl⟩
        rw [ltV_1 ⟨yi, by omega, .inr (fun yz => y6 yz.symm), y4.symm⟩]
      · exfalso
        rw [ye0, ei] at yq
        rw [eO, ei, Int.toNat_natCast] at y1
        obtain ⟨b', yx1, -⟩ := yg.rz.1 yi (by have := yh.c_T; omega)
        rw [y1] at yx1
        cases yx1
  exact bx_lt0 ya (ykey N 0 (Nat.zero_le _) (fun yd yhd => absurd yhd (Nat.not_lt_zero yd)))
/-! the reference -/
theorem bm_rel {N : Nat} {yA : AW} {yQ : Option Value → AW → Prop} (yc yk : Int32)
    (l1 : 0 ≤ yc.toInt → yc.toInt < 150 → (thI (yA.1 89 yc.toInt.toNat)).toInt = 0 → yQ (some (.int 0)) yA)
    (l2 : 0 ≤ yc.toInt → yc.toInt < 150 → (thI (yA.1 89 yc.toInt.toNat)).toInt ≠ 0 → 0 ≤ (ocM yA yc 0).toInt → (ocM yA yc 0).toInt < 20 → 0 ≤ ((20 * (ocM yA yc 4)) + (yA.1 76 ((ocM yA yc 0).toInt.toNat))).toInt → ((20 * (ocM yA yc 4)) + (yA.1 76 ((ocM yA yc 0).toInt.toNat))).toInt < 400 → (yA.1 75 (((20 * (ocM yA yc 4)) + (yA.1 76 ((ocM yA yc 0).toInt.toNat))).toInt.toNat)).toInt < 1 → yQ (some (.int 0)) yA)
    (l3 : 0 ≤ yc.toInt → yc.toInt < 150 → (thI (yA.1 89 yc.toInt.toNat)).toInt ≠ 0 → 0 ≤ (ocM yA yc 0).toInt → (ocM yA yc 0).toInt < 20 → 0 ≤ ((20 * (ocM yA yc 4)) + (yA.1 76 ((ocM yA yc 0).toInt.toNat))).toInt → ((20 * (ocM yA yc 4)) + (yA.1 76 ((ocM yA yc 0).toInt.toNat))).toInt < 400 → 1 ≤ (yA.1 75 (((20 * (ocM yA yc 4)) + (yA.1 76 ((ocM yA yc 0).toInt.toNat))).toInt.toNat)).toInt → (yk + 1).toInt < (yA.1 75 (((20 * (ocM yA yc 4)) + (yA.1 76 ((ocM yA yc 0).toInt.toNat))).toInt.toNat)).toInt → yQ (some (.int 0)) yA)
    (l4 : 0 ≤ yc.toInt → yc.toInt < 150 → (thI (yA.1 89 yc.toInt.toNat)).toInt ≠ 0 → 0 ≤ (ocM yA yc 0).toInt → (ocM yA yc 0).toInt < 20 → 0 ≤ ((20 * (ocM yA yc 4)) + (yA.1 76 ((ocM yA yc 0).toInt.toNat))).toInt → ((20 * (ocM yA yc 4)) + (yA.1 76 ((ocM yA yc 0).toInt.toNat))).toInt < 400 → 1 ≤ (yA.1 75 (((20 * (ocM yA yc 4)) + (yA.1 76 ((ocM yA yc 0).toInt.toNat))).toInt.toNat)).toInt → (yA.1 75 (((20 * (ocM yA yc 4)) + (yA.1 76 ((ocM yA yc 0).toInt.toNat))).toInt.toNat)).toInt ≤ (yk + 1).toInt → yQ (some (.int 1)) yA) :
    Pa N 186 0 [(0, .ref 69), (1, .int yc), (2, .int yk)] [] yA yQ := by
  refine Pa.mp 1 (pc' := 1) (l' := [(0, .ref 69), (1, .int yc), (2, .int yk)]) (st' := [.ref 69]) (by rfl) ?_
  refine Pa.gfR (by rfl) (by rfl) (.inl rfl) (by rfl) ?_
  show Pa N 186 4 [(0, .ref 69), (1, .int yc), (2, .int yk)] [.ref 89] yA _
  refine Pa.mp 1 (pc' := 5) (l' := [(0, .ref 69), (1, .int yc), (2, .int yk)]) (st' := [.int yc, .ref 89]) (by rfl) ?_
  refine Pa.alds (v := yA.1 89 yc.toInt.toNat) (by rfl) (by rfl) (by rfl) (fun h1 h2 => ?_)
  have h1 : 0 ≤ yc.toInt := h1
  have h2 : yc.toInt < 150 := h2
  refine Pa.ist (by rfl) (by rfl) (.inl rfl) (by rfl) (by rfl) ?_
  refine Pa.mono (c_thI N yA (yA.1 89 yc.toInt.toNat)) (fun yu A1 hu => ?_)
  obtain ⟨rfl, hu⟩ := hu
  rw [hu]
  show Pa N 186 9 [(0, .ref 69), (1, .int yc), (2, .int yk)] [.int (thI (yA.1 89 yc.toInt.toNat))] yA _
  refine Pa.if1 (a := (thI (yA.1 89 yc.toInt.toNat)).toInt) (t := 41) (by rfl) (by rfl) (rfl) (fun h3 => ?_) (fun h4 => ?_)
  · have h3 : (thI (yA.1 89 yc.toInt.toNat)).toInt = 0 := h3
    refine Pa.ic (x := 0) (pc' := 42) (by rfl) (by rfl) (by decide) ?_
    refine Pa.iret (by rfl) ?_
    exact l1 h1 h2 h3
  · have h4 : (thI (yA.1 89 yc.toInt.toNat)).toInt ≠ 0 := h4
    refine Pa.mp 3 (pc' := 15) (l' := [(0, .ref 69), (1, .int yc), (2, .int yk)]) (st' := [.int yc, .ref 69, .ref 69]) (by rfl) ?_
    refine Pa.ic (x := 4) (pc' := 16) (by rfl) (by rfl) (by decide) ?_
    refine Pa.inv (by rfl) (by rfl) (.inl rfl) (by rfl) ?_
    refine Pa.mono (c_oc N yA yA yc 4 (fun _ => by first | rfl | (repeat rw [uI_c (by decide)]))) (fun yu A1 hu => ?_)
    obtain ⟨rfl, hu⟩ := hu
    rw [hu]
    show Pa N 186 19 [(0, .ref 69), (1, .int yc), (2, .int yk)] [.int (ocM yA yc 4), .ref 69] yA _
    refine Pa.mp 1 (pc' := 20) (l' := [(0, .ref 69), (1, .int yc), (2, .int yk)]) (st' := [.ref 69, .int (ocM yA yc 4), .ref 69]) (by rfl) ?_
    refine Pa.gfR (by rfl) (by rfl) (.inl rfl) (by rfl) ?_
    show Pa N 186 23 [(0, .ref 69), (1, .int yc), (2, .int yk)] [.ref 76, .int (ocM yA yc 4), .ref 69] yA _
    refine Pa.mp 2 (pc' := 25) (l' := [(0, .ref 69), (1, .int yc), (2, .int yk)]) (st' := [.int yc, .ref 69, .ref 76, .int (ocM yA yc 4), .ref 69]) (by rfl) ?_
    refine Pa.ic (x := 0) (pc' := 26) (by rfl) (by rfl) (by decide) ?_
    refine Pa.inv (by rfl) (by rfl) (.inl rfl) (by rfl) ?_
    refine Pa.mono (c_oc N yA yA yc 0 (fun _ => by first | rfl | (repeat rw [uI_c (by decide)]))) (fun yu A1 hu => ?_)
    obtain ⟨rfl, hu⟩ := hu
    rw [hu]
    show Pa N 186 29 [(0, .ref 69), (1, .int yc), (2, .int yk)] [.int (ocM yA yc 0), .ref 76, .int (ocM yA yc 4), .ref 69] yA _
    refine Pa.alds (v := yA.1 76 ((ocM yA yc 0).toInt.toNat)) (by rfl) (by rfl) (by rfl) (fun h5 h6 => ?_)
    have h5 : 0 ≤ (ocM yA yc 0).toInt := h5
    have h6 : (ocM yA yc 0).toInt < 20 := h6
    refine Pa.mp 1 (pc' := 31) (l' := [(0, .ref 69), (1, .int yc), (2, .int yk)]) (st' := [.int yk, .int (yA.1 76 ((ocM yA yc 0).toInt.toNat)), .int (ocM yA yc 4), .ref 69]) (by rfl) ?_
    refine Pa.inv (by rfl) (by rfl) (.inl rfl) (by rfl) ?_
    show Pa N 166 0 [(0, .ref 69), (1, .int (ocM yA yc 4)), (2, .int (yA.1 76 ((ocM yA yc 0).toInt.toNat))), (3, .int yk)] [] yA _
    refine Pa.mp 1 (pc' := 1) (l' := [(0, .ref 69), (1, .int (ocM yA yc 4)), (2, .int (yA.1 76 ((ocM yA yc 0).toInt.toNat))), (3, .int yk)]) (st' := [.ref 69]) (by rfl) ?_
    refine Pa.gfR (by rfl) (by rfl) (.inl rfl) (by rfl) ?_
    show Pa N 166 4 [(0, .ref 69), (1, .int (ocM yA yc 4)), (2, .int (yA.1 76 ((ocM yA yc 0).toInt.toNat))), (3, .int yk)] [.ref 75] yA _
    refine Pa.ic (x := 20) (pc' := 6) (by rfl) (by rfl) (by decide) ?_
    refine Pa.mp 4 (pc' := 10) (l' := [(0, .ref 69), (1, .int (ocM yA yc 4)), (2, .int (yA.1 76 ((ocM yA yc 0).toInt.toNat))), (3, .int yk)]) (st' := [.int ((20 * (ocM yA yc 4)) + (yA.1 76 ((ocM yA yc 0).toInt.toNat))), .ref 75]) (by rfl) ?_
    refine Pa.alds (v := yA.1 75 (((20 * (ocM yA yc 4)) + (yA.1 76 ((ocM yA yc 0).toInt.toNat))).toInt.toNat)) (by rfl) (by rfl) (by rfl) (fun h7 h8 => ?_)
    have h7 : 0 ≤ ((20 * (ocM yA yc 4)) + (yA.1 76 ((ocM yA yc 0).toInt.toNat))).toInt := h7
    have h8 : ((20 * (ocM yA yc 4)) + (yA.1 76 ((ocM yA yc 0).toInt.toNat))).toInt < 400 := h8
    refine Pa.ic (x := 1) (pc' := 12) (by rfl) (by rfl) (by decide) ?_
    refine Pa.mp 1 (pc' := 13) (l' := [(0, .ref 69), (1, .int (ocM yA yc 4)), (2, .int (yA.1 76 ((ocM yA yc 0).toInt.toNat))), (3, .int yk)]) (st' := [.int yk, .int 1, .int (yA.1 75 (((20 * (ocM yA yc 4)) + (yA.1 76 ((ocM yA yc 0).toInt.toNat))).toInt.toNat))]) (by rfl) ?_
    refine Pa.ic (x := 1) (pc' := 14) (by rfl) (by rfl) (by decide) ?_
    refine Pa.mp 1 (pc' := 15) (l' := [(0, .ref 69), (1, .int (ocM yA yc 4)), (2, .int (yA.1 76 ((ocM yA yc 0).toInt.toNat))), (3, .int yk)]) (st' := [.int (yk + 1), .int 1, .int (yA.1 75 (((20 * (ocM yA yc 4)) + (yA.1 76 ((ocM yA yc 0).toInt.toNat))).toInt.toNat))]) (by rfl) ?_
    refine Pa.ist (by rfl) (by rfl) (.inl rfl) (by rfl) (by rfl) ?_
    show Pa N 152 0 [(0, .int (yA.1 75 (((20 * (ocM yA yc 4)) + (yA.1 76 ((ocM yA yc 0).toInt.toNat))).toInt.toNat))), (1, .int 1), (2, .int (yk + 1))] [] yA _
    refine Pa.mp 2 (pc' := 2) (l' := [(0, .int (yA.1 75 (((20 * (ocM yA yc 4)) + (yA.1 76 ((ocM yA yc 0).toInt.toNat))).toInt.toNat))), (1, .int 1), (2, .int (yk + 1))]) (st' := [.int 1, .int (yA.1 75 (((20 * (ocM yA yc 4)) + (yA.1 76 ((ocM yA yc 0).toInt.toNat))).toInt.toNat))]) (by rfl) ?_
    refine Pa.if2 (a := (yA.1 75 (((20 * (ocM yA yc 4)) + (yA.1 76 ((ocM yA yc 0).toInt.toNat))).toInt.toNat)).toInt) (b := 1) (t := 14) (by rfl) (by rfl) (rfl) (by decide) (fun h9 => ?_) (fun h10 => ?_)
    · have h9 : (yA.1 75 (((20 * (ocM yA yc 4)) + (yA.1 76 ((ocM yA yc 0).toInt.toNat))).toInt.toNat)).toInt < 1 := h9
      refine Pa.ic (x := 0) (pc' := 15) (by rfl) (by rfl) (by decide) ?_
      refine Pa.iret (by rfl) ?_
      show Pa N 166 18 [(0, .ref 69), (1, .int (ocM yA yc 4)), (2, .int (yA.1 76 ((ocM yA yc 0).toInt.toNat))), (3, .int yk)] [.int 0] yA _
      refine Pa.iret (by rfl) ?_
      show Pa N 186 34 [(0, .ref 69), (1, .int yc), (2, .int yk)] [.int 0] yA _
      refine Pa.if1k true (by rfl) (by rfl) (by decide) ?_
      show Pa N 186 41 [(0, .ref 69), (1, .int yc), (2, .int yk)] [] yA _
      refine Pa.ic (x := 0) (pc' := 42) (by rfl) (by rfl) (by decide) ?_
      refine Pa.iret (by rfl) ?_
      exact l2 h1 h2 h4 h5 h6 h7 h8 h9
    · have h10 : 1 ≤ (yA.1 75 (((20 * (ocM yA yc 4)) + (yA.1 76 ((ocM yA yc 0).toInt.toNat))).toInt.toNat)).toInt := h10
      refine Pa.mp 2 (pc' := 7) (l' := [(0, .int (yA.1 75 (((20 * (ocM yA yc 4)) + (yA.1 76 ((ocM yA yc 0).toInt.toNat))).toInt.toNat))), (1, .int 1), (2, .int (yk + 1))]) (st' := [.int (yk + 1), .int (yA.1 75 (((20 * (ocM yA yc 4)) + (yA.1 76 ((ocM yA yc 0).toInt.toNat))).toInt.toNat))]) (by rfl) ?_
      refine Pa.if2 (a := (yA.1 75 (((20 * (ocM yA yc 4)) + (yA.1 76 ((ocM yA yc 0).toInt.toNat))).toInt.toNat)).toInt) (b := (yk + 1).toInt) (t := 14) (by rfl) (by rfl) (rfl) (rfl) (fun h11 => ?_) (fun h12 => ?_)
      · have h11 : (yk + 1).toInt < (yA.1 75 (((20 * (ocM yA yc 4)) + (yA.1 76 ((ocM yA yc 0).toInt.toNat))).toInt.toNat)).toInt := h11
        refine Pa.ic (x := 0) (pc' := 15) (by rfl) (by rfl) (by decide) ?_
        refine Pa.iret (by rfl) ?_
        show Pa N 166 18 [(0, .ref 69), (1, .int (ocM yA yc 4)), (2, .int (yA.1 76 ((ocM yA yc 0).toInt.toNat))), (3, .int yk)] [.int 0] yA _
        refine Pa.iret (by rfl) ?_
        show Pa N 186 34 [(0, .ref 69), (1, .int yc), (2, .int yk)] [.int 0] yA _
        refine Pa.if1k true (by rfl) (by rfl) (by decide) ?_
        show Pa N 186 41 [(0, .ref 69), (1, .int yc), (2, .int yk)] [] yA _
        refine Pa.ic (x := 0) (pc' := 42) (by rfl) (by rfl) (by decide) ?_
        refine Pa.iret (by rfl) ?_
        exact l3 h1 h2 h4 h5 h6 h7 h8 h10 h11
      · have h12 : (yA.1 75 (((20 * (ocM yA yc 4)) + (yA.1 76 ((ocM yA yc 0).toInt.toNat))).toInt.toNat)).toInt ≤ (yk + 1).toInt := h12
        refine Pa.ic (x := 1) (pc' := 11) (by rfl) (by rfl) (by decide) ?_
        refine Pa.mp 1 (pc' := 15) (l' := [(0, .int (yA.1 75 (((20 * (ocM yA yc 4)) + (yA.1 76 ((ocM yA yc 0).toInt.toNat))).toInt.toNat))), (1, .int 1), (2, .int (yk + 1))]) (st' := [.int 1]) (by rfl) ?_
        refine Pa.iret (by rfl) ?_
        show Pa N 166 18 [(0, .ref 69), (1, .int (ocM yA yc 4)), (2, .int (yA.1 76 ((ocM yA yc 0).toInt.toNat))), (3, .int yk)] [.int 1] yA _
        refine Pa.iret (by rfl) ?_
        show Pa N 186 34 [(0, .ref 69), (1, .int yc), (2, .int yk)] [.int 1] yA _
        refine Pa.if1k false (by rfl) (by rfl) (by decide) ?_
        show Pa N 186 37 [(0, .ref 69), (1, .int yc), (2, .int yk)] [] yA _
        refine Pa.ic (x := 1) (pc' := 38) (by rfl) (by rfl) (by decide) ?_
        refine Pa.mp 1 (pc' := 42) (l' := [(0, .ref 69), (1, .int yc), (2, .int yk)]) (st' := [.int 1]) (by rfl) ?_
        refine Pa.iret (by rfl) ?_
        exact l4 h1 h2 h4 h5 h6 h7 h8 h10 h12

theorem bm_fa0 {N : Nat} {yA : AW} {yQ : Option Value → AW → Prop} (yc yk : Int32)
    (l1 : Pa N 180 0 [(0, .ref 69), (1, .int yc), (2, .int yk)] [] yA (fun yu A1 => Pa N 187 6 [(0, .ref 69), (1, .int yc), (2, .int yk)] (yu.toList ++ []) A1 yQ)) :
    Pa N 187 0 [(0, .ref 69), (1, .int yc), (2, .int yk)] [] yA yQ := by
  refine Pa.mp 3 (pc' := 3) (l' := [(0, .ref 69), (1, .int yc), (2, .int yk)]) (st' := [.int yk, .int yc, .ref 69]) (by rfl) ?_
  refine Pa.inv (by rfl) (by rfl) (.inl rfl) (by rfl) ?_
  exact l1

theorem bm_fa1 {N : Nat} {yA : AW} {yQ : Option Value → AW → Prop} (yc yk yv : Int32)
    (l1 : Pa N 186 0 [(0, .ref 69), (1, .int yc), (2, .int yk)] [] yA (fun yu A1 => Pa N 187 13 [(0, .ref 69), (1, .int yc), (2, .int yk), (3, .int yv)] (yu.toList ++ []) A1 yQ)) :
    Pa N 187 6 [(0, .ref 69), (1, .int yc), (2, .int yk)] [.int yv] yA yQ := by
  refine Pa.mp 4 (pc' := 10) (l' := [(3, .int yv), (0, .ref 69), (1, .int yc), (2, .int yk)]) (st' := [.int yk, .int yc, .ref 69]) (by rfl) ?_
  refine Pa.lv (l' := [(0, .ref 69), (1, .int yc), (2, .int yk), (3, .int yv)]) (lvS_c rfl (lvS_c rfl (lvS_c rfl (lvS_c rfl (lvS_nil))))) rfl ?_
  refine Pa.inv (by rfl) (by rfl) (.inl rfl) (by rfl) ?_
  exact l1

theorem bm_fa2 {N : Nat} {yA : AW} {yQ : Option Value → AW → Prop} (yc yk yv yx : Int32)
    (l1 : yx.toInt ≠ 0 → Pa N 184 0 [(0, .ref 69), (1, .int yc), (2, .int yk)] [] yA (fun yu A1 => Pa N 187 24 [(0, .ref 69), (1, .int yc), (2, .int yk), (3, .int yv)] (yu.toList ++ []) A1 yQ))
    (l2 : yx.toInt = 0 → yQ (some (.int yv)) yA) :
    Pa N 187 13 [(0, .ref 69), (1, .int yc), (2, .int yk), (3, .int yv)] [.int yx] yA yQ := by
  refine Pa.if1 (a := yx.toInt) (t := 18) (by rfl) (by rfl) (rfl) (fun h1 => ?_) (fun h2 => ?_)
  · have h1 : yx.toInt ≠ 0 := h1
    refine Pa.mp 3 (pc' := 21) (l' := [(0, .ref 69), (1, .int yc), (2, .int yk), (3, .int yv)]) (st' := [.int yk, .int yc, .ref 69]) (by rfl) ?_
    refine Pa.inv (by rfl) (by rfl) (.inl rfl) (by rfl) ?_
    exact l1 h1
  · have h2 : yx.toInt = 0 := h2
    refine Pa.mp 1 (pc' := 17) (l' := [(0, .ref 69), (1, .int yc), (2, .int yk), (3, .int yv)]) (st' := [.int yv]) (by rfl) ?_
    refine Pa.iret (by rfl) ?_
    exact l2 h2

theorem bm_fa3 {N : Nat} {yA : AW} {yQ : Option Value → AW → Prop} (yc yk yv yx : Int32)
    (l1 : yx.toInt ≠ 0 → 0 ≤ ((yx - 1) / 2).toInt → ((yx - 1) / 2).toInt < 120 → (yA.1 116 (((yx - 1) / 2).toInt.toNat)).toInt ≤ yv.toInt → yQ (some (.int (yA.1 116 (((yx - 1) / 2).toInt.toNat)))) yA)
    (l2 : yx.toInt ≠ 0 → 0 ≤ ((yx - 1) / 2).toInt → ((yx - 1) / 2).toInt < 120 → yv.toInt < (yA.1 116 (((yx - 1) / 2).toInt.toNat)).toInt → yQ (some (.int yv)) yA)
    (l3 : yx.toInt = 0 → 0 ≤ yv.toInt → yQ (some (.int 0)) yA)
    (l4 : yx.toInt = 0 → yv.toInt < 0 → yQ (some (.int yv)) yA) :
    Pa N 187 24 [(0, .ref 69), (1, .int yc), (2, .int yk), (3, .int yv)] [.int yx] yA yQ := by
  refine Pa.mp 2 (pc' := 28) (l' := [(4, .int yx), (0, .ref 69), (1, .int yc), (2, .int yk), (3, .int yv)]) (st' := [.int yx]) (by rfl) ?_
  refine Pa.if1 (a := yx.toInt) (t := 35) (by rfl) (by rfl) (rfl) (fun h1 => ?_) (fun h2 => ?_)
  · have h1 : yx.toInt ≠ 0 := h1
    refine Pa.mp 1 (pc' := 36) (l' := [(4, .int yx), (0, .ref 69), (1, .int yc), (2, .int yk), (3, .int yv)]) (st' := [.ref 69]) (by rfl) ?_
    refine Pa.gfR (by rfl) (by rfl) (.inl rfl) (by rfl) ?_
    show Pa N 187 39 [(4, .int yx), (0, .ref 69), (1, .int yc), (2, .int yk), (3, .int yv)] [.ref 116] yA _
    refine Pa.mp 1 (pc' := 41) (l' := [(4, .int yx), (0, .ref 69), (1, .int yc), (2, .int yk), (3, .int yv)]) (st' := [.int yx, .ref 116]) (by rfl) ?_
    refine Pa.ic (x := 1) (pc' := 42) (by rfl) (by rfl) (by decide) ?_
    refine Pa.mp 1 (pc' := 43) (l' := [(4, .int yx), (0, .ref 69), (1, .int yc), (2, .int yk), (3, .int yv)]) (st' := [.int (yx - 1), .ref 116]) (by rfl) ?_
    refine Pa.ic (x := 2) (pc' := 44) (by rfl) (by rfl) (by decide) ?_
    refine Pa.idiv (by rfl) ?_
    refine Pa.alds (v := yA.1 116 (((yx - 1) / 2).toInt.toNat)) (by rfl) (by rfl) (by rfl) (fun h3 h4 => ?_)
    have h3 : 0 ≤ ((yx - 1) / 2).toInt := h3
    have h4 : ((yx - 1) / 2).toInt < 120 := h4
    refine Pa.mp 3 (pc' := 51) (l' := [(5, .int (yA.1 116 (((yx - 1) / 2).toInt.toNat))), (4, .int yx), (0, .ref 69), (1, .int yc), (2, .int yk), (3, .int yv)]) (st' := [.int (yA.1 116 (((yx - 1) / 2).toInt.toNat)), .int yv]) (by rfl) ?_
    refine Pa.if2 (a := yv.toInt) (b := (yA.1 116 (((yx - 1) / 2).toInt.toNat)).toInt) (t := 58) (by rfl) (by rfl) (rfl) (rfl) (fun h5 => ?_) (fun h6 => ?_)
    · have h5 : (yA.1 116 (((yx - 1) / 2).toInt.toNat)).toInt ≤ yv.toInt := h5
      refine Pa.mp 1 (pc' := 60) (l' := [(5, .int (yA.1 116 (((yx - 1) / 2).toInt.toNat))), (4, .int yx), (0, .ref 69), (1, .int yc), (2, .int yk), (3, .int yv)]) (st' := [.int (yA.1 116 (((yx - 1) / 2).toInt.toNat))]) (by rfl) ?_
      refine Pa.iret (by rfl) ?_
      exact l1 h1 h3 h4 h5
    · have h6 : yv.toInt < (yA.1 116 (((yx - 1) / 2).toInt.toNat)).toInt := h6
      refine Pa.mp 2 (pc' := 60) (l' := [(5, .int (yA.1 116 (((yx - 1) / 2).toInt.toNat))), (4, .int yx), (0, .ref 69), (1, .int yc), (2, .int yk), (3, .int yv)]) (st' := [.int yv]) (by rfl) ?_
      refine Pa.iret (by rfl) ?_
      exact l2 h1 h3 h4 h6
  · have h2 : yx.toInt = 0 := h2
    refine Pa.ic (x := 0) (pc' := 32) (by rfl) (by rfl) (by decide) ?_
    refine Pa.mp 4 (pc' := 51) (l' := [(5, .int 0), (4, .int yx), (0, .ref 69), (1, .int yc), (2, .int yk), (3, .int yv)]) (st' := [.int 0, .int yv]) (by rfl) ?_
    refine Pa.if2 (a := yv.toInt) (b := 0) (t := 58) (by rfl) (by rfl) (rfl) (by decide) (fun h7 => ?_) (fun h8 => ?_)
    · have h7 : 0 ≤ yv.toInt := h7
      refine Pa.mp 1 (pc' := 60) (l' := [(5, .int 0), (4, .int yx), (0, .ref 69), (1, .int yc), (2, .int yk), (3, .int yv)]) (st' := [.int 0]) (by rfl) ?_
      refine Pa.iret (by rfl) ?_
      exact l3 h2 h7
    · have h8 : yv.toInt < 0 := h8
      refine Pa.mp 2 (pc' := 60) (l' := [(5, .int 0), (4, .int yx), (0, .ref 69), (1, .int yc), (2, .int yk), (3, .int yv)]) (st' := [.int yv]) (by rfl) ?_
      refine Pa.iret (by rfl) ?_
      exact l4 h2 h8

theorem bm_dbl {N : Nat} {yA : AW} {yQ : Option Value → AW → Prop} (yc yd : Int32)
    (l1 : (ocM yA yc 0).toInt ≠ (ocM yA yd 0).toInt → (ocM yA yc 5).toInt ≠ (ocM yA yd 5).toInt → yQ (some (.int 0)) yA)
    (l2 : (ocM yA yc 0).toInt ≠ (ocM yA yd 0).toInt → (ocM yA yc 5).toInt = (ocM yA yd 5).toInt → yQ (some (.int 1)) yA)
    (l3 : (ocM yA yc 0).toInt = (ocM yA yd 0).toInt → (ocM yA yc 2).toInt = (ocM yA yd 2).toInt → yQ (some (.int 0)) yA)
    (l4 : (ocM yA yc 0).toInt = (ocM yA yd 0).toInt → (ocM yA yc 2).toInt ≠ (ocM yA yd 2).toInt → (ocM yA yc 5).toInt ≠ (ocM yA yd 5).toInt → yQ (some (.int 0)) yA)
    (l5 : (ocM yA yc 0).toInt = (ocM yA yd 0).toInt → (ocM yA yc 2).toInt ≠ (ocM yA yd 2).toInt → (ocM yA yc 5).toInt = (ocM yA yd 5).toInt → yQ (some (.int 1)) yA) :
    Pa N 188 0 [(0, .ref 69), (1, .int yc), (2, .int yd)] [] yA yQ := by
  refine Pa.mp 2 (pc' := 2) (l' := [(0, .ref 69), (1, .int yc), (2, .int yd)]) (st' := [.int yc, .ref 69]) (by rfl) ?_
  refine Pa.ic (x := 0) (pc' := 3) (by rfl) (by rfl) (by decide) ?_
  refine Pa.inv (by rfl) (by rfl) (.inl rfl) (by rfl) ?_
  refine Pa.mono (c_oc N yA yA yc 0 (fun _ => by first | rfl | (repeat rw [uI_c (by decide)]))) (fun yu A1 hu => ?_)
  obtain ⟨rfl, hu⟩ := hu
  rw [hu]
  show Pa N 188 6 [(0, .ref 69), (1, .int yc), (2, .int yd)] [.int (ocM yA yc 0)] yA _
  refine Pa.mp 2 (pc' := 8) (l' := [(0, .ref 69), (1, .int yc), (2, .int yd)]) (st' := [.int yd, .ref 69, .int (ocM yA yc 0)]) (by rfl) ?_
  refine Pa.ic (x := 0) (pc' := 9) (by rfl) (by rfl) (by decide) ?_
  refine Pa.inv (by rfl) (by rfl) (.inl rfl) (by rfl) ?_
  refine Pa.mono (c_oc N yA yA yd 0 (fun _ => by first | rfl | (repeat rw [uI_c (by decide)]))) (fun yu A1 hu => ?_)
  obtain ⟨rfl, hu⟩ := hu
  rw [hu]
  show Pa N 188 12 [(0, .ref 69), (1, .int yc), (2, .int yd)] [.int (ocM yA yd 0), .int (ocM yA yc 0)] yA _
  refine Pa.if2 (a := (ocM yA yc 0).toInt) (b := (ocM yA yd 0).toInt) (t := 30) (by rfl) (by rfl) (rfl) (rfl) (fun h1 => ?_) (fun h2 => ?_)
  · have h1 : (ocM yA yc 0).toInt ≠ (ocM yA yd 0).toInt := h1
    refine Pa.ic (x := 1) (pc' := 31) (by rfl) (by rfl) (by decide) ?_
    refine Pa.mp 3 (pc' := 37) (l' := [(3, .int 1), (0, .ref 69), (1, .int yc), (2, .int yd)]) (st' := [.int 1]) (by rfl) ?_
    refine Pa.if1k false (by rfl) (by rfl) (by decide) ?_
    show Pa N 188 40 [(3, .int 1), (0, .ref 69), (1, .int yc), (2, .int yd)] [] yA _
    refine Pa.mp 2 (pc' := 42) (l' := [(3, .int 1), (0, .ref 69), (1, .int yc), (2, .int yd)]) (st' := [.int yc, .ref 69]) (by rfl) ?_
    refine Pa.ic (x := 5) (pc' := 43) (by rfl) (by rfl) (by decide) ?_
    refine Pa.inv (by rfl) (by rfl) (.inl rfl) (by rfl) ?_
    refine Pa.mono (c_oc N yA yA yc 5 (fun _ => by first | rfl | (repeat rw [uI_c (by decide)]))) (fun yu A1 hu => ?_)
    obtain ⟨rfl, hu⟩ := hu
    rw [hu]
    show Pa N 188 46 [(3, .int 1), (0, .ref 69), (1, .int yc), (2, .int yd)] [.int (ocM yA yc 5)] yA _
    refine Pa.mp 2 (pc' := 48) (l' := [(3, .int 1), (0, .ref 69), (1, .int yc), (2, .int yd)]) (st' := [.int yd, .ref 69, .int (ocM yA yc 5)]) (by rfl) ?_
    refine Pa.ic (x := 5) (pc' := 49) (by rfl) (by rfl) (by decide) ?_
    refine Pa.inv (by rfl) (by rfl) (.inl rfl) (by rfl) ?_
    refine Pa.mono (c_oc N yA yA yd 5 (fun _ => by first | rfl | (repeat rw [uI_c (by decide)]))) (fun yu A1 hu => ?_)
    obtain ⟨rfl, hu⟩ := hu
    rw [hu]
    show Pa N 188 52 [(3, .int 1), (0, .ref 69), (1, .int yc), (2, .int yd)] [.int (ocM yA yd 5), .int (ocM yA yc 5)] yA _
    refine Pa.if2 (a := (ocM yA yc 5).toInt) (b := (ocM yA yd 5).toInt) (t := 59) (by rfl) (by rfl) (rfl) (rfl) (fun h3 => ?_) (fun h4 => ?_)
    · have h3 : (ocM yA yc 5).toInt ≠ (ocM yA yd 5).toInt := h3
      refine Pa.ic (x := 0) (pc' := 60) (by rfl) (by rfl) (by decide) ?_
      refine Pa.iret (by rfl) ?_
      exact l1 h1 h3
    · have h4 : (ocM yA yc 5).toInt = (ocM yA yd 5).toInt := h4
      refine Pa.ic (x := 1) (pc' := 56) (by rfl) (by rfl) (by decide) ?_
      refine Pa.mp 1 (pc' := 60) (l' := [(3, .int 1), (0, .ref 69), (1, .int yc), (2, .int yd)]) (st' := [.int 1]) (by rfl) ?_
      refine Pa.iret (by rfl) ?_
      exact l2 h1 h4
  · have h2 : (ocM yA yc 0).toInt = (ocM yA yd 0).toInt := h2
    refine Pa.mp 2 (pc' := 17) (l' := [(0, .ref 69), (1, .int yc), (2, .int yd)]) (st' := [.int yc, .ref 69]) (by rfl) ?_
    refine Pa.ic (x := 2) (pc' := 18) (by rfl) (by rfl) (by decide) ?_
    refine Pa.inv (by rfl) (by rfl) (.inl rfl) (by rfl) ?_
    refine Pa.mono (c_oc N yA yA yc 2 (fun _ => by first | rfl | (repeat rw [uI_c (by decide)]))) (fun yu A1 hu => ?_)
    obtain ⟨rfl, hu⟩ := hu
    rw [hu]
    show Pa N 188 21 [(0, .ref 69), (1, .int yc), (2, .int yd)] [.int (ocM yA yc 2)] yA _
    refine Pa.mp 2 (pc' := 23) (l' := [(0, .ref 69), (1, .int yc), (2, .int yd)]) (st' := [.int yd, .ref 69, .int (ocM yA yc 2)]) (by rfl) ?_
    refine Pa.ic (x := 2) (pc' := 24) (by rfl) (by rfl) (by decide) ?_
    refine Pa.inv (by rfl) (by rfl) (.inl rfl) (by rfl) ?_
    refine Pa.mono (c_oc N yA yA yd 2 (fun _ => by first | rfl | (repeat rw [uI_c (by decide)]))) (fun yu A1 hu => ?_)
    obtain ⟨rfl, hu⟩ := hu
    rw [hu]
    show Pa N 188 27 [(0, .ref 69), (1, .int yc), (2, .int yd)] [.int (ocM yA yd 2), .int (ocM yA yc 2)] yA _
    refine Pa.if2 (a := (ocM yA yc 2).toInt) (b := (ocM yA yd 2).toInt) (t := 34) (by rfl) (by rfl) (rfl) (rfl) (fun h5 => ?_) (fun h6 => ?_)
    · have h5 : (ocM yA yc 2).toInt = (ocM yA yd 2).toInt := h5
      refine Pa.ic (x := 0) (pc' := 35) (by rfl) (by rfl) (by decide) ?_
      refine Pa.mp 2 (pc' := 37) (l' := [(3, .int 0), (0, .ref 69), (1, .int yc), (2, .int yd)]) (st' := [.int 0]) (by rfl) ?_
      refine Pa.if1k true (by rfl) (by rfl) (by decide) ?_
      show Pa N 188 59 [(3, .int 0), (0, .ref 69), (1, .int yc), (2, .int yd)] [] yA _
      refine Pa.ic (x := 0) (pc' := 60) (by rfl) (by rfl) (by decide) ?_
      refine Pa.iret (by rfl) ?_
      exact l3 h2 h5
    · have h6 : (ocM yA yc 2).toInt ≠ (ocM yA yd 2).toInt := h6
      refine Pa.ic (x := 1) (pc' := 31) (by rfl) (by rfl) (by decide) ?_
      refine Pa.mp 3 (pc' := 37) (l' := [(3, .int 1), (0, .ref 69), (1, .int yc), (2, .int yd)]) (st' := [.int 1]) (by rfl) ?_
      refine Pa.if1k false (by rfl) (by rfl) (by decide) ?_
      show Pa N 188 40 [(3, .int 1), (0, .ref 69), (1, .int yc), (2, .int yd)] [] yA _
      refine Pa.mp 2 (pc' := 42) (l' := [(3, .int 1), (0, .ref 69), (1, .int yc), (2, .int yd)]) (st' := [.int yc, .ref 69]) (by rfl) ?_
      refine Pa.ic (x := 5) (pc' := 43) (by rfl) (by rfl) (by decide) ?_
      refine Pa.inv (by rfl) (by rfl) (.inl rfl) (by rfl) ?_
      refine Pa.mono (c_oc N yA yA yc 5 (fun _ => by first | rfl | (repeat rw [uI_c (by decide)]))) (fun yu A1 hu => ?_)
      obtain ⟨rfl, hu⟩ := hu
      rw [hu]
      show Pa N 188 46 [(3, .int 1), (0, .ref 69), (1, .int yc), (2, .int yd)] [.int (ocM yA yc 5)] yA _
      refine Pa.mp 2 (pc' := 48) (l' := [(3, .int 1), (0, .ref 69), (1, .int yc), (2, .int yd)]) (st' := [.int yd, .ref 69, .int (ocM yA yc 5)]) (by rfl) ?_
      refine Pa.ic (x := 5) (pc' := 49) (by rfl) (by rfl) (by decide) ?_
      refine Pa.inv (by rfl) (by rfl) (.inl rfl) (by rfl) ?_
      refine Pa.mono (c_oc N yA yA yd 5 (fun _ => by first | rfl | (repeat rw [uI_c (by decide)]))) (fun yu A1 hu => ?_)
      obtain ⟨rfl, hu⟩ := hu
      rw [hu]
      show Pa N 188 52 [(3, .int 1), (0, .ref 69), (1, .int yc), (2, .int yd)] [.int (ocM yA yd 5), .int (ocM yA yc 5)] yA _
      refine Pa.if2 (a := (ocM yA yc 5).toInt) (b := (ocM yA yd 5).toInt) (t := 59) (by rfl) (by rfl) (rfl) (rfl) (fun h7 => ?_) (fun h8 => ?_)
      · have h7 : (ocM yA yc 5).toInt ≠ (ocM yA yd 5).toInt := h7
        refine Pa.ic (x := 0) (pc' := 60) (by rfl) (by rfl) (by decide) ?_
        refine Pa.iret (by rfl) ?_
        exact l4 h2 h6 h7
      · have h8 : (ocM yA yc 5).toInt = (ocM yA yd 5).toInt := h8
        refine Pa.ic (x := 1) (pc' := 56) (by rfl) (by rfl) (by decide) ?_
        refine Pa.mp 1 (pc' := 60) (l' := [(3, .int 1), (0, .ref 69), (1, .int yc), (2, .int yd)]) (st' := [.int 1]) (by rfl) ?_
        refine Pa.iret (by rfl) ?_
        exact l5 h2 h6 h8

theorem bm_lt0 {N : Nat} {yA : AW} {yQ : Option Value → AW → Prop} (yc : Int32)
    (l1 : Pa N 189 4 [(0, .ref 69), (1, .int yc), (2, .int 0), (3, .int 0)] [] yA yQ) :
    Pa N 189 0 [(0, .ref 69), (1, .int yc)] [] yA yQ := by
  refine Pa.ic (x := 0) (pc' := 1) (by rfl) (by rfl) (by decide) ?_
  refine Pa.mp 1 (pc' := 2) (l' := [(2, .int 0), (0, .ref 69), (1, .int yc)]) (st' := []) (by rfl) ?_
  refine Pa.ic (x := 0) (pc' := 3) (by rfl) (by rfl) (by decide) ?_
  refine Pa.mp 1 (pc' := 4) (l' := [(3, .int 0), (2, .int 0), (0, .ref 69), (1, .int yc)]) (st' := []) (by rfl) ?_
  refine Pa.lv (l' := [(0, .ref 69), (1, .int yc), (2, .int 0), (3, .int 0)]) (lvS_c rfl (lvS_c rfl (lvS_c rfl (lvS_c rfl (lvS_nil))))) rfl ?_
  exact l1

theorem bm_lt {N : Nat} {yA : AW} {yQ : Option Value → AW → Prop} (yc yb yd : Int32)
    (l1 : yc.toInt ≤ yd.toInt → yQ (some (.int yb)) yA)
    (l2 : yd.toInt < yc.toInt → yb.toInt ≠ 0 → Pa N 189 4 [(0, .ref 69), (1, .int yc), (2, .int 1), (3, .int (yd + 1))] [] yA yQ)
    (l3 : yd.toInt < yc.toInt → yb.toInt = 0 → Pa N 188 0 [(0, .ref 69), (1, .int yc), (2, .int yd)] [] yA (fun yu A1 => Pa N 189 19 [(0, .ref 69), (1, .int yc), (2, .int yb), (3, .int yd)] (yu.toList ++ []) A1 yQ)) :
    Pa (N + 1) 189 4 [(0, .ref 69), (1, .int yc), (2, .int yb), (3, .int yd)] [] yA yQ := by
  refine Pa.mp1 1 (pc' := 6) (l' := [(0, .ref 69), (1, .int yc), (2, .int yb), (3, .int yd)]) (st' := [.int yc, .int yd]) (by rfl) ?_
  refine Pa.if2 (a := yd.toInt) (b := yc.toInt) (t := 34) (by rfl) (by rfl) (rfl) (rfl) (fun h1 => ?_) (fun h2 => ?_)
  · have h1 : yc.toInt ≤ yd.toInt := h1
    refine Pa.mp 1 (pc' := 35) (l' := [(0, .ref 69), (1, .int yc), (2, .int yb), (3, .int yd)]) (st' := [.int yb]) (by rfl) ?_
    refine Pa.iret (by rfl) ?_
    exact l1 h1
  · have h2 : yd.toInt < yc.toInt := h2
    refine Pa.mp 1 (pc' := 10) (l' := [(0, .ref 69), (1, .int yc), (2, .int yb), (3, .int yd)]) (st' := [.int yb]) (by rfl) ?_
    refine Pa.if1 (a := yb.toInt) (t := 22) (by rfl) (by rfl) (rfl) (fun h3 => ?_) (fun h4 => ?_)
    · have h3 : yb.toInt ≠ 0 := h3
      refine Pa.ic (x := 1) (pc' := 23) (by rfl) (by rfl) (by decide) ?_
      refine Pa.mp 2 (pc' := 28) (l' := [(2, .int 1), (0, .ref 69), (1, .int yc), (3, .int yd)]) (st' := []) (by rfl) ?_
      refine Pa.iinc (x := yd) (c := 1) (v := (yd + 1)) (l' := [(3, .int (yd + 1)), (2, .int 1), (0, .ref 69), (1, .int yc)]) (by rfl) (by rfl) (by decide) (by rfl) (by rfl) ?_
      refine Pa.mp 1 (pc' := 4) (l' := [(3, .int (yd + 1)), (2, .int 1), (0, .ref 69), (1, .int yc)]) (st' := []) (by rfl) ?_
      refine Pa.lv (l' := [(0, .ref 69), (1, .int yc), (2, .int 1), (3, .int (yd + 1))]) (lvS_c rfl (lvS_c rfl (lvS_c rfl (lvS_c rfl (lvS_nil))))) rfl ?_
      exact l2 h2 h3
    · have h4 : yb.toInt = 0 := h4
      refine Pa.mp 3 (pc' := 16) (l' := [(0, .ref 69), (1, .int yc), (2, .int yb), (3, .int yd)]) (st' := [.int yd, .int yc, .ref 69]) (by rfl) ?_
      refine Pa.inv (by rfl) (by rfl) (.inl rfl) (by rfl) ?_
      exact l3 h2 h4

theorem bm_lt1 {N : Nat} {yA : AW} {yQ : Option Value → AW → Prop} (yc yb yd yx : Int32)
    (l1 : yx.toInt = 0 → Pa N 189 4 [(0, .ref 69), (1, .int yc), (2, .int 0), (3, .int (yd + 1))] [] yA yQ)
    (l2 : yx.toInt ≠ 0 → Pa N 189 4 [(0, .ref 69), (1, .int yc), (2, .int 1), (3, .int (yd + 1))] [] yA yQ) :
    Pa N 189 19 [(0, .ref 69), (1, .int yc), (2, .int yb), (3, .int yd)] [.int yx] yA yQ := by
  refine Pa.if1 (a := yx.toInt) (t := 26) (by rfl) (by rfl) (rfl) (fun h1 => ?_) (fun h2 => ?_)
  · have h1 : yx.toInt = 0 := h1
    refine Pa.ic (x := 0) (pc' := 27) (by rfl) (by rfl) (by decide) ?_
    refine Pa.mp 1 (pc' := 28) (l' := [(2, .int 0), (0, .ref 69), (1, .int yc), (3, .int yd)]) (st' := []) (by rfl) ?_
    refine Pa.iinc (x := yd) (c := 1) (v := (yd + 1)) (l' := [(3, .int (yd + 1)), (2, .int 0), (0, .ref 69), (1, .int yc)]) (by rfl) (by rfl) (by decide) (by rfl) (by rfl) ?_
    refine Pa.mp 1 (pc' := 4) (l' := [(3, .int (yd + 1)), (2, .int 0), (0, .ref 69), (1, .int yc)]) (st' := []) (by rfl) ?_
    refine Pa.lv (l' := [(0, .ref 69), (1, .int yc), (2, .int 0), (3, .int (yd + 1))]) (lvS_c rfl (lvS_c rfl (lvS_c rfl (lvS_c rfl (lvS_nil))))) rfl ?_
    exact l1 h1
  · have h2 : yx.toInt ≠ 0 := h2
    refine Pa.ic (x := 1) (pc' := 23) (by rfl) (by rfl) (by decide) ?_
    refine Pa.mp 2 (pc' := 28) (l' := [(2, .int 1), (0, .ref 69), (1, .int yc), (3, .int yd)]) (st' := []) (by rfl) ?_
    refine Pa.iinc (x := yd) (c := 1) (v := (yd + 1)) (l' := [(3, .int (yd + 1)), (2, .int 1), (0, .ref 69), (1, .int yc)]) (by rfl) (by rfl) (by decide) (by rfl) (by rfl) ?_
    refine Pa.mp 1 (pc' := 4) (l' := [(3, .int (yd + 1)), (2, .int 1), (0, .ref 69), (1, .int yc)]) (st' := []) (by rfl) ?_
    refine Pa.lv (l' := [(0, .ref 69), (1, .int yc), (2, .int 1), (3, .int (yd + 1))]) (lvS_c rfl (lvS_c rfl (lvS_c rfl (lvS_c rfl (lvS_nil))))) rfl ?_
    exact l2 h2

theorem c_relM {B9 yA yW : AW} (hs : smM B9 yA yW) {yc : Nat} (yhc : yc < 150) (yk : Int32) (hk0 : 0 ≤ yk.toInt) (hk : yk.toInt ≤ 3599) (N : Nat) : Pa N 186 0 [(0, .ref 69), (1, .int (Int32.ofNat yc)), (2, .int yk)] [] yW (fun yu A1 => yu = some (.int (rlV yA yc yk)) ∧ A1 = yW) := by
  have ec : (Int32.ofNat yc).toInt.toNat = yc := by rw [i32_nat (by omega)]; omega
  have ylo : ∀ yc yj, 69 < yc → yc < 115 → yW.1 yc yj = yA.1 yc yj := fun yc yj yp1 yp2 => hs.lo yp1 yp2 yj
  have yo0 : ocM yW (Int32.ofNat yc) 0 = yA.1 90 (7 * yc) := ocM_at hs yhc (yn := 0) (by decide) (by decide)
  have yo4 : ocM yW (Int32.ofNat yc) 4 = yA.1 90 (7 * yc + 4) := ocM_at hs yhc (yn := 4) (by decide) (by decide)
  have ye9 : ((20 * (ocM yW (Int32.ofNat yc) 4)) + (yW.1 76 ((ocM yW (Int32.ofNat yc) 0).toInt.toNat))).toInt = rlx yA yc := by
    unfold rlx
    rw [yo0, yo4, ylo 76 _ (by decide) (by decide)]
  have ye1 : (yk + 1).toInt = yk.toInt + 1 := i32_add1 (by omega)
  have no : ¬ relP yA yc yk → some (Value.int 0) = some (.int (rlV yA yc yk)) ∧ yW = yW := fun yq => ⟨by rw [rlV_0 yq], rfl⟩
  refine bm_rel _ yk (fun _ _ yq => no (fun yz => ?_)) (fun _ _ yq1 _ _ yq2 yq3 yq4 => no (fun yz => ?_)) (fun _ _ yq1 _ _ yq2 yq3 yq4 yq5 => no (fun yz => ?_)) (fun _ _ yq1 _ _ yq2 yq3 yq4 yq5 => ⟨?_, rfl⟩)
  · rw [ec, ylo 89 _ (by decide) (by decide)] at yq
    exact thI_iff.mpr yz.1 yq
  · rw [ye9, ylo 75 _ (by decide) (by decide)] at yq4
    have := yz.2.2.2.1
    omega
  · rw [ye9, ylo 75 _ (by decide) (by decide), ye1] at yq5
    have := yz.2.2.2.2
    omega
  · rw [ye9] at yq2 yq3 yq4 yq5
    rw [ylo 75 _ (by decide) (by decide)] at yq4 yq5
    rw [ec, ylo 89 _ (by decide) (by decide)] at yq1
    rw [ye1] at yq5
    rw [rlV_1 ⟨thI_iff.mp yq1, yq2, yq3, yq4, yq5⟩]
theorem fnd_sm {B9 yA yW : AW} (hs : smM B9 yA yW) (hL : (yA.1 69 37).toInt ≤ 120) {yc : Nat} (yhc : yc < 150) (yk : Int32) : (fndM yW (Int32.ofNat yc) yk).2 = (fndM yA (Int32.ofNat yc) yk).2 ∧ ∃ ym : Nat, ym ≤ 120 ∧ (fndM yW (Int32.ofNat yc) yk).2 = Int32.ofNat ym ∧ ∀ yj, yj < ym → (fndM yW (Int32.ofNat yc) yk).1 yj = (fndM yA (Int32.ofNat yc) yk).1 yj := by
  have ylo : ∀ yc yj, 69 < yc → yc < 115 → yW.1 yc yj = yA.1 yc yj := fun yc yj yp1 yp2 => hs.lo yp1 yp2 yj
  have e37 : yW.1 69 37 = yA.1 69 37 := hs.2.1 37 (by decide) (by decide) (by decide) (by decide) (by decide) (by decide) (by decide) (by decide)
  have hP : ∀ yi, pM yW (Int32.ofNat yc) yk yi = pM yA (Int32.ofNat yc) yk yi := fun yi => by
    unfold pM
    rw [ylo 94 _ (by decide) (by decide), ylo 95 _ (by decide) (by decide), ylo 96 _ (by decide) (by decide), ylo 98 _ (by decide) (by decide), ylo 90 _ (by decide) (by decide), ylo 90 _ (by decide) (by decide), ylo 90 _ (by decide) (by decide)]
  obtain ⟨ye, ym, ym1, ym2, ym3⟩ := gatS_eq (yP := pM yW (Int32.ofNat yc) yk) (yP' := pM yA (Int32.ofNat yc) yk) (yq := yW.1 97) (q' := yA.1 97) (yg := yW.1 116) (g' := yA.1 116) (yn := (yA.1 69 37).toInt.toNat) (by omega) (fun yi _ => hP yi) (fun yi _ => ylo 97 _ (by decide) (by decide))
  have en : fndM yW (Int32.ofNat yc) yk = gatS (pM yW (Int32.ofNat yc) yk) (yW.1 97) (yW.1 116) (yA.1 69 37).toInt.toNat := by
    unfold fndM
    rw [e37]
  rw [en]
  exact ⟨ye, ym, by omega, ym2, ym3⟩
theorem c_kofS {B9 yA yW : AW} (hs : smM B9 yA yW) (yc yk : Int32) (N : Nat) : Pa N 180 0 [(0, .ref 69), (1, .int yc), (2, .int yk)] [] yW (fun yu A1 => yu = some (.int (kofM yA yc yk)) ∧ A1 = yW) :=
  c_kof N yA yW yc yk (funext fun _ => hs.1 91 _ (by decide)) (funext fun _ => hs.1 92 _ (by decide)) (funext fun _ => hs.1 93 _ (by decide))
theorem c_fairM {B9 yA yW : AW} (hs : smM B9 yA yW) (hL : (yA.1 69 37).toInt ≤ 120) {yc : Nat} (yhc : yc < 150) (yk : Int32) (hk0 : 0 ≤ yk.toInt) (hk : yk.toInt ≤ 3599) (N : Nat) : Pa N 187 0 [(0, .ref 69), (1, .int (Int32.ofNat yc)), (2, .int yk)] [] yW (fun yu A1 => yu = some (.int (frV yA yc yk)) ∧ ∃ yG, A1 = uF yW 116 yG) := by
  refine bm_fa0 _ yk (Pa.mono (c_kofS hs _ yk N) (fun yu A1 hu => ?_))
  obtain ⟨rfl, rfl⟩ := hu
  refine bm_fa1 _ yk _ (Pa.mono (c_relM hs yhc yk hk0 hk N) (fun yu A2 hu => ?_))
  obtain ⟨rfl, rfl⟩ := hu
  refine bm_fa2 _ yk _ _ (fun yq => ?_) (fun yq => ⟨?_, A2.1 116, uG_self.symm⟩)
  · have e37 : A2.1 69 37 = yA.1 69 37 := hs.2.1 37 (by decide) (by decide) (by decide) (by decide) (by decide) (by decide) (by decide) (by decide)
    refine Pa.mono (c_fndL N A2 (Int32.ofNat yc) yk (by rw [e37]; exact hL)) (fun yu A3 hu => ?_)
    obtain ⟨rfl, rfl⟩ := hu
    obtain ⟨ye, ym, ym1, ym2, ym3⟩ := fnd_sm hs hL yhc yk
    have em : (Int32.ofNat ym).toInt = (ym : Int) := i32_nat (by omega)
    have ye2 : (fndM yA (Int32.ofNat yc) yk).2 = Int32.ofNat ym := by rw [← ye, ym2]
    have hfr : frV yA yc yk = if (kofM yA (Int32.ofNat yc) yk).toInt < (midV yA yc yk).toInt then kofM yA (Int32.ofNat yc) yk else midV yA yc yk := by
      unfold frV
      rw [if_neg yq]
    have c116 : ∀ yj, (uF A2 116 (fndM A2 (Int32.ofNat yc) yk).1).1 116 yj = (fndM A2 (Int32.ofNat yc) yk).1 yj := fun yj => uF_h
    have mv : ym ≠ 0 → midV yA yc yk = (fndM A2 (Int32.ofNat yc) yk).1 (((Int32.ofNat ym - 1) / 2).toInt.toNat) := fun yz => by
      unfold midV
      rw [ye2, em, if_neg (by omega), ym3 _ (half_lt ym (by omega) (by omega))]
    have mz : ym = 0 → midV yA yc yk = 0 := fun yz => by
      unfold midV
      rw [ye2, em, if_pos (by omega)]
    rw [ym2]
    refine bm_fa3 _ yk _ _ (fun yq1 _ _ yq4 => ⟨?_, _, rfl⟩) (fun yq1 _ _ yq4 => ⟨?_, _, rfl⟩) (fun yq1 yq4 => ⟨?_, _, rfl⟩) (fun yq1 yq4 => ⟨?_, _, rfl⟩)
    · rw [em] at yq1
      rw [c116, ← mv (by omega)] at yq4 ⊢
      rw [hfr, if_neg (by omega)]
    · rw [em] at yq1
      rw [c116, ← mv (by omega)] at yq4
      rw [hfr, if_pos yq4]
    · rw [em] at yq1
      rw [hfr, mz (by omega), if_neg (by rw [show (0 : Int32).toInt = 0 from by decide]; omega)]
    · rw [em] at yq1
      rw [hfr, mz (by omega), if_pos (by rw [show (0 : Int32).toInt = 0 from by decide]; exact yq4)]
  · unfold frV
    rw [if_pos yq]
theorem c_dblM {B9 yA yW : AW} (hs : smM B9 yA yW) {yc yd : Nat} (yhc : yc < 150) (yhd : yd < 150) (N : Nat) : Pa N 188 0 [(0, .ref 69), (1, .int (Int32.ofNat yc)), (2, .int (Int32.ofNat yd))] [] yW (fun yu A1 => ((yu = some (.int 1) ∧ dblP yA yc yd) ∨ (yu = some (.int 0) ∧ ¬ dblP yA yc yd)) ∧ A1 = yW) := by
  have yc0 : ocM yW (Int32.ofNat yc) 0 = yA.1 90 (7 * yc) := ocM_at hs yhc (yn := 0) (by decide) (by decide)
  have yc2 : ocM yW (Int32.ofNat yc) 2 = yA.1 90 (7 * yc + 2) := ocM_at hs yhc (yn := 2) (by decide) (by decide)
  have yc5 : ocM yW (Int32.ofNat yc) 5 = yA.1 90 (7 * yc + 5) := ocM_at hs yhc (yn := 5) (by decide) (by decide)
  have yd0 : ocM yW (Int32.ofNat yd) 0 = yA.1 90 (7 * yd) := ocM_at hs yhd (yn := 0) (by decide) (by decide)
  have yd2 : ocM yW (Int32.ofNat yd) 2 = yA.1 90 (7 * yd + 2) := ocM_at hs yhd (yn := 2) (by decide) (by decide)
  have yd5 : ocM yW (Int32.ofNat yd) 5 = yA.1 90 (7 * yd + 5) := ocM_at hs yhd (yn := 5) (by decide) (by decide)
  refine bm_dbl _ _ (fun yq1 yq2 => ⟨.inr ⟨rfl, ?_⟩, rfl⟩) (fun yq1 yq2 => ⟨.inl ⟨rfl, ?_⟩, rfl⟩) (fun yq1 yq2 => ⟨.inr ⟨rfl, ?_⟩, rfl⟩) (fun yq1 yq2 yq3 => ⟨.inr ⟨rfl, ?_⟩, rfl⟩) (fun yq1 yq2 yq3 => ⟨.inl ⟨rfl, ?_⟩, rfl⟩)
  · rw [yc5, yd5] at yq2
    exact fun yz => yq2 yz.2
  · rw [yc0, yd0] at yq1
    rw [yc5, yd5] at yq2
    exact ⟨.inl yq1, yq2⟩
  · rw [yc0, yd0] at yq1
    rw [yc2, yd2] at yq2
    intro yz
    rcases yz.1 with yz | yz
    · exact yz yq1
    · exact yz yq2
  · rw [yc5, yd5] at yq3
    exact fun yz => yq3 yz.2
  · rw [yc2, yd2] at yq2
    rw [yc5, yd5] at yq3
    exact ⟨.inr yq2, yq3⟩
theorem c_laterM {B9 yA yW : AW} (hs : smM B9 yA yW) {yc : Nat} (yhc : yc < 150) (N : Nat) : Pa N 189 0 [(0, .ref 69), (1, .int (Int32.ofNat yc))] [] yW (fun yu A1 => yu = some (.int (ltV yA yc yc)) ∧ A1 = yW) := by
  have ec : (Int32.ofNat yc).toInt = (yc : Int) := i32_nat (by omega)
  have up1 : ∀ yd, (ltV yA yc yd).toInt ≠ 0 → ltV yA yc (yd + 1) = 1 := fun yd yq => by
    by_cases yz : ∃ ye, ye < yd ∧ dblP yA yc ye
    · obtain ⟨ye, ye1, ye2⟩ := yz
      exact ltV_1 ⟨ye, by omega, ye2⟩
    · rw [ltV_0 yz] at yq
      exact absurd (by decide) yq
  have lt01 : ∀ yd, (ltV yA yc yd).toInt = 0 → ¬ ∃ ye, ye < yd ∧ dblP yA yc ye := fun yd yq yz => by
    rw [ltV_1 yz] at yq
    exact absurd yq (by decide)
  have ykey : ∀ (N ym yd : Nat), yd + ym = yc → Pa N 189 4 [(0, .ref 69), (1, .int (Int32.ofNat yc)), (2, .int (ltV yA yc yd)), (3, .int (Int32.ofNat yd))] [] yW (fun yu A1 => yu = some (.int (ltV yA yc yc)) ∧ A1 = yW) := by
    intro N
    induction N with
    | zero => intros; exact Pa.zero
    | succ N yih =>
      intro ym yd yhd
      have ed : (Int32.ofNat yd).toInt = (yd : Int) := i32_nat (by omega)
      refine bm_lt _ _ _ (fun yq => ?_) (fun yq yq2 => ?_) (fun yq yq2 => ?_)
      · rw [ec, ed] at yq
        rw [show yd = yc from by omega]
        exact ⟨rfl, rfl⟩
      · rw [ec, ed] at yq
        have yh := yih (ym - 1) (yd + 1) (by omega)
        rw [up1 yd yq2, on_succ yd] at yh
        exact yh
      · rw [ec, ed] at yq
        have yh := yih (ym - 1) (yd + 1) (by omega)
        rw [on_succ yd] at yh
        refine Pa.mono (c_dblM hs yhc (yd := yd) (by omega) N) (fun yu A1 hu => ?_)
        obtain ⟨hu, rfl⟩ := hu
        rcases hu with ⟨rfl, yy⟩ | ⟨rfl, yy⟩
        · refine bm_lt1 _ _ _ _ (fun yz => absurd yz (by decide)) (fun _ => ?_)
          rw [ltV_1 ⟨yd, by omega, yy⟩] at yh
          exact yh
        · refine bm_lt1 _ _ _ _ (fun _ => ?_) (fun yz => absurd (by decide) yz)
          rw [ltV_0 (fun ⟨ye, ye1, ye2⟩ => by
            by_cases yz : ye = yd
            · rw [yz] at ye2
              exact yy ye2
            · exact lt01 yd yq2 ⟨ye, by omega, ye2⟩)] at yh
          exact yh
  have yh := ykey N yc 0 (Nat.zero_add _)
  rw [ltV_0 (fun ⟨ye, ye1, _⟩ => absurd ye1 (Nat.not_lt_zero ye))] at yh
  exact bm_lt0 _ yh
