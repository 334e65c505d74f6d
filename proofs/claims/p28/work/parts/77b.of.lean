/-! yOF, TAKEN; audit yas ya pair -/
theorem h_audit {yp : zPr} (hp : yp.1 = 136 ∧ yp.2.1 = 242 ∧ yp.2.2.1 = 2) (yhc : c_rm yp = true) : PairOK (RR Fc Arc RZc) yp := by
  obtain ⟨yp1, yp2, yp3⟩ := hp
  refine pairK (D := on2 dAudit) (E := on2 eAudit) (by decide +kernel) (by decide +kernel) yhc (fun N yA yas _ hl => ?_) (fun N yA yas o hl => ?_) (fun yA A1 A2 yas yx yy o1 _ _ hF hR hX hl ys1 ys2 => ?_)
  · rw [yp3] at hl
    obtain ⟨ya, yb, rfl⟩ := as2 hl
    rw [yp1]
    exact d_audit N yA ya yb
  · rw [yp3] at hl
    obtain ⟨ya, yb, rfl⟩ := as2 hl
    rw [yp2]
    exact e_audit N yA ya yb (o.fld (i := 69) (k := 31) (lo := 0) (hi := 150) (by decide +kernel)).2
  · rw [yp3] at hl
    obtain ⟨ya, yb, rfl⟩ := as2 hl
    obtain ⟨yr1, r2, r3, r4⟩ := k_audit (yc := ya) (yk := yb) o1 hF hR hX ys1 ys2
    exact ⟨yr1, r2, r3, fun _ => r4⟩
def ofF (kd yf ye l yd yw yr ys ao ylt co td : Int32) (yk : Int) : Int32 := if yk = 0 then kd else if yk = 1 then yf else if yk = 2 then ye else if yk = 3 then l else if yk = 4 then (if ao.toInt < 0 then co else if td.toInt < ao.toInt then co else co - ylt) else if yk = 5 then yd else if yk = 6 then yw else if yk = 7 then yr else if yk = 8 then ys else if yk = 9 then (if ao.toInt < 0 then 0 else if ylt.toInt = 0 then 1 else 2) else -2000000000
def ofX (yA : AW) (ya : Nat) (yk : Int32) : Int32 := ofF (yA.1 ya 1) (yA.1 ya 4) (yA.1 ya 5) (yA.1 ya 6) (yA.1 ya 7) (yA.1 ya 8) (yA.1 ya 9) (yA.1 ya 10) (yA.1 ya 11) (yA.1 ya 12) (yA.1 ya 2) (yA.1 0 10) yk.toInt
def ofM (yA : AW) (yc : Nat) (yk : Int32) : Int32 := ofF (yA.1 89 yc) (yA.1 90 (7 * yc)) (yA.1 90 (7 * yc + 1)) (yA.1 90 (7 * yc + 2)) (yA.1 90 (7 * yc + 3)) (yA.1 90 (7 * yc + 4)) (yA.1 90 (7 * yc + 5)) (yA.1 90 (7 * yc + 6)) (yA.1 93 yc) (yA.1 92 yc) (yA.1 91 yc) (yA.1 69 0) yk.toInt
def dOf (yc yk : Int32) (yA : AW) (yu : Option Value) (A1 : AW) : Prop := A1 = yA ∧ ((¬ inC (yA.1 30 4) yc ∧ yu = some (.int (-2000000000))) ∨ (inC (yA.1 30 4) yc ∧ yA.2.2.1 31 yc.toInt.toNat = none) ∨ (∃ ya, isRow yA yc ya ∧ yu = some (.int (ofX yA ya yk))))
def eOf (yc yk : Int32) (yA : AW) (yu : Option Value) (A1 : AW) : Prop := A1 = yA ∧ ((¬ inC (yA.1 69 31) yc ∧ yu = some (.int (-2000000000))) ∨ (inC (yA.1 69 31) yc ∧ yu = some (.int (ofM yA yc.toInt.toNat yk))))
theorem d_of (N : Nat) (yA : AW) (yc yk : Int32) : Pa N 113 0 [(0, .ref 0), (1, .int yc), (2, .int yk)] [] yA (dOf yc yk yA) := by
  refine bx_of yc yk ?_ ?_ ?_ ?_ ?_ ?_ ?_ ?_ ?_ ?_ ?_ ?_ ?_ ?_ ?_ ?_ ?_ ?_
  · intro h1
    exact ⟨rfl, .inl ⟨fun yq => by unfold inC at yq; omega, rfl⟩⟩
  · intro h1 h2
    exact ⟨rfl, .inl ⟨fun yq => by unfold inC at yq; omega, rfl⟩⟩
  · intro h1 h2 h3 ya1 h4 h5 h6
    intros
    refine ⟨rfl, .inr (.inr ⟨ya1, ⟨⟨by omega, by omega⟩, by assumption, by assumption⟩, ?_⟩)⟩
    unfold ofX ofF
    rw [if_neg (by omega), if_neg (by omega), if_neg (by omega), if_neg (by omega), if_neg (by omega), if_neg (by omega), if_neg (by omega), if_neg (by omega), if_neg (by omega), if_neg (by omega)]
  · intro h1 h2 h3 ya1 h4 h5 h6
    intros
    refine ⟨rfl, .inr (.inr ⟨ya1, ⟨⟨by omega, by omega⟩, by assumption, by assumption⟩, ?_⟩)⟩
    unfold ofX ofF
    rw [if_pos (by omega)]
  · intro h1 h2 h3 ya1 h4 h5 h6
    intros
    refine ⟨rfl, .inr (.inr ⟨ya1, ⟨⟨by omega, by omega⟩, by assumption, by assumption⟩, ?_⟩)⟩
    unfold ofX ofF
    rw [if_neg (by omega), if_pos (by omega)]
  · intro h1 h2 h3 ya1 h4 h5 h6
    intros
    refine ⟨rfl, .inr (.inr ⟨ya1, ⟨⟨by omega, by omega⟩, by assumption, by assumption⟩, ?_⟩)⟩
    unfold ofX ofF
    rw [if_neg (by omega), if_neg (by omega), if_pos (by omega)]
  · intro h1 h2 h3 ya1 h4 h5 h6
    intros
    refine ⟨rfl, .inr (.inr ⟨ya1, ⟨⟨by omega, by omega⟩, by assumption, by assumption⟩, ?_⟩)⟩
    unfold ofX ofF
    rw [if_neg (by omega), if_neg (by omega), if_neg (by omega), if_pos (by omega)]
  · intro h1 h2 h3 ya1 h4 h5 h6
    intros
    refine ⟨rfl, .inr (.inr ⟨ya1, ⟨⟨by omega, by omega⟩, by assumption, by assumption⟩, ?_⟩)⟩
    unfold ofX ofF
    rw [if_neg (by omega), if_neg (by omega), if_neg (by omega), if_neg (by omega), if_pos (by omega), if_pos (by omega)]
  · intro h1 h2 h3 ya1 h4 h5 h6
    intros
    refine ⟨rfl, .inr (.inr ⟨ya1, ⟨⟨by omega, by omega⟩, by assumption, by assumption⟩, ?_⟩)⟩
    unfold ofX ofF
    rw [if_neg (by omega), if_neg (by omega), if_neg (by omega), if_neg (by omega), if_pos (by omega), if_neg (by omega), if_pos (by omega)]
  · intro h1 h2 h3 ya1 h4 h5 h6
    intros
    refine ⟨rfl, .inr (.inr ⟨ya1, ⟨⟨by omega, by omega⟩, by assumption, by assumption⟩, ?_⟩)⟩
    unfold ofX ofF
    rw [if_neg (by omega), if_neg (by omega), if_neg (by omega), if_neg (by omega), if_pos (by omega), if_neg (by omega), if_neg (by omega)]
  · intro h1 h2 h3 ya1 h4 h5 h6
    intros
    refine ⟨rfl, .inr (.inr ⟨ya1, ⟨⟨by omega, by omega⟩, by assumption, by assumption⟩, ?_⟩)⟩
    unfold ofX ofF
    rw [if_neg (by omega), if_neg (by omega), if_neg (by omega), if_neg (by omega), if_neg (by omega), if_pos (by omega)]
  · intro h1 h2 h3 ya1 h4 h5 h6
    intros
    refine ⟨rfl, .inr (.inr ⟨ya1, ⟨⟨by omega, by omega⟩, by assumption, by assumption⟩, ?_⟩)⟩
    unfold ofX ofF
    rw [if_neg (by omega), if_neg (by omega), if_neg (by omega), if_neg (by omega), if_neg (by omega), if_neg (by omega), if_pos (by omega)]
  · intro h1 h2 h3 ya1 h4 h5 h6
    intros
    refine ⟨rfl, .inr (.inr ⟨ya1, ⟨⟨by omega, by omega⟩, by assumption, by assumption⟩, ?_⟩)⟩
    unfold ofX ofF
    rw [if_neg (by omega), if_neg (by omega), if_neg (by omega), if_neg (by omega), if_neg (by omega), if_neg (by omega), if_neg (by omega), if_pos (by omega)]
  · intro h1 h2 h3 ya1 h4 h5 h6
    intros
    refine ⟨rfl, .inr (.inr ⟨ya1, ⟨⟨by omega, by omega⟩, by assumption, by assumption⟩, ?_⟩)⟩
    unfold ofX ofF
    rw [if_neg (by omega), if_neg (by omega), if_neg (by omega), if_neg (by omega), if_neg (by omega), if_neg (by omega), if_neg (by omega), if_neg (by omega), if_pos (by omega)]
  · intro h1 h2 h3 ya1 h4 h5 h6
    intros
    refine ⟨rfl, .inr (.inr ⟨ya1, ⟨⟨by omega, by omega⟩, by assumption, by assumption⟩, ?_⟩)⟩
    unfold ofX ofF
    rw [if_neg (by omega), if_neg (by omega), if_neg (by omega), if_neg (by omega), if_neg (by omega), if_neg (by omega), if_neg (by omega), if_neg (by omega), if_neg (by omega), if_pos (by omega), if_neg (by omega), if_neg (by assumption)]
  · intro h1 h2 h3 ya1 h4 h5 h6
    intros
    refine ⟨rfl, .inr (.inr ⟨ya1, ⟨⟨by omega, by omega⟩, by assumption, by assumption⟩, ?_⟩)⟩
    unfold ofX ofF
    rw [if_neg (by omega), if_neg (by omega), if_neg (by omega), if_neg (by omega), if_neg (by omega), if_neg (by omega), if_neg (by omega), if_neg (by omega), if_neg (by omega), if_pos (by omega), if_neg (by omega), if_pos (by assumption)]
  · intro h1 h2 h3 ya1 h4 h5 h6
    intros
    refine ⟨rfl, .inr (.inr ⟨ya1, ⟨⟨by omega, by omega⟩, by assumption, by assumption⟩, ?_⟩)⟩
    unfold ofX ofF
    rw [if_neg (by omega), if_neg (by omega), if_neg (by omega), if_neg (by omega), if_neg (by omega), if_neg (by omega), if_neg (by omega), if_neg (by omega), if_neg (by omega), if_pos (by omega), if_pos (by omega)]
  · intro h1 h2 h3 h4
    exact ⟨rfl, .inr (.inl ⟨⟨by omega, by omega⟩, h4⟩)⟩
theorem e_of (N : Nat) (yA : AW) (yc yk : Int32) (yhT : (yA.1 69 31).toInt ≤ 150) : Pa N 182 0 [(0, .ref 69), (1, .int yc), (2, .int yk)] [] yA (eOf yc yk yA) := by
  refine bm_of yc yk ?_ ?_ ?_ ?_ ?_ ?_ ?_ ?_ ?_ ?_ ?_ ?_ ?_ ?_ ?_ ?_ ?_
  · intro h1
    exact ⟨rfl, .inl ⟨fun yq => by unfold inC at yq; omega, rfl⟩⟩
  · intro h1 h2
    exact ⟨rfl, .inl ⟨fun yq => by unfold inC at yq; omega, rfl⟩⟩
  · intro h1 h2
    intros
    refine ⟨rfl, .inr ⟨⟨by omega, by omega⟩, ?_⟩⟩
    unfold ofM ofF
    rw [if_neg (by omega), if_neg (by omega), if_neg (by omega), if_neg (by omega), if_neg (by omega), if_neg (by omega), if_neg (by omega), if_neg (by omega), if_neg (by omega), if_neg (by omega)]
  · intro h1 h2
    intros
    refine ⟨rfl, .inr ⟨⟨by omega, by omega⟩, ?_⟩⟩
    unfold ofM ofF
    rw [if_pos (by omega)]
  · intro h1 h2
    intros
    refine ⟨rfl, .inr ⟨⟨by omega, by omega⟩, ?_⟩⟩
    unfold ofM ofF
    rw [i7n (yq := 0) h1 (by omega) rfl (by decide) (by decide) (by decide), if_neg (by omega), if_pos (by omega)]
    first | done | rfl
  · intro h1 h2
    intros
    refine ⟨rfl, .inr ⟨⟨by omega, by omega⟩, ?_⟩⟩
    unfold ofM ofF
    rw [i7n (yq := 1) h1 (by omega) rfl (by decide) (by decide) (by decide), if_neg (by omega), if_neg (by omega), if_pos (by omega)]
  · intro h1 h2
    intros
    refine ⟨rfl, .inr ⟨⟨by omega, by omega⟩, ?_⟩⟩
    unfold ofM ofF
    rw [i7n (yq := 2) h1 (by omega) rfl (by decide) (by decide) (by decide), if_neg (by omega), if_neg (by omega), if_neg (by omega), if_pos (by omega)]
  · intro h1 h2
    intros
    refine ⟨rfl, .inr ⟨⟨by omega, by omega⟩, ?_⟩⟩
    unfold ofM ofF
    rw [if_neg (by omega), if_neg (by omega), if_neg (by omega), if_neg (by omega), if_pos (by omega), if_pos (by omega), Int32.sub_zero]
  · intro h1 h2
    intros
    refine ⟨rfl, .inr ⟨⟨by omega, by omega⟩, ?_⟩⟩
    unfold ofM ofF
    rw [if_neg (by omega), if_neg (by omega), if_neg (by omega), if_neg (by omega), if_pos (by omega), if_neg (by omega), if_pos (by omega), Int32.sub_zero]
  · intro h1 h2
    intros
    refine ⟨rfl, .inr ⟨⟨by omega, by omega⟩, ?_⟩⟩
    unfold ofM ofF
    rw [if_neg (by omega), if_neg (by omega), if_neg (by omega), if_neg (by omega), if_pos (by omega), if_neg (by omega), if_neg (by omega)]
  · intro h1 h2
    intros
    refine ⟨rfl, .inr ⟨⟨by omega, by omega⟩, ?_⟩⟩
    unfold ofM ofF
    rw [i7n (yq := 3) h1 (by omega) rfl (by decide) (by decide) (by decide), if_neg (by omega), if_neg (by omega), if_neg (by omega), if_neg (by omega), if_neg (by omega), if_pos (by omega)]
  · intro h1 h2
    intros
    refine ⟨rfl, .inr ⟨⟨by omega, by omega⟩, ?_⟩⟩
    unfold ofM ofF
    rw [i7n (yq := 4) h1 (by omega) rfl (by decide) (by decide) (by decide), if_neg (by omega), if_neg (by omega), if_neg (by omega), if_neg (by omega), if_neg (by omega), if_neg (by omega), if_pos (by omega)]
  · intro h1 h2
    intros
    refine ⟨rfl, .inr ⟨⟨by omega, by omega⟩, ?_⟩⟩
    unfold ofM ofF
    rw [i7n (yq := 5) h1 (by omega) rfl (by decide) (by decide) (by decide), if_neg (by omega), if_neg (by omega), if_neg (by omega), if_neg (by omega), if_neg (by omega), if_neg (by omega), if_neg (by omega), if_pos (by omega)]
  · intro h1 h2
    intros
    refine ⟨rfl, .inr ⟨⟨by omega, by omega⟩, ?_⟩⟩
    unfold ofM ofF
    rw [i7n (yq := 6) h1 (by omega) rfl (by decide) (by decide) (by decide), if_neg (by omega), if_neg (by omega), if_neg (by omega), if_neg (by omega), if_neg (by omega), if_neg (by omega), if_neg (by omega), if_neg (by omega), if_pos (by omega)]
  · intro h1 h2
    intros
    refine ⟨rfl, .inr ⟨⟨by omega, by omega⟩, ?_⟩⟩
    unfold ofM ofF
    rw [if_neg (by omega), if_neg (by omega), if_neg (by omega), if_neg (by omega), if_neg (by omega), if_neg (by omega), if_neg (by omega), if_neg (by omega), if_neg (by omega), if_pos (by omega), if_neg (by omega), if_neg (by assumption)]
  · intro h1 h2
    intros
    refine ⟨rfl, .inr ⟨⟨by omega, by omega⟩, ?_⟩⟩
    unfold ofM ofF
    rw [if_neg (by omega), if_neg (by omega), if_neg (by omega), if_neg (by omega), if_neg (by omega), if_neg (by omega), if_neg (by omega), if_neg (by omega), if_neg (by omega), if_pos (by omega), if_neg (by omega), if_pos (by assumption)]
  · intro h1 h2
    intros
    refine ⟨rfl, .inr ⟨⟨by omega, by omega⟩, ?_⟩⟩
    unfold ofM ofF
    rw [if_neg (by omega), if_neg (by omega), if_neg (by omega), if_neg (by omega), if_neg (by omega), if_neg (by omega), if_neg (by omega), if_neg (by omega), if_neg (by omega), if_pos (by omega), if_pos (by omega)]
theorem ofX_M {yA : AW} {ya yc : Nat} {yk : Int32} (yh : rowR yA ya yc) (yf : yA.1 0 10 = yA.1 69 0) : ofX yA ya yk = ofM yA yc yk := by
  obtain ⟨z0, z1, z2, z3, z4, z5, z6, z7, z8, z9, z10, z11, z12, -, -⟩ := yh
  unfold ofX ofM
  rw [z1, z2, z4, z5, z6, z7, z8, z9, z10, z11, z12, yf]
theorem h_of {yp : zPr} (hp : yp.1 = 113 ∧ yp.2.1 = 182 ∧ yp.2.2.1 = 2) (yhc : c_rm yp = true) : PairOK (RR Fc Arc RZc) yp := by
  obtain ⟨yp1, yp2, yp3⟩ := hp
  refine pairK (D := on2 dOf) (E := on2 eOf) (by decide +kernel) (by decide +kernel) yhc (fun N yA yas _ hl => ?_) (fun N yA yas o hl => ?_) (fun yA A1 A2 yas yx yy o1 _ _ hF hR hX hl ys1 ys2 => ?_)
  · rw [yp3] at hl
    obtain ⟨ya, yb, rfl⟩ := as2 hl
    rw [yp1]
    exact d_of N yA ya yb
  · rw [yp3] at hl
    obtain ⟨ya, yb, rfl⟩ := as2 hl
    rw [yp2]
    exact e_of N yA ya yb (o.fld (i := 69) (k := 31) (lo := 0) (hi := 150) (by decide +kernel)).2
  · rw [yp3] at hl
    obtain ⟨yc, yk, rfl⟩ := as2 hl
    have yf5 : yA.1 30 4 = yA.1 69 31 := hF ((30, 4), (69, 31)) (by simp [Fc])
    have yf4 : yA.1 0 10 = yA.1 69 0 := hF ((0, 10), (69, 0)) (by simp [Fc])
    obtain ⟨ye1, ys1⟩ := ys1
    obtain ⟨ye2, ys2⟩ := ys2
    rw [ye1] at ys2 ye2
    rw [ye2]
    refine ⟨hF, hR, hX, fun _ => ?_⟩
    rcases ys1 with ⟨ya1, a2⟩ | ⟨ya1, a2⟩ | ⟨ya, ya1, a2⟩
    · rw [yf5] at ya1
      rcases ys2 with ⟨b1, b2⟩ | ⟨b1, b2⟩
      · rw [some_int a2, some_int b2]
      · exact absurd b1 ya1
    · exact (k_some hX yf5 ya1 a2).elim
    · obtain ⟨yq1, yq2, yq3, yq4⟩ := k_row hX yf5 ya1
      rcases ys2 with ⟨b1, b2⟩ | ⟨b1, b2⟩
      · exact absurd yq4 b1
      · rw [some_int a2, some_int b2, ofX_M yq3 yf4]
/-! TAKEN -/
def tkY (kd yk : Int32) : Prop := yk.toInt = 0 ∨ kd.toInt = yk.toInt ∨ ((kd.toInt = 5 ∨ kd.toInt = 3) ∧ yk.toInt = 2) ∨ (kd.toInt = 6 ∧ yk.toInt = 4)
theorem tk_iff {kd yk : Int32} (h1 : 1 ≤ kd.toInt) (h2 : kd.toInt ≤ 6) (h3 : 0 ≤ yk.toInt) (h4 : yk.toInt ≤ 6) : (isUx kd yk).toInt ≠ 0 ↔ tkY kd yk := by
  unfold tkY
  have h7 : yk = 0 ∨ (yk = 1 ∨ yk = 2 ∨ yk = 3 ∨ yk = 4 ∨ yk = 5 ∨ yk = 6) := by
    rcases (by omega : yk.toInt = 0 ∨ 1 ≤ yk.toInt) with yq | yq
    · exact .inl (i32_ext yq)
    · exact .inr (k_six yq h4)
  rcases k_six h1 h2 with yh | yh | yh | yh | yh | yh <;> subst yh <;> rcases h7 with yq | yq | yq | yq | yq | yq | yq <;> subst yq <;> decide +kernel
def dTk (yc yk : Int32) (yA : AW) (yu : Option Value) (A1 : AW) : Prop := A1 = yA ∧ ((¬ (inC (yA.1 30 4) yc ∧ 0 ≤ yk.toInt ∧ yk.toInt ≤ 6) ∧ yu = some (.int (-1))) ∨ (inC (yA.1 30 4) yc ∧ yA.2.2.1 31 yc.toInt.toNat = none) ∨ (∃ ya, isRow yA yc ya ∧ 0 ≤ yk.toInt ∧ yk.toInt ≤ 6 ∧ (((isUx (yA.1 ya 1) yk).toInt = 0 ∧ yu = some (.int (-6))) ∨ ((isUx (yA.1 ya 1) yk).toInt ≠ 0 ∧ yu = some (.int (yA.1 ya 1))))))
def eTk (yc yk : Int32) (yA : AW) (yu : Option Value) (A1 : AW) : Prop := A1 = yA ∧ ((¬ (inC (yA.1 69 31) yc ∧ 0 ≤ yk.toInt ∧ yk.toInt ≤ 6) ∧ yu = some (.int (-1))) ∨ (inC (yA.1 69 31) yc ∧ 0 ≤ yk.toInt ∧ yk.toInt ≤ 6 ∧ ((¬ tkY (yA.1 89 yc.toInt.toNat) yk ∧ yu = some (.int (-6))) ∨ (tkY (yA.1 89 yc.toInt.toNat) yk ∧ yu = some (.int (yA.1 89 yc.toInt.toNat))))))
theorem d_taken (N : Nat) (yA : AW) (yc yk : Int32) : Pa N 144 0 [(0, .ref 0), (1, .int yc), (2, .int yk)] [] yA (dTk yc yk yA) := by
  refine bx_taken yc yk (fun h1 => ?_) (fun h1 h2 => ?_) (fun h1 h2 h3 ya h4 h5 h6 h7 => ?_) (fun h1 h2 h3 ya h4 h5 h6 h7 h8 => ?_) (fun h1 h2 h3 ya h4 h5 h6 h7 h8 h9 => ?_) (fun h1 h2 h3 ya h4 h5 h6 h7 h8 h9 => ?_) (fun h1 h2 h3 h4 => ?_)
  · exact ⟨rfl, .inl ⟨fun yq => by have := yq.1; unfold inC at this; omega, rfl⟩⟩
  · exact ⟨rfl, .inl ⟨fun yq => by have := yq.1; unfold inC at this; omega, rfl⟩⟩
  · exact ⟨rfl, .inl ⟨fun yq => by omega, rfl⟩⟩
  · exact ⟨rfl, .inl ⟨fun yq => by omega, rfl⟩⟩
  · exact ⟨rfl, .inr (.inr ⟨ya, ⟨⟨h1, h2⟩, h4, h5⟩, h7, h8, .inl ⟨h9, rfl⟩⟩)⟩
  · exact ⟨rfl, .inr (.inr ⟨ya, ⟨⟨h1, h2⟩, h4, h5⟩, h7, h8, .inr ⟨h9, rfl⟩⟩)⟩
  · exact ⟨rfl, .inr (.inl ⟨⟨h1, h2⟩, h4⟩)⟩
theorem e_taken (N : Nat) (yA : AW) (yc yk : Int32) : Pa N 257 0 [(0, .ref 69), (1, .int yc), (2, .int yk)] [] yA (eTk yc yk yA) := by
  refine bm_taken yc yk ?_ ?_ ?_ ?_ ?_ ?_ ?_ ?_ ?_ ?_ ?_ ?_ ?_ ?_
  · intro h1
    exact ⟨rfl, .inl ⟨fun yq => by have := yq.1; unfold inC at this; omega, rfl⟩⟩
  · intro h1 h2
    exact ⟨rfl, .inl ⟨fun yq => by have := yq.1; unfold inC at this; omega, rfl⟩⟩
  · intro h1 h2 h3
    exact ⟨rfl, .inl ⟨fun yq => by omega, rfl⟩⟩
  · intro h1 h2 h3 h4
    exact ⟨rfl, .inl ⟨fun yq => by omega, rfl⟩⟩
  all_goals
    intro h1 h2 h3 h4
    intros
    refine ⟨rfl, .inr ⟨⟨h1, h2⟩, h3, h4, ?_⟩⟩
    first
      | exact .inl ⟨by unfold tkY; omega, rfl⟩
      | exact .inr ⟨by unfold tkY; omega, rfl⟩
theorem h_taken {yp : zPr} (hp : yp.1 = 144 ∧ yp.2.1 = 257 ∧ yp.2.2.1 = 2) (yhc : c_rm yp = true) : PairOK (RR Fc Arc RZc) yp := by
  obtain ⟨yp1, yp2, yp3⟩ := hp
  refine pairK (D := on2 dTk) (E := on2 eTk) (by decide +kernel) (by decide +kernel) yhc (fun N yA yas _ hl => ?_) (fun N yA yas o hl => ?_) (fun yA A1 A2 yas yx yy o1 _ _ hF hR hX hl ys1 ys2 => ?_)
  · rw [yp3] at hl
    obtain ⟨ya, yb, rfl⟩ := as2 hl
    rw [yp1]
    exact d_taken N yA ya yb
  · rw [yp3] at hl
    obtain ⟨ya, yb, rfl⟩ := as2 hl
    rw [yp2]
    exact e_taken N yA ya yb
  · rw [yp3] at hl
    obtain ⟨yc, yk, rfl⟩ := as2 hl
    have yf5 : yA.1 30 4 = yA.1 69 31 := hF ((30, 4), (69, 31)) (by simp [Fc])
    obtain ⟨ye1, ys1⟩ := ys1
    obtain ⟨ye2, ys2⟩ := ys2
    rw [ye1] at ys2 ye2
    rw [ye2]
    refine ⟨hF, hR, hX, fun _ => ?_⟩
    rcases ys1 with ⟨ya1, a2⟩ | ⟨ya1, a2⟩ | ⟨ya, ya1, a2, a3, a4⟩
    · rw [yf5] at ya1
      rcases ys2 with ⟨b1, b2⟩ | ⟨b1, b2, b3, -⟩
      · rw [some_int a2, some_int b2]
      · exact absurd ⟨b1, b2, b3⟩ ya1
    · exact (k_some hX yf5 ya1 a2).elim
    · obtain ⟨yq1, yq2, yq3, yq4⟩ := k_row hX yf5 ya1
      obtain ⟨z0, z1, z2, z3, z4, z5, z6, z7, z8, z9, z10, z11, z12, yz13, yz14⟩ := yq3
      rw [z1] at a4
      have yhi := tk_iff yz13 yz14 a2 a3
      rcases ys2 with ⟨b1, b2⟩ | ⟨b1, b2, b3, b4⟩
      · exact absurd ⟨yq4, a2, a3⟩ b1
      · rcases a4 with ⟨yc1, yc2⟩ | ⟨yc1, yc2⟩
        · rcases b4 with ⟨yd1, yd2⟩ | ⟨yd1, yd2⟩
          · rw [some_int yc2, some_int yd2]
          · exact absurd yc1 (yhi.mpr yd1)
        · rcases b4 with ⟨yd1, yd2⟩ | ⟨yd1, yd2⟩
          · exact absurd (yhi.mp yc1) yd1
          · rw [some_int yc2, some_int yd2]
