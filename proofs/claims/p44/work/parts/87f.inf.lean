/-! THE TEXT IN FORCE -/
/-- the last that is good -/
def ltG (yg : Nat → Bool) : Nat → Option Nat
  | 0 => none
  | yt + 1 => bif yg yt then some yt else ltG yg yt
def enG (yz : Int32) : Option Nat → Int32
  | some yq => Int32.ofNat yq
  | none => yz
theorem ltG_cg {yg yh : Nat → Bool} : ∀ (yt : Nat), (∀ yj, yj < yt → yg yj = yh yj) → ltG yg yt = ltG yh yt
  | 0, _ => rfl
  | yt + 1, ye => by
    show (bif yg yt then some yt else ltG yg yt) = (bif yh yt then some yt else ltG yh yt)
    rw [ye yt (by omega), ltG_cg yt (fun yj hj => ye yj (by omega))]
theorem ltG_lt {yg : Nat → Bool} : ∀ {yt yq : Nat}, ltG yg yt = some yq → yq < yt
  | 0, _, yh => by cases yh
  | yt + 1, yq, yh => by
    unfold ltG at yh
    cases hg : yg yt with
    | true =>
      rw [hg] at yh
      cases yh
      omega
    | false =>
      rw [hg] at yh
      have := ltG_lt (yt := yt) (yq := yq) yh
      omega
/-- ya ytext stands for an act on ya day yas known -/
def gdT (yb : Nat) (yA : AW) (yw yd yk : Int32) (yj : Nat) : Bool := decide ((yA.1 yb yj).toInt = yw.toInt ∧ (yA.1 (yb + 1) yj).toInt ≤ yk.toInt ∧ (yA.1 (yb + 2) yj).toInt ≤ yd.toInt)
theorem gdT_1 {yb : Nat} {yA : AW} {yw yd yk : Int32} {yj : Nat} (yh : (yA.1 yb yj).toInt = yw.toInt ∧ (yA.1 (yb + 1) yj).toInt ≤ yk.toInt ∧ (yA.1 (yb + 2) yj).toInt ≤ yd.toInt) : gdT yb yA yw yd yk yj = true := decide_eq_true yh
theorem gdT_0 {yb : Nat} {yA : AW} {yw yd yk : Int32} {yj : Nat} (yh : ¬ ((yA.1 yb yj).toInt = yw.toInt ∧ (yA.1 (yb + 1) yj).toInt ≤ yk.toInt ∧ (yA.1 (yb + 2) yj).toInt ≤ yd.toInt)) : gdT yb yA yw yd yk yj = false := decide_eq_false yh
theorem ltG_1 {yg : Nat → Bool} {yt : Nat} (yh : yg yt = true) : ltG yg (yt + 1) = some yt := by
  show (bif yg yt then some yt else ltG yg yt) = _
  rw [yh]
  rfl
theorem ltG_0 {yg : Nat → Bool} {yt : Nat} (yh : yg yt = false) : ltG yg (yt + 1) = ltG yg yt := by
  show (bif yg yt then some yt else ltG yg yt) = _
  rw [yh]
  rfl
theorem bx_fn0 {N : Nat} {yA : AW} {yQ : Option Value → AW → Prop} (yw yd yk : Int32)
    (l1 : (yA.1 38 8).toInt < 0 → Pa N 3 37 [(0, .ref 38), (1, .int yw), (2, .int yd), (3, .int yk), (4, .int ((yA.1 38 7) - 1))] [] yA yQ)
    (l2 : 0 ≤ (yA.1 38 8).toInt → (yA.1 38 7).toInt ≤ (yA.1 38 8).toInt → Pa N 3 37 [(0, .ref 38), (1, .int yw), (2, .int yd), (3, .int yk), (4, .int ((yA.1 38 7) - 1))] [] yA yQ)
    (l3 : 0 ≤ (yA.1 38 8).toInt → (yA.1 38 8).toInt < (yA.1 38 7).toInt → (yA.1 38 8).toInt < 20 → (yA.1 40 ((yA.1 38 8).toInt.toNat)).toInt ≠ yw.toInt → Pa N 3 37 [(0, .ref 38), (1, .int yw), (2, .int yd), (3, .int yk), (4, .int ((yA.1 38 7) - 1))] [] yA yQ)
    (l4 : 0 ≤ (yA.1 38 8).toInt → (yA.1 38 8).toInt < (yA.1 38 7).toInt → (yA.1 38 8).toInt < 20 → (yA.1 40 ((yA.1 38 8).toInt.toNat)).toInt = yw.toInt → yQ (some (.int (yA.1 38 8))) yA) :
    Pa N 3 0 [(0, .ref 38), (1, .int yw), (2, .int yd), (3, .int yk)] [] yA yQ := by
  refine Pa.mp 2 (pc' := 2) (l' := [(0, .ref 38), (1, .int yw), (2, .int yd), (3, .int yk)]) (st' := [.ref 38, .ref 38]) (by rfl) ?_
  refine Pa.gfI (v := yA.1 38 8) (by rfl) (by rfl) (.inl rfl) (by rfl) (by rfl) ?_
  refine Pa.inv (by rfl) (by rfl) (.inl rfl) (by rfl) ?_
  show Pa N 1 0 [(0, .ref 38), (1, .int (yA.1 38 8))] [] yA _
  refine Pa.mp 1 (pc' := 1) (l' := [(0, .ref 38), (1, .int (yA.1 38 8))]) (st' := [.int (yA.1 38 8)]) (by rfl) ?_
  refine Pa.if1 (a := (yA.1 38 8).toInt) (t := 16) (by rfl) (by rfl) (rfl) (fun h1 => ?_) (fun h2 => ?_)
  · have h1 : (yA.1 38 8).toInt < 0 := h1
    refine Pa.ic (x := 0) (pc' := 17) (by rfl) (by rfl) (by decide) ?_
    refine Pa.iret (by rfl) ?_
    show Pa N 3 8 [(0, .ref 38), (1, .int yw), (2, .int yd), (3, .int yk)] [.int 0] yA _
    refine Pa.if1k true (by rfl) (by rfl) (by decide) ?_
    show Pa N 3 29 [(0, .ref 38), (1, .int yw), (2, .int yd), (3, .int yk)] [] yA _
    refine Pa.mp 1 (pc' := 30) (l' := [(0, .ref 38), (1, .int yw), (2, .int yd), (3, .int yk)]) (st' := [.ref 38]) (by rfl) ?_
    refine Pa.gfI (v := yA.1 38 7) (by rfl) (by rfl) (.inl rfl) (by rfl) (by rfl) ?_
    refine Pa.ic (x := 1) (pc' := 34) (by rfl) (by rfl) (by decide) ?_
    refine Pa.mp 2 (pc' := 37) (l' := [(4, .int ((yA.1 38 7) - 1)), (0, .ref 38), (1, .int yw), (2, .int yd), (3, .int yk)]) (st' := []) (by rfl) ?_
    refine Pa.lv (l' := [(0, .ref 38), (1, .int yw), (2, .int yd), (3, .int yk), (4, .int ((yA.1 38 7) - 1))]) (lvS_c rfl (lvS_c rfl (lvS_c rfl (lvS_c rfl (lvS_c rfl (lvS_nil)))))) rfl ?_
    exact l1 h1
  · have h2 : 0 ≤ (yA.1 38 8).toInt := h2
    refine Pa.mp 2 (pc' := 6) (l' := [(0, .ref 38), (1, .int (yA.1 38 8))]) (st' := [.ref 38, .int (yA.1 38 8)]) (by rfl) ?_
    refine Pa.gfI (v := yA.1 38 7) (by rfl) (by rfl) (.inl rfl) (by rfl) (by rfl) ?_
    refine Pa.if2 (a := (yA.1 38 8).toInt) (b := (yA.1 38 7).toInt) (t := 16) (by rfl) (by rfl) (rfl) (rfl) (fun h3 => ?_) (fun h4 => ?_)
    · have h3 : (yA.1 38 7).toInt ≤ (yA.1 38 8).toInt := h3
      refine Pa.ic (x := 0) (pc' := 17) (by rfl) (by rfl) (by decide) ?_
      refine Pa.iret (by rfl) ?_
      show Pa N 3 8 [(0, .ref 38), (1, .int yw), (2, .int yd), (3, .int yk)] [.int 0] yA _
      refine Pa.if1k true (by rfl) (by rfl) (by decide) ?_
      show Pa N 3 29 [(0, .ref 38), (1, .int yw), (2, .int yd), (3, .int yk)] [] yA _
      refine Pa.mp 1 (pc' := 30) (l' := [(0, .ref 38), (1, .int yw), (2, .int yd), (3, .int yk)]) (st' := [.ref 38]) (by rfl) ?_
      refine Pa.gfI (v := yA.1 38 7) (by rfl) (by rfl) (.inl rfl) (by rfl) (by rfl) ?_
      refine Pa.ic (x := 1) (pc' := 34) (by rfl) (by rfl) (by decide) ?_
      refine Pa.mp 2 (pc' := 37) (l' := [(4, .int ((yA.1 38 7) - 1)), (0, .ref 38), (1, .int yw), (2, .int yd), (3, .int yk)]) (st' := []) (by rfl) ?_
      refine Pa.lv (l' := [(0, .ref 38), (1, .int yw), (2, .int yd), (3, .int yk), (4, .int ((yA.1 38 7) - 1))]) (lvS_c rfl (lvS_c rfl (lvS_c rfl (lvS_c rfl (lvS_c rfl (lvS_nil)))))) rfl ?_
      exact l2 h2 h3
    · have h4 : (yA.1 38 8).toInt < (yA.1 38 7).toInt := h4
      refine Pa.ic (x := 1) (pc' := 13) (by rfl) (by rfl) (by decide) ?_
      refine Pa.mp 1 (pc' := 17) (l' := [(0, .ref 38), (1, .int (yA.1 38 8))]) (st' := [.int 1]) (by rfl) ?_
      refine Pa.iret (by rfl) ?_
      show Pa N 3 8 [(0, .ref 38), (1, .int yw), (2, .int yd), (3, .int yk)] [.int 1] yA _
      refine Pa.if1k false (by rfl) (by rfl) (by decide) ?_
      show Pa N 3 11 [(0, .ref 38), (1, .int yw), (2, .int yd), (3, .int yk)] [] yA _
      refine Pa.mp 1 (pc' := 12) (l' := [(0, .ref 38), (1, .int yw), (2, .int yd), (3, .int yk)]) (st' := [.ref 38]) (by rfl) ?_
      refine Pa.gfR (by rfl) (by rfl) (.inl rfl) (by rfl) ?_
      show Pa N 3 15 [(0, .ref 38), (1, .int yw), (2, .int yd), (3, .int yk)] [.ref 40] yA _
      refine Pa.mp 1 (pc' := 16) (l' := [(0, .ref 38), (1, .int yw), (2, .int yd), (3, .int yk)]) (st' := [.ref 38, .ref 40]) (by rfl) ?_
      refine Pa.gfI (v := yA.1 38 8) (by rfl) (by rfl) (.inl rfl) (by rfl) (by rfl) ?_
      refine Pa.alds (v := yA.1 40 ((yA.1 38 8).toInt.toNat)) (by rfl) (by rfl) (by rfl) (fun h5 h6 => ?_)
      have h5 : 0 ≤ (yA.1 38 8).toInt := h5
      have h6 : (yA.1 38 8).toInt < 20 := h6
      refine Pa.mp 1 (pc' := 21) (l' := [(0, .ref 38), (1, .int yw), (2, .int yd), (3, .int yk)]) (st' := [.int yw, .int (yA.1 40 ((yA.1 38 8).toInt.toNat))]) (by rfl) ?_
      refine Pa.if2 (a := (yA.1 40 ((yA.1 38 8).toInt.toNat)).toInt) (b := yw.toInt) (t := 29) (by rfl) (by rfl) (rfl) (rfl) (fun h7 => ?_) (fun h8 => ?_)
      · have h7 : (yA.1 40 ((yA.1 38 8).toInt.toNat)).toInt ≠ yw.toInt := h7
        refine Pa.mp 1 (pc' := 30) (l' := [(0, .ref 38), (1, .int yw), (2, .int yd), (3, .int yk)]) (st' := [.ref 38]) (by rfl) ?_
        refine Pa.gfI (v := yA.1 38 7) (by rfl) (by rfl) (.inl rfl) (by rfl) (by rfl) ?_
        refine Pa.ic (x := 1) (pc' := 34) (by rfl) (by rfl) (by decide) ?_
        refine Pa.mp 2 (pc' := 37) (l' := [(4, .int ((yA.1 38 7) - 1)), (0, .ref 38), (1, .int yw), (2, .int yd), (3, .int yk)]) (st' := []) (by rfl) ?_
        refine Pa.lv (l' := [(0, .ref 38), (1, .int yw), (2, .int yd), (3, .int yk), (4, .int ((yA.1 38 7) - 1))]) (lvS_c rfl (lvS_c rfl (lvS_c rfl (lvS_c rfl (lvS_c rfl (lvS_nil)))))) rfl ?_
        exact l3 h2 h4 h6 h7
      · have h8 : (yA.1 40 ((yA.1 38 8).toInt.toNat)).toInt = yw.toInt := h8
        refine Pa.mp 1 (pc' := 25) (l' := [(0, .ref 38), (1, .int yw), (2, .int yd), (3, .int yk)]) (st' := [.ref 38]) (by rfl) ?_
        refine Pa.gfI (v := yA.1 38 8) (by rfl) (by rfl) (.inl rfl) (by rfl) (by rfl) ?_
        refine Pa.iret (by rfl) ?_
        exact l4 h2 h4 h6 h8

theorem bx_fn {N : Nat} {yA : AW} {yQ : Option Value → AW → Prop} (yw yd yk yi : Int32)
    (l1 : yi.toInt < 0 → yQ (some (.int (-4))) yA)
    (l2 : 0 ≤ yi.toInt → yi.toInt < 20 → (yA.1 40 yi.toInt.toNat).toInt ≠ yw.toInt → Pa N 3 37 [(0, .ref 38), (1, .int yw), (2, .int yd), (3, .int yk), (4, .int (yi + (-1)))] [] yA yQ)
    (l3 : 0 ≤ yi.toInt → yi.toInt < 20 → (yA.1 40 yi.toInt.toNat).toInt = yw.toInt → yk.toInt < (yA.1 41 yi.toInt.toNat).toInt → Pa N 3 37 [(0, .ref 38), (1, .int yw), (2, .int yd), (3, .int yk), (4, .int (yi + (-1)))] [] yA yQ)
    (l4 : 0 ≤ yi.toInt → yi.toInt < 20 → (yA.1 40 yi.toInt.toNat).toInt = yw.toInt → (yA.1 41 yi.toInt.toNat).toInt ≤ yk.toInt → yd.toInt < (yA.1 42 yi.toInt.toNat).toInt → Pa N 3 37 [(0, .ref 38), (1, .int yw), (2, .int yd), (3, .int yk), (4, .int (yi + (-1)))] [] yA yQ)
    (l5 : 0 ≤ yi.toInt → yi.toInt < 20 → (yA.1 40 yi.toInt.toNat).toInt = yw.toInt → (yA.1 41 yi.toInt.toNat).toInt ≤ yk.toInt → (yA.1 42 yi.toInt.toNat).toInt ≤ yd.toInt → yQ (some (.int yi)) yA) :
    Pa (N + 1) 3 37 [(0, .ref 38), (1, .int yw), (2, .int yd), (3, .int yk), (4, .int yi)] [] yA yQ := by
  refine Pa.mp1 0 (pc' := 39) (l' := [(0, .ref 38), (1, .int yw), (2, .int yd), (3, .int yk), (4, .int yi)]) (st' := [.int yi]) (by rfl) ?_
  refine Pa.if1 (a := yi.toInt) (t := 84) (by rfl) (by rfl) (rfl) (fun h1 => ?_) (fun h2 => ?_)
  · have h1 : yi.toInt < 0 := h1
    refine Pa.ic (x := (-4)) (pc' := 86) (by rfl) (by rfl) (by decide) ?_
    refine Pa.iret (by rfl) ?_
    exact l1 h1
  · have h2 : 0 ≤ yi.toInt := h2
    refine Pa.mp 1 (pc' := 43) (l' := [(0, .ref 38), (1, .int yw), (2, .int yd), (3, .int yk), (4, .int yi)]) (st' := [.ref 38]) (by rfl) ?_
    refine Pa.gfR (by rfl) (by rfl) (.inl rfl) (by rfl) ?_
    show Pa N 3 46 [(0, .ref 38), (1, .int yw), (2, .int yd), (3, .int yk), (4, .int yi)] [.ref 40] yA _
    refine Pa.mp 1 (pc' := 48) (l' := [(0, .ref 38), (1, .int yw), (2, .int yd), (3, .int yk), (4, .int yi)]) (st' := [.int yi, .ref 40]) (by rfl) ?_
    refine Pa.alds (v := yA.1 40 yi.toInt.toNat) (by rfl) (by rfl) (by rfl) (fun h3 h4 => ?_)
    have h3 : 0 ≤ yi.toInt := h3
    have h4 : yi.toInt < 20 := h4
    refine Pa.mp 1 (pc' := 50) (l' := [(0, .ref 38), (1, .int yw), (2, .int yd), (3, .int yk), (4, .int yi)]) (st' := [.int yw, .int (yA.1 40 yi.toInt.toNat)]) (by rfl) ?_
    refine Pa.if2 (a := (yA.1 40 yi.toInt.toNat).toInt) (b := yw.toInt) (t := 78) (by rfl) (by rfl) (rfl) (rfl) (fun h5 => ?_) (fun h6 => ?_)
    · have h5 : (yA.1 40 yi.toInt.toNat).toInt ≠ yw.toInt := h5
      refine Pa.iinc (x := yi) (c := (-1)) (v := (yi + (-1))) (l' := [(4, .int (yi + (-1))), (0, .ref 38), (1, .int yw), (2, .int yd), (3, .int yk)]) (by rfl) (by rfl) (by decide) (by rfl) (by rfl) ?_
      refine Pa.mp 1 (pc' := 37) (l' := [(4, .int (yi + (-1))), (0, .ref 38), (1, .int yw), (2, .int yd), (3, .int yk)]) (st' := []) (by rfl) ?_
      refine Pa.lv (l' := [(0, .ref 38), (1, .int yw), (2, .int yd), (3, .int yk), (4, .int (yi + (-1)))]) (lvS_c rfl (lvS_c rfl (lvS_c rfl (lvS_c rfl (lvS_c rfl (lvS_nil)))))) rfl ?_
      exact l2 h2 h4 h5
    · have h6 : (yA.1 40 yi.toInt.toNat).toInt = yw.toInt := h6
      refine Pa.mp 1 (pc' := 54) (l' := [(0, .ref 38), (1, .int yw), (2, .int yd), (3, .int yk), (4, .int yi)]) (st' := [.ref 38]) (by rfl) ?_
      refine Pa.gfR (by rfl) (by rfl) (.inl rfl) (by rfl) ?_
      show Pa N 3 57 [(0, .ref 38), (1, .int yw), (2, .int yd), (3, .int yk), (4, .int yi)] [.ref 41] yA _
      refine Pa.mp 1 (pc' := 59) (l' := [(0, .ref 38), (1, .int yw), (2, .int yd), (3, .int yk), (4, .int yi)]) (st' := [.int yi, .ref 41]) (by rfl) ?_
      refine Pa.alds (v := yA.1 41 yi.toInt.toNat) (by rfl) (by rfl) (by rfl) (fun h7 h8 => ?_)
      have h7 : 0 ≤ yi.toInt := h7
      have h8 : yi.toInt < 20 := h8
      refine Pa.mp 1 (pc' := 61) (l' := [(0, .ref 38), (1, .int yw), (2, .int yd), (3, .int yk), (4, .int yi)]) (st' := [.int yk, .int (yA.1 41 yi.toInt.toNat)]) (by rfl) ?_
      refine Pa.if2 (a := (yA.1 41 yi.toInt.toNat).toInt) (b := yk.toInt) (t := 78) (by rfl) (by rfl) (rfl) (rfl) (fun h9 => ?_) (fun h10 => ?_)
      · have h9 : yk.toInt < (yA.1 41 yi.toInt.toNat).toInt := h9
        refine Pa.iinc (x := yi) (c := (-1)) (v := (yi + (-1))) (l' := [(4, .int (yi + (-1))), (0, .ref 38), (1, .int yw), (2, .int yd), (3, .int yk)]) (by rfl) (by rfl) (by decide) (by rfl) (by rfl) ?_
        refine Pa.mp 1 (pc' := 37) (l' := [(4, .int (yi + (-1))), (0, .ref 38), (1, .int yw), (2, .int yd), (3, .int yk)]) (st' := []) (by rfl) ?_
        refine Pa.lv (l' := [(0, .ref 38), (1, .int yw), (2, .int yd), (3, .int yk), (4, .int (yi + (-1)))]) (lvS_c rfl (lvS_c rfl (lvS_c rfl (lvS_c rfl (lvS_c rfl (lvS_nil)))))) rfl ?_
        exact l3 h2 h4 h6 h9
      · have h10 : (yA.1 41 yi.toInt.toNat).toInt ≤ yk.toInt := h10
        refine Pa.mp 1 (pc' := 65) (l' := [(0, .ref 38), (1, .int yw), (2, .int yd), (3, .int yk), (4, .int yi)]) (st' := [.ref 38]) (by rfl) ?_
        refine Pa.gfR (by rfl) (by rfl) (.inl rfl) (by rfl) ?_
        show Pa N 3 68 [(0, .ref 38), (1, .int yw), (2, .int yd), (3, .int yk), (4, .int yi)] [.ref 42] yA _
        refine Pa.mp 1 (pc' := 70) (l' := [(0, .ref 38), (1, .int yw), (2, .int yd), (3, .int yk), (4, .int yi)]) (st' := [.int yi, .ref 42]) (by rfl) ?_
        refine Pa.alds (v := yA.1 42 yi.toInt.toNat) (by rfl) (by rfl) (by rfl) (fun h11 h12 => ?_)
        have h11 : 0 ≤ yi.toInt := h11
        have h12 : yi.toInt < 20 := h12
        refine Pa.mp 1 (pc' := 72) (l' := [(0, .ref 38), (1, .int yw), (2, .int yd), (3, .int yk), (4, .int yi)]) (st' := [.int yd, .int (yA.1 42 yi.toInt.toNat)]) (by rfl) ?_
        refine Pa.if2 (a := (yA.1 42 yi.toInt.toNat).toInt) (b := yd.toInt) (t := 78) (by rfl) (by rfl) (rfl) (rfl) (fun h13 => ?_) (fun h14 => ?_)
        · have h13 : yd.toInt < (yA.1 42 yi.toInt.toNat).toInt := h13
          refine Pa.iinc (x := yi) (c := (-1)) (v := (yi + (-1))) (l' := [(4, .int (yi + (-1))), (0, .ref 38), (1, .int yw), (2, .int yd), (3, .int yk)]) (by rfl) (by rfl) (by decide) (by rfl) (by rfl) ?_
          refine Pa.mp 1 (pc' := 37) (l' := [(4, .int (yi + (-1))), (0, .ref 38), (1, .int yw), (2, .int yd), (3, .int yk)]) (st' := []) (by rfl) ?_
          refine Pa.lv (l' := [(0, .ref 38), (1, .int yw), (2, .int yd), (3, .int yk), (4, .int (yi + (-1)))]) (lvS_c rfl (lvS_c rfl (lvS_c rfl (lvS_c rfl (lvS_c rfl (lvS_nil)))))) rfl ?_
          exact l4 h2 h4 h6 h10 h13
        · have h14 : (yA.1 42 yi.toInt.toNat).toInt ≤ yd.toInt := h14
          refine Pa.mp 1 (pc' := 77) (l' := [(0, .ref 38), (1, .int yw), (2, .int yd), (3, .int yk), (4, .int yi)]) (st' := [.int yi]) (by rfl) ?_
          refine Pa.iret (by rfl) ?_
          exact l5 h2 h4 h6 h10 h14

theorem bm_fo0 {N : Nat} {yA : AW} {yQ : Option Value → AW → Prop} (yw yd yk : Int32)
    (l1 : (yA.1 69 69).toInt < 0 → Pa N 205 31 [(0, .ref 69), (1, .int yw), (2, .int yd), (3, .int yk), (4, .int (-1)), (5, .int 0)] [] yA yQ)
    (l2 : 0 ≤ (yA.1 69 69).toInt → (yA.1 69 69).toInt < 20 → (yA.1 102 ((yA.1 69 69).toInt.toNat)).toInt ≠ yw.toInt → Pa N 205 31 [(0, .ref 69), (1, .int yw), (2, .int yd), (3, .int yk), (4, .int (-1)), (5, .int 0)] [] yA yQ)
    (l3 : 0 ≤ (yA.1 69 69).toInt → (yA.1 69 69).toInt < 20 → (yA.1 102 ((yA.1 69 69).toInt.toNat)).toInt = yw.toInt → yQ (some (.int (yA.1 69 69))) yA) :
    Pa N 205 0 [(0, .ref 69), (1, .int yw), (2, .int yd), (3, .int yk)] [] yA yQ := by
  refine Pa.mp 1 (pc' := 1) (l' := [(0, .ref 69), (1, .int yw), (2, .int yd), (3, .int yk)]) (st' := [.ref 69]) (by rfl) ?_
  refine Pa.gfI (v := yA.1 69 69) (by rfl) (by rfl) (.inl rfl) (by rfl) (by rfl) ?_
  refine Pa.if1 (a := (yA.1 69 69).toInt) (t := 25) (by rfl) (by rfl) (rfl) (fun h1 => ?_) (fun h2 => ?_)
  · have h1 : (yA.1 69 69).toInt < 0 := h1
    refine Pa.ic (x := (-1)) (pc' := 26) (by rfl) (by rfl) (by decide) ?_
    refine Pa.mp 1 (pc' := 28) (l' := [(4, .int (-1)), (0, .ref 69), (1, .int yw), (2, .int yd), (3, .int yk)]) (st' := []) (by rfl) ?_
    refine Pa.ic (x := 0) (pc' := 29) (by rfl) (by rfl) (by decide) ?_
    refine Pa.mp 1 (pc' := 31) (l' := [(5, .int 0), (4, .int (-1)), (0, .ref 69), (1, .int yw), (2, .int yd), (3, .int yk)]) (st' := []) (by rfl) ?_
    refine Pa.lv (l' := [(0, .ref 69), (1, .int yw), (2, .int yd), (3, .int yk), (4, .int (-1)), (5, .int 0)]) (lvS_c rfl (lvS_c rfl (lvS_c rfl (lvS_c rfl (lvS_c rfl (lvS_c rfl (lvS_nil))))))) rfl ?_
    exact l1 h1
  · have h2 : 0 ≤ (yA.1 69 69).toInt := h2
    refine Pa.mp 1 (pc' := 8) (l' := [(0, .ref 69), (1, .int yw), (2, .int yd), (3, .int yk)]) (st' := [.ref 69]) (by rfl) ?_
    refine Pa.gfR (by rfl) (by rfl) (.inl rfl) (by rfl) ?_
    show Pa N 205 11 [(0, .ref 69), (1, .int yw), (2, .int yd), (3, .int yk)] [.ref 102] yA _
    refine Pa.mp 1 (pc' := 12) (l' := [(0, .ref 69), (1, .int yw), (2, .int yd), (3, .int yk)]) (st' := [.ref 69, .ref 102]) (by rfl) ?_
    refine Pa.gfI (v := yA.1 69 69) (by rfl) (by rfl) (.inl rfl) (by rfl) (by rfl) ?_
    refine Pa.alds (v := yA.1 102 ((yA.1 69 69).toInt.toNat)) (by rfl) (by rfl) (by rfl) (fun h3 h4 => ?_)
    have h3 : 0 ≤ (yA.1 69 69).toInt := h3
    have h4 : (yA.1 69 69).toInt < 20 := h4
    refine Pa.mp 1 (pc' := 17) (l' := [(0, .ref 69), (1, .int yw), (2, .int yd), (3, .int yk)]) (st' := [.int yw, .int (yA.1 102 ((yA.1 69 69).toInt.toNat))]) (by rfl) ?_
    refine Pa.if2 (a := (yA.1 102 ((yA.1 69 69).toInt.toNat)).toInt) (b := yw.toInt) (t := 25) (by rfl) (by rfl) (rfl) (rfl) (fun h5 => ?_) (fun h6 => ?_)
    · have h5 : (yA.1 102 ((yA.1 69 69).toInt.toNat)).toInt ≠ yw.toInt := h5
      refine Pa.ic (x := (-1)) (pc' := 26) (by rfl) (by rfl) (by decide) ?_
      refine Pa.mp 1 (pc' := 28) (l' := [(4, .int (-1)), (0, .ref 69), (1, .int yw), (2, .int yd), (3, .int yk)]) (st' := []) (by rfl) ?_
      refine Pa.ic (x := 0) (pc' := 29) (by rfl) (by rfl) (by decide) ?_
      refine Pa.mp 1 (pc' := 31) (l' := [(5, .int 0), (4, .int (-1)), (0, .ref 69), (1, .int yw), (2, .int yd), (3, .int yk)]) (st' := []) (by rfl) ?_
      refine Pa.lv (l' := [(0, .ref 69), (1, .int yw), (2, .int yd), (3, .int yk), (4, .int (-1)), (5, .int 0)]) (lvS_c rfl (lvS_c rfl (lvS_c rfl (lvS_c rfl (lvS_c rfl (lvS_c rfl (lvS_nil))))))) rfl ?_
      exact l2 h2 h4 h5
    · have h6 : (yA.1 102 ((yA.1 69 69).toInt.toNat)).toInt = yw.toInt := h6
      refine Pa.mp 1 (pc' := 21) (l' := [(0, .ref 69), (1, .int yw), (2, .int yd), (3, .int yk)]) (st' := [.ref 69]) (by rfl) ?_
      refine Pa.gfI (v := yA.1 69 69) (by rfl) (by rfl) (.inl rfl) (by rfl) (by rfl) ?_
      refine Pa.iret (by rfl) ?_
      exact l3 h2 h4 h6

theorem bm_fo {N : Nat} {yA : AW} {yQ : Option Value → AW → Prop} (yw yd yk yg yi : Int32)
    (l1 : (yA.1 69 45).toInt ≤ yi.toInt → yQ (some (.int yg)) yA)
    (l2 : yi.toInt < (yA.1 69 45).toInt → 0 ≤ yi.toInt → yi.toInt < 20 → (yA.1 102 yi.toInt.toNat).toInt ≠ yw.toInt → Pa N 205 31 [(0, .ref 69), (1, .int yw), (2, .int yd), (3, .int yk), (4, .int yg), (5, .int (yi + 1))] [] yA yQ)
    (l3 : yi.toInt < (yA.1 69 45).toInt → 0 ≤ yi.toInt → yi.toInt < 20 → (yA.1 102 yi.toInt.toNat).toInt = yw.toInt → yk.toInt < (yA.1 103 yi.toInt.toNat).toInt → Pa N 205 31 [(0, .ref 69), (1, .int yw), (2, .int yd), (3, .int yk), (4, .int yg), (5, .int (yi + 1))] [] yA yQ)
    (l4 : yi.toInt < (yA.1 69 45).toInt → 0 ≤ yi.toInt → yi.toInt < 20 → (yA.1 102 yi.toInt.toNat).toInt = yw.toInt → (yA.1 103 yi.toInt.toNat).toInt ≤ yk.toInt → yd.toInt < (yA.1 104 yi.toInt.toNat).toInt → Pa N 205 31 [(0, .ref 69), (1, .int yw), (2, .int yd), (3, .int yk), (4, .int yg), (5, .int (yi + 1))] [] yA yQ)
    (l5 : yi.toInt < (yA.1 69 45).toInt → 0 ≤ yi.toInt → yi.toInt < 20 → (yA.1 102 yi.toInt.toNat).toInt = yw.toInt → (yA.1 103 yi.toInt.toNat).toInt ≤ yk.toInt → (yA.1 104 yi.toInt.toNat).toInt ≤ yd.toInt → Pa N 205 31 [(0, .ref 69), (1, .int yw), (2, .int yd), (3, .int yk), (4, .int yi), (5, .int (yi + 1))] [] yA yQ) :
    Pa (N + 1) 205 31 [(0, .ref 69), (1, .int yw), (2, .int yd), (3, .int yk), (4, .int yg), (5, .int yi)] [] yA yQ := by
  refine Pa.mp1 1 (pc' := 34) (l' := [(0, .ref 69), (1, .int yw), (2, .int yd), (3, .int yk), (4, .int yg), (5, .int yi)]) (st' := [.ref 69, .int yi]) (by rfl) ?_
  refine Pa.gfI (v := yA.1 69 45) (by rfl) (by rfl) (.inl rfl) (by rfl) (by rfl) ?_
  refine Pa.if2 (a := yi.toInt) (b := (yA.1 69 45).toInt) (t := 88) (by rfl) (by rfl) (rfl) (rfl) (fun h1 => ?_) (fun h2 => ?_)
  · have h1 : (yA.1 69 45).toInt ≤ yi.toInt := h1
    refine Pa.mp 1 (pc' := 90) (l' := [(0, .ref 69), (1, .int yw), (2, .int yd), (3, .int yk), (4, .int yg), (5, .int yi)]) (st' := [.int yg]) (by rfl) ?_
    refine Pa.iret (by rfl) ?_
    exact l1 h1
  · have h2 : yi.toInt < (yA.1 69 45).toInt := h2
    refine Pa.mp 1 (pc' := 41) (l' := [(0, .ref 69), (1, .int yw), (2, .int yd), (3, .int yk), (4, .int yg), (5, .int yi)]) (st' := [.ref 69]) (by rfl) ?_
    refine Pa.gfR (by rfl) (by rfl) (.inl rfl) (by rfl) ?_
    show Pa N 205 44 [(0, .ref 69), (1, .int yw), (2, .int yd), (3, .int yk), (4, .int yg), (5, .int yi)] [.ref 102] yA _
    refine Pa.mp 1 (pc' := 46) (l' := [(0, .ref 69), (1, .int yw), (2, .int yd), (3, .int yk), (4, .int yg), (5, .int yi)]) (st' := [.int yi, .ref 102]) (by rfl) ?_
    refine Pa.alds (v := yA.1 102 yi.toInt.toNat) (by rfl) (by rfl) (by rfl) (fun h3 h4 => ?_)
    have h3 : 0 ≤ yi.toInt := h3
    have h4 : yi.toInt < 20 := h4
    refine Pa.mp 1 (pc' := 48) (l' := [(0, .ref 69), (1, .int yw), (2, .int yd), (3, .int yk), (4, .int yg), (5, .int yi)]) (st' := [.int yw, .int (yA.1 102 yi.toInt.toNat)]) (by rfl) ?_
    refine Pa.if2 (a := (yA.1 102 yi.toInt.toNat).toInt) (b := yw.toInt) (t := 78) (by rfl) (by rfl) (rfl) (rfl) (fun h5 => ?_) (fun h6 => ?_)
    · have h5 : (yA.1 102 yi.toInt.toNat).toInt ≠ yw.toInt := h5
      refine Pa.mp 2 (pc' := 82) (l' := [(4, .int yg), (0, .ref 69), (1, .int yw), (2, .int yd), (3, .int yk), (5, .int yi)]) (st' := []) (by rfl) ?_
      refine Pa.iinc (x := yi) (c := 1) (v := (yi + 1)) (l' := [(5, .int (yi + 1)), (4, .int yg), (0, .ref 69), (1, .int yw), (2, .int yd), (3, .int yk)]) (by rfl) (by rfl) (by decide) (by rfl) (by rfl) ?_
      refine Pa.mp 1 (pc' := 31) (l' := [(5, .int (yi + 1)), (4, .int yg), (0, .ref 69), (1, .int yw), (2, .int yd), (3, .int yk)]) (st' := []) (by rfl) ?_
      refine Pa.lv (l' := [(0, .ref 69), (1, .int yw), (2, .int yd), (3, .int yk), (4, .int yg), (5, .int (yi + 1))]) (lvS_c rfl (lvS_c rfl (lvS_c rfl (lvS_c rfl (lvS_c rfl (lvS_c rfl (lvS_nil))))))) rfl ?_
      exact l2 h2 h3 h4 h5
    · have h6 : (yA.1 102 yi.toInt.toNat).toInt = yw.toInt := h6
      refine Pa.mp 1 (pc' := 52) (l' := [(0, .ref 69), (1, .int yw), (2, .int yd), (3, .int yk), (4, .int yg), (5, .int yi)]) (st' := [.ref 69]) (by rfl) ?_
      refine Pa.gfR (by rfl) (by rfl) (.inl rfl) (by rfl) ?_
      show Pa N 205 55 [(0, .ref 69), (1, .int yw), (2, .int yd), (3, .int yk), (4, .int yg), (5, .int yi)] [.ref 103] yA _
      refine Pa.mp 1 (pc' := 57) (l' := [(0, .ref 69), (1, .int yw), (2, .int yd), (3, .int yk), (4, .int yg), (5, .int yi)]) (st' := [.int yi, .ref 103]) (by rfl) ?_
      refine Pa.alds (v := yA.1 103 yi.toInt.toNat) (by rfl) (by rfl) (by rfl) (fun h7 h8 => ?_)
      have h7 : 0 ≤ yi.toInt := h7
      have h8 : yi.toInt < 20 := h8
      refine Pa.mp 1 (pc' := 59) (l' := [(0, .ref 69), (1, .int yw), (2, .int yd), (3, .int yk), (4, .int yg), (5, .int yi)]) (st' := [.int yk, .int (yA.1 103 yi.toInt.toNat)]) (by rfl) ?_
      refine Pa.if2 (a := (yA.1 103 yi.toInt.toNat).toInt) (b := yk.toInt) (t := 78) (by rfl) (by rfl) (rfl) (rfl) (fun h9 => ?_) (fun h10 => ?_)
      · have h9 : yk.toInt < (yA.1 103 yi.toInt.toNat).toInt := h9
        refine Pa.mp 2 (pc' := 82) (l' := [(4, .int yg), (0, .ref 69), (1, .int yw), (2, .int yd), (3, .int yk), (5, .int yi)]) (st' := []) (by rfl) ?_
        refine Pa.iinc (x := yi) (c := 1) (v := (yi + 1)) (l' := [(5, .int (yi + 1)), (4, .int yg), (0, .ref 69), (1, .int yw), (2, .int yd), (3, .int yk)]) (by rfl) (by rfl) (by decide) (by rfl) (by rfl) ?_
        refine Pa.mp 1 (pc' := 31) (l' := [(5, .int (yi + 1)), (4, .int yg), (0, .ref 69), (1, .int yw), (2, .int yd), (3, .int yk)]) (st' := []) (by rfl) ?_
        refine Pa.lv (l' := [(0, .ref 69), (1, .int yw), (2, .int yd), (3, .int yk), (4, .int yg), (5, .int (yi + 1))]) (lvS_c rfl (lvS_c rfl (lvS_c rfl (lvS_c rfl (lvS_c rfl (lvS_c rfl (lvS_nil))))))) rfl ?_
        exact l3 h2 h3 h4 h6 h9
      · have h10 : (yA.1 103 yi.toInt.toNat).toInt ≤ yk.toInt := h10
        refine Pa.mp 1 (pc' := 63) (l' := [(0, .ref 69), (1, .int yw), (2, .int yd), (3, .int yk), (4, .int yg), (5, .int yi)]) (st' := [.ref 69]) (by rfl) ?_
        refine Pa.gfR (by rfl) (by rfl) (.inl rfl) (by rfl) ?_
        show Pa N 205 66 [(0, .ref 69), (1, .int yw), (2, .int yd), (3, .int yk), (4, .int yg), (5, .int yi)] [.ref 104] yA _
        refine Pa.mp 1 (pc' := 68) (l' := [(0, .ref 69), (1, .int yw), (2, .int yd), (3, .int yk), (4, .int yg), (5, .int yi)]) (st' := [.int yi, .ref 104]) (by rfl) ?_
        refine Pa.alds (v := yA.1 104 yi.toInt.toNat) (by rfl) (by rfl) (by rfl) (fun h11 h12 => ?_)
        have h11 : 0 ≤ yi.toInt := h11
        have h12 : yi.toInt < 20 := h12
        refine Pa.mp 1 (pc' := 70) (l' := [(0, .ref 69), (1, .int yw), (2, .int yd), (3, .int yk), (4, .int yg), (5, .int yi)]) (st' := [.int yd, .int (yA.1 104 yi.toInt.toNat)]) (by rfl) ?_
        refine Pa.if2 (a := (yA.1 104 yi.toInt.toNat).toInt) (b := yd.toInt) (t := 78) (by rfl) (by rfl) (rfl) (rfl) (fun h13 => ?_) (fun h14 => ?_)
        · have h13 : yd.toInt < (yA.1 104 yi.toInt.toNat).toInt := h13
          refine Pa.mp 2 (pc' := 82) (l' := [(4, .int yg), (0, .ref 69), (1, .int yw), (2, .int yd), (3, .int yk), (5, .int yi)]) (st' := []) (by rfl) ?_
          refine Pa.iinc (x := yi) (c := 1) (v := (yi + 1)) (l' := [(5, .int (yi + 1)), (4, .int yg), (0, .ref 69), (1, .int yw), (2, .int yd), (3, .int yk)]) (by rfl) (by rfl) (by decide) (by rfl) (by rfl) ?_
          refine Pa.mp 1 (pc' := 31) (l' := [(5, .int (yi + 1)), (4, .int yg), (0, .ref 69), (1, .int yw), (2, .int yd), (3, .int yk)]) (st' := []) (by rfl) ?_
          refine Pa.lv (l' := [(0, .ref 69), (1, .int yw), (2, .int yd), (3, .int yk), (4, .int yg), (5, .int (yi + 1))]) (lvS_c rfl (lvS_c rfl (lvS_c rfl (lvS_c rfl (lvS_c rfl (lvS_c rfl (lvS_nil))))))) rfl ?_
          exact l4 h2 h3 h4 h6 h10 h13
        · have h14 : (yA.1 104 yi.toInt.toNat).toInt ≤ yd.toInt := h14
          refine Pa.mp 3 (pc' := 82) (l' := [(4, .int yi), (0, .ref 69), (1, .int yw), (2, .int yd), (3, .int yk), (5, .int yi)]) (st' := []) (by rfl) ?_
          refine Pa.iinc (x := yi) (c := 1) (v := (yi + 1)) (l' := [(5, .int (yi + 1)), (4, .int yi), (0, .ref 69), (1, .int yw), (2, .int yd), (3, .int yk)]) (by rfl) (by rfl) (by decide) (by rfl) (by rfl) ?_
          refine Pa.mp 1 (pc' := 31) (l' := [(5, .int (yi + 1)), (4, .int yi), (0, .ref 69), (1, .int yw), (2, .int yd), (3, .int yk)]) (st' := []) (by rfl) ?_
          refine Pa.lv (l' := [(0, .ref 69), (1, .int yw), (2, .int yd), (3, .int yk), (4, .int yi), (5, .int (yi + 1))]) (lvS_c rfl (lvS_c rfl (lvS_c rfl (lvS_c rfl (lvS_c rfl (lvS_c rfl (lvS_nil))))))) rfl ?_
          exact l5 h2 h3 h4 h6 h10 h14
theorem c_findL (yA : AW) (yw yd yk : Int32) : ∀ (N yt : Nat) (yx : Int32), yx.toInt = (yt : Int) - 1 → yt ≤ 20 → Pa N 3 37 [(0, .ref 38), (1, .int yw), (2, .int yd), (3, .int yk), (4, .int yx)] [] yA (fun yu A1 => yu = some (.int (enG (-4) (ltG (gdT 40 yA yw yd yk) yt))) ∧ A1 = yA) := by
  intro N
  induction N with
  | zero => intros; exact Pa.zero
  | succ N yih =>
    intro yt yx hx ht
    cases yt with
    | zero =>
      exact bx_fn yw yd yk yx (fun _ => ⟨rfl, rfl⟩) (fun yh => by omega) (fun yh => by omega) (fun yh => by omega) (fun yh => by omega)
    | succ yt =>
      have yex : yx = Int32.ofNat yt := by
        rw [← i32_of (yx := yx) (by omega)]
        congr 1
        omega
      have et : yx.toInt.toNat = yt := by omega
      have ye1 : (yx + (-1)).toInt = (yt : Int) - 1 := i_addx (by rw [show (-1 : Int32).toInt = -1 from by decide]; omega) (by omega) (by omega)
      refine bx_fn yw yd yk yx (fun yh => by omega) (fun _ _ h3 => ?_) (fun _ _ h3 h4 => ?_) (fun _ _ h3 h4 h5 => ?_) (fun _ _ h3 h4 h5 => ?_)
      · rw [et] at h3
        rw [ltG_0 (gdT_0 (fun yq => h3 yq.1))]
        exact yih yt _ ye1 (by omega)
      · rw [et] at h3 h4
        rw [ltG_0 (gdT_0 (fun yq => by have yz : (yA.1 41 yt).toInt ≤ yk.toInt := yq.2.1; omega))]
        exact yih yt _ ye1 (by omega)
      · rw [et] at h3 h4 h5
        rw [ltG_0 (gdT_0 (fun yq => by have yz : (yA.1 42 yt).toInt ≤ yd.toInt := yq.2.2; omega))]
        exact yih yt _ ye1 (by omega)
      · rw [et] at h3 h4 h5
        rw [ltG_1 (gdT_1 ⟨h3, h4, h5⟩)]
        exact ⟨by rw [yex]; rfl, rfl⟩
theorem c_forceL (yA : AW) (yw yd yk : Int32) (h0 : 0 ≤ (yA.1 69 45).toInt) (h1 : (yA.1 69 45).toInt ≤ 20) : ∀ (N ym yi : Nat), yi + ym = (yA.1 69 45).toInt.toNat → Pa N 205 31 [(0, .ref 69), (1, .int yw), (2, .int yd), (3, .int yk), (4, .int (enG (-1) (ltG (gdT 102 yA yw yd yk) yi))), (5, .int (Int32.ofNat yi))] [] yA (fun yu A1 => yu = some (.int (enG (-1) (ltG (gdT 102 yA yw yd yk) (yA.1 69 45).toInt.toNat))) ∧ A1 = yA) := by
  intro N
  induction N with
  | zero => intros; exact Pa.zero
  | succ N yih =>
    intro ym yi him
    have ei : (Int32.ofNat yi).toInt = (yi : Int) := i32_nat (by omega)
    refine bm_fo yw yd yk _ _ (fun yq1 => ?_) (fun yq1 _ _ h3 => ?_) (fun yq1 _ _ h3 h4 => ?_) (fun yq1 _ _ h3 h4 h5 => ?_) (fun yq1 _ _ h3 h4 h5 => ?_)
    · rw [ei] at yq1
      rw [show (yA.1 69 45).toInt.toNat = yi from by omega]
      exact ⟨rfl, rfl⟩
    · rw [ei] at yq1
      rw [ei, Int.toNat_natCast] at h3
      have yh := yih (ym - 1) (yi + 1) (by omega)
      rw [ltG_0 (gdT_0 (fun yq => h3 yq.1)), on_succ yi] at yh
      exact yh
    · rw [ei] at yq1
      rw [ei, Int.toNat_natCast] at h3 h4
      have yh := yih (ym - 1) (yi + 1) (by omega)
      rw [ltG_0 (gdT_0 (fun yq => by have yz : (yA.1 103 yi).toInt ≤ yk.toInt := yq.2.1; omega)), on_succ yi] at yh
      exact yh
    · rw [ei] at yq1
      rw [ei, Int.toNat_natCast] at h3 h4 h5
      have yh := yih (ym - 1) (yi + 1) (by omega)
      rw [ltG_0 (gdT_0 (fun yq => by have yz : (yA.1 104 yi).toInt ≤ yd.toInt := yq.2.2; omega)), on_succ yi] at yh
      exact yh
    · rw [ei] at yq1
      rw [ei, Int.toNat_natCast] at h3 h4 h5
      have yh := yih (ym - 1) (yi + 1) (by omega)
      rw [ltG_1 (gdT_1 ⟨h3, h4, h5⟩), on_succ yi] at yh
      exact yh
