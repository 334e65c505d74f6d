/-! WHAT AN ACT yOF yA LAND SAYS yOF yA FILM -/
def lwE (yd yq ye yb : Int32) (yi : Nat) : Int32 := if yi = 6 then yd / 360 else if yi = 7 then yq else if yi = 8 then ye else if yi = 9 then yb else 0
def rnV : Option (Int32 × Nat) → Int32
  | some yr => yr.1
  | none => 0
def rnL : Option (Int32 × Nat) → Int32
  | some yr => Int32.ofNat yr.2
  | none => -1
theorem ev1_cg {ye e' : Nat → Int32} (yh : ∀ yi, yi < 10 → ye yi = e' yi) (yst : List Int32) (yx : Int32) : ev1 ye yst yx = ev1 e' yst yx := by
  unfold ev1
  by_cases h0 : 0 ≤ yx.toInt
  · rw [if_pos h0, if_pos h0]
  · rw [if_neg h0, if_neg h0]
    by_cases h1 : -10 ≤ yx.toInt
    · have ye1 : (-1 - yx).toInt = -1 - yx.toInt := i_subx (by rw [show (-1 : Int32).toInt = -1 from by decide]) (by omega) (by omega)
      rw [if_pos h1, if_pos h1, yh _ (by rw [ye1]; omega)]
    · rw [if_neg h1, if_neg h1]
theorem rnX_cg {ye e' : Nat → Int32} (yh : ∀ yi, yi < 10 → ye yi = e' yi) : ∀ (ds : List Int32) (sk : Bool) (yst : List Int32) (ln : Nat), rnX ye ds sk yst ln = rnX e' ds sk yst ln
  | [], _, _, _ => rfl
  | yx :: yr, true, yst, ln => rnX_cg yh yr _ yst ln
  | yx :: yr, false, yst, ln => by
    show (if yx.toInt = -59 then some (yst.headD 0, ln) else if yx.toInt = -63 then (if (yst.headD 0).toInt = 0 then rnX ye yr true yst.tail (ln + 1) else rnX ye yr false yst.tail ln) else rnX ye yr false (ev1 ye yst yx) ln) = (if yx.toInt = -59 then some (yst.headD 0, ln) else if yx.toInt = -63 then (if (yst.headD 0).toInt = 0 then rnX e' yr true yst.tail (ln + 1) else rnX e' yr false yst.tail ln) else rnX e' yr false (ev1 e' yst yx) ln)
    rw [ev1_cg yh, rnX_cg yh yr true, rnX_cg yh yr false yst.tail, rnX_cg yh yr false (ev1 e' yst yx)]
theorem rnQ_v {yA : AW} {yr : Option (Int32 × Nat)} {yu : Option Value} {A1 : AW} (yh : rnQ yA yr yu A1) : yu = some (.int (rnV yr)) ∧ ∃ yq yk, A1 = rnW yA (rnL yr) yq yk := by
  obtain ⟨l, yq, yk, ye1, ⟨yv, ym, ye2, ye3, ye4⟩ | ⟨ye2, ye3, ye4⟩⟩ := yh
  · subst ye2 ye4
    exact ⟨ye3, yq, yk, ye1⟩
  · subst ye2 ye4
    exact ⟨ye3, yq, yk, ye1⟩
/-- the codes of ya ytext, by its bytes -/
def txD (yA : AW) (yq : Nat) (ds : List Int32) : Prop := ∃ yn yd, yA.1 101 yq = Int32.ofNat yn ∧ yn ≤ 160 ∧ RT (fun yj => yA.1 100 (160 * yq + yj)) yn 0 (yd, some ds)
theorem txD_one {yA : AW} {yq : Nat} {ds es : List Int32} (h1 : txD yA yq ds) (h2 : txD yA yq es) : ds = es := by
  obtain ⟨yn, yd, ya1, a2, a3⟩ := h1
  obtain ⟨ym, ye, b1, b2, b3⟩ := h2
  have hnm : yn = ym := by
    have yh := congrArg Int32.toInt (ya1.symm.trans b1)
    rw [i32_nat (by omega), i32_nat (by omega)] at yh
    omega
  subst hnm
  have := (Prod.mk.inj (RT.one a3 b3)).2
  injection this
/-! the class -/
/-- yrows of facts and the runner's own are written, nothing else -/
def lwW (yA A1 : AW) : Prop := ∃ yg l yh yk, A1 = rnW (uF yA 44 yg) l yh yk
theorem uF_of {yA yU : AW} {yc : Nat} (h1 : ∀ yb yj, yb ≠ yc → yU.1 yb yj = yA.1 yb yj) (h2 : yU.2 = yA.2) : yU = uF yA yc (yU.1 yc) := by
  refine Prod.ext ?_ h2
  funext yb yj
  show yU.1 yb yj = if yb = yc then yU.1 yc yj else yA.1 yb yj
  by_cases ye : yb = yc
  · rw [if_pos ye, ye]
  · rw [if_neg ye]
    exact h1 yb yj ye
theorem lwW_refl (yA : AW) : lwW yA yA := by
  refine ⟨yA.1 44, yA.1 38 9, yA.1 38 10, yA.1 45, ?_⟩
  refine Prod.ext ?_ rfl
  funext c' k'
  simp only [rnW, uI, uF]
  repeat' split
  all_goals first
    | rfl
    | (subst_vars; rfl)
    | (simp_all; done)
theorem lwW_c {yA A1 : AW} (yh : lwW yA A1) {yc yj : Nat} (h1 : yc ≠ 38) (h2 : yc ≠ 44) (h3 : yc ≠ 45) : A1.1 yc yj = yA.1 yc yj := by
  obtain ⟨yg, l, yq, yk, rfl⟩ := yh
  rw [rnW_c h1 h3, uF_c h2]
theorem lwW_38 {yA A1 : AW} (yh : lwW yA A1) {yj : Nat} (h1 : yj ≠ 9) (h2 : yj ≠ 10) : A1.1 38 yj = yA.1 38 yj := by
  obtain ⟨yg, l, yq, yk, rfl⟩ := yh
  rw [rnW_38 h1 h2, uF_c (by decide)]
theorem lwW_2 {yA A1 : AW} (yh : lwW yA A1) : A1.2 = yA.2 := by
  obtain ⟨yg, l, yq, yk, rfl⟩ := yh
  rfl
def clX (yu yv : Int32) : Int32 := if yu.toInt = 4 then yv else if yu.toInt = 1 then i_max 0 (i_min yv 100) else i_max 0 (i_min yv 99999999)
theorem bx_lo0 {N : Nat} {yA : AW} {yQ : Option Value → AW → Prop} (us l yf yd yk : Int32)
    (l1 : Pa N 3 0 [(0, .ref 38), (1, .int ((l * 10) + us)), (2, .int yd), (3, .int yk)] [] yA (fun yu A1 => Pa N 15 17 [(0, .ref 46), (1, .int us), (2, .int l), (3, .int yf), (4, .int yd), (5, .int yk)] (yu.toList ++ []) A1 yQ)) :
    Pa N 15 0 [(0, .ref 46), (1, .int us), (2, .int l), (3, .int yf), (4, .int yd), (5, .int yk)] [] yA yQ := by
  refine Pa.mp 1 (pc' := 1) (l' := [(0, .ref 46), (1, .int us), (2, .int l), (3, .int yf), (4, .int yd), (5, .int yk)]) (st' := [.ref 46]) (by rfl) ?_
  refine Pa.gfR (by rfl) (by rfl) (.inl rfl) (by rfl) ?_
  show Pa N 15 4 [(0, .ref 46), (1, .int us), (2, .int l), (3, .int yf), (4, .int yd), (5, .int yk)] [.ref 38] yA _
  refine Pa.mp 1 (pc' := 5) (l' := [(0, .ref 46), (1, .int us), (2, .int l), (3, .int yf), (4, .int yd), (5, .int yk)]) (st' := [.int l, .ref 38]) (by rfl) ?_
  refine Pa.ic (x := 10) (pc' := 7) (by rfl) (by rfl) (by decide) ?_
  refine Pa.mp 5 (pc' := 14) (l' := [(0, .ref 46), (1, .int us), (2, .int l), (3, .int yf), (4, .int yd), (5, .int yk)]) (st' := [.int yk, .int yd, .int ((l * 10) + us), .ref 38]) (by rfl) ?_
  refine Pa.inv (by rfl) (by rfl) (.inr rfl) (by rfl) ?_
  exact l1

theorem bx_lo1 {N : Nat} {yA : AW} {yQ : Option Value → AW → Prop} (us l yf yd yk yx : Int32) (h0 : 0 ≤ yf.toInt) (h1 : yf.toInt < (yA.1 5 6).toInt)
    (l1 : 0 ≤ yx.toInt → 0 ≤ yf.toInt → yf.toInt < 20 → Pa N 4 0 [(0, .ref 38), (1, .int yx)] [] (uI (uI (uI (uI (uI (uI (uI (uI (uI (uI (uI (uI (uI (uI yA 44 0 0) 44 1 0) 44 2 0) 44 3 0) 44 4 0) 44 5 0) 44 6 0) 44 7 0) 44 8 0) 44 9 0) 44 6 (yd / 360)) 44 7 (ptsX yA yf l yk)) 44 8 (yA.1 7 yf.toInt.toNat)) 44 9 (bcX (yA.1 34 yf.toInt.toNat))) (fun yu A1 => Pa N 15 60 [(0, .ref 46), (1, .int us), (2, .int l), (3, .int yf), (4, .int yd), (5, .int yk), (6, .int yx)] (yu.toList ++ []) A1 yQ))
    (l2 : yx.toInt < 0 → 0 ≤ us.toInt → yQ (some (.int (x_tab 3 us.toInt.toNat))) yA) :
    Pa N 15 17 [(0, .ref 46), (1, .int us), (2, .int l), (3, .int yf), (4, .int yd), (5, .int yk)] [.int yx] yA yQ := by
  refine Pa.mp 2 (pc' := 21) (l' := [(6, .int yx), (0, .ref 46), (1, .int us), (2, .int l), (3, .int yf), (4, .int yd), (5, .int yk)]) (st' := [.int yx]) (by rfl) ?_
  refine Pa.if1 (a := yx.toInt) (t := 30) (by rfl) (by rfl) (rfl) (fun h1 => ?_) (fun h2 => ?_)
  · have h1 : 0 ≤ yx.toInt := h1
    refine Pa.mp 1 (pc' := 31) (l' := [(6, .int yx), (0, .ref 46), (1, .int us), (2, .int l), (3, .int yf), (4, .int yd), (5, .int yk)]) (st' := [.ref 46]) (by rfl) ?_
    refine Pa.gfR (by rfl) (by rfl) (.inl rfl) (by rfl) ?_
    show Pa N 15 34 [(6, .int yx), (0, .ref 46), (1, .int us), (2, .int l), (3, .int yf), (4, .int yd), (5, .int yk)] [.ref 38] yA _
    refine Pa.gfR (by rfl) (by rfl) (.inr rfl) (by rfl) ?_
    show Pa N 15 37 [(6, .int yx), (0, .ref 46), (1, .int us), (2, .int l), (3, .int yf), (4, .int yd), (5, .int yk)] [.ref 44] yA _
    refine Pa.ic (x := 0) (pc' := 38) (by rfl) (by rfl) (by decide) ?_
    refine Pa.ist (by rfl) (by rfl) (.inl rfl) (by rfl) (by rfl) ?_
    show Pa N 272 0 [(0, .ref 44), (1, .int 0)] [] yA _
    refine Pa.ic (x := 0) (pc' := 1) (by rfl) (by rfl) (by decide) ?_
    refine Pa.mp 2 (pc' := 3) (l' := [(2, .int 0), (0, .ref 44), (1, .int 0)]) (st' := [.ref 44]) (by rfl) ?_
    refine Pa.lens (x := 10) (by rfl) (by rfl) (by decide) ?_
    refine Pa.mp 3 (pc' := 7) (l' := [(3, .int 10), (2, .int 0), (0, .ref 44), (1, .int 0)]) (st' := [.int 10, .int 0]) (by rfl) ?_
    refine Pa.if2k false (by rfl) (by rfl) (by decide) ?_
    show Pa N 272 10 [(3, .int 10), (2, .int 0), (0, .ref 44), (1, .int 0)] [] yA _
    refine Pa.mp 3 (pc' := 13) (l' := [(3, .int 10), (2, .int 0), (0, .ref 44), (1, .int 0)]) (st' := [.int 0, .int 0, .ref 44]) (by rfl) ?_
    refine Pa.asts (j' := 0) (by rfl) (by rfl) (by rfl) (fun h3 h4 => ?_)
    show Pa N 272 14 [(3, .int 10), (2, .int 0), (0, .ref 44), (1, .int 0)] [] (uI yA 44 0 0) _
    refine Pa.iinc (x := 0) (c := 1) (v := 1) (l' := [(2, .int 1), (3, .int 10), (0, .ref 44), (1, .int 0)]) (by rfl) (by rfl) (by decide) (by decide) (by rfl) ?_
    refine Pa.mp 3 (pc' := 7) (l' := [(2, .int 1), (3, .int 10), (0, .ref 44), (1, .int 0)]) (st' := [.int 10, .int 1]) (by rfl) ?_
    refine Pa.if2k false (by rfl) (by rfl) (by decide) ?_
    show Pa N 272 10 [(2, .int 1), (3, .int 10), (0, .ref 44), (1, .int 0)] [] (uI yA 44 0 0) _
    refine Pa.mp 3 (pc' := 13) (l' := [(2, .int 1), (3, .int 10), (0, .ref 44), (1, .int 0)]) (st' := [.int 0, .int 1, .ref 44]) (by rfl) ?_
    refine Pa.asts (j' := 1) (by rfl) (by rfl) (by rfl) (fun h5 h6 => ?_)
    show Pa N 272 14 [(2, .int 1), (3, .int 10), (0, .ref 44), (1, .int 0)] [] (uI (uI yA 44 0 0) 44 1 0) _
    refine Pa.iinc (x := 1) (c := 1) (v := 2) (l' := [(2, .int 2), (3, .int 10), (0, .ref 44), (1, .int 0)]) (by rfl) (by rfl) (by decide) (by decide) (by rfl) ?_
    refine Pa.mp 3 (pc' := 7) (l' := [(2, .int 2), (3, .int 10), (0, .ref 44), (1, .int 0)]) (st' := [.int 10, .int 2]) (by rfl) ?_
    refine Pa.if2k false (by rfl) (by rfl) (by decide) ?_
    show Pa N 272 10 [(2, .int 2), (3, .int 10), (0, .ref 44), (1, .int 0)] [] (uI (uI yA 44 0 0) 44 1 0) _
    refine Pa.mp 3 (pc' := 13) (l' := [(2, .int 2), (3, .int 10), (0, .ref 44), (1, .int 0)]) (st' := [.int 0, .int 2, .ref 44]) (by rfl) ?_
    refine Pa.asts (j' := 2) (by rfl) (by rfl) (by rfl) (fun h7 h8 => ?_)
    show Pa N 272 14 [(2, .int 2), (3, .int 10), (0, .ref 44), (1, .int 0)] [] (uI (uI (uI yA 44 0 0) 44 1 0) 44 2 0) _
    refine Pa.iinc (x := 2) (c := 1) (v := 3) (l' := [(2, .int 3), (3, .int 10), (0, .ref 44), (1, .int 0)]) (by rfl) (by rfl) (by decide) (by decide) (by rfl) ?_
    refine Pa.mp 3 (pc' := 7) (l' := [(2, .int 3), (3, .int 10), (0, .ref 44), (1, .int 0)]) (st' := [.int 10, .int 3]) (by rfl) ?_
    refine Pa.if2k false (by rfl) (by rfl) (by decide) ?_
    show Pa N 272 10 [(2, .int 3), (3, .int 10), (0, .ref 44), (1, .int 0)] [] (uI (uI (uI yA 44 0 0) 44 1 0) 44 2 0) _
    refine Pa.mp 3 (pc' := 13) (l' := [(2, .int 3), (3, .int 10), (0, .ref 44), (1, .int 0)]) (st' := [.int 0, .int 3, .ref 44]) (by rfl) ?_
    refine Pa.asts (j' := 3) (by rfl) (by rfl) (by rfl) (fun h9 h10 => ?_)
    show Pa N 272 14 [(2, .int 3), (3, .int 10), (0, .ref 44), (1, .int 0)] [] (uI (uI (uI (uI yA 44 0 0) 44 1 0) 44 2 0) 44 3 0) _
    refine Pa.iinc (x := 3) (c := 1) (v := 4) (l' := [(2, .int 4), (3, .int 10), (0, .ref 44), (1, .int 0)]) (by rfl) (by rfl) (by decide) (by decide) (by rfl) ?_
    refine Pa.mp 3 (pc' := 7) (l' := [(2, .int 4), (3, .int 10), (0, .ref 44), (1, .int 0)]) (st' := [.int 10, .int 4]) (by rfl) ?_
    refine Pa.if2k false (by rfl) (by rfl) (by decide) ?_
    show Pa N 272 10 [(2, .int 4), (3, .int 10), (0, .ref 44), (1, .int 0)] [] (uI (uI (uI (uI yA 44 0 0) 44 1 0) 44 2 0) 44 3 0) _
    refine Pa.mp 3 (pc' := 13) (l' := [(2, .int 4), (3, .int 10), (0, .ref 44), (1, .int 0)]) (st' := [.int 0, .int 4, .ref 44]) (by rfl) ?_
    refine Pa.asts (j' := 4) (by rfl) (by rfl) (by rfl) (fun h11 h12 => ?_)
    show Pa N 272 14 [(2, .int 4), (3, .int 10), (0, .ref 44), (1, .int 0)] [] (uI (uI (uI (uI (uI yA 44 0 0) 44 1 0) 44 2 0) 44 3 0) 44 4 0) _
    refine Pa.iinc (x := 4) (c := 1) (v := 5) (l' := [(2, .int 5), (3, .int 10), (0, .ref 44), (1, .int 0)]) (by rfl) (by rfl) (by decide) (by decide) (by rfl) ?_
    refine Pa.mp 3 (pc' := 7) (l' := [(2, .int 5), (3, .int 10), (0, .ref 44), (1, .int 0)]) (st' := [.int 10, .int 5]) (by rfl) ?_
    refine Pa.if2k false (by rfl) (by rfl) (by decide) ?_
    show Pa N 272 10 [(2, .int 5), (3, .int 10), (0, .ref 44), (1, .int 0)] [] (uI (uI (uI (uI (uI yA 44 0 0) 44 1 0) 44 2 0) 44 3 0) 44 4 0) _
    refine Pa.mp 3 (pc' := 13) (l' := [(2, .int 5), (3, .int 10), (0, .ref 44), (1, .int 0)]) (st' := [.int 0, .int 5, .ref 44]) (by rfl) ?_
    refine Pa.asts (j' := 5) (by rfl) (by rfl) (by rfl) (fun h13 h14 => ?_)
    show Pa N 272 14 [(2, .int 5), (3, .int 10), (0, .ref 44), (1, .int 0)] [] (uI (uI (uI (uI (uI (uI yA 44 0 0) 44 1 0) 44 2 0) 44 3 0) 44 4 0) 44 5 0) _
    refine Pa.iinc (x := 5) (c := 1) (v := 6) (l' := [(2, .int 6), (3, .int 10), (0, .ref 44), (1, .int 0)]) (by rfl) (by rfl) (by decide) (by decide) (by rfl) ?_
    refine Pa.mp 3 (pc' := 7) (l' := [(2, .int 6), (3, .int 10), (0, .ref 44), (1, .int 0)]) (st' := [.int 10, .int 6]) (by rfl) ?_
    refine Pa.if2k false (by rfl) (by rfl) (by decide) ?_
    show Pa N 272 10 [(2, .int 6), (3, .int 10), (0, .ref 44), (1, .int 0)] [] (uI (uI (uI (uI (uI (uI yA 44 0 0) 44 1 0) 44 2 0) 44 3 0) 44 4 0) 44 5 0) _
    refine Pa.mp 3 (pc' := 13) (l' := [(2, .int 6), (3, .int 10), (0, .ref 44), (1, .int 0)]) (st' := [.int 0, .int 6, .ref 44]) (by rfl) ?_
    refine Pa.asts (j' := 6) (by rfl) (by rfl) (by rfl) (fun h15 yh16 => ?_)
    show Pa N 272 14 [(2, .int 6), (3, .int 10), (0, .ref 44), (1, .int 0)] [] (uI (uI (uI (uI (uI (uI (uI yA 44 0 0) 44 1 0) 44 2 0) 44 3 0) 44 4 0) 44 5 0) 44 6 0) _
    refine Pa.iinc (x := 6) (c := 1) (v := 7) (l' := [(2, .int 7), (3, .int 10), (0, .ref 44), (1, .int 0)]) (by rfl) (by rfl) (by decide) (by decide) (by rfl) ?_
    refine Pa.mp 3 (pc' := 7) (l' := [(2, .int 7), (3, .int 10), (0, .ref 44), (1, .int 0)]) (st' := [.int 10, .int 7]) (by rfl) ?_
    refine Pa.if2k false (by rfl) (by rfl) (by decide) ?_
    show Pa N 272 10 [(2, .int 7), (3, .int 10), (0, .ref 44), (1, .int 0)] [] (uI (uI (uI (uI (uI (uI (uI yA 44 0 0) 44 1 0) 44 2 0) 44 3 0) 44 4 0) 44 5 0) 44 6 0) _
    refine Pa.mp 3 (pc' := 13) (l' := [(2, .int 7), (3, .int 10), (0, .ref 44), (1, .int 0)]) (st' := [.int 0, .int 7, .ref 44]) (by rfl) ?_
    refine Pa.asts (j' := 7) (by rfl) (by rfl) (by rfl) (fun h17 h18 => ?_)
    show Pa N 272 14 [(2, .int 7), (3, .int 10), (0, .ref 44), (1, .int 0)] [] (uI (uI (uI (uI (uI (uI (uI (uI yA 44 0 0) 44 1 0) 44 2 0) 44 3 0) 44 4 0) 44 5 0) 44 6 0) 44 7 0) _
    refine Pa.iinc (x := 7) (c := 1) (v := 8) (l' := [(2, .int 8), (3, .int 10), (0, .ref 44), (1, .int 0)]) (by rfl) (by rfl) (by decide) (by decide) (by rfl) ?_
    refine Pa.mp 3 (pc' := 7) (l' := [(2, .int 8), (3, .int 10), (0, .ref 44), (1, .int 0)]) (st' := [.int 10, .int 8]) (by rfl) ?_
    refine Pa.if2k false (by rfl) (by rfl) (by decide) ?_
    show Pa N 272 10 [(2, .int 8), (3, .int 10), (0, .ref 44), (1, .int 0)] [] (uI (uI (uI (uI (uI (uI (uI (uI yA 44 0 0) 44 1 0) 44 2 0) 44 3 0) 44 4 0) 44 5 0) 44 6 0) 44 7 0) _
    refine Pa.mp 3 (pc' := 13) (l' := [(2, .int 8), (3, .int 10), (0, .ref 44), (1, .int 0)]) (st' := [.int 0, .int 8, .ref 44]) (by rfl) ?_
    refine Pa.asts (j' := 8) (by rfl) (by rfl) (by rfl) (fun h19 h20 => ?_)
    show Pa N 272 14 [(2, .int 8), (3, .int 10), (0, .ref 44), (1, .int 0)] [] (uI (uI (uI (uI (uI (uI (uI (uI (uI yA 44 0 0) 44 1 0) 44 2 0) 44 3 0) 44 4 0) 44 5 0) 44 6 0) 44 7 0) 44 8 0) _
    refine Pa.iinc (x := 8) (c := 1) (v := 9) (l' := [(2, .int 9), (3, .int 10), (0, .ref 44), (1, .int 0)]) (by rfl) (by rfl) (by decide) (by decide) (by rfl) ?_
    refine Pa.mp 3 (pc' := 7) (l' := [(2, .int 9), (3, .int 10), (0, .ref 44), (1, .int 0)]) (st' := [.int 10, .int 9]) (by rfl) ?_
    refine Pa.if2k false (by rfl) (by rfl) (by decide) ?_
    show Pa N 272 10 [(2, .int 9), (3, .int 10), (0, .ref 44), (1, .int 0)] [] (uI (uI (uI (uI (uI (uI (uI (uI (uI yA 44 0 0) 44 1 0) 44 2 0) 44 3 0) 44 4 0) 44 5 0) 44 6 0) 44 7 0) 44 8 0) _
    refine Pa.mp 3 (pc' := 13) (l' := [(2, .int 9), (3, .int 10), (0, .ref 44), (1, .int 0)]) (st' := [.int 0, .int 9, .ref 44]) (by rfl) ?_
    refine Pa.asts (j' := 9) (by rfl) (by rfl) (by rfl) (fun h21 h22 => ?_)
    show Pa N 272 14 [(2, .int 9), (3, .int 10), (0, .ref 44), (1, .int 0)] [] (uI (uI (uI (uI (uI (uI (uI (uI (uI (uI yA 44 0 0) 44 1 0) 44 2 0) 44 3 0) 44 4 0) 44 5 0) 44 6 0) 44 7 0) 44 8 0) 44 9 0) _
    refine Pa.iinc (x := 9) (c := 1) (v := 10) (l' := [(2, .int 10), (3, .int 10), (0, .ref 44), (1, .int 0)]) (by rfl) (by rfl) (by decide) (by decide) (by rfl) ?_
    refine Pa.mp 3 (pc' := 7) (l' := [(2, .int 10), (3, .int 10), (0, .ref 44), (1, .int 0)]) (st' := [.int 10, .int 10]) (by rfl) ?_
    refine Pa.if2k true (by rfl) (by rfl) (by decide) ?_
    show Pa N 272 20 [(2, .int 10), (3, .int 10), (0, .ref 44), (1, .int 0)] [] (uI (uI (uI (uI (uI (uI (uI (uI (uI (uI yA 44 0 0) 44 1 0) 44 2 0) 44 3 0) 44 4 0) 44 5 0) 44 6 0) 44 7 0) 44 8 0) 44 9 0) _
    refine Pa.vret (by rfl) ?_
    show Pa N 15 41 [(6, .int yx), (0, .ref 46), (1, .int us), (2, .int l), (3, .int yf), (4, .int yd), (5, .int yk)] [] (uI (uI (uI (uI (uI (uI (uI (uI (uI (uI yA 44 0 0) 44 1 0) 44 2 0) 44 3 0) 44 4 0) 44 5 0) 44 6 0) 44 7 0) 44 8 0) 44 9 0) _
    refine Pa.mp 5 (pc' := 48) (l' := [(6, .int yx), (0, .ref 46), (1, .int us), (2, .int l), (3, .int yf), (4, .int yd), (5, .int yk)]) (st' := [.int yk, .int yd, .int l, .int yf, .ref 46]) (by rfl) ?_
    refine Pa.inv (by rfl) (by rfl) (.inl rfl) (by rfl) ?_
    show Pa N 14 0 [(0, .ref 46), (1, .int yf), (2, .int l), (3, .int yd), (4, .int yk)] [] (uI (uI (uI (uI (uI (uI (uI (uI (uI (uI yA 44 0 0) 44 1 0) 44 2 0) 44 3 0) 44 4 0) 44 5 0) 44 6 0) 44 7 0) 44 8 0) 44 9 0) _
    refine Pa.mp 1 (pc' := 1) (l' := [(0, .ref 46), (1, .int yf), (2, .int l), (3, .int yd), (4, .int yk)]) (st' := [.ref 46]) (by rfl) ?_
    refine Pa.gfR (by rfl) (by rfl) (.inl rfl) (by rfl) ?_
    show Pa N 14 4 [(0, .ref 46), (1, .int yf), (2, .int l), (3, .int yd), (4, .int yk)] [.ref 38] (uI (uI (uI (uI (uI (uI (uI (uI (uI (uI yA 44 0 0) 44 1 0) 44 2 0) 44 3 0) 44 4 0) 44 5 0) 44 6 0) 44 7 0) 44 8 0) 44 9 0) _
    refine Pa.gfR (by rfl) (by rfl) (.inr rfl) (by rfl) ?_
    show Pa N 14 7 [(0, .ref 46), (1, .int yf), (2, .int l), (3, .int yd), (4, .int yk)] [.ref 44] (uI (uI (uI (uI (uI (uI (uI (uI (uI (uI yA 44 0 0) 44 1 0) 44 2 0) 44 3 0) 44 4 0) 44 5 0) 44 6 0) 44 7 0) 44 8 0) 44 9 0) _
    refine Pa.ic (x := 6) (pc' := 9) (by rfl) (by rfl) (by decide) ?_
    refine Pa.mp 1 (pc' := 10) (l' := [(0, .ref 46), (1, .int yf), (2, .int l), (3, .int yd), (4, .int yk)]) (st' := [.int yd, .int 6, .ref 44]) (by rfl) ?_
    refine Pa.ic (x := 360) (pc' := 13) (by rfl) (by rfl) (by decide) ?_
    refine Pa.idiv (by rfl) ?_
    refine Pa.asts (j' := 6) (by rfl) (by rfl) (by rfl) (fun h23 h24 => ?_)
    show Pa N 14 15 [(0, .ref 46), (1, .int yf), (2, .int l), (3, .int yd), (4, .int yk)] [] (uI (uI (uI (uI (uI (uI (uI (uI (uI (uI (uI yA 44 0 0) 44 1 0) 44 2 0) 44 3 0) 44 4 0) 44 5 0) 44 6 0) 44 7 0) 44 8 0) 44 9 0) 44 6 (yd / 360)) _
    refine Pa.mp 1 (pc' := 16) (l' := [(0, .ref 46), (1, .int yf), (2, .int l), (3, .int yd), (4, .int yk)]) (st' := [.ref 46]) (by rfl) ?_
    refine Pa.gfR (by rfl) (by rfl) (.inl rfl) (by rfl) ?_
    show Pa N 14 19 [(0, .ref 46), (1, .int yf), (2, .int l), (3, .int yd), (4, .int yk)] [.ref 38] (uI (uI (uI (uI (uI (uI (uI (uI (uI (uI (uI yA 44 0 0) 44 1 0) 44 2 0) 44 3 0) 44 4 0) 44 5 0) 44 6 0) 44 7 0) 44 8 0) 44 9 0) 44 6 (yd / 360)) _
    refine Pa.gfR (by rfl) (by rfl) (.inr rfl) (by rfl) ?_
    show Pa N 14 22 [(0, .ref 46), (1, .int yf), (2, .int l), (3, .int yd), (4, .int yk)] [.ref 44] (uI (uI (uI (uI (uI (uI (uI (uI (uI (uI (uI yA 44 0 0) 44 1 0) 44 2 0) 44 3 0) 44 4 0) 44 5 0) 44 6 0) 44 7 0) 44 8 0) 44 9 0) 44 6 (yd / 360)) _
    refine Pa.ic (x := 7) (pc' := 24) (by rfl) (by rfl) (by decide) ?_
    refine Pa.mp 1 (pc' := 25) (l' := [(0, .ref 46), (1, .int yf), (2, .int l), (3, .int yd), (4, .int yk)]) (st' := [.ref 46, .int 7, .ref 44]) (by rfl) ?_
    refine Pa.gfR (by rfl) (by rfl) (.inl rfl) (by rfl) ?_
    show Pa N 14 28 [(0, .ref 46), (1, .int yf), (2, .int l), (3, .int yd), (4, .int yk)] [.ref 5, .int 7, .ref 44] (uI (uI (uI (uI (uI (uI (uI (uI (uI (uI (uI yA 44 0 0) 44 1 0) 44 2 0) 44 3 0) 44 4 0) 44 5 0) 44 6 0) 44 7 0) 44 8 0) 44 9 0) 44 6 (yd / 360)) _
    refine Pa.mp 3 (pc' := 32) (l' := [(0, .ref 46), (1, .int yf), (2, .int l), (3, .int yd), (4, .int yk)]) (st' := [.int yk, .int l, .int yf, .ref 5, .int 7, .ref 44]) (by rfl) ?_
    refine Pa.inv (by rfl) (by rfl) (.inr rfl) (by rfl) ?_
    refine Pa.mono (c_ptsW N yA (uI (uI (uI (uI (uI (uI (uI (uI (uI (uI (uI yA 44 0 0) 44 1 0) 44 2 0) 44 3 0) 44 4 0) 44 5 0) 44 6 0) 44 7 0) 44 8 0) 44 9 0) 44 6 (yd / 360)) yf l yk (by first | rfl | (repeat rw [uI_c (by decide)])) (fun _ => by first | rfl | (repeat rw [uI_c (by decide)])) (fun _ => by first | rfl | (repeat rw [uI_c (by decide)])) (fun _ => by first | rfl | (repeat rw [uI_c (by decide)])) (fun _ => by first | rfl | (repeat rw [uI_c (by decide)]))) (fun yu A1 hu => ?_)
    obtain ⟨rfl, hu⟩ := hu
    rw [hu]
    show Pa N 14 35 [(0, .ref 46), (1, .int yf), (2, .int l), (3, .int yd), (4, .int yk)] [.int (ptsX yA yf l yk), .int 7, .ref 44] (uI (uI (uI (uI (uI (uI (uI (uI (uI (uI (uI yA 44 0 0) 44 1 0) 44 2 0) 44 3 0) 44 4 0) 44 5 0) 44 6 0) 44 7 0) 44 8 0) 44 9 0) 44 6 (yd / 360)) _
    refine Pa.asts (j' := 7) (by rfl) (by rfl) (by rfl) (fun h25 h26 => ?_)
    show Pa N 14 36 [(0, .ref 46), (1, .int yf), (2, .int l), (3, .int yd), (4, .int yk)] [] (uI (uI (uI (uI (uI (uI (uI (uI (uI (uI (uI (uI yA 44 0 0) 44 1 0) 44 2 0) 44 3 0) 44 4 0) 44 5 0) 44 6 0) 44 7 0) 44 8 0) 44 9 0) 44 6 (yd / 360)) 44 7 (ptsX yA yf l yk)) _
    refine Pa.mp 1 (pc' := 37) (l' := [(0, .ref 46), (1, .int yf), (2, .int l), (3, .int yd), (4, .int yk)]) (st' := [.ref 46]) (by rfl) ?_
    refine Pa.gfR (by rfl) (by rfl) (.inl rfl) (by rfl) ?_
    show Pa N 14 40 [(0, .ref 46), (1, .int yf), (2, .int l), (3, .int yd), (4, .int yk)] [.ref 38] (uI (uI (uI (uI (uI (uI (uI (uI (uI (uI (uI (uI yA 44 0 0) 44 1 0) 44 2 0) 44 3 0) 44 4 0) 44 5 0) 44 6 0) 44 7 0) 44 8 0) 44 9 0) 44 6 (yd / 360)) 44 7 (ptsX yA yf l yk)) _
    refine Pa.gfR (by rfl) (by rfl) (.inr rfl) (by rfl) ?_
    show Pa N 14 43 [(0, .ref 46), (1, .int yf), (2, .int l), (3, .int yd), (4, .int yk)] [.ref 44] (uI (uI (uI (uI (uI (uI (uI (uI (uI (uI (uI (uI yA 44 0 0) 44 1 0) 44 2 0) 44 3 0) 44 4 0) 44 5 0) 44 6 0) 44 7 0) 44 8 0) 44 9 0) 44 6 (yd / 360)) 44 7 (ptsX yA yf l yk)) _
    refine Pa.ic (x := 8) (pc' := 45) (by rfl) (by rfl) (by decide) ?_
    refine Pa.mp 1 (pc' := 46) (l' := [(0, .ref 46), (1, .int yf), (2, .int l), (3, .int yd), (4, .int yk)]) (st' := [.ref 46, .int 8, .ref 44]) (by rfl) ?_
    refine Pa.gfR (by rfl) (by rfl) (.inl rfl) (by rfl) ?_
    show Pa N 14 49 [(0, .ref 46), (1, .int yf), (2, .int l), (3, .int yd), (4, .int yk)] [.ref 5, .int 8, .ref 44] (uI (uI (uI (uI (uI (uI (uI (uI (uI (uI (uI (uI yA 44 0 0) 44 1 0) 44 2 0) 44 3 0) 44 4 0) 44 5 0) 44 6 0) 44 7 0) 44 8 0) 44 9 0) 44 6 (yd / 360)) 44 7 (ptsX yA yf l yk)) _
    refine Pa.mp 1 (pc' := 50) (l' := [(0, .ref 46), (1, .int yf), (2, .int l), (3, .int yd), (4, .int yk)]) (st' := [.int yf, .ref 5, .int 8, .ref 44]) (by rfl) ?_
    refine Pa.inv (by rfl) (by rfl) (.inr rfl) (by rfl) ?_
    show Pa N 41 0 [(0, .ref 5), (1, .int yf)] [] (uI (uI (uI (uI (uI (uI (uI (uI (uI (uI (uI (uI yA 44 0 0) 44 1 0) 44 2 0) 44 3 0) 44 4 0) 44 5 0) 44 6 0) 44 7 0) 44 8 0) 44 9 0) 44 6 (yd / 360)) 44 7 (ptsX yA yf l yk)) _
    refine Pa.mp 1 (pc' := 1) (l' := [(0, .ref 5), (1, .int yf)]) (st' := [.int yf]) (by rfl) ?_
    refine Pa.if1 (a := yf.toInt) (t := 16) (by rfl) (by rfl) (rfl) (fun yh => (by exfalso; have h' : yf.toInt < 0 := yh; omega)) (fun _ => ?_)
    refine Pa.mp 2 (pc' := 6) (l' := [(0, .ref 5), (1, .int yf)]) (st' := [.ref 5, .int yf]) (by rfl) ?_
    refine Pa.gfI (v := yA.1 5 6) (by rfl) (by rfl) (.inl rfl) (by rfl) (by show (uI (uI (uI (uI (uI (uI (uI (uI (uI (uI (uI (uI yA 44 0 0) 44 1 0) 44 2 0) 44 3 0) 44 4 0) 44 5 0) 44 6 0) 44 7 0) 44 8 0) 44 9 0) 44 6 (yd / 360)) 44 7 (ptsX yA yf l yk)).1 5 6 = yA.1 5 6; rw [uI_c (by decide), uI_c (by decide), uI_c (by decide), uI_c (by decide), uI_c (by decide), uI_c (by decide), uI_c (by decide), uI_c (by decide), uI_c (by decide), uI_c (by decide), uI_c (by decide), uI_c (by decide)]) ?_
    refine Pa.if2 (a := yf.toInt) (b := (yA.1 5 6).toInt) (t := 16) (by rfl) (by rfl) (rfl) (rfl) (fun yh => (by exfalso; have h' : (yA.1 5 6).toInt ≤ yf.toInt := yh; omega)) (fun _ => ?_)
    refine Pa.ic (x := 1) (pc' := 13) (by rfl) (by rfl) (by decide) ?_
    refine Pa.mp 1 (pc' := 17) (l' := [(0, .ref 5), (1, .int yf)]) (st' := [.int 1]) (by rfl) ?_
    refine Pa.iret (by rfl) ?_
    show Pa N 14 53 [(0, .ref 46), (1, .int yf), (2, .int l), (3, .int yd), (4, .int yk)] [.int 1, .int 8, .ref 44] (uI (uI (uI (uI (uI (uI (uI (uI (uI (uI (uI (uI yA 44 0 0) 44 1 0) 44 2 0) 44 3 0) 44 4 0) 44 5 0) 44 6 0) 44 7 0) 44 8 0) 44 9 0) 44 6 (yd / 360)) 44 7 (ptsX yA yf l yk)) _
    refine Pa.if1k false (by rfl) (by rfl) (by decide) ?_
    show Pa N 14 56 [(0, .ref 46), (1, .int yf), (2, .int l), (3, .int yd), (4, .int yk)] [.int 8, .ref 44] (uI (uI (uI (uI (uI (uI (uI (uI (uI (uI (uI (uI yA 44 0 0) 44 1 0) 44 2 0) 44 3 0) 44 4 0) 44 5 0) 44 6 0) 44 7 0) 44 8 0) 44 9 0) 44 6 (yd / 360)) 44 7 (ptsX yA yf l yk)) _
    refine Pa.mp 1 (pc' := 57) (l' := [(0, .ref 46), (1, .int yf), (2, .int l), (3, .int yd), (4, .int yk)]) (st' := [.ref 46, .int 8, .ref 44]) (by rfl) ?_
    refine Pa.gfR (by rfl) (by rfl) (.inl rfl) (by rfl) ?_
    show Pa N 14 60 [(0, .ref 46), (1, .int yf), (2, .int l), (3, .int yd), (4, .int yk)] [.ref 5, .int 8, .ref 44] (uI (uI (uI (uI (uI (uI (uI (uI (uI (uI (uI (uI yA 44 0 0) 44 1 0) 44 2 0) 44 3 0) 44 4 0) 44 5 0) 44 6 0) 44 7 0) 44 8 0) 44 9 0) 44 6 (yd / 360)) 44 7 (ptsX yA yf l yk)) _
    refine Pa.gfR (by rfl) (by rfl) (.inr rfl) (by rfl) ?_
    show Pa N 14 63 [(0, .ref 46), (1, .int yf), (2, .int l), (3, .int yd), (4, .int yk)] [.ref 7, .int 8, .ref 44] (uI (uI (uI (uI (uI (uI (uI (uI (uI (uI (uI (uI yA 44 0 0) 44 1 0) 44 2 0) 44 3 0) 44 4 0) 44 5 0) 44 6 0) 44 7 0) 44 8 0) 44 9 0) 44 6 (yd / 360)) 44 7 (ptsX yA yf l yk)) _
    refine Pa.mp 1 (pc' := 64) (l' := [(0, .ref 46), (1, .int yf), (2, .int l), (3, .int yd), (4, .int yk)]) (st' := [.int yf, .ref 7, .int 8, .ref 44]) (by rfl) ?_
    refine Pa.alds (v := yA.1 7 yf.toInt.toNat) (by rfl) (by rfl) (by show (uI (uI (uI (uI (uI (uI (uI (uI (uI (uI (uI (uI yA 44 0 0) 44 1 0) 44 2 0) 44 3 0) 44 4 0) 44 5 0) 44 6 0) 44 7 0) 44 8 0) 44 9 0) 44 6 (yd / 360)) 44 7 (ptsX yA yf l yk)).1 7 yf.toInt.toNat = yA.1 7 yf.toInt.toNat; rw [uI_c (by decide), uI_c (by decide), uI_c (by decide), uI_c (by decide), uI_c (by decide), uI_c (by decide), uI_c (by decide), uI_c (by decide), uI_c (by decide), uI_c (by decide), uI_c (by decide), uI_c (by decide)]) (fun h29 h30 => ?_)
    have h29 : 0 ≤ yf.toInt := h29
    have h30 : yf.toInt < 20 := h30
    refine Pa.mp 1 (pc' := 69) (l' := [(0, .ref 46), (1, .int yf), (2, .int l), (3, .int yd), (4, .int yk)]) (st' := [.int (yA.1 7 yf.toInt.toNat), .int 8, .ref 44]) (by rfl) ?_
    refine Pa.asts (j' := 8) (by rfl) (by rfl) (by rfl) (fun h31 h32 => ?_)
    show Pa N 14 70 [(0, .ref 46), (1, .int yf), (2, .int l), (3, .int yd), (4, .int yk)] [] (uI (uI (uI (uI (uI (uI (uI (uI (uI (uI (uI (uI (uI yA 44 0 0) 44 1 0) 44 2 0) 44 3 0) 44 4 0) 44 5 0) 44 6 0) 44 7 0) 44 8 0) 44 9 0) 44 6 (yd / 360)) 44 7 (ptsX yA yf l yk)) 44 8 (yA.1 7 yf.toInt.toNat)) _
    refine Pa.mp 1 (pc' := 71) (l' := [(0, .ref 46), (1, .int yf), (2, .int l), (3, .int yd), (4, .int yk)]) (st' := [.ref 46]) (by rfl) ?_
    refine Pa.gfR (by rfl) (by rfl) (.inl rfl) (by rfl) ?_
    show Pa N 14 74 [(0, .ref 46), (1, .int yf), (2, .int l), (3, .int yd), (4, .int yk)] [.ref 38] (uI (uI (uI (uI (uI (uI (uI (uI (uI (uI (uI (uI (uI yA 44 0 0) 44 1 0) 44 2 0) 44 3 0) 44 4 0) 44 5 0) 44 6 0) 44 7 0) 44 8 0) 44 9 0) 44 6 (yd / 360)) 44 7 (ptsX yA yf l yk)) 44 8 (yA.1 7 yf.toInt.toNat)) _
    refine Pa.gfR (by rfl) (by rfl) (.inr rfl) (by rfl) ?_
    show Pa N 14 77 [(0, .ref 46), (1, .int yf), (2, .int l), (3, .int yd), (4, .int yk)] [.ref 44] (uI (uI (uI (uI (uI (uI (uI (uI (uI (uI (uI (uI (uI yA 44 0 0) 44 1 0) 44 2 0) 44 3 0) 44 4 0) 44 5 0) 44 6 0) 44 7 0) 44 8 0) 44 9 0) 44 6 (yd / 360)) 44 7 (ptsX yA yf l yk)) 44 8 (yA.1 7 yf.toInt.toNat)) _
    refine Pa.ic (x := 9) (pc' := 79) (by rfl) (by rfl) (by decide) ?_
    refine Pa.mp 1 (pc' := 80) (l' := [(0, .ref 46), (1, .int yf), (2, .int l), (3, .int yd), (4, .int yk)]) (st' := [.ref 46, .int 9, .ref 44]) (by rfl) ?_
    refine Pa.gfR (by rfl) (by rfl) (.inl rfl) (by rfl) ?_
    show Pa N 14 83 [(0, .ref 46), (1, .int yf), (2, .int l), (3, .int yd), (4, .int yk)] [.ref 5, .int 9, .ref 44] (uI (uI (uI (uI (uI (uI (uI (uI (uI (uI (uI (uI (uI yA 44 0 0) 44 1 0) 44 2 0) 44 3 0) 44 4 0) 44 5 0) 44 6 0) 44 7 0) 44 8 0) 44 9 0) 44 6 (yd / 360)) 44 7 (ptsX yA yf l yk)) 44 8 (yA.1 7 yf.toInt.toNat)) _
    refine Pa.mp 1 (pc' := 84) (l' := [(0, .ref 46), (1, .int yf), (2, .int l), (3, .int yd), (4, .int yk)]) (st' := [.int yf, .ref 5, .int 9, .ref 44]) (by rfl) ?_
    refine Pa.inv (by rfl) (by rfl) (.inr rfl) (by rfl) ?_
    show Pa N 41 0 [(0, .ref 5), (1, .int yf)] [] (uI (uI (uI (uI (uI (uI (uI (uI (uI (uI (uI (uI (uI yA 44 0 0) 44 1 0) 44 2 0) 44 3 0) 44 4 0) 44 5 0) 44 6 0) 44 7 0) 44 8 0) 44 9 0) 44 6 (yd / 360)) 44 7 (ptsX yA yf l yk)) 44 8 (yA.1 7 yf.toInt.toNat)) _
    refine Pa.mp 1 (pc' := 1) (l' := [(0, .ref 5), (1, .int yf)]) (st' := [.int yf]) (by rfl) ?_
    refine Pa.if1 (a := yf.toInt) (t := 16) (by rfl) (by rfl) (rfl) (fun yh => (by exfalso; have h' : yf.toInt < 0 := yh; omega)) (fun _ => ?_)
    refine Pa.mp 2 (pc' := 6) (l' := [(0, .ref 5), (1, .int yf)]) (st' := [.ref 5, .int yf]) (by rfl) ?_
    refine Pa.gfI (v := yA.1 5 6) (by rfl) (by rfl) (.inl rfl) (by rfl) (by show (uI (uI (uI (uI (uI (uI (uI (uI (uI (uI (uI (uI (uI yA 44 0 0) 44 1 0) 44 2 0) 44 3 0) 44 4 0) 44 5 0) 44 6 0) 44 7 0) 44 8 0) 44 9 0) 44 6 (yd / 360)) 44 7 (ptsX yA yf l yk)) 44 8 (yA.1 7 yf.toInt.toNat)).1 5 6 = yA.1 5 6; rw [uI_c (by decide), uI_c (by decide), uI_c (by decide), uI_c (by decide), uI_c (by decide), uI_c (by decide), uI_c (by decide), uI_c (by decide), uI_c (by decide), uI_c (by decide), uI_c (by decide), uI_c (by decide), uI_c (by decide)]) ?_
    refine Pa.if2 (a := yf.toInt) (b := (yA.1 5 6).toInt) (t := 16) (by rfl) (by rfl) (rfl) (rfl) (fun yh => (by exfalso; have h' : (yA.1 5 6).toInt ≤ yf.toInt := yh; omega)) (fun _ => ?_)
    refine Pa.ic (x := 1) (pc' := 13) (by rfl) (by rfl) (by decide) ?_
    refine Pa.mp 1 (pc' := 17) (l' := [(0, .ref 5), (1, .int yf)]) (st' := [.int 1]) (by rfl) ?_
    refine Pa.iret (by rfl) ?_
    show Pa N 14 87 [(0, .ref 46), (1, .int yf), (2, .int l), (3, .int yd), (4, .int yk)] [.int 1, .int 9, .ref 44] (uI (uI (uI (uI (uI (uI (uI (uI (uI (uI (uI (uI (uI yA 44 0 0) 44 1 0) 44 2 0) 44 3 0) 44 4 0) 44 5 0) 44 6 0) 44 7 0) 44 8 0) 44 9 0) 44 6 (yd / 360)) 44 7 (ptsX yA yf l yk)) 44 8 (yA.1 7 yf.toInt.toNat)) _
    refine Pa.if1k false (by rfl) (by rfl) (by decide) ?_
    show Pa N 14 90 [(0, .ref 46), (1, .int yf), (2, .int l), (3, .int yd), (4, .int yk)] [.int 9, .ref 44] (uI (uI (uI (uI (uI (uI (uI (uI (uI (uI (uI (uI (uI yA 44 0 0) 44 1 0) 44 2 0) 44 3 0) 44 4 0) 44 5 0) 44 6 0) 44 7 0) 44 8 0) 44 9 0) 44 6 (yd / 360)) 44 7 (ptsX yA yf l yk)) 44 8 (yA.1 7 yf.toInt.toNat)) _
    refine Pa.mp 1 (pc' := 91) (l' := [(0, .ref 46), (1, .int yf), (2, .int l), (3, .int yd), (4, .int yk)]) (st' := [.ref 46, .int 9, .ref 44]) (by rfl) ?_
    refine Pa.gfR (by rfl) (by rfl) (.inl rfl) (by rfl) ?_
    show Pa N 14 94 [(0, .ref 46), (1, .int yf), (2, .int l), (3, .int yd), (4, .int yk)] [.ref 30, .int 9, .ref 44] (uI (uI (uI (uI (uI (uI (uI (uI (uI (uI (uI (uI (uI yA 44 0 0) 44 1 0) 44 2 0) 44 3 0) 44 4 0) 44 5 0) 44 6 0) 44 7 0) 44 8 0) 44 9 0) 44 6 (yd / 360)) 44 7 (ptsX yA yf l yk)) 44 8 (yA.1 7 yf.toInt.toNat)) _
    refine Pa.gfR (by rfl) (by rfl) (.inr rfl) (by rfl) ?_
    show Pa N 14 97 [(0, .ref 46), (1, .int yf), (2, .int l), (3, .int yd), (4, .int yk)] [.ref 34, .int 9, .ref 44] (uI (uI (uI (uI (uI (uI (uI (uI (uI (uI (uI (uI (uI yA 44 0 0) 44 1 0) 44 2 0) 44 3 0) 44 4 0) 44 5 0) 44 6 0) 44 7 0) 44 8 0) 44 9 0) 44 6 (yd / 360)) 44 7 (ptsX yA yf l yk)) 44 8 (yA.1 7 yf.toInt.toNat)) _
    refine Pa.mp 1 (pc' := 98) (l' := [(0, .ref 46), (1, .int yf), (2, .int l), (3, .int yd), (4, .int yk)]) (st' := [.int yf, .ref 34, .int 9, .ref 44]) (by rfl) ?_
    refine Pa.alds (v := yA.1 34 yf.toInt.toNat) (by rfl) (by rfl) (by show (uI (uI (uI (uI (uI (uI (uI (uI (uI (uI (uI (uI (uI yA 44 0 0) 44 1 0) 44 2 0) 44 3 0) 44 4 0) 44 5 0) 44 6 0) 44 7 0) 44 8 0) 44 9 0) 44 6 (yd / 360)) 44 7 (ptsX yA yf l yk)) 44 8 (yA.1 7 yf.toInt.toNat)).1 34 yf.toInt.toNat = yA.1 34 yf.toInt.toNat; rw [uI_c (by decide), uI_c (by decide), uI_c (by decide), uI_c (by decide), uI_c (by decide), uI_c (by decide), uI_c (by decide), uI_c (by decide), uI_c (by decide), uI_c (by decide), uI_c (by decide), uI_c (by decide), uI_c (by decide)]) (fun h35 h36 => ?_)
    have h35 : 0 ≤ yf.toInt := h35
    have h36 : yf.toInt < 20 := h36
    refine Pa.ist (by rfl) (by rfl) (.inl rfl) (by rfl) (by rfl) ?_
    refine Pa.mono (c_bits N (uI (uI (uI (uI (uI (uI (uI (uI (uI (uI (uI (uI (uI yA 44 0 0) 44 1 0) 44 2 0) 44 3 0) 44 4 0) 44 5 0) 44 6 0) 44 7 0) 44 8 0) 44 9 0) 44 6 (yd / 360)) 44 7 (ptsX yA yf l yk)) 44 8 (yA.1 7 yf.toInt.toNat)) (yA.1 34 yf.toInt.toNat)) (fun yu A1 hu => ?_)
    obtain ⟨rfl, hu⟩ := hu
    rw [hu]
    show Pa N 14 102 [(0, .ref 46), (1, .int yf), (2, .int l), (3, .int yd), (4, .int yk)] [.int (bcX (yA.1 34 yf.toInt.toNat)), .int 9, .ref 44] (uI (uI (uI (uI (uI (uI (uI (uI (uI (uI (uI (uI (uI yA 44 0 0) 44 1 0) 44 2 0) 44 3 0) 44 4 0) 44 5 0) 44 6 0) 44 7 0) 44 8 0) 44 9 0) 44 6 (yd / 360)) 44 7 (ptsX yA yf l yk)) 44 8 (yA.1 7 yf.toInt.toNat)) _
    refine Pa.mp 1 (pc' := 106) (l' := [(0, .ref 46), (1, .int yf), (2, .int l), (3, .int yd), (4, .int yk)]) (st' := [.int (bcX (yA.1 34 yf.toInt.toNat)), .int 9, .ref 44]) (by rfl) ?_
    refine Pa.asts (j' := 9) (by rfl) (by rfl) (by rfl) (fun h37 h38 => ?_)
    show Pa N 14 107 [(0, .ref 46), (1, .int yf), (2, .int l), (3, .int yd), (4, .int yk)] [] (uI (uI (uI (uI (uI (uI (uI (uI (uI (uI (uI (uI (uI (uI yA 44 0 0) 44 1 0) 44 2 0) 44 3 0) 44 4 0) 44 5 0) 44 6 0) 44 7 0) 44 8 0) 44 9 0) 44 6 (yd / 360)) 44 7 (ptsX yA yf l yk)) 44 8 (yA.1 7 yf.toInt.toNat)) 44 9 (bcX (yA.1 34 yf.toInt.toNat))) _
    refine Pa.vret (by rfl) ?_
    show Pa N 15 51 [(6, .int yx), (0, .ref 46), (1, .int us), (2, .int l), (3, .int yf), (4, .int yd), (5, .int yk)] [] (uI (uI (uI (uI (uI (uI (uI (uI (uI (uI (uI (uI (uI (uI yA 44 0 0) 44 1 0) 44 2 0) 44 3 0) 44 4 0) 44 5 0) 44 6 0) 44 7 0) 44 8 0) 44 9 0) 44 6 (yd / 360)) 44 7 (ptsX yA yf l yk)) 44 8 (yA.1 7 yf.toInt.toNat)) 44 9 (bcX (yA.1 34 yf.toInt.toNat))) _
    refine Pa.mp 1 (pc' := 52) (l' := [(6, .int yx), (0, .ref 46), (1, .int us), (2, .int l), (3, .int yf), (4, .int yd), (5, .int yk)]) (st' := [.ref 46]) (by rfl) ?_
    refine Pa.gfR (by rfl) (by rfl) (.inl rfl) (by rfl) ?_
    show Pa N 15 55 [(6, .int yx), (0, .ref 46), (1, .int us), (2, .int l), (3, .int yf), (4, .int yd), (5, .int yk)] [.ref 38] (uI (uI (uI (uI (uI (uI (uI (uI (uI (uI (uI (uI (uI (uI yA 44 0 0) 44 1 0) 44 2 0) 44 3 0) 44 4 0) 44 5 0) 44 6 0) 44 7 0) 44 8 0) 44 9 0) 44 6 (yd / 360)) 44 7 (ptsX yA yf l yk)) 44 8 (yA.1 7 yf.toInt.toNat)) 44 9 (bcX (yA.1 34 yf.toInt.toNat))) _
    refine Pa.mp 1 (pc' := 57) (l' := [(6, .int yx), (0, .ref 46), (1, .int us), (2, .int l), (3, .int yf), (4, .int yd), (5, .int yk)]) (st' := [.int yx, .ref 38]) (by rfl) ?_
    refine Pa.lv (l' := [(0, .ref 46), (1, .int us), (2, .int l), (3, .int yf), (4, .int yd), (5, .int yk), (6, .int yx)]) (lvS_c rfl (lvS_c rfl (lvS_c rfl (lvS_c rfl (lvS_c rfl (lvS_c rfl (lvS_c rfl (lvS_nil)))))))) rfl ?_
    refine Pa.inv (by rfl) (by rfl) (.inr rfl) (by rfl) ?_
    exact l1 h1 h29 h30
  · have h2 : yx.toInt < 0 := h2
    refine Pa.cst (pc' := 27) (l' := [(6, .int yx), (0, .ref 46), (1, .int us), (2, .int l), (3, .int yf), (4, .int yd), (5, .int yk)]) (st' := [.retAddr 3]) (by rfl) (fun _ _ _ => by rfl) ?_
    refine Pa.mp 1 (pc' := 28) (l' := [(6, .int yx), (0, .ref 46), (1, .int us), (2, .int l), (3, .int yf), (4, .int yd), (5, .int yk)]) (st' := [.int us, .retAddr 3]) (by rfl) ?_
    refine Pa.xld (v := x_tab 3 us.toInt.toNat) (by rfl) (by decide) (by rfl) (fun h39 => ?_)
    refine Pa.iret (by rfl) ?_
    exact l2 h2 h39

theorem bx_lo4 {N : Nat} {yA : AW} {yQ : Option Value → AW → Prop} (us l yf yd yk yt yv : Int32)
    (l1 : us.toInt ≠ 4 → us.toInt ≠ 1 → yQ (some (.int (i_max 0 (i_min yv 99999999)))) yA)
    (l2 : us.toInt ≠ 4 → us.toInt = 1 → yQ (some (.int (i_max 0 (i_min yv 100)))) yA)
    (l3 : us.toInt = 4 → yQ (some (.int yv)) yA) :
    Pa N 15 60 [(0, .ref 46), (1, .int us), (2, .int l), (3, .int yf), (4, .int yd), (5, .int yk), (6, .int yt)] [.int yv] yA yQ := by
  refine Pa.mp 2 (pc' := 63) (l' := [(7, .int yv), (0, .ref 46), (1, .int us), (2, .int l), (3, .int yf), (4, .int yd), (5, .int yk), (6, .int yt)]) (st' := [.int us]) (by rfl) ?_
  refine Pa.ic (x := 4) (pc' := 64) (by rfl) (by rfl) (by decide) ?_
  refine Pa.if2 (a := us.toInt) (b := 4) (t := 70) (by rfl) (by rfl) (rfl) (by decide) (fun h1 => ?_) (fun h2 => ?_)
  · have h1 : us.toInt ≠ 4 := h1
    refine Pa.ic (x := 0) (pc' := 71) (by rfl) (by rfl) (by decide) ?_
    refine Pa.mp 2 (pc' := 74) (l' := [(7, .int yv), (0, .ref 46), (1, .int us), (2, .int l), (3, .int yf), (4, .int yd), (5, .int yk), (6, .int yt)]) (st' := [.int us, .int yv, .int 0]) (by rfl) ?_
    refine Pa.ic (x := 1) (pc' := 75) (by rfl) (by rfl) (by decide) ?_
    refine Pa.if2 (a := us.toInt) (b := 1) (t := 83) (by rfl) (by rfl) (rfl) (by decide) (fun h3 => ?_) (fun h4 => ?_)
    · have h3 : us.toInt ≠ 1 := h3
      refine Pa.icl (x := 99999999) (pc' := 85) (by rfl) (fun _ _ _ => by rfl) (by decide) ?_
      refine Pa.mth (by rfl) (by rfl) (by rfl) mm_min ?_
      refine Pa.mth (by rfl) (by rfl) (by rfl) mm_max ?_
      refine Pa.iret (by rfl) ?_
      exact l1 h1 h3
    · have h4 : us.toInt = 1 := h4
      refine Pa.ic (x := 100) (pc' := 80) (by rfl) (by rfl) (by decide) ?_
      refine Pa.mp 1 (pc' := 85) (l' := [(7, .int yv), (0, .ref 46), (1, .int us), (2, .int l), (3, .int yf), (4, .int yd), (5, .int yk), (6, .int yt)]) (st' := [.int 100, .int yv, .int 0]) (by rfl) ?_
      refine Pa.mth (by rfl) (by rfl) (by rfl) mm_min ?_
      refine Pa.mth (by rfl) (by rfl) (by rfl) mm_max ?_
      refine Pa.iret (by rfl) ?_
      exact l2 h1 h4
  · have h2 : us.toInt = 4 := h2
    refine Pa.mp 1 (pc' := 69) (l' := [(7, .int yv), (0, .ref 46), (1, .int us), (2, .int l), (3, .int yf), (4, .int yd), (5, .int yk), (6, .int yt)]) (st' := [.int yv]) (by rfl) ?_
    refine Pa.iret (by rfl) ?_
    exact l3 h2

/-- ya ytext that stands, yrun over facts -/
theorem c_runT {yA yB : AW} {yt : Int32} {ds : List Int32} (h0 : 0 ≤ yt.toInt) (h1 : yt.toInt < (yA.1 38 7).toInt) (hx : txR yA yt.toInt.toNat) (yhd : txD yA yt.toInt.toNat ds) (yhB : ∀ yc yj, yc ≠ 44 → yB.1 yc yj = yA.1 yc yj) (hB2 : yB.2 = yA.2) (N : Nat) : Pa N 4 0 [(0, .ref 38), (1, .int yt)] [] yB (fun yu A1 => yu = some (.int (rnV (rnX (yB.1 44) ds false [] 0))) ∧ ∃ yq yk, A1 = rnW yB (rnL (rnX (yB.1 44) ds false [] 0)) yq yk) := by
  obtain ⟨ya, yn, yd, es, yr1, r2, r3, r4, yr5, r6, r7, r8, r9, r10⟩ := hx
  have ye : es = ds := txD_one ⟨yn, yd, r4, yr5, r6⟩ yhd
  subst ye
  refine Pa.mono (c_run (yA := yB) (ya := ya) (yn := es.length) (ds := es) (yt := yt) h0 (by rw [yhB 38 7 (by decide)]; exact h1) (by rw [hB2]; exact yr1) (by rw [hB2]; exact r8) rfl r7 (fun yj hj => by rw [yhB ya yj (by omega)]; exact r9 yj hj) N) (fun yu A1 hu => rnQ_v hu)
theorem txD_of {yA : AW} {yi : Nat} (yh : txR yA yi) : ∃ ds, txD yA yi ds := by
  obtain ⟨ya, yn, yd, es, yr1, r2, r3, r4, yr5, r6, r7, r8, r9, r10⟩ := yh
  exact ⟨es, yn, yd, r4, yr5, r6⟩
/-! the reference -/
def lmW (yA A1 : AW) : Prop := (∀ yc yj, yc ≠ 69 → yc ≠ 115 → yc ≠ 117 → A1.1 yc yj = yA.1 yc yj) ∧ (∀ yj, yj ≠ 60 → yj ≠ 61 → yj ≠ 62 → yj ≠ 63 → yj ≠ 64 → yj ≠ 66 → yj ≠ 67 → yj ≠ 68 → A1.1 69 yj = yA.1 69 yj) ∧ A1.2 = yA.2
theorem lmW_tr {yA A1 A2 : AW} (yh : lmW yA A1) (h2 : lmW A1 A2) : lmW yA A2 := ⟨fun yc yj yp1 yp2 yp3 => by rw [h2.1 yc yj yp1 yp2 yp3, yh.1 yc yj yp1 yp2 yp3], fun yj yp1 yp2 yp3 yp4 yp5 yp6 yp7 yp8 => by rw [h2.2.1 yj yp1 yp2 yp3 yp4 yp5 yp6 yp7 yp8, yh.2.1 yj yp1 yp2 yp3 yp4 yp5 yp6 yp7 yp8], by rw [h2.2.2, yh.2.2]⟩
theorem mW_lm {yA : AW} {yf yn ya ft yop lv bl yn3 : Int32} {wh : Nat → Int32} : lmW yA (mW (woB yA yf yn) ya ft yop lv bl yn3 wh) := by
  refine ⟨fun yc yj yp1 yp2 yp3 => ?_, fun yj yp1 yp2 yp3 yp4 yp5 yp6 yp7 yp8 => ?_, rfl⟩
  · unfold mW woB
    rw [uF_c yp2, uI_c yp3, uI_c yp1, uI_c yp1, uI_c yp1, uI_c yp1, uI_c yp1, uI_c yp1, uI_c yp1]
  · unfold mW woB
    rw [uF_c (by decide), uI_c (by decide), uI_k yp8, uI_k yp6, uI_k yp5, uI_k yp4, uI_k yp2, uI_k yp3, uI_k yp1]
theorem bm_lo {N : Nat} {yA : AW} {yQ : Option Value → AW → Prop} (l yf yd yk us : Int32)
    (l1 : Pa N 209 0 [(0, .ref 69), (1, .int l), (2, .int yf), (3, .int yd), (4, .int yk)] [] yA (fun yu A1 => Pa N 211 9 [(0, .ref 69), (1, .int l), (2, .int yf), (3, .int yd), (4, .int yk), (5, .int us)] (yu.toList ++ []) A1 yQ)) :
    Pa N 211 0 [(0, .ref 69), (1, .int l), (2, .int yf), (3, .int yd), (4, .int yk), (5, .int us)] [] yA yQ := by
  refine Pa.mp 5 (pc' := 6) (l' := [(0, .ref 69), (1, .int l), (2, .int yf), (3, .int yd), (4, .int yk), (5, .int us)]) (st' := [.int yk, .int yd, .int yf, .int l, .ref 69]) (by rfl) ?_
  refine Pa.inv (by rfl) (by rfl) (.inl rfl) (by rfl) ?_
  exact l1

theorem bm_lo1 {N : Nat} {yA : AW} {yQ : Option Value → AW → Prop} (l yf yd yk us : Int32)
    (l1 : us.toInt ≠ 1 → us.toInt ≠ 2 → Pa N 210 0 [(0, .ref 69), (1, .int l), (2, .int 3), (3, .int yd), (4, .int yk), (5, .int 99999999), (6, .int 99999999)] [] yA (fun yu A1 => Pa N 211 65 [(0, .ref 69), (1, .int l), (2, .int yf), (3, .int yd), (4, .int yk), (5, .int us)] (yu.toList ++ []) A1 yQ))
    (l2 : us.toInt ≠ 1 → us.toInt = 2 → Pa N 210 0 [(0, .ref 69), (1, .int l), (2, .int 2), (3, .int yd), (4, .int yk), (5, .int 0), (6, .int 99999999)] [] yA (fun yu A1 => Pa N 211 49 [(0, .ref 69), (1, .int l), (2, .int yf), (3, .int yd), (4, .int yk), (5, .int us)] (yu.toList ++ []) A1 yQ))
    (l3 : us.toInt = 1 → Pa N 210 0 [(0, .ref 69), (1, .int l), (2, .int 1), (3, .int yd), (4, .int yk), (5, .int 30), (6, .int 100)] [] yA (fun yu A1 => Pa N 211 28 [(0, .ref 69), (1, .int l), (2, .int yf), (3, .int yd), (4, .int yk), (5, .int us)] (yu.toList ++ []) A1 yQ)) :
    Pa N 211 9 [(0, .ref 69), (1, .int l), (2, .int yf), (3, .int yd), (4, .int yk), (5, .int us)] [] yA yQ := by
  refine Pa.mp 1 (pc' := 11) (l' := [(0, .ref 69), (1, .int l), (2, .int yf), (3, .int yd), (4, .int yk), (5, .int us)]) (st' := [.int us]) (by rfl) ?_
  refine Pa.ic (x := 1) (pc' := 12) (by rfl) (by rfl) (by decide) ?_
  refine Pa.if2 (a := us.toInt) (b := 1) (t := 31) (by rfl) (by rfl) (rfl) (by decide) (fun h1 => ?_) (fun h2 => ?_)
  · have h1 : us.toInt ≠ 1 := h1
    refine Pa.mp 1 (pc' := 33) (l' := [(0, .ref 69), (1, .int l), (2, .int yf), (3, .int yd), (4, .int yk), (5, .int us)]) (st' := [.int us]) (by rfl) ?_
    refine Pa.ic (x := 2) (pc' := 34) (by rfl) (by rfl) (by decide) ?_
    refine Pa.if2 (a := us.toInt) (b := 2) (t := 52) (by rfl) (by rfl) (rfl) (by decide) (fun h3 => ?_) (fun h4 => ?_)
    · have h3 : us.toInt ≠ 2 := h3
      refine Pa.mp 2 (pc' := 54) (l' := [(0, .ref 69), (1, .int l), (2, .int yf), (3, .int yd), (4, .int yk), (5, .int us)]) (st' := [.int l, .ref 69]) (by rfl) ?_
      refine Pa.ic (x := 3) (pc' := 55) (by rfl) (by rfl) (by decide) ?_
      refine Pa.mp 2 (pc' := 58) (l' := [(0, .ref 69), (1, .int l), (2, .int yf), (3, .int yd), (4, .int yk), (5, .int us)]) (st' := [.int yk, .int yd, .int 3, .int l, .ref 69]) (by rfl) ?_
      refine Pa.icl (x := 99999999) (pc' := 60) (by rfl) (fun _ _ _ => by rfl) (by decide) ?_
      refine Pa.icl (x := 99999999) (pc' := 62) (by rfl) (fun _ _ _ => by rfl) (by decide) ?_
      refine Pa.inv (by rfl) (by rfl) (.inl rfl) (by rfl) ?_
      exact l1 h1 h3
    · have h4 : us.toInt = 2 := h4
      refine Pa.mp 2 (pc' := 39) (l' := [(0, .ref 69), (1, .int l), (2, .int yf), (3, .int yd), (4, .int yk), (5, .int us)]) (st' := [.int l, .ref 69]) (by rfl) ?_
      refine Pa.ic (x := 2) (pc' := 40) (by rfl) (by rfl) (by decide) ?_
      refine Pa.mp 2 (pc' := 43) (l' := [(0, .ref 69), (1, .int l), (2, .int yf), (3, .int yd), (4, .int yk), (5, .int us)]) (st' := [.int yk, .int yd, .int 2, .int l, .ref 69]) (by rfl) ?_
      refine Pa.ic (x := 0) (pc' := 44) (by rfl) (by rfl) (by decide) ?_
      refine Pa.icl (x := 99999999) (pc' := 46) (by rfl) (fun _ _ _ => by rfl) (by decide) ?_
      refine Pa.inv (by rfl) (by rfl) (.inl rfl) (by rfl) ?_
      exact l2 h1 h4
  · have h2 : us.toInt = 1 := h2
    refine Pa.mp 2 (pc' := 17) (l' := [(0, .ref 69), (1, .int l), (2, .int yf), (3, .int yd), (4, .int yk), (5, .int us)]) (st' := [.int l, .ref 69]) (by rfl) ?_
    refine Pa.ic (x := 1) (pc' := 18) (by rfl) (by rfl) (by decide) ?_
    refine Pa.mp 2 (pc' := 21) (l' := [(0, .ref 69), (1, .int l), (2, .int yf), (3, .int yd), (4, .int yk), (5, .int us)]) (st' := [.int yk, .int yd, .int 1, .int l, .ref 69]) (by rfl) ?_
    refine Pa.ic (x := 30) (pc' := 23) (by rfl) (by rfl) (by decide) ?_
    refine Pa.ic (x := 100) (pc' := 25) (by rfl) (by rfl) (by decide) ?_
    refine Pa.inv (by rfl) (by rfl) (.inl rfl) (by rfl) ?_
    exact l3 h2

theorem bm_nf {N : Nat} {yA : AW} {yQ : Option Value → AW → Prop} (l yf yd yk : Int32) (yhT : (yA.1 69 31).toInt ≤ 150)
    (l1 : 0 ≤ yf.toInt → yf.toInt < 20 → yQ none (uI (uI (uI (uI (uI (uI (uI (uI (uI (uI (uI yA 117 0 0) 117 1 0) 117 2 0) 117 3 0) 117 4 0) 117 5 0) 69 66 (-1)) 117 6 (yd / 360)) 117 7 (ptsM yA yf l yk)) 117 8 (yA.1 77 yf.toInt.toNat)) 117 9 (cnM (lnB yA yf (cT yA))))) :
    Pa N 209 0 [(0, .ref 69), (1, .int l), (2, .int yf), (3, .int yd), (4, .int yk)] [] yA yQ := by
  refine Pa.ic (x := 0) (pc' := 1) (by rfl) (by rfl) (by decide) ?_
  refine Pa.mp 2 (pc' := 5) (l' := [(5, .int 0), (0, .ref 69), (1, .int l), (2, .int yf), (3, .int yd), (4, .int yk)]) (st' := [.int 0]) (by rfl) ?_
  refine Pa.ic (x := 6) (pc' := 7) (by rfl) (by rfl) (by decide) ?_
  refine Pa.if2k false (by rfl) (by rfl) (by decide) ?_
  show Pa N 209 10 [(5, .int 0), (0, .ref 69), (1, .int l), (2, .int yf), (3, .int yd), (4, .int yk)] [] yA _
  refine Pa.mp 1 (pc' := 11) (l' := [(5, .int 0), (0, .ref 69), (1, .int l), (2, .int yf), (3, .int yd), (4, .int yk)]) (st' := [.ref 69]) (by rfl) ?_
  refine Pa.gfR (by rfl) (by rfl) (.inl rfl) (by rfl) ?_
  show Pa N 209 14 [(5, .int 0), (0, .ref 69), (1, .int l), (2, .int yf), (3, .int yd), (4, .int yk)] [.ref 117] yA _
  refine Pa.mp 1 (pc' := 16) (l' := [(5, .int 0), (0, .ref 69), (1, .int l), (2, .int yf), (3, .int yd), (4, .int yk)]) (st' := [.int 0, .ref 117]) (by rfl) ?_
  refine Pa.ic (x := 0) (pc' := 17) (by rfl) (by rfl) (by decide) ?_
  refine Pa.asts (j' := 0) (by rfl) (by rfl) (by rfl) (fun h1 h2 => ?_)
  show Pa N 209 18 [(5, .int 0), (0, .ref 69), (1, .int l), (2, .int yf), (3, .int yd), (4, .int yk)] [] (uI yA 117 0 0) _
  refine Pa.iinc (x := 0) (c := 1) (v := 1) (l' := [(5, .int 1), (0, .ref 69), (1, .int l), (2, .int yf), (3, .int yd), (4, .int yk)]) (by rfl) (by rfl) (by decide) (by decide) (by rfl) ?_
  refine Pa.mp 2 (pc' := 5) (l' := [(5, .int 1), (0, .ref 69), (1, .int l), (2, .int yf), (3, .int yd), (4, .int yk)]) (st' := [.int 1]) (by rfl) ?_
  refine Pa.ic (x := 6) (pc' := 7) (by rfl) (by rfl) (by decide) ?_
  refine Pa.if2k false (by rfl) (by rfl) (by decide) ?_
  show Pa N 209 10 [(5, .int 1), (0, .ref 69), (1, .int l), (2, .int yf), (3, .int yd), (4, .int yk)] [] (uI yA 117 0 0) _
  refine Pa.mp 1 (pc' := 11) (l' := [(5, .int 1), (0, .ref 69), (1, .int l), (2, .int yf), (3, .int yd), (4, .int yk)]) (st' := [.ref 69]) (by rfl) ?_
  refine Pa.gfR (by rfl) (by rfl) (.inl rfl) (by rfl) ?_
  show Pa N 209 14 [(5, .int 1), (0, .ref 69), (1, .int l), (2, .int yf), (3, .int yd), (4, .int yk)] [.ref 117] (uI yA 117 0 0) _
  refine Pa.mp 1 (pc' := 16) (l' := [(5, .int 1), (0, .ref 69), (1, .int l), (2, .int yf), (3, .int yd), (4, .int yk)]) (st' := [.int 1, .ref 117]) (by rfl) ?_
  refine Pa.ic (x := 0) (pc' := 17) (by rfl) (by rfl) (by decide) ?_
  refine Pa.asts (j' := 1) (by rfl) (by rfl) (by rfl) (fun h3 h4 => ?_)
  show Pa N 209 18 [(5, .int 1), (0, .ref 69), (1, .int l), (2, .int yf), (3, .int yd), (4, .int yk)] [] (uI (uI yA 117 0 0) 117 1 0) _
  refine Pa.iinc (x := 1) (c := 1) (v := 2) (l' := [(5, .int 2), (0, .ref 69), (1, .int l), (2, .int yf), (3, .int yd), (4, .int yk)]) (by rfl) (by rfl) (by decide) (by decide) (by rfl) ?_
  refine Pa.mp 2 (pc' := 5) (l' := [(5, .int 2), (0, .ref 69), (1, .int l), (2, .int yf), (3, .int yd), (4, .int yk)]) (st' := [.int 2]) (by rfl) ?_
  refine Pa.ic (x := 6) (pc' := 7) (by rfl) (by rfl) (by decide) ?_
  refine Pa.if2k false (by rfl) (by rfl) (by decide) ?_
  show Pa N 209 10 [(5, .int 2), (0, .ref 69), (1, .int l), (2, .int yf), (3, .int yd), (4, .int yk)] [] (uI (uI yA 117 0 0) 117 1 0) _
  refine Pa.mp 1 (pc' := 11) (l' := [(5, .int 2), (0, .ref 69), (1, .int l), (2, .int yf), (3, .int yd), (4, .int yk)]) (st' := [.ref 69]) (by rfl) ?_
  refine Pa.gfR (by rfl) (by rfl) (.inl rfl) (by rfl) ?_
  show Pa N 209 14 [(5, .int 2), (0, .ref 69), (1, .int l), (2, .int yf), (3, .int yd), (4, .int yk)] [.ref 117] (uI (uI yA 117 0 0) 117 1 0) _
  refine Pa.mp 1 (pc' := 16) (l' := [(5, .int 2), (0, .ref 69), (1, .int l), (2, .int yf), (3, .int yd), (4, .int yk)]) (st' := [.int 2, .ref 117]) (by rfl) ?_
  refine Pa.ic (x := 0) (pc' := 17) (by rfl) (by rfl) (by decide) ?_
  refine Pa.asts (j' := 2) (by rfl) (by rfl) (by rfl) (fun h5 h6 => ?_)
  show Pa N 209 18 [(5, .int 2), (0, .ref 69), (1, .int l), (2, .int yf), (3, .int yd), (4, .int yk)] [] (uI (uI (uI yA 117 0 0) 117 1 0) 117 2 0) _
  refine Pa.iinc (x := 2) (c := 1) (v := 3) (l' := [(5, .int 3), (0, .ref 69), (1, .int l), (2, .int yf), (3, .int yd), (4, .int yk)]) (by rfl) (by rfl) (by decide) (by decide) (by rfl) ?_
  refine Pa.mp 2 (pc' := 5) (l' := [(5, .int 3), (0, .ref 69), (1, .int l), (2, .int yf), (3, .int yd), (4, .int yk)]) (st' := [.int 3]) (by rfl) ?_
  refine Pa.ic (x := 6) (pc' := 7) (by rfl) (by rfl) (by decide) ?_
  refine Pa.if2k false (by rfl) (by rfl) (by decide) ?_
  show Pa N 209 10 [(5, .int 3), (0, .ref 69), (1, .int l), (2, .int yf), (3, .int yd), (4, .int yk)] [] (uI (uI (uI yA 117 0 0) 117 1 0) 117 2 0) _
  refine Pa.mp 1 (pc' := 11) (l' := [(5, .int 3), (0, .ref 69), (1, .int l), (2, .int yf), (3, .int yd), (4, .int yk)]) (st' := [.ref 69]) (by rfl) ?_
  refine Pa.gfR (by rfl) (by rfl) (.inl rfl) (by rfl) ?_
  show Pa N 209 14 [(5, .int 3), (0, .ref 69), (1, .int l), (2, .int yf), (3, .int yd), (4, .int yk)] [.ref 117] (uI (uI (uI yA 117 0 0) 117 1 0) 117 2 0) _
  refine Pa.mp 1 (pc' := 16) (l' := [(5, .int 3), (0, .ref 69), (1, .int l), (2, .int yf), (3, .int yd), (4, .int yk)]) (st' := [.int 3, .ref 117]) (by rfl) ?_
  refine Pa.ic (x := 0) (pc' := 17) (by rfl) (by rfl) (by decide) ?_
  refine Pa.asts (j' := 3) (by rfl) (by rfl) (by rfl) (fun h7 h8 => ?_)
  show Pa N 209 18 [(5, .int 3), (0, .ref 69), (1, .int l), (2, .int yf), (3, .int yd), (4, .int yk)] [] (uI (uI (uI (uI yA 117 0 0) 117 1 0) 117 2 0) 117 3 0) _
  refine Pa.iinc (x := 3) (c := 1) (v := 4) (l' := [(5, .int 4), (0, .ref 69), (1, .int l), (2, .int yf), (3, .int yd), (4, .int yk)]) (by rfl) (by rfl) (by decide) (by decide) (by rfl) ?_
  refine Pa.mp 2 (pc' := 5) (l' := [(5, .int 4), (0, .ref 69), (1, .int l), (2, .int yf), (3, .int yd), (4, .int yk)]) (st' := [.int 4]) (by rfl) ?_
  refine Pa.ic (x := 6) (pc' := 7) (by rfl) (by rfl) (by decide) ?_
  refine Pa.if2k false (by rfl) (by rfl) (by decide) ?_
  show Pa N 209 10 [(5, .int 4), (0, .ref 69), (1, .int l), (2, .int yf), (3, .int yd), (4, .int yk)] [] (uI (uI (uI (uI yA 117 0 0) 117 1 0) 117 2 0) 117 3 0) _
  refine Pa.mp 1 (pc' := 11) (l' := [(5, .int 4), (0, .ref 69), (1, .int l), (2, .int yf), (3, .int yd), (4, .int yk)]) (st' := [.ref 69]) (by rfl) ?_
  refine Pa.gfR (by rfl) (by rfl) (.inl rfl) (by rfl) ?_
  show Pa N 209 14 [(5, .int 4), (0, .ref 69), (1, .int l), (2, .int yf), (3, .int yd), (4, .int yk)] [.ref 117] (uI (uI (uI (uI yA 117 0 0) 117 1 0) 117 2 0) 117 3 0) _
  refine Pa.mp 1 (pc' := 16) (l' := [(5, .int 4), (0, .ref 69), (1, .int l), (2, .int yf), (3, .int yd), (4, .int yk)]) (st' := [.int 4, .ref 117]) (by rfl) ?_
  refine Pa.ic (x := 0) (pc' := 17) (by rfl) (by rfl) (by decide) ?_
  refine Pa.asts (j' := 4) (by rfl) (by rfl) (by rfl) (fun h9 h10 => ?_)
  show Pa N 209 18 [(5, .int 4), (0, .ref 69), (1, .int l), (2, .int yf), (3, .int yd), (4, .int yk)] [] (uI (uI (uI (uI (uI yA 117 0 0) 117 1 0) 117 2 0) 117 3 0) 117 4 0) _
  refine Pa.iinc (x := 4) (c := 1) (v := 5) (l' := [(5, .int 5), (0, .ref 69), (1, .int l), (2, .int yf), (3, .int yd), (4, .int yk)]) (by rfl) (by rfl) (by decide) (by decide) (by rfl) ?_
  refine Pa.mp 2 (pc' := 5) (l' := [(5, .int 5), (0, .ref 69), (1, .int l), (2, .int yf), (3, .int yd), (4, .int yk)]) (st' := [.int 5]) (by rfl) ?_
  refine Pa.ic (x := 6) (pc' := 7) (by rfl) (by rfl) (by decide) ?_
  refine Pa.if2k false (by rfl) (by rfl) (by decide) ?_
  show Pa N 209 10 [(5, .int 5), (0, .ref 69), (1, .int l), (2, .int yf), (3, .int yd), (4, .int yk)] [] (uI (uI (uI (uI (uI yA 117 0 0) 117 1 0) 117 2 0) 117 3 0) 117 4 0) _
  refine Pa.mp 1 (pc' := 11) (l' := [(5, .int 5), (0, .ref 69), (1, .int l), (2, .int yf), (3, .int yd), (4, .int yk)]) (st' := [.ref 69]) (by rfl) ?_
  refine Pa.gfR (by rfl) (by rfl) (.inl rfl) (by rfl) ?_
  show Pa N 209 14 [(5, .int 5), (0, .ref 69), (1, .int l), (2, .int yf), (3, .int yd), (4, .int yk)] [.ref 117] (uI (uI (uI (uI (uI yA 117 0 0) 117 1 0) 117 2 0) 117 3 0) 117 4 0) _
  refine Pa.mp 1 (pc' := 16) (l' := [(5, .int 5), (0, .ref 69), (1, .int l), (2, .int yf), (3, .int yd), (4, .int yk)]) (st' := [.int 5, .ref 117]) (by rfl) ?_
  refine Pa.ic (x := 0) (pc' := 17) (by rfl) (by rfl) (by decide) ?_
  refine Pa.asts (j' := 5) (by rfl) (by rfl) (by rfl) (fun h11 h12 => ?_)
  show Pa N 209 18 [(5, .int 5), (0, .ref 69), (1, .int l), (2, .int yf), (3, .int yd), (4, .int yk)] [] (uI (uI (uI (uI (uI (uI yA 117 0 0) 117 1 0) 117 2 0) 117 3 0) 117 4 0) 117 5 0) _
  refine Pa.iinc (x := 5) (c := 1) (v := 6) (l' := [(5, .int 6), (0, .ref 69), (1, .int l), (2, .int yf), (3, .int yd), (4, .int yk)]) (by rfl) (by rfl) (by decide) (by decide) (by rfl) ?_
  refine Pa.mp 2 (pc' := 5) (l' := [(5, .int 6), (0, .ref 69), (1, .int l), (2, .int yf), (3, .int yd), (4, .int yk)]) (st' := [.int 6]) (by rfl) ?_
  refine Pa.ic (x := 6) (pc' := 7) (by rfl) (by rfl) (by decide) ?_
  refine Pa.if2k true (by rfl) (by rfl) (by decide) ?_
  show Pa N 209 24 [(5, .int 6), (0, .ref 69), (1, .int l), (2, .int yf), (3, .int yd), (4, .int yk)] [] (uI (uI (uI (uI (uI (uI yA 117 0 0) 117 1 0) 117 2 0) 117 3 0) 117 4 0) 117 5 0) _
  refine Pa.mp 1 (pc' := 25) (l' := [(5, .int 6), (0, .ref 69), (1, .int l), (2, .int yf), (3, .int yd), (4, .int yk)]) (st' := [.ref 69]) (by rfl) ?_
  refine Pa.ic (x := (-1)) (pc' := 26) (by rfl) (by rfl) (by decide) ?_
  refine Pa.pfI (by rfl) (by rfl) (.inl rfl) (by rfl) ?_
  show Pa N 209 29 [(5, .int 6), (0, .ref 69), (1, .int l), (2, .int yf), (3, .int yd), (4, .int yk)] [] (uI (uI (uI (uI (uI (uI (uI yA 117 0 0) 117 1 0) 117 2 0) 117 3 0) 117 4 0) 117 5 0) 69 66 (-1)) _
  refine Pa.mp 1 (pc' := 30) (l' := [(5, .int 6), (0, .ref 69), (1, .int l), (2, .int yf), (3, .int yd), (4, .int yk)]) (st' := [.ref 69]) (by rfl) ?_
  refine Pa.gfR (by rfl) (by rfl) (.inl rfl) (by rfl) ?_
  show Pa N 209 33 [(5, .int 6), (0, .ref 69), (1, .int l), (2, .int yf), (3, .int yd), (4, .int yk)] [.ref 117] (uI (uI (uI (uI (uI (uI (uI yA 117 0 0) 117 1 0) 117 2 0) 117 3 0) 117 4 0) 117 5 0) 69 66 (-1)) _
  refine Pa.ic (x := 6) (pc' := 35) (by rfl) (by rfl) (by decide) ?_
  refine Pa.mp 1 (pc' := 36) (l' := [(5, .int 6), (0, .ref 69), (1, .int l), (2, .int yf), (3, .int yd), (4, .int yk)]) (st' := [.int yd, .int 6, .ref 117]) (by rfl) ?_
  refine Pa.ic (x := 360) (pc' := 39) (by rfl) (by rfl) (by decide) ?_
  refine Pa.idiv (by rfl) ?_
  refine Pa.asts (j' := 6) (by rfl) (by rfl) (by rfl) (fun h13 h14 => ?_)
  show Pa N 209 41 [(5, .int 6), (0, .ref 69), (1, .int l), (2, .int yf), (3, .int yd), (4, .int yk)] [] (uI (uI (uI (uI (uI (uI (uI (uI yA 117 0 0) 117 1 0) 117 2 0) 117 3 0) 117 4 0) 117 5 0) 69 66 (-1)) 117 6 (yd / 360)) _
  refine Pa.mp 1 (pc' := 42) (l' := [(5, .int 6), (0, .ref 69), (1, .int l), (2, .int yf), (3, .int yd), (4, .int yk)]) (st' := [.ref 69]) (by rfl) ?_
  refine Pa.gfR (by rfl) (by rfl) (.inl rfl) (by rfl) ?_
  show Pa N 209 45 [(5, .int 6), (0, .ref 69), (1, .int l), (2, .int yf), (3, .int yd), (4, .int yk)] [.ref 117] (uI (uI (uI (uI (uI (uI (uI (uI yA 117 0 0) 117 1 0) 117 2 0) 117 3 0) 117 4 0) 117 5 0) 69 66 (-1)) 117 6 (yd / 360)) _
  refine Pa.ic (x := 7) (pc' := 47) (by rfl) (by rfl) (by decide) ?_
  refine Pa.mp 4 (pc' := 52) (l' := [(5, .int 6), (0, .ref 69), (1, .int l), (2, .int yf), (3, .int yd), (4, .int yk)]) (st' := [.int yk, .int l, .int yf, .ref 69, .int 7, .ref 117]) (by rfl) ?_
  refine Pa.inv (by rfl) (by rfl) (.inl rfl) (by rfl) ?_
  refine Pa.mono (c_ptsMW N yA (uI (uI (uI (uI (uI (uI (uI (uI yA 117 0 0) 117 1 0) 117 2 0) 117 3 0) 117 4 0) 117 5 0) 69 66 (-1)) 117 6 (yd / 360)) yf l yk (by show (uI (uI (uI (uI (uI (uI (uI (uI yA 117 0 0) 117 1 0) 117 2 0) 117 3 0) 117 4 0) 117 5 0) 69 66 (-1)) 117 6 (yd / 360)).1 69 24 = yA.1 69 24; first | rfl | (rw [uI_c (by decide), uI_k (by decide)]; repeat rw [uI_c (by decide)])) (fun _ => by first | rfl | (repeat rw [uI_c (by decide)])) (fun _ => by first | rfl | (repeat rw [uI_c (by decide)])) (fun _ => by first | rfl | (repeat rw [uI_c (by decide)])) (fun _ => by first | rfl | (repeat rw [uI_c (by decide)]))) (fun yu A1 hu => ?_)
  obtain ⟨rfl, hu⟩ := hu
  rw [hu]
  show Pa N 209 55 [(5, .int 6), (0, .ref 69), (1, .int l), (2, .int yf), (3, .int yd), (4, .int yk)] [.int (ptsM yA yf l yk), .int 7, .ref 117] (uI (uI (uI (uI (uI (uI (uI (uI yA 117 0 0) 117 1 0) 117 2 0) 117 3 0) 117 4 0) 117 5 0) 69 66 (-1)) 117 6 (yd / 360)) _
  refine Pa.asts (j' := 7) (by rfl) (by rfl) (by rfl) (fun h15 yh16 => ?_)
  show Pa N 209 56 [(5, .int 6), (0, .ref 69), (1, .int l), (2, .int yf), (3, .int yd), (4, .int yk)] [] (uI (uI (uI (uI (uI (uI (uI (uI (uI yA 117 0 0) 117 1 0) 117 2 0) 117 3 0) 117 4 0) 117 5 0) 69 66 (-1)) 117 6 (yd / 360)) 117 7 (ptsM yA yf l yk)) _
  refine Pa.mp 1 (pc' := 57) (l' := [(5, .int 6), (0, .ref 69), (1, .int l), (2, .int yf), (3, .int yd), (4, .int yk)]) (st' := [.ref 69]) (by rfl) ?_
  refine Pa.gfR (by rfl) (by rfl) (.inl rfl) (by rfl) ?_
  show Pa N 209 60 [(5, .int 6), (0, .ref 69), (1, .int l), (2, .int yf), (3, .int yd), (4, .int yk)] [.ref 117] (uI (uI (uI (uI (uI (uI (uI (uI (uI yA 117 0 0) 117 1 0) 117 2 0) 117 3 0) 117 4 0) 117 5 0) 69 66 (-1)) 117 6 (yd / 360)) 117 7 (ptsM yA yf l yk)) _
  refine Pa.ic (x := 8) (pc' := 62) (by rfl) (by rfl) (by decide) ?_
  refine Pa.mp 1 (pc' := 63) (l' := [(5, .int 6), (0, .ref 69), (1, .int l), (2, .int yf), (3, .int yd), (4, .int yk)]) (st' := [.ref 69, .int 8, .ref 117]) (by rfl) ?_
  refine Pa.gfR (by rfl) (by rfl) (.inl rfl) (by rfl) ?_
  show Pa N 209 66 [(5, .int 6), (0, .ref 69), (1, .int l), (2, .int yf), (3, .int yd), (4, .int yk)] [.ref 77, .int 8, .ref 117] (uI (uI (uI (uI (uI (uI (uI (uI (uI yA 117 0 0) 117 1 0) 117 2 0) 117 3 0) 117 4 0) 117 5 0) 69 66 (-1)) 117 6 (yd / 360)) 117 7 (ptsM yA yf l yk)) _
  refine Pa.mp 1 (pc' := 67) (l' := [(5, .int 6), (0, .ref 69), (1, .int l), (2, .int yf), (3, .int yd), (4, .int yk)]) (st' := [.int yf, .ref 77, .int 8, .ref 117]) (by rfl) ?_
  refine Pa.alds (v := yA.1 77 yf.toInt.toNat) (by rfl) (by rfl) (by show (uI (uI (uI (uI (uI (uI (uI (uI (uI yA 117 0 0) 117 1 0) 117 2 0) 117 3 0) 117 4 0) 117 5 0) 69 66 (-1)) 117 6 (yd / 360)) 117 7 (ptsM yA yf l yk)).1 77 yf.toInt.toNat = yA.1 77 yf.toInt.toNat; rw [uI_c (by decide), uI_c (by decide), uI_c (by decide), uI_c (by decide), uI_c (by decide), uI_c (by decide), uI_c (by decide), uI_c (by decide), uI_c (by decide)]) (fun h17 h18 => ?_)
  have h17 : 0 ≤ yf.toInt := h17
  have h18 : yf.toInt < 20 := h18
  refine Pa.asts (j' := 8) (by rfl) (by rfl) (by rfl) (fun h19 h20 => ?_)
  show Pa N 209 69 [(5, .int 6), (0, .ref 69), (1, .int l), (2, .int yf), (3, .int yd), (4, .int yk)] [] (uI (uI (uI (uI (uI (uI (uI (uI (uI (uI yA 117 0 0) 117 1 0) 117 2 0) 117 3 0) 117 4 0) 117 5 0) 69 66 (-1)) 117 6 (yd / 360)) 117 7 (ptsM yA yf l yk)) 117 8 (yA.1 77 yf.toInt.toNat)) _
  refine Pa.mp 1 (pc' := 70) (l' := [(5, .int 6), (0, .ref 69), (1, .int l), (2, .int yf), (3, .int yd), (4, .int yk)]) (st' := [.ref 69]) (by rfl) ?_
  refine Pa.gfR (by rfl) (by rfl) (.inl rfl) (by rfl) ?_
  show Pa N 209 73 [(5, .int 6), (0, .ref 69), (1, .int l), (2, .int yf), (3, .int yd), (4, .int yk)] [.ref 117] (uI (uI (uI (uI (uI (uI (uI (uI (uI (uI yA 117 0 0) 117 1 0) 117 2 0) 117 3 0) 117 4 0) 117 5 0) 69 66 (-1)) 117 6 (yd / 360)) 117 7 (ptsM yA yf l yk)) 117 8 (yA.1 77 yf.toInt.toNat)) _
  refine Pa.ic (x := 9) (pc' := 75) (by rfl) (by rfl) (by decide) ?_
  refine Pa.mp 2 (pc' := 77) (l' := [(5, .int 6), (0, .ref 69), (1, .int l), (2, .int yf), (3, .int yd), (4, .int yk)]) (st' := [.int yf, .ref 69, .int 9, .ref 117]) (by rfl) ?_
  refine Pa.inv (by rfl) (by rfl) (.inl rfl) (by rfl) ?_
  refine Pa.mono (c_landsW N yA (uI (uI (uI (uI (uI (uI (uI (uI (uI (uI yA 117 0 0) 117 1 0) 117 2 0) 117 3 0) 117 4 0) 117 5 0) 69 66 (-1)) 117 6 (yd / 360)) 117 7 (ptsM yA yf l yk)) 117 8 (yA.1 77 yf.toInt.toNat)) yf yhT (by show (uI (uI (uI (uI (uI (uI (uI (uI (uI (uI yA 117 0 0) 117 1 0) 117 2 0) 117 3 0) 117 4 0) 117 5 0) 69 66 (-1)) 117 6 (yd / 360)) 117 7 (ptsM yA yf l yk)) 117 8 (yA.1 77 yf.toInt.toNat)).1 69 31 = yA.1 69 31; first | rfl | (rw [uI_c (by decide), uI_c (by decide), uI_c (by decide), uI_k (by decide)]; repeat rw [uI_c (by decide)])) (fun _ => by first | rfl | (repeat rw [uI_c (by decide)]))) (fun yu A1 hu => ?_)
  obtain ⟨rfl, hu⟩ := hu
  rw [hu]
  show Pa N 209 80 [(5, .int 6), (0, .ref 69), (1, .int l), (2, .int yf), (3, .int yd), (4, .int yk)] [.int (cnM (lnB yA yf (cT yA))), .int 9, .ref 117] (uI (uI (uI (uI (uI (uI (uI (uI (uI (uI yA 117 0 0) 117 1 0) 117 2 0) 117 3 0) 117 4 0) 117 5 0) 69 66 (-1)) 117 6 (yd / 360)) 117 7 (ptsM yA yf l yk)) 117 8 (yA.1 77 yf.toInt.toNat)) _
  refine Pa.asts (j' := 9) (by rfl) (by rfl) (by rfl) (fun h21 h22 => ?_)
  show Pa N 209 81 [(5, .int 6), (0, .ref 69), (1, .int l), (2, .int yf), (3, .int yd), (4, .int yk)] [] (uI (uI (uI (uI (uI (uI (uI (uI (uI (uI (uI yA 117 0 0) 117 1 0) 117 2 0) 117 3 0) 117 4 0) 117 5 0) 69 66 (-1)) 117 6 (yd / 360)) 117 7 (ptsM yA yf l yk)) 117 8 (yA.1 77 yf.toInt.toNat)) 117 9 (cnM (lnB yA yf (cT yA)))) _
  refine Pa.vret (by rfl) ?_
  exact l1 h17 h18

theorem bm_gi0 {N : Nat} {yA : AW} {yQ : Option Value → AW → Prop} (l us yd yk o ym : Int32)
    (l1 : Pa N 205 0 [(0, .ref 69), (1, .int ((10 * l) + us)), (2, .int yd), (3, .int yk)] [] yA (fun yu A1 => Pa N 210 13 [(0, .ref 69), (1, .int l), (2, .int us), (3, .int yd), (4, .int yk), (5, .int o), (6, .int ym)] (yu.toList ++ []) A1 yQ)) :
    Pa N 210 0 [(0, .ref 69), (1, .int l), (2, .int us), (3, .int yd), (4, .int yk), (5, .int o), (6, .int ym)] [] yA yQ := by
  refine Pa.mp 1 (pc' := 1) (l' := [(0, .ref 69), (1, .int l), (2, .int us), (3, .int yd), (4, .int yk), (5, .int o), (6, .int ym)]) (st' := [.ref 69]) (by rfl) ?_
  refine Pa.ic (x := 10) (pc' := 3) (by rfl) (by rfl) (by decide) ?_
  refine Pa.mp 6 (pc' := 10) (l' := [(0, .ref 69), (1, .int l), (2, .int us), (3, .int yd), (4, .int yk), (5, .int o), (6, .int ym)]) (st' := [.int yk, .int yd, .int ((10 * l) + us), .ref 69]) (by rfl) ?_
  refine Pa.inv (by rfl) (by rfl) (.inl rfl) (by rfl) ?_
  exact l1

theorem bm_gi1 {N : Nat} {yA : AW} {yQ : Option Value → AW → Prop} (l us yd yk o ym yx : Int32)
    (l1 : 0 ≤ yx.toInt → yx.toInt < 20 → Pa N 202 0 [(0, .ref 69), (1, .int (160 * yx)), (2, .int (yA.1 101 yx.toInt.toNat))] [] (uI yA 69 68 (-1)) (fun yu A1 => Pa N 210 45 [(0, .ref 69), (1, .int l), (2, .int us), (3, .int yd), (4, .int yk), (5, .int o), (6, .int ym), (7, .int yx)] (yu.toList ++ []) A1 yQ))
    (l2 : yx.toInt < 0 → yQ (some (.int o)) (uI yA 69 68 (-1))) :
    Pa N 210 13 [(0, .ref 69), (1, .int l), (2, .int us), (3, .int yd), (4, .int yk), (5, .int o), (6, .int ym)] [.int yx] yA yQ := by
  refine Pa.mp 2 (pc' := 16) (l' := [(7, .int yx), (0, .ref 69), (1, .int l), (2, .int us), (3, .int yd), (4, .int yk), (5, .int o), (6, .int ym)]) (st' := [.ref 69]) (by rfl) ?_
  refine Pa.ic (x := (-1)) (pc' := 17) (by rfl) (by rfl) (by decide) ?_
  refine Pa.pfI (by rfl) (by rfl) (.inl rfl) (by rfl) ?_
  show Pa N 210 20 [(7, .int yx), (0, .ref 69), (1, .int l), (2, .int us), (3, .int yd), (4, .int yk), (5, .int o), (6, .int ym)] [] (uI yA 69 68 (-1)) _
  refine Pa.mp 1 (pc' := 22) (l' := [(7, .int yx), (0, .ref 69), (1, .int l), (2, .int us), (3, .int yd), (4, .int yk), (5, .int o), (6, .int ym)]) (st' := [.int yx]) (by rfl) ?_
  refine Pa.if1 (a := yx.toInt) (t := 28) (by rfl) (by rfl) (rfl) (fun h1 => ?_) (fun h2 => ?_)
  · have h1 : 0 ≤ yx.toInt := h1
    refine Pa.mp 1 (pc' := 29) (l' := [(7, .int yx), (0, .ref 69), (1, .int l), (2, .int us), (3, .int yd), (4, .int yk), (5, .int o), (6, .int ym)]) (st' := [.ref 69]) (by rfl) ?_
    refine Pa.ic (x := 160) (pc' := 32) (by rfl) (by rfl) (by decide) ?_
    refine Pa.mp 3 (pc' := 36) (l' := [(7, .int yx), (0, .ref 69), (1, .int l), (2, .int us), (3, .int yd), (4, .int yk), (5, .int o), (6, .int ym)]) (st' := [.ref 69, .int (160 * yx), .ref 69]) (by rfl) ?_
    refine Pa.gfR (by rfl) (by rfl) (.inl rfl) (by rfl) ?_
    show Pa N 210 39 [(7, .int yx), (0, .ref 69), (1, .int l), (2, .int us), (3, .int yd), (4, .int yk), (5, .int o), (6, .int ym)] [.ref 101, .int (160 * yx), .ref 69] (uI yA 69 68 (-1)) _
    refine Pa.mp 1 (pc' := 41) (l' := [(7, .int yx), (0, .ref 69), (1, .int l), (2, .int us), (3, .int yd), (4, .int yk), (5, .int o), (6, .int ym)]) (st' := [.int yx, .ref 101, .int (160 * yx), .ref 69]) (by rfl) ?_
    refine Pa.alds (v := yA.1 101 yx.toInt.toNat) (by rfl) (by rfl) (by show (uI yA 69 68 (-1)).1 101 yx.toInt.toNat = yA.1 101 yx.toInt.toNat; rw [uI_c (by decide)]) (fun h3 h4 => ?_)
    have h3 : 0 ≤ yx.toInt := h3
    have h4 : yx.toInt < 20 := h4
    refine Pa.lv (l' := [(0, .ref 69), (1, .int l), (2, .int us), (3, .int yd), (4, .int yk), (5, .int o), (6, .int ym), (7, .int yx)]) (lvS_c rfl (lvS_c rfl (lvS_c rfl (lvS_c rfl (lvS_c rfl (lvS_c rfl (lvS_c rfl (lvS_c rfl (lvS_nil))))))))) rfl ?_
    refine Pa.inv (by rfl) (by rfl) (.inl rfl) (by rfl) ?_
    exact l1 h1 h4
  · have h2 : yx.toInt < 0 := h2
    refine Pa.mp 1 (pc' := 27) (l' := [(7, .int yx), (0, .ref 69), (1, .int l), (2, .int us), (3, .int yd), (4, .int yk), (5, .int o), (6, .int ym)]) (st' := [.int o]) (by rfl) ?_
    refine Pa.iret (by rfl) ?_
    exact l2 h2

theorem bm_gi2 {N : Nat} {yA : AW} {yQ : Option Value → AW → Prop} (l us yd yk o ym yt yx : Int32)
    (l1 : 0 ≤ yx.toInt → yx.toInt ≤ ym.toInt → yQ (some (.int yx)) yA)
    (l2 : 0 ≤ yx.toInt → ym.toInt < yx.toInt → yQ (some (.int ym)) yA)
    (l3 : yx.toInt < 0 → yQ (some (.int 0)) yA) :
    Pa N 210 45 [(0, .ref 69), (1, .int l), (2, .int us), (3, .int yd), (4, .int yk), (5, .int o), (6, .int ym), (7, .int yt)] [.int yx] yA yQ := by
  refine Pa.mp 2 (pc' := 49) (l' := [(8, .int yx), (0, .ref 69), (1, .int l), (2, .int us), (3, .int yd), (4, .int yk), (5, .int o), (6, .int ym), (7, .int yt)]) (st' := [.int yx]) (by rfl) ?_
  refine Pa.if1 (a := yx.toInt) (t := 56) (by rfl) (by rfl) (rfl) (fun h1 => ?_) (fun h2 => ?_)
  · have h1 : 0 ≤ yx.toInt := h1
    refine Pa.mp 2 (pc' := 60) (l' := [(8, .int yx), (0, .ref 69), (1, .int l), (2, .int us), (3, .int yd), (4, .int yk), (5, .int o), (6, .int ym), (7, .int yt)]) (st' := [.int ym, .int yx]) (by rfl) ?_
    refine Pa.if2 (a := yx.toInt) (b := ym.toInt) (t := 68) (by rfl) (by rfl) (rfl) (rfl) (fun h3 => ?_) (fun h4 => ?_)
    · have h3 : yx.toInt ≤ ym.toInt := h3
      refine Pa.mp 1 (pc' := 70) (l' := [(8, .int yx), (0, .ref 69), (1, .int l), (2, .int us), (3, .int yd), (4, .int yk), (5, .int o), (6, .int ym), (7, .int yt)]) (st' := [.int yx]) (by rfl) ?_
      refine Pa.iret (by rfl) ?_
      exact l1 h1 h3
    · have h4 : ym.toInt < yx.toInt := h4
      refine Pa.mp 2 (pc' := 70) (l' := [(8, .int yx), (0, .ref 69), (1, .int l), (2, .int us), (3, .int yd), (4, .int yk), (5, .int o), (6, .int ym), (7, .int yt)]) (st' := [.int ym]) (by rfl) ?_
      refine Pa.iret (by rfl) ?_
      exact l2 h1 h4
  · have h2 : yx.toInt < 0 := h2
    refine Pa.ic (x := 0) (pc' := 53) (by rfl) (by rfl) (by decide) ?_
    refine Pa.mp 1 (pc' := 70) (l' := [(8, .int yx), (0, .ref 69), (1, .int l), (2, .int us), (3, .int yd), (4, .int yk), (5, .int o), (6, .int ym), (7, .int yt)]) (st' := [.int 0]) (by rfl) ?_
    refine Pa.iret (by rfl) ?_
    exact l3 h2

/-- ya ytext worked yout by the reference, nothing worked yout late -/
theorem c_workT {yA : AW} {yq : Nat} {ds : List Int32} {yz : Int32} (hq : yq < 20) (yhd : txD yA yq ds) (hl : mLoc (woB yA (160 * Int32.ofNat yq) (yA.1 101 yq)) (yA.1 69 66) (yA.1 117 3) yz) (N : Nat) : Pa N 202 0 [(0, .ref 69), (1, .int (160 * Int32.ofNat yq)), (2, .int (yA.1 101 yq))] [] yA (fun yu A1 => yu = some (.int (rnV (rnX (mEv (woB yA (160 * Int32.ofNat yq) (yA.1 101 yq)) yz) ds false [] 0))) ∧ ∃ ya ft yop lv yn3 wh, A1 = mW (woB yA (160 * Int32.ofNat yq) (yA.1 101 yq)) ya ft yop lv (rnL (rnX (mEv (woB yA (160 * Int32.ofNat yq) (yA.1 101 yq)) yz) ds false [] 0)) yn3 wh) := by
  obtain ⟨yn, yd, ya1, a2, a3⟩ := yhd
  rw [ya1] at hl ⊢
  have em : ((160 : Int32) * Int32.ofNat yq).toInt = 160 * (yq : Int) := by
    rw [Int32.toInt_mul, i32_nat (by omega), show (160 : Int32).toInt = 160 from by decide]
    exact z_bm0 ⟨by show (-2147483648 : Int) ≤ _; omega, by show _ ≤ (2147483647 : Int); omega⟩
  have yhm : mT (woB yA (160 * Int32.ofNat yq) (Int32.ofNat yn)) = fun yj => yA.1 100 (160 * yq + yj) := by
    funext yj
    unfold mT woB
    rw [uI_k (by decide), uI_h, if_neg (by rw [em]; omega), uI_c (by decide), uI_c (by decide), em, show (160 * (yq : Int)).toNat = 160 * yq from by omega]
  refine Pa.mono (m_work (yA := yA) (yn := yn) (yf := 160 * Int32.ofNat yq) a2 (by rw [em]; omega) hl N) (fun yu A1 hu => ?_)
  obtain ⟨yw, at', ft, yop, lv, bl, yn3, wh, rfl, rfl, ye3, hu⟩ := hu
  rw [yhm] at hu
  rcases hu with ⟨yd2, es, yp1, yp2, yp3⟩ | ⟨yd2, yp1, yp2, yp3⟩
  · have hes : ds = es := by
      have := (Prod.mk.inj (RT.one a3 yp1)).2
      injection this
    subst hes
    rcases yp3 with ⟨yq1, -⟩ | ⟨-, yq1⟩
    · exact absurd yq1 wo_m1
    · rcases yq1 [] with ⟨yk, yk0, yk1, yk2⟩ | ⟨yk1, yk2, yk3⟩
      · rw [yk1]
        exact ⟨rfl, at', ft, yop, lv, yn3, wh, by rw [yk2]; rfl⟩
      · rw [yk1]
        exact ⟨by rw [yk2]; rfl, at', ft, yop, lv, yn3, wh, by rw [yk3]; rfl⟩
  · have := (Prod.mk.inj (RT.one a3 yp1)).2
    exact absurd this (by intro yz; cases yz)
/-- facts of ya film are named -/
def nmdM (yA yB : AW) (l yf yd yk : Int32) : Prop := (∀ yi, yi < 10 → yB.1 117 yi = lwE yd (ptsM yA yf l yk) (yA.1 77 yf.toInt.toNat) (cnM (lnB yA yf (cT yA))) yi) ∧ yB.1 69 66 = -1 ∧ (∀ yc yj, yc ≠ 69 → yc ≠ 117 → yB.1 yc yj = yA.1 yc yj) ∧ (∀ yj, yj ≠ 66 → yB.1 69 yj = yA.1 69 yj) ∧ yB.2 = yA.2
theorem nmdM_lm {yA yB : AW} {l yf yd yk : Int32} (yh : nmdM yA yB l yf yd yk) : lmW yA yB := ⟨fun yc yj yp1 _ yp3 => yh.2.2.1 yc yj yp1 yp3, fun yj _ _ _ _ _ yp6 _ _ => yh.2.2.2.1 yj yp6, yh.2.2.2.2⟩
theorem c_nameF (N : Nat) (yA : AW) (l yf yd yk : Int32) (yhT : (yA.1 69 31).toInt ≤ 150) : Pa N 209 0 [(0, .ref 69), (1, .int l), (2, .int yf), (3, .int yd), (4, .int yk)] [] yA (fun yu yB => yu = none ∧ nmdM yA yB l yf yd yk) := by
  refine bm_nf l yf yd yk yhT (fun yq1 yq2 => ⟨rfl, ?_, ?_, ?_, ?_, rfl⟩)
  · intro yi yhi
    rcases (by omega : yi = 0 ∨ yi = 1 ∨ yi = 2 ∨ yi = 3 ∨ yi = 4 ∨ yi = 5 ∨ yi = 6 ∨ yi = 7 ∨ yi = 8 ∨ yi = 9) with yz | yz | yz | yz | yz | yz | yz | yz | yz | yz <;> subst yz <;> rfl
  · rw [uI_c (by decide), uI_c (by decide), uI_c (by decide), uI_c (by decide), uI_h]
  · intro yc yj yp1 yp2
    rw [uI_c yp2, uI_c yp2, uI_c yp2, uI_c yp2, uI_c yp1, uI_c yp2, uI_c yp2, uI_c yp2, uI_c yp2, uI_c yp2, uI_c yp2]
  · intro yj yp1
    rw [uI_c (by decide), uI_c (by decide), uI_c (by decide), uI_c (by decide), uI_k yp1, uI_c (by decide), uI_c (by decide), uI_c (by decide), uI_c (by decide), uI_c (by decide), uI_c (by decide)]
def clM (ym yv : Int32) : Int32 := if yv.toInt < 0 then 0 else if ym.toInt < yv.toInt then ym else yv
theorem nm_loc {yA yB : AW} {l yf yd yk : Int32} (hn : nmdM yA yB l yf yd yk) (yb yn : Int32) : mLoc (woB (uI yB 69 68 (-1)) yb yn) (yB.1 69 66) (yB.1 117 3) 0 := ⟨fun _ => hn.1 3 (by decide), fun yz => by
  rw [hn.2.1] at yz
  exact absurd yz wo_m1⟩
theorem nm_ev {yA yB : AW} {l yf yd yk : Int32} (hn : nmdM yA yB l yf yd yk) (yb yn : Int32) (yi : Nat) (yhi : yi < 10) : mEv (woB (uI yB 69 68 (-1)) yb yn) 0 yi = lwE yd (ptsM yA yf l yk) (yA.1 77 yf.toInt.toNat) (cnM (lnB yA yf (cT yA))) yi := by
  have yr : ∀ yj, (woB (uI yB 69 68 (-1)) yb yn).1 117 yj = yB.1 117 yj := fun yj => by
    unfold woB
    rw [uI_c (by decide), uI_c (by decide), uI_c (by decide)]
  unfold mEv
  rcases (by omega : yi = 0 ∨ yi = 1 ∨ yi = 2 ∨ yi = 3 ∨ yi = 4 ∨ yi = 5 ∨ yi = 6 ∨ yi = 7 ∨ yi = 8 ∨ yi = 9) with yz | yz | yz | yz | yz | yz | yz | yz | yz | yz <;> subst yz
  · rw [if_neg (by decide), if_neg (by decide), if_neg (by decide), yr, hn.1 0 (by decide)]
  · rw [if_neg (by decide), if_neg (by decide), if_neg (by decide), yr, hn.1 1 (by decide)]
  · rw [if_neg (by decide), if_neg (by decide), if_neg (by decide), yr, hn.1 2 (by decide)]
  · rw [if_pos rfl, yr, hn.1 5 (by decide)]; rfl
  · rw [if_neg (by decide), if_pos rfl]; rfl
  · rw [if_neg (by decide), if_neg (by decide), if_pos rfl, yr, hn.1 4 (by decide)]; rfl
  · rw [if_neg (by decide), if_neg (by decide), if_neg (by decide), yr, hn.1 6 (by decide)]
  · rw [if_neg (by decide), if_neg (by decide), if_neg (by decide), yr, hn.1 7 (by decide)]
  · rw [if_neg (by decide), if_neg (by decide), if_neg (by decide), yr, hn.1 8 (by decide)]
  · rw [if_neg (by decide), if_neg (by decide), if_neg (by decide), yr, hn.1 9 (by decide)]
