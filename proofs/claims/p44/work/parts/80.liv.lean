/-! LIVES: ya year of days -/
theorem bj_fill0 {N : Nat} {yA : AW} {yQ : Option Value → AW → Prop} (yx : Int32)
    (l1 : Pa N 272 5 [(0, .ref 19), (1, .int yx), (2, .int 0), (3, .int 360)] [] yA yQ) :
    Pa N 272 0 [(0, .ref 19), (1, .int yx)] [] yA yQ := by
  refine Pa.ic (x := 0) (pc' := 1) (by rfl) (by rfl) (by decide) ?_
  refine Pa.mp 2 (pc' := 3) (l' := [(2, .int 0), (0, .ref 19), (1, .int yx)]) (st' := [.ref 19]) (by rfl) ?_
  refine Pa.lens (x := 360) (by rfl) (by rfl) (by decide) ?_
  refine Pa.mp 1 (pc' := 5) (l' := [(3, .int 360), (2, .int 0), (0, .ref 19), (1, .int yx)]) (st' := []) (by rfl) ?_
  refine Pa.lv (l' := [(0, .ref 19), (1, .int yx), (2, .int 0), (3, .int 360)]) (lvS_c rfl (lvS_c rfl (lvS_c rfl (lvS_c rfl (lvS_nil))))) rfl ?_
  exact l1

theorem bj_fill {N : Nat} {yA : AW} {yQ : Option Value → AW → Prop} (yx yi : Int32) (yG : Nat → Int32)
    (l1 : 360 ≤ yi.toInt → yQ none (uF yA 19 yG))
    (l2 : yi.toInt < 360 → 0 ≤ yi.toInt → Pa N 272 5 [(0, .ref 19), (1, .int yx), (2, .int (yi + 1)), (3, .int 360)] [] (uI (uF yA 19 yG) 19 yi.toInt.toNat yx) yQ) :
    Pa (N + 1) 272 5 [(0, .ref 19), (1, .int yx), (2, .int yi), (3, .int 360)] [] (uF yA 19 yG) yQ := by
  refine Pa.mp1 1 (pc' := 7) (l' := [(0, .ref 19), (1, .int yx), (2, .int yi), (3, .int 360)]) (st' := [.int 360, .int yi]) (by rfl) ?_
  refine Pa.if2 (a := yi.toInt) (b := 360) (t := 20) (by rfl) (by rfl) (rfl) (by decide) (fun h1 => ?_) (fun h2 => ?_)
  · skip
    refine Pa.vret (by rfl) ?_
    exact l1 h1
  · skip
    refine Pa.mp 3 (pc' := 13) (l' := [(0, .ref 19), (1, .int yx), (2, .int yi), (3, .int 360)]) (st' := [.int yx, .int yi, .ref 19]) (by rfl) ?_
    refine Pa.asts (j' := yi.toInt.toNat) (by rfl) (by rfl) (by rfl) (fun h3 h4 => ?_)
    show Pa N 272 14 [(0, .ref 19), (1, .int yx), (2, .int yi), (3, .int 360)] [] (uI (uF yA 19 yG) 19 yi.toInt.toNat yx) _
    refine Pa.iinc (x := yi) (c := 1) (v := (yi + 1)) (l' := [(2, .int (yi + 1)), (0, .ref 19), (1, .int yx), (3, .int 360)]) (by rfl) (by rfl) (by decide) (by rfl) (by rfl) ?_
    refine Pa.mp 1 (pc' := 5) (l' := [(2, .int (yi + 1)), (0, .ref 19), (1, .int yx), (3, .int 360)]) (st' := []) (by rfl) ?_
    refine Pa.lv (l' := [(0, .ref 19), (1, .int yx), (2, .int (yi + 1)), (3, .int 360)]) (lvS_c rfl (lvS_c rfl (lvS_c rfl (lvS_c rfl (lvS_nil))))) rfl ?_
    exact l2 h2 h3


theorem uI_uF {yA : AW} {yc yk : Nat} {yg : Nat → Int32} {yx : Int32} : uI (uF yA yc yg) yc yk yx = uF yA yc (fun yj => if yj = yk then yx else yg yj) := by
  refine Prod.ext ?_ rfl
  funext c' k'
  show (if c' = yc ∧ k' = yk then yx else (if c' = yc then yg k' else yA.1 c' k')) = (if c' = yc then (if k' = yk then yx else yg k') else yA.1 c' k')
  by_cases ye : c' = yc
  · by_cases ye2 : k' = yk
    · rw [if_pos ⟨ye, ye2⟩, if_pos ye, if_pos ye2]
    · rw [if_neg (fun yq => ye2 yq.2), if_pos ye, if_pos ye, if_neg ye2]
  · rw [if_neg (fun yq => ye yq.1), if_neg ye, if_neg ye]
theorem uF_self {yA : AW} {yc : Nat} : uF yA yc (yA.1 yc) = yA := by
  refine Prod.ext ?_ rfl
  funext c' k'
  show (if c' = yc then yA.1 yc k' else yA.1 c' k') = yA.1 c' k'
  by_cases ye : c' = yc
  · rw [if_pos ye, ye]
  · rw [if_neg ye]
def fillF (yn : Nat) (yx : Int32) (yg : Nat → Int32) : Nat → Int32 := fun yj => if yj < yn then yx else yg yj
theorem fillF_0 {yx : Int32} {yg : Nat → Int32} : fillF 0 yx yg = yg := funext fun yj => if_neg (Nat.not_lt_zero yj)
theorem fillF_up {yn : Nat} {yx : Int32} {yg : Nat → Int32} : (fun yj => if yj = yn then yx else fillF yn yx yg yj) = fillF (yn + 1) yx yg := by
  funext yj
  unfold fillF
  by_cases ye : yj = yn
  · rw [if_pos ye, if_pos (by omega)]
  · rw [if_neg ye]
    by_cases yh : yj < yn
    · rw [if_pos yh, if_pos (by omega)]
    · rw [if_neg yh, if_neg (by omega)]
theorem c_fill19 (N : Nat) (yA : AW) (yx : Int32) : Pa N 272 0 [(0, .ref 19), (1, .int yx)] [] yA (fun yu A1 => yu = none ∧ A1 = uF yA 19 (fillF 360 yx (yA.1 19))) := by
  have ykey : ∀ N yn, yn ≤ 360 → Pa N 272 5 [(0, .ref 19), (1, .int yx), (2, .int (Int32.ofNat yn)), (3, .int 360)] [] (uF yA 19 (fillF yn yx (yA.1 19))) (fun yu A1 => yu = none ∧ A1 = uF yA 19 (fillF 360 yx (yA.1 19))) := by
    intro N
    induction N with
    | zero => intro yn _; exact Pa.zero
    | succ N yih =>
      intro yn hn
      have ye1 : (Int32.ofNat yn).toInt = yn := i32_nat (by omega)
      refine bj_fill yx _ _ ?_ ?_ <;> rw [ye1] <;> (try rw [Int.toNat_natCast])
      · intro h1
        rw [show yn = 360 by omega]
        exact ⟨rfl, rfl⟩
      · intro h1 h2
        have yh := yih (yn + 1) (by omega)
        rw [← fillF_up, ← uI_uF, on_succ] at yh
        exact yh
  have yh := ykey N 0 (by omega)
  rw [fillF_0, uF_self] at yh
  exact bj_fill0 yx yh
theorem bx_liv0 {N : Nat} {yA : AW} {yQ : Option Value → AW → Prop} (yp l yd yk : Int32)
    (l1 : yp.toInt < 0 → yQ (some (.int 0)) yA)
    (l2 : 0 ≤ yp.toInt → (yA.1 12 7).toInt ≤ yp.toInt → yQ (some (.int 0)) yA)
    (l3 : 0 ≤ yp.toInt → yp.toInt < (yA.1 12 7).toInt → yp.toInt < 60 → Pa N 59 35 [(0, .ref 12), (1, .int yp), (2, .int l), (3, .int yd), (4, .int yk), (5, .int ((yd - 360) + 1)), (6, .int 0), (7, .int 0), (8, .int 0), (9, .int 0)] [] (uF yA 19 (fillF 360 (yA.1 13 yp.toInt.toNat) (yA.1 19))) yQ) :
    Pa N 59 0 [(0, .ref 12), (1, .int yp), (2, .int l), (3, .int yd), (4, .int yk)] [] yA yQ := by
  refine Pa.mp 2 (pc' := 2) (l' := [(0, .ref 12), (1, .int yp), (2, .int l), (3, .int yd), (4, .int yk)]) (st' := [.int yp, .ref 12]) (by rfl) ?_
  refine Pa.inv (by rfl) (by rfl) (.inl rfl) (by rfl) ?_
  show Pa N 56 0 [(0, .ref 12), (1, .int yp)] [] yA _
  refine Pa.mp 1 (pc' := 1) (l' := [(0, .ref 12), (1, .int yp)]) (st' := [.int yp]) (by rfl) ?_
  refine Pa.if1 (a := yp.toInt) (t := 16) (by rfl) (by rfl) (rfl) (fun h1 => ?_) (fun h2 => ?_)
  · skip
    refine Pa.ic (x := 0) (pc' := 17) (by rfl) (by rfl) (by decide) ?_
    refine Pa.iret (by rfl) ?_
    show Pa N 59 5 [(0, .ref 12), (1, .int yp), (2, .int l), (3, .int yd), (4, .int yk)] [.int 0] yA _
    refine Pa.if1k false (by rfl) (by rfl) (by decide) ?_
    show Pa N 59 8 [(0, .ref 12), (1, .int yp), (2, .int l), (3, .int yd), (4, .int yk)] [] yA _
    refine Pa.ic (x := 0) (pc' := 9) (by rfl) (by rfl) (by decide) ?_
    refine Pa.iret (by rfl) ?_
    exact l1 h1
  · skip
    refine Pa.mp 2 (pc' := 6) (l' := [(0, .ref 12), (1, .int yp)]) (st' := [.ref 12, .int yp]) (by rfl) ?_
    refine Pa.gfI (v := yA.1 12 7) (by rfl) (by rfl) (.inl rfl) (by rfl) (by rfl) ?_
    refine Pa.if2 (a := yp.toInt) (b := (yA.1 12 7).toInt) (t := 16) (by rfl) (by rfl) (rfl) (rfl) (fun h3 => ?_) (fun h4 => ?_)
    · skip
      refine Pa.ic (x := 0) (pc' := 17) (by rfl) (by rfl) (by decide) ?_
      refine Pa.iret (by rfl) ?_
      show Pa N 59 5 [(0, .ref 12), (1, .int yp), (2, .int l), (3, .int yd), (4, .int yk)] [.int 0] yA _
      refine Pa.if1k false (by rfl) (by rfl) (by decide) ?_
      show Pa N 59 8 [(0, .ref 12), (1, .int yp), (2, .int l), (3, .int yd), (4, .int yk)] [] yA _
      refine Pa.ic (x := 0) (pc' := 9) (by rfl) (by rfl) (by decide) ?_
      refine Pa.iret (by rfl) ?_
      exact l2 h2 h3
    · skip
      refine Pa.ic (x := 1) (pc' := 13) (by rfl) (by rfl) (by decide) ?_
      refine Pa.mp 1 (pc' := 17) (l' := [(0, .ref 12), (1, .int yp)]) (st' := [.int 1]) (by rfl) ?_
      refine Pa.iret (by rfl) ?_
      show Pa N 59 5 [(0, .ref 12), (1, .int yp), (2, .int l), (3, .int yd), (4, .int yk)] [.int 1] yA _
      refine Pa.if1k true (by rfl) (by rfl) (by decide) ?_
      show Pa N 59 10 [(0, .ref 12), (1, .int yp), (2, .int l), (3, .int yd), (4, .int yk)] [] yA _
      refine Pa.mp 1 (pc' := 11) (l' := [(0, .ref 12), (1, .int yp), (2, .int l), (3, .int yd), (4, .int yk)]) (st' := [.int yd]) (by rfl) ?_
      refine Pa.ic (x := 360) (pc' := 14) (by rfl) (by rfl) (by decide) ?_
      refine Pa.mp 1 (pc' := 15) (l' := [(0, .ref 12), (1, .int yp), (2, .int l), (3, .int yd), (4, .int yk)]) (st' := [.int (yd - 360)]) (by rfl) ?_
      refine Pa.ic (x := 1) (pc' := 16) (by rfl) (by rfl) (by decide) ?_
      refine Pa.mp 3 (pc' := 20) (l' := [(5, .int ((yd - 360) + 1)), (0, .ref 12), (1, .int yp), (2, .int l), (3, .int yd), (4, .int yk)]) (st' := [.ref 12]) (by rfl) ?_
      refine Pa.gfR (by rfl) (by rfl) (.inl rfl) (by rfl) ?_
      show Pa N 59 23 [(5, .int ((yd - 360) + 1)), (0, .ref 12), (1, .int yp), (2, .int l), (3, .int yd), (4, .int yk)] [.ref 19] yA _
      refine Pa.mp 1 (pc' := 24) (l' := [(5, .int ((yd - 360) + 1)), (0, .ref 12), (1, .int yp), (2, .int l), (3, .int yd), (4, .int yk)]) (st' := [.ref 12, .ref 19]) (by rfl) ?_
      refine Pa.gfR (by rfl) (by rfl) (.inl rfl) (by rfl) ?_
      show Pa N 59 27 [(5, .int ((yd - 360) + 1)), (0, .ref 12), (1, .int yp), (2, .int l), (3, .int yd), (4, .int yk)] [.ref 13, .ref 19] yA _
      refine Pa.mp 1 (pc' := 28) (l' := [(5, .int ((yd - 360) + 1)), (0, .ref 12), (1, .int yp), (2, .int l), (3, .int yd), (4, .int yk)]) (st' := [.int yp, .ref 13, .ref 19]) (by rfl) ?_
      refine Pa.alds (v := yA.1 13 yp.toInt.toNat) (by rfl) (by rfl) (by rfl) (fun h5 h6 => ?_)
      refine Pa.ist (by rfl) (by rfl) (.inl rfl) (by rfl) (by rfl) ?_
      refine Pa.mono (c_fill19 N yA (yA.1 13 yp.toInt.toNat)) (fun yu A1 hu => ?_)
      obtain ⟨rfl, hu⟩ := hu
      rw [hu]
      show Pa N 59 32 [(5, .int ((yd - 360) + 1)), (0, .ref 12), (1, .int yp), (2, .int l), (3, .int yd), (4, .int yk)] [] (uF yA 19 (fillF 360 (yA.1 13 yp.toInt.toNat) (yA.1 19))) _
      refine Pa.ic (x := 0) (pc' := 33) (by rfl) (by rfl) (by decide) ?_
      refine Pa.mp 1 (pc' := 35) (l' := [(6, .int 0), (5, .int ((yd - 360) + 1)), (0, .ref 12), (1, .int yp), (2, .int l), (3, .int yd), (4, .int yk)]) (st' := []) (by rfl) ?_
      refine Pa.lv (l' := [(0, .ref 12), (1, .int yp), (2, .int l), (3, .int yd), (4, .int yk), (5, .int ((yd - 360) + 1)), (6, .int 0), (7, .int 0), (8, .int 0), (9, .int 0)]) (lvS_c rfl (lvS_c rfl (lvS_c rfl (lvS_c rfl (lvS_c rfl (lvS_c rfl (lvS_c rfl (lvS_nil)))))))) rfl ?_
      exact l3 h2 h4 h6
theorem bx_liv1 {N : Nat} {yA : AW} {yQ : Option Value → AW → Prop} (yp l yd yk yf ys ya yb yc : Int32) (yG : Nat → Int32)
    (l1 : (yA.1 12 8).toInt ≤ ys.toInt → Pa N 59 140 [(0, .ref 12), (1, .int yp), (2, .int l), (3, .int yd), (4, .int yk), (5, .int yf), (6, .int 0), (7, .int 0), (8, .int yb), (9, .int yc)] [] (uF yA 19 yG) yQ)
    (l2 : ys.toInt < (yA.1 12 8).toInt → 0 ≤ ys.toInt → ys.toInt < 200 → (yA.1 14 ys.toInt.toNat).toInt ≠ yp.toInt → Pa N 59 35 [(0, .ref 12), (1, .int yp), (2, .int l), (3, .int yd), (4, .int yk), (5, .int yf), (6, .int (ys + 1)), (7, .int ya), (8, .int yb), (9, .int yc)] [] (uF yA 19 yG) yQ)
    (l3 : ys.toInt < (yA.1 12 8).toInt → 0 ≤ ys.toInt → ys.toInt < 200 → (yA.1 14 ys.toInt.toNat).toInt = yp.toInt → yk.toInt < (yA.1 18 ys.toInt.toNat).toInt → Pa N 59 35 [(0, .ref 12), (1, .int yp), (2, .int l), (3, .int yd), (4, .int yk), (5, .int yf), (6, .int (ys + 1)), (7, .int ya), (8, .int yb), (9, .int yc)] [] (uF yA 19 yG) yQ)
    (l4 : ys.toInt < (yA.1 12 8).toInt → 0 ≤ ys.toInt → ys.toInt < 200 → (yA.1 14 ys.toInt.toNat).toInt = yp.toInt → (yA.1 18 ys.toInt.toNat).toInt ≤ yk.toInt → Pa N 59 98 [(0, .ref 12), (1, .int yp), (2, .int l), (3, .int yd), (4, .int yk), (5, .int yf), (6, .int ys), (7, .int (i_max (yA.1 16 ys.toInt.toNat) yf)), (8, .int (i_min (yA.1 17 ys.toInt.toNat) yd)), (9, .int (i_max (yA.1 16 ys.toInt.toNat) yf))] [] (uF yA 19 yG) yQ) :
    Pa (N + 1) 59 35 [(0, .ref 12), (1, .int yp), (2, .int l), (3, .int yd), (4, .int yk), (5, .int yf), (6, .int ys), (7, .int ya), (8, .int yb), (9, .int yc)] [] (uF yA 19 yG) yQ := by
  refine Pa.mp1 1 (pc' := 38) (l' := [(0, .ref 12), (1, .int yp), (2, .int l), (3, .int yd), (4, .int yk), (5, .int yf), (6, .int ys), (7, .int ya), (8, .int yb), (9, .int yc)]) (st' := [.ref 12, .int ys]) (by rfl) ?_
  refine Pa.gfI (v := yA.1 12 8) (by rfl) (by rfl) (.inl rfl) (by rfl) (by show (uF yA 19 yG).1 12 8 = yA.1 12 8; rw [uF_c (by decide)]) ?_
  refine Pa.if2 (a := ys.toInt) (b := (yA.1 12 8).toInt) (t := 134) (by rfl) (by rfl) (rfl) (rfl) (fun h1 => ?_) (fun h2 => ?_)
  · skip
    refine Pa.ic (x := 0) (pc' := 135) (by rfl) (by rfl) (by decide) ?_
    refine Pa.mp 1 (pc' := 137) (l' := [(6, .int 0), (0, .ref 12), (1, .int yp), (2, .int l), (3, .int yd), (4, .int yk), (5, .int yf), (7, .int ya), (8, .int yb), (9, .int yc)]) (st' := []) (by rfl) ?_
    refine Pa.ic (x := 0) (pc' := 138) (by rfl) (by rfl) (by decide) ?_
    refine Pa.mp 1 (pc' := 140) (l' := [(7, .int 0), (6, .int 0), (0, .ref 12), (1, .int yp), (2, .int l), (3, .int yd), (4, .int yk), (5, .int yf), (8, .int yb), (9, .int yc)]) (st' := []) (by rfl) ?_
    refine Pa.lv (l' := [(0, .ref 12), (1, .int yp), (2, .int l), (3, .int yd), (4, .int yk), (5, .int yf), (6, .int 0), (7, .int 0), (8, .int yb), (9, .int yc)]) (lvS_c rfl (lvS_c rfl (lvS_c rfl (lvS_c rfl (lvS_c rfl (lvS_c rfl (lvS_c rfl (lvS_c rfl (lvS_c rfl (lvS_c rfl (lvS_nil))))))))))) rfl ?_
    exact l1 h1
  · skip
    refine Pa.mp 1 (pc' := 45) (l' := [(0, .ref 12), (1, .int yp), (2, .int l), (3, .int yd), (4, .int yk), (5, .int yf), (6, .int ys), (7, .int ya), (8, .int yb), (9, .int yc)]) (st' := [.ref 12]) (by rfl) ?_
    refine Pa.gfR (by rfl) (by rfl) (.inl rfl) (by rfl) ?_
    show Pa N 59 48 [(0, .ref 12), (1, .int yp), (2, .int l), (3, .int yd), (4, .int yk), (5, .int yf), (6, .int ys), (7, .int ya), (8, .int yb), (9, .int yc)] [.ref 14] (uF yA 19 yG) _
    refine Pa.mp 1 (pc' := 50) (l' := [(0, .ref 12), (1, .int yp), (2, .int l), (3, .int yd), (4, .int yk), (5, .int yf), (6, .int ys), (7, .int ya), (8, .int yb), (9, .int yc)]) (st' := [.int ys, .ref 14]) (by rfl) ?_
    refine Pa.alds (v := yA.1 14 ys.toInt.toNat) (by rfl) (by rfl) (by show (uF yA 19 yG).1 14 ys.toInt.toNat = yA.1 14 ys.toInt.toNat; rw [uF_c (by decide)]) (fun h3 h4 => ?_)
    refine Pa.mp 1 (pc' := 52) (l' := [(0, .ref 12), (1, .int yp), (2, .int l), (3, .int yd), (4, .int yk), (5, .int yf), (6, .int ys), (7, .int ya), (8, .int yb), (9, .int yc)]) (st' := [.int yp, .int (yA.1 14 ys.toInt.toNat)]) (by rfl) ?_
    refine Pa.if2 (a := (yA.1 14 ys.toInt.toNat).toInt) (b := yp.toInt) (t := 128) (by rfl) (by rfl) (rfl) (rfl) (fun h5 => ?_) (fun h6 => ?_)
    · skip
      refine Pa.iinc (x := ys) (c := 1) (v := (ys + 1)) (l' := [(6, .int (ys + 1)), (0, .ref 12), (1, .int yp), (2, .int l), (3, .int yd), (4, .int yk), (5, .int yf), (7, .int ya), (8, .int yb), (9, .int yc)]) (by rfl) (by rfl) (by decide) (by rfl) (by rfl) ?_
      refine Pa.mp 1 (pc' := 35) (l' := [(6, .int (ys + 1)), (0, .ref 12), (1, .int yp), (2, .int l), (3, .int yd), (4, .int yk), (5, .int yf), (7, .int ya), (8, .int yb), (9, .int yc)]) (st' := []) (by rfl) ?_
      refine Pa.lv (l' := [(0, .ref 12), (1, .int yp), (2, .int l), (3, .int yd), (4, .int yk), (5, .int yf), (6, .int (ys + 1)), (7, .int ya), (8, .int yb), (9, .int yc)]) (lvS_c rfl (lvS_c rfl (lvS_c rfl (lvS_c rfl (lvS_c rfl (lvS_c rfl (lvS_c rfl (lvS_c rfl (lvS_c rfl (lvS_c rfl (lvS_nil))))))))))) rfl ?_
      exact l2 h2 h3 h4 h5
    · skip
      refine Pa.mp 1 (pc' := 56) (l' := [(0, .ref 12), (1, .int yp), (2, .int l), (3, .int yd), (4, .int yk), (5, .int yf), (6, .int ys), (7, .int ya), (8, .int yb), (9, .int yc)]) (st' := [.ref 12]) (by rfl) ?_
      refine Pa.gfR (by rfl) (by rfl) (.inl rfl) (by rfl) ?_
      show Pa N 59 59 [(0, .ref 12), (1, .int yp), (2, .int l), (3, .int yd), (4, .int yk), (5, .int yf), (6, .int ys), (7, .int ya), (8, .int yb), (9, .int yc)] [.ref 18] (uF yA 19 yG) _
      refine Pa.mp 1 (pc' := 61) (l' := [(0, .ref 12), (1, .int yp), (2, .int l), (3, .int yd), (4, .int yk), (5, .int yf), (6, .int ys), (7, .int ya), (8, .int yb), (9, .int yc)]) (st' := [.int ys, .ref 18]) (by rfl) ?_
      refine Pa.alds (v := yA.1 18 ys.toInt.toNat) (by rfl) (by rfl) (by show (uF yA 19 yG).1 18 ys.toInt.toNat = yA.1 18 ys.toInt.toNat; rw [uF_c (by decide)]) (fun h7 h8 => ?_)
      refine Pa.mp 1 (pc' := 64) (l' := [(0, .ref 12), (1, .int yp), (2, .int l), (3, .int yd), (4, .int yk), (5, .int yf), (6, .int ys), (7, .int ya), (8, .int yb), (9, .int yc)]) (st' := [.int yk, .int (yA.1 18 ys.toInt.toNat)]) (by rfl) ?_
      refine Pa.if2 (a := (yA.1 18 ys.toInt.toNat).toInt) (b := yk.toInt) (t := 128) (by rfl) (by rfl) (rfl) (rfl) (fun h9 => ?_) (fun h10 => ?_)
      · skip
        refine Pa.iinc (x := ys) (c := 1) (v := (ys + 1)) (l' := [(6, .int (ys + 1)), (0, .ref 12), (1, .int yp), (2, .int l), (3, .int yd), (4, .int yk), (5, .int yf), (7, .int ya), (8, .int yb), (9, .int yc)]) (by rfl) (by rfl) (by decide) (by rfl) (by rfl) ?_
        refine Pa.mp 1 (pc' := 35) (l' := [(6, .int (ys + 1)), (0, .ref 12), (1, .int yp), (2, .int l), (3, .int yd), (4, .int yk), (5, .int yf), (7, .int ya), (8, .int yb), (9, .int yc)]) (st' := []) (by rfl) ?_
        refine Pa.lv (l' := [(0, .ref 12), (1, .int yp), (2, .int l), (3, .int yd), (4, .int yk), (5, .int yf), (6, .int (ys + 1)), (7, .int ya), (8, .int yb), (9, .int yc)]) (lvS_c rfl (lvS_c rfl (lvS_c rfl (lvS_c rfl (lvS_c rfl (lvS_c rfl (lvS_c rfl (lvS_c rfl (lvS_c rfl (lvS_c rfl (lvS_nil))))))))))) rfl ?_
        exact l3 h2 h3 h4 h6 h9
      · skip
        refine Pa.mp 1 (pc' := 68) (l' := [(0, .ref 12), (1, .int yp), (2, .int l), (3, .int yd), (4, .int yk), (5, .int yf), (6, .int ys), (7, .int ya), (8, .int yb), (9, .int yc)]) (st' := [.ref 12]) (by rfl) ?_
        refine Pa.gfR (by rfl) (by rfl) (.inl rfl) (by rfl) ?_
        show Pa N 59 71 [(0, .ref 12), (1, .int yp), (2, .int l), (3, .int yd), (4, .int yk), (5, .int yf), (6, .int ys), (7, .int ya), (8, .int yb), (9, .int yc)] [.ref 16] (uF yA 19 yG) _
        refine Pa.mp 1 (pc' := 73) (l' := [(0, .ref 12), (1, .int yp), (2, .int l), (3, .int yd), (4, .int yk), (5, .int yf), (6, .int ys), (7, .int ya), (8, .int yb), (9, .int yc)]) (st' := [.int ys, .ref 16]) (by rfl) ?_
        refine Pa.alds (v := yA.1 16 ys.toInt.toNat) (by rfl) (by rfl) (by show (uF yA 19 yG).1 16 ys.toInt.toNat = yA.1 16 ys.toInt.toNat; rw [uF_c (by decide)]) (fun h11 h12 => ?_)
        refine Pa.mp 1 (pc' := 76) (l' := [(0, .ref 12), (1, .int yp), (2, .int l), (3, .int yd), (4, .int yk), (5, .int yf), (6, .int ys), (7, .int ya), (8, .int yb), (9, .int yc)]) (st' := [.int yf, .int (yA.1 16 ys.toInt.toNat)]) (by rfl) ?_
        refine Pa.mth (by rfl) (by rfl) (by rfl) mm_max ?_
        refine Pa.mp 2 (pc' := 82) (l' := [(7, .int (i_max (yA.1 16 ys.toInt.toNat) yf)), (0, .ref 12), (1, .int yp), (2, .int l), (3, .int yd), (4, .int yk), (5, .int yf), (6, .int ys), (8, .int yb), (9, .int yc)]) (st' := [.ref 12]) (by rfl) ?_
        refine Pa.gfR (by rfl) (by rfl) (.inl rfl) (by rfl) ?_
        show Pa N 59 85 [(7, .int (i_max (yA.1 16 ys.toInt.toNat) yf)), (0, .ref 12), (1, .int yp), (2, .int l), (3, .int yd), (4, .int yk), (5, .int yf), (6, .int ys), (8, .int yb), (9, .int yc)] [.ref 17] (uF yA 19 yG) _
        refine Pa.mp 1 (pc' := 87) (l' := [(7, .int (i_max (yA.1 16 ys.toInt.toNat) yf)), (0, .ref 12), (1, .int yp), (2, .int l), (3, .int yd), (4, .int yk), (5, .int yf), (6, .int ys), (8, .int yb), (9, .int yc)]) (st' := [.int ys, .ref 17]) (by rfl) ?_
        refine Pa.alds (v := yA.1 17 ys.toInt.toNat) (by rfl) (by rfl) (by show (uF yA 19 yG).1 17 ys.toInt.toNat = yA.1 17 ys.toInt.toNat; rw [uF_c (by decide)]) (fun h13 h14 => ?_)
        refine Pa.mp 1 (pc' := 89) (l' := [(7, .int (i_max (yA.1 16 ys.toInt.toNat) yf)), (0, .ref 12), (1, .int yp), (2, .int l), (3, .int yd), (4, .int yk), (5, .int yf), (6, .int ys), (8, .int yb), (9, .int yc)]) (st' := [.int yd, .int (yA.1 17 ys.toInt.toNat)]) (by rfl) ?_
        refine Pa.mth (by rfl) (by rfl) (by rfl) mm_min ?_
        refine Pa.mp 3 (pc' := 98) (l' := [(9, .int (i_max (yA.1 16 ys.toInt.toNat) yf)), (8, .int (i_min (yA.1 17 ys.toInt.toNat) yd)), (7, .int (i_max (yA.1 16 ys.toInt.toNat) yf)), (0, .ref 12), (1, .int yp), (2, .int l), (3, .int yd), (4, .int yk), (5, .int yf), (6, .int ys)]) (st' := []) (by rfl) ?_
        refine Pa.lv (l' := [(0, .ref 12), (1, .int yp), (2, .int l), (3, .int yd), (4, .int yk), (5, .int yf), (6, .int ys), (7, .int (i_max (yA.1 16 ys.toInt.toNat) yf)), (8, .int (i_min (yA.1 17 ys.toInt.toNat) yd)), (9, .int (i_max (yA.1 16 ys.toInt.toNat) yf))]) (lvS_c rfl (lvS_c rfl (lvS_c rfl (lvS_c rfl (lvS_c rfl (lvS_c rfl (lvS_c rfl (lvS_c rfl (lvS_c rfl (lvS_c rfl (lvS_nil))))))))))) rfl ?_
        exact l4 h2 h3 h4 h6 h10
theorem bx_liv2 {N : Nat} {yA : AW} {yQ : Option Value → AW → Prop} (yp l yd yk yf ys ya yb yc : Int32) (yG : Nat → Int32)
    (l1 : yb.toInt < yc.toInt → Pa N 59 35 [(0, .ref 12), (1, .int yp), (2, .int l), (3, .int yd), (4, .int yk), (5, .int yf), (6, .int (ys + 1)), (7, .int ya), (8, .int yb), (9, .int yc)] [] (uF yA 19 yG) yQ)
    (l2 : yc.toInt ≤ yb.toInt → 0 ≤ ys.toInt → ys.toInt < 200 → 0 ≤ (yc - yf).toInt → (yc - yf).toInt < 360 → Pa N 59 98 [(0, .ref 12), (1, .int yp), (2, .int l), (3, .int yd), (4, .int yk), (5, .int yf), (6, .int ys), (7, .int ya), (8, .int yb), (9, .int (yc + 1))] [] (uI (uF yA 19 yG) 19 ((yc - yf).toInt.toNat) (yA.1 15 ys.toInt.toNat)) yQ) :
    Pa (N + 1) 59 98 [(0, .ref 12), (1, .int yp), (2, .int l), (3, .int yd), (4, .int yk), (5, .int yf), (6, .int ys), (7, .int ya), (8, .int yb), (9, .int yc)] [] (uF yA 19 yG) yQ := by
  refine Pa.mp1 1 (pc' := 102) (l' := [(0, .ref 12), (1, .int yp), (2, .int l), (3, .int yd), (4, .int yk), (5, .int yf), (6, .int ys), (7, .int ya), (8, .int yb), (9, .int yc)]) (st' := [.int yb, .int yc]) (by rfl) ?_
  refine Pa.if2 (a := yc.toInt) (b := yb.toInt) (t := 128) (by rfl) (by rfl) (rfl) (rfl) (fun h1 => ?_) (fun h2 => ?_)
  · skip
    refine Pa.iinc (x := ys) (c := 1) (v := (ys + 1)) (l' := [(6, .int (ys + 1)), (0, .ref 12), (1, .int yp), (2, .int l), (3, .int yd), (4, .int yk), (5, .int yf), (7, .int ya), (8, .int yb), (9, .int yc)]) (by rfl) (by rfl) (by decide) (by rfl) (by rfl) ?_
    refine Pa.mp 1 (pc' := 35) (l' := [(6, .int (ys + 1)), (0, .ref 12), (1, .int yp), (2, .int l), (3, .int yd), (4, .int yk), (5, .int yf), (7, .int ya), (8, .int yb), (9, .int yc)]) (st' := []) (by rfl) ?_
    refine Pa.lv (l' := [(0, .ref 12), (1, .int yp), (2, .int l), (3, .int yd), (4, .int yk), (5, .int yf), (6, .int (ys + 1)), (7, .int ya), (8, .int yb), (9, .int yc)]) (lvS_c rfl (lvS_c rfl (lvS_c rfl (lvS_c rfl (lvS_c rfl (lvS_c rfl (lvS_c rfl (lvS_c rfl (lvS_c rfl (lvS_c rfl (lvS_nil))))))))))) rfl ?_
    exact l1 h1
  · skip
    refine Pa.mp 1 (pc' := 106) (l' := [(0, .ref 12), (1, .int yp), (2, .int l), (3, .int yd), (4, .int yk), (5, .int yf), (6, .int ys), (7, .int ya), (8, .int yb), (9, .int yc)]) (st' := [.ref 12]) (by rfl) ?_
    refine Pa.gfR (by rfl) (by rfl) (.inl rfl) (by rfl) ?_
    show Pa N 59 109 [(0, .ref 12), (1, .int yp), (2, .int l), (3, .int yd), (4, .int yk), (5, .int yf), (6, .int ys), (7, .int ya), (8, .int yb), (9, .int yc)] [.ref 19] (uF yA 19 yG) _
    refine Pa.mp 4 (pc' := 115) (l' := [(0, .ref 12), (1, .int yp), (2, .int l), (3, .int yd), (4, .int yk), (5, .int yf), (6, .int ys), (7, .int ya), (8, .int yb), (9, .int yc)]) (st' := [.ref 12, .int (yc - yf), .ref 19]) (by rfl) ?_
    refine Pa.gfR (by rfl) (by rfl) (.inl rfl) (by rfl) ?_
    show Pa N 59 118 [(0, .ref 12), (1, .int yp), (2, .int l), (3, .int yd), (4, .int yk), (5, .int yf), (6, .int ys), (7, .int ya), (8, .int yb), (9, .int yc)] [.ref 15, .int (yc - yf), .ref 19] (uF yA 19 yG) _
    refine Pa.mp 1 (pc' := 120) (l' := [(0, .ref 12), (1, .int yp), (2, .int l), (3, .int yd), (4, .int yk), (5, .int yf), (6, .int ys), (7, .int ya), (8, .int yb), (9, .int yc)]) (st' := [.int ys, .ref 15, .int (yc - yf), .ref 19]) (by rfl) ?_
    refine Pa.alds (v := yA.1 15 ys.toInt.toNat) (by rfl) (by rfl) (by show (uF yA 19 yG).1 15 ys.toInt.toNat = yA.1 15 ys.toInt.toNat; rw [uF_c (by decide)]) (fun h3 h4 => ?_)
    refine Pa.asts (j' := ((yc - yf).toInt.toNat)) (by rfl) (by rfl) (by rfl) (fun h5 h6 => ?_)
    show Pa N 59 122 [(0, .ref 12), (1, .int yp), (2, .int l), (3, .int yd), (4, .int yk), (5, .int yf), (6, .int ys), (7, .int ya), (8, .int yb), (9, .int yc)] [] (uI (uF yA 19 yG) 19 ((yc - yf).toInt.toNat) (yA.1 15 ys.toInt.toNat)) _
    refine Pa.iinc (x := yc) (c := 1) (v := (yc + 1)) (l' := [(9, .int (yc + 1)), (0, .ref 12), (1, .int yp), (2, .int l), (3, .int yd), (4, .int yk), (5, .int yf), (6, .int ys), (7, .int ya), (8, .int yb)]) (by rfl) (by rfl) (by decide) (by rfl) (by rfl) ?_
    refine Pa.mp 1 (pc' := 98) (l' := [(9, .int (yc + 1)), (0, .ref 12), (1, .int yp), (2, .int l), (3, .int yd), (4, .int yk), (5, .int yf), (6, .int ys), (7, .int ya), (8, .int yb)]) (st' := []) (by rfl) ?_
    refine Pa.lv (l' := [(0, .ref 12), (1, .int yp), (2, .int l), (3, .int yd), (4, .int yk), (5, .int yf), (6, .int ys), (7, .int ya), (8, .int yb), (9, .int (yc + 1))]) (lvS_c rfl (lvS_c rfl (lvS_c rfl (lvS_c rfl (lvS_c rfl (lvS_c rfl (lvS_c rfl (lvS_c rfl (lvS_c rfl (lvS_c rfl (lvS_nil))))))))))) rfl ?_
    exact l2 h2 h3 h4 h5 h6
theorem bx_liv3 {N : Nat} {yA : AW} {yQ : Option Value → AW → Prop} (yp l yd yk yf ys ya yb yc : Int32) (yG : Nat → Int32)
    (l1 : 360 ≤ ya.toInt → ys.toInt < 183 → yQ (some (.int 0)) (uF yA 19 yG))
    (l2 : 360 ≤ ya.toInt → 183 ≤ ys.toInt → yQ (some (.int 1)) (uF yA 19 yG))
    (l3 : ya.toInt < 360 → 0 ≤ ya.toInt → (yG ya.toInt.toNat).toInt ≠ l.toInt → Pa N 59 140 [(0, .ref 12), (1, .int yp), (2, .int l), (3, .int yd), (4, .int yk), (5, .int yf), (6, .int ys), (7, .int (ya + 1)), (8, .int yb), (9, .int yc)] [] (uF yA 19 yG) yQ)
    (l4 : ya.toInt < 360 → 0 ≤ ya.toInt → (yG ya.toInt.toNat).toInt = l.toInt → Pa N 59 140 [(0, .ref 12), (1, .int yp), (2, .int l), (3, .int yd), (4, .int yk), (5, .int yf), (6, .int (ys + 1)), (7, .int (ya + 1)), (8, .int yb), (9, .int yc)] [] (uF yA 19 yG) yQ) :
    Pa (N + 1) 59 140 [(0, .ref 12), (1, .int yp), (2, .int l), (3, .int yd), (4, .int yk), (5, .int yf), (6, .int ys), (7, .int ya), (8, .int yb), (9, .int yc)] [] (uF yA 19 yG) yQ := by
  refine Pa.mp1 0 (pc' := 142) (l' := [(0, .ref 12), (1, .int yp), (2, .int l), (3, .int yd), (4, .int yk), (5, .int yf), (6, .int ys), (7, .int ya), (8, .int yb), (9, .int yc)]) (st' := [.int ya]) (by rfl) ?_
  refine Pa.ic (x := 360) (pc' := 145) (by rfl) (by rfl) (by decide) ?_
  refine Pa.if2 (a := ya.toInt) (b := 360) (t := 168) (by rfl) (by rfl) (rfl) (by decide) (fun h1 => ?_) (fun h2 => ?_)
  · skip
    refine Pa.mp 1 (pc' := 170) (l' := [(0, .ref 12), (1, .int yp), (2, .int l), (3, .int yd), (4, .int yk), (5, .int yf), (6, .int ys), (7, .int ya), (8, .int yb), (9, .int yc)]) (st' := [.int ys]) (by rfl) ?_
    refine Pa.ic (x := 183) (pc' := 173) (by rfl) (by rfl) (by decide) ?_
    refine Pa.if2 (a := ys.toInt) (b := 183) (t := 180) (by rfl) (by rfl) (rfl) (by decide) (fun h3 => ?_) (fun h4 => ?_)
    · skip
      refine Pa.ic (x := 0) (pc' := 181) (by rfl) (by rfl) (by decide) ?_
      refine Pa.iret (by rfl) ?_
      exact l1 h1 h3
    · skip
      refine Pa.ic (x := 1) (pc' := 177) (by rfl) (by rfl) (by decide) ?_
      refine Pa.mp 1 (pc' := 181) (l' := [(0, .ref 12), (1, .int yp), (2, .int l), (3, .int yd), (4, .int yk), (5, .int yf), (6, .int ys), (7, .int ya), (8, .int yb), (9, .int yc)]) (st' := [.int 1]) (by rfl) ?_
      refine Pa.iret (by rfl) ?_
      exact l2 h1 h4
  · skip
    refine Pa.mp 1 (pc' := 149) (l' := [(0, .ref 12), (1, .int yp), (2, .int l), (3, .int yd), (4, .int yk), (5, .int yf), (6, .int ys), (7, .int ya), (8, .int yb), (9, .int yc)]) (st' := [.ref 12]) (by rfl) ?_
    refine Pa.gfR (by rfl) (by rfl) (.inl rfl) (by rfl) ?_
    show Pa N 59 152 [(0, .ref 12), (1, .int yp), (2, .int l), (3, .int yd), (4, .int yk), (5, .int yf), (6, .int ys), (7, .int ya), (8, .int yb), (9, .int yc)] [.ref 19] (uF yA 19 yG) _
    refine Pa.mp 1 (pc' := 154) (l' := [(0, .ref 12), (1, .int yp), (2, .int l), (3, .int yd), (4, .int yk), (5, .int yf), (6, .int ys), (7, .int ya), (8, .int yb), (9, .int yc)]) (st' := [.int ya, .ref 19]) (by rfl) ?_
    refine Pa.alds (v := yG ya.toInt.toNat) (by rfl) (by rfl) (by show (uF yA 19 yG).1 19 ya.toInt.toNat = yG ya.toInt.toNat; rw [uF_h]) (fun h5 h6 => ?_)
    refine Pa.mp 1 (pc' := 156) (l' := [(0, .ref 12), (1, .int yp), (2, .int l), (3, .int yd), (4, .int yk), (5, .int yf), (6, .int ys), (7, .int ya), (8, .int yb), (9, .int yc)]) (st' := [.int l, .int (yG ya.toInt.toNat)]) (by rfl) ?_
    refine Pa.if2 (a := (yG ya.toInt.toNat).toInt) (b := l.toInt) (t := 162) (by rfl) (by rfl) (rfl) (rfl) (fun h7 => ?_) (fun h8 => ?_)
    · skip
      refine Pa.iinc (x := ya) (c := 1) (v := (ya + 1)) (l' := [(7, .int (ya + 1)), (0, .ref 12), (1, .int yp), (2, .int l), (3, .int yd), (4, .int yk), (5, .int yf), (6, .int ys), (8, .int yb), (9, .int yc)]) (by rfl) (by rfl) (by decide) (by rfl) (by rfl) ?_
      refine Pa.mp 1 (pc' := 140) (l' := [(7, .int (ya + 1)), (0, .ref 12), (1, .int yp), (2, .int l), (3, .int yd), (4, .int yk), (5, .int yf), (6, .int ys), (8, .int yb), (9, .int yc)]) (st' := []) (by rfl) ?_
      refine Pa.lv (l' := [(0, .ref 12), (1, .int yp), (2, .int l), (3, .int yd), (4, .int yk), (5, .int yf), (6, .int ys), (7, .int (ya + 1)), (8, .int yb), (9, .int yc)]) (lvS_c rfl (lvS_c rfl (lvS_c rfl (lvS_c rfl (lvS_c rfl (lvS_c rfl (lvS_c rfl (lvS_c rfl (lvS_c rfl (lvS_c rfl (lvS_nil))))))))))) rfl ?_
      exact l3 h2 h5 h7
    · skip
      refine Pa.iinc (x := ys) (c := 1) (v := (ys + 1)) (l' := [(6, .int (ys + 1)), (0, .ref 12), (1, .int yp), (2, .int l), (3, .int yd), (4, .int yk), (5, .int yf), (7, .int ya), (8, .int yb), (9, .int yc)]) (by rfl) (by rfl) (by decide) (by rfl) (by rfl) ?_
      refine Pa.iinc (x := ya) (c := 1) (v := (ya + 1)) (l' := [(7, .int (ya + 1)), (6, .int (ys + 1)), (0, .ref 12), (1, .int yp), (2, .int l), (3, .int yd), (4, .int yk), (5, .int yf), (8, .int yb), (9, .int yc)]) (by rfl) (by rfl) (by decide) (by rfl) (by rfl) ?_
      refine Pa.mp 1 (pc' := 140) (l' := [(7, .int (ya + 1)), (6, .int (ys + 1)), (0, .ref 12), (1, .int yp), (2, .int l), (3, .int yd), (4, .int yk), (5, .int yf), (8, .int yb), (9, .int yc)]) (st' := []) (by rfl) ?_
      refine Pa.lv (l' := [(0, .ref 12), (1, .int yp), (2, .int l), (3, .int yd), (4, .int yk), (5, .int yf), (6, .int (ys + 1)), (7, .int (ya + 1)), (8, .int yb), (9, .int yc)]) (lvS_c rfl (lvS_c rfl (lvS_c rfl (lvS_c rfl (lvS_c rfl (lvS_c rfl (lvS_c rfl (lvS_c rfl (lvS_c rfl (lvS_c rfl (lvS_nil))))))))))) rfl ?_
      exact l4 h2 h5 h8
theorem bm_liv0 {N : Nat} {yA : AW} {yQ : Option Value → AW → Prop} (yp l yd yk : Int32)
    (l1 : Pa N 171 12 [(0, .ref 69), (1, .int yp), (2, .int l), (3, .int yd), (4, .int yk), (5, .int ((yd - 360) + 1)), (6, .int 0)] [] yA yQ) :
    Pa N 171 0 [(0, .ref 69), (1, .int yp), (2, .int l), (3, .int yd), (4, .int yk)] [] yA yQ := by
  refine Pa.mp 1 (pc' := 1) (l' := [(0, .ref 69), (1, .int yp), (2, .int l), (3, .int yd), (4, .int yk)]) (st' := [.int yd]) (by rfl) ?_
  refine Pa.ic (x := 360) (pc' := 4) (by rfl) (by rfl) (by decide) ?_
  refine Pa.mp 1 (pc' := 5) (l' := [(0, .ref 69), (1, .int yp), (2, .int l), (3, .int yd), (4, .int yk)]) (st' := [.int (yd - 360)]) (by rfl) ?_
  refine Pa.ic (x := 1) (pc' := 6) (by rfl) (by rfl) (by decide) ?_
  refine Pa.mp 2 (pc' := 9) (l' := [(5, .int ((yd - 360) + 1)), (0, .ref 69), (1, .int yp), (2, .int l), (3, .int yd), (4, .int yk)]) (st' := []) (by rfl) ?_
  refine Pa.ic (x := 0) (pc' := 10) (by rfl) (by rfl) (by decide) ?_
  refine Pa.mp 1 (pc' := 12) (l' := [(6, .int 0), (5, .int ((yd - 360) + 1)), (0, .ref 69), (1, .int yp), (2, .int l), (3, .int yd), (4, .int yk)]) (st' := []) (by rfl) ?_
  refine Pa.lv (l' := [(0, .ref 69), (1, .int yp), (2, .int l), (3, .int yd), (4, .int yk), (5, .int ((yd - 360) + 1)), (6, .int 0)]) (lvS_c rfl (lvS_c rfl (lvS_c rfl (lvS_c rfl (lvS_c rfl (lvS_c rfl (lvS_c rfl (lvS_nil)))))))) rfl ?_
  exact l1
theorem bm_liv1 {N : Nat} {yA : AW} {yQ : Option Value → AW → Prop} (yp l yd yk yf ys : Int32) (yG : Nat → Int32)
    (l1 : 360 ≤ ys.toInt → Pa N 171 42 [(0, .ref 69), (1, .int yp), (2, .int l), (3, .int yd), (4, .int yk), (5, .int yf), (6, .int 0), (7, .int 0), (8, .int 0), (9, .int 0)] [] (uF yA 115 yG) yQ)
    (l2 : ys.toInt < 360 → 0 ≤ yp.toInt → yp.toInt < 60 → 0 ≤ ys.toInt → Pa N 171 12 [(0, .ref 69), (1, .int yp), (2, .int l), (3, .int yd), (4, .int yk), (5, .int yf), (6, .int (ys + 1))] [] (uI (uF yA 115 yG) 115 ys.toInt.toNat (yA.1 78 yp.toInt.toNat)) yQ) :
    Pa (N + 1) 171 12 [(0, .ref 69), (1, .int yp), (2, .int l), (3, .int yd), (4, .int yk), (5, .int yf), (6, .int ys)] [] (uF yA 115 yG) yQ := by
  refine Pa.mp1 0 (pc' := 14) (l' := [(0, .ref 69), (1, .int yp), (2, .int l), (3, .int yd), (4, .int yk), (5, .int yf), (6, .int ys)]) (st' := [.int ys]) (by rfl) ?_
  refine Pa.ic (x := 360) (pc' := 17) (by rfl) (by rfl) (by decide) ?_
  refine Pa.if2 (a := ys.toInt) (b := 360) (t := 39) (by rfl) (by rfl) (rfl) (by decide) (fun h1 => ?_) (fun h2 => ?_)
  · skip
    refine Pa.ic (x := 0) (pc' := 40) (by rfl) (by rfl) (by decide) ?_
    refine Pa.mp 1 (pc' := 42) (l' := [(6, .int 0), (0, .ref 69), (1, .int yp), (2, .int l), (3, .int yd), (4, .int yk), (5, .int yf)]) (st' := []) (by rfl) ?_
    refine Pa.lv (l' := [(0, .ref 69), (1, .int yp), (2, .int l), (3, .int yd), (4, .int yk), (5, .int yf), (6, .int 0), (7, .int 0), (8, .int 0), (9, .int 0)]) (lvS_c rfl (lvS_c rfl (lvS_c rfl (lvS_c rfl (lvS_c rfl (lvS_c rfl (lvS_c rfl (lvS_nil)))))))) rfl ?_
    exact l1 h1
  · skip
    refine Pa.mp 1 (pc' := 21) (l' := [(0, .ref 69), (1, .int yp), (2, .int l), (3, .int yd), (4, .int yk), (5, .int yf), (6, .int ys)]) (st' := [.ref 69]) (by rfl) ?_
    refine Pa.gfR (by rfl) (by rfl) (.inl rfl) (by rfl) ?_
    show Pa N 171 24 [(0, .ref 69), (1, .int yp), (2, .int l), (3, .int yd), (4, .int yk), (5, .int yf), (6, .int ys)] [.ref 115] (uF yA 115 yG) _
    refine Pa.mp 2 (pc' := 27) (l' := [(0, .ref 69), (1, .int yp), (2, .int l), (3, .int yd), (4, .int yk), (5, .int yf), (6, .int ys)]) (st' := [.ref 69, .int ys, .ref 115]) (by rfl) ?_
    refine Pa.gfR (by rfl) (by rfl) (.inl rfl) (by rfl) ?_
    show Pa N 171 30 [(0, .ref 69), (1, .int yp), (2, .int l), (3, .int yd), (4, .int yk), (5, .int yf), (6, .int ys)] [.ref 78, .int ys, .ref 115] (uF yA 115 yG) _
    refine Pa.mp 1 (pc' := 31) (l' := [(0, .ref 69), (1, .int yp), (2, .int l), (3, .int yd), (4, .int yk), (5, .int yf), (6, .int ys)]) (st' := [.int yp, .ref 78, .int ys, .ref 115]) (by rfl) ?_
    refine Pa.alds (v := yA.1 78 yp.toInt.toNat) (by rfl) (by rfl) (by show (uF yA 115 yG).1 78 yp.toInt.toNat = yA.1 78 yp.toInt.toNat; rw [uF_c (by decide)]) (fun h3 h4 => ?_)
    refine Pa.asts (j' := ys.toInt.toNat) (by rfl) (by rfl) (by rfl) (fun h5 h6 => ?_)
    show Pa N 171 33 [(0, .ref 69), (1, .int yp), (2, .int l), (3, .int yd), (4, .int yk), (5, .int yf), (6, .int ys)] [] (uI (uF yA 115 yG) 115 ys.toInt.toNat (yA.1 78 yp.toInt.toNat)) _
    refine Pa.iinc (x := ys) (c := 1) (v := (ys + 1)) (l' := [(6, .int (ys + 1)), (0, .ref 69), (1, .int yp), (2, .int l), (3, .int yd), (4, .int yk), (5, .int yf)]) (by rfl) (by rfl) (by decide) (by rfl) (by rfl) ?_
    refine Pa.mp 1 (pc' := 12) (l' := [(6, .int (ys + 1)), (0, .ref 69), (1, .int yp), (2, .int l), (3, .int yd), (4, .int yk), (5, .int yf)]) (st' := []) (by rfl) ?_
    refine Pa.lv (l' := [(0, .ref 69), (1, .int yp), (2, .int l), (3, .int yd), (4, .int yk), (5, .int yf), (6, .int (ys + 1))]) (lvS_c rfl (lvS_c rfl (lvS_c rfl (lvS_c rfl (lvS_c rfl (lvS_c rfl (lvS_c rfl (lvS_nil)))))))) rfl ?_
    exact l2 h2 h3 h4 h5
theorem bm_liv2 {N : Nat} {yA : AW} {yQ : Option Value → AW → Prop} (yp l yd yk yf ys ya yb yc : Int32) (yG : Nat → Int32)
    (l1 : (yA.1 69 19).toInt ≤ ys.toInt → Pa N 171 170 [(0, .ref 69), (1, .int yp), (2, .int l), (3, .int yd), (4, .int yk), (5, .int yf), (6, .int 0), (7, .int 0), (8, .int yb), (9, .int yc)] [] (uF yA 115 yG) yQ)
    (l2 : ys.toInt < (yA.1 69 19).toInt → 0 ≤ ys.toInt → ys.toInt < 200 → (yA.1 79 ys.toInt.toNat).toInt ≠ yp.toInt → Pa N 171 42 [(0, .ref 69), (1, .int yp), (2, .int l), (3, .int yd), (4, .int yk), (5, .int yf), (6, .int (ys + 1)), (7, .int ya), (8, .int yb), (9, .int yc)] [] (uF yA 115 yG) yQ)
    (l3 : ys.toInt < (yA.1 69 19).toInt → 0 ≤ ys.toInt → ys.toInt < 200 → (yA.1 79 ys.toInt.toNat).toInt = yp.toInt → yk.toInt < (yA.1 83 ys.toInt.toNat).toInt → Pa N 171 42 [(0, .ref 69), (1, .int yp), (2, .int l), (3, .int yd), (4, .int yk), (5, .int yf), (6, .int (ys + 1)), (7, .int ya), (8, .int yb), (9, .int yc)] [] (uF yA 115 yG) yQ)
    (l4 : ys.toInt < (yA.1 69 19).toInt → 0 ≤ ys.toInt → ys.toInt < 200 → (yA.1 79 ys.toInt.toNat).toInt = yp.toInt → (yA.1 83 ys.toInt.toNat).toInt ≤ yk.toInt → (yA.1 81 ys.toInt.toNat).toInt ≤ yf.toInt → yd.toInt ≤ (yA.1 82 ys.toInt.toNat).toInt → Pa N 171 128 [(0, .ref 69), (1, .int yp), (2, .int l), (3, .int yd), (4, .int yk), (5, .int yf), (6, .int ys), (7, .int yf), (8, .int yd), (9, .int yf)] [] (uF yA 115 yG) yQ)
    (l5 : ys.toInt < (yA.1 69 19).toInt → 0 ≤ ys.toInt → ys.toInt < 200 → (yA.1 79 ys.toInt.toNat).toInt = yp.toInt → (yA.1 83 ys.toInt.toNat).toInt ≤ yk.toInt → (yA.1 81 ys.toInt.toNat).toInt ≤ yf.toInt → (yA.1 82 ys.toInt.toNat).toInt < yd.toInt → Pa N 171 128 [(0, .ref 69), (1, .int yp), (2, .int l), (3, .int yd), (4, .int yk), (5, .int yf), (6, .int ys), (7, .int yf), (8, .int (yA.1 82 ys.toInt.toNat)), (9, .int yf)] [] (uF yA 115 yG) yQ)
    (l6 : ys.toInt < (yA.1 69 19).toInt → 0 ≤ ys.toInt → ys.toInt < 200 → (yA.1 79 ys.toInt.toNat).toInt = yp.toInt → (yA.1 83 ys.toInt.toNat).toInt ≤ yk.toInt → yf.toInt < (yA.1 81 ys.toInt.toNat).toInt → yd.toInt ≤ (yA.1 82 ys.toInt.toNat).toInt → Pa N 171 128 [(0, .ref 69), (1, .int yp), (2, .int l), (3, .int yd), (4, .int yk), (5, .int yf), (6, .int ys), (7, .int (yA.1 81 ys.toInt.toNat)), (8, .int yd), (9, .int (yA.1 81 ys.toInt.toNat))] [] (uF yA 115 yG) yQ)
    (l7 : ys.toInt < (yA.1 69 19).toInt → 0 ≤ ys.toInt → ys.toInt < 200 → (yA.1 79 ys.toInt.toNat).toInt = yp.toInt → (yA.1 83 ys.toInt.toNat).toInt ≤ yk.toInt → yf.toInt < (yA.1 81 ys.toInt.toNat).toInt → (yA.1 82 ys.toInt.toNat).toInt < yd.toInt → Pa N 171 128 [(0, .ref 69), (1, .int yp), (2, .int l), (3, .int yd), (4, .int yk), (5, .int yf), (6, .int ys), (7, .int (yA.1 81 ys.toInt.toNat)), (8, .int (yA.1 82 ys.toInt.toNat)), (9, .int (yA.1 81 ys.toInt.toNat))] [] (uF yA 115 yG) yQ) :
    Pa (N + 1) 171 42 [(0, .ref 69), (1, .int yp), (2, .int l), (3, .int yd), (4, .int yk), (5, .int yf), (6, .int ys), (7, .int ya), (8, .int yb), (9, .int yc)] [] (uF yA 115 yG) yQ := by
  refine Pa.mp1 1 (pc' := 45) (l' := [(0, .ref 69), (1, .int yp), (2, .int l), (3, .int yd), (4, .int yk), (5, .int yf), (6, .int ys), (7, .int ya), (8, .int yb), (9, .int yc)]) (st' := [.ref 69, .int ys]) (by rfl) ?_
  refine Pa.gfI (v := yA.1 69 19) (by rfl) (by rfl) (.inl rfl) (by rfl) (by show (uF yA 115 yG).1 69 19 = yA.1 69 19; rw [uF_c (by decide)]) ?_
  refine Pa.if2 (a := ys.toInt) (b := (yA.1 69 19).toInt) (t := 164) (by rfl) (by rfl) (rfl) (rfl) (fun h1 => ?_) (fun h2 => ?_)
  · skip
    refine Pa.ic (x := 0) (pc' := 165) (by rfl) (by rfl) (by decide) ?_
    refine Pa.mp 1 (pc' := 167) (l' := [(6, .int 0), (0, .ref 69), (1, .int yp), (2, .int l), (3, .int yd), (4, .int yk), (5, .int yf), (7, .int ya), (8, .int yb), (9, .int yc)]) (st' := []) (by rfl) ?_
    refine Pa.ic (x := 0) (pc' := 168) (by rfl) (by rfl) (by decide) ?_
    refine Pa.mp 1 (pc' := 170) (l' := [(7, .int 0), (6, .int 0), (0, .ref 69), (1, .int yp), (2, .int l), (3, .int yd), (4, .int yk), (5, .int yf), (8, .int yb), (9, .int yc)]) (st' := []) (by rfl) ?_
    refine Pa.lv (l' := [(0, .ref 69), (1, .int yp), (2, .int l), (3, .int yd), (4, .int yk), (5, .int yf), (6, .int 0), (7, .int 0), (8, .int yb), (9, .int yc)]) (lvS_c rfl (lvS_c rfl (lvS_c rfl (lvS_c rfl (lvS_c rfl (lvS_c rfl (lvS_c rfl (lvS_c rfl (lvS_c rfl (lvS_c rfl (lvS_nil))))))))))) rfl ?_
    exact l1 h1
  · skip
    refine Pa.mp 1 (pc' := 52) (l' := [(0, .ref 69), (1, .int yp), (2, .int l), (3, .int yd), (4, .int yk), (5, .int yf), (6, .int ys), (7, .int ya), (8, .int yb), (9, .int yc)]) (st' := [.ref 69]) (by rfl) ?_
    refine Pa.gfR (by rfl) (by rfl) (.inl rfl) (by rfl) ?_
    show Pa N 171 55 [(0, .ref 69), (1, .int yp), (2, .int l), (3, .int yd), (4, .int yk), (5, .int yf), (6, .int ys), (7, .int ya), (8, .int yb), (9, .int yc)] [.ref 79] (uF yA 115 yG) _
    refine Pa.mp 1 (pc' := 57) (l' := [(0, .ref 69), (1, .int yp), (2, .int l), (3, .int yd), (4, .int yk), (5, .int yf), (6, .int ys), (7, .int ya), (8, .int yb), (9, .int yc)]) (st' := [.int ys, .ref 79]) (by rfl) ?_
    refine Pa.alds (v := yA.1 79 ys.toInt.toNat) (by rfl) (by rfl) (by show (uF yA 115 yG).1 79 ys.toInt.toNat = yA.1 79 ys.toInt.toNat; rw [uF_c (by decide)]) (fun h3 h4 => ?_)
    refine Pa.mp 1 (pc' := 59) (l' := [(0, .ref 69), (1, .int yp), (2, .int l), (3, .int yd), (4, .int yk), (5, .int yf), (6, .int ys), (7, .int ya), (8, .int yb), (9, .int yc)]) (st' := [.int yp, .int (yA.1 79 ys.toInt.toNat)]) (by rfl) ?_
    refine Pa.if2 (a := (yA.1 79 ys.toInt.toNat).toInt) (b := yp.toInt) (t := 158) (by rfl) (by rfl) (rfl) (rfl) (fun h5 => ?_) (fun h6 => ?_)
    · skip
      refine Pa.iinc (x := ys) (c := 1) (v := (ys + 1)) (l' := [(6, .int (ys + 1)), (0, .ref 69), (1, .int yp), (2, .int l), (3, .int yd), (4, .int yk), (5, .int yf), (7, .int ya), (8, .int yb), (9, .int yc)]) (by rfl) (by rfl) (by decide) (by rfl) (by rfl) ?_
      refine Pa.mp 1 (pc' := 42) (l' := [(6, .int (ys + 1)), (0, .ref 69), (1, .int yp), (2, .int l), (3, .int yd), (4, .int yk), (5, .int yf), (7, .int ya), (8, .int yb), (9, .int yc)]) (st' := []) (by rfl) ?_
      refine Pa.lv (l' := [(0, .ref 69), (1, .int yp), (2, .int l), (3, .int yd), (4, .int yk), (5, .int yf), (6, .int (ys + 1)), (7, .int ya), (8, .int yb), (9, .int yc)]) (lvS_c rfl (lvS_c rfl (lvS_c rfl (lvS_c rfl (lvS_c rfl (lvS_c rfl (lvS_c rfl (lvS_c rfl (lvS_c rfl (lvS_c rfl (lvS_nil))))))))))) rfl ?_
      exact l2 h2 h3 h4 h5
    · skip
      refine Pa.mp 1 (pc' := 63) (l' := [(0, .ref 69), (1, .int yp), (2, .int l), (3, .int yd), (4, .int yk), (5, .int yf), (6, .int ys), (7, .int ya), (8, .int yb), (9, .int yc)]) (st' := [.ref 69]) (by rfl) ?_
      refine Pa.gfR (by rfl) (by rfl) (.inl rfl) (by rfl) ?_
      show Pa N 171 66 [(0, .ref 69), (1, .int yp), (2, .int l), (3, .int yd), (4, .int yk), (5, .int yf), (6, .int ys), (7, .int ya), (8, .int yb), (9, .int yc)] [.ref 83] (uF yA 115 yG) _
      refine Pa.mp 1 (pc' := 68) (l' := [(0, .ref 69), (1, .int yp), (2, .int l), (3, .int yd), (4, .int yk), (5, .int yf), (6, .int ys), (7, .int ya), (8, .int yb), (9, .int yc)]) (st' := [.int ys, .ref 83]) (by rfl) ?_
      refine Pa.alds (v := yA.1 83 ys.toInt.toNat) (by rfl) (by rfl) (by show (uF yA 115 yG).1 83 ys.toInt.toNat = yA.1 83 ys.toInt.toNat; rw [uF_c (by decide)]) (fun h7 h8 => ?_)
      refine Pa.mp 1 (pc' := 71) (l' := [(0, .ref 69), (1, .int yp), (2, .int l), (3, .int yd), (4, .int yk), (5, .int yf), (6, .int ys), (7, .int ya), (8, .int yb), (9, .int yc)]) (st' := [.int yk, .int (yA.1 83 ys.toInt.toNat)]) (by rfl) ?_
      refine Pa.if2 (a := (yA.1 83 ys.toInt.toNat).toInt) (b := yk.toInt) (t := 158) (by rfl) (by rfl) (rfl) (rfl) (fun h9 => ?_) (fun h10 => ?_)
      · skip
        refine Pa.iinc (x := ys) (c := 1) (v := (ys + 1)) (l' := [(6, .int (ys + 1)), (0, .ref 69), (1, .int yp), (2, .int l), (3, .int yd), (4, .int yk), (5, .int yf), (7, .int ya), (8, .int yb), (9, .int yc)]) (by rfl) (by rfl) (by decide) (by rfl) (by rfl) ?_
        refine Pa.mp 1 (pc' := 42) (l' := [(6, .int (ys + 1)), (0, .ref 69), (1, .int yp), (2, .int l), (3, .int yd), (4, .int yk), (5, .int yf), (7, .int ya), (8, .int yb), (9, .int yc)]) (st' := []) (by rfl) ?_
        refine Pa.lv (l' := [(0, .ref 69), (1, .int yp), (2, .int l), (3, .int yd), (4, .int yk), (5, .int yf), (6, .int (ys + 1)), (7, .int ya), (8, .int yb), (9, .int yc)]) (lvS_c rfl (lvS_c rfl (lvS_c rfl (lvS_c rfl (lvS_c rfl (lvS_c rfl (lvS_c rfl (lvS_c rfl (lvS_c rfl (lvS_c rfl (lvS_nil))))))))))) rfl ?_
        exact l3 h2 h3 h4 h6 h9
      · skip
        refine Pa.mp 1 (pc' := 75) (l' := [(0, .ref 69), (1, .int yp), (2, .int l), (3, .int yd), (4, .int yk), (5, .int yf), (6, .int ys), (7, .int ya), (8, .int yb), (9, .int yc)]) (st' := [.ref 69]) (by rfl) ?_
        refine Pa.gfR (by rfl) (by rfl) (.inl rfl) (by rfl) ?_
        show Pa N 171 78 [(0, .ref 69), (1, .int yp), (2, .int l), (3, .int yd), (4, .int yk), (5, .int yf), (6, .int ys), (7, .int ya), (8, .int yb), (9, .int yc)] [.ref 81] (uF yA 115 yG) _
        refine Pa.mp 1 (pc' := 80) (l' := [(0, .ref 69), (1, .int yp), (2, .int l), (3, .int yd), (4, .int yk), (5, .int yf), (6, .int ys), (7, .int ya), (8, .int yb), (9, .int yc)]) (st' := [.int ys, .ref 81]) (by rfl) ?_
        refine Pa.alds (v := yA.1 81 ys.toInt.toNat) (by rfl) (by rfl) (by show (uF yA 115 yG).1 81 ys.toInt.toNat = yA.1 81 ys.toInt.toNat; rw [uF_c (by decide)]) (fun h11 h12 => ?_)
        refine Pa.mp 1 (pc' := 83) (l' := [(0, .ref 69), (1, .int yp), (2, .int l), (3, .int yd), (4, .int yk), (5, .int yf), (6, .int ys), (7, .int ya), (8, .int yb), (9, .int yc)]) (st' := [.int yf, .int (yA.1 81 ys.toInt.toNat)]) (by rfl) ?_
        refine Pa.if2 (a := (yA.1 81 ys.toInt.toNat).toInt) (b := yf.toInt) (t := 96) (by rfl) (by rfl) (rfl) (rfl) (fun h13 => ?_) (fun h14 => ?_)
        · skip
          refine Pa.mp 3 (pc' := 101) (l' := [(7, .int yf), (0, .ref 69), (1, .int yp), (2, .int l), (3, .int yd), (4, .int yk), (5, .int yf), (6, .int ys), (8, .int yb), (9, .int yc)]) (st' := [.ref 69]) (by rfl) ?_
          refine Pa.gfR (by rfl) (by rfl) (.inl rfl) (by rfl) ?_
          show Pa N 171 104 [(7, .int yf), (0, .ref 69), (1, .int yp), (2, .int l), (3, .int yd), (4, .int yk), (5, .int yf), (6, .int ys), (8, .int yb), (9, .int yc)] [.ref 82] (uF yA 115 yG) _
          refine Pa.mp 1 (pc' := 106) (l' := [(7, .int yf), (0, .ref 69), (1, .int yp), (2, .int l), (3, .int yd), (4, .int yk), (5, .int yf), (6, .int ys), (8, .int yb), (9, .int yc)]) (st' := [.int ys, .ref 82]) (by rfl) ?_
          refine Pa.alds (v := yA.1 82 ys.toInt.toNat) (by rfl) (by rfl) (by show (uF yA 115 yG).1 82 ys.toInt.toNat = yA.1 82 ys.toInt.toNat; rw [uF_c (by decide)]) (fun h15 yh16 => ?_)
          refine Pa.mp 1 (pc' := 108) (l' := [(7, .int yf), (0, .ref 69), (1, .int yp), (2, .int l), (3, .int yd), (4, .int yk), (5, .int yf), (6, .int ys), (8, .int yb), (9, .int yc)]) (st' := [.int yd, .int (yA.1 82 ys.toInt.toNat)]) (by rfl) ?_
          refine Pa.if2 (a := (yA.1 82 ys.toInt.toNat).toInt) (b := yd.toInt) (t := 121) (by rfl) (by rfl) (rfl) (rfl) (fun h17 => ?_) (fun h18 => ?_)
          · skip
            refine Pa.mp 4 (pc' := 128) (l' := [(9, .int yf), (8, .int yd), (7, .int yf), (0, .ref 69), (1, .int yp), (2, .int l), (3, .int yd), (4, .int yk), (5, .int yf), (6, .int ys)]) (st' := []) (by rfl) ?_
            refine Pa.lv (l' := [(0, .ref 69), (1, .int yp), (2, .int l), (3, .int yd), (4, .int yk), (5, .int yf), (6, .int ys), (7, .int yf), (8, .int yd), (9, .int yf)]) (lvS_c rfl (lvS_c rfl (lvS_c rfl (lvS_c rfl (lvS_c rfl (lvS_c rfl (lvS_c rfl (lvS_c rfl (lvS_c rfl (lvS_c rfl (lvS_nil))))))))))) rfl ?_
            exact l4 h2 h3 h4 h6 h10 h13 h17
          · skip
            refine Pa.mp 1 (pc' := 112) (l' := [(7, .int yf), (0, .ref 69), (1, .int yp), (2, .int l), (3, .int yd), (4, .int yk), (5, .int yf), (6, .int ys), (8, .int yb), (9, .int yc)]) (st' := [.ref 69]) (by rfl) ?_
            refine Pa.gfR (by rfl) (by rfl) (.inl rfl) (by rfl) ?_
            show Pa N 171 115 [(7, .int yf), (0, .ref 69), (1, .int yp), (2, .int l), (3, .int yd), (4, .int yk), (5, .int yf), (6, .int ys), (8, .int yb), (9, .int yc)] [.ref 82] (uF yA 115 yG) _
            refine Pa.mp 1 (pc' := 117) (l' := [(7, .int yf), (0, .ref 69), (1, .int yp), (2, .int l), (3, .int yd), (4, .int yk), (5, .int yf), (6, .int ys), (8, .int yb), (9, .int yc)]) (st' := [.int ys, .ref 82]) (by rfl) ?_
            refine Pa.alds (v := yA.1 82 ys.toInt.toNat) (by rfl) (by rfl) (by show (uF yA 115 yG).1 82 ys.toInt.toNat = yA.1 82 ys.toInt.toNat; rw [uF_c (by decide)]) (fun h19 h20 => ?_)
            refine Pa.mp 4 (pc' := 128) (l' := [(9, .int yf), (8, .int (yA.1 82 ys.toInt.toNat)), (7, .int yf), (0, .ref 69), (1, .int yp), (2, .int l), (3, .int yd), (4, .int yk), (5, .int yf), (6, .int ys)]) (st' := []) (by rfl) ?_
            refine Pa.lv (l' := [(0, .ref 69), (1, .int yp), (2, .int l), (3, .int yd), (4, .int yk), (5, .int yf), (6, .int ys), (7, .int yf), (8, .int (yA.1 82 ys.toInt.toNat)), (9, .int yf)]) (lvS_c rfl (lvS_c rfl (lvS_c rfl (lvS_c rfl (lvS_c rfl (lvS_c rfl (lvS_c rfl (lvS_c rfl (lvS_c rfl (lvS_c rfl (lvS_nil))))))))))) rfl ?_
            exact l5 h2 h3 h4 h6 h10 h13 h18
        · skip
          refine Pa.mp 1 (pc' := 87) (l' := [(0, .ref 69), (1, .int yp), (2, .int l), (3, .int yd), (4, .int yk), (5, .int yf), (6, .int ys), (7, .int ya), (8, .int yb), (9, .int yc)]) (st' := [.ref 69]) (by rfl) ?_
          refine Pa.gfR (by rfl) (by rfl) (.inl rfl) (by rfl) ?_
          show Pa N 171 90 [(0, .ref 69), (1, .int yp), (2, .int l), (3, .int yd), (4, .int yk), (5, .int yf), (6, .int ys), (7, .int ya), (8, .int yb), (9, .int yc)] [.ref 81] (uF yA 115 yG) _
          refine Pa.mp 1 (pc' := 92) (l' := [(0, .ref 69), (1, .int yp), (2, .int l), (3, .int yd), (4, .int yk), (5, .int yf), (6, .int ys), (7, .int ya), (8, .int yb), (9, .int yc)]) (st' := [.int ys, .ref 81]) (by rfl) ?_
          refine Pa.alds (v := yA.1 81 ys.toInt.toNat) (by rfl) (by rfl) (by show (uF yA 115 yG).1 81 ys.toInt.toNat = yA.1 81 ys.toInt.toNat; rw [uF_c (by decide)]) (fun h21 h22 => ?_)
          refine Pa.mp 3 (pc' := 101) (l' := [(7, .int (yA.1 81 ys.toInt.toNat)), (0, .ref 69), (1, .int yp), (2, .int l), (3, .int yd), (4, .int yk), (5, .int yf), (6, .int ys), (8, .int yb), (9, .int yc)]) (st' := [.ref 69]) (by rfl) ?_
          refine Pa.gfR (by rfl) (by rfl) (.inl rfl) (by rfl) ?_
          show Pa N 171 104 [(7, .int (yA.1 81 ys.toInt.toNat)), (0, .ref 69), (1, .int yp), (2, .int l), (3, .int yd), (4, .int yk), (5, .int yf), (6, .int ys), (8, .int yb), (9, .int yc)] [.ref 82] (uF yA 115 yG) _
          refine Pa.mp 1 (pc' := 106) (l' := [(7, .int (yA.1 81 ys.toInt.toNat)), (0, .ref 69), (1, .int yp), (2, .int l), (3, .int yd), (4, .int yk), (5, .int yf), (6, .int ys), (8, .int yb), (9, .int yc)]) (st' := [.int ys, .ref 82]) (by rfl) ?_
          refine Pa.alds (v := yA.1 82 ys.toInt.toNat) (by rfl) (by rfl) (by show (uF yA 115 yG).1 82 ys.toInt.toNat = yA.1 82 ys.toInt.toNat; rw [uF_c (by decide)]) (fun h23 h24 => ?_)
          refine Pa.mp 1 (pc' := 108) (l' := [(7, .int (yA.1 81 ys.toInt.toNat)), (0, .ref 69), (1, .int yp), (2, .int l), (3, .int yd), (4, .int yk), (5, .int yf), (6, .int ys), (8, .int yb), (9, .int yc)]) (st' := [.int yd, .int (yA.1 82 ys.toInt.toNat)]) (by rfl) ?_
          refine Pa.if2 (a := (yA.1 82 ys.toInt.toNat).toInt) (b := yd.toInt) (t := 121) (by rfl) (by rfl) (rfl) (rfl) (fun h25 => ?_) (fun h26 => ?_)
          · skip
            refine Pa.mp 4 (pc' := 128) (l' := [(9, .int (yA.1 81 ys.toInt.toNat)), (8, .int yd), (7, .int (yA.1 81 ys.toInt.toNat)), (0, .ref 69), (1, .int yp), (2, .int l), (3, .int yd), (4, .int yk), (5, .int yf), (6, .int ys)]) (st' := []) (by rfl) ?_
            refine Pa.lv (l' := [(0, .ref 69), (1, .int yp), (2, .int l), (3, .int yd), (4, .int yk), (5, .int yf), (6, .int ys), (7, .int (yA.1 81 ys.toInt.toNat)), (8, .int yd), (9, .int (yA.1 81 ys.toInt.toNat))]) (lvS_c rfl (lvS_c rfl (lvS_c rfl (lvS_c rfl (lvS_c rfl (lvS_c rfl (lvS_c rfl (lvS_c rfl (lvS_c rfl (lvS_c rfl (lvS_nil))))))))))) rfl ?_
            exact l6 h2 h3 h4 h6 h10 h14 h25
          · skip
            refine Pa.mp 1 (pc' := 112) (l' := [(7, .int (yA.1 81 ys.toInt.toNat)), (0, .ref 69), (1, .int yp), (2, .int l), (3, .int yd), (4, .int yk), (5, .int yf), (6, .int ys), (8, .int yb), (9, .int yc)]) (st' := [.ref 69]) (by rfl) ?_
            refine Pa.gfR (by rfl) (by rfl) (.inl rfl) (by rfl) ?_
            show Pa N 171 115 [(7, .int (yA.1 81 ys.toInt.toNat)), (0, .ref 69), (1, .int yp), (2, .int l), (3, .int yd), (4, .int yk), (5, .int yf), (6, .int ys), (8, .int yb), (9, .int yc)] [.ref 82] (uF yA 115 yG) _
            refine Pa.mp 1 (pc' := 117) (l' := [(7, .int (yA.1 81 ys.toInt.toNat)), (0, .ref 69), (1, .int yp), (2, .int l), (3, .int yd), (4, .int yk), (5, .int yf), (6, .int ys), (8, .int yb), (9, .int yc)]) (st' := [.int ys, .ref 82]) (by rfl) ?_
            refine Pa.alds (v := yA.1 82 ys.toInt.toNat) (by rfl) (by rfl) (by show (uF yA 115 yG).1 82 ys.toInt.toNat = yA.1 82 ys.toInt.toNat; rw [uF_c (by decide)]) (fun h27 h28 => ?_)
            refine Pa.mp 4 (pc' := 128) (l' := [(9, .int (yA.1 81 ys.toInt.toNat)), (8, .int (yA.1 82 ys.toInt.toNat)), (7, .int (yA.1 81 ys.toInt.toNat)), (0, .ref 69), (1, .int yp), (2, .int l), (3, .int yd), (4, .int yk), (5, .int yf), (6, .int ys)]) (st' := []) (by rfl) ?_
            refine Pa.lv (l' := [(0, .ref 69), (1, .int yp), (2, .int l), (3, .int yd), (4, .int yk), (5, .int yf), (6, .int ys), (7, .int (yA.1 81 ys.toInt.toNat)), (8, .int (yA.1 82 ys.toInt.toNat)), (9, .int (yA.1 81 ys.toInt.toNat))]) (lvS_c rfl (lvS_c rfl (lvS_c rfl (lvS_c rfl (lvS_c rfl (lvS_c rfl (lvS_c rfl (lvS_c rfl (lvS_c rfl (lvS_c rfl (lvS_nil))))))))))) rfl ?_
            exact l7 h2 h3 h4 h6 h10 h14 h26
theorem bm_liv3 {N : Nat} {yA : AW} {yQ : Option Value → AW → Prop} (yp l yd yk yf ys ya yb yc : Int32) (yG : Nat → Int32)
    (l1 : yb.toInt < yc.toInt → Pa N 171 42 [(0, .ref 69), (1, .int yp), (2, .int l), (3, .int yd), (4, .int yk), (5, .int yf), (6, .int (ys + 1)), (7, .int ya), (8, .int yb), (9, .int yc)] [] (uF yA 115 yG) yQ)
    (l2 : yc.toInt ≤ yb.toInt → 0 ≤ ys.toInt → ys.toInt < 200 → 0 ≤ (yc - yf).toInt → (yc - yf).toInt < 360 → Pa N 171 128 [(0, .ref 69), (1, .int yp), (2, .int l), (3, .int yd), (4, .int yk), (5, .int yf), (6, .int ys), (7, .int ya), (8, .int yb), (9, .int (yc + 1))] [] (uI (uF yA 115 yG) 115 ((yc - yf).toInt.toNat) (yA.1 80 ys.toInt.toNat)) yQ) :
    Pa (N + 1) 171 128 [(0, .ref 69), (1, .int yp), (2, .int l), (3, .int yd), (4, .int yk), (5, .int yf), (6, .int ys), (7, .int ya), (8, .int yb), (9, .int yc)] [] (uF yA 115 yG) yQ := by
  refine Pa.mp1 1 (pc' := 132) (l' := [(0, .ref 69), (1, .int yp), (2, .int l), (3, .int yd), (4, .int yk), (5, .int yf), (6, .int ys), (7, .int ya), (8, .int yb), (9, .int yc)]) (st' := [.int yb, .int yc]) (by rfl) ?_
  refine Pa.if2 (a := yc.toInt) (b := yb.toInt) (t := 158) (by rfl) (by rfl) (rfl) (rfl) (fun h1 => ?_) (fun h2 => ?_)
  · skip
    refine Pa.iinc (x := ys) (c := 1) (v := (ys + 1)) (l' := [(6, .int (ys + 1)), (0, .ref 69), (1, .int yp), (2, .int l), (3, .int yd), (4, .int yk), (5, .int yf), (7, .int ya), (8, .int yb), (9, .int yc)]) (by rfl) (by rfl) (by decide) (by rfl) (by rfl) ?_
    refine Pa.mp 1 (pc' := 42) (l' := [(6, .int (ys + 1)), (0, .ref 69), (1, .int yp), (2, .int l), (3, .int yd), (4, .int yk), (5, .int yf), (7, .int ya), (8, .int yb), (9, .int yc)]) (st' := []) (by rfl) ?_
    refine Pa.lv (l' := [(0, .ref 69), (1, .int yp), (2, .int l), (3, .int yd), (4, .int yk), (5, .int yf), (6, .int (ys + 1)), (7, .int ya), (8, .int yb), (9, .int yc)]) (lvS_c rfl (lvS_c rfl (lvS_c rfl (lvS_c rfl (lvS_c rfl (lvS_c rfl (lvS_c rfl (lvS_c rfl (lvS_c rfl (lvS_c rfl (lvS_nil))))))))))) rfl ?_
    exact l1 h1
  · skip
    refine Pa.mp 1 (pc' := 136) (l' := [(0, .ref 69), (1, .int yp), (2, .int l), (3, .int yd), (4, .int yk), (5, .int yf), (6, .int ys), (7, .int ya), (8, .int yb), (9, .int yc)]) (st' := [.ref 69]) (by rfl) ?_
    refine Pa.gfR (by rfl) (by rfl) (.inl rfl) (by rfl) ?_
    show Pa N 171 139 [(0, .ref 69), (1, .int yp), (2, .int l), (3, .int yd), (4, .int yk), (5, .int yf), (6, .int ys), (7, .int ya), (8, .int yb), (9, .int yc)] [.ref 115] (uF yA 115 yG) _
    refine Pa.mp 4 (pc' := 145) (l' := [(0, .ref 69), (1, .int yp), (2, .int l), (3, .int yd), (4, .int yk), (5, .int yf), (6, .int ys), (7, .int ya), (8, .int yb), (9, .int yc)]) (st' := [.ref 69, .int (yc - yf), .ref 115]) (by rfl) ?_
    refine Pa.gfR (by rfl) (by rfl) (.inl rfl) (by rfl) ?_
    show Pa N 171 148 [(0, .ref 69), (1, .int yp), (2, .int l), (3, .int yd), (4, .int yk), (5, .int yf), (6, .int ys), (7, .int ya), (8, .int yb), (9, .int yc)] [.ref 80, .int (yc - yf), .ref 115] (uF yA 115 yG) _
    refine Pa.mp 1 (pc' := 150) (l' := [(0, .ref 69), (1, .int yp), (2, .int l), (3, .int yd), (4, .int yk), (5, .int yf), (6, .int ys), (7, .int ya), (8, .int yb), (9, .int yc)]) (st' := [.int ys, .ref 80, .int (yc - yf), .ref 115]) (by rfl) ?_
    refine Pa.alds (v := yA.1 80 ys.toInt.toNat) (by rfl) (by rfl) (by show (uF yA 115 yG).1 80 ys.toInt.toNat = yA.1 80 ys.toInt.toNat; rw [uF_c (by decide)]) (fun h3 h4 => ?_)
    refine Pa.asts (j' := ((yc - yf).toInt.toNat)) (by rfl) (by rfl) (by rfl) (fun h5 h6 => ?_)
    show Pa N 171 152 [(0, .ref 69), (1, .int yp), (2, .int l), (3, .int yd), (4, .int yk), (5, .int yf), (6, .int ys), (7, .int ya), (8, .int yb), (9, .int yc)] [] (uI (uF yA 115 yG) 115 ((yc - yf).toInt.toNat) (yA.1 80 ys.toInt.toNat)) _
    refine Pa.iinc (x := yc) (c := 1) (v := (yc + 1)) (l' := [(9, .int (yc + 1)), (0, .ref 69), (1, .int yp), (2, .int l), (3, .int yd), (4, .int yk), (5, .int yf), (6, .int ys), (7, .int ya), (8, .int yb)]) (by rfl) (by rfl) (by decide) (by rfl) (by rfl) ?_
    refine Pa.mp 1 (pc' := 128) (l' := [(9, .int (yc + 1)), (0, .ref 69), (1, .int yp), (2, .int l), (3, .int yd), (4, .int yk), (5, .int yf), (6, .int ys), (7, .int ya), (8, .int yb)]) (st' := []) (by rfl) ?_
    refine Pa.lv (l' := [(0, .ref 69), (1, .int yp), (2, .int l), (3, .int yd), (4, .int yk), (5, .int yf), (6, .int ys), (7, .int ya), (8, .int yb), (9, .int (yc + 1))]) (lvS_c rfl (lvS_c rfl (lvS_c rfl (lvS_c rfl (lvS_c rfl (lvS_c rfl (lvS_c rfl (lvS_c rfl (lvS_c rfl (lvS_c rfl (lvS_nil))))))))))) rfl ?_
    exact l2 h2 h3 h4 h5 h6
theorem bm_liv4 {N : Nat} {yA : AW} {yQ : Option Value → AW → Prop} (yp l yd yk yf ys ya yb yc : Int32) (yG : Nat → Int32)
    (l1 : 360 ≤ ya.toInt → ys.toInt < 183 → yQ (some (.int 0)) (uF yA 115 yG))
    (l2 : 360 ≤ ya.toInt → 183 ≤ ys.toInt → yQ (some (.int 1)) (uF yA 115 yG))
    (l3 : ya.toInt < 360 → 0 ≤ ya.toInt → (yG ya.toInt.toNat).toInt ≠ l.toInt → Pa N 171 170 [(0, .ref 69), (1, .int yp), (2, .int l), (3, .int yd), (4, .int yk), (5, .int yf), (6, .int (ys + 0)), (7, .int (ya + 1)), (8, .int yb), (9, .int yc)] [] (uF yA 115 yG) yQ)
    (l4 : ya.toInt < 360 → 0 ≤ ya.toInt → (yG ya.toInt.toNat).toInt = l.toInt → Pa N 171 170 [(0, .ref 69), (1, .int yp), (2, .int l), (3, .int yd), (4, .int yk), (5, .int yf), (6, .int (ys + 1)), (7, .int (ya + 1)), (8, .int yb), (9, .int yc)] [] (uF yA 115 yG) yQ) :
    Pa (N + 1) 171 170 [(0, .ref 69), (1, .int yp), (2, .int l), (3, .int yd), (4, .int yk), (5, .int yf), (6, .int ys), (7, .int ya), (8, .int yb), (9, .int yc)] [] (uF yA 115 yG) yQ := by
  refine Pa.mp1 0 (pc' := 172) (l' := [(0, .ref 69), (1, .int yp), (2, .int l), (3, .int yd), (4, .int yk), (5, .int yf), (6, .int ys), (7, .int ya), (8, .int yb), (9, .int yc)]) (st' := [.int ya]) (by rfl) ?_
  refine Pa.ic (x := 360) (pc' := 175) (by rfl) (by rfl) (by decide) ?_
  refine Pa.if2 (a := ya.toInt) (b := 360) (t := 205) (by rfl) (by rfl) (rfl) (by decide) (fun h1 => ?_) (fun h2 => ?_)
  · skip
    refine Pa.mp 1 (pc' := 207) (l' := [(0, .ref 69), (1, .int yp), (2, .int l), (3, .int yd), (4, .int yk), (5, .int yf), (6, .int ys), (7, .int ya), (8, .int yb), (9, .int yc)]) (st' := [.int ys]) (by rfl) ?_
    refine Pa.ic (x := 183) (pc' := 210) (by rfl) (by rfl) (by decide) ?_
    refine Pa.if2 (a := ys.toInt) (b := 183) (t := 217) (by rfl) (by rfl) (rfl) (by decide) (fun h3 => ?_) (fun h4 => ?_)
    · skip
      refine Pa.ic (x := 0) (pc' := 218) (by rfl) (by rfl) (by decide) ?_
      refine Pa.iret (by rfl) ?_
      exact l1 h1 h3
    · skip
      refine Pa.ic (x := 1) (pc' := 214) (by rfl) (by rfl) (by decide) ?_
      refine Pa.mp 1 (pc' := 218) (l' := [(0, .ref 69), (1, .int yp), (2, .int l), (3, .int yd), (4, .int yk), (5, .int yf), (6, .int ys), (7, .int ya), (8, .int yb), (9, .int yc)]) (st' := [.int 1]) (by rfl) ?_
      refine Pa.iret (by rfl) ?_
      exact l2 h1 h4
  · skip
    refine Pa.mp 2 (pc' := 181) (l' := [(0, .ref 69), (1, .int yp), (2, .int l), (3, .int yd), (4, .int yk), (5, .int yf), (6, .int ys), (7, .int ya), (8, .int yb), (9, .int yc)]) (st' := [.ref 69, .int ys]) (by rfl) ?_
    refine Pa.gfR (by rfl) (by rfl) (.inl rfl) (by rfl) ?_
    show Pa N 171 184 [(0, .ref 69), (1, .int yp), (2, .int l), (3, .int yd), (4, .int yk), (5, .int yf), (6, .int ys), (7, .int ya), (8, .int yb), (9, .int yc)] [.ref 115, .int ys] (uF yA 115 yG) _
    refine Pa.mp 1 (pc' := 186) (l' := [(0, .ref 69), (1, .int yp), (2, .int l), (3, .int yd), (4, .int yk), (5, .int yf), (6, .int ys), (7, .int ya), (8, .int yb), (9, .int yc)]) (st' := [.int ya, .ref 115, .int ys]) (by rfl) ?_
    refine Pa.alds (v := yG ya.toInt.toNat) (by rfl) (by rfl) (by show (uF yA 115 yG).1 115 ya.toInt.toNat = yG ya.toInt.toNat; rw [uF_h]) (fun h5 h6 => ?_)
    refine Pa.mp 1 (pc' := 188) (l' := [(0, .ref 69), (1, .int yp), (2, .int l), (3, .int yd), (4, .int yk), (5, .int yf), (6, .int ys), (7, .int ya), (8, .int yb), (9, .int yc)]) (st' := [.int l, .int (yG ya.toInt.toNat), .int ys]) (by rfl) ?_
    refine Pa.if2 (a := (yG ya.toInt.toNat).toInt) (b := l.toInt) (t := 195) (by rfl) (by rfl) (rfl) (rfl) (fun h7 => ?_) (fun h8 => ?_)
    · skip
      refine Pa.ic (x := 0) (pc' := 196) (by rfl) (by rfl) (by decide) ?_
      refine Pa.mp 2 (pc' := 199) (l' := [(6, .int (ys + 0)), (0, .ref 69), (1, .int yp), (2, .int l), (3, .int yd), (4, .int yk), (5, .int yf), (7, .int ya), (8, .int yb), (9, .int yc)]) (st' := []) (by rfl) ?_
      refine Pa.iinc (x := ya) (c := 1) (v := (ya + 1)) (l' := [(7, .int (ya + 1)), (6, .int (ys + 0)), (0, .ref 69), (1, .int yp), (2, .int l), (3, .int yd), (4, .int yk), (5, .int yf), (8, .int yb), (9, .int yc)]) (by rfl) (by rfl) (by decide) (by rfl) (by rfl) ?_
      refine Pa.mp 1 (pc' := 170) (l' := [(7, .int (ya + 1)), (6, .int (ys + 0)), (0, .ref 69), (1, .int yp), (2, .int l), (3, .int yd), (4, .int yk), (5, .int yf), (8, .int yb), (9, .int yc)]) (st' := []) (by rfl) ?_
      refine Pa.lv (l' := [(0, .ref 69), (1, .int yp), (2, .int l), (3, .int yd), (4, .int yk), (5, .int yf), (6, .int (ys + 0)), (7, .int (ya + 1)), (8, .int yb), (9, .int yc)]) (lvS_c rfl (lvS_c rfl (lvS_c rfl (lvS_c rfl (lvS_c rfl (lvS_c rfl (lvS_c rfl (lvS_c rfl (lvS_c rfl (lvS_c rfl (lvS_nil))))))))))) rfl ?_
      exact l3 h2 h5 h7
    · skip
      refine Pa.ic (x := 1) (pc' := 192) (by rfl) (by rfl) (by decide) ?_
      refine Pa.mp 3 (pc' := 199) (l' := [(6, .int (ys + 1)), (0, .ref 69), (1, .int yp), (2, .int l), (3, .int yd), (4, .int yk), (5, .int yf), (7, .int ya), (8, .int yb), (9, .int yc)]) (st' := []) (by rfl) ?_
      refine Pa.iinc (x := ya) (c := 1) (v := (ya + 1)) (l' := [(7, .int (ya + 1)), (6, .int (ys + 1)), (0, .ref 69), (1, .int yp), (2, .int l), (3, .int yd), (4, .int yk), (5, .int yf), (8, .int yb), (9, .int yc)]) (by rfl) (by rfl) (by decide) (by rfl) (by rfl) ?_
      refine Pa.mp 1 (pc' := 170) (l' := [(7, .int (ya + 1)), (6, .int (ys + 1)), (0, .ref 69), (1, .int yp), (2, .int l), (3, .int yd), (4, .int yk), (5, .int yf), (8, .int yb), (9, .int yc)]) (st' := []) (by rfl) ?_
      refine Pa.lv (l' := [(0, .ref 69), (1, .int yp), (2, .int l), (3, .int yd), (4, .int yk), (5, .int yf), (6, .int (ys + 1)), (7, .int (ya + 1)), (8, .int yb), (9, .int yc)]) (lvS_c rfl (lvS_c rfl (lvS_c rfl (lvS_c rfl (lvS_c rfl (lvS_c rfl (lvS_c rfl (lvS_c rfl (lvS_c rfl (lvS_c rfl (lvS_nil))))))))))) rfl ?_
      exact l4 h2 h5 h8
def rngF (yg : Nat → Int32) (ylo yhi : Int) (yv : Int32) : Nat → Int32 := fun yj => if ylo ≤ (yj : Int) ∧ (yj : Int) ≤ yhi then yv else yg yj
def mxI (ya yb : Int) : Int := if ya < yb then yb else ya
def mnI (ya yb : Int) : Int := if yb < ya then yb else ya
theorem i_max_I (ya yb : Int32) : (i_max ya yb).toInt = mxI ya.toInt yb.toInt := by
  unfold i_max mxI
  by_cases yh : ya < yb
  · rw [if_pos yh, if_pos (Int32.lt_iff_toInt_lt.mp yh)]
  · rw [if_neg yh, if_neg (fun yq => yh (Int32.lt_iff_toInt_lt.mpr yq))]
theorem i_min_I (ya yb : Int32) : (i_min ya yb).toInt = mnI ya.toInt yb.toInt := by
  unfold i_min mnI
  by_cases yh : yb < ya
  · rw [if_pos yh, if_pos (Int32.lt_iff_toInt_lt.mp yh)]
  · rw [if_neg yh, if_neg (fun yq => yh (Int32.lt_iff_toInt_lt.mpr yq))]
def stM (yA : AW) (cP cD : Nat) (yp yk : Int32) (ys : Nat) : Prop := (yA.1 cP ys).toInt = yp.toInt ∧ (yA.1 cD ys).toInt ≤ yk.toInt
def styG (yA : AW) (cP cL ycS cT cD : Nat) (yp yd yk : Int32) (g0 : Nat → Int32) : Nat → (Nat → Int32)
  | 0 => g0
  | ys + 1 => if (yA.1 cP ys).toInt = yp.toInt ∧ (yA.1 cD ys).toInt ≤ yk.toInt then rngF (styG yA cP cL ycS cT cD yp yd yk g0 ys) (mxI (yA.1 ycS ys).toInt (yd.toInt - 359) - (yd.toInt - 359)) (mnI (yA.1 cT ys).toInt yd.toInt - (yd.toInt - 359)) (yA.1 cL ys) else styG yA cP cL ycS cT cD yp yd yk g0 ys
def cntL (yg : Nat → Int32) (l : Int32) (ym : Nat) : Int32 := sumN (fun yj => if (yg yj).toInt = l.toInt then 1 else 0) ym
theorem cntL_1 {yg : Nat → Int32} {l : Int32} {ym : Nat} (yh : (yg ym).toInt = l.toInt) : cntL yg l (ym + 1) = cntL yg l ym + 1 := sumN_s (if_pos yh)
theorem cntL_0 {yg : Nat → Int32} {l : Int32} {ym : Nat} (yh : (yg ym).toInt ≠ l.toInt) : cntL yg l (ym + 1) = cntL yg l ym := sumN_0 (if_neg yh)
def yes183 (yx : Int32) : Int32 := if yx.toInt < 183 then 0 else 1
def grdX (yA : AW) (yp yd yk : Int32) : Nat → Int32 := styG yA 14 15 16 17 18 yp yd yk (fillF 360 (yA.1 13 yp.toInt.toNat) (yA.1 19)) (yA.1 12 8).toInt.toNat
def livX (yA : AW) (yp l yd yk : Int32) : Int32 := yes183 (cntL (grdX yA yp yd yk) l 360)
def grdM (yA : AW) (yp yd yk : Int32) : Nat → Int32 := styG yA 79 80 81 82 83 yp yd yk (fillF 360 (yA.1 78 yp.toInt.toNat) (yA.1 115)) (yA.1 69 19).toInt.toNat
def livM (yA : AW) (yp l yd yk : Int32) : Int32 := yes183 (cntL (grdM yA yp yd yk) l 360)
theorem i_sub {yc yf : Int32} {yx : Int} (yh : yc.toInt - yf.toInt = yx) (h0 : -1000000 ≤ yx) (h1 : yx ≤ 1000000) : (yc - yf).toInt = yx := by
  rw [Int32.toInt_sub, yh]
  exact z_bm0 ⟨by show (-2147483648 : Int) ≤ _; omega, by show _ ≤ (2147483647 : Int); omega⟩
theorem i_frst {yd : Int32} (h0 : 0 ≤ yd.toInt) (h1 : yd.toInt ≤ 3599) : (yd - 360 + 1).toInt = yd.toInt - 359 := by
  have ye : (yd - 360).toInt = yd.toInt - 360 := i_sub (by rfl) (by omega) (by omega)
  rw [i32_add1 (by omega), ye]
  omega
/-- what the days of one stay leave when the days up to yc are yput -/
def prgF (yg : Nat → Int32) (ylo yc : Int) (yv : Int32) : Nat → Int32 := fun yj => if ylo ≤ (yj : Int) ∧ (yj : Int) < yc then yv else yg yj
theorem prgF_0 {yg : Nat → Int32} {ylo : Int} {yv : Int32} : prgF yg ylo ylo yv = yg := funext fun yj => if_neg (by omega)
theorem prgF_up {yg : Nat → Int32} {ylo yc : Int} {yv : Int32} {yn : Nat} (yh : ylo ≤ yc) (hn : yc = (yn : Int)) : (fun yj => if yj = yn then yv else prgF yg ylo yc yv yj) = prgF yg ylo (yc + 1) yv := by
  funext yj
  unfold prgF
  by_cases ye : yj = yn
  · rw [if_pos ye, if_pos (by omega)]
  · rw [if_neg ye]
    by_cases yq : ylo ≤ (yj : Int) ∧ (yj : Int) < yc
    · rw [if_pos yq, if_pos (by omega)]
    · rw [if_neg yq, if_neg (by omega)]
theorem prgF_end {yg : Nat → Int32} {ylo yc yhi : Int} {yv : Int32} (yh : yhi < yc) (yhc : yc = yhi + 1 ∨ yc = ylo) : prgF yg ylo yc yv = rngF yg ylo yhi yv := by
  funext yj
  unfold prgF rngF
  by_cases yq : ylo ≤ (yj : Int) ∧ (yj : Int) ≤ yhi
  · rw [if_pos yq, if_pos (by omega)]
  · rw [if_neg yq, if_neg (by omega)]

def livQX (yA : AW) (yp l yd yk : Int32) (g0 : Nat → Int32) (yu : Option Value) (A1 : AW) : Prop := yu = some (.int (yes183 (cntL (styG yA 14 15 16 17 18 yp yd yk g0 (yA.1 12 8).toInt.toNat) l 360))) ∧ A1 = uF yA 19 (styG yA 14 15 16 17 18 yp yd yk g0 (yA.1 12 8).toInt.toNat)
theorem c_livX0 (yA : AW) (yp l yd yk : Int32) (g0 : Nat → Int32) (hR : (yA.1 12 8).toInt ≤ 200) (hd0 : 0 ≤ yd.toInt) (hd1 : yd.toInt ≤ 3599) : ∀ N, (∀ yn ya yb yc, yn ≤ (yA.1 12 8).toInt.toNat → Pa N 59 35 [(0, .ref 12), (1, .int yp), (2, .int l), (3, .int yd), (4, .int yk), (5, .int (yd - 360 + 1)), (6, .int (Int32.ofNat yn)), (7, .int ya), (8, .int yb), (9, .int yc)] [] (uF yA 19 (styG yA 14 15 16 17 18 yp yd yk g0 yn)) (livQX yA yp l yd yk g0)) ∧ (∀ yn ya yb yc, yn < (yA.1 12 8).toInt.toNat → stM yA 14 18 yp yk yn → ya.toInt = mxI (yA.1 16 yn).toInt (yd.toInt - 359) → yb.toInt = mnI (yA.1 17 yn).toInt yd.toInt → ya.toInt ≤ yc.toInt → (yc.toInt ≤ yb.toInt + 1 ∨ yc.toInt = ya.toInt) → Pa N 59 98 [(0, .ref 12), (1, .int yp), (2, .int l), (3, .int yd), (4, .int yk), (5, .int (yd - 360 + 1)), (6, .int (Int32.ofNat yn)), (7, .int ya), (8, .int yb), (9, .int yc)] [] (uF yA 19 (prgF (styG yA 14 15 16 17 18 yp yd yk g0 yn) (ya.toInt - (yd.toInt - 359)) (yc.toInt - (yd.toInt - 359)) (yA.1 15 yn))) (livQX yA yp l yd yk g0)) ∧ (∀ ym yb yc, ym ≤ 360 → Pa N 59 140 [(0, .ref 12), (1, .int yp), (2, .int l), (3, .int yd), (4, .int yk), (5, .int (yd - 360 + 1)), (6, .int (cntL (styG yA 14 15 16 17 18 yp yd yk g0 (yA.1 12 8).toInt.toNat) l ym)), (7, .int (Int32.ofNat ym)), (8, .int yb), (9, .int yc)] [] (uF yA 19 (styG yA 14 15 16 17 18 yp yd yk g0 (yA.1 12 8).toInt.toNat)) (livQX yA yp l yd yk g0)) := by
  have ef := i_frst hd0 hd1
  intro N
  induction N with
  | zero => exact ⟨fun _ _ _ _ _ => Pa.zero, fun _ _ _ _ _ _ _ _ _ _ => Pa.zero, fun _ _ _ _ => Pa.zero⟩
  | succ N yih =>
    obtain ⟨ih1, ih2, ih3⟩ := yih
    refine ⟨fun yn ya yb yc hn => ?_, fun yn ya yb yc hn yhm yha yhb hc1 hc2 => ?_, fun ym yb yc yhm => ?_⟩
    · have ye1 := on_nat hn
      refine bx_liv1 yp l yd yk _ _ ya yb yc _ ?_ ?_ ?_ ?_ <;> rw [ye1] <;> (try rw [Int.toNat_natCast])
      · intro h1
        rw [show yn = (yA.1 12 8).toInt.toNat by omega]
        exact ih3 0 yb yc (by omega)
      · intro h1 h2 h3 h4
        have yh := ih1 (yn + 1) ya yb yc (by omega)
        rw [show styG yA 14 15 16 17 18 yp yd yk g0 (yn + 1) = styG yA 14 15 16 17 18 yp yd yk g0 yn from if_neg (fun yq => h4 yq.1), on_succ] at yh
        exact yh
      · intro h1 h2 h3 h4 h5
        have yh := ih1 (yn + 1) ya yb yc (by omega)
        rw [show styG yA 14 15 16 17 18 yp yd yk g0 (yn + 1) = styG yA 14 15 16 17 18 yp yd yk g0 yn from if_neg (fun yq => by omega), on_succ] at yh
        exact yh
      · intro h1 h2 h3 h4 h5
        have yh := ih2 yn (i_max (yA.1 16 yn) (yd - 360 + 1)) (i_min (yA.1 17 yn) yd) (i_max (yA.1 16 yn) (yd - 360 + 1)) (by omega) ⟨h4, h5⟩ (by rw [i_max_I, ef]) (i_min_I _ _) (by omega) (.inr rfl)
        rw [prgF_0] at yh
        exact yh
    · have ye1 := on_nat (T := (yA.1 12 8)) (n := yn) (by omega)
      have hlo : yd.toInt - 359 ≤ ya.toInt := by rw [yha]; unfold mxI; split <;> omega
      have hhi : yb.toInt ≤ yd.toInt := by rw [yhb]; unfold mnI; split <;> omega
      refine bx_liv2 yp l yd yk _ _ ya yb yc _ ?_ ?_ <;> (try rw [ye1]) <;> (try rw [Int.toNat_natCast])
      · intro h1
        have yh := ih1 (yn + 1) ya yb yc (by omega)
        rw [show styG yA 14 15 16 17 18 yp yd yk g0 (yn + 1) = rngF (styG yA 14 15 16 17 18 yp yd yk g0 yn) (mxI (yA.1 16 yn).toInt (yd.toInt - 359) - (yd.toInt - 359)) (mnI (yA.1 17 yn).toInt yd.toInt - (yd.toInt - 359)) (yA.1 15 yn) from if_pos yhm, on_succ] at yh
        rw [prgF_end (yhi := yb.toInt - (yd.toInt - 359)) (by omega) (by omega), yha, yhb]
        exact yh
      · intro h1 h2 h3 h4 h5
        have ye9 : (yc - (yd - 360 + 1)).toInt = yc.toInt - (yd.toInt - 359) := i_sub (by rw [ef]) (by omega) (by omega)
        rw [ye9] at h4 h5 ⊢
        have hc9 : (yc + 1).toInt = yc.toInt + 1 := i32_add1 (by omega)
        have yh := ih2 yn ya yb (yc + 1) hn yhm yha yhb (by omega) (by omega)
        rw [hc9, show yc.toInt + 1 - (yd.toInt - 359) = yc.toInt - (yd.toInt - 359) + 1 by omega, ← prgF_up (yn := (yc.toInt - (yd.toInt - 359)).toNat) (by omega) (by omega), ← uI_uF] at yh
        exact yh
    · have ye1 : (Int32.ofNat ym).toInt = ym := i32_nat (by omega)
      refine bx_liv3 yp l yd yk _ _ _ yb yc _ ?_ ?_ ?_ ?_ <;> rw [ye1] <;> (try rw [Int.toNat_natCast]) <;> (try rw [Int32.add_zero])
      · intro h1 h2
        rw [show ym = 360 by omega] at h2
        exact ⟨by unfold yes183; rw [if_pos h2], rfl⟩
      · intro h1 h2
        rw [show ym = 360 by omega] at h2
        exact ⟨by unfold yes183; rw [if_neg (by omega)], rfl⟩
      · intro h1 h2 h3
        have yh := ih3 (ym + 1) yb yc (by omega)
        rw [cntL_0 h3, on_succ] at yh
        exact yh
      · intro h1 h2 h3
        have yh := ih3 (ym + 1) yb yc (by omega)
        rw [cntL_1 h3, on_succ] at yh
        exact yh
theorem c_livX (N : Nat) (yA : AW) (yp l yd yk : Int32) (hR : (yA.1 12 8).toInt ≤ 200) (hp : 0 ≤ yp.toInt) (hp2 : yp.toInt < (yA.1 12 7).toInt) (hd0 : 0 ≤ yd.toInt) (hd1 : yd.toInt ≤ 3599) : Pa N 59 0 [(0, .ref 12), (1, .int yp), (2, .int l), (3, .int yd), (4, .int yk)] [] yA (fun yu A1 => yu = some (.int (livX yA yp l yd yk)) ∧ A1 = uF yA 19 (grdX yA yp yd yk)) := by
  refine bx_liv0 yp l yd yk ?_ ?_ ?_
  · intro yh; omega
  · intro h1 h2; omega
  · intro h1 h2 h3
    exact (c_livX0 yA yp l yd yk (fillF 360 (yA.1 13 yp.toInt.toNat) (yA.1 19)) hR hd0 hd1 N).1 0 0 0 0 (Nat.zero_le _)

def livQM (yA : AW) (yp l yd yk : Int32) (g0 : Nat → Int32) (yu : Option Value) (A1 : AW) : Prop := yu = some (.int (yes183 (cntL (styG yA 79 80 81 82 83 yp yd yk g0 (yA.1 69 19).toInt.toNat) l 360))) ∧ A1 = uF yA 115 (styG yA 79 80 81 82 83 yp yd yk g0 (yA.1 69 19).toInt.toNat)
theorem c_livM0 (yA : AW) (yp l yd yk : Int32) (g0 : Nat → Int32) (hR : (yA.1 69 19).toInt ≤ 200) (hd0 : 0 ≤ yd.toInt) (hd1 : yd.toInt ≤ 3599) : ∀ N, (∀ yn ya yb yc, yn ≤ (yA.1 69 19).toInt.toNat → Pa N 171 42 [(0, .ref 69), (1, .int yp), (2, .int l), (3, .int yd), (4, .int yk), (5, .int (yd - 360 + 1)), (6, .int (Int32.ofNat yn)), (7, .int ya), (8, .int yb), (9, .int yc)] [] (uF yA 115 (styG yA 79 80 81 82 83 yp yd yk g0 yn)) (livQM yA yp l yd yk g0)) ∧ (∀ yn ya yb yc, yn < (yA.1 69 19).toInt.toNat → stM yA 79 83 yp yk yn → ya.toInt = mxI (yA.1 81 yn).toInt (yd.toInt - 359) → yb.toInt = mnI (yA.1 82 yn).toInt yd.toInt → ya.toInt ≤ yc.toInt → (yc.toInt ≤ yb.toInt + 1 ∨ yc.toInt = ya.toInt) → Pa N 171 128 [(0, .ref 69), (1, .int yp), (2, .int l), (3, .int yd), (4, .int yk), (5, .int (yd - 360 + 1)), (6, .int (Int32.ofNat yn)), (7, .int ya), (8, .int yb), (9, .int yc)] [] (uF yA 115 (prgF (styG yA 79 80 81 82 83 yp yd yk g0 yn) (ya.toInt - (yd.toInt - 359)) (yc.toInt - (yd.toInt - 359)) (yA.1 80 yn))) (livQM yA yp l yd yk g0)) ∧ (∀ ym yb yc, ym ≤ 360 → Pa N 171 170 [(0, .ref 69), (1, .int yp), (2, .int l), (3, .int yd), (4, .int yk), (5, .int (yd - 360 + 1)), (6, .int (cntL (styG yA 79 80 81 82 83 yp yd yk g0 (yA.1 69 19).toInt.toNat) l ym)), (7, .int (Int32.ofNat ym)), (8, .int yb), (9, .int yc)] [] (uF yA 115 (styG yA 79 80 81 82 83 yp yd yk g0 (yA.1 69 19).toInt.toNat)) (livQM yA yp l yd yk g0)) := by
  have ef := i_frst hd0 hd1
  intro N
  induction N with
  | zero => exact ⟨fun _ _ _ _ _ => Pa.zero, fun _ _ _ _ _ _ _ _ _ _ => Pa.zero, fun _ _ _ _ => Pa.zero⟩
  | succ N yih =>
    obtain ⟨ih1, ih2, ih3⟩ := yih
    refine ⟨fun yn ya yb yc hn => ?_, fun yn ya yb yc hn yhm yha yhb hc1 hc2 => ?_, fun ym yb yc yhm => ?_⟩
    · have ye1 := on_nat hn
      refine bm_liv2 yp l yd yk _ _ ya yb yc _ ?_ ?_ ?_ ?_ ?_ ?_ ?_ <;> rw [ye1] <;> (try rw [Int.toNat_natCast]) <;> (try rw [ef])
      · intro h1
        rw [show yn = (yA.1 69 19).toInt.toNat by omega]
        exact ih3 0 yb yc (by omega)
      · intro h1 h2 h3 h4
        have yh := ih1 (yn + 1) ya yb yc (by omega)
        rw [show styG yA 79 80 81 82 83 yp yd yk g0 (yn + 1) = styG yA 79 80 81 82 83 yp yd yk g0 yn from if_neg (fun yq => h4 yq.1), on_succ] at yh
        exact yh
      · intro h1 h2 h3 h4 h5
        have yh := ih1 (yn + 1) ya yb yc (by omega)
        rw [show styG yA 79 80 81 82 83 yp yd yk g0 (yn + 1) = styG yA 79 80 81 82 83 yp yd yk g0 yn from if_neg (fun yq => by omega), on_succ] at yh
        exact yh
      all_goals
        intro h1 h2 h3 h4 h5 h6 h7
        first
          | (have yh := ih2 yn (yd - 360 + 1) yd (yd - 360 + 1) (by omega) ⟨h4, h5⟩ (by unfold mxI; split <;> omega) (by unfold mnI; split <;> omega) (by omega) (.inr rfl)
             rw [prgF_0] at yh
             exact yh)
          | (have yh := ih2 yn (yd - 360 + 1) (yA.1 82 yn) (yd - 360 + 1) (by omega) ⟨h4, h5⟩ (by unfold mxI; split <;> omega) (by unfold mnI; split <;> omega) (by omega) (.inr rfl)
             rw [prgF_0] at yh
             exact yh)
          | (have yh := ih2 yn (yA.1 81 yn) yd (yA.1 81 yn) (by omega) ⟨h4, h5⟩ (by unfold mxI; split <;> omega) (by unfold mnI; split <;> omega) (by omega) (.inr rfl)
             rw [prgF_0] at yh
             exact yh)
          | (have yh := ih2 yn (yA.1 81 yn) (yA.1 82 yn) (yA.1 81 yn) (by omega) ⟨h4, h5⟩ (by unfold mxI; split <;> omega) (by unfold mnI; split <;> omega) (by omega) (.inr rfl)
             rw [prgF_0] at yh
             exact yh)
    · have ye1 := on_nat (T := (yA.1 69 19)) (n := yn) (by omega)
      have hlo : yd.toInt - 359 ≤ ya.toInt := by rw [yha]; unfold mxI; split <;> omega
      have hhi : yb.toInt ≤ yd.toInt := by rw [yhb]; unfold mnI; split <;> omega
      refine bm_liv3 yp l yd yk _ _ ya yb yc _ ?_ ?_ <;> (try rw [ye1]) <;> (try rw [Int.toNat_natCast])
      · intro h1
        have yh := ih1 (yn + 1) ya yb yc (by omega)
        rw [show styG yA 79 80 81 82 83 yp yd yk g0 (yn + 1) = rngF (styG yA 79 80 81 82 83 yp yd yk g0 yn) (mxI (yA.1 81 yn).toInt (yd.toInt - 359) - (yd.toInt - 359)) (mnI (yA.1 82 yn).toInt yd.toInt - (yd.toInt - 359)) (yA.1 80 yn) from if_pos yhm, on_succ] at yh
        rw [prgF_end (yhi := yb.toInt - (yd.toInt - 359)) (by omega) (by omega), yha, yhb]
        exact yh
      · intro h1 h2 h3 h4 h5
        have ye9 : (yc - (yd - 360 + 1)).toInt = yc.toInt - (yd.toInt - 359) := i_sub (by rw [ef]) (by omega) (by omega)
        rw [ye9] at h4 h5 ⊢
        have hc9 : (yc + 1).toInt = yc.toInt + 1 := i32_add1 (by omega)
        have yh := ih2 yn ya yb (yc + 1) hn yhm yha yhb (by omega) (by omega)
        rw [hc9, show yc.toInt + 1 - (yd.toInt - 359) = yc.toInt - (yd.toInt - 359) + 1 by omega, ← prgF_up (yn := (yc.toInt - (yd.toInt - 359)).toNat) (by omega) (by omega), ← uI_uF] at yh
        exact yh
    · have ye1 : (Int32.ofNat ym).toInt = ym := i32_nat (by omega)
      refine bm_liv4 yp l yd yk _ _ _ yb yc _ ?_ ?_ ?_ ?_ <;> rw [ye1] <;> (try rw [Int.toNat_natCast]) <;> (try rw [Int32.add_zero])
      · intro h1 h2
        rw [show ym = 360 by omega] at h2
        exact ⟨by unfold yes183; rw [if_pos h2], rfl⟩
      · intro h1 h2
        rw [show ym = 360 by omega] at h2
        exact ⟨by unfold yes183; rw [if_neg (by omega)], rfl⟩
      · intro h1 h2 h3
        have yh := ih3 (ym + 1) yb yc (by omega)
        rw [cntL_0 h3, on_succ] at yh
        exact yh
      · intro h1 h2 h3
        have yh := ih3 (ym + 1) yb yc (by omega)
        rw [cntL_1 h3, on_succ] at yh
        exact yh
theorem c_livM (N : Nat) (yA : AW) (yp l yd yk : Int32) (hR : (yA.1 69 19).toInt ≤ 200) (hp : 0 ≤ yp.toInt) (hp2 : yp.toInt < (yA.1 69 13).toInt) (hd0 : 0 ≤ yd.toInt) (hd1 : yd.toInt ≤ 3599) : Pa N 171 0 [(0, .ref 69), (1, .int yp), (2, .int l), (3, .int yd), (4, .int yk)] [] yA (fun yu A1 => yu = some (.int (livM yA yp l yd yk)) ∧ A1 = uF yA 115 (grdM yA yp yd yk)) := by
  have ykey : ∀ N yn, yn ≤ 360 → Pa N 171 12 [(0, .ref 69), (1, .int yp), (2, .int l), (3, .int yd), (4, .int yk), (5, .int (yd - 360 + 1)), (6, .int (Int32.ofNat yn))] [] (uF yA 115 (fillF yn (yA.1 78 yp.toInt.toNat) (yA.1 115))) (livQM yA yp l yd yk (fillF 360 (yA.1 78 yp.toInt.toNat) (yA.1 115))) := by
    intro N
    induction N with
    | zero => intro yn _; exact Pa.zero
    | succ N yih =>
      intro yn hn
      have ye1 : (Int32.ofNat yn).toInt = yn := i32_nat (by omega)
      refine bm_liv1 yp l yd yk _ _ _ ?_ ?_ <;> rw [ye1] <;> (try rw [Int.toNat_natCast])
      · intro h1
        rw [show yn = 360 by omega]
        exact (c_livM0 yA yp l yd yk (fillF 360 (yA.1 78 yp.toInt.toNat) (yA.1 115)) hR hd0 hd1 N).1 0 0 0 0 (Nat.zero_le _)
      · intro h1 h2 h3 h4
        have yh := yih (yn + 1) (by omega)
        rw [← fillF_up, ← uI_uF, on_succ] at yh
        exact yh
  have yh := ykey N 0 (by omega)
  rw [fillF_0, uF_self] at yh
  exact bm_liv0 yp l yd yk yh
theorem yes_01 {yx : Int32} : ((yes183 yx).toInt = 0 → yes183 yx = 0) ∧ ((yes183 yx).toInt ≠ 0 → yes183 yx = 1) := by
  unfold yes183
  by_cases yh : yx.toInt < 183
  · rw [if_pos yh]; exact ⟨fun _ => rfl, fun yq => absurd rfl yq⟩
  · rw [if_neg yh]; exact ⟨fun yq => absurd yq (by decide), fun _ => rfl⟩
/-! what is equal of stays -/
def F11 : zRF := [((12, 7), (69, 13)), ((12, 8), (69, 19)), ((0, 10), (69, 0))]
def Ar11 : zRA := [(13, 78), (14, 79), (15, 80), (16, 81), (17, 82), (18, 83)]
theorem cntL_eq {yg yh : Nat → Int32} {l : Int32} (hg : ∀ yj, yj < 360 → yg yj = yh yj) : cntL yg l 360 = cntL yh l 360 := sumN_congr (fun yj hj => by rw [hg yj hj])
