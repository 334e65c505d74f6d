/-! CODES RUN BY THE CLASS -/
theorem bx_join {N : Nat} {yA : AW} {yQ : Option Value → AW → Prop} (yg yx yy : Int32)
    (l1 : yg.toInt = 37 → yy.toInt ≠ 0 → yQ (some (.int (yx - yx / yy * yy))) yA)
    (l2 : yg.toInt = 37 → yy.toInt = 0 → yQ (some (.int 0)) yA)
    (l3 : yg.toInt ≠ 37 → yg.toInt = 38 → yx.toInt = 0 → yQ (some (.int 0)) yA)
    (l4 : yg.toInt ≠ 37 → yg.toInt = 38 → yx.toInt ≠ 0 → yy.toInt = 0 → yQ (some (.int 0)) yA)
    (l5 : yg.toInt ≠ 37 → yg.toInt = 38 → yx.toInt ≠ 0 → yy.toInt ≠ 0 → yQ (some (.int 1)) yA)
    (l6 : yg.toInt ≠ 37 → yg.toInt ≠ 38 → yg.toInt = 42 → yQ (some (.int (yx * yy))) yA)
    (l7 : yg.toInt ≠ 37 → yg.toInt ≠ 38 → yg.toInt ≠ 42 → yg.toInt = 43 → yQ (some (.int (yx + yy))) yA)
    (l8 : yg.toInt ≠ 37 → yg.toInt ≠ 38 → yg.toInt ≠ 42 → yg.toInt ≠ 43 → yg.toInt = 45 → yQ (some (.int (yx - yy))) yA)
    (l9 : yg.toInt ≠ 37 → yg.toInt ≠ 38 → yg.toInt ≠ 42 → yg.toInt ≠ 43 → yg.toInt ≠ 45 → yg.toInt = 47 → yy.toInt ≠ 0 → yQ (some (.int (yx / yy))) yA)
    (l10 : yg.toInt ≠ 37 → yg.toInt ≠ 38 → yg.toInt ≠ 42 → yg.toInt ≠ 43 → yg.toInt ≠ 45 → yg.toInt = 47 → yy.toInt = 0 → yQ (some (.int 0)) yA)
    (l11 : yg.toInt ≠ 37 → yg.toInt ≠ 38 → yg.toInt ≠ 42 → yg.toInt ≠ 43 → yg.toInt ≠ 45 → yg.toInt ≠ 47 → yg.toInt = 60 → yy.toInt ≤ yx.toInt → yQ (some (.int 0)) yA)
    (l12 : yg.toInt ≠ 37 → yg.toInt ≠ 38 → yg.toInt ≠ 42 → yg.toInt ≠ 43 → yg.toInt ≠ 45 → yg.toInt ≠ 47 → yg.toInt = 60 → yx.toInt < yy.toInt → yQ (some (.int 1)) yA)
    (l13 : yg.toInt ≠ 37 → yg.toInt ≠ 38 → yg.toInt ≠ 42 → yg.toInt ≠ 43 → yg.toInt ≠ 45 → yg.toInt ≠ 47 → yg.toInt ≠ 60 → yg.toInt = 61 → yx.toInt ≠ yy.toInt → yQ (some (.int 0)) yA)
    (l14 : yg.toInt ≠ 37 → yg.toInt ≠ 38 → yg.toInt ≠ 42 → yg.toInt ≠ 43 → yg.toInt ≠ 45 → yg.toInt ≠ 47 → yg.toInt ≠ 60 → yg.toInt = 61 → yx.toInt = yy.toInt → yQ (some (.int 1)) yA)
    (l15 : yg.toInt ≠ 37 → yg.toInt ≠ 38 → yg.toInt ≠ 42 → yg.toInt ≠ 43 → yg.toInt ≠ 45 → yg.toInt ≠ 47 → yg.toInt ≠ 60 → yg.toInt ≠ 61 → yg.toInt = 62 → yx.toInt ≤ yy.toInt → yQ (some (.int 0)) yA)
    (l16 : yg.toInt ≠ 37 → yg.toInt ≠ 38 → yg.toInt ≠ 42 → yg.toInt ≠ 43 → yg.toInt ≠ 45 → yg.toInt ≠ 47 → yg.toInt ≠ 60 → yg.toInt ≠ 61 → yg.toInt = 62 → yy.toInt < yx.toInt → yQ (some (.int 1)) yA)
    (l17 : yg.toInt ≠ 37 → yg.toInt ≠ 38 → yg.toInt ≠ 42 → yg.toInt ≠ 43 → yg.toInt ≠ 45 → yg.toInt ≠ 47 → yg.toInt ≠ 60 → yg.toInt ≠ 61 → yg.toInt ≠ 62 → yg.toInt = 124 → yx.toInt ≠ 0 → yQ (some (.int 1)) yA)
    (l18 : yg.toInt ≠ 37 → yg.toInt ≠ 38 → yg.toInt ≠ 42 → yg.toInt ≠ 43 → yg.toInt ≠ 45 → yg.toInt ≠ 47 → yg.toInt ≠ 60 → yg.toInt ≠ 61 → yg.toInt ≠ 62 → yg.toInt = 124 → yx.toInt = 0 → yy.toInt = 0 → yQ (some (.int 0)) yA)
    (l19 : yg.toInt ≠ 37 → yg.toInt ≠ 38 → yg.toInt ≠ 42 → yg.toInt ≠ 43 → yg.toInt ≠ 45 → yg.toInt ≠ 47 → yg.toInt ≠ 60 → yg.toInt ≠ 61 → yg.toInt ≠ 62 → yg.toInt = 124 → yx.toInt = 0 → yy.toInt ≠ 0 → yQ (some (.int 1)) yA)
    (l20 : yg.toInt ≠ 37 → yg.toInt ≠ 38 → yg.toInt ≠ 42 → yg.toInt ≠ 43 → yg.toInt ≠ 45 → yg.toInt ≠ 47 → yg.toInt ≠ 60 → yg.toInt ≠ 61 → yg.toInt ≠ 62 → yg.toInt ≠ 124 → yQ (some (.int 0)) yA) :
    Pa N 8 0 [(0, .int yg), (1, .int yx), (2, .int yy)] [] yA yQ := by
  refine Pa.mp 1 (pc' := 1) (l' := [(0, .int yg), (1, .int yx), (2, .int yy)]) (st' := [.int yg]) (by rfl) ?_
  refine Pa.lsw (by rfl) ?_
  refine And.intro (fun (h1 : yg.toInt = 37) yt ht => ?_) (fun (h2 : yg.toInt ≠ 37) => ?_)
  · obtain rfl : 177 = yt := by injection ht
    refine Pa.mp 1 (pc' := 178) (l' := [(0, .int yg), (1, .int yx), (2, .int yy)]) (st' := [.int yy]) (by rfl) ?_
    refine Pa.if1 (a := yy.toInt) (t := 185) (by rfl) (by rfl) (rfl) (fun h3 => ?_) (fun h4 => ?_)
    · have h3 : yy.toInt ≠ 0 := h3
      refine Pa.mp 2 (pc' := 187) (l' := [(0, .int yg), (1, .int yx), (2, .int yy)]) (st' := [.int yy, .int yx]) (by rfl) ?_
      refine Pa.irem (by rfl) ?_
      refine Pa.iret (by rfl) ?_
      exact l1 h1 h3
    · have h4 : yy.toInt = 0 := h4
      refine Pa.ic (x := 0) (pc' := 182) (by rfl) (by rfl) (by decide) ?_
      refine Pa.mp 1 (pc' := 188) (l' := [(0, .int yg), (1, .int yx), (2, .int yy)]) (st' := [.int 0]) (by rfl) ?_
      refine Pa.iret (by rfl) ?_
      exact l2 h1 h4
  refine And.intro (fun (h5 : yg.toInt = 38) yt ht => ?_) (fun (h6 : yg.toInt ≠ 38) => ?_)
  · obtain rfl : 106 = yt := by injection ht
    refine Pa.mp 1 (pc' := 107) (l' := [(0, .int yg), (1, .int yx), (2, .int yy)]) (st' := [.int yx]) (by rfl) ?_
    refine Pa.if1 (a := yx.toInt) (t := 118) (by rfl) (by rfl) (rfl) (fun h7 => ?_) (fun h8 => ?_)
    · have h7 : yx.toInt = 0 := h7
      refine Pa.ic (x := 0) (pc' := 119) (by rfl) (by rfl) (by decide) ?_
      refine Pa.iret (by rfl) ?_
      exact l3 h2 h5 h7
    · have h8 : yx.toInt ≠ 0 := h8
      refine Pa.mp 1 (pc' := 111) (l' := [(0, .int yg), (1, .int yx), (2, .int yy)]) (st' := [.int yy]) (by rfl) ?_
      refine Pa.if1 (a := yy.toInt) (t := 118) (by rfl) (by rfl) (rfl) (fun h9 => ?_) (fun h10 => ?_)
      · have h9 : yy.toInt = 0 := h9
        refine Pa.ic (x := 0) (pc' := 119) (by rfl) (by rfl) (by decide) ?_
        refine Pa.iret (by rfl) ?_
        exact l4 h2 h5 h8 h9
      · have h10 : yy.toInt ≠ 0 := h10
        refine Pa.ic (x := 1) (pc' := 115) (by rfl) (by rfl) (by decide) ?_
        refine Pa.mp 1 (pc' := 119) (l' := [(0, .int yg), (1, .int yx), (2, .int yy)]) (st' := [.int 1]) (by rfl) ?_
        refine Pa.iret (by rfl) ?_
        exact l5 h2 h5 h8 h10
  refine And.intro (fun (h11 : yg.toInt = 42) yt ht => ?_) (fun (h12 : yg.toInt ≠ 42) => ?_)
  · obtain rfl : 161 = yt := by injection ht
    refine Pa.mp 3 (pc' := 164) (l' := [(0, .int yg), (1, .int yx), (2, .int yy)]) (st' := [.int (yx * yy)]) (by rfl) ?_
    refine Pa.iret (by rfl) ?_
    exact l6 h2 h6 h11
  refine And.intro (fun (h13 : yg.toInt = 43) yt ht => ?_) (fun (h14 : yg.toInt ≠ 43) => ?_)
  · obtain rfl : 153 = yt := by injection ht
    refine Pa.mp 3 (pc' := 156) (l' := [(0, .int yg), (1, .int yx), (2, .int yy)]) (st' := [.int (yx + yy)]) (by rfl) ?_
    refine Pa.iret (by rfl) ?_
    exact l7 h2 h6 h12 h13
  refine And.intro (fun (h15 : yg.toInt = 45) yt ht => ?_) (fun (yh16 : yg.toInt ≠ 45) => ?_)
  · obtain rfl : 157 = yt := by injection ht
    refine Pa.mp 3 (pc' := 160) (l' := [(0, .int yg), (1, .int yx), (2, .int yy)]) (st' := [.int (yx - yy)]) (by rfl) ?_
    refine Pa.iret (by rfl) ?_
    exact l8 h2 h6 h12 h14 h15
  refine And.intro (fun (h17 : yg.toInt = 47) yt ht => ?_) (fun (h18 : yg.toInt ≠ 47) => ?_)
  · obtain rfl : 165 = yt := by injection ht
    refine Pa.mp 1 (pc' := 166) (l' := [(0, .int yg), (1, .int yx), (2, .int yy)]) (st' := [.int yy]) (by rfl) ?_
    refine Pa.if1 (a := yy.toInt) (t := 173) (by rfl) (by rfl) (rfl) (fun h19 => ?_) (fun h20 => ?_)
    · have h19 : yy.toInt ≠ 0 := h19
      refine Pa.mp 2 (pc' := 175) (l' := [(0, .int yg), (1, .int yx), (2, .int yy)]) (st' := [.int yy, .int yx]) (by rfl) ?_
      refine Pa.idiv (by rfl) ?_
      refine Pa.iret (by rfl) ?_
      exact l9 h2 h6 h12 h14 yh16 h17 h19
    · have h20 : yy.toInt = 0 := h20
      refine Pa.ic (x := 0) (pc' := 170) (by rfl) (by rfl) (by decide) ?_
      refine Pa.mp 1 (pc' := 176) (l' := [(0, .int yg), (1, .int yx), (2, .int yy)]) (st' := [.int 0]) (by rfl) ?_
      refine Pa.iret (by rfl) ?_
      exact l10 h2 h6 h12 h14 yh16 h17 h20
  refine And.intro (fun (h21 : yg.toInt = 60) yt ht => ?_) (fun (h22 : yg.toInt ≠ 60) => ?_)
  · obtain rfl : 120 = yt := by injection ht
    refine Pa.mp 2 (pc' := 122) (l' := [(0, .int yg), (1, .int yx), (2, .int yy)]) (st' := [.int yy, .int yx]) (by rfl) ?_
    refine Pa.if2 (a := yx.toInt) (b := yy.toInt) (t := 129) (by rfl) (by rfl) (rfl) (rfl) (fun h23 => ?_) (fun h24 => ?_)
    · have h23 : yy.toInt ≤ yx.toInt := h23
      refine Pa.ic (x := 0) (pc' := 130) (by rfl) (by rfl) (by decide) ?_
      refine Pa.iret (by rfl) ?_
      exact l11 h2 h6 h12 h14 yh16 h18 h21 h23
    · have h24 : yx.toInt < yy.toInt := h24
      refine Pa.ic (x := 1) (pc' := 126) (by rfl) (by rfl) (by decide) ?_
      refine Pa.mp 1 (pc' := 130) (l' := [(0, .int yg), (1, .int yx), (2, .int yy)]) (st' := [.int 1]) (by rfl) ?_
      refine Pa.iret (by rfl) ?_
      exact l12 h2 h6 h12 h14 yh16 h18 h21 h24
  refine And.intro (fun (h25 : yg.toInt = 61) yt ht => ?_) (fun (h26 : yg.toInt ≠ 61) => ?_)
  · obtain rfl : 131 = yt := by injection ht
    refine Pa.mp 2 (pc' := 133) (l' := [(0, .int yg), (1, .int yx), (2, .int yy)]) (st' := [.int yy, .int yx]) (by rfl) ?_
    refine Pa.if2 (a := yx.toInt) (b := yy.toInt) (t := 140) (by rfl) (by rfl) (rfl) (rfl) (fun h27 => ?_) (fun h28 => ?_)
    · have h27 : yx.toInt ≠ yy.toInt := h27
      refine Pa.ic (x := 0) (pc' := 141) (by rfl) (by rfl) (by decide) ?_
      refine Pa.iret (by rfl) ?_
      exact l13 h2 h6 h12 h14 yh16 h18 h22 h25 h27
    · have h28 : yx.toInt = yy.toInt := h28
      refine Pa.ic (x := 1) (pc' := 137) (by rfl) (by rfl) (by decide) ?_
      refine Pa.mp 1 (pc' := 141) (l' := [(0, .int yg), (1, .int yx), (2, .int yy)]) (st' := [.int 1]) (by rfl) ?_
      refine Pa.iret (by rfl) ?_
      exact l14 h2 h6 h12 h14 yh16 h18 h22 h25 h28
  refine And.intro (fun (h29 : yg.toInt = 62) yt ht => ?_) (fun (h30 : yg.toInt ≠ 62) => ?_)
  · obtain rfl : 142 = yt := by injection ht
    refine Pa.mp 2 (pc' := 144) (l' := [(0, .int yg), (1, .int yx), (2, .int yy)]) (st' := [.int yy, .int yx]) (by rfl) ?_
    refine Pa.if2 (a := yx.toInt) (b := yy.toInt) (t := 151) (by rfl) (by rfl) (rfl) (rfl) (fun h31 => ?_) (fun h32 => ?_)
    · have h31 : yx.toInt ≤ yy.toInt := h31
      refine Pa.ic (x := 0) (pc' := 152) (by rfl) (by rfl) (by decide) ?_
      refine Pa.iret (by rfl) ?_
      exact l15 h2 h6 h12 h14 yh16 h18 h22 h26 h29 h31
    · have h32 : yy.toInt < yx.toInt := h32
      refine Pa.ic (x := 1) (pc' := 148) (by rfl) (by rfl) (by decide) ?_
      refine Pa.mp 1 (pc' := 152) (l' := [(0, .int yg), (1, .int yx), (2, .int yy)]) (st' := [.int 1]) (by rfl) ?_
      refine Pa.iret (by rfl) ?_
      exact l16 h2 h6 h12 h14 yh16 h18 h22 h26 h29 h32
  refine And.intro (fun (h33 : yg.toInt = 124) yt ht => ?_) (fun (h34 : yg.toInt ≠ 124) => ?_)
  · obtain rfl : 92 = yt := by injection ht
    refine Pa.mp 1 (pc' := 93) (l' := [(0, .int yg), (1, .int yx), (2, .int yy)]) (st' := [.int yx]) (by rfl) ?_
    refine Pa.if1 (a := yx.toInt) (t := 100) (by rfl) (by rfl) (rfl) (fun h35 => ?_) (fun h36 => ?_)
    · have h35 : yx.toInt ≠ 0 := h35
      refine Pa.ic (x := 1) (pc' := 101) (by rfl) (by rfl) (by decide) ?_
      refine Pa.mp 1 (pc' := 105) (l' := [(0, .int yg), (1, .int yx), (2, .int yy)]) (st' := [.int 1]) (by rfl) ?_
      refine Pa.iret (by rfl) ?_
      exact l17 h2 h6 h12 h14 yh16 h18 h22 h26 h30 h33 h35
    · have h36 : yx.toInt = 0 := h36
      refine Pa.mp 1 (pc' := 97) (l' := [(0, .int yg), (1, .int yx), (2, .int yy)]) (st' := [.int yy]) (by rfl) ?_
      refine Pa.if1 (a := yy.toInt) (t := 104) (by rfl) (by rfl) (rfl) (fun h37 => ?_) (fun h38 => ?_)
      · have h37 : yy.toInt = 0 := h37
        refine Pa.ic (x := 0) (pc' := 105) (by rfl) (by rfl) (by decide) ?_
        refine Pa.iret (by rfl) ?_
        exact l18 h2 h6 h12 h14 yh16 h18 h22 h26 h30 h33 h36 h37
      · have h38 : yy.toInt ≠ 0 := h38
        refine Pa.ic (x := 1) (pc' := 101) (by rfl) (by rfl) (by decide) ?_
        refine Pa.mp 1 (pc' := 105) (l' := [(0, .int yg), (1, .int yx), (2, .int yy)]) (st' := [.int 1]) (by rfl) ?_
        refine Pa.iret (by rfl) ?_
        exact l19 h2 h6 h12 h14 yh16 h18 h22 h26 h30 h33 h36 h38
  intro yt ht
  obtain rfl : 189 = yt := by injection ht
  refine Pa.ic (x := 0) (pc' := 190) (by rfl) (by rfl) (by decide) ?_
  refine Pa.iret (by rfl) ?_
  exact l20 h2 h6 h12 h14 yh16 h18 h22 h26 h30 h34

theorem c_join (N : Nat) (yA : AW) (yg yx yy : Int32) : Pa N 8 0 [(0, .int yg), (1, .int yx), (2, .int yy)] [] yA (fun yu A1 => yu = some (.int (jnX yg yx yy)) ∧ A1 = yA) := by
  unfold jnX
  refine bx_join yg yx yy ?_ ?_ ?_ ?_ ?_ ?_ ?_ ?_ ?_ ?_ ?_ ?_ ?_ ?_ ?_ ?_ ?_ ?_ ?_ ?_
  all_goals
    intros
    refine ⟨?_, rfl⟩
    repeat first
      | rw [if_pos (by omega)]
      | rw [if_neg (by omega)]
theorem bx_eol0 {N : Nat} {yA : AW} {yQ : Option Value → AW → Prop} (ya : Nat) (yi : Int32)
    (l1 : Pa N 5 2 [(0, .ref ya), (1, .int yi), (2, .int yi)] [] yA yQ) :
    Pa N 5 0 [(0, .ref ya), (1, .int yi)] [] yA yQ := by
  refine Pa.mp 2 (pc' := 2) (l' := [(2, .int yi), (0, .ref ya), (1, .int yi)]) (st' := []) (by rfl) ?_
  refine Pa.lv (l' := [(0, .ref ya), (1, .int yi), (2, .int yi)]) (lvS_c rfl (lvS_c rfl (lvS_c rfl (lvS_nil)))) rfl ?_
  exact l1

theorem bx_eol {N : Nat} {yA : AW} {yQ : Option Value → AW → Prop} (ya : Nat) (yi yj : Int32)
    (l1 : (Int32.ofNat (yA.2.2.2.1 ya)).toInt ≤ yj.toInt → yQ (some (.int yj)) yA)
    (l2 : yj.toInt < (Int32.ofNat (yA.2.2.2.1 ya)).toInt → 0 ≤ yj.toInt → yj.toInt < (yA.2.2.2.1 ya : Int) → (yA.1 ya yj.toInt.toNat).toInt = (-59) → yQ (some (.int yj)) yA)
    (l3 : yj.toInt < (Int32.ofNat (yA.2.2.2.1 ya)).toInt → 0 ≤ yj.toInt → yj.toInt < (yA.2.2.2.1 ya : Int) → (yA.1 ya yj.toInt.toNat).toInt ≠ (-59) → Pa N 5 2 [(0, .ref ya), (1, .int yi), (2, .int (yj + 1))] [] yA yQ) :
    Pa (N + 1) 5 2 [(0, .ref ya), (1, .int yi), (2, .int yj)] [] yA yQ := by
  refine Pa.mp1 1 (pc' := 4) (l' := [(0, .ref ya), (1, .int yi), (2, .int yj)]) (st' := [.ref ya, .int yj]) (by rfl) ?_
  refine Pa.lend (by rfl) ?_
  refine Pa.if2 (a := yj.toInt) (b := (Int32.ofNat (yA.2.2.2.1 ya)).toInt) (t := 22) (by rfl) (by rfl) (rfl) (rfl) (fun h1 => ?_) (fun h2 => ?_)
  · have h1 : (Int32.ofNat (yA.2.2.2.1 ya)).toInt ≤ yj.toInt := h1
    refine Pa.mp 1 (pc' := 23) (l' := [(0, .ref ya), (1, .int yi), (2, .int yj)]) (st' := [.int yj]) (by rfl) ?_
    refine Pa.iret (by rfl) ?_
    exact l1 h1
  · have h2 : yj.toInt < (Int32.ofNat (yA.2.2.2.1 ya)).toInt := h2
    refine Pa.mp 2 (pc' := 10) (l' := [(0, .ref ya), (1, .int yi), (2, .int yj)]) (st' := [.int yj, .ref ya]) (by rfl) ?_
    refine Pa.ald (v := yA.1 ya yj.toInt.toNat) (by rfl) (by rfl) (fun h3 h4 => ?_)
    refine Pa.ic (x := (-59)) (pc' := 13) (by rfl) (by rfl) (by decide) ?_
    refine Pa.if2 (a := (yA.1 ya yj.toInt.toNat).toInt) (b := (-59)) (t := 22) (by rfl) (by rfl) (rfl) (by decide) (fun h5 => ?_) (fun h6 => ?_)
    · have h5 : (yA.1 ya yj.toInt.toNat).toInt = (-59) := h5
      refine Pa.mp 1 (pc' := 23) (l' := [(0, .ref ya), (1, .int yi), (2, .int yj)]) (st' := [.int yj]) (by rfl) ?_
      refine Pa.iret (by rfl) ?_
      exact l2 h2 h3 h4 h5
    · have h6 : (yA.1 ya yj.toInt.toNat).toInt ≠ (-59) := h6
      refine Pa.iinc (x := yj) (c := 1) (v := (yj + 1)) (l' := [(2, .int (yj + 1)), (0, .ref ya), (1, .int yi)]) (by rfl) (by rfl) (by decide) (by rfl) (by rfl) ?_
      refine Pa.mp 1 (pc' := 2) (l' := [(2, .int (yj + 1)), (0, .ref ya), (1, .int yi)]) (st' := []) (by rfl) ?_
      refine Pa.lv (l' := [(0, .ref ya), (1, .int yi), (2, .int (yj + 1))]) (lvS_c rfl (lvS_c rfl (lvS_c rfl (lvS_nil)))) rfl ?_
      exact l3 h2 h3 h4 h6

/-- where ya line of codes ends -/
def eoP (yA : AW) (ya yn yi ye : Nat) : Prop := yi ≤ ye ∧ ye ≤ yn ∧ (∀ yj, yi ≤ yj → yj < ye → (yA.1 ya yj).toInt ≠ -59) ∧ (ye < yn → (yA.1 ya ye).toInt = -59)
theorem c_eolL {yA : AW} {ya yn : Nat} (hn : yA.2.2.2.1 ya = yn) (hn2 : yn ≤ 161) : ∀ (N yi yj : Nat), yi ≤ yj → yj ≤ yn → (∀ yq, yi ≤ yq → yq < yj → (yA.1 ya yq).toInt ≠ -59) → Pa N 5 2 [(0, .ref ya), (1, .int (Int32.ofNat yi)), (2, .int (Int32.ofNat yj))] [] yA (fun yu A1 => ∃ ye, eoP yA ya yn yi ye ∧ yu = some (.int (Int32.ofNat ye)) ∧ A1 = yA) := by
  intro N
  induction N with
  | zero => intros; exact Pa.zero
  | succ N yih =>
    intro yi yj hij hj hq
    have ej : (Int32.ofNat yj).toInt = (yj : Int) := i32_nat (by omega)
    have en : (Int32.ofNat yn).toInt = (yn : Int) := i32_nat (by omega)
    refine bx_eol ya _ _ (fun h1 => ?_) (fun h1 h2 h3 h4 => ?_) (fun h1 h2 h3 h4 => ?_)
    · rw [hn, en, ej] at h1
      exact ⟨yj, ⟨hij, hj, hq, fun yh => by omega⟩, rfl, rfl⟩
    · rw [ej, Int.toNat_natCast] at h4
      exact ⟨yj, ⟨hij, hj, hq, fun _ => h4⟩, rfl, rfl⟩
    · rw [hn, en, ej] at h1
      rw [ej, Int.toNat_natCast] at h4
      rw [← on_succ yj]
      refine yih yi (yj + 1) (by omega) (by omega) (fun yq yq1 yq2 => ?_)
      by_cases ye : yq = yj
      · rw [ye]
        exact h4
      · exact hq yq yq1 (by omega)
theorem c_eol {yA : AW} {ya yn : Nat} (hn : yA.2.2.2.1 ya = yn) (hn2 : yn ≤ 161) (N yi : Nat) (yhi : yi ≤ yn) : Pa N 5 0 [(0, .ref ya), (1, .int (Int32.ofNat yi))] [] yA (fun yu A1 => ∃ ye, eoP yA ya yn yi ye ∧ yu = some (.int (Int32.ofNat ye)) ∧ A1 = yA) :=
  bx_eol0 ya _ (c_eolL hn hn2 N yi yi (Nat.le_refl _) yhi (fun yq yq1 yq2 => by omega))
/-! worlds of the runner -/
def rnW (yA : AW) (l yh : Int32) (yk : Nat → Int32) : AW := uF (uI (uI yA 38 9 l) 38 10 yh) 45 yk
section RNW
variable {yA : AW} {l yh l' h' yv : Int32} {yk : Nat → Int32} {yj : Nat}
theorem rnW_h : uI (rnW yA l yh yk) 38 10 h' = rnW yA l h' yk := by
  refine Prod.ext ?_ rfl
  funext c' k'
  simp only [rnW, uI, uF]
  repeat' split
  all_goals first
    | rfl
    | (exfalso; omega)
theorem rnW_l : uI (rnW yA l yh yk) 38 9 l' = rnW yA l' yh yk := by
  refine Prod.ext ?_ rfl
  funext c' k'
  simp only [rnW, uI, uF]
  repeat' split
  all_goals first
    | rfl
    | (exfalso; omega)
theorem rnW_p : uI (rnW yA l yh yk) 45 yj yv = rnW yA l yh (fun yq => if yq = yj then yv else yk yq) := by
  refine Prod.ext ?_ rfl
  funext c' k'
  simp only [rnW, uI, uF]
  repeat' split
  all_goals first
    | rfl
    | (exfalso; omega)
theorem rnW_c {yc yj : Nat} (h1 : yc ≠ 38) (h2 : yc ≠ 45) : (rnW yA l yh yk).1 yc yj = yA.1 yc yj := by
  unfold rnW
  rw [uF_c h2, uI_c h1, uI_c h1]
theorem rnW_9 : (rnW yA l yh yk).1 38 9 = l := by
  unfold rnW
  rw [uF_c (by decide), uI_k (by decide), uI_h]
theorem rnW_38 {yj : Nat} (h1 : yj ≠ 9) (h2 : yj ≠ 10) : (rnW yA l yh yk).1 38 yj = yA.1 38 yj := by
  unfold rnW
  rw [uF_c (by decide), uI_k h2, uI_k h1]
theorem rnW_mk : uI (uI yA 38 9 l) 38 10 yh = rnW yA l yh (yA.1 45) := by
  refine Prod.ext ?_ rfl
  funext c' k'
  simp only [rnW, uI, uF]
  repeat' split
  all_goals first
    | rfl
    | (exfalso; omega)
    | (subst_vars; rfl)
end RNW
/-- the stack yas ya list -/
def stR (yk : Nat → Int32) (yst : List Int32) : Prop := ∀ yq, yq < yst.length → yk (yst.length - 1 - yq) = yst.getD yq 0
theorem stR_nil {yk : Nat → Int32} : stR yk [] := fun yq yh => absurd yh (Nat.not_lt_zero yq)
theorem stR_tl {yk : Nat → Int32} {yv : Int32} {yst : List Int32} (yh : stR yk (yv :: yst)) : stR yk yst := fun yq hq => by
  have := yh (yq + 1) (by rw [List.length_cons]; omega)
  rw [List.length_cons, show yst.length + 1 - 1 - (yq + 1) = yst.length - 1 - yq from by omega] at this
  exact this
theorem stR_hd {yk : Nat → Int32} {yv : Int32} {yst : List Int32} (yh : stR yk (yv :: yst)) : yk yst.length = yv := by
  have := yh 0 (by rw [List.length_cons]; omega)
  rw [List.length_cons, show yst.length + 1 - 1 - 0 = yst.length from by omega] at this
  exact this
theorem stR_put {yk : Nat → Int32} {yv : Int32} {yst : List Int32} (yh : stR yk yst) : stR (fun yq => if yq = yst.length then yv else yk yq) (yv :: yst) := fun yq hq => by
  rw [List.length_cons] at hq ⊢
  cases yq with
  | zero =>
    show (if yst.length + 1 - 1 - 0 = yst.length then yv else _) = yv
    rw [if_pos (by omega)]
  | succ yq =>
    show (if yst.length + 1 - 1 - (yq + 1) = yst.length then yv else yk (yst.length + 1 - 1 - (yq + 1))) = yst.getD yq 0
    rw [if_neg (by omega), show yst.length + 1 - 1 - (yq + 1) = yst.length - 1 - yq from by omega]
    exact yh yq (by omega)
theorem drop_con {ds : List Int32} {yi : Nat} (yh : yi < ds.length) : ds.drop yi = ds.getD yi 0 :: ds.drop (yi + 1) := by
  rw [List.drop_eq_getElem_cons yh, List.getD_eq_getElem?_getD, List.getElem?_eq_getElem yh]
  rfl
theorem rnX_eol {yenv : Nat → Int32} {ds yst : List Int32} {ln : Nat} : ∀ (ym yi ye : Nat), yi + ym = ye → ye ≤ ds.length → (∀ yj, yi ≤ yj → yj < ye → (ds.getD yj 0).toInt ≠ -59) → (ye < ds.length → (ds.getD ye 0).toInt = -59) → rnX yenv (ds.drop yi) true yst ln = rnX yenv (ds.drop (ye + 1)) false yst ln
  | 0, yi, ye, h0, h1, h2, h3 => by
    have ye0 : yi = ye := by omega
    subst ye0
    by_cases yh : yi < ds.length
    · rw [drop_con yh]
      show rnX yenv (ds.drop (yi + 1)) (decide ((ds.getD yi 0).toInt ≠ -59)) yst ln = _
      rw [decide_eq_false (fun yq => yq (h3 yh))]
    · rw [List.drop_eq_nil_of_le (by omega), List.drop_eq_nil_of_le (by omega)]
      rfl
  | ym + 1, yi, ye, h0, h1, h2, h3 => by
    rw [drop_con (by omega)]
    show rnX yenv (ds.drop (yi + 1)) (decide ((ds.getD yi 0).toInt ≠ -59)) yst ln = _
    rw [decide_eq_true (h2 yi (Nat.le_refl _) (by omega))]
    exact rnX_eol ym (yi + 1) ye (by omega) h1 (fun yj j1 yj2 => h2 yj (by omega) yj2) h3
theorem bx_runZ {N : Nat} {yA : AW} {yQ : Option Value → AW → Prop} (yt yi yx yy : Int32) {ya : Nat} (l yz : Int32) (yk : Nat → Int32) (yha : 129 ≤ ya) (hz : (Int32.ofNat ((uF (uI (uI yA 38 9 l) 38 10 yz) 45 yk).2.2.2.1 ya)).toInt ≤ yi.toInt)
    (l1 : yQ (some (.int 0)) (uI (uF (uI (uI yA 38 9 l) 38 10 yz) 45 yk) 38 9 (-1))) :
    Pa (N + 1) 4 31 [(0, .ref 38), (1, .int yt), (2, .ref ya), (3, .int yi), (4, .int yx), (5, .int yy)] [] (uF (uI (uI yA 38 9 l) 38 10 yz) 45 yk) yQ := by
  refine Pa.mp1 0 (pc' := 32) (l' := [(0, .ref 38), (1, .int yt), (2, .ref ya), (3, .int yi), (4, .int yx), (5, .int yy)]) (st' := [.ref ya]) (by rfl) ?_
  refine Pa.mp 1 (pc' := 35) (l' := [(0, .ref 38), (1, .int yt), (2, .ref ya), (3, .int yi), (4, .int yx), (5, .int yy)]) (st' := []) (by rfl) ?_
  refine Pa.mp 2 (pc' := 37) (l' := [(0, .ref 38), (1, .int yt), (2, .ref ya), (3, .int yi), (4, .int yx), (5, .int yy)]) (st' := [.ref ya, .int yi]) (by rfl) ?_
  refine Pa.lend (by rfl) ?_
  refine Pa.if2 (a := yi.toInt) (b := (Int32.ofNat ((uF (uI (uI yA 38 9 l) 38 10 yz) 45 yk).2.2.2.1 ya)).toInt) (t := 182) (by rfl) (by rfl) (rfl) (rfl) (fun _ => ?_) (fun yh => (by exfalso; have h' : yi.toInt < (Int32.ofNat ((uF (uI (uI yA 38 9 l) 38 10 yz) 45 yk).2.2.2.1 ya)).toInt := yh; omega))
  refine Pa.mp 1 (pc' := 183) (l' := [(0, .ref 38), (1, .int yt), (2, .ref ya), (3, .int yi), (4, .int yx), (5, .int yy)]) (st' := [.ref 38]) (by rfl) ?_
  refine Pa.ic (x := (-1)) (pc' := 184) (by rfl) (by rfl) (by decide) ?_
  refine Pa.pfI (by rfl) (by rfl) (.inl rfl) (by rfl) ?_
  show Pa N 4 187 [(0, .ref 38), (1, .int yt), (2, .ref ya), (3, .int yi), (4, .int yx), (5, .int yy)] [] (uI (uF (uI (uI yA 38 9 l) 38 10 yz) 45 yk) 38 9 (-1)) _
  refine Pa.ic (x := 0) (pc' := 188) (by rfl) (by rfl) (by decide) ?_
  refine Pa.iret (by rfl) ?_
  exact l1

theorem bx_rune {N : Nat} {yA : AW} {yQ : Option Value → AW → Prop} (yt yi yx yy ye : Int32) {ya : Nat} (l yz : Int32) (yk : Nat → Int32)
    (l1 : Pa N 4 31 [(0, .ref 38), (1, .int yt), (2, .ref ya), (3, .int (ye + 1)), (4, .int yx), (5, .int yy)] [] (uI (uF (uI (uI yA 38 9 l) 38 10 yz) 45 yk) 38 9 (l + 1)) yQ) :
    Pa N 4 114 [(0, .ref 38), (1, .int yt), (2, .ref ya), (3, .int yi), (4, .int yx), (5, .int yy)] [.int ye] (uF (uI (uI yA 38 9 l) 38 10 yz) 45 yk) yQ := by
  refine Pa.mp 3 (pc' := 117) (l' := [(3, .int ye), (0, .ref 38), (1, .int yt), (2, .ref ya), (4, .int yx), (5, .int yy)]) (st' := [.ref 38, .ref 38]) (by rfl) ?_
  refine Pa.gfI (v := l) (by rfl) (by rfl) (.inl rfl) (by rfl) (by show (uF (uI (uI yA 38 9 l) 38 10 yz) 45 yk).1 38 9 = l; rw [uF_c (by decide), uI_k (by decide), uI_h]) ?_
  refine Pa.ic (x := 1) (pc' := 121) (by rfl) (by rfl) (by decide) ?_
  refine Pa.mp 1 (pc' := 122) (l' := [(3, .int ye), (0, .ref 38), (1, .int yt), (2, .ref ya), (4, .int yx), (5, .int yy)]) (st' := [.int (l + 1), .ref 38]) (by rfl) ?_
  refine Pa.pfI (by rfl) (by rfl) (.inl rfl) (by rfl) ?_
  show Pa N 4 125 [(3, .int ye), (0, .ref 38), (1, .int yt), (2, .ref ya), (4, .int yx), (5, .int yy)] [] (uI (uF (uI (uI yA 38 9 l) 38 10 yz) 45 yk) 38 9 (l + 1)) _
  refine Pa.mp 1 (pc' := 176) (l' := [(3, .int ye), (0, .ref 38), (1, .int yt), (2, .ref ya), (4, .int yx), (5, .int yy)]) (st' := []) (by rfl) ?_
  refine Pa.iinc (x := ye) (c := 1) (v := (ye + 1)) (l' := [(3, .int (ye + 1)), (0, .ref 38), (1, .int yt), (2, .ref ya), (4, .int yx), (5, .int yy)]) (by rfl) (by rfl) (by decide) (by rfl) (by rfl) ?_
  refine Pa.mp 1 (pc' := 31) (l' := [(3, .int (ye + 1)), (0, .ref 38), (1, .int yt), (2, .ref ya), (4, .int yx), (5, .int yy)]) (st' := []) (by rfl) ?_
  refine Pa.lv (l' := [(0, .ref 38), (1, .int yt), (2, .ref ya), (3, .int (ye + 1)), (4, .int yx), (5, .int yy)]) (lvS_c rfl (lvS_c rfl (lvS_c rfl (lvS_c rfl (lvS_c rfl (lvS_c rfl (lvS_nil))))))) rfl ?_
  exact l1
theorem bx_run {N : Nat} {yA : AW} {yQ : Option Value → AW → Prop} (yt yi yx yy : Int32) {ya : Nat} (l yz : Int32) (yk : Nat → Int32) (hh : 0 ≤ yz.toInt) (hh2 : yz.toInt < 161) (yha : 129 ≤ ya)
    (l1 : (Int32.ofNat ((uF (uI (uI yA 38 9 l) 38 10 yz) 45 yk).2.2.2.1 ya)).toInt ≤ yi.toInt → yQ (some (.int 0)) (uI (uF (uI (uI yA 38 9 l) 38 10 yz) 45 yk) 38 9 (-1)))
    (l2 : yi.toInt < (Int32.ofNat ((uF (uI (uI yA 38 9 l) 38 10 yz) 45 yk).2.2.2.1 ya)).toInt → 0 ≤ yi.toInt → yi.toInt < ((uF (uI (uI yA 38 9 l) 38 10 yz) 45 yk).2.2.2.1 ya : Int) → (yA.1 ya yi.toInt.toNat).toInt < 0 → (yA.1 ya yi.toInt.toNat).toInt < (-10) → (yA.1 ya yi.toInt.toNat).toInt ≠ (-59) → (yA.1 ya yi.toInt.toNat).toInt ≠ (-63) → (yA.1 ya yi.toInt.toNat).toInt ≠ (-33) → 1 ≤ yz.toInt → 0 ≤ (yz - 1).toInt → (yz - 1).toInt < 161 → 1 ≤ (yz - 1).toInt → 0 ≤ ((yz - 1) - 1).toInt → ((yz - 1) - 1).toInt < 161 → 161 ≤ ((yz - 1) - 1).toInt → Pa N 4 31 [(0, .ref 38), (1, .int yt), (2, .ref ya), (3, .int (yi + 1)), (4, .int (yA.1 ya yi.toInt.toNat)), (5, .int (yk ((yz - 1).toInt.toNat)))] [] (uI (uI (uF (uI (uI yA 38 9 l) 38 10 yz) 45 yk) 38 10 (yz - 1)) 38 10 ((yz - 1) - 1)) yQ)
    (l3 : yi.toInt < (Int32.ofNat ((uF (uI (uI yA 38 9 l) 38 10 yz) 45 yk).2.2.2.1 ya)).toInt → 0 ≤ yi.toInt → yi.toInt < ((uF (uI (uI yA 38 9 l) 38 10 yz) 45 yk).2.2.2.1 ya : Int) → (yA.1 ya yi.toInt.toNat).toInt < 0 → (yA.1 ya yi.toInt.toNat).toInt < (-10) → (yA.1 ya yi.toInt.toNat).toInt ≠ (-59) → (yA.1 ya yi.toInt.toNat).toInt ≠ (-63) → (yA.1 ya yi.toInt.toNat).toInt ≠ (-33) → 1 ≤ yz.toInt → 0 ≤ (yz - 1).toInt → (yz - 1).toInt < 161 → 1 ≤ (yz - 1).toInt → 0 ≤ ((yz - 1) - 1).toInt → ((yz - 1) - 1).toInt < 161 → Pa N 4 31 [(0, .ref 38), (1, .int yt), (2, .ref ya), (3, .int (yi + 1)), (4, .int (yA.1 ya yi.toInt.toNat)), (5, .int (yk ((yz - 1).toInt.toNat)))] [] (uI (uI (uI (uI (uF (uI (uI yA 38 9 l) 38 10 yz) 45 yk) 38 10 (yz - 1)) 38 10 ((yz - 1) - 1)) 45 (((yz - 1) - 1).toInt.toNat) (jnX (-(yA.1 ya yi.toInt.toNat)) (yk (((yz - 1) - 1).toInt.toNat)) (yk ((yz - 1).toInt.toNat)))) 38 10 (((yz - 1) - 1) + 1)) yQ)
    (l4 : yi.toInt < (Int32.ofNat ((uF (uI (uI yA 38 9 l) 38 10 yz) 45 yk).2.2.2.1 ya)).toInt → 0 ≤ yi.toInt → yi.toInt < ((uF (uI (uI yA 38 9 l) 38 10 yz) 45 yk).2.2.2.1 ya : Int) → (yA.1 ya yi.toInt.toNat).toInt < 0 → (yA.1 ya yi.toInt.toNat).toInt < (-10) → (yA.1 ya yi.toInt.toNat).toInt ≠ (-59) → (yA.1 ya yi.toInt.toNat).toInt ≠ (-63) → (yA.1 ya yi.toInt.toNat).toInt ≠ (-33) → 1 ≤ yz.toInt → 0 ≤ (yz - 1).toInt → (yz - 1).toInt < 161 → (yz - 1).toInt < 1 → Pa N 4 31 [(0, .ref 38), (1, .int yt), (2, .ref ya), (3, .int (yi + 1)), (4, .int (yA.1 ya yi.toInt.toNat)), (5, .int (yk ((yz - 1).toInt.toNat)))] [] (uI (uI (uI (uF (uI (uI yA 38 9 l) 38 10 yz) 45 yk) 38 10 (yz - 1)) 45 ((yz - 1).toInt.toNat) (jnX (-(yA.1 ya yi.toInt.toNat)) 0 (yk ((yz - 1).toInt.toNat)))) 38 10 ((yz - 1) + 1)) yQ)
    (l5 : yi.toInt < (Int32.ofNat ((uF (uI (uI yA 38 9 l) 38 10 yz) 45 yk).2.2.2.1 ya)).toInt → 0 ≤ yi.toInt → yi.toInt < ((uF (uI (uI yA 38 9 l) 38 10 yz) 45 yk).2.2.2.1 ya : Int) → (yA.1 ya yi.toInt.toNat).toInt < 0 → (yA.1 ya yi.toInt.toNat).toInt < (-10) → (yA.1 ya yi.toInt.toNat).toInt ≠ (-59) → (yA.1 ya yi.toInt.toNat).toInt ≠ (-63) → (yA.1 ya yi.toInt.toNat).toInt ≠ (-33) → yz.toInt < 1 → 0 ≤ yz.toInt → yz.toInt < 161 → Pa N 4 31 [(0, .ref 38), (1, .int yt), (2, .ref ya), (3, .int (yi + 1)), (4, .int (yA.1 ya yi.toInt.toNat)), (5, .int 0)] [] (uI (uI (uF (uI (uI yA 38 9 l) 38 10 yz) 45 yk) 45 yz.toInt.toNat (jnX (-(yA.1 ya yi.toInt.toNat)) 0 0)) 38 10 (yz + 1)) yQ)
    (l6 : yi.toInt < (Int32.ofNat ((uF (uI (uI yA 38 9 l) 38 10 yz) 45 yk).2.2.2.1 ya)).toInt → 0 ≤ yi.toInt → yi.toInt < ((uF (uI (uI yA 38 9 l) 38 10 yz) 45 yk).2.2.2.1 ya : Int) → (yA.1 ya yi.toInt.toNat).toInt < 0 → (yA.1 ya yi.toInt.toNat).toInt < (-10) → (yA.1 ya yi.toInt.toNat).toInt ≠ (-59) → (yA.1 ya yi.toInt.toNat).toInt ≠ (-63) → (yA.1 ya yi.toInt.toNat).toInt = (-33) → 1 ≤ yz.toInt → 0 ≤ (yz - 1).toInt → (yz - 1).toInt < 161 → (yk ((yz - 1).toInt.toNat)).toInt ≠ 0 → 161 ≤ (yz - 1).toInt → Pa N 4 31 [(0, .ref 38), (1, .int yt), (2, .ref ya), (3, .int (yi + 1)), (4, .int (yA.1 ya yi.toInt.toNat)), (5, .int yy)] [] (uI (uF (uI (uI yA 38 9 l) 38 10 yz) 45 yk) 38 10 (yz - 1)) yQ)
    (l7 : yi.toInt < (Int32.ofNat ((uF (uI (uI yA 38 9 l) 38 10 yz) 45 yk).2.2.2.1 ya)).toInt → 0 ≤ yi.toInt → yi.toInt < ((uF (uI (uI yA 38 9 l) 38 10 yz) 45 yk).2.2.2.1 ya : Int) → (yA.1 ya yi.toInt.toNat).toInt < 0 → (yA.1 ya yi.toInt.toNat).toInt < (-10) → (yA.1 ya yi.toInt.toNat).toInt ≠ (-59) → (yA.1 ya yi.toInt.toNat).toInt ≠ (-63) → (yA.1 ya yi.toInt.toNat).toInt = (-33) → 1 ≤ yz.toInt → 0 ≤ (yz - 1).toInt → (yz - 1).toInt < 161 → (yk ((yz - 1).toInt.toNat)).toInt ≠ 0 → Pa N 4 31 [(0, .ref 38), (1, .int yt), (2, .ref ya), (3, .int (yi + 1)), (4, .int (yA.1 ya yi.toInt.toNat)), (5, .int yy)] [] (uI (uI (uI (uF (uI (uI yA 38 9 l) 38 10 yz) 45 yk) 38 10 (yz - 1)) 45 ((yz - 1).toInt.toNat) 0) 38 10 ((yz - 1) + 1)) yQ)
    (l8 : yi.toInt < (Int32.ofNat ((uF (uI (uI yA 38 9 l) 38 10 yz) 45 yk).2.2.2.1 ya)).toInt → 0 ≤ yi.toInt → yi.toInt < ((uF (uI (uI yA 38 9 l) 38 10 yz) 45 yk).2.2.2.1 ya : Int) → (yA.1 ya yi.toInt.toNat).toInt < 0 → (yA.1 ya yi.toInt.toNat).toInt < (-10) → (yA.1 ya yi.toInt.toNat).toInt ≠ (-59) → (yA.1 ya yi.toInt.toNat).toInt ≠ (-63) → (yA.1 ya yi.toInt.toNat).toInt = (-33) → 1 ≤ yz.toInt → 0 ≤ (yz - 1).toInt → (yz - 1).toInt < 161 → (yk ((yz - 1).toInt.toNat)).toInt = 0 → 161 ≤ (yz - 1).toInt → Pa N 4 31 [(0, .ref 38), (1, .int yt), (2, .ref ya), (3, .int (yi + 1)), (4, .int (yA.1 ya yi.toInt.toNat)), (5, .int yy)] [] (uI (uF (uI (uI yA 38 9 l) 38 10 yz) 45 yk) 38 10 (yz - 1)) yQ)
    (l9 : yi.toInt < (Int32.ofNat ((uF (uI (uI yA 38 9 l) 38 10 yz) 45 yk).2.2.2.1 ya)).toInt → 0 ≤ yi.toInt → yi.toInt < ((uF (uI (uI yA 38 9 l) 38 10 yz) 45 yk).2.2.2.1 ya : Int) → (yA.1 ya yi.toInt.toNat).toInt < 0 → (yA.1 ya yi.toInt.toNat).toInt < (-10) → (yA.1 ya yi.toInt.toNat).toInt ≠ (-59) → (yA.1 ya yi.toInt.toNat).toInt ≠ (-63) → (yA.1 ya yi.toInt.toNat).toInt = (-33) → 1 ≤ yz.toInt → 0 ≤ (yz - 1).toInt → (yz - 1).toInt < 161 → (yk ((yz - 1).toInt.toNat)).toInt = 0 → Pa N 4 31 [(0, .ref 38), (1, .int yt), (2, .ref ya), (3, .int (yi + 1)), (4, .int (yA.1 ya yi.toInt.toNat)), (5, .int yy)] [] (uI (uI (uI (uF (uI (uI yA 38 9 l) 38 10 yz) 45 yk) 38 10 (yz - 1)) 45 ((yz - 1).toInt.toNat) 1) 38 10 ((yz - 1) + 1)) yQ)
    (l10 : yi.toInt < (Int32.ofNat ((uF (uI (uI yA 38 9 l) 38 10 yz) 45 yk).2.2.2.1 ya)).toInt → 0 ≤ yi.toInt → yi.toInt < ((uF (uI (uI yA 38 9 l) 38 10 yz) 45 yk).2.2.2.1 ya : Int) → (yA.1 ya yi.toInt.toNat).toInt < 0 → (yA.1 ya yi.toInt.toNat).toInt < (-10) → (yA.1 ya yi.toInt.toNat).toInt ≠ (-59) → (yA.1 ya yi.toInt.toNat).toInt ≠ (-63) → (yA.1 ya yi.toInt.toNat).toInt = (-33) → yz.toInt < 1 → 0 ≤ yz.toInt → yz.toInt < 161 → Pa N 4 31 [(0, .ref 38), (1, .int yt), (2, .ref ya), (3, .int (yi + 1)), (4, .int (yA.1 ya yi.toInt.toNat)), (5, .int yy)] [] (uI (uI (uF (uI (uI yA 38 9 l) 38 10 yz) 45 yk) 45 yz.toInt.toNat 1) 38 10 (yz + 1)) yQ)
    (l11 : yi.toInt < (Int32.ofNat ((uF (uI (uI yA 38 9 l) 38 10 yz) 45 yk).2.2.2.1 ya)).toInt → 0 ≤ yi.toInt → yi.toInt < ((uF (uI (uI yA 38 9 l) 38 10 yz) 45 yk).2.2.2.1 ya : Int) → (yA.1 ya yi.toInt.toNat).toInt < 0 → (yA.1 ya yi.toInt.toNat).toInt < (-10) → (yA.1 ya yi.toInt.toNat).toInt ≠ (-59) → (yA.1 ya yi.toInt.toNat).toInt = (-63) → 1 ≤ yz.toInt → 0 ≤ (yz - 1).toInt → (yz - 1).toInt < 161 → (yk ((yz - 1).toInt.toNat)).toInt ≠ 0 → Pa N 4 31 [(0, .ref 38), (1, .int yt), (2, .ref ya), (3, .int (yi + 1)), (4, .int (yA.1 ya yi.toInt.toNat)), (5, .int yy)] [] (uI (uF (uI (uI yA 38 9 l) 38 10 yz) 45 yk) 38 10 (yz - 1)) yQ)
    (l12 : yi.toInt < (Int32.ofNat ((uF (uI (uI yA 38 9 l) 38 10 yz) 45 yk).2.2.2.1 ya)).toInt → 0 ≤ yi.toInt → yi.toInt < ((uF (uI (uI yA 38 9 l) 38 10 yz) 45 yk).2.2.2.1 ya : Int) → (yA.1 ya yi.toInt.toNat).toInt < 0 → (yA.1 ya yi.toInt.toNat).toInt < (-10) → (yA.1 ya yi.toInt.toNat).toInt ≠ (-59) → (yA.1 ya yi.toInt.toNat).toInt = (-63) → 1 ≤ yz.toInt → 0 ≤ (yz - 1).toInt → (yz - 1).toInt < 161 → (yk ((yz - 1).toInt.toNat)).toInt = 0 → Pa N 5 0 [(0, .ref ya), (1, .int yi)] [] (uI (uF (uI (uI yA 38 9 l) 38 10 yz) 45 yk) 38 10 (yz - 1)) (fun yu A1 => Pa N 4 114 [(0, .ref 38), (1, .int yt), (2, .ref ya), (3, .int yi), (4, .int (yA.1 ya yi.toInt.toNat)), (5, .int yy)] (yu.toList ++ []) A1 yQ))
    (l13 : yi.toInt < (Int32.ofNat ((uF (uI (uI yA 38 9 l) 38 10 yz) 45 yk).2.2.2.1 ya)).toInt → 0 ≤ yi.toInt → yi.toInt < ((uF (uI (uI yA 38 9 l) 38 10 yz) 45 yk).2.2.2.1 ya : Int) → (yA.1 ya yi.toInt.toNat).toInt < 0 → (yA.1 ya yi.toInt.toNat).toInt < (-10) → (yA.1 ya yi.toInt.toNat).toInt ≠ (-59) → (yA.1 ya yi.toInt.toNat).toInt = (-63) → yz.toInt < 1 → Pa N 5 0 [(0, .ref ya), (1, .int yi)] [] (uF (uI (uI yA 38 9 l) 38 10 yz) 45 yk) (fun yu A1 => Pa N 4 114 [(0, .ref 38), (1, .int yt), (2, .ref ya), (3, .int yi), (4, .int (yA.1 ya yi.toInt.toNat)), (5, .int yy)] (yu.toList ++ []) A1 yQ))
    (l14 : yi.toInt < (Int32.ofNat ((uF (uI (uI yA 38 9 l) 38 10 yz) 45 yk).2.2.2.1 ya)).toInt → 0 ≤ yi.toInt → yi.toInt < ((uF (uI (uI yA 38 9 l) 38 10 yz) 45 yk).2.2.2.1 ya : Int) → (yA.1 ya yi.toInt.toNat).toInt < 0 → (yA.1 ya yi.toInt.toNat).toInt < (-10) → (yA.1 ya yi.toInt.toNat).toInt = (-59) → 1 ≤ yz.toInt → 0 ≤ (yz - 1).toInt → (yz - 1).toInt < 161 → yQ (some (.int (yk ((yz - 1).toInt.toNat)))) (uI (uF (uI (uI yA 38 9 l) 38 10 yz) 45 yk) 38 10 (yz - 1)))
    (l15 : yi.toInt < (Int32.ofNat ((uF (uI (uI yA 38 9 l) 38 10 yz) 45 yk).2.2.2.1 ya)).toInt → 0 ≤ yi.toInt → yi.toInt < ((uF (uI (uI yA 38 9 l) 38 10 yz) 45 yk).2.2.2.1 ya : Int) → (yA.1 ya yi.toInt.toNat).toInt < 0 → (yA.1 ya yi.toInt.toNat).toInt < (-10) → (yA.1 ya yi.toInt.toNat).toInt = (-59) → yz.toInt < 1 → yQ (some (.int 0)) (uF (uI (uI yA 38 9 l) 38 10 yz) 45 yk))
    (l16 : yi.toInt < (Int32.ofNat ((uF (uI (uI yA 38 9 l) 38 10 yz) 45 yk).2.2.2.1 ya)).toInt → 0 ≤ yi.toInt → yi.toInt < ((uF (uI (uI yA 38 9 l) 38 10 yz) 45 yk).2.2.2.1 ya : Int) → (yA.1 ya yi.toInt.toNat).toInt < 0 → (-10) ≤ (yA.1 ya yi.toInt.toNat).toInt → 0 ≤ ((-1) - (yA.1 ya yi.toInt.toNat)).toInt → ((-1) - (yA.1 ya yi.toInt.toNat)).toInt < 10 → 0 ≤ yz.toInt → yz.toInt < 161 → Pa N 4 31 [(0, .ref 38), (1, .int yt), (2, .ref ya), (3, .int (yi + 1)), (4, .int (yA.1 ya yi.toInt.toNat)), (5, .int yy)] [] (uI (uI (uF (uI (uI yA 38 9 l) 38 10 yz) 45 yk) 45 yz.toInt.toNat (yA.1 44 (((-1) - (yA.1 ya yi.toInt.toNat)).toInt.toNat))) 38 10 (yz + 1)) yQ)
    (l17 : yi.toInt < (Int32.ofNat ((uF (uI (uI yA 38 9 l) 38 10 yz) 45 yk).2.2.2.1 ya)).toInt → 0 ≤ yi.toInt → yi.toInt < ((uF (uI (uI yA 38 9 l) 38 10 yz) 45 yk).2.2.2.1 ya : Int) → 0 ≤ (yA.1 ya yi.toInt.toNat).toInt → 0 ≤ yz.toInt → yz.toInt < 161 → Pa N 4 31 [(0, .ref 38), (1, .int yt), (2, .ref ya), (3, .int (yi + 1)), (4, .int (yA.1 ya yi.toInt.toNat)), (5, .int yy)] [] (uI (uI (uF (uI (uI yA 38 9 l) 38 10 yz) 45 yk) 45 yz.toInt.toNat (yA.1 ya yi.toInt.toNat)) 38 10 (yz + 1)) yQ) :
    Pa (N + 1) 4 31 [(0, .ref 38), (1, .int yt), (2, .ref ya), (3, .int yi), (4, .int yx), (5, .int yy)] [] (uF (uI (uI yA 38 9 l) 38 10 yz) 45 yk) yQ := by
  refine Pa.mp1 0 (pc' := 32) (l' := [(0, .ref 38), (1, .int yt), (2, .ref ya), (3, .int yi), (4, .int yx), (5, .int yy)]) (st' := [.ref ya]) (by rfl) ?_
  refine Pa.mp 1 (pc' := 35) (l' := [(0, .ref 38), (1, .int yt), (2, .ref ya), (3, .int yi), (4, .int yx), (5, .int yy)]) (st' := []) (by rfl) ?_
  refine Pa.mp 2 (pc' := 37) (l' := [(0, .ref 38), (1, .int yt), (2, .ref ya), (3, .int yi), (4, .int yx), (5, .int yy)]) (st' := [.ref ya, .int yi]) (by rfl) ?_
  refine Pa.lend (by rfl) ?_
  refine Pa.if2 (a := yi.toInt) (b := (Int32.ofNat ((uF (uI (uI yA 38 9 l) 38 10 yz) 45 yk).2.2.2.1 ya)).toInt) (t := 182) (by rfl) (by rfl) (rfl) (rfl) (fun h1 => ?_) (fun h2 => ?_)
  · have h1 : (Int32.ofNat ((uF (uI (uI yA 38 9 l) 38 10 yz) 45 yk).2.2.2.1 ya)).toInt ≤ yi.toInt := h1
    refine Pa.mp 1 (pc' := 183) (l' := [(0, .ref 38), (1, .int yt), (2, .ref ya), (3, .int yi), (4, .int yx), (5, .int yy)]) (st' := [.ref 38]) (by rfl) ?_
    refine Pa.ic (x := (-1)) (pc' := 184) (by rfl) (by rfl) (by decide) ?_
    refine Pa.pfI (by rfl) (by rfl) (.inl rfl) (by rfl) ?_
    show Pa N 4 187 [(0, .ref 38), (1, .int yt), (2, .ref ya), (3, .int yi), (4, .int yx), (5, .int yy)] [] (uI (uF (uI (uI yA 38 9 l) 38 10 yz) 45 yk) 38 9 (-1)) _
    refine Pa.ic (x := 0) (pc' := 188) (by rfl) (by rfl) (by decide) ?_
    refine Pa.iret (by rfl) ?_
    exact l1 h1
  · have h2 : yi.toInt < (Int32.ofNat ((uF (uI (uI yA 38 9 l) 38 10 yz) 45 yk).2.2.2.1 ya)).toInt := h2
    refine Pa.mp 2 (pc' := 43) (l' := [(0, .ref 38), (1, .int yt), (2, .ref ya), (3, .int yi), (4, .int yx), (5, .int yy)]) (st' := [.int yi, .ref ya]) (by rfl) ?_
    refine Pa.ald (v := yA.1 ya yi.toInt.toNat) (by rfl) (by show (uF (uI (uI yA 38 9 l) 38 10 yz) 45 yk).1 ya yi.toInt.toNat = yA.1 ya yi.toInt.toNat; rw [uF_c (by omega), uI_c (by omega), uI_c (by omega)]) (fun h3 h4 => ?_)
    refine Pa.mp 2 (pc' := 48) (l' := [(4, .int (yA.1 ya yi.toInt.toNat)), (0, .ref 38), (1, .int yt), (2, .ref ya), (3, .int yi), (5, .int yy)]) (st' := [.int (yA.1 ya yi.toInt.toNat)]) (by rfl) ?_
    refine Pa.if1 (a := (yA.1 ya yi.toInt.toNat).toInt) (t := 60) (by rfl) (by rfl) (rfl) (fun h5 => ?_) (fun h6 => ?_)
    · have h5 : (yA.1 ya yi.toInt.toNat).toInt < 0 := h5
      refine Pa.mp 1 (pc' := 62) (l' := [(4, .int (yA.1 ya yi.toInt.toNat)), (0, .ref 38), (1, .int yt), (2, .ref ya), (3, .int yi), (5, .int yy)]) (st' := [.int (yA.1 ya yi.toInt.toNat)]) (by rfl) ?_
      refine Pa.ic (x := (-10)) (pc' := 64) (by rfl) (by rfl) (by decide) ?_
      refine Pa.if2 (a := (yA.1 ya yi.toInt.toNat).toInt) (b := (-10)) (t := 83) (by rfl) (by rfl) (rfl) (by decide) (fun h7 => ?_) (fun h8 => ?_)
      · have h7 : (yA.1 ya yi.toInt.toNat).toInt < (-10) := h7
        refine Pa.mp 1 (pc' := 85) (l' := [(4, .int (yA.1 ya yi.toInt.toNat)), (0, .ref 38), (1, .int yt), (2, .ref ya), (3, .int yi), (5, .int yy)]) (st' := [.int (yA.1 ya yi.toInt.toNat)]) (by rfl) ?_
        refine Pa.ic (x := (-59)) (pc' := 87) (by rfl) (by rfl) (by decide) ?_
        refine Pa.if2 (a := (yA.1 ya yi.toInt.toNat).toInt) (b := (-59)) (t := 95) (by rfl) (by rfl) (rfl) (by decide) (fun h9 => ?_) (fun h10 => ?_)
        · have h9 : (yA.1 ya yi.toInt.toNat).toInt ≠ (-59) := h9
          refine Pa.mp 1 (pc' := 97) (l' := [(4, .int (yA.1 ya yi.toInt.toNat)), (0, .ref 38), (1, .int yt), (2, .ref ya), (3, .int yi), (5, .int yy)]) (st' := [.int (yA.1 ya yi.toInt.toNat)]) (by rfl) ?_
          refine Pa.ic (x := (-63)) (pc' := 99) (by rfl) (by rfl) (by decide) ?_
          refine Pa.if2 (a := (yA.1 ya yi.toInt.toNat).toInt) (b := (-63)) (t := 128) (by rfl) (by rfl) (rfl) (by decide) (fun h11 => ?_) (fun h12 => ?_)
          · have h11 : (yA.1 ya yi.toInt.toNat).toInt ≠ (-63) := h11
            refine Pa.mp 1 (pc' := 130) (l' := [(4, .int (yA.1 ya yi.toInt.toNat)), (0, .ref 38), (1, .int yt), (2, .ref ya), (3, .int yi), (5, .int yy)]) (st' := [.int (yA.1 ya yi.toInt.toNat)]) (by rfl) ?_
            refine Pa.ic (x := (-33)) (pc' := 132) (by rfl) (by rfl) (by decide) ?_
            refine Pa.if2 (a := (yA.1 ya yi.toInt.toNat).toInt) (b := (-33)) (t := 154) (by rfl) (by rfl) (rfl) (by decide) (fun h13 => ?_) (fun h14 => ?_)
            · have h13 : (yA.1 ya yi.toInt.toNat).toInt ≠ (-33) := h13
              refine Pa.mp 1 (pc' := 155) (l' := [(4, .int (yA.1 ya yi.toInt.toNat)), (0, .ref 38), (1, .int yt), (2, .ref ya), (3, .int yi), (5, .int yy)]) (st' := [.ref 38]) (by rfl) ?_
              refine Pa.inv (by rfl) (by rfl) (.inl rfl) (by rfl) ?_
              show Pa N 7 0 [(0, .ref 38)] [] (uF (uI (uI yA 38 9 l) 38 10 yz) 45 yk) _
              refine Pa.mp 1 (pc' := 1) (l' := [(0, .ref 38)]) (st' := [.ref 38]) (by rfl) ?_
              refine Pa.gfI (v := yz) (by rfl) (by rfl) (.inl rfl) (by rfl) (by show (uF (uI (uI yA 38 9 l) 38 10 yz) 45 yk).1 38 10 = yz; rw [uF_c (by decide), uI_h]) ?_
              refine Pa.ic (x := 1) (pc' := 5) (by rfl) (by rfl) (by decide) ?_
              refine Pa.if2 (a := yz.toInt) (b := 1) (t := 10) (by rfl) (by rfl) (rfl) (by decide) (fun h15 => ?_) (fun yh16 => ?_)
              · have h15 : 1 ≤ yz.toInt := h15
                refine Pa.mp 2 (pc' := 12) (l' := [(0, .ref 38)]) (st' := [.ref 38, .ref 38]) (by rfl) ?_
                refine Pa.gfI (v := yz) (by rfl) (by rfl) (.inl rfl) (by rfl) (by show (uF (uI (uI yA 38 9 l) 38 10 yz) 45 yk).1 38 10 = yz; rw [uF_c (by decide), uI_h]) ?_
                refine Pa.ic (x := 1) (pc' := 16) (by rfl) (by rfl) (by decide) ?_
                refine Pa.mp 1 (pc' := 17) (l' := [(0, .ref 38)]) (st' := [.int (yz - 1), .ref 38]) (by rfl) ?_
                refine Pa.pfI (by rfl) (by rfl) (.inl rfl) (by rfl) ?_
                show Pa N 7 20 [(0, .ref 38)] [] (uI (uF (uI (uI yA 38 9 l) 38 10 yz) 45 yk) 38 10 (yz - 1)) _
                refine Pa.mp 1 (pc' := 21) (l' := [(0, .ref 38)]) (st' := [.ref 38]) (by rfl) ?_
                refine Pa.gfR (by rfl) (by rfl) (.inl rfl) (by rfl) ?_
                show Pa N 7 24 [(0, .ref 38)] [.ref 45] (uI (uF (uI (uI yA 38 9 l) 38 10 yz) 45 yk) 38 10 (yz - 1)) _
                refine Pa.mp 1 (pc' := 25) (l' := [(0, .ref 38)]) (st' := [.ref 38, .ref 45]) (by rfl) ?_
                refine Pa.gfI (v := yz - 1) (by rfl) (by rfl) (.inl rfl) (by rfl) (by show (uI (uF (uI (uI yA 38 9 l) 38 10 yz) 45 yk) 38 10 (yz - 1)).1 38 10 = yz - 1; rw [uI_h]) ?_
                refine Pa.alds (v := yk ((yz - 1).toInt.toNat)) (by rfl) (by rfl) (by show (uI (uF (uI (uI yA 38 9 l) 38 10 yz) 45 yk) 38 10 (yz - 1)).1 45 ((yz - 1).toInt.toNat) = yk ((yz - 1).toInt.toNat); rw [uI_c (by decide), uF_h]) (fun h17 h18 => ?_)
                have h17 : 0 ≤ (yz - 1).toInt := h17
                have h18 : (yz - 1).toInt < 161 := h18
                refine Pa.iret (by rfl) ?_
                show Pa N 4 158 [(4, .int (yA.1 ya yi.toInt.toNat)), (0, .ref 38), (1, .int yt), (2, .ref ya), (3, .int yi), (5, .int yy)] [.int (yk ((yz - 1).toInt.toNat))] (uI (uF (uI (uI yA 38 9 l) 38 10 yz) 45 yk) 38 10 (yz - 1)) _
                refine Pa.mp 5 (pc' := 165) (l' := [(5, .int (yk ((yz - 1).toInt.toNat))), (4, .int (yA.1 ya yi.toInt.toNat)), (0, .ref 38), (1, .int yt), (2, .ref ya), (3, .int yi)]) (st' := [.ref 38, .int (-(yA.1 ya yi.toInt.toNat)), .ref 38]) (by rfl) ?_
                refine Pa.inv (by rfl) (by rfl) (.inl rfl) (by rfl) ?_
                show Pa N 7 0 [(0, .ref 38)] [] (uI (uF (uI (uI yA 38 9 l) 38 10 yz) 45 yk) 38 10 (yz - 1)) _
                refine Pa.mp 1 (pc' := 1) (l' := [(0, .ref 38)]) (st' := [.ref 38]) (by rfl) ?_
                refine Pa.gfI (v := yz - 1) (by rfl) (by rfl) (.inl rfl) (by rfl) (by show (uI (uF (uI (uI yA 38 9 l) 38 10 yz) 45 yk) 38 10 (yz - 1)).1 38 10 = yz - 1; rw [uI_h]) ?_
                refine Pa.ic (x := 1) (pc' := 5) (by rfl) (by rfl) (by decide) ?_
                refine Pa.if2 (a := (yz - 1).toInt) (b := 1) (t := 10) (by rfl) (by rfl) (rfl) (by decide) (fun h19 => ?_) (fun h20 => ?_)
                · have h19 : 1 ≤ (yz - 1).toInt := h19
                  refine Pa.mp 2 (pc' := 12) (l' := [(0, .ref 38)]) (st' := [.ref 38, .ref 38]) (by rfl) ?_
                  refine Pa.gfI (v := yz - 1) (by rfl) (by rfl) (.inl rfl) (by rfl) (by show (uI (uF (uI (uI yA 38 9 l) 38 10 yz) 45 yk) 38 10 (yz - 1)).1 38 10 = yz - 1; rw [uI_h]) ?_
                  refine Pa.ic (x := 1) (pc' := 16) (by rfl) (by rfl) (by decide) ?_
                  refine Pa.mp 1 (pc' := 17) (l' := [(0, .ref 38)]) (st' := [.int ((yz - 1) - 1), .ref 38]) (by rfl) ?_
                  refine Pa.pfI (by rfl) (by rfl) (.inl rfl) (by rfl) ?_
                  show Pa N 7 20 [(0, .ref 38)] [] (uI (uI (uF (uI (uI yA 38 9 l) 38 10 yz) 45 yk) 38 10 (yz - 1)) 38 10 ((yz - 1) - 1)) _
                  refine Pa.mp 1 (pc' := 21) (l' := [(0, .ref 38)]) (st' := [.ref 38]) (by rfl) ?_
                  refine Pa.gfR (by rfl) (by rfl) (.inl rfl) (by rfl) ?_
                  show Pa N 7 24 [(0, .ref 38)] [.ref 45] (uI (uI (uF (uI (uI yA 38 9 l) 38 10 yz) 45 yk) 38 10 (yz - 1)) 38 10 ((yz - 1) - 1)) _
                  refine Pa.mp 1 (pc' := 25) (l' := [(0, .ref 38)]) (st' := [.ref 38, .ref 45]) (by rfl) ?_
                  refine Pa.gfI (v := (yz - 1) - 1) (by rfl) (by rfl) (.inl rfl) (by rfl) (by show (uI (uI (uF (uI (uI yA 38 9 l) 38 10 yz) 45 yk) 38 10 (yz - 1)) 38 10 ((yz - 1) - 1)).1 38 10 = (yz - 1) - 1; rw [uI_h]) ?_
                  refine Pa.alds (v := yk (((yz - 1) - 1).toInt.toNat)) (by rfl) (by rfl) (by show (uI (uI (uF (uI (uI yA 38 9 l) 38 10 yz) 45 yk) 38 10 (yz - 1)) 38 10 ((yz - 1) - 1)).1 45 (((yz - 1) - 1).toInt.toNat) = yk (((yz - 1) - 1).toInt.toNat); rw [uI_c (by decide), uI_c (by decide), uF_h]) (fun h21 h22 => ?_)
                  have h21 : 0 ≤ ((yz - 1) - 1).toInt := h21
                  have h22 : ((yz - 1) - 1).toInt < 161 := h22
                  refine Pa.iret (by rfl) ?_
                  show Pa N 4 168 [(5, .int (yk ((yz - 1).toInt.toNat))), (4, .int (yA.1 ya yi.toInt.toNat)), (0, .ref 38), (1, .int yt), (2, .ref ya), (3, .int yi)] [.int (yk (((yz - 1) - 1).toInt.toNat)), .int (-(yA.1 ya yi.toInt.toNat)), .ref 38] (uI (uI (uF (uI (uI yA 38 9 l) 38 10 yz) 45 yk) 38 10 (yz - 1)) 38 10 ((yz - 1) - 1)) _
                  refine Pa.mp 1 (pc' := 170) (l' := [(5, .int (yk ((yz - 1).toInt.toNat))), (4, .int (yA.1 ya yi.toInt.toNat)), (0, .ref 38), (1, .int yt), (2, .ref ya), (3, .int yi)]) (st' := [.int (yk ((yz - 1).toInt.toNat)), .int (yk (((yz - 1) - 1).toInt.toNat)), .int (-(yA.1 ya yi.toInt.toNat)), .ref 38]) (by rfl) ?_
                  refine Pa.ist (by rfl) (by rfl) (.inl rfl) (by rfl) (by rfl) ?_
                  refine Pa.mono (c_join N (uI (uI (uF (uI (uI yA 38 9 l) 38 10 yz) 45 yk) 38 10 (yz - 1)) 38 10 ((yz - 1) - 1)) (-(yA.1 ya yi.toInt.toNat)) (yk (((yz - 1) - 1).toInt.toNat)) (yk ((yz - 1).toInt.toNat))) (fun yu A1 hu => ?_)
                  obtain ⟨rfl, hu⟩ := hu
                  rw [hu]
                  show Pa N 4 173 [(5, .int (yk ((yz - 1).toInt.toNat))), (4, .int (yA.1 ya yi.toInt.toNat)), (0, .ref 38), (1, .int yt), (2, .ref ya), (3, .int yi)] [.int (jnX (-(yA.1 ya yi.toInt.toNat)) (yk (((yz - 1) - 1).toInt.toNat)) (yk ((yz - 1).toInt.toNat))), .ref 38] (uI (uI (uF (uI (uI yA 38 9 l) 38 10 yz) 45 yk) 38 10 (yz - 1)) 38 10 ((yz - 1) - 1)) _
                  refine Pa.inv (by rfl) (by rfl) (.inl rfl) (by rfl) ?_
                  show Pa N 6 0 [(0, .ref 38), (1, .int (jnX (-(yA.1 ya yi.toInt.toNat)) (yk (((yz - 1) - 1).toInt.toNat)) (yk ((yz - 1).toInt.toNat))))] [] (uI (uI (uF (uI (uI yA 38 9 l) 38 10 yz) 45 yk) 38 10 (yz - 1)) 38 10 ((yz - 1) - 1)) _
                  refine Pa.mp 1 (pc' := 1) (l' := [(0, .ref 38), (1, .int (jnX (-(yA.1 ya yi.toInt.toNat)) (yk (((yz - 1) - 1).toInt.toNat)) (yk ((yz - 1).toInt.toNat))))]) (st' := [.ref 38]) (by rfl) ?_
                  refine Pa.gfI (v := (yz - 1) - 1) (by rfl) (by rfl) (.inl rfl) (by rfl) (by show (uI (uI (uF (uI (uI yA 38 9 l) 38 10 yz) 45 yk) 38 10 (yz - 1)) 38 10 ((yz - 1) - 1)).1 38 10 = (yz - 1) - 1; rw [uI_h]) ?_
                  refine Pa.mp 1 (pc' := 5) (l' := [(0, .ref 38), (1, .int (jnX (-(yA.1 ya yi.toInt.toNat)) (yk (((yz - 1) - 1).toInt.toNat)) (yk ((yz - 1).toInt.toNat))))]) (st' := [.ref 38, .int ((yz - 1) - 1)]) (by rfl) ?_
                  refine Pa.gfR (by rfl) (by rfl) (.inl rfl) (by rfl) ?_
                  show Pa N 6 8 [(0, .ref 38), (1, .int (jnX (-(yA.1 ya yi.toInt.toNat)) (yk (((yz - 1) - 1).toInt.toNat)) (yk ((yz - 1).toInt.toNat))))] [.ref 45, .int ((yz - 1) - 1)] (uI (uI (uF (uI (uI yA 38 9 l) 38 10 yz) 45 yk) 38 10 (yz - 1)) 38 10 ((yz - 1) - 1)) _
                  refine Pa.lens (x := 161) (by rfl) (by rfl) (by decide) ?_
                  refine Pa.if2 (a := ((yz - 1) - 1).toInt) (b := 161) (t := 32) (by rfl) (by rfl) (rfl) (by decide) (fun h23 => ?_) (fun h24 => ?_)
                  · have h23 : 161 ≤ ((yz - 1) - 1).toInt := h23
                    refine Pa.vret (by rfl) ?_
                    show Pa N 4 176 [(5, .int (yk ((yz - 1).toInt.toNat))), (4, .int (yA.1 ya yi.toInt.toNat)), (0, .ref 38), (1, .int yt), (2, .ref ya), (3, .int yi)] [] (uI (uI (uF (uI (uI yA 38 9 l) 38 10 yz) 45 yk) 38 10 (yz - 1)) 38 10 ((yz - 1) - 1)) _
                    refine Pa.iinc (x := yi) (c := 1) (v := (yi + 1)) (l' := [(3, .int (yi + 1)), (5, .int (yk ((yz - 1).toInt.toNat))), (4, .int (yA.1 ya yi.toInt.toNat)), (0, .ref 38), (1, .int yt), (2, .ref ya)]) (by rfl) (by rfl) (by decide) (by rfl) (by rfl) ?_
                    refine Pa.mp 1 (pc' := 31) (l' := [(3, .int (yi + 1)), (5, .int (yk ((yz - 1).toInt.toNat))), (4, .int (yA.1 ya yi.toInt.toNat)), (0, .ref 38), (1, .int yt), (2, .ref ya)]) (st' := []) (by rfl) ?_
                    refine Pa.lv (l' := [(0, .ref 38), (1, .int yt), (2, .ref ya), (3, .int (yi + 1)), (4, .int (yA.1 ya yi.toInt.toNat)), (5, .int (yk ((yz - 1).toInt.toNat)))]) (lvS_c rfl (lvS_c rfl (lvS_c rfl (lvS_c rfl (lvS_c rfl (lvS_c rfl (lvS_nil))))))) rfl ?_
                    exact l2 h2 h3 h4 h5 h7 h9 h11 h13 h15 h17 h18 h19 h21 h22 h23
                  · have h24 : ((yz - 1) - 1).toInt < 161 := h24
                    refine Pa.mp 1 (pc' := 13) (l' := [(0, .ref 38), (1, .int (jnX (-(yA.1 ya yi.toInt.toNat)) (yk (((yz - 1) - 1).toInt.toNat)) (yk ((yz - 1).toInt.toNat))))]) (st' := [.ref 38]) (by rfl) ?_
                    refine Pa.gfR (by rfl) (by rfl) (.inl rfl) (by rfl) ?_
                    show Pa N 6 16 [(0, .ref 38), (1, .int (jnX (-(yA.1 ya yi.toInt.toNat)) (yk (((yz - 1) - 1).toInt.toNat)) (yk ((yz - 1).toInt.toNat))))] [.ref 45] (uI (uI (uF (uI (uI yA 38 9 l) 38 10 yz) 45 yk) 38 10 (yz - 1)) 38 10 ((yz - 1) - 1)) _
                    refine Pa.mp 1 (pc' := 17) (l' := [(0, .ref 38), (1, .int (jnX (-(yA.1 ya yi.toInt.toNat)) (yk (((yz - 1) - 1).toInt.toNat)) (yk ((yz - 1).toInt.toNat))))]) (st' := [.ref 38, .ref 45]) (by rfl) ?_
                    refine Pa.gfI (v := (yz - 1) - 1) (by rfl) (by rfl) (.inl rfl) (by rfl) (by show (uI (uI (uF (uI (uI yA 38 9 l) 38 10 yz) 45 yk) 38 10 (yz - 1)) 38 10 ((yz - 1) - 1)).1 38 10 = (yz - 1) - 1; rw [uI_h]) ?_
                    refine Pa.mp 1 (pc' := 21) (l' := [(0, .ref 38), (1, .int (jnX (-(yA.1 ya yi.toInt.toNat)) (yk (((yz - 1) - 1).toInt.toNat)) (yk ((yz - 1).toInt.toNat))))]) (st' := [.int (jnX (-(yA.1 ya yi.toInt.toNat)) (yk (((yz - 1) - 1).toInt.toNat)) (yk ((yz - 1).toInt.toNat))), .int ((yz - 1) - 1), .ref 45]) (by rfl) ?_
                    refine Pa.asts (j' := (((yz - 1) - 1).toInt.toNat)) (by rfl) (by rfl) (by rfl) (fun h25 h26 => ?_)
                    have h25 : 0 ≤ ((yz - 1) - 1).toInt := h25
                    have h26 : ((yz - 1) - 1).toInt < 161 := h26
                    show Pa N 6 22 [(0, .ref 38), (1, .int (jnX (-(yA.1 ya yi.toInt.toNat)) (yk (((yz - 1) - 1).toInt.toNat)) (yk ((yz - 1).toInt.toNat))))] [] (uI (uI (uI (uF (uI (uI yA 38 9 l) 38 10 yz) 45 yk) 38 10 (yz - 1)) 38 10 ((yz - 1) - 1)) 45 (((yz - 1) - 1).toInt.toNat) (jnX (-(yA.1 ya yi.toInt.toNat)) (yk (((yz - 1) - 1).toInt.toNat)) (yk ((yz - 1).toInt.toNat)))) _
                    refine Pa.mp 2 (pc' := 24) (l' := [(0, .ref 38), (1, .int (jnX (-(yA.1 ya yi.toInt.toNat)) (yk (((yz - 1) - 1).toInt.toNat)) (yk ((yz - 1).toInt.toNat))))]) (st' := [.ref 38, .ref 38]) (by rfl) ?_
                    refine Pa.gfI (v := (yz - 1) - 1) (by rfl) (by rfl) (.inl rfl) (by rfl) (by show (uI (uI (uI (uF (uI (uI yA 38 9 l) 38 10 yz) 45 yk) 38 10 (yz - 1)) 38 10 ((yz - 1) - 1)) 45 (((yz - 1) - 1).toInt.toNat) (jnX (-(yA.1 ya yi.toInt.toNat)) (yk (((yz - 1) - 1).toInt.toNat)) (yk ((yz - 1).toInt.toNat)))).1 38 10 = (yz - 1) - 1; rw [uI_c (by decide), uI_h]) ?_
                    refine Pa.ic (x := 1) (pc' := 28) (by rfl) (by rfl) (by decide) ?_
                    refine Pa.mp 1 (pc' := 29) (l' := [(0, .ref 38), (1, .int (jnX (-(yA.1 ya yi.toInt.toNat)) (yk (((yz - 1) - 1).toInt.toNat)) (yk ((yz - 1).toInt.toNat))))]) (st' := [.int (((yz - 1) - 1) + 1), .ref 38]) (by rfl) ?_
                    refine Pa.pfI (by rfl) (by rfl) (.inl rfl) (by rfl) ?_
                    show Pa N 6 32 [(0, .ref 38), (1, .int (jnX (-(yA.1 ya yi.toInt.toNat)) (yk (((yz - 1) - 1).toInt.toNat)) (yk ((yz - 1).toInt.toNat))))] [] (uI (uI (uI (uI (uF (uI (uI yA 38 9 l) 38 10 yz) 45 yk) 38 10 (yz - 1)) 38 10 ((yz - 1) - 1)) 45 (((yz - 1) - 1).toInt.toNat) (jnX (-(yA.1 ya yi.toInt.toNat)) (yk (((yz - 1) - 1).toInt.toNat)) (yk ((yz - 1).toInt.toNat)))) 38 10 (((yz - 1) - 1) + 1)) _
                    refine Pa.vret (by rfl) ?_
                    show Pa N 4 176 [(5, .int (yk ((yz - 1).toInt.toNat))), (4, .int (yA.1 ya yi.toInt.toNat)), (0, .ref 38), (1, .int yt), (2, .ref ya), (3, .int yi)] [] (uI (uI (uI (uI (uF (uI (uI yA 38 9 l) 38 10 yz) 45 yk) 38 10 (yz - 1)) 38 10 ((yz - 1) - 1)) 45 (((yz - 1) - 1).toInt.toNat) (jnX (-(yA.1 ya yi.toInt.toNat)) (yk (((yz - 1) - 1).toInt.toNat)) (yk ((yz - 1).toInt.toNat)))) 38 10 (((yz - 1) - 1) + 1)) _
                    refine Pa.iinc (x := yi) (c := 1) (v := (yi + 1)) (l' := [(3, .int (yi + 1)), (5, .int (yk ((yz - 1).toInt.toNat))), (4, .int (yA.1 ya yi.toInt.toNat)), (0, .ref 38), (1, .int yt), (2, .ref ya)]) (by rfl) (by rfl) (by decide) (by rfl) (by rfl) ?_
                    refine Pa.mp 1 (pc' := 31) (l' := [(3, .int (yi + 1)), (5, .int (yk ((yz - 1).toInt.toNat))), (4, .int (yA.1 ya yi.toInt.toNat)), (0, .ref 38), (1, .int yt), (2, .ref ya)]) (st' := []) (by rfl) ?_
                    refine Pa.lv (l' := [(0, .ref 38), (1, .int yt), (2, .ref ya), (3, .int (yi + 1)), (4, .int (yA.1 ya yi.toInt.toNat)), (5, .int (yk ((yz - 1).toInt.toNat)))]) (lvS_c rfl (lvS_c rfl (lvS_c rfl (lvS_c rfl (lvS_c rfl (lvS_c rfl (lvS_nil))))))) rfl ?_
                    exact l3 h2 h3 h4 h5 h7 h9 h11 h13 h15 h17 h18 h19 h21 h22
                · have h20 : (yz - 1).toInt < 1 := h20
                  refine Pa.ic (x := 0) (pc' := 9) (by rfl) (by rfl) (by decide) ?_
                  refine Pa.iret (by rfl) ?_
                  show Pa N 4 168 [(5, .int (yk ((yz - 1).toInt.toNat))), (4, .int (yA.1 ya yi.toInt.toNat)), (0, .ref 38), (1, .int yt), (2, .ref ya), (3, .int yi)] [.int 0, .int (-(yA.1 ya yi.toInt.toNat)), .ref 38] (uI (uF (uI (uI yA 38 9 l) 38 10 yz) 45 yk) 38 10 (yz - 1)) _
                  refine Pa.mp 1 (pc' := 170) (l' := [(5, .int (yk ((yz - 1).toInt.toNat))), (4, .int (yA.1 ya yi.toInt.toNat)), (0, .ref 38), (1, .int yt), (2, .ref ya), (3, .int yi)]) (st' := [.int (yk ((yz - 1).toInt.toNat)), .int 0, .int (-(yA.1 ya yi.toInt.toNat)), .ref 38]) (by rfl) ?_
                  refine Pa.ist (by rfl) (by rfl) (.inl rfl) (by rfl) (by rfl) ?_
                  refine Pa.mono (c_join N (uI (uF (uI (uI yA 38 9 l) 38 10 yz) 45 yk) 38 10 (yz - 1)) (-(yA.1 ya yi.toInt.toNat)) 0 (yk ((yz - 1).toInt.toNat))) (fun yu A1 hu => ?_)
                  obtain ⟨rfl, hu⟩ := hu
                  rw [hu]
                  show Pa N 4 173 [(5, .int (yk ((yz - 1).toInt.toNat))), (4, .int (yA.1 ya yi.toInt.toNat)), (0, .ref 38), (1, .int yt), (2, .ref ya), (3, .int yi)] [.int (jnX (-(yA.1 ya yi.toInt.toNat)) 0 (yk ((yz - 1).toInt.toNat))), .ref 38] (uI (uF (uI (uI yA 38 9 l) 38 10 yz) 45 yk) 38 10 (yz - 1)) _
                  refine Pa.inv (by rfl) (by rfl) (.inl rfl) (by rfl) ?_
                  show Pa N 6 0 [(0, .ref 38), (1, .int (jnX (-(yA.1 ya yi.toInt.toNat)) 0 (yk ((yz - 1).toInt.toNat))))] [] (uI (uF (uI (uI yA 38 9 l) 38 10 yz) 45 yk) 38 10 (yz - 1)) _
                  refine Pa.mp 1 (pc' := 1) (l' := [(0, .ref 38), (1, .int (jnX (-(yA.1 ya yi.toInt.toNat)) 0 (yk ((yz - 1).toInt.toNat))))]) (st' := [.ref 38]) (by rfl) ?_
                  refine Pa.gfI (v := yz - 1) (by rfl) (by rfl) (.inl rfl) (by rfl) (by show (uI (uF (uI (uI yA 38 9 l) 38 10 yz) 45 yk) 38 10 (yz - 1)).1 38 10 = yz - 1; rw [uI_h]) ?_
                  refine Pa.mp 1 (pc' := 5) (l' := [(0, .ref 38), (1, .int (jnX (-(yA.1 ya yi.toInt.toNat)) 0 (yk ((yz - 1).toInt.toNat))))]) (st' := [.ref 38, .int (yz - 1)]) (by rfl) ?_
                  refine Pa.gfR (by rfl) (by rfl) (.inl rfl) (by rfl) ?_
                  show Pa N 6 8 [(0, .ref 38), (1, .int (jnX (-(yA.1 ya yi.toInt.toNat)) 0 (yk ((yz - 1).toInt.toNat))))] [.ref 45, .int (yz - 1)] (uI (uF (uI (uI yA 38 9 l) 38 10 yz) 45 yk) 38 10 (yz - 1)) _
                  refine Pa.lens (x := 161) (by rfl) (by rfl) (by decide) ?_
                  refine Pa.if2 (a := (yz - 1).toInt) (b := 161) (t := 32) (by rfl) (by rfl) (rfl) (by decide) (fun yh => (by exfalso; have h' : 161 ≤ (yz - 1).toInt := yh; omega)) (fun _ => ?_)
                  refine Pa.mp 1 (pc' := 13) (l' := [(0, .ref 38), (1, .int (jnX (-(yA.1 ya yi.toInt.toNat)) 0 (yk ((yz - 1).toInt.toNat))))]) (st' := [.ref 38]) (by rfl) ?_
                  refine Pa.gfR (by rfl) (by rfl) (.inl rfl) (by rfl) ?_
                  show Pa N 6 16 [(0, .ref 38), (1, .int (jnX (-(yA.1 ya yi.toInt.toNat)) 0 (yk ((yz - 1).toInt.toNat))))] [.ref 45] (uI (uF (uI (uI yA 38 9 l) 38 10 yz) 45 yk) 38 10 (yz - 1)) _
                  refine Pa.mp 1 (pc' := 17) (l' := [(0, .ref 38), (1, .int (jnX (-(yA.1 ya yi.toInt.toNat)) 0 (yk ((yz - 1).toInt.toNat))))]) (st' := [.ref 38, .ref 45]) (by rfl) ?_
                  refine Pa.gfI (v := yz - 1) (by rfl) (by rfl) (.inl rfl) (by rfl) (by show (uI (uF (uI (uI yA 38 9 l) 38 10 yz) 45 yk) 38 10 (yz - 1)).1 38 10 = yz - 1; rw [uI_h]) ?_
                  refine Pa.mp 1 (pc' := 21) (l' := [(0, .ref 38), (1, .int (jnX (-(yA.1 ya yi.toInt.toNat)) 0 (yk ((yz - 1).toInt.toNat))))]) (st' := [.int (jnX (-(yA.1 ya yi.toInt.toNat)) 0 (yk ((yz - 1).toInt.toNat))), .int (yz - 1), .ref 45]) (by rfl) ?_
                  refine Pa.asts (j' := ((yz - 1).toInt.toNat)) (by rfl) (by rfl) (by rfl) (fun h28 h29 => ?_)
                  have h28 : 0 ≤ (yz - 1).toInt := h28
                  have h29 : (yz - 1).toInt < 161 := h29
                  show Pa N 6 22 [(0, .ref 38), (1, .int (jnX (-(yA.1 ya yi.toInt.toNat)) 0 (yk ((yz - 1).toInt.toNat))))] [] (uI (uI (uF (uI (uI yA 38 9 l) 38 10 yz) 45 yk) 38 10 (yz - 1)) 45 ((yz - 1).toInt.toNat) (jnX (-(yA.1 ya yi.toInt.toNat)) 0 (yk ((yz - 1).toInt.toNat)))) _
                  refine Pa.mp 2 (pc' := 24) (l' := [(0, .ref 38), (1, .int (jnX (-(yA.1 ya yi.toInt.toNat)) 0 (yk ((yz - 1).toInt.toNat))))]) (st' := [.ref 38, .ref 38]) (by rfl) ?_
                  refine Pa.gfI (v := yz - 1) (by rfl) (by rfl) (.inl rfl) (by rfl) (by show (uI (uI (uF (uI (uI yA 38 9 l) 38 10 yz) 45 yk) 38 10 (yz - 1)) 45 ((yz - 1).toInt.toNat) (jnX (-(yA.1 ya yi.toInt.toNat)) 0 (yk ((yz - 1).toInt.toNat)))).1 38 10 = yz - 1; rw [uI_c (by decide), uI_h]) ?_
                  refine Pa.ic (x := 1) (pc' := 28) (by rfl) (by rfl) (by decide) ?_
                  refine Pa.mp 1 (pc' := 29) (l' := [(0, .ref 38), (1, .int (jnX (-(yA.1 ya yi.toInt.toNat)) 0 (yk ((yz - 1).toInt.toNat))))]) (st' := [.int ((yz - 1) + 1), .ref 38]) (by rfl) ?_
                  refine Pa.pfI (by rfl) (by rfl) (.inl rfl) (by rfl) ?_
                  show Pa N 6 32 [(0, .ref 38), (1, .int (jnX (-(yA.1 ya yi.toInt.toNat)) 0 (yk ((yz - 1).toInt.toNat))))] [] (uI (uI (uI (uF (uI (uI yA 38 9 l) 38 10 yz) 45 yk) 38 10 (yz - 1)) 45 ((yz - 1).toInt.toNat) (jnX (-(yA.1 ya yi.toInt.toNat)) 0 (yk ((yz - 1).toInt.toNat)))) 38 10 ((yz - 1) + 1)) _
                  refine Pa.vret (by rfl) ?_
                  show Pa N 4 176 [(5, .int (yk ((yz - 1).toInt.toNat))), (4, .int (yA.1 ya yi.toInt.toNat)), (0, .ref 38), (1, .int yt), (2, .ref ya), (3, .int yi)] [] (uI (uI (uI (uF (uI (uI yA 38 9 l) 38 10 yz) 45 yk) 38 10 (yz - 1)) 45 ((yz - 1).toInt.toNat) (jnX (-(yA.1 ya yi.toInt.toNat)) 0 (yk ((yz - 1).toInt.toNat)))) 38 10 ((yz - 1) + 1)) _
                  refine Pa.iinc (x := yi) (c := 1) (v := (yi + 1)) (l' := [(3, .int (yi + 1)), (5, .int (yk ((yz - 1).toInt.toNat))), (4, .int (yA.1 ya yi.toInt.toNat)), (0, .ref 38), (1, .int yt), (2, .ref ya)]) (by rfl) (by rfl) (by decide) (by rfl) (by rfl) ?_
                  refine Pa.mp 1 (pc' := 31) (l' := [(3, .int (yi + 1)), (5, .int (yk ((yz - 1).toInt.toNat))), (4, .int (yA.1 ya yi.toInt.toNat)), (0, .ref 38), (1, .int yt), (2, .ref ya)]) (st' := []) (by rfl) ?_
                  refine Pa.lv (l' := [(0, .ref 38), (1, .int yt), (2, .ref ya), (3, .int (yi + 1)), (4, .int (yA.1 ya yi.toInt.toNat)), (5, .int (yk ((yz - 1).toInt.toNat)))]) (lvS_c rfl (lvS_c rfl (lvS_c rfl (lvS_c rfl (lvS_c rfl (lvS_c rfl (lvS_nil))))))) rfl ?_
                  exact l4 h2 h3 h4 h5 h7 h9 h11 h13 h15 h17 h18 h20
              · have yh16 : yz.toInt < 1 := yh16
                refine Pa.ic (x := 0) (pc' := 9) (by rfl) (by rfl) (by decide) ?_
                refine Pa.iret (by rfl) ?_
                show Pa N 4 158 [(4, .int (yA.1 ya yi.toInt.toNat)), (0, .ref 38), (1, .int yt), (2, .ref ya), (3, .int yi), (5, .int yy)] [.int 0] (uF (uI (uI yA 38 9 l) 38 10 yz) 45 yk) _
                refine Pa.mp 5 (pc' := 165) (l' := [(5, .int 0), (4, .int (yA.1 ya yi.toInt.toNat)), (0, .ref 38), (1, .int yt), (2, .ref ya), (3, .int yi)]) (st' := [.ref 38, .int (-(yA.1 ya yi.toInt.toNat)), .ref 38]) (by rfl) ?_
                refine Pa.inv (by rfl) (by rfl) (.inl rfl) (by rfl) ?_
                show Pa N 7 0 [(0, .ref 38)] [] (uF (uI (uI yA 38 9 l) 38 10 yz) 45 yk) _
                refine Pa.mp 1 (pc' := 1) (l' := [(0, .ref 38)]) (st' := [.ref 38]) (by rfl) ?_
                refine Pa.gfI (v := yz) (by rfl) (by rfl) (.inl rfl) (by rfl) (by show (uF (uI (uI yA 38 9 l) 38 10 yz) 45 yk).1 38 10 = yz; rw [uF_c (by decide), uI_h]) ?_
                refine Pa.ic (x := 1) (pc' := 5) (by rfl) (by rfl) (by decide) ?_
                refine Pa.if2 (a := yz.toInt) (b := 1) (t := 10) (by rfl) (by rfl) (rfl) (by decide) (fun yh => (by exfalso; have h' : 1 ≤ yz.toInt := yh; omega)) (fun _ => ?_)
                refine Pa.ic (x := 0) (pc' := 9) (by rfl) (by rfl) (by decide) ?_
                refine Pa.iret (by rfl) ?_
                show Pa N 4 168 [(5, .int 0), (4, .int (yA.1 ya yi.toInt.toNat)), (0, .ref 38), (1, .int yt), (2, .ref ya), (3, .int yi)] [.int 0, .int (-(yA.1 ya yi.toInt.toNat)), .ref 38] (uF (uI (uI yA 38 9 l) 38 10 yz) 45 yk) _
                refine Pa.mp 1 (pc' := 170) (l' := [(5, .int 0), (4, .int (yA.1 ya yi.toInt.toNat)), (0, .ref 38), (1, .int yt), (2, .ref ya), (3, .int yi)]) (st' := [.int 0, .int 0, .int (-(yA.1 ya yi.toInt.toNat)), .ref 38]) (by rfl) ?_
                refine Pa.ist (by rfl) (by rfl) (.inl rfl) (by rfl) (by rfl) ?_
                refine Pa.mono (c_join N (uF (uI (uI yA 38 9 l) 38 10 yz) 45 yk) (-(yA.1 ya yi.toInt.toNat)) 0 0) (fun yu A1 hu => ?_)
                obtain ⟨rfl, hu⟩ := hu
                rw [hu]
                show Pa N 4 173 [(5, .int 0), (4, .int (yA.1 ya yi.toInt.toNat)), (0, .ref 38), (1, .int yt), (2, .ref ya), (3, .int yi)] [.int (jnX (-(yA.1 ya yi.toInt.toNat)) 0 0), .ref 38] (uF (uI (uI yA 38 9 l) 38 10 yz) 45 yk) _
                refine Pa.inv (by rfl) (by rfl) (.inl rfl) (by rfl) ?_
                show Pa N 6 0 [(0, .ref 38), (1, .int (jnX (-(yA.1 ya yi.toInt.toNat)) 0 0))] [] (uF (uI (uI yA 38 9 l) 38 10 yz) 45 yk) _
                refine Pa.mp 1 (pc' := 1) (l' := [(0, .ref 38), (1, .int (jnX (-(yA.1 ya yi.toInt.toNat)) 0 0))]) (st' := [.ref 38]) (by rfl) ?_
                refine Pa.gfI (v := yz) (by rfl) (by rfl) (.inl rfl) (by rfl) (by show (uF (uI (uI yA 38 9 l) 38 10 yz) 45 yk).1 38 10 = yz; rw [uF_c (by decide), uI_h]) ?_
                refine Pa.mp 1 (pc' := 5) (l' := [(0, .ref 38), (1, .int (jnX (-(yA.1 ya yi.toInt.toNat)) 0 0))]) (st' := [.ref 38, .int yz]) (by rfl) ?_
                refine Pa.gfR (by rfl) (by rfl) (.inl rfl) (by rfl) ?_
                show Pa N 6 8 [(0, .ref 38), (1, .int (jnX (-(yA.1 ya yi.toInt.toNat)) 0 0))] [.ref 45, .int yz] (uF (uI (uI yA 38 9 l) 38 10 yz) 45 yk) _
                refine Pa.lens (x := 161) (by rfl) (by rfl) (by decide) ?_
                refine Pa.if2 (a := yz.toInt) (b := 161) (t := 32) (by rfl) (by rfl) (rfl) (by decide) (fun yh => (by exfalso; have h' : 161 ≤ yz.toInt := yh; omega)) (fun _ => ?_)
                refine Pa.mp 1 (pc' := 13) (l' := [(0, .ref 38), (1, .int (jnX (-(yA.1 ya yi.toInt.toNat)) 0 0))]) (st' := [.ref 38]) (by rfl) ?_
                refine Pa.gfR (by rfl) (by rfl) (.inl rfl) (by rfl) ?_
                show Pa N 6 16 [(0, .ref 38), (1, .int (jnX (-(yA.1 ya yi.toInt.toNat)) 0 0))] [.ref 45] (uF (uI (uI yA 38 9 l) 38 10 yz) 45 yk) _
                refine Pa.mp 1 (pc' := 17) (l' := [(0, .ref 38), (1, .int (jnX (-(yA.1 ya yi.toInt.toNat)) 0 0))]) (st' := [.ref 38, .ref 45]) (by rfl) ?_
                refine Pa.gfI (v := yz) (by rfl) (by rfl) (.inl rfl) (by rfl) (by show (uF (uI (uI yA 38 9 l) 38 10 yz) 45 yk).1 38 10 = yz; rw [uF_c (by decide), uI_h]) ?_
                refine Pa.mp 1 (pc' := 21) (l' := [(0, .ref 38), (1, .int (jnX (-(yA.1 ya yi.toInt.toNat)) 0 0))]) (st' := [.int (jnX (-(yA.1 ya yi.toInt.toNat)) 0 0), .int yz, .ref 45]) (by rfl) ?_
                refine Pa.asts (j' := yz.toInt.toNat) (by rfl) (by rfl) (by rfl) (fun h32 h33 => ?_)
                have h32 : 0 ≤ yz.toInt := h32
                have h33 : yz.toInt < 161 := h33
                show Pa N 6 22 [(0, .ref 38), (1, .int (jnX (-(yA.1 ya yi.toInt.toNat)) 0 0))] [] (uI (uF (uI (uI yA 38 9 l) 38 10 yz) 45 yk) 45 yz.toInt.toNat (jnX (-(yA.1 ya yi.toInt.toNat)) 0 0)) _
                refine Pa.mp 2 (pc' := 24) (l' := [(0, .ref 38), (1, .int (jnX (-(yA.1 ya yi.toInt.toNat)) 0 0))]) (st' := [.ref 38, .ref 38]) (by rfl) ?_
                refine Pa.gfI (v := yz) (by rfl) (by rfl) (.inl rfl) (by rfl) (by show (uI (uF (uI (uI yA 38 9 l) 38 10 yz) 45 yk) 45 yz.toInt.toNat (jnX (-(yA.1 ya yi.toInt.toNat)) 0 0)).1 38 10 = yz; rw [uI_c (by decide), uF_c (by decide), uI_h]) ?_
                refine Pa.ic (x := 1) (pc' := 28) (by rfl) (by rfl) (by decide) ?_
                refine Pa.mp 1 (pc' := 29) (l' := [(0, .ref 38), (1, .int (jnX (-(yA.1 ya yi.toInt.toNat)) 0 0))]) (st' := [.int (yz + 1), .ref 38]) (by rfl) ?_
                refine Pa.pfI (by rfl) (by rfl) (.inl rfl) (by rfl) ?_
                show Pa N 6 32 [(0, .ref 38), (1, .int (jnX (-(yA.1 ya yi.toInt.toNat)) 0 0))] [] (uI (uI (uF (uI (uI yA 38 9 l) 38 10 yz) 45 yk) 45 yz.toInt.toNat (jnX (-(yA.1 ya yi.toInt.toNat)) 0 0)) 38 10 (yz + 1)) _
                refine Pa.vret (by rfl) ?_
                show Pa N 4 176 [(5, .int 0), (4, .int (yA.1 ya yi.toInt.toNat)), (0, .ref 38), (1, .int yt), (2, .ref ya), (3, .int yi)] [] (uI (uI (uF (uI (uI yA 38 9 l) 38 10 yz) 45 yk) 45 yz.toInt.toNat (jnX (-(yA.1 ya yi.toInt.toNat)) 0 0)) 38 10 (yz + 1)) _
                refine Pa.iinc (x := yi) (c := 1) (v := (yi + 1)) (l' := [(3, .int (yi + 1)), (5, .int 0), (4, .int (yA.1 ya yi.toInt.toNat)), (0, .ref 38), (1, .int yt), (2, .ref ya)]) (by rfl) (by rfl) (by decide) (by rfl) (by rfl) ?_
                refine Pa.mp 1 (pc' := 31) (l' := [(3, .int (yi + 1)), (5, .int 0), (4, .int (yA.1 ya yi.toInt.toNat)), (0, .ref 38), (1, .int yt), (2, .ref ya)]) (st' := []) (by rfl) ?_
                refine Pa.lv (l' := [(0, .ref 38), (1, .int yt), (2, .ref ya), (3, .int (yi + 1)), (4, .int (yA.1 ya yi.toInt.toNat)), (5, .int 0)]) (lvS_c rfl (lvS_c rfl (lvS_c rfl (lvS_c rfl (lvS_c rfl (lvS_c rfl (lvS_nil))))))) rfl ?_
                exact l5 h2 h3 h4 h5 h7 h9 h11 h13 yh16 h32 h33
            · have h14 : (yA.1 ya yi.toInt.toNat).toInt = (-33) := h14
              refine Pa.mp 2 (pc' := 137) (l' := [(4, .int (yA.1 ya yi.toInt.toNat)), (0, .ref 38), (1, .int yt), (2, .ref ya), (3, .int yi), (5, .int yy)]) (st' := [.ref 38, .ref 38]) (by rfl) ?_
              refine Pa.inv (by rfl) (by rfl) (.inl rfl) (by rfl) ?_
              show Pa N 7 0 [(0, .ref 38)] [] (uF (uI (uI yA 38 9 l) 38 10 yz) 45 yk) _
              refine Pa.mp 1 (pc' := 1) (l' := [(0, .ref 38)]) (st' := [.ref 38]) (by rfl) ?_
              refine Pa.gfI (v := yz) (by rfl) (by rfl) (.inl rfl) (by rfl) (by show (uF (uI (uI yA 38 9 l) 38 10 yz) 45 yk).1 38 10 = yz; rw [uF_c (by decide), uI_h]) ?_
              refine Pa.ic (x := 1) (pc' := 5) (by rfl) (by rfl) (by decide) ?_
              refine Pa.if2 (a := yz.toInt) (b := 1) (t := 10) (by rfl) (by rfl) (rfl) (by decide) (fun h34 => ?_) (fun h35 => ?_)
              · have h34 : 1 ≤ yz.toInt := h34
                refine Pa.mp 2 (pc' := 12) (l' := [(0, .ref 38)]) (st' := [.ref 38, .ref 38]) (by rfl) ?_
                refine Pa.gfI (v := yz) (by rfl) (by rfl) (.inl rfl) (by rfl) (by show (uF (uI (uI yA 38 9 l) 38 10 yz) 45 yk).1 38 10 = yz; rw [uF_c (by decide), uI_h]) ?_
                refine Pa.ic (x := 1) (pc' := 16) (by rfl) (by rfl) (by decide) ?_
                refine Pa.mp 1 (pc' := 17) (l' := [(0, .ref 38)]) (st' := [.int (yz - 1), .ref 38]) (by rfl) ?_
                refine Pa.pfI (by rfl) (by rfl) (.inl rfl) (by rfl) ?_
                show Pa N 7 20 [(0, .ref 38)] [] (uI (uF (uI (uI yA 38 9 l) 38 10 yz) 45 yk) 38 10 (yz - 1)) _
                refine Pa.mp 1 (pc' := 21) (l' := [(0, .ref 38)]) (st' := [.ref 38]) (by rfl) ?_
                refine Pa.gfR (by rfl) (by rfl) (.inl rfl) (by rfl) ?_
                show Pa N 7 24 [(0, .ref 38)] [.ref 45] (uI (uF (uI (uI yA 38 9 l) 38 10 yz) 45 yk) 38 10 (yz - 1)) _
                refine Pa.mp 1 (pc' := 25) (l' := [(0, .ref 38)]) (st' := [.ref 38, .ref 45]) (by rfl) ?_
                refine Pa.gfI (v := yz - 1) (by rfl) (by rfl) (.inl rfl) (by rfl) (by show (uI (uF (uI (uI yA 38 9 l) 38 10 yz) 45 yk) 38 10 (yz - 1)).1 38 10 = yz - 1; rw [uI_h]) ?_
                refine Pa.alds (v := yk ((yz - 1).toInt.toNat)) (by rfl) (by rfl) (by show (uI (uF (uI (uI yA 38 9 l) 38 10 yz) 45 yk) 38 10 (yz - 1)).1 45 ((yz - 1).toInt.toNat) = yk ((yz - 1).toInt.toNat); rw [uI_c (by decide), uF_h]) (fun h36 h37 => ?_)
                have h36 : 0 ≤ (yz - 1).toInt := h36
                have h37 : (yz - 1).toInt < 161 := h37
                refine Pa.iret (by rfl) ?_
                show Pa N 4 140 [(4, .int (yA.1 ya yi.toInt.toNat)), (0, .ref 38), (1, .int yt), (2, .ref ya), (3, .int yi), (5, .int yy)] [.int (yk ((yz - 1).toInt.toNat)), .ref 38] (uI (uF (uI (uI yA 38 9 l) 38 10 yz) 45 yk) 38 10 (yz - 1)) _
                refine Pa.if1 (a := (yk ((yz - 1).toInt.toNat)).toInt) (t := 147) (by rfl) (by rfl) (rfl) (fun h38 => ?_) (fun h39 => ?_)
                · have h38 : (yk ((yz - 1).toInt.toNat)).toInt ≠ 0 := h38
                  refine Pa.ic (x := 0) (pc' := 148) (by rfl) (by rfl) (by decide) ?_
                  refine Pa.inv (by rfl) (by rfl) (.inl rfl) (by rfl) ?_
                  show Pa N 6 0 [(0, .ref 38), (1, .int 0)] [] (uI (uF (uI (uI yA 38 9 l) 38 10 yz) 45 yk) 38 10 (yz - 1)) _
                  refine Pa.mp 1 (pc' := 1) (l' := [(0, .ref 38), (1, .int 0)]) (st' := [.ref 38]) (by rfl) ?_
                  refine Pa.gfI (v := yz - 1) (by rfl) (by rfl) (.inl rfl) (by rfl) (by show (uI (uF (uI (uI yA 38 9 l) 38 10 yz) 45 yk) 38 10 (yz - 1)).1 38 10 = yz - 1; rw [uI_h]) ?_
                  refine Pa.mp 1 (pc' := 5) (l' := [(0, .ref 38), (1, .int 0)]) (st' := [.ref 38, .int (yz - 1)]) (by rfl) ?_
                  refine Pa.gfR (by rfl) (by rfl) (.inl rfl) (by rfl) ?_
                  show Pa N 6 8 [(0, .ref 38), (1, .int 0)] [.ref 45, .int (yz - 1)] (uI (uF (uI (uI yA 38 9 l) 38 10 yz) 45 yk) 38 10 (yz - 1)) _
                  refine Pa.lens (x := 161) (by rfl) (by rfl) (by decide) ?_
                  refine Pa.if2 (a := (yz - 1).toInt) (b := 161) (t := 32) (by rfl) (by rfl) (rfl) (by decide) (fun h40 => ?_) (fun h41 => ?_)
                  · have h40 : 161 ≤ (yz - 1).toInt := h40
                    refine Pa.vret (by rfl) ?_
                    show Pa N 4 151 [(4, .int (yA.1 ya yi.toInt.toNat)), (0, .ref 38), (1, .int yt), (2, .ref ya), (3, .int yi), (5, .int yy)] [] (uI (uF (uI (uI yA 38 9 l) 38 10 yz) 45 yk) 38 10 (yz - 1)) _
                    refine Pa.mp 1 (pc' := 176) (l' := [(4, .int (yA.1 ya yi.toInt.toNat)), (0, .ref 38), (1, .int yt), (2, .ref ya), (3, .int yi), (5, .int yy)]) (st' := []) (by rfl) ?_
                    refine Pa.iinc (x := yi) (c := 1) (v := (yi + 1)) (l' := [(3, .int (yi + 1)), (4, .int (yA.1 ya yi.toInt.toNat)), (0, .ref 38), (1, .int yt), (2, .ref ya), (5, .int yy)]) (by rfl) (by rfl) (by decide) (by rfl) (by rfl) ?_
                    refine Pa.mp 1 (pc' := 31) (l' := [(3, .int (yi + 1)), (4, .int (yA.1 ya yi.toInt.toNat)), (0, .ref 38), (1, .int yt), (2, .ref ya), (5, .int yy)]) (st' := []) (by rfl) ?_
                    refine Pa.lv (l' := [(0, .ref 38), (1, .int yt), (2, .ref ya), (3, .int (yi + 1)), (4, .int (yA.1 ya yi.toInt.toNat)), (5, .int yy)]) (lvS_c rfl (lvS_c rfl (lvS_c rfl (lvS_c rfl (lvS_c rfl (lvS_c rfl (lvS_nil))))))) rfl ?_
                    exact l6 h2 h3 h4 h5 h7 h9 h11 h14 h34 h36 h37 h38 h40
                  · have h41 : (yz - 1).toInt < 161 := h41
                    refine Pa.mp 1 (pc' := 13) (l' := [(0, .ref 38), (1, .int 0)]) (st' := [.ref 38]) (by rfl) ?_
                    refine Pa.gfR (by rfl) (by rfl) (.inl rfl) (by rfl) ?_
                    show Pa N 6 16 [(0, .ref 38), (1, .int 0)] [.ref 45] (uI (uF (uI (uI yA 38 9 l) 38 10 yz) 45 yk) 38 10 (yz - 1)) _
                    refine Pa.mp 1 (pc' := 17) (l' := [(0, .ref 38), (1, .int 0)]) (st' := [.ref 38, .ref 45]) (by rfl) ?_
                    refine Pa.gfI (v := yz - 1) (by rfl) (by rfl) (.inl rfl) (by rfl) (by show (uI (uF (uI (uI yA 38 9 l) 38 10 yz) 45 yk) 38 10 (yz - 1)).1 38 10 = yz - 1; rw [uI_h]) ?_
                    refine Pa.mp 1 (pc' := 21) (l' := [(0, .ref 38), (1, .int 0)]) (st' := [.int 0, .int (yz - 1), .ref 45]) (by rfl) ?_
                    refine Pa.asts (j' := ((yz - 1).toInt.toNat)) (by rfl) (by rfl) (by rfl) (fun h42 h43 => ?_)
                    have h42 : 0 ≤ (yz - 1).toInt := h42
                    have h43 : (yz - 1).toInt < 161 := h43
                    show Pa N 6 22 [(0, .ref 38), (1, .int 0)] [] (uI (uI (uF (uI (uI yA 38 9 l) 38 10 yz) 45 yk) 38 10 (yz - 1)) 45 ((yz - 1).toInt.toNat) 0) _
                    refine Pa.mp 2 (pc' := 24) (l' := [(0, .ref 38), (1, .int 0)]) (st' := [.ref 38, .ref 38]) (by rfl) ?_
                    refine Pa.gfI (v := yz - 1) (by rfl) (by rfl) (.inl rfl) (by rfl) (by show (uI (uI (uF (uI (uI yA 38 9 l) 38 10 yz) 45 yk) 38 10 (yz - 1)) 45 ((yz - 1).toInt.toNat) 0).1 38 10 = yz - 1; rw [uI_c (by decide), uI_h]) ?_
                    refine Pa.ic (x := 1) (pc' := 28) (by rfl) (by rfl) (by decide) ?_
                    refine Pa.mp 1 (pc' := 29) (l' := [(0, .ref 38), (1, .int 0)]) (st' := [.int ((yz - 1) + 1), .ref 38]) (by rfl) ?_
                    refine Pa.pfI (by rfl) (by rfl) (.inl rfl) (by rfl) ?_
                    show Pa N 6 32 [(0, .ref 38), (1, .int 0)] [] (uI (uI (uI (uF (uI (uI yA 38 9 l) 38 10 yz) 45 yk) 38 10 (yz - 1)) 45 ((yz - 1).toInt.toNat) 0) 38 10 ((yz - 1) + 1)) _
                    refine Pa.vret (by rfl) ?_
                    show Pa N 4 151 [(4, .int (yA.1 ya yi.toInt.toNat)), (0, .ref 38), (1, .int yt), (2, .ref ya), (3, .int yi), (5, .int yy)] [] (uI (uI (uI (uF (uI (uI yA 38 9 l) 38 10 yz) 45 yk) 38 10 (yz - 1)) 45 ((yz - 1).toInt.toNat) 0) 38 10 ((yz - 1) + 1)) _
                    refine Pa.mp 1 (pc' := 176) (l' := [(4, .int (yA.1 ya yi.toInt.toNat)), (0, .ref 38), (1, .int yt), (2, .ref ya), (3, .int yi), (5, .int yy)]) (st' := []) (by rfl) ?_
                    refine Pa.iinc (x := yi) (c := 1) (v := (yi + 1)) (l' := [(3, .int (yi + 1)), (4, .int (yA.1 ya yi.toInt.toNat)), (0, .ref 38), (1, .int yt), (2, .ref ya), (5, .int yy)]) (by rfl) (by rfl) (by decide) (by rfl) (by rfl) ?_
                    refine Pa.mp 1 (pc' := 31) (l' := [(3, .int (yi + 1)), (4, .int (yA.1 ya yi.toInt.toNat)), (0, .ref 38), (1, .int yt), (2, .ref ya), (5, .int yy)]) (st' := []) (by rfl) ?_
                    refine Pa.lv (l' := [(0, .ref 38), (1, .int yt), (2, .ref ya), (3, .int (yi + 1)), (4, .int (yA.1 ya yi.toInt.toNat)), (5, .int yy)]) (lvS_c rfl (lvS_c rfl (lvS_c rfl (lvS_c rfl (lvS_c rfl (lvS_c rfl (lvS_nil))))))) rfl ?_
                    exact l7 h2 h3 h4 h5 h7 h9 h11 h14 h34 h36 h37 h38
                · have h39 : (yk ((yz - 1).toInt.toNat)).toInt = 0 := h39
                  refine Pa.ic (x := 1) (pc' := 144) (by rfl) (by rfl) (by decide) ?_
                  refine Pa.mp 1 (pc' := 148) (l' := [(4, .int (yA.1 ya yi.toInt.toNat)), (0, .ref 38), (1, .int yt), (2, .ref ya), (3, .int yi), (5, .int yy)]) (st' := [.int 1, .ref 38]) (by rfl) ?_
                  refine Pa.inv (by rfl) (by rfl) (.inl rfl) (by rfl) ?_
                  show Pa N 6 0 [(0, .ref 38), (1, .int 1)] [] (uI (uF (uI (uI yA 38 9 l) 38 10 yz) 45 yk) 38 10 (yz - 1)) _
                  refine Pa.mp 1 (pc' := 1) (l' := [(0, .ref 38), (1, .int 1)]) (st' := [.ref 38]) (by rfl) ?_
                  refine Pa.gfI (v := yz - 1) (by rfl) (by rfl) (.inl rfl) (by rfl) (by show (uI (uF (uI (uI yA 38 9 l) 38 10 yz) 45 yk) 38 10 (yz - 1)).1 38 10 = yz - 1; rw [uI_h]) ?_
                  refine Pa.mp 1 (pc' := 5) (l' := [(0, .ref 38), (1, .int 1)]) (st' := [.ref 38, .int (yz - 1)]) (by rfl) ?_
                  refine Pa.gfR (by rfl) (by rfl) (.inl rfl) (by rfl) ?_
                  show Pa N 6 8 [(0, .ref 38), (1, .int 1)] [.ref 45, .int (yz - 1)] (uI (uF (uI (uI yA 38 9 l) 38 10 yz) 45 yk) 38 10 (yz - 1)) _
                  refine Pa.lens (x := 161) (by rfl) (by rfl) (by decide) ?_
                  refine Pa.if2 (a := (yz - 1).toInt) (b := 161) (t := 32) (by rfl) (by rfl) (rfl) (by decide) (fun h44 => ?_) (fun h45 => ?_)
                  · have h44 : 161 ≤ (yz - 1).toInt := h44
                    refine Pa.vret (by rfl) ?_
                    show Pa N 4 151 [(4, .int (yA.1 ya yi.toInt.toNat)), (0, .ref 38), (1, .int yt), (2, .ref ya), (3, .int yi), (5, .int yy)] [] (uI (uF (uI (uI yA 38 9 l) 38 10 yz) 45 yk) 38 10 (yz - 1)) _
                    refine Pa.mp 1 (pc' := 176) (l' := [(4, .int (yA.1 ya yi.toInt.toNat)), (0, .ref 38), (1, .int yt), (2, .ref ya), (3, .int yi), (5, .int yy)]) (st' := []) (by rfl) ?_
                    refine Pa.iinc (x := yi) (c := 1) (v := (yi + 1)) (l' := [(3, .int (yi + 1)), (4, .int (yA.1 ya yi.toInt.toNat)), (0, .ref 38), (1, .int yt), (2, .ref ya), (5, .int yy)]) (by rfl) (by rfl) (by decide) (by rfl) (by rfl) ?_
                    refine Pa.mp 1 (pc' := 31) (l' := [(3, .int (yi + 1)), (4, .int (yA.1 ya yi.toInt.toNat)), (0, .ref 38), (1, .int yt), (2, .ref ya), (5, .int yy)]) (st' := []) (by rfl) ?_
                    refine Pa.lv (l' := [(0, .ref 38), (1, .int yt), (2, .ref ya), (3, .int (yi + 1)), (4, .int (yA.1 ya yi.toInt.toNat)), (5, .int yy)]) (lvS_c rfl (lvS_c rfl (lvS_c rfl (lvS_c rfl (lvS_c rfl (lvS_c rfl (lvS_nil))))))) rfl ?_
                    exact l8 h2 h3 h4 h5 h7 h9 h11 h14 h34 h36 h37 h39 h44
                  · have h45 : (yz - 1).toInt < 161 := h45
                    refine Pa.mp 1 (pc' := 13) (l' := [(0, .ref 38), (1, .int 1)]) (st' := [.ref 38]) (by rfl) ?_
                    refine Pa.gfR (by rfl) (by rfl) (.inl rfl) (by rfl) ?_
                    show Pa N 6 16 [(0, .ref 38), (1, .int 1)] [.ref 45] (uI (uF (uI (uI yA 38 9 l) 38 10 yz) 45 yk) 38 10 (yz - 1)) _
                    refine Pa.mp 1 (pc' := 17) (l' := [(0, .ref 38), (1, .int 1)]) (st' := [.ref 38, .ref 45]) (by rfl) ?_
                    refine Pa.gfI (v := yz - 1) (by rfl) (by rfl) (.inl rfl) (by rfl) (by show (uI (uF (uI (uI yA 38 9 l) 38 10 yz) 45 yk) 38 10 (yz - 1)).1 38 10 = yz - 1; rw [uI_h]) ?_
                    refine Pa.mp 1 (pc' := 21) (l' := [(0, .ref 38), (1, .int 1)]) (st' := [.int 1, .int (yz - 1), .ref 45]) (by rfl) ?_
                    refine Pa.asts (j' := ((yz - 1).toInt.toNat)) (by rfl) (by rfl) (by rfl) (fun h46 h47 => ?_)
                    have h46 : 0 ≤ (yz - 1).toInt := h46
                    have h47 : (yz - 1).toInt < 161 := h47
                    show Pa N 6 22 [(0, .ref 38), (1, .int 1)] [] (uI (uI (uF (uI (uI yA 38 9 l) 38 10 yz) 45 yk) 38 10 (yz - 1)) 45 ((yz - 1).toInt.toNat) 1) _
                    refine Pa.mp 2 (pc' := 24) (l' := [(0, .ref 38), (1, .int 1)]) (st' := [.ref 38, .ref 38]) (by rfl) ?_
                    refine Pa.gfI (v := yz - 1) (by rfl) (by rfl) (.inl rfl) (by rfl) (by show (uI (uI (uF (uI (uI yA 38 9 l) 38 10 yz) 45 yk) 38 10 (yz - 1)) 45 ((yz - 1).toInt.toNat) 1).1 38 10 = yz - 1; rw [uI_c (by decide), uI_h]) ?_
                    refine Pa.ic (x := 1) (pc' := 28) (by rfl) (by rfl) (by decide) ?_
                    refine Pa.mp 1 (pc' := 29) (l' := [(0, .ref 38), (1, .int 1)]) (st' := [.int ((yz - 1) + 1), .ref 38]) (by rfl) ?_
                    refine Pa.pfI (by rfl) (by rfl) (.inl rfl) (by rfl) ?_
                    show Pa N 6 32 [(0, .ref 38), (1, .int 1)] [] (uI (uI (uI (uF (uI (uI yA 38 9 l) 38 10 yz) 45 yk) 38 10 (yz - 1)) 45 ((yz - 1).toInt.toNat) 1) 38 10 ((yz - 1) + 1)) _
                    refine Pa.vret (by rfl) ?_
                    show Pa N 4 151 [(4, .int (yA.1 ya yi.toInt.toNat)), (0, .ref 38), (1, .int yt), (2, .ref ya), (3, .int yi), (5, .int yy)] [] (uI (uI (uI (uF (uI (uI yA 38 9 l) 38 10 yz) 45 yk) 38 10 (yz - 1)) 45 ((yz - 1).toInt.toNat) 1) 38 10 ((yz - 1) + 1)) _
                    refine Pa.mp 1 (pc' := 176) (l' := [(4, .int (yA.1 ya yi.toInt.toNat)), (0, .ref 38), (1, .int yt), (2, .ref ya), (3, .int yi), (5, .int yy)]) (st' := []) (by rfl) ?_
                    refine Pa.iinc (x := yi) (c := 1) (v := (yi + 1)) (l' := [(3, .int (yi + 1)), (4, .int (yA.1 ya yi.toInt.toNat)), (0, .ref 38), (1, .int yt), (2, .ref ya), (5, .int yy)]) (by rfl) (by rfl) (by decide) (by rfl) (by rfl) ?_
                    refine Pa.mp 1 (pc' := 31) (l' := [(3, .int (yi + 1)), (4, .int (yA.1 ya yi.toInt.toNat)), (0, .ref 38), (1, .int yt), (2, .ref ya), (5, .int yy)]) (st' := []) (by rfl) ?_
                    refine Pa.lv (l' := [(0, .ref 38), (1, .int yt), (2, .ref ya), (3, .int (yi + 1)), (4, .int (yA.1 ya yi.toInt.toNat)), (5, .int yy)]) (lvS_c rfl (lvS_c rfl (lvS_c rfl (lvS_c rfl (lvS_c rfl (lvS_c rfl (lvS_nil))))))) rfl ?_
                    exact l9 h2 h3 h4 h5 h7 h9 h11 h14 h34 h36 h37 h39
              · have h35 : yz.toInt < 1 := h35
                refine Pa.ic (x := 0) (pc' := 9) (by rfl) (by rfl) (by decide) ?_
                refine Pa.iret (by rfl) ?_
                show Pa N 4 140 [(4, .int (yA.1 ya yi.toInt.toNat)), (0, .ref 38), (1, .int yt), (2, .ref ya), (3, .int yi), (5, .int yy)] [.int 0, .ref 38] (uF (uI (uI yA 38 9 l) 38 10 yz) 45 yk) _
                refine Pa.if1k false (by rfl) (by rfl) (by decide) ?_
                show Pa N 4 143 [(4, .int (yA.1 ya yi.toInt.toNat)), (0, .ref 38), (1, .int yt), (2, .ref ya), (3, .int yi), (5, .int yy)] [.ref 38] (uF (uI (uI yA 38 9 l) 38 10 yz) 45 yk) _
                refine Pa.ic (x := 1) (pc' := 144) (by rfl) (by rfl) (by decide) ?_
                refine Pa.mp 1 (pc' := 148) (l' := [(4, .int (yA.1 ya yi.toInt.toNat)), (0, .ref 38), (1, .int yt), (2, .ref ya), (3, .int yi), (5, .int yy)]) (st' := [.int 1, .ref 38]) (by rfl) ?_
                refine Pa.inv (by rfl) (by rfl) (.inl rfl) (by rfl) ?_
                show Pa N 6 0 [(0, .ref 38), (1, .int 1)] [] (uF (uI (uI yA 38 9 l) 38 10 yz) 45 yk) _
                refine Pa.mp 1 (pc' := 1) (l' := [(0, .ref 38), (1, .int 1)]) (st' := [.ref 38]) (by rfl) ?_
                refine Pa.gfI (v := yz) (by rfl) (by rfl) (.inl rfl) (by rfl) (by show (uF (uI (uI yA 38 9 l) 38 10 yz) 45 yk).1 38 10 = yz; rw [uF_c (by decide), uI_h]) ?_
                refine Pa.mp 1 (pc' := 5) (l' := [(0, .ref 38), (1, .int 1)]) (st' := [.ref 38, .int yz]) (by rfl) ?_
                refine Pa.gfR (by rfl) (by rfl) (.inl rfl) (by rfl) ?_
                show Pa N 6 8 [(0, .ref 38), (1, .int 1)] [.ref 45, .int yz] (uF (uI (uI yA 38 9 l) 38 10 yz) 45 yk) _
                refine Pa.lens (x := 161) (by rfl) (by rfl) (by decide) ?_
                refine Pa.if2 (a := yz.toInt) (b := 161) (t := 32) (by rfl) (by rfl) (rfl) (by decide) (fun yh => (by exfalso; have h' : 161 ≤ yz.toInt := yh; omega)) (fun _ => ?_)
                refine Pa.mp 1 (pc' := 13) (l' := [(0, .ref 38), (1, .int 1)]) (st' := [.ref 38]) (by rfl) ?_
                refine Pa.gfR (by rfl) (by rfl) (.inl rfl) (by rfl) ?_
                show Pa N 6 16 [(0, .ref 38), (1, .int 1)] [.ref 45] (uF (uI (uI yA 38 9 l) 38 10 yz) 45 yk) _
                refine Pa.mp 1 (pc' := 17) (l' := [(0, .ref 38), (1, .int 1)]) (st' := [.ref 38, .ref 45]) (by rfl) ?_
                refine Pa.gfI (v := yz) (by rfl) (by rfl) (.inl rfl) (by rfl) (by show (uF (uI (uI yA 38 9 l) 38 10 yz) 45 yk).1 38 10 = yz; rw [uF_c (by decide), uI_h]) ?_
                refine Pa.mp 1 (pc' := 21) (l' := [(0, .ref 38), (1, .int 1)]) (st' := [.int 1, .int yz, .ref 45]) (by rfl) ?_
                refine Pa.asts (j' := yz.toInt.toNat) (by rfl) (by rfl) (by rfl) (fun h49 h50 => ?_)
                have h49 : 0 ≤ yz.toInt := h49
                have h50 : yz.toInt < 161 := h50
                show Pa N 6 22 [(0, .ref 38), (1, .int 1)] [] (uI (uF (uI (uI yA 38 9 l) 38 10 yz) 45 yk) 45 yz.toInt.toNat 1) _
                refine Pa.mp 2 (pc' := 24) (l' := [(0, .ref 38), (1, .int 1)]) (st' := [.ref 38, .ref 38]) (by rfl) ?_
                refine Pa.gfI (v := yz) (by rfl) (by rfl) (.inl rfl) (by rfl) (by show (uI (uF (uI (uI yA 38 9 l) 38 10 yz) 45 yk) 45 yz.toInt.toNat 1).1 38 10 = yz; rw [uI_c (by decide), uF_c (by decide), uI_h]) ?_
                refine Pa.ic (x := 1) (pc' := 28) (by rfl) (by rfl) (by decide) ?_
                refine Pa.mp 1 (pc' := 29) (l' := [(0, .ref 38), (1, .int 1)]) (st' := [.int (yz + 1), .ref 38]) (by rfl) ?_
                refine Pa.pfI (by rfl) (by rfl) (.inl rfl) (by rfl) ?_
                show Pa N 6 32 [(0, .ref 38), (1, .int 1)] [] (uI (uI (uF (uI (uI yA 38 9 l) 38 10 yz) 45 yk) 45 yz.toInt.toNat 1) 38 10 (yz + 1)) _
                refine Pa.vret (by rfl) ?_
                show Pa N 4 151 [(4, .int (yA.1 ya yi.toInt.toNat)), (0, .ref 38), (1, .int yt), (2, .ref ya), (3, .int yi), (5, .int yy)] [] (uI (uI (uF (uI (uI yA 38 9 l) 38 10 yz) 45 yk) 45 yz.toInt.toNat 1) 38 10 (yz + 1)) _
                refine Pa.mp 1 (pc' := 176) (l' := [(4, .int (yA.1 ya yi.toInt.toNat)), (0, .ref 38), (1, .int yt), (2, .ref ya), (3, .int yi), (5, .int yy)]) (st' := []) (by rfl) ?_
                refine Pa.iinc (x := yi) (c := 1) (v := (yi + 1)) (l' := [(3, .int (yi + 1)), (4, .int (yA.1 ya yi.toInt.toNat)), (0, .ref 38), (1, .int yt), (2, .ref ya), (5, .int yy)]) (by rfl) (by rfl) (by decide) (by rfl) (by rfl) ?_
                refine Pa.mp 1 (pc' := 31) (l' := [(3, .int (yi + 1)), (4, .int (yA.1 ya yi.toInt.toNat)), (0, .ref 38), (1, .int yt), (2, .ref ya), (5, .int yy)]) (st' := []) (by rfl) ?_
                refine Pa.lv (l' := [(0, .ref 38), (1, .int yt), (2, .ref ya), (3, .int (yi + 1)), (4, .int (yA.1 ya yi.toInt.toNat)), (5, .int yy)]) (lvS_c rfl (lvS_c rfl (lvS_c rfl (lvS_c rfl (lvS_c rfl (lvS_c rfl (lvS_nil))))))) rfl ?_
                exact l10 h2 h3 h4 h5 h7 h9 h11 h14 h35 h49 h50
          · have h12 : (yA.1 ya yi.toInt.toNat).toInt = (-63) := h12
            refine Pa.mp 1 (pc' := 103) (l' := [(4, .int (yA.1 ya yi.toInt.toNat)), (0, .ref 38), (1, .int yt), (2, .ref ya), (3, .int yi), (5, .int yy)]) (st' := [.ref 38]) (by rfl) ?_
            refine Pa.inv (by rfl) (by rfl) (.inl rfl) (by rfl) ?_
            show Pa N 7 0 [(0, .ref 38)] [] (uF (uI (uI yA 38 9 l) 38 10 yz) 45 yk) _
            refine Pa.mp 1 (pc' := 1) (l' := [(0, .ref 38)]) (st' := [.ref 38]) (by rfl) ?_
            refine Pa.gfI (v := yz) (by rfl) (by rfl) (.inl rfl) (by rfl) (by show (uF (uI (uI yA 38 9 l) 38 10 yz) 45 yk).1 38 10 = yz; rw [uF_c (by decide), uI_h]) ?_
            refine Pa.ic (x := 1) (pc' := 5) (by rfl) (by rfl) (by decide) ?_
            refine Pa.if2 (a := yz.toInt) (b := 1) (t := 10) (by rfl) (by rfl) (rfl) (by decide) (fun h51 => ?_) (fun h52 => ?_)
            · have h51 : 1 ≤ yz.toInt := h51
              refine Pa.mp 2 (pc' := 12) (l' := [(0, .ref 38)]) (st' := [.ref 38, .ref 38]) (by rfl) ?_
              refine Pa.gfI (v := yz) (by rfl) (by rfl) (.inl rfl) (by rfl) (by show (uF (uI (uI yA 38 9 l) 38 10 yz) 45 yk).1 38 10 = yz; rw [uF_c (by decide), uI_h]) ?_
              refine Pa.ic (x := 1) (pc' := 16) (by rfl) (by rfl) (by decide) ?_
              refine Pa.mp 1 (pc' := 17) (l' := [(0, .ref 38)]) (st' := [.int (yz - 1), .ref 38]) (by rfl) ?_
              refine Pa.pfI (by rfl) (by rfl) (.inl rfl) (by rfl) ?_
              show Pa N 7 20 [(0, .ref 38)] [] (uI (uF (uI (uI yA 38 9 l) 38 10 yz) 45 yk) 38 10 (yz - 1)) _
              refine Pa.mp 1 (pc' := 21) (l' := [(0, .ref 38)]) (st' := [.ref 38]) (by rfl) ?_
              refine Pa.gfR (by rfl) (by rfl) (.inl rfl) (by rfl) ?_
              show Pa N 7 24 [(0, .ref 38)] [.ref 45] (uI (uF (uI (uI yA 38 9 l) 38 10 yz) 45 yk) 38 10 (yz - 1)) _
              refine Pa.mp 1 (pc' := 25) (l' := [(0, .ref 38)]) (st' := [.ref 38, .ref 45]) (by rfl) ?_
              refine Pa.gfI (v := yz - 1) (by rfl) (by rfl) (.inl rfl) (by rfl) (by show (uI (uF (uI (uI yA 38 9 l) 38 10 yz) 45 yk) 38 10 (yz - 1)).1 38 10 = yz - 1; rw [uI_h]) ?_
              refine Pa.alds (v := yk ((yz - 1).toInt.toNat)) (by rfl) (by rfl) (by show (uI (uF (uI (uI yA 38 9 l) 38 10 yz) 45 yk) 38 10 (yz - 1)).1 45 ((yz - 1).toInt.toNat) = yk ((yz - 1).toInt.toNat); rw [uI_c (by decide), uF_h]) (fun h53 h54 => ?_)
              have h53 : 0 ≤ (yz - 1).toInt := h53
              have h54 : (yz - 1).toInt < 161 := h54
              refine Pa.iret (by rfl) ?_
              show Pa N 4 106 [(4, .int (yA.1 ya yi.toInt.toNat)), (0, .ref 38), (1, .int yt), (2, .ref ya), (3, .int yi), (5, .int yy)] [.int (yk ((yz - 1).toInt.toNat))] (uI (uF (uI (uI yA 38 9 l) 38 10 yz) 45 yk) 38 10 (yz - 1)) _
              refine Pa.if1 (a := (yk ((yz - 1).toInt.toNat)).toInt) (t := 176) (by rfl) (by rfl) (rfl) (fun h55 => ?_) (fun h56 => ?_)
              · have h55 : (yk ((yz - 1).toInt.toNat)).toInt ≠ 0 := h55
                refine Pa.iinc (x := yi) (c := 1) (v := (yi + 1)) (l' := [(3, .int (yi + 1)), (4, .int (yA.1 ya yi.toInt.toNat)), (0, .ref 38), (1, .int yt), (2, .ref ya), (5, .int yy)]) (by rfl) (by rfl) (by decide) (by rfl) (by rfl) ?_
                refine Pa.mp 1 (pc' := 31) (l' := [(3, .int (yi + 1)), (4, .int (yA.1 ya yi.toInt.toNat)), (0, .ref 38), (1, .int yt), (2, .ref ya), (5, .int yy)]) (st' := []) (by rfl) ?_
                refine Pa.lv (l' := [(0, .ref 38), (1, .int yt), (2, .ref ya), (3, .int (yi + 1)), (4, .int (yA.1 ya yi.toInt.toNat)), (5, .int yy)]) (lvS_c rfl (lvS_c rfl (lvS_c rfl (lvS_c rfl (lvS_c rfl (lvS_c rfl (lvS_nil))))))) rfl ?_
                exact l11 h2 h3 h4 h5 h7 h9 h12 h51 h53 h54 h55
              · have h56 : (yk ((yz - 1).toInt.toNat)).toInt = 0 := h56
                refine Pa.mp 2 (pc' := 111) (l' := [(4, .int (yA.1 ya yi.toInt.toNat)), (0, .ref 38), (1, .int yt), (2, .ref ya), (3, .int yi), (5, .int yy)]) (st' := [.int yi, .ref ya]) (by rfl) ?_
                refine Pa.lv (l' := [(0, .ref 38), (1, .int yt), (2, .ref ya), (3, .int yi), (4, .int (yA.1 ya yi.toInt.toNat)), (5, .int yy)]) (lvS_c rfl (lvS_c rfl (lvS_c rfl (lvS_c rfl (lvS_c rfl (lvS_c rfl (lvS_nil))))))) rfl ?_
                refine Pa.ist (by rfl) (by rfl) (.inl rfl) (by rfl) (by rfl) ?_
                exact l12 h2 h3 h4 h5 h7 h9 h12 h51 h53 h54 h56
            · have h52 : yz.toInt < 1 := h52
              refine Pa.ic (x := 0) (pc' := 9) (by rfl) (by rfl) (by decide) ?_
              refine Pa.iret (by rfl) ?_
              show Pa N 4 106 [(4, .int (yA.1 ya yi.toInt.toNat)), (0, .ref 38), (1, .int yt), (2, .ref ya), (3, .int yi), (5, .int yy)] [.int 0] (uF (uI (uI yA 38 9 l) 38 10 yz) 45 yk) _
              refine Pa.if1k false (by rfl) (by rfl) (by decide) ?_
              show Pa N 4 109 [(4, .int (yA.1 ya yi.toInt.toNat)), (0, .ref 38), (1, .int yt), (2, .ref ya), (3, .int yi), (5, .int yy)] [] (uF (uI (uI yA 38 9 l) 38 10 yz) 45 yk) _
              refine Pa.mp 2 (pc' := 111) (l' := [(4, .int (yA.1 ya yi.toInt.toNat)), (0, .ref 38), (1, .int yt), (2, .ref ya), (3, .int yi), (5, .int yy)]) (st' := [.int yi, .ref ya]) (by rfl) ?_
              refine Pa.lv (l' := [(0, .ref 38), (1, .int yt), (2, .ref ya), (3, .int yi), (4, .int (yA.1 ya yi.toInt.toNat)), (5, .int yy)]) (lvS_c rfl (lvS_c rfl (lvS_c rfl (lvS_c rfl (lvS_c rfl (lvS_c rfl (lvS_nil))))))) rfl ?_
              refine Pa.ist (by rfl) (by rfl) (.inl rfl) (by rfl) (by rfl) ?_
              exact l13 h2 h3 h4 h5 h7 h9 h12 h52
        · have h10 : (yA.1 ya yi.toInt.toNat).toInt = (-59) := h10
          refine Pa.mp 1 (pc' := 91) (l' := [(4, .int (yA.1 ya yi.toInt.toNat)), (0, .ref 38), (1, .int yt), (2, .ref ya), (3, .int yi), (5, .int yy)]) (st' := [.ref 38]) (by rfl) ?_
          refine Pa.inv (by rfl) (by rfl) (.inl rfl) (by rfl) ?_
          show Pa N 7 0 [(0, .ref 38)] [] (uF (uI (uI yA 38 9 l) 38 10 yz) 45 yk) _
          refine Pa.mp 1 (pc' := 1) (l' := [(0, .ref 38)]) (st' := [.ref 38]) (by rfl) ?_
          refine Pa.gfI (v := yz) (by rfl) (by rfl) (.inl rfl) (by rfl) (by show (uF (uI (uI yA 38 9 l) 38 10 yz) 45 yk).1 38 10 = yz; rw [uF_c (by decide), uI_h]) ?_
          refine Pa.ic (x := 1) (pc' := 5) (by rfl) (by rfl) (by decide) ?_
          refine Pa.if2 (a := yz.toInt) (b := 1) (t := 10) (by rfl) (by rfl) (rfl) (by decide) (fun h57 => ?_) (fun h58 => ?_)
          · have h57 : 1 ≤ yz.toInt := h57
            refine Pa.mp 2 (pc' := 12) (l' := [(0, .ref 38)]) (st' := [.ref 38, .ref 38]) (by rfl) ?_
            refine Pa.gfI (v := yz) (by rfl) (by rfl) (.inl rfl) (by rfl) (by show (uF (uI (uI yA 38 9 l) 38 10 yz) 45 yk).1 38 10 = yz; rw [uF_c (by decide), uI_h]) ?_
            refine Pa.ic (x := 1) (pc' := 16) (by rfl) (by rfl) (by decide) ?_
            refine Pa.mp 1 (pc' := 17) (l' := [(0, .ref 38)]) (st' := [.int (yz - 1), .ref 38]) (by rfl) ?_
            refine Pa.pfI (by rfl) (by rfl) (.inl rfl) (by rfl) ?_
            show Pa N 7 20 [(0, .ref 38)] [] (uI (uF (uI (uI yA 38 9 l) 38 10 yz) 45 yk) 38 10 (yz - 1)) _
            refine Pa.mp 1 (pc' := 21) (l' := [(0, .ref 38)]) (st' := [.ref 38]) (by rfl) ?_
            refine Pa.gfR (by rfl) (by rfl) (.inl rfl) (by rfl) ?_
            show Pa N 7 24 [(0, .ref 38)] [.ref 45] (uI (uF (uI (uI yA 38 9 l) 38 10 yz) 45 yk) 38 10 (yz - 1)) _
            refine Pa.mp 1 (pc' := 25) (l' := [(0, .ref 38)]) (st' := [.ref 38, .ref 45]) (by rfl) ?_
            refine Pa.gfI (v := yz - 1) (by rfl) (by rfl) (.inl rfl) (by rfl) (by show (uI (uF (uI (uI yA 38 9 l) 38 10 yz) 45 yk) 38 10 (yz - 1)).1 38 10 = yz - 1; rw [uI_h]) ?_
            refine Pa.alds (v := yk ((yz - 1).toInt.toNat)) (by rfl) (by rfl) (by show (uI (uF (uI (uI yA 38 9 l) 38 10 yz) 45 yk) 38 10 (yz - 1)).1 45 ((yz - 1).toInt.toNat) = yk ((yz - 1).toInt.toNat); rw [uI_c (by decide), uF_h]) (fun h59 h60 => ?_)
            have h59 : 0 ≤ (yz - 1).toInt := h59
            have h60 : (yz - 1).toInt < 161 := h60
            refine Pa.iret (by rfl) ?_
            show Pa N 4 94 [(4, .int (yA.1 ya yi.toInt.toNat)), (0, .ref 38), (1, .int yt), (2, .ref ya), (3, .int yi), (5, .int yy)] [.int (yk ((yz - 1).toInt.toNat))] (uI (uF (uI (uI yA 38 9 l) 38 10 yz) 45 yk) 38 10 (yz - 1)) _
            refine Pa.iret (by rfl) ?_
            exact l14 h2 h3 h4 h5 h7 h10 h57 h59 h60
          · have h58 : yz.toInt < 1 := h58
            refine Pa.ic (x := 0) (pc' := 9) (by rfl) (by rfl) (by decide) ?_
            refine Pa.iret (by rfl) ?_
            show Pa N 4 94 [(4, .int (yA.1 ya yi.toInt.toNat)), (0, .ref 38), (1, .int yt), (2, .ref ya), (3, .int yi), (5, .int yy)] [.int 0] (uF (uI (uI yA 38 9 l) 38 10 yz) 45 yk) _
            refine Pa.iret (by rfl) ?_
            exact l15 h2 h3 h4 h5 h7 h10 h58
      · have h8 : (-10) ≤ (yA.1 ya yi.toInt.toNat).toInt := h8
        refine Pa.mp 2 (pc' := 69) (l' := [(4, .int (yA.1 ya yi.toInt.toNat)), (0, .ref 38), (1, .int yt), (2, .ref ya), (3, .int yi), (5, .int yy)]) (st' := [.ref 38, .ref 38]) (by rfl) ?_
        refine Pa.gfR (by rfl) (by rfl) (.inl rfl) (by rfl) ?_
        show Pa N 4 72 [(4, .int (yA.1 ya yi.toInt.toNat)), (0, .ref 38), (1, .int yt), (2, .ref ya), (3, .int yi), (5, .int yy)] [.ref 44, .ref 38] (uF (uI (uI yA 38 9 l) 38 10 yz) 45 yk) _
        refine Pa.ic (x := (-1)) (pc' := 73) (by rfl) (by rfl) (by decide) ?_
        refine Pa.mp 2 (pc' := 76) (l' := [(4, .int (yA.1 ya yi.toInt.toNat)), (0, .ref 38), (1, .int yt), (2, .ref ya), (3, .int yi), (5, .int yy)]) (st' := [.int ((-1) - (yA.1 ya yi.toInt.toNat)), .ref 44, .ref 38]) (by rfl) ?_
        refine Pa.alds (v := yA.1 44 (((-1) - (yA.1 ya yi.toInt.toNat)).toInt.toNat)) (by rfl) (by rfl) (by show (uF (uI (uI yA 38 9 l) 38 10 yz) 45 yk).1 44 (((-1) - (yA.1 ya yi.toInt.toNat)).toInt.toNat) = yA.1 44 (((-1) - (yA.1 ya yi.toInt.toNat)).toInt.toNat); rw [uF_c (by decide), uI_c (by decide), uI_c (by decide)]) (fun h61 h62 => ?_)
        have h61 : 0 ≤ ((-1) - (yA.1 ya yi.toInt.toNat)).toInt := h61
        have h62 : ((-1) - (yA.1 ya yi.toInt.toNat)).toInt < 10 := h62
        refine Pa.inv (by rfl) (by rfl) (.inl rfl) (by rfl) ?_
        show Pa N 6 0 [(0, .ref 38), (1, .int (yA.1 44 (((-1) - (yA.1 ya yi.toInt.toNat)).toInt.toNat)))] [] (uF (uI (uI yA 38 9 l) 38 10 yz) 45 yk) _
        refine Pa.mp 1 (pc' := 1) (l' := [(0, .ref 38), (1, .int (yA.1 44 (((-1) - (yA.1 ya yi.toInt.toNat)).toInt.toNat)))]) (st' := [.ref 38]) (by rfl) ?_
        refine Pa.gfI (v := yz) (by rfl) (by rfl) (.inl rfl) (by rfl) (by show (uF (uI (uI yA 38 9 l) 38 10 yz) 45 yk).1 38 10 = yz; rw [uF_c (by decide), uI_h]) ?_
        refine Pa.mp 1 (pc' := 5) (l' := [(0, .ref 38), (1, .int (yA.1 44 (((-1) - (yA.1 ya yi.toInt.toNat)).toInt.toNat)))]) (st' := [.ref 38, .int yz]) (by rfl) ?_
        refine Pa.gfR (by rfl) (by rfl) (.inl rfl) (by rfl) ?_
        show Pa N 6 8 [(0, .ref 38), (1, .int (yA.1 44 (((-1) - (yA.1 ya yi.toInt.toNat)).toInt.toNat)))] [.ref 45, .int yz] (uF (uI (uI yA 38 9 l) 38 10 yz) 45 yk) _
        refine Pa.lens (x := 161) (by rfl) (by rfl) (by decide) ?_
        refine Pa.if2 (a := yz.toInt) (b := 161) (t := 32) (by rfl) (by rfl) (rfl) (by decide) (fun yh => (by exfalso; have h' : 161 ≤ yz.toInt := yh; omega)) (fun _ => ?_)
        refine Pa.mp 1 (pc' := 13) (l' := [(0, .ref 38), (1, .int (yA.1 44 (((-1) - (yA.1 ya yi.toInt.toNat)).toInt.toNat)))]) (st' := [.ref 38]) (by rfl) ?_
        refine Pa.gfR (by rfl) (by rfl) (.inl rfl) (by rfl) ?_
        show Pa N 6 16 [(0, .ref 38), (1, .int (yA.1 44 (((-1) - (yA.1 ya yi.toInt.toNat)).toInt.toNat)))] [.ref 45] (uF (uI (uI yA 38 9 l) 38 10 yz) 45 yk) _
        refine Pa.mp 1 (pc' := 17) (l' := [(0, .ref 38), (1, .int (yA.1 44 (((-1) - (yA.1 ya yi.toInt.toNat)).toInt.toNat)))]) (st' := [.ref 38, .ref 45]) (by rfl) ?_
        refine Pa.gfI (v := yz) (by rfl) (by rfl) (.inl rfl) (by rfl) (by show (uF (uI (uI yA 38 9 l) 38 10 yz) 45 yk).1 38 10 = yz; rw [uF_c (by decide), uI_h]) ?_
        refine Pa.mp 1 (pc' := 21) (l' := [(0, .ref 38), (1, .int (yA.1 44 (((-1) - (yA.1 ya yi.toInt.toNat)).toInt.toNat)))]) (st' := [.int (yA.1 44 (((-1) - (yA.1 ya yi.toInt.toNat)).toInt.toNat)), .int yz, .ref 45]) (by rfl) ?_
        refine Pa.asts (j' := yz.toInt.toNat) (by rfl) (by rfl) (by rfl) (fun h64 h65 => ?_)
        have h64 : 0 ≤ yz.toInt := h64
        have h65 : yz.toInt < 161 := h65
        show Pa N 6 22 [(0, .ref 38), (1, .int (yA.1 44 (((-1) - (yA.1 ya yi.toInt.toNat)).toInt.toNat)))] [] (uI (uF (uI (uI yA 38 9 l) 38 10 yz) 45 yk) 45 yz.toInt.toNat (yA.1 44 (((-1) - (yA.1 ya yi.toInt.toNat)).toInt.toNat))) _
        refine Pa.mp 2 (pc' := 24) (l' := [(0, .ref 38), (1, .int (yA.1 44 (((-1) - (yA.1 ya yi.toInt.toNat)).toInt.toNat)))]) (st' := [.ref 38, .ref 38]) (by rfl) ?_
        refine Pa.gfI (v := yz) (by rfl) (by rfl) (.inl rfl) (by rfl) (by show (uI (uF (uI (uI yA 38 9 l) 38 10 yz) 45 yk) 45 yz.toInt.toNat (yA.1 44 (((-1) - (yA.1 ya yi.toInt.toNat)).toInt.toNat))).1 38 10 = yz; rw [uI_c (by decide), uF_c (by decide), uI_h]) ?_
        refine Pa.ic (x := 1) (pc' := 28) (by rfl) (by rfl) (by decide) ?_
        refine Pa.mp 1 (pc' := 29) (l' := [(0, .ref 38), (1, .int (yA.1 44 (((-1) - (yA.1 ya yi.toInt.toNat)).toInt.toNat)))]) (st' := [.int (yz + 1), .ref 38]) (by rfl) ?_
        refine Pa.pfI (by rfl) (by rfl) (.inl rfl) (by rfl) ?_
        show Pa N 6 32 [(0, .ref 38), (1, .int (yA.1 44 (((-1) - (yA.1 ya yi.toInt.toNat)).toInt.toNat)))] [] (uI (uI (uF (uI (uI yA 38 9 l) 38 10 yz) 45 yk) 45 yz.toInt.toNat (yA.1 44 (((-1) - (yA.1 ya yi.toInt.toNat)).toInt.toNat))) 38 10 (yz + 1)) _
        refine Pa.vret (by rfl) ?_
        show Pa N 4 80 [(4, .int (yA.1 ya yi.toInt.toNat)), (0, .ref 38), (1, .int yt), (2, .ref ya), (3, .int yi), (5, .int yy)] [] (uI (uI (uF (uI (uI yA 38 9 l) 38 10 yz) 45 yk) 45 yz.toInt.toNat (yA.1 44 (((-1) - (yA.1 ya yi.toInt.toNat)).toInt.toNat))) 38 10 (yz + 1)) _
        refine Pa.mp 1 (pc' := 176) (l' := [(4, .int (yA.1 ya yi.toInt.toNat)), (0, .ref 38), (1, .int yt), (2, .ref ya), (3, .int yi), (5, .int yy)]) (st' := []) (by rfl) ?_
        refine Pa.iinc (x := yi) (c := 1) (v := (yi + 1)) (l' := [(3, .int (yi + 1)), (4, .int (yA.1 ya yi.toInt.toNat)), (0, .ref 38), (1, .int yt), (2, .ref ya), (5, .int yy)]) (by rfl) (by rfl) (by decide) (by rfl) (by rfl) ?_
        refine Pa.mp 1 (pc' := 31) (l' := [(3, .int (yi + 1)), (4, .int (yA.1 ya yi.toInt.toNat)), (0, .ref 38), (1, .int yt), (2, .ref ya), (5, .int yy)]) (st' := []) (by rfl) ?_
        refine Pa.lv (l' := [(0, .ref 38), (1, .int yt), (2, .ref ya), (3, .int (yi + 1)), (4, .int (yA.1 ya yi.toInt.toNat)), (5, .int yy)]) (lvS_c rfl (lvS_c rfl (lvS_c rfl (lvS_c rfl (lvS_c rfl (lvS_c rfl (lvS_nil))))))) rfl ?_
        exact l16 h2 h3 h4 h5 h8 h61 h62 h64 h65
    · have h6 : 0 ≤ (yA.1 ya yi.toInt.toNat).toInt := h6
      refine Pa.mp 2 (pc' := 54) (l' := [(4, .int (yA.1 ya yi.toInt.toNat)), (0, .ref 38), (1, .int yt), (2, .ref ya), (3, .int yi), (5, .int yy)]) (st' := [.int (yA.1 ya yi.toInt.toNat), .ref 38]) (by rfl) ?_
      refine Pa.inv (by rfl) (by rfl) (.inl rfl) (by rfl) ?_
      show Pa N 6 0 [(0, .ref 38), (1, .int (yA.1 ya yi.toInt.toNat))] [] (uF (uI (uI yA 38 9 l) 38 10 yz) 45 yk) _
      refine Pa.mp 1 (pc' := 1) (l' := [(0, .ref 38), (1, .int (yA.1 ya yi.toInt.toNat))]) (st' := [.ref 38]) (by rfl) ?_
      refine Pa.gfI (v := yz) (by rfl) (by rfl) (.inl rfl) (by rfl) (by show (uF (uI (uI yA 38 9 l) 38 10 yz) 45 yk).1 38 10 = yz; rw [uF_c (by decide), uI_h]) ?_
      refine Pa.mp 1 (pc' := 5) (l' := [(0, .ref 38), (1, .int (yA.1 ya yi.toInt.toNat))]) (st' := [.ref 38, .int yz]) (by rfl) ?_
      refine Pa.gfR (by rfl) (by rfl) (.inl rfl) (by rfl) ?_
      show Pa N 6 8 [(0, .ref 38), (1, .int (yA.1 ya yi.toInt.toNat))] [.ref 45, .int yz] (uF (uI (uI yA 38 9 l) 38 10 yz) 45 yk) _
      refine Pa.lens (x := 161) (by rfl) (by rfl) (by decide) ?_
      refine Pa.if2 (a := yz.toInt) (b := 161) (t := 32) (by rfl) (by rfl) (rfl) (by decide) (fun yh => (by exfalso; have h' : 161 ≤ yz.toInt := yh; omega)) (fun _ => ?_)
      refine Pa.mp 1 (pc' := 13) (l' := [(0, .ref 38), (1, .int (yA.1 ya yi.toInt.toNat))]) (st' := [.ref 38]) (by rfl) ?_
      refine Pa.gfR (by rfl) (by rfl) (.inl rfl) (by rfl) ?_
      show Pa N 6 16 [(0, .ref 38), (1, .int (yA.1 ya yi.toInt.toNat))] [.ref 45] (uF (uI (uI yA 38 9 l) 38 10 yz) 45 yk) _
      refine Pa.mp 1 (pc' := 17) (l' := [(0, .ref 38), (1, .int (yA.1 ya yi.toInt.toNat))]) (st' := [.ref 38, .ref 45]) (by rfl) ?_
      refine Pa.gfI (v := yz) (by rfl) (by rfl) (.inl rfl) (by rfl) (by show (uF (uI (uI yA 38 9 l) 38 10 yz) 45 yk).1 38 10 = yz; rw [uF_c (by decide), uI_h]) ?_
      refine Pa.mp 1 (pc' := 21) (l' := [(0, .ref 38), (1, .int (yA.1 ya yi.toInt.toNat))]) (st' := [.int (yA.1 ya yi.toInt.toNat), .int yz, .ref 45]) (by rfl) ?_
      refine Pa.asts (j' := yz.toInt.toNat) (by rfl) (by rfl) (by rfl) (fun h67 h68 => ?_)
      have h67 : 0 ≤ yz.toInt := h67
      have h68 : yz.toInt < 161 := h68
      show Pa N 6 22 [(0, .ref 38), (1, .int (yA.1 ya yi.toInt.toNat))] [] (uI (uF (uI (uI yA 38 9 l) 38 10 yz) 45 yk) 45 yz.toInt.toNat (yA.1 ya yi.toInt.toNat)) _
      refine Pa.mp 2 (pc' := 24) (l' := [(0, .ref 38), (1, .int (yA.1 ya yi.toInt.toNat))]) (st' := [.ref 38, .ref 38]) (by rfl) ?_
      refine Pa.gfI (v := yz) (by rfl) (by rfl) (.inl rfl) (by rfl) (by show (uI (uF (uI (uI yA 38 9 l) 38 10 yz) 45 yk) 45 yz.toInt.toNat (yA.1 ya yi.toInt.toNat)).1 38 10 = yz; rw [uI_c (by decide), uF_c (by decide), uI_h]) ?_
      refine Pa.ic (x := 1) (pc' := 28) (by rfl) (by rfl) (by decide) ?_
      refine Pa.mp 1 (pc' := 29) (l' := [(0, .ref 38), (1, .int (yA.1 ya yi.toInt.toNat))]) (st' := [.int (yz + 1), .ref 38]) (by rfl) ?_
      refine Pa.pfI (by rfl) (by rfl) (.inl rfl) (by rfl) ?_
      show Pa N 6 32 [(0, .ref 38), (1, .int (yA.1 ya yi.toInt.toNat))] [] (uI (uI (uF (uI (uI yA 38 9 l) 38 10 yz) 45 yk) 45 yz.toInt.toNat (yA.1 ya yi.toInt.toNat)) 38 10 (yz + 1)) _
      refine Pa.vret (by rfl) ?_
      show Pa N 4 57 [(4, .int (yA.1 ya yi.toInt.toNat)), (0, .ref 38), (1, .int yt), (2, .ref ya), (3, .int yi), (5, .int yy)] [] (uI (uI (uF (uI (uI yA 38 9 l) 38 10 yz) 45 yk) 45 yz.toInt.toNat (yA.1 ya yi.toInt.toNat)) 38 10 (yz + 1)) _
      refine Pa.mp 1 (pc' := 176) (l' := [(4, .int (yA.1 ya yi.toInt.toNat)), (0, .ref 38), (1, .int yt), (2, .ref ya), (3, .int yi), (5, .int yy)]) (st' := []) (by rfl) ?_
      refine Pa.iinc (x := yi) (c := 1) (v := (yi + 1)) (l' := [(3, .int (yi + 1)), (4, .int (yA.1 ya yi.toInt.toNat)), (0, .ref 38), (1, .int yt), (2, .ref ya), (5, .int yy)]) (by rfl) (by rfl) (by decide) (by rfl) (by rfl) ?_
      refine Pa.mp 1 (pc' := 31) (l' := [(3, .int (yi + 1)), (4, .int (yA.1 ya yi.toInt.toNat)), (0, .ref 38), (1, .int yt), (2, .ref ya), (5, .int yy)]) (st' := []) (by rfl) ?_
      refine Pa.lv (l' := [(0, .ref 38), (1, .int yt), (2, .ref ya), (3, .int (yi + 1)), (4, .int (yA.1 ya yi.toInt.toNat)), (5, .int yy)]) (lvS_c rfl (lvS_c rfl (lvS_c rfl (lvS_c rfl (lvS_c rfl (lvS_c rfl (lvS_nil))))))) rfl ?_
      exact l17 h2 h3 h4 h6 h67 h68

theorem bx_run0 {N : Nat} {yA : AW} {yQ : Option Value → AW → Prop} (yt : Int32)
    (l1 : yt.toInt < 0 → Pa N 4 31 [(0, .ref 38), (1, .int yt), (2, .null), (3, .int 0), (4, .int 0), (5, .int 0)] [] (uI (uI yA 38 9 0) 38 10 0) yQ)
    (l2 : 0 ≤ yt.toInt → (yA.1 38 7).toInt ≤ yt.toInt → Pa N 4 31 [(0, .ref 38), (1, .int yt), (2, .null), (3, .int 0), (4, .int 0), (5, .int 0)] [] (uI (uI yA 38 9 0) 38 10 0) yQ)
    (l3 : 0 ≤ yt.toInt → yt.toInt < (yA.1 38 7).toInt → yt.toInt < 20 → ∀ ya1, yA.2.2.1 39 yt.toInt.toNat = some ya1 → 129 ≤ ya1 → ya1 < yA.2.2.2.2 → Pa N 4 31 [(0, .ref 38), (1, .int yt), (2, .ref ya1), (3, .int 0), (4, .int 0), (5, .int 0)] [] (uI (uI yA 38 9 0) 38 10 0) yQ)
    (l4 : 0 ≤ yt.toInt → yt.toInt < (yA.1 38 7).toInt → yt.toInt < 20 → yA.2.2.1 39 yt.toInt.toNat = none → Pa N 4 31 [(0, .ref 38), (1, .int yt), (2, .null), (3, .int 0), (4, .int 0), (5, .int 0)] [] (uI (uI yA 38 9 0) 38 10 0) yQ) :
    Pa N 4 0 [(0, .ref 38), (1, .int yt)] [] yA yQ := by
  refine Pa.mp 2 (pc' := 2) (l' := [(0, .ref 38), (1, .int yt)]) (st' := [.int yt, .ref 38]) (by rfl) ?_
  refine Pa.inv (by rfl) (by rfl) (.inl rfl) (by rfl) ?_
  show Pa N 1 0 [(0, .ref 38), (1, .int yt)] [] yA _
  refine Pa.mp 1 (pc' := 1) (l' := [(0, .ref 38), (1, .int yt)]) (st' := [.int yt]) (by rfl) ?_
  refine Pa.if1 (a := yt.toInt) (t := 16) (by rfl) (by rfl) (rfl) (fun h1 => ?_) (fun h2 => ?_)
  · have h1 : yt.toInt < 0 := h1
    refine Pa.ic (x := 0) (pc' := 17) (by rfl) (by rfl) (by decide) ?_
    refine Pa.iret (by rfl) ?_
    show Pa N 4 5 [(0, .ref 38), (1, .int yt)] [.int 0] yA _
    refine Pa.if1k true (by rfl) (by rfl) (by decide) ?_
    show Pa N 4 17 [(0, .ref 38), (1, .int yt)] [] yA _
    refine Pa.mp 3 (pc' := 20) (l' := [(2, .null), (0, .ref 38), (1, .int yt)]) (st' := [.ref 38]) (by rfl) ?_
    refine Pa.ic (x := 0) (pc' := 21) (by rfl) (by rfl) (by decide) ?_
    refine Pa.pfI (by rfl) (by rfl) (.inl rfl) (by rfl) ?_
    show Pa N 4 24 [(2, .null), (0, .ref 38), (1, .int yt)] [] (uI yA 38 9 0) _
    refine Pa.mp 1 (pc' := 25) (l' := [(2, .null), (0, .ref 38), (1, .int yt)]) (st' := [.ref 38]) (by rfl) ?_
    refine Pa.ic (x := 0) (pc' := 26) (by rfl) (by rfl) (by decide) ?_
    refine Pa.pfI (by rfl) (by rfl) (.inl rfl) (by rfl) ?_
    show Pa N 4 29 [(2, .null), (0, .ref 38), (1, .int yt)] [] (uI (uI yA 38 9 0) 38 10 0) _
    refine Pa.ic (x := 0) (pc' := 30) (by rfl) (by rfl) (by decide) ?_
    refine Pa.mp 1 (pc' := 31) (l' := [(3, .int 0), (2, .null), (0, .ref 38), (1, .int yt)]) (st' := []) (by rfl) ?_
    refine Pa.lv (l' := [(0, .ref 38), (1, .int yt), (2, .null), (3, .int 0), (4, .int 0), (5, .int 0)]) (lvS_c rfl (lvS_c rfl (lvS_c rfl (lvS_c rfl (lvS_nil))))) rfl ?_
    exact l1 h1
  · have h2 : 0 ≤ yt.toInt := h2
    refine Pa.mp 2 (pc' := 6) (l' := [(0, .ref 38), (1, .int yt)]) (st' := [.ref 38, .int yt]) (by rfl) ?_
    refine Pa.gfI (v := yA.1 38 7) (by rfl) (by rfl) (.inl rfl) (by rfl) (by rfl) ?_
    refine Pa.if2 (a := yt.toInt) (b := (yA.1 38 7).toInt) (t := 16) (by rfl) (by rfl) (rfl) (rfl) (fun h3 => ?_) (fun h4 => ?_)
    · have h3 : (yA.1 38 7).toInt ≤ yt.toInt := h3
      refine Pa.ic (x := 0) (pc' := 17) (by rfl) (by rfl) (by decide) ?_
      refine Pa.iret (by rfl) ?_
      show Pa N 4 5 [(0, .ref 38), (1, .int yt)] [.int 0] yA _
      refine Pa.if1k true (by rfl) (by rfl) (by decide) ?_
      show Pa N 4 17 [(0, .ref 38), (1, .int yt)] [] yA _
      refine Pa.mp 3 (pc' := 20) (l' := [(2, .null), (0, .ref 38), (1, .int yt)]) (st' := [.ref 38]) (by rfl) ?_
      refine Pa.ic (x := 0) (pc' := 21) (by rfl) (by rfl) (by decide) ?_
      refine Pa.pfI (by rfl) (by rfl) (.inl rfl) (by rfl) ?_
      show Pa N 4 24 [(2, .null), (0, .ref 38), (1, .int yt)] [] (uI yA 38 9 0) _
      refine Pa.mp 1 (pc' := 25) (l' := [(2, .null), (0, .ref 38), (1, .int yt)]) (st' := [.ref 38]) (by rfl) ?_
      refine Pa.ic (x := 0) (pc' := 26) (by rfl) (by rfl) (by decide) ?_
      refine Pa.pfI (by rfl) (by rfl) (.inl rfl) (by rfl) ?_
      show Pa N 4 29 [(2, .null), (0, .ref 38), (1, .int yt)] [] (uI (uI yA 38 9 0) 38 10 0) _
      refine Pa.ic (x := 0) (pc' := 30) (by rfl) (by rfl) (by decide) ?_
      refine Pa.mp 1 (pc' := 31) (l' := [(3, .int 0), (2, .null), (0, .ref 38), (1, .int yt)]) (st' := []) (by rfl) ?_
      refine Pa.lv (l' := [(0, .ref 38), (1, .int yt), (2, .null), (3, .int 0), (4, .int 0), (5, .int 0)]) (lvS_c rfl (lvS_c rfl (lvS_c rfl (lvS_c rfl (lvS_nil))))) rfl ?_
      exact l2 h2 h3
    · have h4 : yt.toInt < (yA.1 38 7).toInt := h4
      refine Pa.ic (x := 1) (pc' := 13) (by rfl) (by rfl) (by decide) ?_
      refine Pa.mp 1 (pc' := 17) (l' := [(0, .ref 38), (1, .int yt)]) (st' := [.int 1]) (by rfl) ?_
      refine Pa.iret (by rfl) ?_
      show Pa N 4 5 [(0, .ref 38), (1, .int yt)] [.int 1] yA _
      refine Pa.if1k false (by rfl) (by rfl) (by decide) ?_
      show Pa N 4 8 [(0, .ref 38), (1, .int yt)] [] yA _
      refine Pa.mp 1 (pc' := 9) (l' := [(0, .ref 38), (1, .int yt)]) (st' := [.ref 38]) (by rfl) ?_
      refine Pa.gfR (by rfl) (by rfl) (.inl rfl) (by rfl) ?_
      show Pa N 4 12 [(0, .ref 38), (1, .int yt)] [.ref 39] yA _
      refine Pa.mp 1 (pc' := 13) (l' := [(0, .ref 38), (1, .int yt)]) (st' := [.int yt, .ref 39]) (by rfl) ?_
      refine Pa.olds (o := yA.2.2.1 39 yt.toInt.toNat) (by rfl) (by rfl) (by rfl) (fun h5 h6 ya1 h7 h9 h10 => ?_) (fun h5 h6 h8 => ?_)
      · skip
        refine Pa.mp 3 (pc' := 20) (l' := [(2, .ref ya1), (0, .ref 38), (1, .int yt)]) (st' := [.ref 38]) (by rfl) ?_
        refine Pa.ic (x := 0) (pc' := 21) (by rfl) (by rfl) (by decide) ?_
        refine Pa.pfI (by rfl) (by rfl) (.inl rfl) (by rfl) ?_
        show Pa N 4 24 [(2, .ref ya1), (0, .ref 38), (1, .int yt)] [] (uI yA 38 9 0) _
        refine Pa.mp 1 (pc' := 25) (l' := [(2, .ref ya1), (0, .ref 38), (1, .int yt)]) (st' := [.ref 38]) (by rfl) ?_
        refine Pa.ic (x := 0) (pc' := 26) (by rfl) (by rfl) (by decide) ?_
        refine Pa.pfI (by rfl) (by rfl) (.inl rfl) (by rfl) ?_
        show Pa N 4 29 [(2, .ref ya1), (0, .ref 38), (1, .int yt)] [] (uI (uI yA 38 9 0) 38 10 0) _
        refine Pa.ic (x := 0) (pc' := 30) (by rfl) (by rfl) (by decide) ?_
        refine Pa.mp 1 (pc' := 31) (l' := [(3, .int 0), (2, .ref ya1), (0, .ref 38), (1, .int yt)]) (st' := []) (by rfl) ?_
        refine Pa.lv (l' := [(0, .ref 38), (1, .int yt), (2, .ref ya1), (3, .int 0), (4, .int 0), (5, .int 0)]) (lvS_c rfl (lvS_c rfl (lvS_c rfl (lvS_c rfl (lvS_nil))))) rfl ?_
        exact l3 h2 h4 h6 ya1 h7 h9 h10
      · skip
        refine Pa.mp 3 (pc' := 20) (l' := [(2, .null), (0, .ref 38), (1, .int yt)]) (st' := [.ref 38]) (by rfl) ?_
        refine Pa.ic (x := 0) (pc' := 21) (by rfl) (by rfl) (by decide) ?_
        refine Pa.pfI (by rfl) (by rfl) (.inl rfl) (by rfl) ?_
        show Pa N 4 24 [(2, .null), (0, .ref 38), (1, .int yt)] [] (uI yA 38 9 0) _
        refine Pa.mp 1 (pc' := 25) (l' := [(2, .null), (0, .ref 38), (1, .int yt)]) (st' := [.ref 38]) (by rfl) ?_
        refine Pa.ic (x := 0) (pc' := 26) (by rfl) (by rfl) (by decide) ?_
        refine Pa.pfI (by rfl) (by rfl) (.inl rfl) (by rfl) ?_
        show Pa N 4 29 [(2, .null), (0, .ref 38), (1, .int yt)] [] (uI (uI yA 38 9 0) 38 10 0) _
        refine Pa.ic (x := 0) (pc' := 30) (by rfl) (by rfl) (by decide) ?_
        refine Pa.mp 1 (pc' := 31) (l' := [(3, .int 0), (2, .null), (0, .ref 38), (1, .int yt)]) (st' := []) (by rfl) ?_
        refine Pa.lv (l' := [(0, .ref 38), (1, .int yt), (2, .null), (3, .int 0), (4, .int 0), (5, .int 0)]) (lvS_c rfl (lvS_c rfl (lvS_c rfl (lvS_c rfl (lvS_nil))))) rfl ?_
        exact l4 h2 h4 h6 h8

/-- what ya yrun of codes leaves -/
def rnQ (yA : AW) (yr : Option (Int32 × Nat)) (yu : Option Value) (A1 : AW) : Prop := ∃ l yh yk, A1 = rnW yA l yh yk ∧ ((∃ yv ym, yr = some (yv, ym) ∧ yu = some (.int yv) ∧ l = Int32.ofNat ym) ∨ (yr = none ∧ yu = some (.int 0) ∧ l = -1))
theorem rn_one {yenv : Nat → Int32} {yx : Int32} {yr yst : List Int32} {ln : Nat} (h1 : yx.toInt ≠ -59) (h2 : yx.toInt ≠ -63) : rnX yenv (yx :: yr) false yst ln = rnX yenv yr false (ev1 yenv yst yx) ln := by
  show (if yx.toInt = -59 then _ else if yx.toInt = -63 then _ else rnX yenv yr false (ev1 yenv yst yx) ln) = _
  rw [if_neg h1, if_neg h2]
theorem rnX_qn {yenv : Nat → Int32} {yr : List Int32} {ln : Nat} : rnX yenv (-63 :: yr) false [] ln = rnX yenv yr true [] (ln + 1) := by
  show (if (-63 : Int32).toInt = -59 then _ else if (-63 : Int32).toInt = -63 then (if (0 : Int32).toInt = 0 then rnX yenv yr true [] (ln + 1) else rnX yenv yr false [] ln) else _) = _
  rw [if_neg (by decide), if_pos (by decide), if_pos (by decide)]
theorem rnX_e0 {yenv : Nat → Int32} {yr : List Int32} {ln : Nat} : rnX yenv (-59 :: yr) false [] ln = some (0, ln) := by
  show (if (-59 : Int32).toInt = -59 then _ else _) = _
  rw [if_pos (by decide)]
  rfl
theorem eol_go {yA : AW} {ya yn yi ln N : Nat} {ds yst : List Int32} {yk : Nat → Int32} {yx yt yx4 yx5 : Int32} (yha : 129 ≤ ya) (yhd : ds.length = yn) (yhc : ∀ yj, yj < yn → yA.1 ya yj = ds.getD yj 0) (hin : yi < yn) (hx : ds.getD yi 0 = yx) (hx9 : yx.toInt ≠ -59)
    (yih : ∀ (yi ln : Nat) (yst : List Int32) (yk : Nat → Int32) (yt yx4 yx5 : Int32), yi ≤ yn + 1 → yst.length ≤ yi → stR yk yst → Pa N 4 31 [(0, .ref 38), (1, .int yt), (2, .ref ya), (3, .int (Int32.ofNat yi)), (4, .int yx4), (5, .int yx5)] [] (rnW yA (Int32.ofNat ln) (Int32.ofNat yst.length) yk) (rnQ yA (rnX (yA.1 44) (ds.drop yi) false yst ln)))
    {ye : Nat} (he : eoP (rnW yA (Int32.ofNat ln) (Int32.ofNat yst.length) yk) ya yn yi ye) (hst : yst.length ≤ yi) (hk : stR yk yst) : Pa N 4 114 [(0, .ref 38), (1, .int yt), (2, .ref ya), (3, .int (Int32.ofNat yi)), (4, .int yx4), (5, .int yx5)] [.int (Int32.ofNat ye)] (rnW yA (Int32.ofNat ln) (Int32.ofNat yst.length) yk) (rnQ yA (rnX (yA.1 44) (ds.drop (yi + 1)) true yst (ln + 1))) := by
  obtain ⟨ye1, ye2, ye3, ye4⟩ := he
  have yrd : ∀ yj, (rnW yA (Int32.ofNat ln) (Int32.ofNat yst.length) yk).1 ya yj = yA.1 ya yj := fun yj => rnW_c (by omega) (by omega)
  have hie : yi < ye := by
    rcases Nat.lt_or_ge yi ye with yq | yq
    · exact yq
    · have yh := ye4 (by omega)
      rw [yrd, yhc ye (by omega), show ye = yi from by omega, hx] at yh
      exact absurd yh hx9
  rw [rnX_eol (ye - (yi + 1)) (yi + 1) ye (by omega) (by omega) (fun yj j1 yj2 => ?_) (fun yq => ?_)]
  · refine bx_rune yt _ yx4 yx5 _ _ _ yk ?_
    rw [show uF (uI (uI yA 38 9 (Int32.ofNat ln)) 38 10 (Int32.ofNat yst.length)) 45 yk = rnW yA (Int32.ofNat ln) (Int32.ofNat yst.length) yk from rfl, rnW_l, ← on_succ ln, ← on_succ ye]
    exact yih (ye + 1) (ln + 1) yst yk yt yx4 yx5 (by omega) (by omega) hk
  · have := ye3 yj (by omega) yj2
    rw [yrd, yhc yj (by omega)] at this
    exact this
  · have := ye4 (by omega)
    rw [yrd, yhc ye (by omega)] at this
    exact this
theorem c_runL {yA : AW} {ya yn : Nat} {ds : List Int32} (yha : 129 ≤ ya) (hn : yA.2.2.2.1 ya = yn) (yhd : ds.length = yn) (hn2 : yn ≤ 161) (yhc : ∀ yj, yj < yn → yA.1 ya yj = ds.getD yj 0) : ∀ (N yi ln : Nat) (yst : List Int32) (yk : Nat → Int32) (yt yx4 yx5 : Int32), yi ≤ yn + 1 → yst.length ≤ yi → stR yk yst → Pa N 4 31 [(0, .ref 38), (1, .int yt), (2, .ref ya), (3, .int (Int32.ofNat yi)), (4, .int yx4), (5, .int yx5)] [] (rnW yA (Int32.ofNat ln) (Int32.ofNat yst.length) yk) (rnQ yA (rnX (yA.1 44) (ds.drop yi) false yst ln)) := by
  intro N
  induction N with
  | zero => intros; exact Pa.zero
  | succ N yih =>
    intro yi ln yst yk yt yx4 yx5 yhi hst hk
    have en : (Int32.ofNat yn).toInt = (yn : Int) := i32_nat (by omega)
    have ei : (Int32.ofNat yi).toInt = (yi : Int) := i32_nat (by omega)
    by_cases hin : yn ≤ yi
    · -- behind the end
      have hnil : ds.drop yi = [] := List.drop_eq_nil_of_le (by omega)
      rw [hnil]
      have hsl : yst.length ≤ 162 := by omega
      have eh : (Int32.ofNat yst.length).toInt = (yst.length : Int) := i32_nat (by omega)
      exact bx_runZ yt _ yx4 yx5 _ _ yk yha (by rw [show (uF (uI (uI yA 38 9 (Int32.ofNat ln)) 38 10 (Int32.ofNat yst.length)) 45 yk).2.2.2.1 ya = yn from hn, en, ei]; omega) ⟨-1, _, yk, rnW_l, .inr ⟨rfl, rfl, rfl⟩⟩
    · have hin' : yi < yn := by omega
      have eh : (Int32.ofNat yst.length).toInt = (yst.length : Int) := i32_nat (by omega)
      obtain ⟨yx, hx⟩ : ∃ yx, ds.getD yi 0 = yx := ⟨_, rfl⟩
      have hax : yA.1 ya yi = yx := by rw [yhc yi hin', hx]
      have hdr : ds.drop yi = yx :: ds.drop (yi + 1) := by rw [drop_con (by omega), hx]
      rw [hdr]
      have fold : uF (uI (uI yA 38 9 (Int32.ofNat ln)) 38 10 (Int32.ofNat yst.length)) 45 yk = rnW yA (Int32.ofNat ln) (Int32.ofNat yst.length) yk := rfl
      have nl : (rnW yA (Int32.ofNat ln) (Int32.ofNat yst.length) yk).2.2.2.1 ya = yn := hn
      -- ya number yput on the stack that is left
      have yput : ∀ (ys2 : List Int32) (yk2 : Nat → Int32) (yv y4 y5 : Int32), ys2.length ≤ yi → stR yk2 ys2 → rnX (yA.1 44) (yx :: ds.drop (yi + 1)) false yst ln = rnX (yA.1 44) (ds.drop (yi + 1)) false (yv :: ys2) ln → Pa N 4 31 [(0, .ref 38), (1, .int yt), (2, .ref ya), (3, .int (Int32.ofNat yi + 1)), (4, .int y4), (5, .int y5)] [] (rnW yA (Int32.ofNat ln) (Int32.ofNat ys2.length + 1) (fun yq => if yq = ys2.length then yv else yk2 yq)) (rnQ yA (rnX (yA.1 44) (yx :: ds.drop (yi + 1)) false yst ln)) := fun ys2 yk2 yv y4 y5 h1 h2 h3 => by
        rw [h3, ← on_succ yi, ← on_succ ys2.length]
        exact yih (yi + 1) ln (yv :: ys2) _ yt y4 y5 (by omega) (by rw [List.length_cons]; omega) (stR_put h2)
      have yidx : (Int32.ofNat yi).toInt.toNat = yi := by rw [ei, Int.toNat_natCast]
      refine bx_run yt _ yx4 yx5 _ _ yk (by omega) (by omega) yha ?_ ?_ ?_ ?_ ?_ ?_ ?_ ?_ ?_ ?_ ?_ ?_ ?_ ?_ ?_ ?_ ?_ <;> rw [fold, nl, en, ei] <;> (try rw [Int.toNat_natCast, hax])
      · intro h1
        exfalso
        omega
      · -- ya sign, two numbers, no yroom
        intro h1 h2 h3 h4 h5 h6 h7 h8 h9 h10 h11 h12 h13 h14 h15
        exfalso
        omega
      · intro h1 h2 h3 h4 h5 h6 h7 h8 h9 h10 h11 h12 h13 h14
        rcases yst with _ | ⟨yv, yst⟩
        · rw [eh] at h9; exact absurd h9 (by decide)
        · rcases yst with _ | ⟨yw, yst⟩
          · rw [show Int32.ofNat ([yv] : List Int32).length - 1 = Int32.ofNat 0 from on_sub1 (Nat.zero_le 160)] at h12; exact absurd h12 (by decide)
          · rw [List.length_cons, List.length_cons] at hst
            have ye1 : Int32.ofNat (yv :: yw :: yst).length - 1 = Int32.ofNat (yst.length + 1) := on_sub1 (show (yw :: yst).length ≤ 160 by rw [List.length_cons]; omega)
            have ye2 : Int32.ofNat (yst.length + 1) - 1 = Int32.ofNat yst.length := on_sub1 (by omega)
            have yi1 : (Int32.ofNat (yst.length + 1)).toInt.toNat = yst.length + 1 := by rw [i32_nat (by omega)]; omega
            have yi2 : (Int32.ofNat yst.length).toInt.toNat = yst.length := by rw [i32_nat (by omega)]; omega
            have yk1 : yk (yst.length + 1) = yv := stR_hd hk
            have yk2 : yk yst.length = yw := stR_hd (stR_tl hk)
            rw [ye1, ye2, yi1, yi2, yk1, yk2, rnW_h, rnW_h, rnW_p, rnW_h]
            refine yput yst yk _ _ _ (by omega) (stR_tl (stR_tl hk)) ?_
            rw [rn_one h6 h7]
            unfold ev1
            rw [if_neg (by omega), if_neg (by omega), if_neg h8]
            rfl
      · intro h1 h2 h3 h4 h5 h6 h7 h8 h9 h10 h11 h12
        rcases yst with _ | ⟨yv, yst⟩
        · rw [eh] at h9; exact absurd h9 (by decide)
        · rcases yst with _ | ⟨yw, yst⟩
          · have ye1 : Int32.ofNat ([yv] : List Int32).length - 1 = Int32.ofNat 0 := on_sub1 (Nat.zero_le 160)
            have yi1 : (Int32.ofNat 0).toInt.toNat = 0 := by decide
            have yk1 : yk 0 = yv := stR_hd hk
            rw [ye1, yi1, yk1, rnW_h, rnW_p, rnW_h]
            refine yput [] yk _ _ _ (Nat.zero_le _) stR_nil ?_
            rw [rn_one h6 h7]
            unfold ev1
            rw [if_neg (by omega), if_neg (by omega), if_neg h8]
            rfl
          · exfalso
            rw [List.length_cons, List.length_cons] at hst
            have ye1 : Int32.ofNat (yv :: yw :: yst).length - 1 = Int32.ofNat (yst.length + 1) := on_sub1 (show (yw :: yst).length ≤ 160 by rw [List.length_cons]; omega)
            rw [ye1, i32_nat (by omega)] at h12
            omega
      · intro h1 h2 h3 h4 h5 h6 h7 h8 h9 h10 h11
        rcases yst with _ | ⟨yv, yst⟩
        · have yi1 : (Int32.ofNat ([] : List Int32).length).toInt.toNat = 0 := by decide
          rw [yi1, rnW_p, rnW_h]
          refine yput [] yk _ _ _ (Nat.zero_le _) stR_nil ?_
          rw [rn_one h6 h7]
          unfold ev1
          rw [if_neg (by omega), if_neg (by omega), if_neg h8]
          rfl
        · exfalso; rw [eh, List.length_cons] at h9; omega
      · intro h1 h2 h3 h4 h5 h6 h7 h8 h9 h10 h11 h12 h13
        exfalso
        omega
      · intro h1 h2 h3 h4 h5 h6 h7 h8 h9 h10 h11 h12
        rcases yst with _ | ⟨yv, yst⟩
        · rw [eh] at h9; exact absurd h9 (by decide)
        · rw [List.length_cons] at hst
          have ye1 : Int32.ofNat (yv :: yst).length - 1 = Int32.ofNat yst.length := on_sub1 (by omega)
          have yi1 : (Int32.ofNat yst.length).toInt.toNat = yst.length := by rw [i32_nat (by omega)]; omega
          have yk1 : yk yst.length = yv := stR_hd hk
          rw [ye1, yi1, yk1] at h12
          rw [ye1, yi1, rnW_h, rnW_p, rnW_h]
          refine yput yst yk _ _ _ (by omega) (stR_tl hk) ?_
          rw [rn_one h6 h7]
          unfold ev1
          rw [if_neg (by omega), if_neg (by omega), if_pos h8, show (yv :: yst).headD 0 = yv from rfl, if_neg h12]
          rfl
      · intro h1 h2 h3 h4 h5 h6 h7 h8 h9 h10 h11 h12 h13
        exfalso
        omega
      · intro h1 h2 h3 h4 h5 h6 h7 h8 h9 h10 h11 h12
        rcases yst with _ | ⟨yv, yst⟩
        · rw [eh] at h9; exact absurd h9 (by decide)
        · rw [List.length_cons] at hst
          have ye1 : Int32.ofNat (yv :: yst).length - 1 = Int32.ofNat yst.length := on_sub1 (by omega)
          have yi1 : (Int32.ofNat yst.length).toInt.toNat = yst.length := by rw [i32_nat (by omega)]; omega
          have yk1 : yk yst.length = yv := stR_hd hk
          rw [ye1, yi1, yk1] at h12
          rw [ye1, yi1, rnW_h, rnW_p, rnW_h]
          refine yput yst yk _ _ _ (by omega) (stR_tl hk) ?_
          rw [rn_one h6 h7]
          unfold ev1
          rw [if_neg (by omega), if_neg (by omega), if_pos h8, show (yv :: yst).headD 0 = yv from rfl, if_pos h12]
          rfl
      · intro h1 h2 h3 h4 h5 h6 h7 h8 h9 h10 h11
        rcases yst with _ | ⟨yv, yst⟩
        · have yi1 : (Int32.ofNat ([] : List Int32).length).toInt.toNat = 0 := by decide
          rw [yi1, rnW_p, rnW_h]
          refine yput [] yk _ _ _ (Nat.zero_le _) stR_nil ?_
          rw [rn_one h6 h7]
          unfold ev1
          rw [if_neg (by omega), if_neg (by omega), if_pos h8]
          rfl
        · exfalso; rw [eh, List.length_cons] at h9; omega
      · intro h1 h2 h3 h4 h5 h6 h7 h8 h9 h10 h11
        rcases yst with _ | ⟨yv, yst⟩
        · rw [eh] at h8; exact absurd h8 (by decide)
        · rw [List.length_cons] at hst
          have ye1 : Int32.ofNat (yv :: yst).length - 1 = Int32.ofNat yst.length := on_sub1 (by omega)
          have yi1 : (Int32.ofNat yst.length).toInt.toNat = yst.length := by rw [i32_nat (by omega)]; omega
          have yk1 : yk yst.length = yv := stR_hd hk
          have hx2 : yx = -63 := i32_ext (by rw [h7]; decide)
          rw [ye1, yi1, yk1] at h11
          rw [ye1, rnW_h, hx2, rnX_q1 h11, ← on_succ yi]
          exact yih (yi + 1) ln yst yk yt _ _ (by omega) (by omega) (stR_tl hk)
      · intro h1 h2 h3 h4 h5 h6 h7 h8 h9 h10 h11
        rcases yst with _ | ⟨yv, yst⟩
        · rw [eh] at h8; exact absurd h8 (by decide)
        · rw [List.length_cons] at hst
          have ye1 : Int32.ofNat (yv :: yst).length - 1 = Int32.ofNat yst.length := on_sub1 (by omega)
          have yi1 : (Int32.ofNat yst.length).toInt.toNat = yst.length := by rw [i32_nat (by omega)]; omega
          have yk1 : yk yst.length = yv := stR_hd hk
          have hx2 : yx = -63 := i32_ext (by rw [h7]; decide)
          rw [ye1, yi1, yk1] at h11
          rw [ye1, rnW_h, hx2, rnX_q0 h11]
          refine Pa.mono (c_eol (yA := rnW yA (Int32.ofNat ln) (Int32.ofNat yst.length) yk) (ya := ya) (yn := yn) hn hn2 N yi (by omega)) (fun yu A1 hu => ?_)
          obtain ⟨ye, he, rfl, rfl⟩ := hu
          exact eol_go yha yhd yhc hin' hx (by rw [hx2]; decide) yih he (by omega) (stR_tl hk)
      · intro h1 h2 h3 h4 h5 h6 h7 h8
        rcases yst with _ | ⟨yv, yst⟩
        · have hx2 : yx = -63 := i32_ext (by rw [h7]; decide)
          rw [hx2, rnX_qn]
          refine Pa.mono (c_eol (yA := rnW yA (Int32.ofNat ln) (Int32.ofNat ([] : List Int32).length) yk) (ya := ya) (yn := yn) hn hn2 N yi (by omega)) (fun yu A1 hu => ?_)
          obtain ⟨ye, he, rfl, rfl⟩ := hu
          exact eol_go yha yhd yhc hin' hx (by rw [hx2]; decide) yih he hst stR_nil
        · exfalso; rw [eh, List.length_cons] at h8; omega
      · intro h1 h2 h3 h4 h5 h6 h7 h8 h9
        rcases yst with _ | ⟨yv, yst⟩
        · rw [eh] at h7; exact absurd h7 (by decide)
        · rw [List.length_cons] at hst
          have ye1 : Int32.ofNat (yv :: yst).length - 1 = Int32.ofNat yst.length := on_sub1 (by omega)
          have yi1 : (Int32.ofNat yst.length).toInt.toNat = yst.length := by rw [i32_nat (by omega)]; omega
          have yk1 : yk yst.length = yv := stR_hd hk
          have hx2 : yx = -59 := i32_ext (by rw [h6]; decide)
          rw [ye1, yi1, yk1, rnW_h, hx2, rnX_end]
          exact ⟨_, _, yk, rfl, .inl ⟨yv, ln, rfl, rfl, rfl⟩⟩
      · intro h1 h2 h3 h4 h5 h6 h7
        rcases yst with _ | ⟨yv, yst⟩
        · have hx2 : yx = -59 := i32_ext (by rw [h6]; decide)
          rw [hx2, rnX_e0]
          exact ⟨_, _, yk, rfl, .inl ⟨0, ln, rfl, rfl, rfl⟩⟩
        · exfalso; rw [eh, List.length_cons] at h7; omega
      · intro h1 h2 h3 h4 h5 h6 h7 h8 h9
        have yi1 : (Int32.ofNat yst.length).toInt.toNat = yst.length := by rw [eh]; omega
        rw [yi1, rnW_p, rnW_h]
        refine yput yst yk _ _ _ hst hk ?_
        rw [rn_one (by omega) (by omega)]
        unfold ev1
        rw [if_neg (by omega), if_pos h5]
      · intro h1 h2 h3 h4 h5 h6
        have yi1 : (Int32.ofNat yst.length).toInt.toNat = yst.length := by rw [eh]; omega
        rw [yi1, rnW_p, rnW_h]
        refine yput yst yk _ _ _ hst hk ?_
        rw [rn_one (by omega) (by omega), ev_nu h4]
/-- the codes of ya ytext, yrun from the start -/
theorem c_run {yA : AW} {ya yn : Nat} {ds : List Int32} {yt : Int32} (h0 : 0 ≤ yt.toInt) (h1 : yt.toInt < (yA.1 38 7).toInt) (ht : yA.2.2.1 39 yt.toInt.toNat = some ya) (hn : yA.2.2.2.1 ya = yn) (yhd : ds.length = yn) (hn2 : yn ≤ 161) (yhc : ∀ yj, yj < yn → yA.1 ya yj = ds.getD yj 0) (N : Nat) : Pa N 4 0 [(0, .ref 38), (1, .int yt)] [] yA (rnQ yA (rnX (yA.1 44) ds false [] 0)) := by
  refine bx_run0 yt (fun yq => by omega) (fun _ yq => by omega) (fun _ _ _ ya1 h3 h4 h5 => ?_) (fun _ _ _ h3 => ?_)
  · rw [ht] at h3
    cases h3
    rw [rnW_mk]
    exact c_runL h4 hn yhd hn2 yhc N 0 0 [] (yA.1 45) yt 0 0 (Nat.zero_le _) (Nat.le_refl _) stR_nil
  · rw [ht] at h3
    cases h3
