/-! REPAID, GOT, COUNT -/
theorem Rpx_y {yA : AW} (hA : okA yA) (hF : eqF Fy yA) (hR : eqRs Ay yA) (hX : RXL Iy yA) : Rpx yA := Rpx_of hA hF hR (fun yi yhi => hX yi (fsub_ok (yF := Iy) (F' := Iz) (by decide) yhi)) (hX 10 (by decide))
/-! count -/
def coT (ya : Nat → Int32) (yq : Int32) : Int32 := if yq.toInt < 0 ∨ 13 < yq.toInt then -1 else ya yq.toInt.toNat
def coX (yA : AW) : Nat → Int32
  | 0 => yA.1 1 3
  | 1 => yA.1 5 6
  | 2 => yA.1 12 7
  | 3 => yA.1 0 10
  | 4 => yA.1 30 4
  | 5 => yA.1 12 8
  | 6 => yA.1 20 9
  | 7 => yA.1 38 7
  | 8 => yA.1 35 2
  | 9 => yA.1 47 16
  | 10 => yA.1 47 17
  | 11 => yA.1 30 5
  | 12 => sumN (yA.1 3) (yA.1 1 3).toInt.toNat
  | 13 => sumN (yA.1 59) (yA.1 47 17).toInt.toNat
  | _ => 0
def coM (yA : AW) : Nat → Int32
  | 0 => yA.1 69 7
  | 1 => yA.1 69 11
  | 2 => yA.1 69 13
  | 3 => yA.1 69 0
  | 4 => yA.1 69 31
  | 5 => yA.1 69 19
  | 6 => yA.1 69 37
  | 7 => yA.1 69 45
  | 8 => yA.1 69 39
  | 9 => yA.1 69 52
  | 10 => yA.1 69 57
  | 11 => audM yA (-1)
  | 12 => sumN (yA.1 74) (yA.1 69 7).toInt.toNat
  | 13 => sumN (yA.1 114) (yA.1 69 57).toInt.toNat
  | _ => 0
theorem coT_no {ya : Nat → Int32} {yq : Int32} (yh : yq.toInt < 0 ∨ 13 < yq.toInt) : coT ya yq = -1 := if_pos yh
theorem coT_at {ya : Nat → Int32} {yq : Int32} {yn : Nat} (yh : yq.toInt = (yn : Int)) (hn : yn ≤ 13) : coT ya yq = ya yn := by
  have ye : coT ya yq = ya yq.toInt.toNat := if_neg (by omega)
  rw [ye, yh, Int.toNat_natCast]
def dCo (yq : Int32) (yA : AW) (yu : Option Value) (A1 : AW) : Prop := A1 = yA ∧ yu = some (.int (coT (coX yA) yq))
def eCo (yq : Int32) (yA : AW) (yu : Option Value) (_ : AW) : Prop := yu = some (.int (coT (coM yA) yq))
theorem bx_ap0 {N : Nat} {yA : AW} {yQ : Option Value → AW → Prop} 
    (l1 : Pa N 54 4 [(0, .ref 1), (1, .int 0), (2, .int 0)] [] yA yQ) :
    Pa N 54 0 [(0, .ref 1)] [] yA yQ := by
  refine Pa.ic (x := 0) (pc' := 1) (by rfl) (by rfl) (by decide) ?_
  refine Pa.mp 1 (pc' := 2) (l' := [(1, .int 0), (0, .ref 1)]) (st' := []) (by rfl) ?_
  refine Pa.ic (x := 0) (pc' := 3) (by rfl) (by rfl) (by decide) ?_
  refine Pa.mp 1 (pc' := 4) (l' := [(2, .int 0), (1, .int 0), (0, .ref 1)]) (st' := []) (by rfl) ?_
  refine Pa.lv (l' := [(0, .ref 1), (1, .int 0), (2, .int 0)]) (lvS_c rfl (lvS_c rfl (lvS_c rfl (lvS_nil)))) rfl ?_
  exact l1

theorem bx_ap1 {N : Nat} {yA : AW} {yQ : Option Value → AW → Prop} (ys yi : Int32)
    (l1 : (yA.1 1 3).toInt ≤ yi.toInt → yQ (some (.int ys)) yA)
    (l2 : yi.toInt < (yA.1 1 3).toInt → 0 ≤ yi.toInt → yi.toInt < 20 → Pa N 54 4 [(0, .ref 1), (1, .int (ys + (yA.1 3 yi.toInt.toNat))), (2, .int (yi + 1))] [] yA yQ) :
    Pa (N + 1) 54 4 [(0, .ref 1), (1, .int ys), (2, .int yi)] [] yA yQ := by
  refine Pa.mp1 1 (pc' := 6) (l' := [(0, .ref 1), (1, .int ys), (2, .int yi)]) (st' := [.ref 1, .int yi]) (by rfl) ?_
  refine Pa.gfI (v := yA.1 1 3) (by rfl) (by rfl) (.inl rfl) (by rfl) (by rfl) ?_
  refine Pa.if2 (a := yi.toInt) (b := (yA.1 1 3).toInt) (t := 27) (by rfl) (by rfl) (rfl) (rfl) (fun h1 => ?_) (fun h2 => ?_)
  · have h1 : (yA.1 1 3).toInt ≤ yi.toInt := h1
    refine Pa.mp 1 (pc' := 28) (l' := [(0, .ref 1), (1, .int ys), (2, .int yi)]) (st' := [.int ys]) (by rfl) ?_
    refine Pa.iret (by rfl) ?_
    exact l1 h1
  · have h2 : yi.toInt < (yA.1 1 3).toInt := h2
    refine Pa.mp 2 (pc' := 14) (l' := [(0, .ref 1), (1, .int ys), (2, .int yi)]) (st' := [.ref 1, .int ys]) (by rfl) ?_
    refine Pa.gfR (by rfl) (by rfl) (.inl rfl) (by rfl) ?_
    show Pa N 54 17 [(0, .ref 1), (1, .int ys), (2, .int yi)] [.ref 3, .int ys] yA _
    refine Pa.mp 1 (pc' := 18) (l' := [(0, .ref 1), (1, .int ys), (2, .int yi)]) (st' := [.int yi, .ref 3, .int ys]) (by rfl) ?_
    refine Pa.alds (v := yA.1 3 yi.toInt.toNat) (by rfl) (by rfl) (by rfl) (fun h3 h4 => ?_)
    have h3 : 0 ≤ yi.toInt := h3
    have h4 : yi.toInt < 20 := h4
    refine Pa.mp 2 (pc' := 21) (l' := [(1, .int (ys + (yA.1 3 yi.toInt.toNat))), (0, .ref 1), (2, .int yi)]) (st' := []) (by rfl) ?_
    refine Pa.iinc (x := yi) (c := 1) (v := (yi + 1)) (l' := [(2, .int (yi + 1)), (1, .int (ys + (yA.1 3 yi.toInt.toNat))), (0, .ref 1)]) (by rfl) (by rfl) (by decide) (by rfl) (by rfl) ?_
    refine Pa.mp 1 (pc' := 4) (l' := [(2, .int (yi + 1)), (1, .int (ys + (yA.1 3 yi.toInt.toNat))), (0, .ref 1)]) (st' := []) (by rfl) ?_
    refine Pa.lv (l' := [(0, .ref 1), (1, .int (ys + (yA.1 3 yi.toInt.toNat))), (2, .int (yi + 1))]) (lvS_c rfl (lvS_c rfl (lvS_c rfl (lvS_nil)))) rfl ?_
    exact l2 h2 h3 h4

theorem bx_al0 {N : Nat} {yA : AW} {yQ : Option Value → AW → Prop} 
    (l1 : Pa N 79 4 [(0, .ref 47), (1, .int 0), (2, .int 0)] [] yA yQ) :
    Pa N 79 0 [(0, .ref 47)] [] yA yQ := by
  refine Pa.ic (x := 0) (pc' := 1) (by rfl) (by rfl) (by decide) ?_
  refine Pa.mp 1 (pc' := 2) (l' := [(1, .int 0), (0, .ref 47)]) (st' := []) (by rfl) ?_
  refine Pa.ic (x := 0) (pc' := 3) (by rfl) (by rfl) (by decide) ?_
  refine Pa.mp 1 (pc' := 4) (l' := [(2, .int 0), (1, .int 0), (0, .ref 47)]) (st' := []) (by rfl) ?_
  refine Pa.lv (l' := [(0, .ref 47), (1, .int 0), (2, .int 0)]) (lvS_c rfl (lvS_c rfl (lvS_c rfl (lvS_nil)))) rfl ?_
  exact l1

theorem bx_al1 {N : Nat} {yA : AW} {yQ : Option Value → AW → Prop} (ys yi : Int32)
    (l1 : (yA.1 47 17).toInt ≤ yi.toInt → yQ (some (.int ys)) yA)
    (l2 : yi.toInt < (yA.1 47 17).toInt → 0 ≤ yi.toInt → yi.toInt < 60 → Pa N 79 4 [(0, .ref 47), (1, .int (ys + (yA.1 59 yi.toInt.toNat))), (2, .int (yi + 1))] [] yA yQ) :
    Pa (N + 1) 79 4 [(0, .ref 47), (1, .int ys), (2, .int yi)] [] yA yQ := by
  refine Pa.mp1 1 (pc' := 6) (l' := [(0, .ref 47), (1, .int ys), (2, .int yi)]) (st' := [.ref 47, .int yi]) (by rfl) ?_
  refine Pa.gfI (v := yA.1 47 17) (by rfl) (by rfl) (.inl rfl) (by rfl) (by rfl) ?_
  refine Pa.if2 (a := yi.toInt) (b := (yA.1 47 17).toInt) (t := 27) (by rfl) (by rfl) (rfl) (rfl) (fun h1 => ?_) (fun h2 => ?_)
  · have h1 : (yA.1 47 17).toInt ≤ yi.toInt := h1
    refine Pa.mp 1 (pc' := 28) (l' := [(0, .ref 47), (1, .int ys), (2, .int yi)]) (st' := [.int ys]) (by rfl) ?_
    refine Pa.iret (by rfl) ?_
    exact l1 h1
  · have h2 : yi.toInt < (yA.1 47 17).toInt := h2
    refine Pa.mp 2 (pc' := 14) (l' := [(0, .ref 47), (1, .int ys), (2, .int yi)]) (st' := [.ref 47, .int ys]) (by rfl) ?_
    refine Pa.gfR (by rfl) (by rfl) (.inl rfl) (by rfl) ?_
    show Pa N 79 17 [(0, .ref 47), (1, .int ys), (2, .int yi)] [.ref 59, .int ys] yA _
    refine Pa.mp 1 (pc' := 18) (l' := [(0, .ref 47), (1, .int ys), (2, .int yi)]) (st' := [.int yi, .ref 59, .int ys]) (by rfl) ?_
    refine Pa.alds (v := yA.1 59 yi.toInt.toNat) (by rfl) (by rfl) (by rfl) (fun h3 h4 => ?_)
    have h3 : 0 ≤ yi.toInt := h3
    have h4 : yi.toInt < 60 := h4
    refine Pa.mp 2 (pc' := 21) (l' := [(1, .int (ys + (yA.1 59 yi.toInt.toNat))), (0, .ref 47), (2, .int yi)]) (st' := []) (by rfl) ?_
    refine Pa.iinc (x := yi) (c := 1) (v := (yi + 1)) (l' := [(2, .int (yi + 1)), (1, .int (ys + (yA.1 59 yi.toInt.toNat))), (0, .ref 47)]) (by rfl) (by rfl) (by decide) (by rfl) (by rfl) ?_
    refine Pa.mp 1 (pc' := 4) (l' := [(2, .int (yi + 1)), (1, .int (ys + (yA.1 59 yi.toInt.toNat))), (0, .ref 47)]) (st' := []) (by rfl) ?_
    refine Pa.lv (l' := [(0, .ref 47), (1, .int (ys + (yA.1 59 yi.toInt.toNat))), (2, .int (yi + 1))]) (lvS_c rfl (lvS_c rfl (lvS_c rfl (lvS_nil)))) rfl ?_
    exact l2 h2 h3 h4

theorem bx_cou {N : Nat} {yA : AW} {yQ : Option Value → AW → Prop} (yq : Int32)
    (l1 : (yq.toInt < 0 ∨ 13 < yq.toInt) → yQ (some (.int (-1))) yA)
    (l2 : yq.toInt = 0 → yQ (some (.int (yA.1 1 3))) yA)
    (l3 : yq.toInt = 1 → yQ (some (.int (yA.1 5 6))) yA)
    (l4 : yq.toInt = 2 → yQ (some (.int (yA.1 12 7))) yA)
    (l5 : yq.toInt = 3 → yQ (some (.int (yA.1 0 10))) yA)
    (l6 : yq.toInt = 4 → yQ (some (.int (yA.1 30 4))) yA)
    (l7 : yq.toInt = 5 → yQ (some (.int (yA.1 12 8))) yA)
    (l8 : yq.toInt = 6 → yQ (some (.int (yA.1 20 9))) yA)
    (l9 : yq.toInt = 7 → yQ (some (.int (yA.1 38 7))) yA)
    (l10 : yq.toInt = 8 → yQ (some (.int (yA.1 35 2))) yA)
    (l11 : yq.toInt = 9 → yQ (some (.int (yA.1 47 16))) yA)
    (l12 : yq.toInt = 10 → yQ (some (.int (yA.1 47 17))) yA)
    (l13 : yq.toInt = 11 → yQ (some (.int (yA.1 30 5))) yA)
    (l14 : yq.toInt = 12 → Pa N 54 0 [(0, .ref 1)] [] yA (fun yu A1 => Pa N 145 172 [(0, .ref 0), (1, .int yq)] (yu.toList ++ []) A1 yQ))
    (l15 : yq.toInt = 13 → Pa N 79 0 [(0, .ref 47)] [] yA (fun yu A1 => Pa N 145 180 [(0, .ref 0), (1, .int yq)] (yu.toList ++ []) A1 yQ)) :
    Pa N 145 0 [(0, .ref 0), (1, .int yq)] [] yA yQ := by
  refine Pa.mp 1 (pc' := 1) (l' := [(0, .ref 0), (1, .int yq)]) (st' := [.int yq]) (by rfl) ?_
  refine Pa.tsw (by rfl) (fun (h1 : yq.toInt < 0 ∨ 13 < yq.toInt) yt ht => ?_) ?_
  · obtain rfl : 181 = yt := by injection ht
    refine Pa.ic (x := (-1)) (pc' := 182) (by rfl) (by rfl) (by decide) ?_
    refine Pa.iret (by rfl) ?_
    exact l1 h1
  refine And.intro (fun (h2 : yq.toInt = 0) yt ht => ?_) ?_
  · obtain rfl : 72 = yt := by injection ht
    refine Pa.mp 1 (pc' := 73) (l' := [(0, .ref 0), (1, .int yq)]) (st' := [.ref 0]) (by rfl) ?_
    refine Pa.gfR (by rfl) (by rfl) (.inl rfl) (by rfl) ?_
    show Pa N 145 76 [(0, .ref 0), (1, .int yq)] [.ref 1] yA _
    refine Pa.gfI (v := yA.1 1 3) (by rfl) (by rfl) (.inr rfl) (by rfl) (by rfl) ?_
    refine Pa.iret (by rfl) ?_
    exact l2 h2
  refine And.intro (fun (h3 : yq.toInt = 1) yt ht => ?_) ?_
  · obtain rfl : 80 = yt := by injection ht
    refine Pa.mp 1 (pc' := 81) (l' := [(0, .ref 0), (1, .int yq)]) (st' := [.ref 0]) (by rfl) ?_
    refine Pa.gfR (by rfl) (by rfl) (.inl rfl) (by rfl) ?_
    show Pa N 145 84 [(0, .ref 0), (1, .int yq)] [.ref 5] yA _
    refine Pa.gfI (v := yA.1 5 6) (by rfl) (by rfl) (.inr rfl) (by rfl) (by rfl) ?_
    refine Pa.iret (by rfl) ?_
    exact l3 h3
  refine And.intro (fun (h4 : yq.toInt = 2) yt ht => ?_) ?_
  · obtain rfl : 88 = yt := by injection ht
    refine Pa.mp 1 (pc' := 89) (l' := [(0, .ref 0), (1, .int yq)]) (st' := [.ref 0]) (by rfl) ?_
    refine Pa.gfR (by rfl) (by rfl) (.inl rfl) (by rfl) ?_
    show Pa N 145 92 [(0, .ref 0), (1, .int yq)] [.ref 12] yA _
    refine Pa.gfI (v := yA.1 12 7) (by rfl) (by rfl) (.inr rfl) (by rfl) (by rfl) ?_
    refine Pa.iret (by rfl) ?_
    exact l4 h4
  refine And.intro (fun (h5 : yq.toInt = 3) yt ht => ?_) ?_
  · obtain rfl : 96 = yt := by injection ht
    refine Pa.mp 1 (pc' := 97) (l' := [(0, .ref 0), (1, .int yq)]) (st' := [.ref 0]) (by rfl) ?_
    refine Pa.gfI (v := yA.1 0 10) (by rfl) (by rfl) (.inl rfl) (by rfl) (by rfl) ?_
    refine Pa.iret (by rfl) ?_
    exact l5 h5
  refine And.intro (fun (h6 : yq.toInt = 4) yt ht => ?_) ?_
  · obtain rfl : 101 = yt := by injection ht
    refine Pa.mp 1 (pc' := 102) (l' := [(0, .ref 0), (1, .int yq)]) (st' := [.ref 0]) (by rfl) ?_
    refine Pa.gfR (by rfl) (by rfl) (.inl rfl) (by rfl) ?_
    show Pa N 145 105 [(0, .ref 0), (1, .int yq)] [.ref 30] yA _
    refine Pa.gfI (v := yA.1 30 4) (by rfl) (by rfl) (.inr rfl) (by rfl) (by rfl) ?_
    refine Pa.iret (by rfl) ?_
    exact l6 h6
  refine And.intro (fun (h7 : yq.toInt = 5) yt ht => ?_) ?_
  · obtain rfl : 109 = yt := by injection ht
    refine Pa.mp 1 (pc' := 110) (l' := [(0, .ref 0), (1, .int yq)]) (st' := [.ref 0]) (by rfl) ?_
    refine Pa.gfR (by rfl) (by rfl) (.inl rfl) (by rfl) ?_
    show Pa N 145 113 [(0, .ref 0), (1, .int yq)] [.ref 12] yA _
    refine Pa.gfI (v := yA.1 12 8) (by rfl) (by rfl) (.inr rfl) (by rfl) (by rfl) ?_
    refine Pa.iret (by rfl) ?_
    exact l7 h7
  refine And.intro (fun (h8 : yq.toInt = 6) yt ht => ?_) ?_
  · obtain rfl : 117 = yt := by injection ht
    refine Pa.mp 1 (pc' := 118) (l' := [(0, .ref 0), (1, .int yq)]) (st' := [.ref 0]) (by rfl) ?_
    refine Pa.gfR (by rfl) (by rfl) (.inl rfl) (by rfl) ?_
    show Pa N 145 121 [(0, .ref 0), (1, .int yq)] [.ref 20] yA _
    refine Pa.gfI (v := yA.1 20 9) (by rfl) (by rfl) (.inr rfl) (by rfl) (by rfl) ?_
    refine Pa.iret (by rfl) ?_
    exact l8 h8
  refine And.intro (fun (h9 : yq.toInt = 7) yt ht => ?_) ?_
  · obtain rfl : 125 = yt := by injection ht
    refine Pa.mp 1 (pc' := 126) (l' := [(0, .ref 0), (1, .int yq)]) (st' := [.ref 0]) (by rfl) ?_
    refine Pa.gfR (by rfl) (by rfl) (.inl rfl) (by rfl) ?_
    show Pa N 145 129 [(0, .ref 0), (1, .int yq)] [.ref 38] yA _
    refine Pa.gfI (v := yA.1 38 7) (by rfl) (by rfl) (.inr rfl) (by rfl) (by rfl) ?_
    refine Pa.iret (by rfl) ?_
    exact l9 h9
  refine And.intro (fun (h10 : yq.toInt = 8) yt ht => ?_) ?_
  · obtain rfl : 133 = yt := by injection ht
    refine Pa.mp 1 (pc' := 134) (l' := [(0, .ref 0), (1, .int yq)]) (st' := [.ref 0]) (by rfl) ?_
    refine Pa.gfR (by rfl) (by rfl) (.inl rfl) (by rfl) ?_
    show Pa N 145 137 [(0, .ref 0), (1, .int yq)] [.ref 35] yA _
    refine Pa.gfI (v := yA.1 35 2) (by rfl) (by rfl) (.inr rfl) (by rfl) (by rfl) ?_
    refine Pa.iret (by rfl) ?_
    exact l10 h10
  refine And.intro (fun (h11 : yq.toInt = 9) yt ht => ?_) ?_
  · obtain rfl : 141 = yt := by injection ht
    refine Pa.mp 1 (pc' := 142) (l' := [(0, .ref 0), (1, .int yq)]) (st' := [.ref 0]) (by rfl) ?_
    refine Pa.gfR (by rfl) (by rfl) (.inl rfl) (by rfl) ?_
    show Pa N 145 145 [(0, .ref 0), (1, .int yq)] [.ref 47] yA _
    refine Pa.gfI (v := yA.1 47 16) (by rfl) (by rfl) (.inr rfl) (by rfl) (by rfl) ?_
    refine Pa.iret (by rfl) ?_
    exact l11 h11
  refine And.intro (fun (h12 : yq.toInt = 10) yt ht => ?_) ?_
  · obtain rfl : 149 = yt := by injection ht
    refine Pa.mp 1 (pc' := 150) (l' := [(0, .ref 0), (1, .int yq)]) (st' := [.ref 0]) (by rfl) ?_
    refine Pa.gfR (by rfl) (by rfl) (.inl rfl) (by rfl) ?_
    show Pa N 145 153 [(0, .ref 0), (1, .int yq)] [.ref 47] yA _
    refine Pa.gfI (v := yA.1 47 17) (by rfl) (by rfl) (.inr rfl) (by rfl) (by rfl) ?_
    refine Pa.iret (by rfl) ?_
    exact l12 h12
  refine And.intro (fun (h13 : yq.toInt = 11) yt ht => ?_) ?_
  · obtain rfl : 157 = yt := by injection ht
    refine Pa.mp 1 (pc' := 158) (l' := [(0, .ref 0), (1, .int yq)]) (st' := [.ref 0]) (by rfl) ?_
    refine Pa.gfR (by rfl) (by rfl) (.inl rfl) (by rfl) ?_
    show Pa N 145 161 [(0, .ref 0), (1, .int yq)] [.ref 30] yA _
    refine Pa.gfI (v := yA.1 30 5) (by rfl) (by rfl) (.inr rfl) (by rfl) (by rfl) ?_
    refine Pa.iret (by rfl) ?_
    exact l13 h13
  refine And.intro (fun (h14 : yq.toInt = 12) yt ht => ?_) ?_
  · obtain rfl : 165 = yt := by injection ht
    refine Pa.mp 1 (pc' := 166) (l' := [(0, .ref 0), (1, .int yq)]) (st' := [.ref 0]) (by rfl) ?_
    refine Pa.gfR (by rfl) (by rfl) (.inl rfl) (by rfl) ?_
    show Pa N 145 169 [(0, .ref 0), (1, .int yq)] [.ref 1] yA _
    refine Pa.inv (by rfl) (by rfl) (.inr rfl) (by rfl) ?_
    exact l14 h14
  refine And.intro (fun (h15 : yq.toInt = 13) yt ht => ?_) ?_
  · obtain rfl : 173 = yt := by injection ht
    refine Pa.mp 1 (pc' := 174) (l' := [(0, .ref 0), (1, .int yq)]) (st' := [.ref 0]) (by rfl) ?_
    refine Pa.gfR (by rfl) (by rfl) (.inl rfl) (by rfl) ?_
    show Pa N 145 177 [(0, .ref 0), (1, .int yq)] [.ref 47] yA _
    refine Pa.inv (by rfl) (by rfl) (.inr rfl) (by rfl) ?_
    exact l15 h15
  trivial

theorem bm_cou0 {N : Nat} {yA : AW} {yQ : Option Value → AW → Prop} (yq : Int32)
    (l1 : Pa N 258 4 [(0, .ref 69), (1, .int yq), (2, .int 0), (3, .int 0)] [] yA yQ) :
    Pa N 258 0 [(0, .ref 69), (1, .int yq)] [] yA yQ := by
  refine Pa.ic (x := 0) (pc' := 1) (by rfl) (by rfl) (by decide) ?_
  refine Pa.mp 1 (pc' := 2) (l' := [(2, .int 0), (0, .ref 69), (1, .int yq)]) (st' := []) (by rfl) ?_
  refine Pa.ic (x := 0) (pc' := 3) (by rfl) (by rfl) (by decide) ?_
  refine Pa.mp 1 (pc' := 4) (l' := [(3, .int 0), (2, .int 0), (0, .ref 69), (1, .int yq)]) (st' := []) (by rfl) ?_
  refine Pa.lv (l' := [(0, .ref 69), (1, .int yq), (2, .int 0), (3, .int 0)]) (lvS_c rfl (lvS_c rfl (lvS_c rfl (lvS_c rfl (lvS_nil))))) rfl ?_
  exact l1

theorem bm_cou1 {N : Nat} {yA : AW} {yQ : Option Value → AW → Prop} (yq ys yi : Int32)
    (l1 : (yA.1 69 7).toInt ≤ yi.toInt → Pa N 258 32 [(0, .ref 69), (1, .int yq), (2, .int ys), (3, .int 0), (4, .int 0)] [] yA yQ)
    (l2 : yi.toInt < (yA.1 69 7).toInt → 0 ≤ yi.toInt → yi.toInt < 20 → Pa N 258 4 [(0, .ref 69), (1, .int yq), (2, .int (ys + (yA.1 74 yi.toInt.toNat))), (3, .int (yi + 1))] [] yA yQ) :
    Pa (N + 1) 258 4 [(0, .ref 69), (1, .int yq), (2, .int ys), (3, .int yi)] [] yA yQ := by
  refine Pa.mp1 1 (pc' := 6) (l' := [(0, .ref 69), (1, .int yq), (2, .int ys), (3, .int yi)]) (st' := [.ref 69, .int yi]) (by rfl) ?_
  refine Pa.gfI (v := yA.1 69 7) (by rfl) (by rfl) (.inl rfl) (by rfl) (by rfl) ?_
  refine Pa.if2 (a := yi.toInt) (b := (yA.1 69 7).toInt) (t := 27) (by rfl) (by rfl) (rfl) (rfl) (fun h1 => ?_) (fun h2 => ?_)
  · have h1 : (yA.1 69 7).toInt ≤ yi.toInt := h1
    refine Pa.ic (x := 0) (pc' := 28) (by rfl) (by rfl) (by decide) ?_
    refine Pa.mp 1 (pc' := 29) (l' := [(3, .int 0), (0, .ref 69), (1, .int yq), (2, .int ys)]) (st' := []) (by rfl) ?_
    refine Pa.ic (x := 0) (pc' := 30) (by rfl) (by rfl) (by decide) ?_
    refine Pa.mp 1 (pc' := 32) (l' := [(4, .int 0), (3, .int 0), (0, .ref 69), (1, .int yq), (2, .int ys)]) (st' := []) (by rfl) ?_
    refine Pa.lv (l' := [(0, .ref 69), (1, .int yq), (2, .int ys), (3, .int 0), (4, .int 0)]) (lvS_c rfl (lvS_c rfl (lvS_c rfl (lvS_c rfl (lvS_c rfl (lvS_nil)))))) rfl ?_
    exact l1 h1
  · have h2 : yi.toInt < (yA.1 69 7).toInt := h2
    refine Pa.mp 2 (pc' := 14) (l' := [(0, .ref 69), (1, .int yq), (2, .int ys), (3, .int yi)]) (st' := [.ref 69, .int ys]) (by rfl) ?_
    refine Pa.gfR (by rfl) (by rfl) (.inl rfl) (by rfl) ?_
    show Pa N 258 17 [(0, .ref 69), (1, .int yq), (2, .int ys), (3, .int yi)] [.ref 74, .int ys] yA _
    refine Pa.mp 1 (pc' := 18) (l' := [(0, .ref 69), (1, .int yq), (2, .int ys), (3, .int yi)]) (st' := [.int yi, .ref 74, .int ys]) (by rfl) ?_
    refine Pa.alds (v := yA.1 74 yi.toInt.toNat) (by rfl) (by rfl) (by rfl) (fun h3 h4 => ?_)
    have h3 : 0 ≤ yi.toInt := h3
    have h4 : yi.toInt < 20 := h4
    refine Pa.mp 2 (pc' := 21) (l' := [(2, .int (ys + (yA.1 74 yi.toInt.toNat))), (0, .ref 69), (1, .int yq), (3, .int yi)]) (st' := []) (by rfl) ?_
    refine Pa.iinc (x := yi) (c := 1) (v := (yi + 1)) (l' := [(3, .int (yi + 1)), (2, .int (ys + (yA.1 74 yi.toInt.toNat))), (0, .ref 69), (1, .int yq)]) (by rfl) (by rfl) (by decide) (by rfl) (by rfl) ?_
    refine Pa.mp 1 (pc' := 4) (l' := [(3, .int (yi + 1)), (2, .int (ys + (yA.1 74 yi.toInt.toNat))), (0, .ref 69), (1, .int yq)]) (st' := []) (by rfl) ?_
    refine Pa.lv (l' := [(0, .ref 69), (1, .int yq), (2, .int (ys + (yA.1 74 yi.toInt.toNat))), (3, .int (yi + 1))]) (lvS_c rfl (lvS_c rfl (lvS_c rfl (lvS_c rfl (lvS_nil))))) rfl ?_
    exact l2 h2 h3 h4

theorem bm_cou2 {N : Nat} {yA : AW} {yQ : Option Value → AW → Prop} (yq ys ym yi : Int32)
    (l1 : (yA.1 69 57).toInt ≤ yi.toInt → (yq.toInt < 0 ∨ 13 < yq.toInt) → yQ (some (.int (-1))) yA)
    (l2 : (yA.1 69 57).toInt ≤ yi.toInt → yq.toInt = 0 → yQ (some (.int (yA.1 69 7))) yA)
    (l3 : (yA.1 69 57).toInt ≤ yi.toInt → yq.toInt = 1 → yQ (some (.int (yA.1 69 11))) yA)
    (l4 : (yA.1 69 57).toInt ≤ yi.toInt → yq.toInt = 2 → yQ (some (.int (yA.1 69 13))) yA)
    (l5 : (yA.1 69 57).toInt ≤ yi.toInt → yq.toInt = 3 → yQ (some (.int (yA.1 69 0))) yA)
    (l6 : (yA.1 69 57).toInt ≤ yi.toInt → yq.toInt = 4 → yQ (some (.int (yA.1 69 31))) yA)
    (l7 : (yA.1 69 57).toInt ≤ yi.toInt → yq.toInt = 5 → yQ (some (.int (yA.1 69 19))) yA)
    (l8 : (yA.1 69 57).toInt ≤ yi.toInt → yq.toInt = 6 → yQ (some (.int (yA.1 69 37))) yA)
    (l9 : (yA.1 69 57).toInt ≤ yi.toInt → yq.toInt = 7 → yQ (some (.int (yA.1 69 45))) yA)
    (l10 : (yA.1 69 57).toInt ≤ yi.toInt → yq.toInt = 8 → yQ (some (.int (yA.1 69 39))) yA)
    (l11 : (yA.1 69 57).toInt ≤ yi.toInt → yq.toInt = 9 → yQ (some (.int (yA.1 69 52))) yA)
    (l12 : (yA.1 69 57).toInt ≤ yi.toInt → yq.toInt = 10 → yQ (some (.int (yA.1 69 57))) yA)
    (l13 : (yA.1 69 57).toInt ≤ yi.toInt → yq.toInt = 11 → Pa N 241 0 [(0, .ref 69), (1, .int (-1))] [] yA (fun yu A1 => Pa N 258 188 [(0, .ref 69), (1, .int yq), (2, .int ys), (3, .int ym), (4, .int yi)] (yu.toList ++ []) A1 yQ))
    (l14 : (yA.1 69 57).toInt ≤ yi.toInt → yq.toInt = 12 → yQ (some (.int ys)) yA)
    (l15 : (yA.1 69 57).toInt ≤ yi.toInt → yq.toInt = 13 → yQ (some (.int ym)) yA)
    (l16 : yi.toInt < (yA.1 69 57).toInt → 0 ≤ yi.toInt → yi.toInt < 60 → Pa N 258 32 [(0, .ref 69), (1, .int yq), (2, .int ys), (3, .int (ym + (yA.1 114 yi.toInt.toNat))), (4, .int (yi + 1))] [] yA yQ) :
    Pa (N + 1) 258 32 [(0, .ref 69), (1, .int yq), (2, .int ys), (3, .int ym), (4, .int yi)] [] yA yQ := by
  refine Pa.mp1 1 (pc' := 35) (l' := [(0, .ref 69), (1, .int yq), (2, .int ys), (3, .int ym), (4, .int yi)]) (st' := [.ref 69, .int yi]) (by rfl) ?_
  refine Pa.gfI (v := yA.1 69 57) (by rfl) (by rfl) (.inl rfl) (by rfl) (by rfl) ?_
  refine Pa.if2 (a := yi.toInt) (b := (yA.1 69 57).toInt) (t := 57) (by rfl) (by rfl) (rfl) (rfl) (fun h1 => ?_) (fun h2 => ?_)
  · have h1 : (yA.1 69 57).toInt ≤ yi.toInt := h1
    refine Pa.mp 1 (pc' := 58) (l' := [(0, .ref 69), (1, .int yq), (2, .int ys), (3, .int ym), (4, .int yi)]) (st' := [.int yq]) (by rfl) ?_
    refine Pa.tsw (by rfl) (fun (h3 : yq.toInt < 0 ∨ 13 < yq.toInt) yt ht => ?_) ?_
    · obtain rfl : 193 = yt := by injection ht
      refine Pa.ic (x := (-1)) (pc' := 194) (by rfl) (by rfl) (by decide) ?_
      refine Pa.iret (by rfl) ?_
      exact l1 h1 h3
    refine And.intro (fun (h4 : yq.toInt = 0) yt ht => ?_) ?_
    · obtain rfl : 128 = yt := by injection ht
      refine Pa.mp 1 (pc' := 129) (l' := [(0, .ref 69), (1, .int yq), (2, .int ys), (3, .int ym), (4, .int yi)]) (st' := [.ref 69]) (by rfl) ?_
      refine Pa.gfI (v := yA.1 69 7) (by rfl) (by rfl) (.inl rfl) (by rfl) (by rfl) ?_
      refine Pa.iret (by rfl) ?_
      exact l2 h1 h4
    refine And.intro (fun (h5 : yq.toInt = 1) yt ht => ?_) ?_
    · obtain rfl : 133 = yt := by injection ht
      refine Pa.mp 1 (pc' := 134) (l' := [(0, .ref 69), (1, .int yq), (2, .int ys), (3, .int ym), (4, .int yi)]) (st' := [.ref 69]) (by rfl) ?_
      refine Pa.gfI (v := yA.1 69 11) (by rfl) (by rfl) (.inl rfl) (by rfl) (by rfl) ?_
      refine Pa.iret (by rfl) ?_
      exact l3 h1 h5
    refine And.intro (fun (h6 : yq.toInt = 2) yt ht => ?_) ?_
    · obtain rfl : 138 = yt := by injection ht
      refine Pa.mp 1 (pc' := 139) (l' := [(0, .ref 69), (1, .int yq), (2, .int ys), (3, .int ym), (4, .int yi)]) (st' := [.ref 69]) (by rfl) ?_
      refine Pa.gfI (v := yA.1 69 13) (by rfl) (by rfl) (.inl rfl) (by rfl) (by rfl) ?_
      refine Pa.iret (by rfl) ?_
      exact l4 h1 h6
    refine And.intro (fun (h7 : yq.toInt = 3) yt ht => ?_) ?_
    · obtain rfl : 143 = yt := by injection ht
      refine Pa.mp 1 (pc' := 144) (l' := [(0, .ref 69), (1, .int yq), (2, .int ys), (3, .int ym), (4, .int yi)]) (st' := [.ref 69]) (by rfl) ?_
      refine Pa.gfI (v := yA.1 69 0) (by rfl) (by rfl) (.inl rfl) (by rfl) (by rfl) ?_
      refine Pa.iret (by rfl) ?_
      exact l5 h1 h7
    refine And.intro (fun (h8 : yq.toInt = 4) yt ht => ?_) ?_
    · obtain rfl : 148 = yt := by injection ht
      refine Pa.mp 1 (pc' := 149) (l' := [(0, .ref 69), (1, .int yq), (2, .int ys), (3, .int ym), (4, .int yi)]) (st' := [.ref 69]) (by rfl) ?_
      refine Pa.gfI (v := yA.1 69 31) (by rfl) (by rfl) (.inl rfl) (by rfl) (by rfl) ?_
      refine Pa.iret (by rfl) ?_
      exact l6 h1 h8
    refine And.intro (fun (h9 : yq.toInt = 5) yt ht => ?_) ?_
    · obtain rfl : 153 = yt := by injection ht
      refine Pa.mp 1 (pc' := 154) (l' := [(0, .ref 69), (1, .int yq), (2, .int ys), (3, .int ym), (4, .int yi)]) (st' := [.ref 69]) (by rfl) ?_
      refine Pa.gfI (v := yA.1 69 19) (by rfl) (by rfl) (.inl rfl) (by rfl) (by rfl) ?_
      refine Pa.iret (by rfl) ?_
      exact l7 h1 h9
    refine And.intro (fun (h10 : yq.toInt = 6) yt ht => ?_) ?_
    · obtain rfl : 158 = yt := by injection ht
      refine Pa.mp 1 (pc' := 159) (l' := [(0, .ref 69), (1, .int yq), (2, .int ys), (3, .int ym), (4, .int yi)]) (st' := [.ref 69]) (by rfl) ?_
      refine Pa.gfI (v := yA.1 69 37) (by rfl) (by rfl) (.inl rfl) (by rfl) (by rfl) ?_
      refine Pa.iret (by rfl) ?_
      exact l8 h1 h10
    refine And.intro (fun (h11 : yq.toInt = 7) yt ht => ?_) ?_
    · obtain rfl : 163 = yt := by injection ht
      refine Pa.mp 1 (pc' := 164) (l' := [(0, .ref 69), (1, .int yq), (2, .int ys), (3, .int ym), (4, .int yi)]) (st' := [.ref 69]) (by rfl) ?_
      refine Pa.gfI (v := yA.1 69 45) (by rfl) (by rfl) (.inl rfl) (by rfl) (by rfl) ?_
      refine Pa.iret (by rfl) ?_
      exact l9 h1 h11
    refine And.intro (fun (h12 : yq.toInt = 8) yt ht => ?_) ?_
    · obtain rfl : 168 = yt := by injection ht
      refine Pa.mp 1 (pc' := 169) (l' := [(0, .ref 69), (1, .int yq), (2, .int ys), (3, .int ym), (4, .int yi)]) (st' := [.ref 69]) (by rfl) ?_
      refine Pa.gfI (v := yA.1 69 39) (by rfl) (by rfl) (.inl rfl) (by rfl) (by rfl) ?_
      refine Pa.iret (by rfl) ?_
      exact l10 h1 h12
    refine And.intro (fun (h13 : yq.toInt = 9) yt ht => ?_) ?_
    · obtain rfl : 173 = yt := by injection ht
      refine Pa.mp 1 (pc' := 174) (l' := [(0, .ref 69), (1, .int yq), (2, .int ys), (3, .int ym), (4, .int yi)]) (st' := [.ref 69]) (by rfl) ?_
      refine Pa.gfI (v := yA.1 69 52) (by rfl) (by rfl) (.inl rfl) (by rfl) (by rfl) ?_
      refine Pa.iret (by rfl) ?_
      exact l11 h1 h13
    refine And.intro (fun (h14 : yq.toInt = 10) yt ht => ?_) ?_
    · obtain rfl : 178 = yt := by injection ht
      refine Pa.mp 1 (pc' := 179) (l' := [(0, .ref 69), (1, .int yq), (2, .int ys), (3, .int ym), (4, .int yi)]) (st' := [.ref 69]) (by rfl) ?_
      refine Pa.gfI (v := yA.1 69 57) (by rfl) (by rfl) (.inl rfl) (by rfl) (by rfl) ?_
      refine Pa.iret (by rfl) ?_
      exact l12 h1 h14
    refine And.intro (fun (h15 : yq.toInt = 11) yt ht => ?_) ?_
    · obtain rfl : 183 = yt := by injection ht
      refine Pa.mp 1 (pc' := 184) (l' := [(0, .ref 69), (1, .int yq), (2, .int ys), (3, .int ym), (4, .int yi)]) (st' := [.ref 69]) (by rfl) ?_
      refine Pa.ic (x := (-1)) (pc' := 185) (by rfl) (by rfl) (by decide) ?_
      refine Pa.inv (by rfl) (by rfl) (.inl rfl) (by rfl) ?_
      exact l13 h1 h15
    refine And.intro (fun (yh16 : yq.toInt = 12) yt ht => ?_) ?_
    · obtain rfl : 189 = yt := by injection ht
      refine Pa.mp 1 (pc' := 190) (l' := [(0, .ref 69), (1, .int yq), (2, .int ys), (3, .int ym), (4, .int yi)]) (st' := [.int ys]) (by rfl) ?_
      refine Pa.iret (by rfl) ?_
      exact l14 h1 yh16
    refine And.intro (fun (h17 : yq.toInt = 13) yt ht => ?_) ?_
    · obtain rfl : 191 = yt := by injection ht
      refine Pa.mp 1 (pc' := 192) (l' := [(0, .ref 69), (1, .int yq), (2, .int ys), (3, .int ym), (4, .int yi)]) (st' := [.int ym]) (by rfl) ?_
      refine Pa.iret (by rfl) ?_
      exact l15 h1 h17
    trivial
  · have h2 : yi.toInt < (yA.1 69 57).toInt := h2
    refine Pa.mp 2 (pc' := 43) (l' := [(0, .ref 69), (1, .int yq), (2, .int ys), (3, .int ym), (4, .int yi)]) (st' := [.ref 69, .int ym]) (by rfl) ?_
    refine Pa.gfR (by rfl) (by rfl) (.inl rfl) (by rfl) ?_
    show Pa N 258 46 [(0, .ref 69), (1, .int yq), (2, .int ys), (3, .int ym), (4, .int yi)] [.ref 114, .int ym] yA _
    refine Pa.mp 1 (pc' := 48) (l' := [(0, .ref 69), (1, .int yq), (2, .int ys), (3, .int ym), (4, .int yi)]) (st' := [.int yi, .ref 114, .int ym]) (by rfl) ?_
    refine Pa.alds (v := yA.1 114 yi.toInt.toNat) (by rfl) (by rfl) (by rfl) (fun h18 h19 => ?_)
    have h18 : 0 ≤ yi.toInt := h18
    have h19 : yi.toInt < 60 := h19
    refine Pa.mp 2 (pc' := 51) (l' := [(3, .int (ym + (yA.1 114 yi.toInt.toNat))), (0, .ref 69), (1, .int yq), (2, .int ys), (4, .int yi)]) (st' := []) (by rfl) ?_
    refine Pa.iinc (x := yi) (c := 1) (v := (yi + 1)) (l' := [(4, .int (yi + 1)), (3, .int (ym + (yA.1 114 yi.toInt.toNat))), (0, .ref 69), (1, .int yq), (2, .int ys)]) (by rfl) (by rfl) (by decide) (by rfl) (by rfl) ?_
    refine Pa.mp 1 (pc' := 32) (l' := [(4, .int (yi + 1)), (3, .int (ym + (yA.1 114 yi.toInt.toNat))), (0, .ref 69), (1, .int yq), (2, .int ys)]) (st' := []) (by rfl) ?_
    refine Pa.lv (l' := [(0, .ref 69), (1, .int yq), (2, .int ys), (3, .int (ym + (yA.1 114 yi.toInt.toNat))), (4, .int (yi + 1))]) (lvS_c rfl (lvS_c rfl (lvS_c rfl (lvS_c rfl (lvS_c rfl (lvS_nil)))))) rfl ?_
    exact l16 h2 h18 h19
theorem c_ap (N : Nat) (yA : AW) (yh : (yA.1 1 3).toInt ≤ 20) : Pa N 54 0 [(0, .ref 1)] [] yA (fun yv A1 => yv = some (.int (sumN (yA.1 3) (yA.1 1 3).toInt.toNat)) ∧ A1 = yA) := by
  have ykey : ∀ (N yi : Nat), yi ≤ (yA.1 1 3).toInt.toNat → Pa N 54 4 [(0, .ref 1), (1, .int (sumN (yA.1 3) yi)), (2, .int (Int32.ofNat yi))] [] yA (fun yv A1 => yv = some (.int (sumN (yA.1 3) (yA.1 1 3).toInt.toNat)) ∧ A1 = yA) := by
    intro N
    induction N with
    | zero => intros; exact Pa.zero
    | succ N yih =>
      intro yi yhi
      have ei : (Int32.ofNat yi).toInt = (yi : Int) := i32_nat (by omega)
      refine bx_ap1 _ (Int32.ofNat yi) ?_ ?_ <;> rw [ei] <;> (try rw [Int.toNat_natCast])
      · intro yq
        have ye : yi = (yA.1 1 3).toInt.toNat := by omega
        rw [← ye]
        exact ⟨rfl, rfl⟩
      · intro yq _ _
        have yh := yih (yi + 1) (by omega)
        rw [on_succ yi] at yh
        exact yh
  exact bx_ap0 (ykey N 0 (Nat.zero_le _))
theorem c_al (N : Nat) (yA : AW) (yh : (yA.1 47 17).toInt ≤ 60) : Pa N 79 0 [(0, .ref 47)] [] yA (fun yv A1 => yv = some (.int (sumN (yA.1 59) (yA.1 47 17).toInt.toNat)) ∧ A1 = yA) := by
  have ykey : ∀ (N yi : Nat), yi ≤ (yA.1 47 17).toInt.toNat → Pa N 79 4 [(0, .ref 47), (1, .int (sumN (yA.1 59) yi)), (2, .int (Int32.ofNat yi))] [] yA (fun yv A1 => yv = some (.int (sumN (yA.1 59) (yA.1 47 17).toInt.toNat)) ∧ A1 = yA) := by
    intro N
    induction N with
    | zero => intros; exact Pa.zero
    | succ N yih =>
      intro yi yhi
      have ei : (Int32.ofNat yi).toInt = (yi : Int) := i32_nat (by omega)
      refine bx_al1 _ (Int32.ofNat yi) ?_ ?_ <;> rw [ei] <;> (try rw [Int.toNat_natCast])
      · intro yq
        have ye : yi = (yA.1 47 17).toInt.toNat := by omega
        rw [← ye]
        exact ⟨rfl, rfl⟩
      · intro yq _ _
        have yh := yih (yi + 1) (by omega)
        rw [on_succ yi] at yh
        exact yh
  exact bx_al0 (ykey N 0 (Nat.zero_le _))
theorem d_cou {yA : AW} (h1 : (yA.1 1 3).toInt ≤ 20) (h2 : (yA.1 47 17).toInt ≤ 60) (N : Nat) (yq : Int32) : Pa N 145 0 [(0, .ref 0), (1, .int yq)] [] yA (dCo yq yA) := by
  have ct : ∀ yn : Nat, yn ≤ 13 → yq.toInt = (yn : Int) → dCo yq yA (some (.int (coX yA yn))) yA := fun yn hn hq => ⟨rfl, by rw [coT_at hq hn]⟩
  refine bx_cou yq (fun yh => ⟨rfl, by rw [coT_no yh]⟩) (fun yh => ct 0 (by decide) yh) (fun yh => ct 1 (by decide) yh) (fun yh => ct 2 (by decide) yh) (fun yh => ct 3 (by decide) yh) (fun yh => ct 4 (by decide) yh) (fun yh => ct 5 (by decide) yh) (fun yh => ct 6 (by decide) yh) (fun yh => ct 7 (by decide) yh) (fun yh => ct 8 (by decide) yh) (fun yh => ct 9 (by decide) yh) (fun yh => ct 10 (by decide) yh) (fun yh => ct 11 (by decide) yh) (fun yh => ?_) (fun yh => ?_)
  · refine Pa.mono (c_ap N yA h1) (fun yv A1 hv => ?_)
    obtain ⟨rfl, rfl⟩ := hv
    exact Pa.iret (by rfl) (ct 12 (by decide) yh)
  · refine Pa.mono (c_al N yA h2) (fun yv A1 hv => ?_)
    obtain ⟨rfl, rfl⟩ := hv
    exact Pa.iret (by rfl) (ct 13 (by decide) yh)
theorem e_cou {yA : AW} (h1 : (yA.1 69 7).toInt ≤ 20) (h2 : (yA.1 69 57).toInt ≤ 60) (h3 : (yA.1 69 31).toInt ≤ 150) (N : Nat) (yq : Int32) : Pa N 258 0 [(0, .ref 69), (1, .int yq)] [] yA (eCo yq yA) := by
  have ct : ∀ yn : Nat, yn ≤ 13 → yq.toInt = (yn : Int) → eCo yq yA (some (.int (coM yA yn))) yA := fun yn hn hq => by
    unfold eCo
    rw [coT_at hq hn]
  have key2 : ∀ (N yi : Nat), yi ≤ (yA.1 69 57).toInt.toNat → Pa N 258 32 [(0, .ref 69), (1, .int yq), (2, .int (sumN (yA.1 74) (yA.1 69 7).toInt.toNat)), (3, .int (sumN (yA.1 114) yi)), (4, .int (Int32.ofNat yi))] [] yA (eCo yq yA) := by
    intro N
    induction N with
    | zero => intros; exact Pa.zero
    | succ N yih =>
      intro yi yhi
      have ei : (Int32.ofNat yi).toInt = (yi : Int) := i32_nat (by omega)
      refine bm_cou2 yq _ _ (Int32.ofNat yi) ?_ ?_ ?_ ?_ ?_ ?_ ?_ ?_ ?_ ?_ ?_ ?_ ?_ ?_ ?_ ?_ <;> rw [ei] <;> (try rw [Int.toNat_natCast])
      · exact fun _ yh => by
          unfold eCo
          rw [coT_no yh]
      · exact fun _ yh => ct 0 (by decide) yh
      · exact fun _ yh => ct 1 (by decide) yh
      · exact fun _ yh => ct 2 (by decide) yh
      · exact fun _ yh => ct 3 (by decide) yh
      · exact fun _ yh => ct 4 (by decide) yh
      · exact fun _ yh => ct 5 (by decide) yh
      · exact fun _ yh => ct 6 (by decide) yh
      · exact fun _ yh => ct 7 (by decide) yh
      · exact fun _ yh => ct 8 (by decide) yh
      · exact fun _ yh => ct 9 (by decide) yh
      · exact fun _ yh => ct 10 (by decide) yh
      · intro _ yh
        refine Pa.mono (c_audited N yA (-1) h3) (fun yv A1 hv => ?_)
        obtain ⟨rfl, rfl⟩ := hv
        exact Pa.iret (by rfl) (ct 11 (by decide) yh)
      · exact fun _ yh => ct 12 (by decide) yh
      · intro yz yh
        have ye : yi = (yA.1 69 57).toInt.toNat := by omega
        rw [ye]
        exact ct 13 (by decide) yh
      · intro yz _ _
        have yh := yih (yi + 1) (by omega)
        rw [on_succ yi] at yh
        exact yh
  have key1 : ∀ (N yi : Nat), yi ≤ (yA.1 69 7).toInt.toNat → Pa N 258 4 [(0, .ref 69), (1, .int yq), (2, .int (sumN (yA.1 74) yi)), (3, .int (Int32.ofNat yi))] [] yA (eCo yq yA) := by
    intro N
    induction N with
    | zero => intros; exact Pa.zero
    | succ N yih =>
      intro yi yhi
      have ei : (Int32.ofNat yi).toInt = (yi : Int) := i32_nat (by omega)
      refine bm_cou1 yq _ (Int32.ofNat yi) ?_ ?_ <;> rw [ei] <;> (try rw [Int.toNat_natCast])
      · intro yz
        have ye : yi = (yA.1 69 7).toInt.toNat := by omega
        rw [ye]
        exact key2 N 0 (Nat.zero_le _)
      · intro yz _ _
        have yh := yih (yi + 1) (by omega)
        rw [on_succ yi] at yh
        exact yh
  exact bm_cou0 yq (key1 N 0 (Nat.zero_le _))
theorem h_cou {yp : zPr} (hp : yp.1 = 145 ∧ yp.2.1 = 258 ∧ yp.2.2.1 = 1) (yhc : c_rm yp = true) (yq1 : (ri_wr zZ Fy Ay (wX yp) && kXL Iy (wX yp)) = true) (yq2 : (ri_wr zZ Fy Ay (wM yp) && kXL Iy (wM yp)) = true) : PairOK (RR Fy Ay (RXL Iy)) yp := by
  obtain ⟨yp1, yp2, yp3⟩ := hp
  refine pairF (D := on1 dCo) (E := on1 eCo) (by decide +kernel) (by decide +kernel) yhc (keepXL Iy) yq1 yq2 (fun N yA yas o hF hR hX hl => ?_) (fun N yA yas o hF hR hX hl => ?_) (fun yA A1 A2 yas yx yy o _ _ hF hR hX _ _ _ hl ys1 ys2 _ => ?_)
  · rw [yp3] at hl
    obtain ⟨ya, rfl⟩ := as1 hl
    have yg := Rpx_y o hF hR hX
    rw [yp1]
    exact d_cou (by rw [yg.q.gx.gl.f1]; exact yg.tH.2) (by rw [yg.fn]; exact yg.tN.2) N ya
  · rw [yp3] at hl
    obtain ⟨ya, rfl⟩ := as1 hl
    have yg := Rpx_y o hF hR hX
    rw [yp2]
    exact e_cou yg.tH.2 yg.tN.2 yg.q.gx.gl.T.2 N ya
  · rw [yp3] at hl
    obtain ⟨ya, rfl⟩ := as1 hl
    have yg := Rpx_y o hF hR hX
    have yf : ∀ ya yb, (decide ((ya, yb) ∈ Fy)) = true → yA.1 ya.1 ya.2 = yA.1 yb.1 yb.2 := fun ya yb yh => hF (ya, yb) (of_decide_eq_true yh)
    obtain ⟨rfl, ys1⟩ := ys1
    have ys2 : some (Value.int yy) = some (.int (coT (coM A1) ya)) := ys2
    have yhT := yg.tH
    have yhN := yg.tN
    rw [some_int ys1, some_int ys2]
    by_cases yh : ya.toInt < 0 ∨ 13 < ya.toInt
    · rw [coT_no yh, coT_no yh]
    · obtain ⟨yn, hn⟩ : ∃ yn : Nat, ya.toInt = (yn : Int) := ⟨ya.toInt.toNat, by omega⟩
      rw [coT_at hn (by omega), coT_at hn (by omega)]
      have n13 : yn ≤ 13 := by omega
      rcases (by omega : yn = 0 ∨ yn = 1 ∨ yn = 2 ∨ yn = 3 ∨ yn = 4 ∨ yn = 5 ∨ yn = 6 ∨ yn = 7 ∨ yn = 8 ∨ yn = 9 ∨ yn = 10 ∨ yn = 11 ∨ yn = 12 ∨ yn = 13) with yz | yz | yz | yz | yz | yz | yz | yz | yz | yz | yz | yz | yz | yz
      all_goals rw [yz]
      · exact yf (1, 3) (69, 7) (by decide +kernel)
      · exact yf (5, 6) (69, 11) (by decide +kernel)
      · exact yf (12, 7) (69, 13) (by decide +kernel)
      · exact yf (0, 10) (69, 0) (by decide +kernel)
      · exact yf (30, 4) (69, 31) (by decide +kernel)
      · exact yf (12, 8) (69, 19) (by decide +kernel)
      · exact yf (20, 9) (69, 37) (by decide +kernel)
      · exact yf (38, 7) (69, 45) (by decide +kernel)
      · exact yf (35, 2) (69, 39) (by decide +kernel)
      · exact yf (47, 16) (69, 52) (by decide +kernel)
      · exact yf (47, 17) (69, 57) (by decide +kernel)
      · exact yg.q.gx.gl.rz.2.2.2
      · show sumN (A1.1 3) (A1.1 1 3).toInt.toNat = sumN (A1.1 74) (A1.1 69 7).toInt.toNat
        rw [yg.q.gx.gl.f1]
        exact sumN_congr (fun yj hj => yg.py.2.2.2.1 yj (by omega))
      · show sumN (A1.1 59) (A1.1 47 17).toInt.toNat = sumN (A1.1 114) (A1.1 69 57).toInt.toNat
        rw [yg.fn]
        exact sumN_congr (fun yj hj => yg.py.2.2.1 yj (by omega))
