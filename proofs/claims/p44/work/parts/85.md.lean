/-! THE REFERENCE'S WAY WITH TEXTS: it works them yout yas it reads them -/
def mBy (yW : AW) : Int32 := if (yW.1 69 61).toInt < (yW.1 69 62).toInt then (if (yW.1 69 60).toInt < 0 then yW.1 99 (yW.1 69 61).toInt.toNat else yW.1 100 (yW.1 69 60 + yW.1 69 61).toInt.toNat) else 0
def nmD (ym : Int) : Int32 := if ym = 107 then 0 else if ym = 115 then 1 else if ym = 99 then 2 else if ym = 101 then 5 else if ym = 108 then 3 else if ym = 114 then 4 else if ym = 121 then 6 else if ym = 112 then 7 else if ym = 110 then 8 else if ym = 106 then 9 else -1
def nmM (yx : Int32) : Int32 := nmD yx.toInt
theorem nmD_no {ym : Int} (yh : ym ≠ 107 ∧ ym ≠ 115 ∧ ym ≠ 99 ∧ ym ≠ 101 ∧ ym ≠ 108 ∧ ym ≠ 114 ∧ ym ≠ 121 ∧ ym ≠ 112 ∧ ym ≠ 110 ∧ ym ≠ 106) : nmD ym = -1 := by
  obtain ⟨h1, h2, h3, h4, h5, h6, h7, h8, h9, h10⟩ := yh
  unfold nmD
  rw [if_neg h1, if_neg h2, if_neg h3, if_neg h4, if_neg h5, if_neg h6, if_neg h7, if_neg h8, if_neg h9, if_neg h10]
theorem nm_two (ym : Int) : (nmC ym = -1 ∧ nmD ym = -1) ∨ ∃ yi yj : Nat, nmC ym = Int32.ofNat yi ∧ nmD ym = Int32.ofNat yj ∧ yi < 10 ∧ yj < 10 ∧ ((yi = 3 ∧ yj = 5) ∨ (yi = 4 ∧ yj = 3) ∨ (yi = 5 ∧ yj = 4) ∨ (yi ≠ 3 ∧ yi ≠ 4 ∧ yi ≠ 5 ∧ yj = yi ∧ yj ≠ 3)) := by
  by_cases h0 : ym = 107
  · subst h0
    exact .inr ⟨0, 0, rfl, rfl, by decide, by decide, by decide⟩
  by_cases h1 : ym = 115
  · subst h1
    exact .inr ⟨1, 1, rfl, rfl, by decide, by decide, by decide⟩
  by_cases h2 : ym = 99
  · subst h2
    exact .inr ⟨2, 2, rfl, rfl, by decide, by decide, by decide⟩
  by_cases h3 : ym = 101
  · subst h3
    exact .inr ⟨3, 5, rfl, rfl, by decide, by decide, by decide⟩
  by_cases h4 : ym = 108
  · subst h4
    exact .inr ⟨4, 3, rfl, rfl, by decide, by decide, by decide⟩
  by_cases h5 : ym = 114
  · subst h5
    exact .inr ⟨5, 4, rfl, rfl, by decide, by decide, by decide⟩
  by_cases h6 : ym = 121
  · subst h6
    exact .inr ⟨6, 6, rfl, rfl, by decide, by decide, by decide⟩
  by_cases h7 : ym = 112
  · subst h7
    exact .inr ⟨7, 7, rfl, rfl, by decide, by decide, by decide⟩
  by_cases h8 : ym = 110
  · subst h8
    exact .inr ⟨8, 8, rfl, rfl, by decide, by decide, by decide⟩
  by_cases h9 : ym = 106
  · subst h9
    exact .inr ⟨9, 9, rfl, rfl, by decide, by decide, by decide⟩
  exact .inl ⟨nmC_no ⟨h0, h1, h2, h3, h4, h5, h6, h7, h8, h9⟩, nmD_no ⟨h0, h1, h2, h3, h4, h5, h6, h7, h8, h9⟩⟩
theorem bm_by {N : Nat} {yA : AW} {yQ : Option Value → AW → Prop} 
    (l1 : (yA.1 69 62).toInt ≤ (yA.1 69 61).toInt → yQ (some (.int 0)) yA)
    (l2 : (yA.1 69 61).toInt < (yA.1 69 62).toInt → 0 ≤ (yA.1 69 60).toInt → 0 ≤ ((yA.1 69 60) + (yA.1 69 61)).toInt → ((yA.1 69 60) + (yA.1 69 61)).toInt < 3200 → yQ (some (.int (yA.1 100 (((yA.1 69 60) + (yA.1 69 61)).toInt.toNat)))) yA)
    (l3 : (yA.1 69 61).toInt < (yA.1 69 62).toInt → (yA.1 69 60).toInt < 0 → 0 ≤ (yA.1 69 61).toInt → (yA.1 69 61).toInt < 160 → yQ (some (.int (yA.1 99 ((yA.1 69 61).toInt.toNat)))) yA) :
    Pa N 191 0 [(0, .ref 69)] [] yA yQ := by
  refine Pa.mp 1 (pc' := 1) (l' := [(0, .ref 69)]) (st' := [.ref 69]) (by rfl) ?_
  refine Pa.gfI (v := yA.1 69 61) (by rfl) (by rfl) (.inl rfl) (by rfl) (by rfl) ?_
  refine Pa.mp 1 (pc' := 5) (l' := [(0, .ref 69)]) (st' := [.ref 69, .int (yA.1 69 61)]) (by rfl) ?_
  refine Pa.gfI (v := yA.1 69 62) (by rfl) (by rfl) (.inl rfl) (by rfl) (by rfl) ?_
  refine Pa.if2 (a := (yA.1 69 61).toInt) (b := (yA.1 69 62).toInt) (t := 47) (by rfl) (by rfl) (rfl) (rfl) (fun h1 => ?_) (fun h2 => ?_)
  · have h1 : (yA.1 69 62).toInt ≤ (yA.1 69 61).toInt := h1
    refine Pa.ic (x := 0) (pc' := 48) (by rfl) (by rfl) (by decide) ?_
    refine Pa.iret (by rfl) ?_
    exact l1 h1
  · have h2 : (yA.1 69 61).toInt < (yA.1 69 62).toInt := h2
    refine Pa.mp 1 (pc' := 12) (l' := [(0, .ref 69)]) (st' := [.ref 69]) (by rfl) ?_
    refine Pa.gfI (v := yA.1 69 60) (by rfl) (by rfl) (.inl rfl) (by rfl) (by rfl) ?_
    refine Pa.if1 (a := (yA.1 69 60).toInt) (t := 30) (by rfl) (by rfl) (rfl) (fun h3 => ?_) (fun h4 => ?_)
    · have h3 : 0 ≤ (yA.1 69 60).toInt := h3
      refine Pa.mp 1 (pc' := 31) (l' := [(0, .ref 69)]) (st' := [.ref 69]) (by rfl) ?_
      refine Pa.gfR (by rfl) (by rfl) (.inl rfl) (by rfl) ?_
      show Pa N 191 34 [(0, .ref 69)] [.ref 100] yA _
      refine Pa.mp 1 (pc' := 35) (l' := [(0, .ref 69)]) (st' := [.ref 69, .ref 100]) (by rfl) ?_
      refine Pa.gfI (v := yA.1 69 60) (by rfl) (by rfl) (.inl rfl) (by rfl) (by rfl) ?_
      refine Pa.mp 1 (pc' := 39) (l' := [(0, .ref 69)]) (st' := [.ref 69, .int (yA.1 69 60), .ref 100]) (by rfl) ?_
      refine Pa.gfI (v := yA.1 69 61) (by rfl) (by rfl) (.inl rfl) (by rfl) (by rfl) ?_
      refine Pa.mp 1 (pc' := 43) (l' := [(0, .ref 69)]) (st' := [.int ((yA.1 69 60) + (yA.1 69 61)), .ref 100]) (by rfl) ?_
      refine Pa.alds (v := yA.1 100 (((yA.1 69 60) + (yA.1 69 61)).toInt.toNat)) (by rfl) (by rfl) (by rfl) (fun h5 h6 => ?_)
      have h5 : 0 ≤ ((yA.1 69 60) + (yA.1 69 61)).toInt := h5
      have h6 : ((yA.1 69 60) + (yA.1 69 61)).toInt < 3200 := h6
      refine Pa.mp 1 (pc' := 48) (l' := [(0, .ref 69)]) (st' := [.int (yA.1 100 (((yA.1 69 60) + (yA.1 69 61)).toInt.toNat))]) (by rfl) ?_
      refine Pa.iret (by rfl) ?_
      exact l2 h2 h3 h5 h6
    · have h4 : (yA.1 69 60).toInt < 0 := h4
      refine Pa.mp 1 (pc' := 19) (l' := [(0, .ref 69)]) (st' := [.ref 69]) (by rfl) ?_
      refine Pa.gfR (by rfl) (by rfl) (.inl rfl) (by rfl) ?_
      show Pa N 191 22 [(0, .ref 69)] [.ref 99] yA _
      refine Pa.mp 1 (pc' := 23) (l' := [(0, .ref 69)]) (st' := [.ref 69, .ref 99]) (by rfl) ?_
      refine Pa.gfI (v := yA.1 69 61) (by rfl) (by rfl) (.inl rfl) (by rfl) (by rfl) ?_
      refine Pa.alds (v := yA.1 99 ((yA.1 69 61).toInt.toNat)) (by rfl) (by rfl) (by rfl) (fun h7 h8 => ?_)
      have h7 : 0 ≤ (yA.1 69 61).toInt := h7
      have h8 : (yA.1 69 61).toInt < 160 := h8
      refine Pa.mp 1 (pc' := 48) (l' := [(0, .ref 69)]) (st' := [.int (yA.1 99 ((yA.1 69 61).toInt.toNat))]) (by rfl) ?_
      refine Pa.iret (by rfl) ?_
      exact l3 h2 h4 h7 h8


theorem bm_nm {N : Nat} {yA : AW} {yQ : Option Value → AW → Prop} (yc : Int32)
    (l1 : (yc.toInt < 99 ∨ 121 < yc.toInt) → yQ (some (.int (-1))) yA)
    (l2 : yc.toInt = 99 → yQ (some (.int 2)) yA)
    (l3 : yc.toInt = 100 → yQ (some (.int (-1))) yA)
    (l4 : yc.toInt = 101 → yQ (some (.int 5)) yA)
    (l5 : yc.toInt = 102 → yQ (some (.int (-1))) yA)
    (l6 : yc.toInt = 103 → yQ (some (.int (-1))) yA)
    (l7 : yc.toInt = 104 → yQ (some (.int (-1))) yA)
    (l8 : yc.toInt = 105 → yQ (some (.int (-1))) yA)
    (l9 : yc.toInt = 106 → yQ (some (.int 9)) yA)
    (l10 : yc.toInt = 107 → yQ (some (.int 0)) yA)
    (l11 : yc.toInt = 108 → yQ (some (.int 3)) yA)
    (l12 : yc.toInt = 109 → yQ (some (.int (-1))) yA)
    (l13 : yc.toInt = 110 → yQ (some (.int 8)) yA)
    (l14 : yc.toInt = 111 → yQ (some (.int (-1))) yA)
    (l15 : yc.toInt = 112 → yQ (some (.int 7)) yA)
    (l16 : yc.toInt = 113 → yQ (some (.int (-1))) yA)
    (l17 : yc.toInt = 114 → yQ (some (.int 4)) yA)
    (l18 : yc.toInt = 115 → yQ (some (.int 1)) yA)
    (l19 : yc.toInt = 116 → yQ (some (.int (-1))) yA)
    (l20 : yc.toInt = 117 → yQ (some (.int (-1))) yA)
    (l21 : yc.toInt = 118 → yQ (some (.int (-1))) yA)
    (l22 : yc.toInt = 119 → yQ (some (.int (-1))) yA)
    (l23 : yc.toInt = 120 → yQ (some (.int (-1))) yA)
    (l24 : yc.toInt = 121 → yQ (some (.int 6)) yA) :
    Pa N 199 0 [(0, .int yc)] [] yA yQ := by
  refine Pa.mp 1 (pc' := 1) (l' := [(0, .int yc)]) (st' := [.int yc]) (by rfl) ?_
  refine Pa.tsw (by rfl) (fun (h1 : yc.toInt < 99 ∨ 121 < yc.toInt) yt ht => ?_) ?_
  · obtain rfl : 132 = yt := by injection ht
    refine Pa.ic (x := (-1)) (pc' := 133) (by rfl) (by rfl) (by decide) ?_
    refine Pa.iret (by rfl) ?_
    exact l1 h1
  refine And.intro (fun (h2 : yc.toInt = 99) yt ht => ?_) ?_
  · obtain rfl : 112 = yt := by injection ht
    refine Pa.ic (x := 2) (pc' := 113) (by rfl) (by rfl) (by decide) ?_
    refine Pa.iret (by rfl) ?_
    exact l2 h2
  refine And.intro (fun (h3 : yc.toInt = 100) yt ht => ?_) ?_
  · obtain rfl : 132 = yt := by injection ht
    refine Pa.ic (x := (-1)) (pc' := 133) (by rfl) (by rfl) (by decide) ?_
    refine Pa.iret (by rfl) ?_
    exact l3 h3
  refine And.intro (fun (h4 : yc.toInt = 101) yt ht => ?_) ?_
  · obtain rfl : 118 = yt := by injection ht
    refine Pa.ic (x := 5) (pc' := 119) (by rfl) (by rfl) (by decide) ?_
    refine Pa.iret (by rfl) ?_
    exact l4 h4
  refine And.intro (fun (h5 : yc.toInt = 102) yt ht => ?_) ?_
  · obtain rfl : 132 = yt := by injection ht
    refine Pa.ic (x := (-1)) (pc' := 133) (by rfl) (by rfl) (by decide) ?_
    refine Pa.iret (by rfl) ?_
    exact l5 h5
  refine And.intro (fun (h6 : yc.toInt = 103) yt ht => ?_) ?_
  · obtain rfl : 132 = yt := by injection ht
    refine Pa.ic (x := (-1)) (pc' := 133) (by rfl) (by rfl) (by decide) ?_
    refine Pa.iret (by rfl) ?_
    exact l6 h6
  refine And.intro (fun (h7 : yc.toInt = 104) yt ht => ?_) ?_
  · obtain rfl : 132 = yt := by injection ht
    refine Pa.ic (x := (-1)) (pc' := 133) (by rfl) (by rfl) (by decide) ?_
    refine Pa.iret (by rfl) ?_
    exact l7 h7
  refine And.intro (fun (h8 : yc.toInt = 105) yt ht => ?_) ?_
  · obtain rfl : 132 = yt := by injection ht
    refine Pa.ic (x := (-1)) (pc' := 133) (by rfl) (by rfl) (by decide) ?_
    refine Pa.iret (by rfl) ?_
    exact l8 h8
  refine And.intro (fun (h9 : yc.toInt = 106) yt ht => ?_) ?_
  · obtain rfl : 129 = yt := by injection ht
    refine Pa.ic (x := 9) (pc' := 131) (by rfl) (by rfl) (by decide) ?_
    refine Pa.iret (by rfl) ?_
    exact l9 h9
  refine And.intro (fun (h10 : yc.toInt = 107) yt ht => ?_) ?_
  · obtain rfl : 108 = yt := by injection ht
    refine Pa.ic (x := 0) (pc' := 109) (by rfl) (by rfl) (by decide) ?_
    refine Pa.iret (by rfl) ?_
    exact l10 h10
  refine And.intro (fun (h11 : yc.toInt = 108) yt ht => ?_) ?_
  · obtain rfl : 114 = yt := by injection ht
    refine Pa.ic (x := 3) (pc' := 115) (by rfl) (by rfl) (by decide) ?_
    refine Pa.iret (by rfl) ?_
    exact l11 h11
  refine And.intro (fun (h12 : yc.toInt = 109) yt ht => ?_) ?_
  · obtain rfl : 132 = yt := by injection ht
    refine Pa.ic (x := (-1)) (pc' := 133) (by rfl) (by rfl) (by decide) ?_
    refine Pa.iret (by rfl) ?_
    exact l12 h12
  refine And.intro (fun (h13 : yc.toInt = 110) yt ht => ?_) ?_
  · obtain rfl : 126 = yt := by injection ht
    refine Pa.ic (x := 8) (pc' := 128) (by rfl) (by rfl) (by decide) ?_
    refine Pa.iret (by rfl) ?_
    exact l13 h13
  refine And.intro (fun (h14 : yc.toInt = 111) yt ht => ?_) ?_
  · obtain rfl : 132 = yt := by injection ht
    refine Pa.ic (x := (-1)) (pc' := 133) (by rfl) (by rfl) (by decide) ?_
    refine Pa.iret (by rfl) ?_
    exact l14 h14
  refine And.intro (fun (h15 : yc.toInt = 112) yt ht => ?_) ?_
  · obtain rfl : 123 = yt := by injection ht
    refine Pa.ic (x := 7) (pc' := 125) (by rfl) (by rfl) (by decide) ?_
    refine Pa.iret (by rfl) ?_
    exact l15 h15
  refine And.intro (fun (yh16 : yc.toInt = 113) yt ht => ?_) ?_
  · obtain rfl : 132 = yt := by injection ht
    refine Pa.ic (x := (-1)) (pc' := 133) (by rfl) (by rfl) (by decide) ?_
    refine Pa.iret (by rfl) ?_
    exact l16 yh16
  refine And.intro (fun (h17 : yc.toInt = 114) yt ht => ?_) ?_
  · obtain rfl : 116 = yt := by injection ht
    refine Pa.ic (x := 4) (pc' := 117) (by rfl) (by rfl) (by decide) ?_
    refine Pa.iret (by rfl) ?_
    exact l17 h17
  refine And.intro (fun (h18 : yc.toInt = 115) yt ht => ?_) ?_
  · obtain rfl : 110 = yt := by injection ht
    refine Pa.ic (x := 1) (pc' := 111) (by rfl) (by rfl) (by decide) ?_
    refine Pa.iret (by rfl) ?_
    exact l18 h18
  refine And.intro (fun (h19 : yc.toInt = 116) yt ht => ?_) ?_
  · obtain rfl : 132 = yt := by injection ht
    refine Pa.ic (x := (-1)) (pc' := 133) (by rfl) (by rfl) (by decide) ?_
    refine Pa.iret (by rfl) ?_
    exact l19 h19
  refine And.intro (fun (h20 : yc.toInt = 117) yt ht => ?_) ?_
  · obtain rfl : 132 = yt := by injection ht
    refine Pa.ic (x := (-1)) (pc' := 133) (by rfl) (by rfl) (by decide) ?_
    refine Pa.iret (by rfl) ?_
    exact l20 h20
  refine And.intro (fun (h21 : yc.toInt = 118) yt ht => ?_) ?_
  · obtain rfl : 132 = yt := by injection ht
    refine Pa.ic (x := (-1)) (pc' := 133) (by rfl) (by rfl) (by decide) ?_
    refine Pa.iret (by rfl) ?_
    exact l21 h21
  refine And.intro (fun (h22 : yc.toInt = 119) yt ht => ?_) ?_
  · obtain rfl : 132 = yt := by injection ht
    refine Pa.ic (x := (-1)) (pc' := 133) (by rfl) (by rfl) (by decide) ?_
    refine Pa.iret (by rfl) ?_
    exact l22 h22
  refine And.intro (fun (h23 : yc.toInt = 120) yt ht => ?_) ?_
  · obtain rfl : 132 = yt := by injection ht
    refine Pa.ic (x := (-1)) (pc' := 133) (by rfl) (by rfl) (by decide) ?_
    refine Pa.iret (by rfl) ?_
    exact l23 h23
  refine And.intro (fun (h24 : yc.toInt = 121) yt ht => ?_) ?_
  · obtain rfl : 120 = yt := by injection ht
    refine Pa.ic (x := 6) (pc' := 122) (by rfl) (by rfl) (by decide) ?_
    refine Pa.iret (by rfl) ?_
    exact l24 h24
  trivial



theorem c_byteAt (N : Nat) (yW : AW) : Pa N 191 0 [(0, .ref 69)] [] yW (fun yu A1 => yu = some (.int (mBy yW)) ∧ A1 = yW) := by
  refine bm_by (fun h1 => ?_) (fun h1 h2 h3 h4 => ?_) (fun h1 h2 h3 h4 => ?_)
  · refine ⟨?_, rfl⟩
    unfold mBy
    rw [if_neg (by omega)]
  · refine ⟨?_, rfl⟩
    unfold mBy
    rw [if_pos h1, if_neg (by omega)]
  · refine ⟨?_, rfl⟩
    unfold mBy
    rw [if_pos h1, if_pos h2]
theorem c_nameOf (N : Nat) (yA : AW) (yc : Int32) : Pa N 199 0 [(0, .int yc)] [] yA (fun yu A1 => yu = some (.int (nmM yc)) ∧ A1 = yA) := by
  refine bm_nm yc ?_ ?_ ?_ ?_ ?_ ?_ ?_ ?_ ?_ ?_ ?_ ?_ ?_ ?_ ?_ ?_ ?_ ?_ ?_ ?_ ?_ ?_ ?_ ?_
  · intro yh
    refine ⟨?_, rfl⟩
    show _ = some (Value.int (nmD yc.toInt))
    rw [nmD_no ⟨by omega, by omega, by omega, by omega, by omega, by omega, by omega, by omega, by omega, by omega⟩]
  · intro yh
    refine ⟨?_, rfl⟩
    show _ = some (Value.int (nmD yc.toInt))
    rw [yh]
    rfl
  · intro yh
    refine ⟨?_, rfl⟩
    show _ = some (Value.int (nmD yc.toInt))
    rw [yh]
    rfl
  · intro yh
    refine ⟨?_, rfl⟩
    show _ = some (Value.int (nmD yc.toInt))
    rw [yh]
    rfl
  · intro yh
    refine ⟨?_, rfl⟩
    show _ = some (Value.int (nmD yc.toInt))
    rw [yh]
    rfl
  · intro yh
    refine ⟨?_, rfl⟩
    show _ = some (Value.int (nmD yc.toInt))
    rw [yh]
    rfl
  · intro yh
    refine ⟨?_, rfl⟩
    show _ = some (Value.int (nmD yc.toInt))
    rw [yh]
    rfl
  · intro yh
    refine ⟨?_, rfl⟩
    show _ = some (Value.int (nmD yc.toInt))
    rw [yh]
    rfl
  · intro yh
    refine ⟨?_, rfl⟩
    show _ = some (Value.int (nmD yc.toInt))
    rw [yh]
    rfl
  · intro yh
    refine ⟨?_, rfl⟩
    show _ = some (Value.int (nmD yc.toInt))
    rw [yh]
    rfl
  · intro yh
    refine ⟨?_, rfl⟩
    show _ = some (Value.int (nmD yc.toInt))
    rw [yh]
    rfl
  · intro yh
    refine ⟨?_, rfl⟩
    show _ = some (Value.int (nmD yc.toInt))
    rw [yh]
    rfl
  · intro yh
    refine ⟨?_, rfl⟩
    show _ = some (Value.int (nmD yc.toInt))
    rw [yh]
    rfl
  · intro yh
    refine ⟨?_, rfl⟩
    show _ = some (Value.int (nmD yc.toInt))
    rw [yh]
    rfl
  · intro yh
    refine ⟨?_, rfl⟩
    show _ = some (Value.int (nmD yc.toInt))
    rw [yh]
    rfl
  · intro yh
    refine ⟨?_, rfl⟩
    show _ = some (Value.int (nmD yc.toInt))
    rw [yh]
    rfl
  · intro yh
    refine ⟨?_, rfl⟩
    show _ = some (Value.int (nmD yc.toInt))
    rw [yh]
    rfl
  · intro yh
    refine ⟨?_, rfl⟩
    show _ = some (Value.int (nmD yc.toInt))
    rw [yh]
    rfl
  · intro yh
    refine ⟨?_, rfl⟩
    show _ = some (Value.int (nmD yc.toInt))
    rw [yh]
    rfl
  · intro yh
    refine ⟨?_, rfl⟩
    show _ = some (Value.int (nmD yc.toInt))
    rw [yh]
    rfl
  · intro yh
    refine ⟨?_, rfl⟩
    show _ = some (Value.int (nmD yc.toInt))
    rw [yh]
    rfl
  · intro yh
    refine ⟨?_, rfl⟩
    show _ = some (Value.int (nmD yc.toInt))
    rw [yh]
    rfl
  · intro yh
    refine ⟨?_, rfl⟩
    show _ = some (Value.int (nmD yc.toInt))
    rw [yh]
    rfl
  · intro yh
    refine ⟨?_, rfl⟩
    show _ = some (Value.int (nmD yc.toInt))
    rw [yh]
    rfl
theorem bm_ei0 {N : Nat} {yA : AW} {yQ : Option Value → AW → Prop} 
    (l1 : Pa N 195 0 [(0, .ref 69)] [] yA (fun yu A1 => Pa N 194 4 [(0, .ref 69)] (yu.toList ++ []) A1 yQ)) :
    Pa (N + 1) 194 0 [(0, .ref 69)] [] yA yQ := by
  refine Pa.mp1 0 (pc' := 1) (l' := [(0, .ref 69)]) (st' := [.ref 69]) (by rfl) ?_
  refine Pa.inv (by rfl) (by rfl) (.inl rfl) (by rfl) ?_
  exact l1


theorem bm_ei1 {N : Nat} {yA : AW} {yQ : Option Value → AW → Prop} (yv : Int32)
    (l1 : Pa N 194 5 [(0, .ref 69), (1, .int yv), (2, .int 0)] [] yA yQ) :
    Pa N 194 4 [(0, .ref 69)] [.int yv] yA yQ := by
  refine Pa.mp 1 (pc' := 5) (l' := [(1, .int yv), (0, .ref 69)]) (st' := []) (by rfl) ?_
  refine Pa.lv (l' := [(0, .ref 69), (1, .int yv), (2, .int 0)]) (lvS_c rfl (lvS_c rfl (lvS_nil))) rfl ?_
  exact l1


theorem bm_eil {N : Nat} {yA : AW} {yQ : Option Value → AW → Prop} (yv yx : Int32)
    (l1 : 0 ≤ (yA.1 69 63).toInt → yQ (some (.int yv)) yA)
    (l2 : (yA.1 69 63).toInt < 0 → (mBy yA).toInt = 124 → Pa N 195 0 [(0, .ref 69)] [] (uI yA 69 61 ((yA.1 69 61) + 1)) (fun yu A1 => Pa N 194 18 [(0, .ref 69), (1, .int yv), (2, .int yx)] (yu.toList ++ []) A1 yQ))
    (l3 : (yA.1 69 63).toInt < 0 → (mBy yA).toInt ≠ 124 → yQ (some (.int yv)) yA) :
    Pa (N + 1) 194 5 [(0, .ref 69), (1, .int yv), (2, .int yx)] [] yA yQ := by
  refine Pa.mp1 0 (pc' := 6) (l' := [(0, .ref 69), (1, .int yv), (2, .int yx)]) (st' := [.ref 69]) (by rfl) ?_
  refine Pa.ic (x := 124) (pc' := 8) (by rfl) (by rfl) (by decide) ?_
  refine Pa.inv (by rfl) (by rfl) (.inl rfl) (by rfl) ?_
  show Pa N 193 0 [(0, .ref 69), (1, .int 124)] [] yA _
  refine Pa.mp 1 (pc' := 1) (l' := [(0, .ref 69), (1, .int 124)]) (st' := [.ref 69]) (by rfl) ?_
  refine Pa.gfI (v := yA.1 69 63) (by rfl) (by rfl) (.inl rfl) (by rfl) (by rfl) ?_
  refine Pa.if1 (a := (yA.1 69 63).toInt) (t := 15) (by rfl) (by rfl) (rfl) (fun h1 => ?_) (fun h2 => ?_)
  · have h1 : 0 ≤ (yA.1 69 63).toInt := h1
    refine Pa.ic (x := 0) (pc' := 16) (by rfl) (by rfl) (by decide) ?_
    refine Pa.iret (by rfl) ?_
    show Pa N 194 11 [(0, .ref 69), (1, .int yv), (2, .int yx)] [.int 0] yA _
    refine Pa.if1k true (by rfl) (by rfl) (by decide) ?_
    show Pa N 194 36 [(0, .ref 69), (1, .int yv), (2, .int yx)] [] yA _
    refine Pa.mp 1 (pc' := 37) (l' := [(0, .ref 69), (1, .int yv), (2, .int yx)]) (st' := [.int yv]) (by rfl) ?_
    refine Pa.iret (by rfl) ?_
    exact l1 h1
  · have h2 : (yA.1 69 63).toInt < 0 := h2
    refine Pa.mp 1 (pc' := 8) (l' := [(0, .ref 69), (1, .int 124)]) (st' := [.ref 69]) (by rfl) ?_
    refine Pa.inv (by rfl) (by rfl) (.inl rfl) (by rfl) ?_
    refine Pa.mono (c_byteAt N yA) (fun yu A1 hu => ?_)
    obtain ⟨rfl, hu⟩ := hu
    rw [hu]
    show Pa N 193 11 [(0, .ref 69), (1, .int 124)] [.int (mBy yA)] yA _
    refine Pa.mp 1 (pc' := 12) (l' := [(0, .ref 69), (1, .int 124)]) (st' := [.int 124, .int (mBy yA)]) (by rfl) ?_
    refine Pa.if2 (a := (mBy yA).toInt) (b := 124) (t := 17) (by rfl) (by rfl) (rfl) (by decide) (fun h3 => ?_) (fun h4 => ?_)
    · have h3 : (mBy yA).toInt = 124 := h3
      refine Pa.mp 2 (pc' := 19) (l' := [(0, .ref 69), (1, .int 124)]) (st' := [.ref 69, .ref 69]) (by rfl) ?_
      refine Pa.gfI (v := yA.1 69 61) (by rfl) (by rfl) (.inl rfl) (by rfl) (by rfl) ?_
      refine Pa.ic (x := 1) (pc' := 23) (by rfl) (by rfl) (by decide) ?_
      refine Pa.mp 1 (pc' := 24) (l' := [(0, .ref 69), (1, .int 124)]) (st' := [.int ((yA.1 69 61) + 1), .ref 69]) (by rfl) ?_
      refine Pa.pfI (by rfl) (by rfl) (.inl rfl) (by rfl) ?_
      show Pa N 193 27 [(0, .ref 69), (1, .int 124)] [] (uI yA 69 61 ((yA.1 69 61) + 1)) _
      refine Pa.ic (x := 1) (pc' := 28) (by rfl) (by rfl) (by decide) ?_
      refine Pa.iret (by rfl) ?_
      show Pa N 194 11 [(0, .ref 69), (1, .int yv), (2, .int yx)] [.int 1] (uI yA 69 61 ((yA.1 69 61) + 1)) _
      refine Pa.if1k false (by rfl) (by rfl) (by decide) ?_
      show Pa N 194 14 [(0, .ref 69), (1, .int yv), (2, .int yx)] [] (uI yA 69 61 ((yA.1 69 61) + 1)) _
      refine Pa.mp 1 (pc' := 15) (l' := [(0, .ref 69), (1, .int yv), (2, .int yx)]) (st' := [.ref 69]) (by rfl) ?_
      refine Pa.inv (by rfl) (by rfl) (.inl rfl) (by rfl) ?_
      exact l2 h2 h3
    · have h4 : (mBy yA).toInt ≠ 124 := h4
      refine Pa.ic (x := 0) (pc' := 16) (by rfl) (by rfl) (by decide) ?_
      refine Pa.iret (by rfl) ?_
      show Pa N 194 11 [(0, .ref 69), (1, .int yv), (2, .int yx)] [.int 0] yA _
      refine Pa.if1k true (by rfl) (by rfl) (by decide) ?_
      show Pa N 194 36 [(0, .ref 69), (1, .int yv), (2, .int yx)] [] yA _
      refine Pa.mp 1 (pc' := 37) (l' := [(0, .ref 69), (1, .int yv), (2, .int yx)]) (st' := [.int yv]) (by rfl) ?_
      refine Pa.iret (by rfl) ?_
      exact l3 h2 h4


theorem bm_ei2 {N : Nat} {yA : AW} {yQ : Option Value → AW → Prop} (yv yx yw : Int32)
    (l1 : yv.toInt ≠ 0 → Pa N 194 5 [(0, .ref 69), (1, .int 1), (2, .int yw)] [] yA yQ)
    (l2 : yv.toInt = 0 → yw.toInt = 0 → Pa N 194 5 [(0, .ref 69), (1, .int 0), (2, .int yw)] [] yA yQ)
    (l3 : yv.toInt = 0 → yw.toInt ≠ 0 → Pa N 194 5 [(0, .ref 69), (1, .int 1), (2, .int yw)] [] yA yQ) :
    Pa N 194 18 [(0, .ref 69), (1, .int yv), (2, .int yx)] [.int yw] yA yQ := by
  refine Pa.mp 2 (pc' := 20) (l' := [(2, .int yw), (0, .ref 69), (1, .int yv)]) (st' := [.int yv]) (by rfl) ?_
  refine Pa.if1 (a := yv.toInt) (t := 27) (by rfl) (by rfl) (rfl) (fun h1 => ?_) (fun h2 => ?_)
  · have h1 : yv.toInt ≠ 0 := h1
    refine Pa.ic (x := 1) (pc' := 28) (by rfl) (by rfl) (by decide) ?_
    refine Pa.mp 3 (pc' := 5) (l' := [(1, .int 1), (2, .int yw), (0, .ref 69)]) (st' := []) (by rfl) ?_
    refine Pa.lv (l' := [(0, .ref 69), (1, .int 1), (2, .int yw)]) (lvS_c rfl (lvS_c rfl (lvS_c rfl (lvS_nil)))) rfl ?_
    exact l1 h1
  · have h2 : yv.toInt = 0 := h2
    refine Pa.mp 1 (pc' := 24) (l' := [(2, .int yw), (0, .ref 69), (1, .int yv)]) (st' := [.int yw]) (by rfl) ?_
    refine Pa.if1 (a := yw.toInt) (t := 31) (by rfl) (by rfl) (rfl) (fun h3 => ?_) (fun h4 => ?_)
    · have h3 : yw.toInt = 0 := h3
      refine Pa.ic (x := 0) (pc' := 32) (by rfl) (by rfl) (by decide) ?_
      refine Pa.mp 2 (pc' := 5) (l' := [(1, .int 0), (2, .int yw), (0, .ref 69)]) (st' := []) (by rfl) ?_
      refine Pa.lv (l' := [(0, .ref 69), (1, .int 0), (2, .int yw)]) (lvS_c rfl (lvS_c rfl (lvS_c rfl (lvS_nil)))) rfl ?_
      exact l2 h2 h3
    · have h4 : yw.toInt ≠ 0 := h4
      refine Pa.ic (x := 1) (pc' := 28) (by rfl) (by rfl) (by decide) ?_
      refine Pa.mp 3 (pc' := 5) (l' := [(1, .int 1), (2, .int yw), (0, .ref 69)]) (st' := []) (by rfl) ?_
      refine Pa.lv (l' := [(0, .ref 69), (1, .int 1), (2, .int yw)]) (lvS_c rfl (lvS_c rfl (lvS_c rfl (lvS_nil)))) rfl ?_
      exact l3 h2 h4


theorem bm_bo0 {N : Nat} {yA : AW} {yQ : Option Value → AW → Prop} 
    (l1 : Pa N 196 0 [(0, .ref 69)] [] yA (fun yu A1 => Pa N 195 4 [(0, .ref 69)] (yu.toList ++ []) A1 yQ)) :
    Pa (N + 1) 195 0 [(0, .ref 69)] [] yA yQ := by
  refine Pa.mp1 0 (pc' := 1) (l' := [(0, .ref 69)]) (st' := [.ref 69]) (by rfl) ?_
  refine Pa.inv (by rfl) (by rfl) (.inl rfl) (by rfl) ?_
  exact l1


theorem bm_bo1 {N : Nat} {yA : AW} {yQ : Option Value → AW → Prop} (yv : Int32)
    (l1 : Pa N 195 5 [(0, .ref 69), (1, .int yv), (2, .int 0)] [] yA yQ) :
    Pa N 195 4 [(0, .ref 69)] [.int yv] yA yQ := by
  refine Pa.mp 1 (pc' := 5) (l' := [(1, .int yv), (0, .ref 69)]) (st' := []) (by rfl) ?_
  refine Pa.lv (l' := [(0, .ref 69), (1, .int yv), (2, .int 0)]) (lvS_c rfl (lvS_c rfl (lvS_nil))) rfl ?_
  exact l1


theorem bm_bol {N : Nat} {yA : AW} {yQ : Option Value → AW → Prop} (yv yx : Int32)
    (l1 : 0 ≤ (yA.1 69 63).toInt → yQ (some (.int yv)) yA)
    (l2 : (yA.1 69 63).toInt < 0 → (mBy yA).toInt = 38 → Pa N 196 0 [(0, .ref 69)] [] (uI yA 69 61 ((yA.1 69 61) + 1)) (fun yu A1 => Pa N 195 18 [(0, .ref 69), (1, .int yv), (2, .int yx)] (yu.toList ++ []) A1 yQ))
    (l3 : (yA.1 69 63).toInt < 0 → (mBy yA).toInt ≠ 38 → yQ (some (.int yv)) yA) :
    Pa (N + 1) 195 5 [(0, .ref 69), (1, .int yv), (2, .int yx)] [] yA yQ := by
  refine Pa.mp1 0 (pc' := 6) (l' := [(0, .ref 69), (1, .int yv), (2, .int yx)]) (st' := [.ref 69]) (by rfl) ?_
  refine Pa.ic (x := 38) (pc' := 8) (by rfl) (by rfl) (by decide) ?_
  refine Pa.inv (by rfl) (by rfl) (.inl rfl) (by rfl) ?_
  show Pa N 193 0 [(0, .ref 69), (1, .int 38)] [] yA _
  refine Pa.mp 1 (pc' := 1) (l' := [(0, .ref 69), (1, .int 38)]) (st' := [.ref 69]) (by rfl) ?_
  refine Pa.gfI (v := yA.1 69 63) (by rfl) (by rfl) (.inl rfl) (by rfl) (by rfl) ?_
  refine Pa.if1 (a := (yA.1 69 63).toInt) (t := 15) (by rfl) (by rfl) (rfl) (fun h1 => ?_) (fun h2 => ?_)
  · have h1 : 0 ≤ (yA.1 69 63).toInt := h1
    refine Pa.ic (x := 0) (pc' := 16) (by rfl) (by rfl) (by decide) ?_
    refine Pa.iret (by rfl) ?_
    show Pa N 195 11 [(0, .ref 69), (1, .int yv), (2, .int yx)] [.int 0] yA _
    refine Pa.if1k true (by rfl) (by rfl) (by decide) ?_
    show Pa N 195 36 [(0, .ref 69), (1, .int yv), (2, .int yx)] [] yA _
    refine Pa.mp 1 (pc' := 37) (l' := [(0, .ref 69), (1, .int yv), (2, .int yx)]) (st' := [.int yv]) (by rfl) ?_
    refine Pa.iret (by rfl) ?_
    exact l1 h1
  · have h2 : (yA.1 69 63).toInt < 0 := h2
    refine Pa.mp 1 (pc' := 8) (l' := [(0, .ref 69), (1, .int 38)]) (st' := [.ref 69]) (by rfl) ?_
    refine Pa.inv (by rfl) (by rfl) (.inl rfl) (by rfl) ?_
    refine Pa.mono (c_byteAt N yA) (fun yu A1 hu => ?_)
    obtain ⟨rfl, hu⟩ := hu
    rw [hu]
    show Pa N 193 11 [(0, .ref 69), (1, .int 38)] [.int (mBy yA)] yA _
    refine Pa.mp 1 (pc' := 12) (l' := [(0, .ref 69), (1, .int 38)]) (st' := [.int 38, .int (mBy yA)]) (by rfl) ?_
    refine Pa.if2 (a := (mBy yA).toInt) (b := 38) (t := 17) (by rfl) (by rfl) (rfl) (by decide) (fun h3 => ?_) (fun h4 => ?_)
    · have h3 : (mBy yA).toInt = 38 := h3
      refine Pa.mp 2 (pc' := 19) (l' := [(0, .ref 69), (1, .int 38)]) (st' := [.ref 69, .ref 69]) (by rfl) ?_
      refine Pa.gfI (v := yA.1 69 61) (by rfl) (by rfl) (.inl rfl) (by rfl) (by rfl) ?_
      refine Pa.ic (x := 1) (pc' := 23) (by rfl) (by rfl) (by decide) ?_
      refine Pa.mp 1 (pc' := 24) (l' := [(0, .ref 69), (1, .int 38)]) (st' := [.int ((yA.1 69 61) + 1), .ref 69]) (by rfl) ?_
      refine Pa.pfI (by rfl) (by rfl) (.inl rfl) (by rfl) ?_
      show Pa N 193 27 [(0, .ref 69), (1, .int 38)] [] (uI yA 69 61 ((yA.1 69 61) + 1)) _
      refine Pa.ic (x := 1) (pc' := 28) (by rfl) (by rfl) (by decide) ?_
      refine Pa.iret (by rfl) ?_
      show Pa N 195 11 [(0, .ref 69), (1, .int yv), (2, .int yx)] [.int 1] (uI yA 69 61 ((yA.1 69 61) + 1)) _
      refine Pa.if1k false (by rfl) (by rfl) (by decide) ?_
      show Pa N 195 14 [(0, .ref 69), (1, .int yv), (2, .int yx)] [] (uI yA 69 61 ((yA.1 69 61) + 1)) _
      refine Pa.mp 1 (pc' := 15) (l' := [(0, .ref 69), (1, .int yv), (2, .int yx)]) (st' := [.ref 69]) (by rfl) ?_
      refine Pa.inv (by rfl) (by rfl) (.inl rfl) (by rfl) ?_
      exact l2 h2 h3
    · have h4 : (mBy yA).toInt ≠ 38 := h4
      refine Pa.ic (x := 0) (pc' := 16) (by rfl) (by rfl) (by decide) ?_
      refine Pa.iret (by rfl) ?_
      show Pa N 195 11 [(0, .ref 69), (1, .int yv), (2, .int yx)] [.int 0] yA _
      refine Pa.if1k true (by rfl) (by rfl) (by decide) ?_
      show Pa N 195 36 [(0, .ref 69), (1, .int yv), (2, .int yx)] [] yA _
      refine Pa.mp 1 (pc' := 37) (l' := [(0, .ref 69), (1, .int yv), (2, .int yx)]) (st' := [.int yv]) (by rfl) ?_
      refine Pa.iret (by rfl) ?_
      exact l3 h2 h4


theorem bm_bo2 {N : Nat} {yA : AW} {yQ : Option Value → AW → Prop} (yv yx yw : Int32)
    (l1 : yv.toInt = 0 → Pa N 195 5 [(0, .ref 69), (1, .int 0), (2, .int yw)] [] yA yQ)
    (l2 : yv.toInt ≠ 0 → yw.toInt = 0 → Pa N 195 5 [(0, .ref 69), (1, .int 0), (2, .int yw)] [] yA yQ)
    (l3 : yv.toInt ≠ 0 → yw.toInt ≠ 0 → Pa N 195 5 [(0, .ref 69), (1, .int 1), (2, .int yw)] [] yA yQ) :
    Pa N 195 18 [(0, .ref 69), (1, .int yv), (2, .int yx)] [.int yw] yA yQ := by
  refine Pa.mp 2 (pc' := 20) (l' := [(2, .int yw), (0, .ref 69), (1, .int yv)]) (st' := [.int yv]) (by rfl) ?_
  refine Pa.if1 (a := yv.toInt) (t := 31) (by rfl) (by rfl) (rfl) (fun h1 => ?_) (fun h2 => ?_)
  · have h1 : yv.toInt = 0 := h1
    refine Pa.ic (x := 0) (pc' := 32) (by rfl) (by rfl) (by decide) ?_
    refine Pa.mp 2 (pc' := 5) (l' := [(1, .int 0), (2, .int yw), (0, .ref 69)]) (st' := []) (by rfl) ?_
    refine Pa.lv (l' := [(0, .ref 69), (1, .int 0), (2, .int yw)]) (lvS_c rfl (lvS_c rfl (lvS_c rfl (lvS_nil)))) rfl ?_
    exact l1 h1
  · have h2 : yv.toInt ≠ 0 := h2
    refine Pa.mp 1 (pc' := 24) (l' := [(2, .int yw), (0, .ref 69), (1, .int yv)]) (st' := [.int yw]) (by rfl) ?_
    refine Pa.if1 (a := yw.toInt) (t := 31) (by rfl) (by rfl) (rfl) (fun h3 => ?_) (fun h4 => ?_)
    · have h3 : yw.toInt = 0 := h3
      refine Pa.ic (x := 0) (pc' := 32) (by rfl) (by rfl) (by decide) ?_
      refine Pa.mp 2 (pc' := 5) (l' := [(1, .int 0), (2, .int yw), (0, .ref 69)]) (st' := []) (by rfl) ?_
      refine Pa.lv (l' := [(0, .ref 69), (1, .int 0), (2, .int yw)]) (lvS_c rfl (lvS_c rfl (lvS_c rfl (lvS_nil)))) rfl ?_
      exact l2 h2 h3
    · have h4 : yw.toInt ≠ 0 := h4
      refine Pa.ic (x := 1) (pc' := 28) (by rfl) (by rfl) (by decide) ?_
      refine Pa.mp 3 (pc' := 5) (l' := [(1, .int 1), (2, .int yw), (0, .ref 69)]) (st' := []) (by rfl) ?_
      refine Pa.lv (l' := [(0, .ref 69), (1, .int 1), (2, .int yw)]) (lvS_c rfl (lvS_c rfl (lvS_c rfl (lvS_nil)))) rfl ?_
      exact l3 h2 h4


theorem bm_cm0 {N : Nat} {yA : AW} {yQ : Option Value → AW → Prop} 
    (l1 : Pa N 197 0 [(0, .ref 69)] [] yA (fun yu A1 => Pa N 196 4 [(0, .ref 69)] (yu.toList ++ []) A1 yQ)) :
    Pa (N + 1) 196 0 [(0, .ref 69)] [] yA yQ := by
  refine Pa.mp1 0 (pc' := 1) (l' := [(0, .ref 69)]) (st' := [.ref 69]) (by rfl) ?_
  refine Pa.inv (by rfl) (by rfl) (.inl rfl) (by rfl) ?_
  exact l1


theorem bm_cm1 {N : Nat} {yA : AW} {yQ : Option Value → AW → Prop} (yv : Int32) 
    (l1 : 0 ≤ (yA.1 69 63).toInt → yQ (some (.int yv)) yA)
    (l2 : (yA.1 69 63).toInt < 0 → (mBy yA).toInt = 60 → Pa N 197 0 [(0, .ref 69)] [] (uI yA 69 61 ((yA.1 69 61) + 1)) (fun yu A1 => Pa N 196 51 [(0, .ref 69), (1, .int yv), (2, .int (mBy yA))] (yu.toList ++ []) A1 yQ))
    (l3 : (yA.1 69 63).toInt < 0 → (mBy yA).toInt ≠ 60 → (mBy yA).toInt = 61 → Pa N 197 0 [(0, .ref 69)] [] (uI yA 69 61 ((yA.1 69 61) + 1)) (fun yu A1 => Pa N 196 51 [(0, .ref 69), (1, .int yv), (2, .int (mBy yA))] (yu.toList ++ []) A1 yQ))
    (l4 : (yA.1 69 63).toInt < 0 → (mBy yA).toInt ≠ 60 → (mBy yA).toInt ≠ 61 → (mBy yA).toInt = 62 → Pa N 197 0 [(0, .ref 69)] [] (uI yA 69 61 ((yA.1 69 61) + 1)) (fun yu A1 => Pa N 196 51 [(0, .ref 69), (1, .int yv), (2, .int (mBy yA))] (yu.toList ++ []) A1 yQ))
    (l5 : (yA.1 69 63).toInt < 0 → (mBy yA).toInt ≠ 60 → (mBy yA).toInt ≠ 61 → (mBy yA).toInt ≠ 62 → yQ (some (.int yv)) yA) :
    Pa N 196 4 [(0, .ref 69)] [.int yv] yA yQ := by
  refine Pa.mp 2 (pc' := 6) (l' := [(1, .int yv), (0, .ref 69)]) (st' := [.ref 69]) (by rfl) ?_
  refine Pa.inv (by rfl) (by rfl) (.inl rfl) (by rfl) ?_
  refine Pa.mono (c_byteAt N yA) (fun yu A1 hu => ?_)
  obtain ⟨rfl, hu⟩ := hu
  rw [hu]
  show Pa N 196 9 [(1, .int yv), (0, .ref 69)] [.int (mBy yA)] yA _
  refine Pa.mp 2 (pc' := 11) (l' := [(2, .int (mBy yA)), (1, .int yv), (0, .ref 69)]) (st' := [.ref 69]) (by rfl) ?_
  refine Pa.gfI (v := yA.1 69 63) (by rfl) (by rfl) (.inl rfl) (by rfl) (by rfl) ?_
  refine Pa.if1 (a := (yA.1 69 63).toInt) (t := 35) (by rfl) (by rfl) (rfl) (fun h1 => ?_) (fun h2 => ?_)
  · have h1 : 0 ≤ (yA.1 69 63).toInt := h1
    refine Pa.mp 1 (pc' := 36) (l' := [(2, .int (mBy yA)), (1, .int yv), (0, .ref 69)]) (st' := [.int yv]) (by rfl) ?_
    refine Pa.iret (by rfl) ?_
    exact l1 h1
  · have h2 : (yA.1 69 63).toInt < 0 := h2
    refine Pa.mp 1 (pc' := 18) (l' := [(2, .int (mBy yA)), (1, .int yv), (0, .ref 69)]) (st' := [.int (mBy yA)]) (by rfl) ?_
    refine Pa.ic (x := 60) (pc' := 20) (by rfl) (by rfl) (by decide) ?_
    refine Pa.if2 (a := (mBy yA).toInt) (b := 60) (t := 37) (by rfl) (by rfl) (rfl) (by decide) (fun h3 => ?_) (fun h4 => ?_)
    · have h3 : (mBy yA).toInt = 60 := h3
      refine Pa.mp 2 (pc' := 39) (l' := [(2, .int (mBy yA)), (1, .int yv), (0, .ref 69)]) (st' := [.ref 69, .ref 69]) (by rfl) ?_
      refine Pa.gfI (v := yA.1 69 61) (by rfl) (by rfl) (.inl rfl) (by rfl) (by rfl) ?_
      refine Pa.ic (x := 1) (pc' := 43) (by rfl) (by rfl) (by decide) ?_
      refine Pa.mp 1 (pc' := 44) (l' := [(2, .int (mBy yA)), (1, .int yv), (0, .ref 69)]) (st' := [.int ((yA.1 69 61) + 1), .ref 69]) (by rfl) ?_
      refine Pa.pfI (by rfl) (by rfl) (.inl rfl) (by rfl) ?_
      show Pa N 196 47 [(2, .int (mBy yA)), (1, .int yv), (0, .ref 69)] [] (uI yA 69 61 ((yA.1 69 61) + 1)) _
      refine Pa.mp 1 (pc' := 48) (l' := [(2, .int (mBy yA)), (1, .int yv), (0, .ref 69)]) (st' := [.ref 69]) (by rfl) ?_
      refine Pa.lv (l' := [(0, .ref 69), (1, .int yv), (2, .int (mBy yA))]) (lvS_c rfl (lvS_c rfl (lvS_c rfl (lvS_nil)))) rfl ?_
      refine Pa.inv (by rfl) (by rfl) (.inl rfl) (by rfl) ?_
      exact l2 h2 h3
    · have h4 : (mBy yA).toInt ≠ 60 := h4
      refine Pa.mp 1 (pc' := 24) (l' := [(2, .int (mBy yA)), (1, .int yv), (0, .ref 69)]) (st' := [.int (mBy yA)]) (by rfl) ?_
      refine Pa.ic (x := 61) (pc' := 26) (by rfl) (by rfl) (by decide) ?_
      refine Pa.if2 (a := (mBy yA).toInt) (b := 61) (t := 37) (by rfl) (by rfl) (rfl) (by decide) (fun h5 => ?_) (fun h6 => ?_)
      · have h5 : (mBy yA).toInt = 61 := h5
        refine Pa.mp 2 (pc' := 39) (l' := [(2, .int (mBy yA)), (1, .int yv), (0, .ref 69)]) (st' := [.ref 69, .ref 69]) (by rfl) ?_
        refine Pa.gfI (v := yA.1 69 61) (by rfl) (by rfl) (.inl rfl) (by rfl) (by rfl) ?_
        refine Pa.ic (x := 1) (pc' := 43) (by rfl) (by rfl) (by decide) ?_
        refine Pa.mp 1 (pc' := 44) (l' := [(2, .int (mBy yA)), (1, .int yv), (0, .ref 69)]) (st' := [.int ((yA.1 69 61) + 1), .ref 69]) (by rfl) ?_
        refine Pa.pfI (by rfl) (by rfl) (.inl rfl) (by rfl) ?_
        show Pa N 196 47 [(2, .int (mBy yA)), (1, .int yv), (0, .ref 69)] [] (uI yA 69 61 ((yA.1 69 61) + 1)) _
        refine Pa.mp 1 (pc' := 48) (l' := [(2, .int (mBy yA)), (1, .int yv), (0, .ref 69)]) (st' := [.ref 69]) (by rfl) ?_
        refine Pa.lv (l' := [(0, .ref 69), (1, .int yv), (2, .int (mBy yA))]) (lvS_c rfl (lvS_c rfl (lvS_c rfl (lvS_nil)))) rfl ?_
        refine Pa.inv (by rfl) (by rfl) (.inl rfl) (by rfl) ?_
        exact l3 h2 h4 h5
      · have h6 : (mBy yA).toInt ≠ 61 := h6
        refine Pa.mp 1 (pc' := 30) (l' := [(2, .int (mBy yA)), (1, .int yv), (0, .ref 69)]) (st' := [.int (mBy yA)]) (by rfl) ?_
        refine Pa.ic (x := 62) (pc' := 32) (by rfl) (by rfl) (by decide) ?_
        refine Pa.if2 (a := (mBy yA).toInt) (b := 62) (t := 37) (by rfl) (by rfl) (rfl) (by decide) (fun h7 => ?_) (fun h8 => ?_)
        · have h7 : (mBy yA).toInt = 62 := h7
          refine Pa.mp 2 (pc' := 39) (l' := [(2, .int (mBy yA)), (1, .int yv), (0, .ref 69)]) (st' := [.ref 69, .ref 69]) (by rfl) ?_
          refine Pa.gfI (v := yA.1 69 61) (by rfl) (by rfl) (.inl rfl) (by rfl) (by rfl) ?_
          refine Pa.ic (x := 1) (pc' := 43) (by rfl) (by rfl) (by decide) ?_
          refine Pa.mp 1 (pc' := 44) (l' := [(2, .int (mBy yA)), (1, .int yv), (0, .ref 69)]) (st' := [.int ((yA.1 69 61) + 1), .ref 69]) (by rfl) ?_
          refine Pa.pfI (by rfl) (by rfl) (.inl rfl) (by rfl) ?_
          show Pa N 196 47 [(2, .int (mBy yA)), (1, .int yv), (0, .ref 69)] [] (uI yA 69 61 ((yA.1 69 61) + 1)) _
          refine Pa.mp 1 (pc' := 48) (l' := [(2, .int (mBy yA)), (1, .int yv), (0, .ref 69)]) (st' := [.ref 69]) (by rfl) ?_
          refine Pa.lv (l' := [(0, .ref 69), (1, .int yv), (2, .int (mBy yA))]) (lvS_c rfl (lvS_c rfl (lvS_c rfl (lvS_nil)))) rfl ?_
          refine Pa.inv (by rfl) (by rfl) (.inl rfl) (by rfl) ?_
          exact l4 h2 h4 h6 h7
        · have h8 : (mBy yA).toInt ≠ 62 := h8
          refine Pa.mp 1 (pc' := 36) (l' := [(2, .int (mBy yA)), (1, .int yv), (0, .ref 69)]) (st' := [.int yv]) (by rfl) ?_
          refine Pa.iret (by rfl) ?_
          exact l5 h2 h4 h6 h8


theorem bm_cm2 {N : Nat} {yA : AW} {yQ : Option Value → AW → Prop} (yv yc yw : Int32)
    (l1 : yc.toInt ≠ 60 → yc.toInt ≠ 61 → yv.toInt ≤ yw.toInt → yQ (some (.int 0)) yA)
    (l2 : yc.toInt ≠ 60 → yc.toInt ≠ 61 → yw.toInt < yv.toInt → yQ (some (.int 1)) yA)
    (l3 : yc.toInt ≠ 60 → yc.toInt = 61 → yv.toInt ≠ yw.toInt → yQ (some (.int 0)) yA)
    (l4 : yc.toInt ≠ 60 → yc.toInt = 61 → yv.toInt = yw.toInt → yQ (some (.int 1)) yA)
    (l5 : yc.toInt = 60 → yw.toInt ≤ yv.toInt → yQ (some (.int 0)) yA)
    (l6 : yc.toInt = 60 → yv.toInt < yw.toInt → yQ (some (.int 1)) yA) :
    Pa N 196 51 [(0, .ref 69), (1, .int yv), (2, .int yc)] [.int yw] yA yQ := by
  refine Pa.mp 2 (pc' := 53) (l' := [(3, .int yw), (0, .ref 69), (1, .int yv), (2, .int yc)]) (st' := [.int yc]) (by rfl) ?_
  refine Pa.ic (x := 60) (pc' := 55) (by rfl) (by rfl) (by decide) ?_
  refine Pa.if2 (a := yc.toInt) (b := 60) (t := 66) (by rfl) (by rfl) (rfl) (by decide) (fun h1 => ?_) (fun h2 => ?_)
  · have h1 : yc.toInt ≠ 60 := h1
    refine Pa.mp 1 (pc' := 67) (l' := [(3, .int yw), (0, .ref 69), (1, .int yv), (2, .int yc)]) (st' := [.int yc]) (by rfl) ?_
    refine Pa.ic (x := 61) (pc' := 69) (by rfl) (by rfl) (by decide) ?_
    refine Pa.if2 (a := yc.toInt) (b := 61) (t := 80) (by rfl) (by rfl) (rfl) (by decide) (fun h3 => ?_) (fun h4 => ?_)
    · have h3 : yc.toInt ≠ 61 := h3
      refine Pa.mp 2 (pc' := 82) (l' := [(3, .int yw), (0, .ref 69), (1, .int yv), (2, .int yc)]) (st' := [.int yw, .int yv]) (by rfl) ?_
      refine Pa.if2 (a := yv.toInt) (b := yw.toInt) (t := 89) (by rfl) (by rfl) (rfl) (rfl) (fun h5 => ?_) (fun h6 => ?_)
      · have h5 : yv.toInt ≤ yw.toInt := h5
        refine Pa.ic (x := 0) (pc' := 90) (by rfl) (by rfl) (by decide) ?_
        refine Pa.iret (by rfl) ?_
        exact l1 h1 h3 h5
      · have h6 : yw.toInt < yv.toInt := h6
        refine Pa.ic (x := 1) (pc' := 86) (by rfl) (by rfl) (by decide) ?_
        refine Pa.mp 1 (pc' := 90) (l' := [(3, .int yw), (0, .ref 69), (1, .int yv), (2, .int yc)]) (st' := [.int 1]) (by rfl) ?_
        refine Pa.iret (by rfl) ?_
        exact l2 h1 h3 h6
    · have h4 : yc.toInt = 61 := h4
      refine Pa.mp 2 (pc' := 74) (l' := [(3, .int yw), (0, .ref 69), (1, .int yv), (2, .int yc)]) (st' := [.int yw, .int yv]) (by rfl) ?_
      refine Pa.if2 (a := yv.toInt) (b := yw.toInt) (t := 89) (by rfl) (by rfl) (rfl) (rfl) (fun h7 => ?_) (fun h8 => ?_)
      · have h7 : yv.toInt ≠ yw.toInt := h7
        refine Pa.ic (x := 0) (pc' := 90) (by rfl) (by rfl) (by decide) ?_
        refine Pa.iret (by rfl) ?_
        exact l3 h1 h4 h7
      · have h8 : yv.toInt = yw.toInt := h8
        refine Pa.mp 1 (pc' := 85) (l' := [(3, .int yw), (0, .ref 69), (1, .int yv), (2, .int yc)]) (st' := []) (by rfl) ?_
        refine Pa.ic (x := 1) (pc' := 86) (by rfl) (by rfl) (by decide) ?_
        refine Pa.mp 1 (pc' := 90) (l' := [(3, .int yw), (0, .ref 69), (1, .int yv), (2, .int yc)]) (st' := [.int 1]) (by rfl) ?_
        refine Pa.iret (by rfl) ?_
        exact l4 h1 h4 h8
  · have h2 : yc.toInt = 60 := h2
    refine Pa.mp 2 (pc' := 60) (l' := [(3, .int yw), (0, .ref 69), (1, .int yv), (2, .int yc)]) (st' := [.int yw, .int yv]) (by rfl) ?_
    refine Pa.if2 (a := yv.toInt) (b := yw.toInt) (t := 89) (by rfl) (by rfl) (rfl) (rfl) (fun h9 => ?_) (fun h10 => ?_)
    · have h9 : yw.toInt ≤ yv.toInt := h9
      refine Pa.ic (x := 0) (pc' := 90) (by rfl) (by rfl) (by decide) ?_
      refine Pa.iret (by rfl) ?_
      exact l5 h2 h9
    · have h10 : yv.toInt < yw.toInt := h10
      refine Pa.mp 1 (pc' := 85) (l' := [(3, .int yw), (0, .ref 69), (1, .int yv), (2, .int yc)]) (st' := []) (by rfl) ?_
      refine Pa.ic (x := 1) (pc' := 86) (by rfl) (by rfl) (by decide) ?_
      refine Pa.mp 1 (pc' := 90) (l' := [(3, .int yw), (0, .ref 69), (1, .int yv), (2, .int yc)]) (st' := [.int 1]) (by rfl) ?_
      refine Pa.iret (by rfl) ?_
      exact l6 h2 h10


theorem bm_su0 {N : Nat} {yA : AW} {yQ : Option Value → AW → Prop} 
    (l1 : Pa N 198 0 [(0, .ref 69)] [] yA (fun yu A1 => Pa N 197 4 [(0, .ref 69)] (yu.toList ++ []) A1 yQ)) :
    Pa (N + 1) 197 0 [(0, .ref 69)] [] yA yQ := by
  refine Pa.mp1 0 (pc' := 1) (l' := [(0, .ref 69)]) (st' := [.ref 69]) (by rfl) ?_
  refine Pa.inv (by rfl) (by rfl) (.inl rfl) (by rfl) ?_
  exact l1


theorem bm_su1 {N : Nat} {yA : AW} {yQ : Option Value → AW → Prop} (yv : Int32)
    (l1 : Pa N 197 5 [(0, .ref 69), (1, .int yv), (2, .int 0), (3, .int 0)] [] yA yQ) :
    Pa N 197 4 [(0, .ref 69)] [.int yv] yA yQ := by
  refine Pa.mp 1 (pc' := 5) (l' := [(1, .int yv), (0, .ref 69)]) (st' := []) (by rfl) ?_
  refine Pa.lv (l' := [(0, .ref 69), (1, .int yv), (2, .int 0), (3, .int 0)]) (lvS_c rfl (lvS_c rfl (lvS_nil))) rfl ?_
  exact l1


theorem bm_sul {N : Nat} {yA : AW} {yQ : Option Value → AW → Prop} (yv yx yy : Int32) 
    (l1 : 0 ≤ (yA.1 69 63).toInt → yQ (some (.int yv)) yA)
    (l2 : (yA.1 69 63).toInt < 0 → (mBy yA).toInt = 43 → Pa N 198 0 [(0, .ref 69)] [] (uI yA 69 61 ((yA.1 69 61) + 1)) (fun yu A1 => Pa N 197 59 [(0, .ref 69), (1, .int yv), (2, .int 1), (3, .int yy)] (yu.toList ++ []) A1 yQ))
    (l3 : (yA.1 69 63).toInt < 0 → (mBy yA).toInt ≠ 43 → (mBy yA).toInt ≠ 45 → yQ (some (.int yv)) yA)
    (l4 : (yA.1 69 63).toInt < 0 → (mBy yA).toInt ≠ 43 → (mBy yA).toInt = 45 → Pa N 198 0 [(0, .ref 69)] [] (uI yA 69 61 ((yA.1 69 61) + 1)) (fun yu A1 => Pa N 197 59 [(0, .ref 69), (1, .int yv), (2, .int 0), (3, .int yy)] (yu.toList ++ []) A1 yQ)) :
    Pa (N + 1) 197 5 [(0, .ref 69), (1, .int yv), (2, .int yx), (3, .int yy)] [] yA yQ := by
  refine Pa.mp1 0 (pc' := 6) (l' := [(0, .ref 69), (1, .int yv), (2, .int yx), (3, .int yy)]) (st' := [.ref 69]) (by rfl) ?_
  refine Pa.gfI (v := yA.1 69 63) (by rfl) (by rfl) (.inl rfl) (by rfl) (by rfl) ?_
  refine Pa.if1 (a := (yA.1 69 63).toInt) (t := 77) (by rfl) (by rfl) (rfl) (fun h1 => ?_) (fun h2 => ?_)
  · have h1 : 0 ≤ (yA.1 69 63).toInt := h1
    refine Pa.mp 1 (pc' := 78) (l' := [(0, .ref 69), (1, .int yv), (2, .int yx), (3, .int yy)]) (st' := [.int yv]) (by rfl) ?_
    refine Pa.iret (by rfl) ?_
    exact l1 h1
  · have h2 : (yA.1 69 63).toInt < 0 := h2
    refine Pa.mp 1 (pc' := 13) (l' := [(0, .ref 69), (1, .int yv), (2, .int yx), (3, .int yy)]) (st' := [.ref 69]) (by rfl) ?_
    refine Pa.inv (by rfl) (by rfl) (.inl rfl) (by rfl) ?_
    refine Pa.mono (c_byteAt N yA) (fun yu A1 hu => ?_)
    obtain ⟨rfl, hu⟩ := hu
    rw [hu]
    show Pa N 197 16 [(0, .ref 69), (1, .int yv), (2, .int yx), (3, .int yy)] [.int (mBy yA)] yA _
    refine Pa.ic (x := 43) (pc' := 18) (by rfl) (by rfl) (by decide) ?_
    refine Pa.if2 (a := (mBy yA).toInt) (b := 43) (t := 30) (by rfl) (by rfl) (rfl) (by decide) (fun h3 => ?_) (fun h4 => ?_)
    · have h3 : (mBy yA).toInt = 43 := h3
      refine Pa.mp 1 (pc' := 31) (l' := [(0, .ref 69), (1, .int yv), (2, .int yx), (3, .int yy)]) (st' := [.ref 69]) (by rfl) ?_
      refine Pa.inv (by rfl) (by rfl) (.inl rfl) (by rfl) ?_
      refine Pa.mono (c_byteAt N yA) (fun yu A1 hu => ?_)
      obtain ⟨rfl, hu⟩ := hu
      rw [hu]
      show Pa N 197 34 [(0, .ref 69), (1, .int yv), (2, .int yx), (3, .int yy)] [.int (mBy yA)] yA _
      refine Pa.ic (x := 43) (pc' := 36) (by rfl) (by rfl) (by decide) ?_
      refine Pa.if2 (a := (mBy yA).toInt) (b := 43) (t := 43) (by rfl) (by rfl) (rfl) (by decide) (fun yh => (by exfalso; have h' : (mBy yA).toInt ≠ 43 := yh; omega)) (fun _ => ?_)
      refine Pa.ic (x := 1) (pc' := 40) (by rfl) (by rfl) (by decide) ?_
      refine Pa.mp 4 (pc' := 47) (l' := [(2, .int 1), (0, .ref 69), (1, .int yv), (3, .int yy)]) (st' := [.ref 69, .ref 69]) (by rfl) ?_
      refine Pa.gfI (v := yA.1 69 61) (by rfl) (by rfl) (.inl rfl) (by rfl) (by rfl) ?_
      refine Pa.ic (x := 1) (pc' := 51) (by rfl) (by rfl) (by decide) ?_
      refine Pa.mp 1 (pc' := 52) (l' := [(2, .int 1), (0, .ref 69), (1, .int yv), (3, .int yy)]) (st' := [.int ((yA.1 69 61) + 1), .ref 69]) (by rfl) ?_
      refine Pa.pfI (by rfl) (by rfl) (.inl rfl) (by rfl) ?_
      show Pa N 197 55 [(2, .int 1), (0, .ref 69), (1, .int yv), (3, .int yy)] [] (uI yA 69 61 ((yA.1 69 61) + 1)) _
      refine Pa.mp 1 (pc' := 56) (l' := [(2, .int 1), (0, .ref 69), (1, .int yv), (3, .int yy)]) (st' := [.ref 69]) (by rfl) ?_
      refine Pa.lv (l' := [(0, .ref 69), (1, .int yv), (2, .int 1), (3, .int yy)]) (lvS_c rfl (lvS_c rfl (lvS_c rfl (lvS_c rfl (lvS_nil))))) rfl ?_
      refine Pa.inv (by rfl) (by rfl) (.inl rfl) (by rfl) ?_
      exact l2 h2 h3
    · have h4 : (mBy yA).toInt ≠ 43 := h4
      refine Pa.mp 1 (pc' := 22) (l' := [(0, .ref 69), (1, .int yv), (2, .int yx), (3, .int yy)]) (st' := [.ref 69]) (by rfl) ?_
      refine Pa.inv (by rfl) (by rfl) (.inl rfl) (by rfl) ?_
      refine Pa.mono (c_byteAt N yA) (fun yu A1 hu => ?_)
      obtain ⟨rfl, hu⟩ := hu
      rw [hu]
      show Pa N 197 25 [(0, .ref 69), (1, .int yv), (2, .int yx), (3, .int yy)] [.int (mBy yA)] yA _
      refine Pa.ic (x := 45) (pc' := 27) (by rfl) (by rfl) (by decide) ?_
      refine Pa.if2 (a := (mBy yA).toInt) (b := 45) (t := 77) (by rfl) (by rfl) (rfl) (by decide) (fun h6 => ?_) (fun h7 => ?_)
      · have h6 : (mBy yA).toInt ≠ 45 := h6
        refine Pa.mp 1 (pc' := 78) (l' := [(0, .ref 69), (1, .int yv), (2, .int yx), (3, .int yy)]) (st' := [.int yv]) (by rfl) ?_
        refine Pa.iret (by rfl) ?_
        exact l3 h2 h4 h6
      · have h7 : (mBy yA).toInt = 45 := h7
        refine Pa.mp 1 (pc' := 31) (l' := [(0, .ref 69), (1, .int yv), (2, .int yx), (3, .int yy)]) (st' := [.ref 69]) (by rfl) ?_
        refine Pa.inv (by rfl) (by rfl) (.inl rfl) (by rfl) ?_
        refine Pa.mono (c_byteAt N yA) (fun yu A1 hu => ?_)
        obtain ⟨rfl, hu⟩ := hu
        rw [hu]
        show Pa N 197 34 [(0, .ref 69), (1, .int yv), (2, .int yx), (3, .int yy)] [.int (mBy yA)] yA _
        refine Pa.ic (x := 43) (pc' := 36) (by rfl) (by rfl) (by decide) ?_
        refine Pa.if2 (a := (mBy yA).toInt) (b := 43) (t := 43) (by rfl) (by rfl) (rfl) (by decide) (fun _ => ?_) (fun yh => (by exfalso; have h' : (mBy yA).toInt = 43 := yh; omega))
        refine Pa.ic (x := 0) (pc' := 44) (by rfl) (by rfl) (by decide) ?_
        refine Pa.mp 3 (pc' := 47) (l' := [(2, .int 0), (0, .ref 69), (1, .int yv), (3, .int yy)]) (st' := [.ref 69, .ref 69]) (by rfl) ?_
        refine Pa.gfI (v := yA.1 69 61) (by rfl) (by rfl) (.inl rfl) (by rfl) (by rfl) ?_
        refine Pa.ic (x := 1) (pc' := 51) (by rfl) (by rfl) (by decide) ?_
        refine Pa.mp 1 (pc' := 52) (l' := [(2, .int 0), (0, .ref 69), (1, .int yv), (3, .int yy)]) (st' := [.int ((yA.1 69 61) + 1), .ref 69]) (by rfl) ?_
        refine Pa.pfI (by rfl) (by rfl) (.inl rfl) (by rfl) ?_
        show Pa N 197 55 [(2, .int 0), (0, .ref 69), (1, .int yv), (3, .int yy)] [] (uI yA 69 61 ((yA.1 69 61) + 1)) _
        refine Pa.mp 1 (pc' := 56) (l' := [(2, .int 0), (0, .ref 69), (1, .int yv), (3, .int yy)]) (st' := [.ref 69]) (by rfl) ?_
        refine Pa.lv (l' := [(0, .ref 69), (1, .int yv), (2, .int 0), (3, .int yy)]) (lvS_c rfl (lvS_c rfl (lvS_c rfl (lvS_c rfl (lvS_nil))))) rfl ?_
        refine Pa.inv (by rfl) (by rfl) (.inl rfl) (by rfl) ?_
        exact l4 h2 h4 h7


theorem bm_su2 {N : Nat} {yA : AW} {yQ : Option Value → AW → Prop} (yv yx yy yw : Int32)
    (l1 : yx.toInt = 0 → Pa N 197 5 [(0, .ref 69), (1, .int (yv - yw)), (2, .int yx), (3, .int yw)] [] yA yQ)
    (l2 : yx.toInt ≠ 0 → Pa N 197 5 [(0, .ref 69), (1, .int (yv + yw)), (2, .int yx), (3, .int yw)] [] yA yQ) :
    Pa N 197 59 [(0, .ref 69), (1, .int yv), (2, .int yx), (3, .int yy)] [.int yw] yA yQ := by
  refine Pa.mp 2 (pc' := 61) (l' := [(3, .int yw), (0, .ref 69), (1, .int yv), (2, .int yx)]) (st' := [.int yx]) (by rfl) ?_
  refine Pa.if1 (a := yx.toInt) (t := 70) (by rfl) (by rfl) (rfl) (fun h1 => ?_) (fun h2 => ?_)
  · have h1 : yx.toInt = 0 := h1
    refine Pa.mp 5 (pc' := 5) (l' := [(1, .int (yv - yw)), (3, .int yw), (0, .ref 69), (2, .int yx)]) (st' := []) (by rfl) ?_
    refine Pa.lv (l' := [(0, .ref 69), (1, .int (yv - yw)), (2, .int yx), (3, .int yw)]) (lvS_c rfl (lvS_c rfl (lvS_c rfl (lvS_c rfl (lvS_nil))))) rfl ?_
    exact l1 h1
  · have h2 : yx.toInt ≠ 0 := h2
    refine Pa.mp 6 (pc' := 5) (l' := [(1, .int (yv + yw)), (3, .int yw), (0, .ref 69), (2, .int yx)]) (st' := []) (by rfl) ?_
    refine Pa.lv (l' := [(0, .ref 69), (1, .int (yv + yw)), (2, .int yx), (3, .int yw)]) (lvS_c rfl (lvS_c rfl (lvS_c rfl (lvS_c rfl (lvS_nil))))) rfl ?_
    exact l2 h2


theorem bm_pr0 {N : Nat} {yA : AW} {yQ : Option Value → AW → Prop} 
    (l1 : Pa N 201 0 [(0, .ref 69)] [] yA (fun yu A1 => Pa N 198 4 [(0, .ref 69)] (yu.toList ++ []) A1 yQ)) :
    Pa (N + 1) 198 0 [(0, .ref 69)] [] yA yQ := by
  refine Pa.mp1 0 (pc' := 1) (l' := [(0, .ref 69)]) (st' := [.ref 69]) (by rfl) ?_
  refine Pa.inv (by rfl) (by rfl) (.inl rfl) (by rfl) ?_
  exact l1


theorem bm_pr1 {N : Nat} {yA : AW} {yQ : Option Value → AW → Prop} (yv : Int32)
    (l1 : Pa N 198 10 [(0, .ref 69), (1, .int yv), (2, .int (mBy yA)), (3, .int 0)] [] yA yQ) :
    Pa N 198 4 [(0, .ref 69)] [.int yv] yA yQ := by
  refine Pa.mp 2 (pc' := 6) (l' := [(1, .int yv), (0, .ref 69)]) (st' := [.ref 69]) (by rfl) ?_
  refine Pa.inv (by rfl) (by rfl) (.inl rfl) (by rfl) ?_
  refine Pa.mono (c_byteAt N yA) (fun yu A1 hu => ?_)
  obtain ⟨rfl, hu⟩ := hu
  rw [hu]
  show Pa N 198 9 [(1, .int yv), (0, .ref 69)] [.int (mBy yA)] yA _
  refine Pa.mp 1 (pc' := 10) (l' := [(2, .int (mBy yA)), (1, .int yv), (0, .ref 69)]) (st' := []) (by rfl) ?_
  refine Pa.lv (l' := [(0, .ref 69), (1, .int yv), (2, .int (mBy yA)), (3, .int 0)]) (lvS_c rfl (lvS_c rfl (lvS_c rfl (lvS_nil)))) rfl ?_
  exact l1


theorem bm_prl {N : Nat} {yA : AW} {yQ : Option Value → AW → Prop} (yv yc yy : Int32) 
    (l1 : 0 ≤ (yA.1 69 63).toInt → yQ (some (.int yv)) yA)
    (l2 : (yA.1 69 63).toInt < 0 → yc.toInt = 42 → Pa N 201 0 [(0, .ref 69)] [] (uI yA 69 61 ((yA.1 69 61) + 1)) (fun yu A1 => Pa N 198 49 [(0, .ref 69), (1, .int yv), (2, .int yc), (3, .int yy)] (yu.toList ++ []) A1 yQ))
    (l3 : (yA.1 69 63).toInt < 0 → yc.toInt ≠ 42 → yc.toInt = 47 → Pa N 201 0 [(0, .ref 69)] [] (uI yA 69 61 ((yA.1 69 61) + 1)) (fun yu A1 => Pa N 198 49 [(0, .ref 69), (1, .int yv), (2, .int yc), (3, .int yy)] (yu.toList ++ []) A1 yQ))
    (l4 : (yA.1 69 63).toInt < 0 → yc.toInt ≠ 42 → yc.toInt ≠ 47 → yc.toInt ≠ 37 → yQ (some (.int yv)) yA)
    (l5 : (yA.1 69 63).toInt < 0 → yc.toInt ≠ 42 → yc.toInt ≠ 47 → yc.toInt = 37 → Pa N 201 0 [(0, .ref 69)] [] (uI yA 69 61 ((yA.1 69 61) + 1)) (fun yu A1 => Pa N 198 49 [(0, .ref 69), (1, .int yv), (2, .int yc), (3, .int yy)] (yu.toList ++ []) A1 yQ)) :
    Pa (N + 1) 198 10 [(0, .ref 69), (1, .int yv), (2, .int yc), (3, .int yy)] [] yA yQ := by
  refine Pa.mp1 0 (pc' := 11) (l' := [(0, .ref 69), (1, .int yv), (2, .int yc), (3, .int yy)]) (st' := [.ref 69]) (by rfl) ?_
  refine Pa.gfI (v := yA.1 69 63) (by rfl) (by rfl) (.inl rfl) (by rfl) (by rfl) ?_
  refine Pa.if1 (a := (yA.1 69 63).toInt) (t := 94) (by rfl) (by rfl) (rfl) (fun h1 => ?_) (fun h2 => ?_)
  · have h1 : 0 ≤ (yA.1 69 63).toInt := h1
    refine Pa.mp 1 (pc' := 95) (l' := [(0, .ref 69), (1, .int yv), (2, .int yc), (3, .int yy)]) (st' := [.int yv]) (by rfl) ?_
    refine Pa.iret (by rfl) ?_
    exact l1 h1
  · have h2 : (yA.1 69 63).toInt < 0 := h2
    refine Pa.mp 1 (pc' := 18) (l' := [(0, .ref 69), (1, .int yv), (2, .int yc), (3, .int yy)]) (st' := [.int yc]) (by rfl) ?_
    refine Pa.ic (x := 42) (pc' := 20) (by rfl) (by rfl) (by decide) ?_
    refine Pa.if2 (a := yc.toInt) (b := 42) (t := 35) (by rfl) (by rfl) (rfl) (by decide) (fun h3 => ?_) (fun h4 => ?_)
    · have h3 : yc.toInt = 42 := h3
      refine Pa.mp 2 (pc' := 37) (l' := [(0, .ref 69), (1, .int yv), (2, .int yc), (3, .int yy)]) (st' := [.ref 69, .ref 69]) (by rfl) ?_
      refine Pa.gfI (v := yA.1 69 61) (by rfl) (by rfl) (.inl rfl) (by rfl) (by rfl) ?_
      refine Pa.ic (x := 1) (pc' := 41) (by rfl) (by rfl) (by decide) ?_
      refine Pa.mp 1 (pc' := 42) (l' := [(0, .ref 69), (1, .int yv), (2, .int yc), (3, .int yy)]) (st' := [.int ((yA.1 69 61) + 1), .ref 69]) (by rfl) ?_
      refine Pa.pfI (by rfl) (by rfl) (.inl rfl) (by rfl) ?_
      show Pa N 198 45 [(0, .ref 69), (1, .int yv), (2, .int yc), (3, .int yy)] [] (uI yA 69 61 ((yA.1 69 61) + 1)) _
      refine Pa.mp 1 (pc' := 46) (l' := [(0, .ref 69), (1, .int yv), (2, .int yc), (3, .int yy)]) (st' := [.ref 69]) (by rfl) ?_
      refine Pa.inv (by rfl) (by rfl) (.inl rfl) (by rfl) ?_
      exact l2 h2 h3
    · have h4 : yc.toInt ≠ 42 := h4
      refine Pa.mp 1 (pc' := 24) (l' := [(0, .ref 69), (1, .int yv), (2, .int yc), (3, .int yy)]) (st' := [.int yc]) (by rfl) ?_
      refine Pa.ic (x := 47) (pc' := 26) (by rfl) (by rfl) (by decide) ?_
      refine Pa.if2 (a := yc.toInt) (b := 47) (t := 35) (by rfl) (by rfl) (rfl) (by decide) (fun h5 => ?_) (fun h6 => ?_)
      · have h5 : yc.toInt = 47 := h5
        refine Pa.mp 2 (pc' := 37) (l' := [(0, .ref 69), (1, .int yv), (2, .int yc), (3, .int yy)]) (st' := [.ref 69, .ref 69]) (by rfl) ?_
        refine Pa.gfI (v := yA.1 69 61) (by rfl) (by rfl) (.inl rfl) (by rfl) (by rfl) ?_
        refine Pa.ic (x := 1) (pc' := 41) (by rfl) (by rfl) (by decide) ?_
        refine Pa.mp 1 (pc' := 42) (l' := [(0, .ref 69), (1, .int yv), (2, .int yc), (3, .int yy)]) (st' := [.int ((yA.1 69 61) + 1), .ref 69]) (by rfl) ?_
        refine Pa.pfI (by rfl) (by rfl) (.inl rfl) (by rfl) ?_
        show Pa N 198 45 [(0, .ref 69), (1, .int yv), (2, .int yc), (3, .int yy)] [] (uI yA 69 61 ((yA.1 69 61) + 1)) _
        refine Pa.mp 1 (pc' := 46) (l' := [(0, .ref 69), (1, .int yv), (2, .int yc), (3, .int yy)]) (st' := [.ref 69]) (by rfl) ?_
        refine Pa.inv (by rfl) (by rfl) (.inl rfl) (by rfl) ?_
        exact l3 h2 h4 h5
      · have h6 : yc.toInt ≠ 47 := h6
        refine Pa.mp 1 (pc' := 30) (l' := [(0, .ref 69), (1, .int yv), (2, .int yc), (3, .int yy)]) (st' := [.int yc]) (by rfl) ?_
        refine Pa.ic (x := 37) (pc' := 32) (by rfl) (by rfl) (by decide) ?_
        refine Pa.if2 (a := yc.toInt) (b := 37) (t := 94) (by rfl) (by rfl) (rfl) (by decide) (fun h7 => ?_) (fun h8 => ?_)
        · have h7 : yc.toInt ≠ 37 := h7
          refine Pa.mp 1 (pc' := 95) (l' := [(0, .ref 69), (1, .int yv), (2, .int yc), (3, .int yy)]) (st' := [.int yv]) (by rfl) ?_
          refine Pa.iret (by rfl) ?_
          exact l4 h2 h4 h6 h7
        · have h8 : yc.toInt = 37 := h8
          refine Pa.mp 2 (pc' := 37) (l' := [(0, .ref 69), (1, .int yv), (2, .int yc), (3, .int yy)]) (st' := [.ref 69, .ref 69]) (by rfl) ?_
          refine Pa.gfI (v := yA.1 69 61) (by rfl) (by rfl) (.inl rfl) (by rfl) (by rfl) ?_
          refine Pa.ic (x := 1) (pc' := 41) (by rfl) (by rfl) (by decide) ?_
          refine Pa.mp 1 (pc' := 42) (l' := [(0, .ref 69), (1, .int yv), (2, .int yc), (3, .int yy)]) (st' := [.int ((yA.1 69 61) + 1), .ref 69]) (by rfl) ?_
          refine Pa.pfI (by rfl) (by rfl) (.inl rfl) (by rfl) ?_
          show Pa N 198 45 [(0, .ref 69), (1, .int yv), (2, .int yc), (3, .int yy)] [] (uI yA 69 61 ((yA.1 69 61) + 1)) _
          refine Pa.mp 1 (pc' := 46) (l' := [(0, .ref 69), (1, .int yv), (2, .int yc), (3, .int yy)]) (st' := [.ref 69]) (by rfl) ?_
          refine Pa.inv (by rfl) (by rfl) (.inl rfl) (by rfl) ?_
          exact l5 h2 h4 h6 h8


theorem bm_pr2 {N : Nat} {yA : AW} {yQ : Option Value → AW → Prop} (yv yc yy yw : Int32)
    (l1 : yc.toInt ≠ 42 → yw.toInt ≠ 0 → yc.toInt ≠ 47 → Pa N 198 10 [(0, .ref 69), (1, .int (yv - yv / yw * yw)), (2, .int (mBy yA)), (3, .int yw)] [] yA yQ)
    (l2 : yc.toInt ≠ 42 → yw.toInt ≠ 0 → yc.toInt = 47 → Pa N 198 10 [(0, .ref 69), (1, .int (yv / yw)), (2, .int (mBy yA)), (3, .int yw)] [] yA yQ)
    (l3 : yc.toInt ≠ 42 → yw.toInt = 0 → Pa N 198 10 [(0, .ref 69), (1, .int 0), (2, .int (mBy yA)), (3, .int yw)] [] yA yQ)
    (l4 : yc.toInt = 42 → Pa N 198 10 [(0, .ref 69), (1, .int (yv * yw)), (2, .int (mBy yA)), (3, .int yw)] [] yA yQ) :
    Pa N 198 49 [(0, .ref 69), (1, .int yv), (2, .int yc), (3, .int yy)] [.int yw] yA yQ := by
  refine Pa.mp 2 (pc' := 51) (l' := [(3, .int yw), (0, .ref 69), (1, .int yv), (2, .int yc)]) (st' := [.int yc]) (by rfl) ?_
  refine Pa.ic (x := 42) (pc' := 53) (by rfl) (by rfl) (by decide) ?_
  refine Pa.if2 (a := yc.toInt) (b := 42) (t := 62) (by rfl) (by rfl) (rfl) (by decide) (fun h1 => ?_) (fun h2 => ?_)
  · have h1 : yc.toInt ≠ 42 := h1
    refine Pa.mp 1 (pc' := 63) (l' := [(3, .int yw), (0, .ref 69), (1, .int yv), (2, .int yc)]) (st' := [.int yw]) (by rfl) ?_
    refine Pa.if1 (a := yw.toInt) (t := 70) (by rfl) (by rfl) (rfl) (fun h3 => ?_) (fun h4 => ?_)
    · have h3 : yw.toInt ≠ 0 := h3
      refine Pa.mp 1 (pc' := 71) (l' := [(3, .int yw), (0, .ref 69), (1, .int yv), (2, .int yc)]) (st' := [.int yc]) (by rfl) ?_
      refine Pa.ic (x := 47) (pc' := 73) (by rfl) (by rfl) (by decide) ?_
      refine Pa.if2 (a := yc.toInt) (b := 47) (t := 82) (by rfl) (by rfl) (rfl) (by decide) (fun h5 => ?_) (fun h6 => ?_)
      · have h5 : yc.toInt ≠ 47 := h5
        refine Pa.mp 2 (pc' := 84) (l' := [(3, .int yw), (0, .ref 69), (1, .int yv), (2, .int yc)]) (st' := [.int yw, .int yv]) (by rfl) ?_
        refine Pa.irem (by rfl) ?_
        refine Pa.mp 2 (pc' := 87) (l' := [(1, .int (yv - yv / yw * yw)), (3, .int yw), (0, .ref 69), (2, .int yc)]) (st' := [.ref 69]) (by rfl) ?_
        refine Pa.inv (by rfl) (by rfl) (.inl rfl) (by rfl) ?_
        refine Pa.mono (c_byteAt N yA) (fun yu A1 hu => ?_)
        obtain ⟨rfl, hu⟩ := hu
        rw [hu]
        show Pa N 198 90 [(1, .int (yv - yv / yw * yw)), (3, .int yw), (0, .ref 69), (2, .int yc)] [.int (mBy yA)] yA _
        refine Pa.mp 2 (pc' := 10) (l' := [(2, .int (mBy yA)), (1, .int (yv - yv / yw * yw)), (3, .int yw), (0, .ref 69)]) (st' := []) (by rfl) ?_
        refine Pa.lv (l' := [(0, .ref 69), (1, .int (yv - yv / yw * yw)), (2, .int (mBy yA)), (3, .int yw)]) (lvS_c rfl (lvS_c rfl (lvS_c rfl (lvS_c rfl (lvS_nil))))) rfl ?_
        exact l1 h1 h3 h5
      · have h6 : yc.toInt = 47 := h6
        refine Pa.mp 2 (pc' := 78) (l' := [(3, .int yw), (0, .ref 69), (1, .int yv), (2, .int yc)]) (st' := [.int yw, .int yv]) (by rfl) ?_
        refine Pa.idiv (by rfl) ?_
        refine Pa.mp 3 (pc' := 87) (l' := [(1, .int (yv / yw)), (3, .int yw), (0, .ref 69), (2, .int yc)]) (st' := [.ref 69]) (by rfl) ?_
        refine Pa.inv (by rfl) (by rfl) (.inl rfl) (by rfl) ?_
        refine Pa.mono (c_byteAt N yA) (fun yu A1 hu => ?_)
        obtain ⟨rfl, hu⟩ := hu
        rw [hu]
        show Pa N 198 90 [(1, .int (yv / yw)), (3, .int yw), (0, .ref 69), (2, .int yc)] [.int (mBy yA)] yA _
        refine Pa.mp 2 (pc' := 10) (l' := [(2, .int (mBy yA)), (1, .int (yv / yw)), (3, .int yw), (0, .ref 69)]) (st' := []) (by rfl) ?_
        refine Pa.lv (l' := [(0, .ref 69), (1, .int (yv / yw)), (2, .int (mBy yA)), (3, .int yw)]) (lvS_c rfl (lvS_c rfl (lvS_c rfl (lvS_c rfl (lvS_nil))))) rfl ?_
        exact l2 h1 h3 h6
    · have h4 : yw.toInt = 0 := h4
      refine Pa.ic (x := 0) (pc' := 67) (by rfl) (by rfl) (by decide) ?_
      refine Pa.mp 3 (pc' := 87) (l' := [(1, .int 0), (3, .int yw), (0, .ref 69), (2, .int yc)]) (st' := [.ref 69]) (by rfl) ?_
      refine Pa.inv (by rfl) (by rfl) (.inl rfl) (by rfl) ?_
      refine Pa.mono (c_byteAt N yA) (fun yu A1 hu => ?_)
      obtain ⟨rfl, hu⟩ := hu
      rw [hu]
      show Pa N 198 90 [(1, .int 0), (3, .int yw), (0, .ref 69), (2, .int yc)] [.int (mBy yA)] yA _
      refine Pa.mp 2 (pc' := 10) (l' := [(2, .int (mBy yA)), (1, .int 0), (3, .int yw), (0, .ref 69)]) (st' := []) (by rfl) ?_
      refine Pa.lv (l' := [(0, .ref 69), (1, .int 0), (2, .int (mBy yA)), (3, .int yw)]) (lvS_c rfl (lvS_c rfl (lvS_c rfl (lvS_c rfl (lvS_nil))))) rfl ?_
      exact l3 h1 h4
  · have h2 : yc.toInt = 42 := h2
    refine Pa.mp 6 (pc' := 87) (l' := [(1, .int (yv * yw)), (3, .int yw), (0, .ref 69), (2, .int yc)]) (st' := [.ref 69]) (by rfl) ?_
    refine Pa.inv (by rfl) (by rfl) (.inl rfl) (by rfl) ?_
    refine Pa.mono (c_byteAt N yA) (fun yu A1 hu => ?_)
    obtain ⟨rfl, hu⟩ := hu
    rw [hu]
    show Pa N 198 90 [(1, .int (yv * yw)), (3, .int yw), (0, .ref 69), (2, .int yc)] [.int (mBy yA)] yA _
    refine Pa.mp 2 (pc' := 10) (l' := [(2, .int (mBy yA)), (1, .int (yv * yw)), (3, .int yw), (0, .ref 69)]) (st' := []) (by rfl) ?_
    refine Pa.lv (l' := [(0, .ref 69), (1, .int (yv * yw)), (2, .int (mBy yA)), (3, .int yw)]) (lvS_c rfl (lvS_c rfl (lvS_c rfl (lvS_c rfl (lvS_nil))))) rfl ?_
    exact l4 h2


theorem bm_nd0 {N : Nat} {yA : AW} {yQ : Option Value → AW → Prop} (yk : Int32) 
    (l1 : yk.toInt ≠ 3 → 0 ≤ yk.toInt → yk.toInt < 10 → yQ (some (.int (yA.1 117 yk.toInt.toNat))) yA)
    (l2 : yk.toInt = 3 → (yA.1 69 66).toInt < 0 → 0 ≤ yk.toInt → yk.toInt < 10 → yQ (some (.int (yA.1 117 yk.toInt.toNat))) yA)
    (l3 : yk.toInt = 3 → 0 ≤ (yA.1 69 66).toInt → Pa N 213 0 [(0, .ref 69), (1, .int (yA.1 69 66)), (2, .int (yA.1 69 67))] [] yA (fun yu A1 => Pa N 200 29 [(0, .ref 69), (1, .int yk)] (yu.toList ++ [.int 3, .ref 117]) A1 yQ)) :
    Pa N 200 0 [(0, .ref 69), (1, .int yk)] [] yA yQ := by
  refine Pa.mp 1 (pc' := 1) (l' := [(0, .ref 69), (1, .int yk)]) (st' := [.int yk]) (by rfl) ?_
  refine Pa.ic (x := 3) (pc' := 2) (by rfl) (by rfl) (by decide) ?_
  refine Pa.if2 (a := yk.toInt) (b := 3) (t := 43) (by rfl) (by rfl) (rfl) (by decide) (fun h1 => ?_) (fun h2 => ?_)
  · have h1 : yk.toInt ≠ 3 := h1
    refine Pa.mp 1 (pc' := 44) (l' := [(0, .ref 69), (1, .int yk)]) (st' := [.ref 69]) (by rfl) ?_
    refine Pa.gfR (by rfl) (by rfl) (.inl rfl) (by rfl) ?_
    show Pa N 200 47 [(0, .ref 69), (1, .int yk)] [.ref 117] yA _
    refine Pa.mp 1 (pc' := 48) (l' := [(0, .ref 69), (1, .int yk)]) (st' := [.int yk, .ref 117]) (by rfl) ?_
    refine Pa.alds (v := yA.1 117 yk.toInt.toNat) (by rfl) (by rfl) (by rfl) (fun h3 h4 => ?_)
    have h3 : 0 ≤ yk.toInt := h3
    have h4 : yk.toInt < 10 := h4
    refine Pa.iret (by rfl) ?_
    exact l1 h1 h3 h4
  · have h2 : yk.toInt = 3 := h2
    refine Pa.mp 1 (pc' := 6) (l' := [(0, .ref 69), (1, .int yk)]) (st' := [.ref 69]) (by rfl) ?_
    refine Pa.gfI (v := yA.1 69 66) (by rfl) (by rfl) (.inl rfl) (by rfl) (by rfl) ?_
    refine Pa.if1 (a := (yA.1 69 66).toInt) (t := 43) (by rfl) (by rfl) (rfl) (fun h5 => ?_) (fun h6 => ?_)
    · have h5 : (yA.1 69 66).toInt < 0 := h5
      refine Pa.mp 1 (pc' := 44) (l' := [(0, .ref 69), (1, .int yk)]) (st' := [.ref 69]) (by rfl) ?_
      refine Pa.gfR (by rfl) (by rfl) (.inl rfl) (by rfl) ?_
      show Pa N 200 47 [(0, .ref 69), (1, .int yk)] [.ref 117] yA _
      refine Pa.mp 1 (pc' := 48) (l' := [(0, .ref 69), (1, .int yk)]) (st' := [.int yk, .ref 117]) (by rfl) ?_
      refine Pa.alds (v := yA.1 117 yk.toInt.toNat) (by rfl) (by rfl) (by rfl) (fun h7 h8 => ?_)
      have h7 : 0 ≤ yk.toInt := h7
      have h8 : yk.toInt < 10 := h8
      refine Pa.iret (by rfl) ?_
      exact l2 h2 h5 h7 h8
    · have h6 : 0 ≤ (yA.1 69 66).toInt := h6
      refine Pa.mp 1 (pc' := 13) (l' := [(0, .ref 69), (1, .int yk)]) (st' := [.ref 69]) (by rfl) ?_
      refine Pa.gfR (by rfl) (by rfl) (.inl rfl) (by rfl) ?_
      show Pa N 200 16 [(0, .ref 69), (1, .int yk)] [.ref 117] yA _
      refine Pa.ic (x := 3) (pc' := 17) (by rfl) (by rfl) (by decide) ?_
      refine Pa.mp 2 (pc' := 19) (l' := [(0, .ref 69), (1, .int yk)]) (st' := [.ref 69, .ref 69, .int 3, .ref 117]) (by rfl) ?_
      refine Pa.gfI (v := yA.1 69 66) (by rfl) (by rfl) (.inl rfl) (by rfl) (by rfl) ?_
      refine Pa.mp 1 (pc' := 23) (l' := [(0, .ref 69), (1, .int yk)]) (st' := [.ref 69, .int (yA.1 69 66), .ref 69, .int 3, .ref 117]) (by rfl) ?_
      refine Pa.gfI (v := yA.1 69 67) (by rfl) (by rfl) (.inl rfl) (by rfl) (by rfl) ?_
      refine Pa.inv (by rfl) (by rfl) (.inl rfl) (by rfl) ?_
      exact l3 h2 h6


theorem bm_nd1 {N : Nat} {yA : AW} {yQ : Option Value → AW → Prop} (yk yr : Int32) 
    (l1 : yr.toInt = 0 → 0 ≤ yk.toInt → yk.toInt < 10 → yQ (some (.int ((uI yA 117 3 0).1 117 yk.toInt.toNat))) (uI (uI yA 117 3 0) 69 66 (-1)))
    (l2 : yr.toInt ≠ 0 → 0 ≤ yk.toInt → yk.toInt < 10 → yQ (some (.int ((uI yA 117 3 1).1 117 yk.toInt.toNat))) (uI (uI yA 117 3 1) 69 66 (-1))) :
    Pa N 200 29 [(0, .ref 69), (1, .int yk)] [.int yr, .int 3, .ref 117] yA yQ := by
  refine Pa.if1 (a := yr.toInt) (t := 36) (by rfl) (by rfl) (rfl) (fun h1 => ?_) (fun h2 => ?_)
  · have h1 : yr.toInt = 0 := h1
    refine Pa.ic (x := 0) (pc' := 37) (by rfl) (by rfl) (by decide) ?_
    refine Pa.asts (j' := 3) (by rfl) (by rfl) (by rfl) (fun h3 h4 => ?_)
    show Pa N 200 38 [(0, .ref 69), (1, .int yk)] [] (uI yA 117 3 0) _
    refine Pa.mp 1 (pc' := 39) (l' := [(0, .ref 69), (1, .int yk)]) (st' := [.ref 69]) (by rfl) ?_
    refine Pa.ic (x := (-1)) (pc' := 40) (by rfl) (by rfl) (by decide) ?_
    refine Pa.pfI (by rfl) (by rfl) (.inl rfl) (by rfl) ?_
    show Pa N 200 43 [(0, .ref 69), (1, .int yk)] [] (uI (uI yA 117 3 0) 69 66 (-1)) _
    refine Pa.mp 1 (pc' := 44) (l' := [(0, .ref 69), (1, .int yk)]) (st' := [.ref 69]) (by rfl) ?_
    refine Pa.gfR (by rfl) (by rfl) (.inl rfl) (by rfl) ?_
    show Pa N 200 47 [(0, .ref 69), (1, .int yk)] [.ref 117] (uI (uI yA 117 3 0) 69 66 (-1)) _
    refine Pa.mp 1 (pc' := 48) (l' := [(0, .ref 69), (1, .int yk)]) (st' := [.int yk, .ref 117]) (by rfl) ?_
    refine Pa.alds (v := (uI yA 117 3 0).1 117 yk.toInt.toNat) (by rfl) (by rfl) (by show (uI (uI yA 117 3 0) 69 66 (-1)).1 117 yk.toInt.toNat = (uI yA 117 3 0).1 117 yk.toInt.toNat; rw [uI_c (by decide)]) (fun h5 h6 => ?_)
    have h5 : 0 ≤ yk.toInt := h5
    have h6 : yk.toInt < 10 := h6
    refine Pa.iret (by rfl) ?_
    exact l1 h1 h5 h6
  · have h2 : yr.toInt ≠ 0 := h2
    refine Pa.ic (x := 1) (pc' := 33) (by rfl) (by rfl) (by decide) ?_
    refine Pa.mp 1 (pc' := 37) (l' := [(0, .ref 69), (1, .int yk)]) (st' := [.int 1, .int 3, .ref 117]) (by rfl) ?_
    refine Pa.asts (j' := 3) (by rfl) (by rfl) (by rfl) (fun h7 h8 => ?_)
    show Pa N 200 38 [(0, .ref 69), (1, .int yk)] [] (uI yA 117 3 1) _
    refine Pa.mp 1 (pc' := 39) (l' := [(0, .ref 69), (1, .int yk)]) (st' := [.ref 69]) (by rfl) ?_
    refine Pa.ic (x := (-1)) (pc' := 40) (by rfl) (by rfl) (by decide) ?_
    refine Pa.pfI (by rfl) (by rfl) (.inl rfl) (by rfl) ?_
    show Pa N 200 43 [(0, .ref 69), (1, .int yk)] [] (uI (uI yA 117 3 1) 69 66 (-1)) _
    refine Pa.mp 1 (pc' := 44) (l' := [(0, .ref 69), (1, .int yk)]) (st' := [.ref 69]) (by rfl) ?_
    refine Pa.gfR (by rfl) (by rfl) (.inl rfl) (by rfl) ?_
    show Pa N 200 47 [(0, .ref 69), (1, .int yk)] [.ref 117] (uI (uI yA 117 3 1) 69 66 (-1)) _
    refine Pa.mp 1 (pc' := 48) (l' := [(0, .ref 69), (1, .int yk)]) (st' := [.int yk, .ref 117]) (by rfl) ?_
    refine Pa.alds (v := (uI yA 117 3 1).1 117 yk.toInt.toNat) (by rfl) (by rfl) (by show (uI (uI yA 117 3 1) 69 66 (-1)).1 117 yk.toInt.toNat = (uI yA 117 3 1).1 117 yk.toInt.toNat; rw [uI_c (by decide)]) (fun h9 h10 => ?_)
    have h9 : 0 ≤ yk.toInt := h9
    have h10 : yk.toInt < 10 := h10
    refine Pa.iret (by rfl) ?_
    exact l2 h2 h9 h10


theorem bm_on0 {N : Nat} {yA : AW} {yQ : Option Value → AW → Prop} 
    (l1 : (yA.1 69 63).toInt < 0 → (mBy yA).toInt = 33 → (yA.1 69 64).toInt ≠ 8 → Pa N 201 0 [(0, .ref 69)] [] (uI (uI yA 69 64 ((yA.1 69 64) + 1)) 69 61 ((yA.1 69 61) + 1)) (fun yu A1 => Pa N 201 77 [(0, .ref 69), (1, .int (mBy yA))] (yu.toList ++ []) A1 yQ))
    (l2 : (yA.1 69 63).toInt < 0 → (mBy yA).toInt = 33 → (yA.1 69 64).toInt = 8 → yQ (some (.int 0)) (uI yA 69 63 (yA.1 69 61)))
    (l3 : (yA.1 69 63).toInt < 0 → (mBy yA).toInt ≠ 33 → (mBy yA).toInt ≠ 40 → (nmM (mBy yA)).toInt < 0 → Pa N 201 158 [(0, .ref 69), (1, .int (mBy yA)), (2, .int (nmM (mBy yA))), (3, .int 0), (4, .int 0)] [] yA yQ)
    (l4 : (yA.1 69 63).toInt < 0 → (mBy yA).toInt ≠ 33 → (mBy yA).toInt ≠ 40 → 0 ≤ (nmM (mBy yA)).toInt → Pa N 200 0 [(0, .ref 69), (1, .int (nmM (mBy yA)))] [] (uI yA 69 61 ((yA.1 69 61) + 1)) (fun yu A1 => Pa N 201 152 [(0, .ref 69), (1, .int (mBy yA)), (2, .int (nmM (mBy yA)))] (yu.toList ++ []) A1 yQ))
    (l5 : (yA.1 69 63).toInt < 0 → (mBy yA).toInt ≠ 33 → (mBy yA).toInt = 40 → (yA.1 69 64).toInt ≠ 8 → Pa N 194 0 [(0, .ref 69)] [] (uI (uI yA 69 64 ((yA.1 69 64) + 1)) 69 61 ((yA.1 69 61) + 1)) (fun yu A1 => Pa N 201 70 [(0, .ref 69), (1, .int (mBy yA))] (yu.toList ++ []) A1 yQ))
    (l6 : (yA.1 69 63).toInt < 0 → (mBy yA).toInt ≠ 33 → (mBy yA).toInt = 40 → (yA.1 69 64).toInt = 8 → yQ (some (.int 0)) (uI yA 69 63 (yA.1 69 61)))
    (l7 : 0 ≤ (yA.1 69 63).toInt → yQ (some (.int 0)) yA) :
    Pa (N + 1) 201 0 [(0, .ref 69)] [] yA yQ := by
  refine Pa.mp1 0 (pc' := 1) (l' := [(0, .ref 69)]) (st' := [.ref 69]) (by rfl) ?_
  refine Pa.gfI (v := yA.1 69 63) (by rfl) (by rfl) (.inl rfl) (by rfl) (by rfl) ?_
  refine Pa.if1 (a := (yA.1 69 63).toInt) (t := 9) (by rfl) (by rfl) (rfl) (fun h1 => ?_) (fun h2 => ?_)
  · have h1 : (yA.1 69 63).toInt < 0 := h1
    refine Pa.mp 1 (pc' := 10) (l' := [(0, .ref 69)]) (st' := [.ref 69]) (by rfl) ?_
    refine Pa.inv (by rfl) (by rfl) (.inl rfl) (by rfl) ?_
    refine Pa.mono (c_byteAt N yA) (fun yu A1 hu => ?_)
    obtain ⟨rfl, hu⟩ := hu
    rw [hu]
    show Pa N 201 13 [(0, .ref 69)] [.int (mBy yA)] yA _
    refine Pa.mp 2 (pc' := 15) (l' := [(1, .int (mBy yA)), (0, .ref 69)]) (st' := [.int (mBy yA)]) (by rfl) ?_
    refine Pa.ic (x := 33) (pc' := 17) (by rfl) (by rfl) (by decide) ?_
    refine Pa.if2 (a := (mBy yA).toInt) (b := 33) (t := 26) (by rfl) (by rfl) (rfl) (by decide) (fun h3 => ?_) (fun h4 => ?_)
    · have h3 : (mBy yA).toInt = 33 := h3
      refine Pa.mp 1 (pc' := 27) (l' := [(1, .int (mBy yA)), (0, .ref 69)]) (st' := [.ref 69]) (by rfl) ?_
      refine Pa.gfI (v := yA.1 69 64) (by rfl) (by rfl) (.inl rfl) (by rfl) (by rfl) ?_
      refine Pa.ic (x := 8) (pc' := 32) (by rfl) (by rfl) (by decide) ?_
      refine Pa.if2 (a := (yA.1 69 64).toInt) (b := 8) (t := 40) (by rfl) (by rfl) (rfl) (by decide) (fun h5 => ?_) (fun h6 => ?_)
      · have h5 : (yA.1 69 64).toInt ≠ 8 := h5
        refine Pa.mp 2 (pc' := 42) (l' := [(1, .int (mBy yA)), (0, .ref 69)]) (st' := [.ref 69, .ref 69]) (by rfl) ?_
        refine Pa.gfI (v := yA.1 69 64) (by rfl) (by rfl) (.inl rfl) (by rfl) (by rfl) ?_
        refine Pa.ic (x := 1) (pc' := 46) (by rfl) (by rfl) (by decide) ?_
        refine Pa.mp 1 (pc' := 47) (l' := [(1, .int (mBy yA)), (0, .ref 69)]) (st' := [.int ((yA.1 69 64) + 1), .ref 69]) (by rfl) ?_
        refine Pa.pfI (by rfl) (by rfl) (.inl rfl) (by rfl) ?_
        show Pa N 201 50 [(1, .int (mBy yA)), (0, .ref 69)] [] (uI yA 69 64 ((yA.1 69 64) + 1)) _
        refine Pa.mp 2 (pc' := 52) (l' := [(1, .int (mBy yA)), (0, .ref 69)]) (st' := [.ref 69, .ref 69]) (by rfl) ?_
        refine Pa.gfI (v := yA.1 69 61) (by rfl) (by rfl) (.inl rfl) (by rfl) (by show (uI yA 69 64 ((yA.1 69 64) + 1)).1 69 61 = yA.1 69 61; rw [uI_k (by decide)]) ?_
        refine Pa.ic (x := 1) (pc' := 56) (by rfl) (by rfl) (by decide) ?_
        refine Pa.mp 1 (pc' := 57) (l' := [(1, .int (mBy yA)), (0, .ref 69)]) (st' := [.int ((yA.1 69 61) + 1), .ref 69]) (by rfl) ?_
        refine Pa.pfI (by rfl) (by rfl) (.inl rfl) (by rfl) ?_
        show Pa N 201 60 [(1, .int (mBy yA)), (0, .ref 69)] [] (uI (uI yA 69 64 ((yA.1 69 64) + 1)) 69 61 ((yA.1 69 61) + 1)) _
        refine Pa.mp 1 (pc' := 61) (l' := [(1, .int (mBy yA)), (0, .ref 69)]) (st' := [.int (mBy yA)]) (by rfl) ?_
        refine Pa.ic (x := 40) (pc' := 63) (by rfl) (by rfl) (by decide) ?_
        refine Pa.if2 (a := (mBy yA).toInt) (b := 40) (t := 73) (by rfl) (by rfl) (rfl) (by decide) (fun _ => ?_) (fun yh => (by exfalso; have h' : (mBy yA).toInt = 40 := yh; omega))
        refine Pa.mp 1 (pc' := 74) (l' := [(1, .int (mBy yA)), (0, .ref 69)]) (st' := [.ref 69]) (by rfl) ?_
        refine Pa.lv (l' := [(0, .ref 69), (1, .int (mBy yA))]) (lvS_c rfl (lvS_c rfl (lvS_nil))) rfl ?_
        refine Pa.inv (by rfl) (by rfl) (.inl rfl) (by rfl) ?_
        exact l1 h1 h3 h5
      · have h6 : (yA.1 69 64).toInt = 8 := h6
        refine Pa.mp 1 (pc' := 36) (l' := [(1, .int (mBy yA)), (0, .ref 69)]) (st' := [.ref 69]) (by rfl) ?_
        refine Pa.inv (by rfl) (by rfl) (.inl rfl) (by rfl) ?_
        show Pa N 192 0 [(0, .ref 69)] [] yA _
        refine Pa.mp 2 (pc' := 2) (l' := [(0, .ref 69)]) (st' := [.ref 69, .ref 69]) (by rfl) ?_
        refine Pa.gfI (v := yA.1 69 63) (by rfl) (by rfl) (.inl rfl) (by rfl) (by rfl) ?_
        refine Pa.if1 (a := (yA.1 69 63).toInt) (t := 15) (by rfl) (by rfl) (rfl) (fun yh => (by exfalso; have h' : 0 ≤ (yA.1 69 63).toInt := yh; omega)) (fun _ => ?_)
        refine Pa.mp 1 (pc' := 9) (l' := [(0, .ref 69)]) (st' := [.ref 69, .ref 69]) (by rfl) ?_
        refine Pa.gfI (v := yA.1 69 61) (by rfl) (by rfl) (.inl rfl) (by rfl) (by rfl) ?_
        refine Pa.mp 1 (pc' := 19) (l' := [(0, .ref 69)]) (st' := [.int (yA.1 69 61), .ref 69]) (by rfl) ?_
        refine Pa.pfI (by rfl) (by rfl) (.inl rfl) (by rfl) ?_
        show Pa N 192 22 [(0, .ref 69)] [] (uI yA 69 63 (yA.1 69 61)) _
        refine Pa.ic (x := 0) (pc' := 23) (by rfl) (by rfl) (by decide) ?_
        refine Pa.iret (by rfl) ?_
        show Pa N 201 39 [(1, .int (mBy yA)), (0, .ref 69)] [.int 0] (uI yA 69 63 (yA.1 69 61)) _
        refine Pa.iret (by rfl) ?_
        exact l2 h1 h3 h6
    · have h4 : (mBy yA).toInt ≠ 33 := h4
      refine Pa.mp 1 (pc' := 21) (l' := [(1, .int (mBy yA)), (0, .ref 69)]) (st' := [.int (mBy yA)]) (by rfl) ?_
      refine Pa.ic (x := 40) (pc' := 23) (by rfl) (by rfl) (by decide) ?_
      refine Pa.if2 (a := (mBy yA).toInt) (b := 40) (t := 128) (by rfl) (by rfl) (rfl) (by decide) (fun h9 => ?_) (fun h10 => ?_)
      · have h9 : (mBy yA).toInt ≠ 40 := h9
        refine Pa.mp 1 (pc' := 129) (l' := [(1, .int (mBy yA)), (0, .ref 69)]) (st' := [.int (mBy yA)]) (by rfl) ?_
        refine Pa.ist (by rfl) (by rfl) (.inl rfl) (by rfl) (by rfl) ?_
        refine Pa.mono (c_nameOf N yA (mBy yA)) (fun yu A1 hu => ?_)
        obtain ⟨rfl, hu⟩ := hu
        rw [hu]
        show Pa N 201 132 [(1, .int (mBy yA)), (0, .ref 69)] [.int (nmM (mBy yA))] yA _
        refine Pa.mp 2 (pc' := 134) (l' := [(2, .int (nmM (mBy yA))), (1, .int (mBy yA)), (0, .ref 69)]) (st' := [.int (nmM (mBy yA))]) (by rfl) ?_
        refine Pa.if1 (a := (nmM (mBy yA)).toInt) (t := 153) (by rfl) (by rfl) (rfl) (fun h11 => ?_) (fun h12 => ?_)
        · have h11 : (nmM (mBy yA)).toInt < 0 := h11
          refine Pa.ic (x := 0) (pc' := 154) (by rfl) (by rfl) (by decide) ?_
          refine Pa.mp 1 (pc' := 155) (l' := [(3, .int 0), (2, .int (nmM (mBy yA))), (1, .int (mBy yA)), (0, .ref 69)]) (st' := []) (by rfl) ?_
          refine Pa.ic (x := 0) (pc' := 156) (by rfl) (by rfl) (by decide) ?_
          refine Pa.mp 1 (pc' := 158) (l' := [(4, .int 0), (3, .int 0), (2, .int (nmM (mBy yA))), (1, .int (mBy yA)), (0, .ref 69)]) (st' := []) (by rfl) ?_
          refine Pa.lv (l' := [(0, .ref 69), (1, .int (mBy yA)), (2, .int (nmM (mBy yA))), (3, .int 0), (4, .int 0)]) (lvS_c rfl (lvS_c rfl (lvS_c rfl (lvS_c rfl (lvS_c rfl (lvS_nil)))))) rfl ?_
          exact l3 h1 h4 h9 h11
        · have h12 : 0 ≤ (nmM (mBy yA)).toInt := h12
          refine Pa.mp 2 (pc' := 139) (l' := [(2, .int (nmM (mBy yA))), (1, .int (mBy yA)), (0, .ref 69)]) (st' := [.ref 69, .ref 69]) (by rfl) ?_
          refine Pa.gfI (v := yA.1 69 61) (by rfl) (by rfl) (.inl rfl) (by rfl) (by rfl) ?_
          refine Pa.ic (x := 1) (pc' := 143) (by rfl) (by rfl) (by decide) ?_
          refine Pa.mp 1 (pc' := 144) (l' := [(2, .int (nmM (mBy yA))), (1, .int (mBy yA)), (0, .ref 69)]) (st' := [.int ((yA.1 69 61) + 1), .ref 69]) (by rfl) ?_
          refine Pa.pfI (by rfl) (by rfl) (.inl rfl) (by rfl) ?_
          show Pa N 201 147 [(2, .int (nmM (mBy yA))), (1, .int (mBy yA)), (0, .ref 69)] [] (uI yA 69 61 ((yA.1 69 61) + 1)) _
          refine Pa.mp 2 (pc' := 149) (l' := [(2, .int (nmM (mBy yA))), (1, .int (mBy yA)), (0, .ref 69)]) (st' := [.int (nmM (mBy yA)), .ref 69]) (by rfl) ?_
          refine Pa.lv (l' := [(0, .ref 69), (1, .int (mBy yA)), (2, .int (nmM (mBy yA)))]) (lvS_c rfl (lvS_c rfl (lvS_c rfl (lvS_nil)))) rfl ?_
          refine Pa.inv (by rfl) (by rfl) (.inl rfl) (by rfl) ?_
          exact l4 h1 h4 h9 h12
      · have h10 : (mBy yA).toInt = 40 := h10
        refine Pa.mp 1 (pc' := 27) (l' := [(1, .int (mBy yA)), (0, .ref 69)]) (st' := [.ref 69]) (by rfl) ?_
        refine Pa.gfI (v := yA.1 69 64) (by rfl) (by rfl) (.inl rfl) (by rfl) (by rfl) ?_
        refine Pa.ic (x := 8) (pc' := 32) (by rfl) (by rfl) (by decide) ?_
        refine Pa.if2 (a := (yA.1 69 64).toInt) (b := 8) (t := 40) (by rfl) (by rfl) (rfl) (by decide) (fun h13 => ?_) (fun h14 => ?_)
        · have h13 : (yA.1 69 64).toInt ≠ 8 := h13
          refine Pa.mp 2 (pc' := 42) (l' := [(1, .int (mBy yA)), (0, .ref 69)]) (st' := [.ref 69, .ref 69]) (by rfl) ?_
          refine Pa.gfI (v := yA.1 69 64) (by rfl) (by rfl) (.inl rfl) (by rfl) (by rfl) ?_
          refine Pa.ic (x := 1) (pc' := 46) (by rfl) (by rfl) (by decide) ?_
          refine Pa.mp 1 (pc' := 47) (l' := [(1, .int (mBy yA)), (0, .ref 69)]) (st' := [.int ((yA.1 69 64) + 1), .ref 69]) (by rfl) ?_
          refine Pa.pfI (by rfl) (by rfl) (.inl rfl) (by rfl) ?_
          show Pa N 201 50 [(1, .int (mBy yA)), (0, .ref 69)] [] (uI yA 69 64 ((yA.1 69 64) + 1)) _
          refine Pa.mp 2 (pc' := 52) (l' := [(1, .int (mBy yA)), (0, .ref 69)]) (st' := [.ref 69, .ref 69]) (by rfl) ?_
          refine Pa.gfI (v := yA.1 69 61) (by rfl) (by rfl) (.inl rfl) (by rfl) (by show (uI yA 69 64 ((yA.1 69 64) + 1)).1 69 61 = yA.1 69 61; rw [uI_k (by decide)]) ?_
          refine Pa.ic (x := 1) (pc' := 56) (by rfl) (by rfl) (by decide) ?_
          refine Pa.mp 1 (pc' := 57) (l' := [(1, .int (mBy yA)), (0, .ref 69)]) (st' := [.int ((yA.1 69 61) + 1), .ref 69]) (by rfl) ?_
          refine Pa.pfI (by rfl) (by rfl) (.inl rfl) (by rfl) ?_
          show Pa N 201 60 [(1, .int (mBy yA)), (0, .ref 69)] [] (uI (uI yA 69 64 ((yA.1 69 64) + 1)) 69 61 ((yA.1 69 61) + 1)) _
          refine Pa.mp 1 (pc' := 61) (l' := [(1, .int (mBy yA)), (0, .ref 69)]) (st' := [.int (mBy yA)]) (by rfl) ?_
          refine Pa.ic (x := 40) (pc' := 63) (by rfl) (by rfl) (by decide) ?_
          refine Pa.if2 (a := (mBy yA).toInt) (b := 40) (t := 73) (by rfl) (by rfl) (rfl) (by decide) (fun yh => (by exfalso; have h' : (mBy yA).toInt ≠ 40 := yh; omega)) (fun _ => ?_)
          refine Pa.mp 1 (pc' := 67) (l' := [(1, .int (mBy yA)), (0, .ref 69)]) (st' := [.ref 69]) (by rfl) ?_
          refine Pa.lv (l' := [(0, .ref 69), (1, .int (mBy yA))]) (lvS_c rfl (lvS_c rfl (lvS_nil))) rfl ?_
          refine Pa.inv (by rfl) (by rfl) (.inl rfl) (by rfl) ?_
          exact l5 h1 h4 h10 h13
        · have h14 : (yA.1 69 64).toInt = 8 := h14
          refine Pa.mp 1 (pc' := 36) (l' := [(1, .int (mBy yA)), (0, .ref 69)]) (st' := [.ref 69]) (by rfl) ?_
          refine Pa.inv (by rfl) (by rfl) (.inl rfl) (by rfl) ?_
          show Pa N 192 0 [(0, .ref 69)] [] yA _
          refine Pa.mp 2 (pc' := 2) (l' := [(0, .ref 69)]) (st' := [.ref 69, .ref 69]) (by rfl) ?_
          refine Pa.gfI (v := yA.1 69 63) (by rfl) (by rfl) (.inl rfl) (by rfl) (by rfl) ?_
          refine Pa.if1 (a := (yA.1 69 63).toInt) (t := 15) (by rfl) (by rfl) (rfl) (fun yh => (by exfalso; have h' : 0 ≤ (yA.1 69 63).toInt := yh; omega)) (fun _ => ?_)
          refine Pa.mp 1 (pc' := 9) (l' := [(0, .ref 69)]) (st' := [.ref 69, .ref 69]) (by rfl) ?_
          refine Pa.gfI (v := yA.1 69 61) (by rfl) (by rfl) (.inl rfl) (by rfl) (by rfl) ?_
          refine Pa.mp 1 (pc' := 19) (l' := [(0, .ref 69)]) (st' := [.int (yA.1 69 61), .ref 69]) (by rfl) ?_
          refine Pa.pfI (by rfl) (by rfl) (.inl rfl) (by rfl) ?_
          show Pa N 192 22 [(0, .ref 69)] [] (uI yA 69 63 (yA.1 69 61)) _
          refine Pa.ic (x := 0) (pc' := 23) (by rfl) (by rfl) (by decide) ?_
          refine Pa.iret (by rfl) ?_
          show Pa N 201 39 [(1, .int (mBy yA)), (0, .ref 69)] [.int 0] (uI yA 69 63 (yA.1 69 61)) _
          refine Pa.iret (by rfl) ?_
          exact l6 h1 h4 h10 h14
  · have h2 : 0 ≤ (yA.1 69 63).toInt := h2
    refine Pa.ic (x := 0) (pc' := 8) (by rfl) (by rfl) (by decide) ?_
    refine Pa.iret (by rfl) ?_
    exact l7 h2


theorem bm_onp {N : Nat} {yA : AW} {yQ : Option Value → AW → Prop} (yc yv : Int32)  (yhc : yc.toInt = 40)
    (l1 : 0 ≤ (yA.1 69 63).toInt → yQ (some (.int 0)) (uI yA 69 63 (yA.1 69 63)))
    (l2 : (yA.1 69 63).toInt < 0 → (mBy yA).toInt = 41 → yQ (some (.int yv)) (uI (uI yA 69 61 ((yA.1 69 61) + 1)) 69 64 ((yA.1 69 64) - 1)))
    (l3 : (yA.1 69 63).toInt < 0 → (mBy yA).toInt ≠ 41 → yQ (some (.int 0)) (uI yA 69 63 (yA.1 69 61))) :
    Pa N 201 70 [(0, .ref 69), (1, .int yc)] [.int yv] yA yQ := by
  refine Pa.mp 3 (pc' := 79) (l' := [(2, .int yv), (0, .ref 69), (1, .int yc)]) (st' := [.int yc]) (by rfl) ?_
  refine Pa.ic (x := 40) (pc' := 81) (by rfl) (by rfl) (by decide) ?_
  refine Pa.if2 (a := yc.toInt) (b := 40) (t := 98) (by rfl) (by rfl) (rfl) (by decide) (fun yh => (by exfalso; have h' : yc.toInt ≠ 40 := yh; omega)) (fun _ => ?_)
  refine Pa.mp 1 (pc' := 85) (l' := [(2, .int yv), (0, .ref 69), (1, .int yc)]) (st' := [.ref 69]) (by rfl) ?_
  refine Pa.ic (x := 41) (pc' := 87) (by rfl) (by rfl) (by decide) ?_
  refine Pa.inv (by rfl) (by rfl) (.inl rfl) (by rfl) ?_
  show Pa N 193 0 [(0, .ref 69), (1, .int 41)] [] yA _
  refine Pa.mp 1 (pc' := 1) (l' := [(0, .ref 69), (1, .int 41)]) (st' := [.ref 69]) (by rfl) ?_
  refine Pa.gfI (v := yA.1 69 63) (by rfl) (by rfl) (.inl rfl) (by rfl) (by rfl) ?_
  refine Pa.if1 (a := (yA.1 69 63).toInt) (t := 15) (by rfl) (by rfl) (rfl) (fun h2 => ?_) (fun h3 => ?_)
  · have h2 : 0 ≤ (yA.1 69 63).toInt := h2
    refine Pa.ic (x := 0) (pc' := 16) (by rfl) (by rfl) (by decide) ?_
    refine Pa.iret (by rfl) ?_
    show Pa N 201 90 [(2, .int yv), (0, .ref 69), (1, .int yc)] [.int 0] yA _
    refine Pa.if1k false (by rfl) (by rfl) (by decide) ?_
    show Pa N 201 93 [(2, .int yv), (0, .ref 69), (1, .int yc)] [] yA _
    refine Pa.mp 1 (pc' := 94) (l' := [(2, .int yv), (0, .ref 69), (1, .int yc)]) (st' := [.ref 69]) (by rfl) ?_
    refine Pa.inv (by rfl) (by rfl) (.inl rfl) (by rfl) ?_
    show Pa N 192 0 [(0, .ref 69)] [] yA _
    refine Pa.mp 2 (pc' := 2) (l' := [(0, .ref 69)]) (st' := [.ref 69, .ref 69]) (by rfl) ?_
    refine Pa.gfI (v := yA.1 69 63) (by rfl) (by rfl) (.inl rfl) (by rfl) (by rfl) ?_
    refine Pa.if1 (a := (yA.1 69 63).toInt) (t := 15) (by rfl) (by rfl) (rfl) (fun _ => ?_) (fun yh => (by exfalso; have h' : (yA.1 69 63).toInt < 0 := yh; omega))
    refine Pa.mp 1 (pc' := 16) (l' := [(0, .ref 69)]) (st' := [.ref 69, .ref 69]) (by rfl) ?_
    refine Pa.gfI (v := yA.1 69 63) (by rfl) (by rfl) (.inl rfl) (by rfl) (by rfl) ?_
    refine Pa.pfI (by rfl) (by rfl) (.inl rfl) (by rfl) ?_
    show Pa N 192 22 [(0, .ref 69)] [] (uI yA 69 63 (yA.1 69 63)) _
    refine Pa.ic (x := 0) (pc' := 23) (by rfl) (by rfl) (by decide) ?_
    refine Pa.iret (by rfl) ?_
    show Pa N 201 97 [(2, .int yv), (0, .ref 69), (1, .int yc)] [.int 0] (uI yA 69 63 (yA.1 69 63)) _
    refine Pa.iret (by rfl) ?_
    exact l1 h2
  · have h3 : (yA.1 69 63).toInt < 0 := h3
    refine Pa.mp 1 (pc' := 8) (l' := [(0, .ref 69), (1, .int 41)]) (st' := [.ref 69]) (by rfl) ?_
    refine Pa.inv (by rfl) (by rfl) (.inl rfl) (by rfl) ?_
    refine Pa.mono (c_byteAt N yA) (fun yu A1 hu => ?_)
    obtain ⟨rfl, hu⟩ := hu
    rw [hu]
    show Pa N 193 11 [(0, .ref 69), (1, .int 41)] [.int (mBy yA)] yA _
    refine Pa.mp 1 (pc' := 12) (l' := [(0, .ref 69), (1, .int 41)]) (st' := [.int 41, .int (mBy yA)]) (by rfl) ?_
    refine Pa.if2 (a := (mBy yA).toInt) (b := 41) (t := 17) (by rfl) (by rfl) (rfl) (by decide) (fun h5 => ?_) (fun h6 => ?_)
    · have h5 : (mBy yA).toInt = 41 := h5
      refine Pa.mp 2 (pc' := 19) (l' := [(0, .ref 69), (1, .int 41)]) (st' := [.ref 69, .ref 69]) (by rfl) ?_
      refine Pa.gfI (v := yA.1 69 61) (by rfl) (by rfl) (.inl rfl) (by rfl) (by rfl) ?_
      refine Pa.ic (x := 1) (pc' := 23) (by rfl) (by rfl) (by decide) ?_
      refine Pa.mp 1 (pc' := 24) (l' := [(0, .ref 69), (1, .int 41)]) (st' := [.int ((yA.1 69 61) + 1), .ref 69]) (by rfl) ?_
      refine Pa.pfI (by rfl) (by rfl) (.inl rfl) (by rfl) ?_
      show Pa N 193 27 [(0, .ref 69), (1, .int 41)] [] (uI yA 69 61 ((yA.1 69 61) + 1)) _
      refine Pa.ic (x := 1) (pc' := 28) (by rfl) (by rfl) (by decide) ?_
      refine Pa.iret (by rfl) ?_
      show Pa N 201 90 [(2, .int yv), (0, .ref 69), (1, .int yc)] [.int 1] (uI yA 69 61 ((yA.1 69 61) + 1)) _
      refine Pa.if1k true (by rfl) (by rfl) (by decide) ?_
      show Pa N 201 98 [(2, .int yv), (0, .ref 69), (1, .int yc)] [] (uI yA 69 61 ((yA.1 69 61) + 1)) _
      refine Pa.mp 2 (pc' := 100) (l' := [(2, .int yv), (0, .ref 69), (1, .int yc)]) (st' := [.ref 69, .ref 69]) (by rfl) ?_
      refine Pa.gfI (v := yA.1 69 64) (by rfl) (by rfl) (.inl rfl) (by rfl) (by show (uI yA 69 61 ((yA.1 69 61) + 1)).1 69 64 = yA.1 69 64; rw [uI_k (by decide)]) ?_
      refine Pa.ic (x := 1) (pc' := 104) (by rfl) (by rfl) (by decide) ?_
      refine Pa.mp 1 (pc' := 105) (l' := [(2, .int yv), (0, .ref 69), (1, .int yc)]) (st' := [.int ((yA.1 69 64) - 1), .ref 69]) (by rfl) ?_
      refine Pa.pfI (by rfl) (by rfl) (.inl rfl) (by rfl) ?_
      show Pa N 201 108 [(2, .int yv), (0, .ref 69), (1, .int yc)] [] (uI (uI yA 69 61 ((yA.1 69 61) + 1)) 69 64 ((yA.1 69 64) - 1)) _
      refine Pa.mp 1 (pc' := 109) (l' := [(2, .int yv), (0, .ref 69), (1, .int yc)]) (st' := [.int yc]) (by rfl) ?_
      refine Pa.ic (x := 40) (pc' := 111) (by rfl) (by rfl) (by decide) ?_
      refine Pa.if2 (a := yc.toInt) (b := 40) (t := 118) (by rfl) (by rfl) (rfl) (by decide) (fun yh => (by exfalso; have h' : yc.toInt ≠ 40 := yh; omega)) (fun _ => ?_)
      refine Pa.mp 2 (pc' := 127) (l' := [(2, .int yv), (0, .ref 69), (1, .int yc)]) (st' := [.int yv]) (by rfl) ?_
      refine Pa.iret (by rfl) ?_
      exact l2 h3 h5
    · have h6 : (mBy yA).toInt ≠ 41 := h6
      refine Pa.ic (x := 0) (pc' := 16) (by rfl) (by rfl) (by decide) ?_
      refine Pa.iret (by rfl) ?_
      show Pa N 201 90 [(2, .int yv), (0, .ref 69), (1, .int yc)] [.int 0] yA _
      refine Pa.if1k false (by rfl) (by rfl) (by decide) ?_
      show Pa N 201 93 [(2, .int yv), (0, .ref 69), (1, .int yc)] [] yA _
      refine Pa.mp 1 (pc' := 94) (l' := [(2, .int yv), (0, .ref 69), (1, .int yc)]) (st' := [.ref 69]) (by rfl) ?_
      refine Pa.inv (by rfl) (by rfl) (.inl rfl) (by rfl) ?_
      show Pa N 192 0 [(0, .ref 69)] [] yA _
      refine Pa.mp 2 (pc' := 2) (l' := [(0, .ref 69)]) (st' := [.ref 69, .ref 69]) (by rfl) ?_
      refine Pa.gfI (v := yA.1 69 63) (by rfl) (by rfl) (.inl rfl) (by rfl) (by rfl) ?_
      refine Pa.if1 (a := (yA.1 69 63).toInt) (t := 15) (by rfl) (by rfl) (rfl) (fun yh => (by exfalso; have h' : 0 ≤ (yA.1 69 63).toInt := yh; omega)) (fun _ => ?_)
      refine Pa.mp 1 (pc' := 9) (l' := [(0, .ref 69)]) (st' := [.ref 69, .ref 69]) (by rfl) ?_
      refine Pa.gfI (v := yA.1 69 61) (by rfl) (by rfl) (.inl rfl) (by rfl) (by rfl) ?_
      refine Pa.mp 1 (pc' := 19) (l' := [(0, .ref 69)]) (st' := [.int (yA.1 69 61), .ref 69]) (by rfl) ?_
      refine Pa.pfI (by rfl) (by rfl) (.inl rfl) (by rfl) ?_
      show Pa N 192 22 [(0, .ref 69)] [] (uI yA 69 63 (yA.1 69 61)) _
      refine Pa.ic (x := 0) (pc' := 23) (by rfl) (by rfl) (by decide) ?_
      refine Pa.iret (by rfl) ?_
      show Pa N 201 97 [(2, .int yv), (0, .ref 69), (1, .int yc)] [.int 0] (uI yA 69 63 (yA.1 69 61)) _
      refine Pa.iret (by rfl) ?_
      exact l3 h3 h6


theorem bm_one {N : Nat} {yA : AW} {yQ : Option Value → AW → Prop} (yc yv : Int32)  (yhc : yc.toInt = 33)
    (l1 : yv.toInt ≠ 0 → yQ (some (.int 0)) (uI yA 69 64 ((yA.1 69 64) - 1)))
    (l2 : yv.toInt = 0 → yQ (some (.int 1)) (uI yA 69 64 ((yA.1 69 64) - 1))) :
    Pa N 201 77 [(0, .ref 69), (1, .int yc)] [.int yv] yA yQ := by
  refine Pa.mp 2 (pc' := 79) (l' := [(2, .int yv), (0, .ref 69), (1, .int yc)]) (st' := [.int yc]) (by rfl) ?_
  refine Pa.ic (x := 40) (pc' := 81) (by rfl) (by rfl) (by decide) ?_
  refine Pa.if2 (a := yc.toInt) (b := 40) (t := 98) (by rfl) (by rfl) (rfl) (by decide) (fun _ => ?_) (fun yh => (by exfalso; have h' : yc.toInt = 40 := yh; omega))
  refine Pa.mp 2 (pc' := 100) (l' := [(2, .int yv), (0, .ref 69), (1, .int yc)]) (st' := [.ref 69, .ref 69]) (by rfl) ?_
  refine Pa.gfI (v := yA.1 69 64) (by rfl) (by rfl) (.inl rfl) (by rfl) (by rfl) ?_
  refine Pa.ic (x := 1) (pc' := 104) (by rfl) (by rfl) (by decide) ?_
  refine Pa.mp 1 (pc' := 105) (l' := [(2, .int yv), (0, .ref 69), (1, .int yc)]) (st' := [.int ((yA.1 69 64) - 1), .ref 69]) (by rfl) ?_
  refine Pa.pfI (by rfl) (by rfl) (.inl rfl) (by rfl) ?_
  show Pa N 201 108 [(2, .int yv), (0, .ref 69), (1, .int yc)] [] (uI yA 69 64 ((yA.1 69 64) - 1)) _
  refine Pa.mp 1 (pc' := 109) (l' := [(2, .int yv), (0, .ref 69), (1, .int yc)]) (st' := [.int yc]) (by rfl) ?_
  refine Pa.ic (x := 40) (pc' := 111) (by rfl) (by rfl) (by decide) ?_
  refine Pa.if2 (a := yc.toInt) (b := 40) (t := 118) (by rfl) (by rfl) (rfl) (by decide) (fun _ => ?_) (fun yh => (by exfalso; have h' : yc.toInt = 40 := yh; omega))
  refine Pa.mp 1 (pc' := 119) (l' := [(2, .int yv), (0, .ref 69), (1, .int yc)]) (st' := [.int yv]) (by rfl) ?_
  refine Pa.if1 (a := yv.toInt) (t := 126) (by rfl) (by rfl) (rfl) (fun h3 => ?_) (fun h4 => ?_)
  · have h3 : yv.toInt ≠ 0 := h3
    refine Pa.ic (x := 0) (pc' := 127) (by rfl) (by rfl) (by decide) ?_
    refine Pa.iret (by rfl) ?_
    exact l1 h3
  · have h4 : yv.toInt = 0 := h4
    refine Pa.ic (x := 1) (pc' := 123) (by rfl) (by rfl) (by decide) ?_
    refine Pa.mp 1 (pc' := 127) (l' := [(2, .int yv), (0, .ref 69), (1, .int yc)]) (st' := [.int 1]) (by rfl) ?_
    refine Pa.iret (by rfl) ?_
    exact l2 h4


theorem bm_onr {N : Nat} {yA : AW} {yQ : Option Value → AW → Prop} (yc yk yv : Int32)
    (l1 : yQ (some (.int yv)) yA) :
    Pa N 201 152 [(0, .ref 69), (1, .int yc), (2, .int yk)] [.int yv] yA yQ := by
  refine Pa.iret (by rfl) ?_
  exact l1


theorem bm_onn {N : Nat} {yA : AW} {yQ : Option Value → AW → Prop} (yc yk yv yi : Int32) 
    (l1 : 6 ≤ yi.toInt → yQ (some (.int yv)) yA)
    (l2 : yi.toInt < 6 → (mBy yA).toInt < 48 → yi.toInt ≠ 0 → yQ (some (.int yv)) yA)
    (l3 : yi.toInt < 6 → (mBy yA).toInt < 48 → yi.toInt = 0 → 0 ≤ (yA.1 69 63).toInt → yQ (some (.int 0)) (uI yA 69 63 (yA.1 69 63)))
    (l4 : yi.toInt < 6 → (mBy yA).toInt < 48 → yi.toInt = 0 → (yA.1 69 63).toInt < 0 → yQ (some (.int 0)) (uI yA 69 63 (yA.1 69 61)))
    (l5 : yi.toInt < 6 → 48 ≤ (mBy yA).toInt → 57 < (mBy yA).toInt → yi.toInt ≠ 0 → yQ (some (.int yv)) yA)
    (l6 : yi.toInt < 6 → 48 ≤ (mBy yA).toInt → 57 < (mBy yA).toInt → yi.toInt = 0 → 0 ≤ (yA.1 69 63).toInt → yQ (some (.int 0)) (uI yA 69 63 (yA.1 69 63)))
    (l7 : yi.toInt < 6 → 48 ≤ (mBy yA).toInt → 57 < (mBy yA).toInt → yi.toInt = 0 → (yA.1 69 63).toInt < 0 → yQ (some (.int 0)) (uI yA 69 63 (yA.1 69 61)))
    (l8 : yi.toInt < 6 → 48 ≤ (mBy yA).toInt → (mBy yA).toInt ≤ 57 → Pa N 201 158 [(0, .ref 69), (1, .int yc), (2, .int yk), (3, .int (((10 * yv) + (mBy yA)) - 48)), (4, .int (yi + 1))] [] (uI yA 69 61 ((yA.1 69 61) + 1)) yQ) :
    Pa (N + 1) 201 158 [(0, .ref 69), (1, .int yc), (2, .int yk), (3, .int yv), (4, .int yi)] [] yA yQ := by
  refine Pa.mp1 0 (pc' := 160) (l' := [(0, .ref 69), (1, .int yc), (2, .int yk), (3, .int yv), (4, .int yi)]) (st' := [.int yi]) (by rfl) ?_
  refine Pa.ic (x := 6) (pc' := 162) (by rfl) (by rfl) (by decide) ?_
  refine Pa.if2 (a := yi.toInt) (b := 6) (t := 212) (by rfl) (by rfl) (rfl) (by decide) (fun h1 => ?_) (fun h2 => ?_)
  · have h1 : 6 ≤ yi.toInt := h1
    refine Pa.mp 1 (pc' := 214) (l' := [(0, .ref 69), (1, .int yc), (2, .int yk), (3, .int yv), (4, .int yi)]) (st' := [.int yi]) (by rfl) ?_
    refine Pa.if1 (a := yi.toInt) (t := 224) (by rfl) (by rfl) (rfl) (fun _ => ?_) (fun yh => (by exfalso; have h' : yi.toInt = 0 := yh; omega))
    refine Pa.mp 1 (pc' := 225) (l' := [(0, .ref 69), (1, .int yc), (2, .int yk), (3, .int yv), (4, .int yi)]) (st' := [.int yv]) (by rfl) ?_
    refine Pa.iret (by rfl) ?_
    exact l1 h1
  · have h2 : yi.toInt < 6 := h2
    refine Pa.mp 1 (pc' := 166) (l' := [(0, .ref 69), (1, .int yc), (2, .int yk), (3, .int yv), (4, .int yi)]) (st' := [.ref 69]) (by rfl) ?_
    refine Pa.inv (by rfl) (by rfl) (.inl rfl) (by rfl) ?_
    refine Pa.mono (c_byteAt N yA) (fun yu A1 hu => ?_)
    obtain ⟨rfl, hu⟩ := hu
    rw [hu]
    show Pa N 201 169 [(0, .ref 69), (1, .int yc), (2, .int yk), (3, .int yv), (4, .int yi)] [.int (mBy yA)] yA _
    refine Pa.ic (x := 48) (pc' := 171) (by rfl) (by rfl) (by decide) ?_
    refine Pa.if2 (a := (mBy yA).toInt) (b := 48) (t := 212) (by rfl) (by rfl) (rfl) (by decide) (fun h4 => ?_) (fun h5 => ?_)
    · have h4 : (mBy yA).toInt < 48 := h4
      refine Pa.mp 1 (pc' := 214) (l' := [(0, .ref 69), (1, .int yc), (2, .int yk), (3, .int yv), (4, .int yi)]) (st' := [.int yi]) (by rfl) ?_
      refine Pa.if1 (a := yi.toInt) (t := 224) (by rfl) (by rfl) (rfl) (fun h6 => ?_) (fun h7 => ?_)
      · have h6 : yi.toInt ≠ 0 := h6
        refine Pa.mp 1 (pc' := 225) (l' := [(0, .ref 69), (1, .int yc), (2, .int yk), (3, .int yv), (4, .int yi)]) (st' := [.int yv]) (by rfl) ?_
        refine Pa.iret (by rfl) ?_
        exact l2 h2 h4 h6
      · have h7 : yi.toInt = 0 := h7
        refine Pa.mp 1 (pc' := 218) (l' := [(0, .ref 69), (1, .int yc), (2, .int yk), (3, .int yv), (4, .int yi)]) (st' := [.ref 69]) (by rfl) ?_
        refine Pa.inv (by rfl) (by rfl) (.inl rfl) (by rfl) ?_
        show Pa N 192 0 [(0, .ref 69)] [] yA _
        refine Pa.mp 2 (pc' := 2) (l' := [(0, .ref 69)]) (st' := [.ref 69, .ref 69]) (by rfl) ?_
        refine Pa.gfI (v := yA.1 69 63) (by rfl) (by rfl) (.inl rfl) (by rfl) (by rfl) ?_
        refine Pa.if1 (a := (yA.1 69 63).toInt) (t := 15) (by rfl) (by rfl) (rfl) (fun h8 => ?_) (fun h9 => ?_)
        · have h8 : 0 ≤ (yA.1 69 63).toInt := h8
          refine Pa.mp 1 (pc' := 16) (l' := [(0, .ref 69)]) (st' := [.ref 69, .ref 69]) (by rfl) ?_
          refine Pa.gfI (v := yA.1 69 63) (by rfl) (by rfl) (.inl rfl) (by rfl) (by rfl) ?_
          refine Pa.pfI (by rfl) (by rfl) (.inl rfl) (by rfl) ?_
          show Pa N 192 22 [(0, .ref 69)] [] (uI yA 69 63 (yA.1 69 63)) _
          refine Pa.ic (x := 0) (pc' := 23) (by rfl) (by rfl) (by decide) ?_
          refine Pa.iret (by rfl) ?_
          show Pa N 201 221 [(0, .ref 69), (1, .int yc), (2, .int yk), (3, .int yv), (4, .int yi)] [.int 0] (uI yA 69 63 (yA.1 69 63)) _
          refine Pa.mp 1 (pc' := 225) (l' := [(0, .ref 69), (1, .int yc), (2, .int yk), (3, .int yv), (4, .int yi)]) (st' := [.int 0]) (by rfl) ?_
          refine Pa.iret (by rfl) ?_
          exact l3 h2 h4 h7 h8
        · have h9 : (yA.1 69 63).toInt < 0 := h9
          refine Pa.mp 1 (pc' := 9) (l' := [(0, .ref 69)]) (st' := [.ref 69, .ref 69]) (by rfl) ?_
          refine Pa.gfI (v := yA.1 69 61) (by rfl) (by rfl) (.inl rfl) (by rfl) (by rfl) ?_
          refine Pa.mp 1 (pc' := 19) (l' := [(0, .ref 69)]) (st' := [.int (yA.1 69 61), .ref 69]) (by rfl) ?_
          refine Pa.pfI (by rfl) (by rfl) (.inl rfl) (by rfl) ?_
          show Pa N 192 22 [(0, .ref 69)] [] (uI yA 69 63 (yA.1 69 61)) _
          refine Pa.ic (x := 0) (pc' := 23) (by rfl) (by rfl) (by decide) ?_
          refine Pa.iret (by rfl) ?_
          show Pa N 201 221 [(0, .ref 69), (1, .int yc), (2, .int yk), (3, .int yv), (4, .int yi)] [.int 0] (uI yA 69 63 (yA.1 69 61)) _
          refine Pa.mp 1 (pc' := 225) (l' := [(0, .ref 69), (1, .int yc), (2, .int yk), (3, .int yv), (4, .int yi)]) (st' := [.int 0]) (by rfl) ?_
          refine Pa.iret (by rfl) ?_
          exact l4 h2 h4 h7 h9
    · have h5 : 48 ≤ (mBy yA).toInt := h5
      refine Pa.mp 1 (pc' := 175) (l' := [(0, .ref 69), (1, .int yc), (2, .int yk), (3, .int yv), (4, .int yi)]) (st' := [.ref 69]) (by rfl) ?_
      refine Pa.inv (by rfl) (by rfl) (.inl rfl) (by rfl) ?_
      refine Pa.mono (c_byteAt N yA) (fun yu A1 hu => ?_)
      obtain ⟨rfl, hu⟩ := hu
      rw [hu]
      show Pa N 201 178 [(0, .ref 69), (1, .int yc), (2, .int yk), (3, .int yv), (4, .int yi)] [.int (mBy yA)] yA _
      refine Pa.ic (x := 57) (pc' := 180) (by rfl) (by rfl) (by decide) ?_
      refine Pa.if2 (a := (mBy yA).toInt) (b := 57) (t := 212) (by rfl) (by rfl) (rfl) (by decide) (fun h10 => ?_) (fun h11 => ?_)
      · have h10 : 57 < (mBy yA).toInt := h10
        refine Pa.mp 1 (pc' := 214) (l' := [(0, .ref 69), (1, .int yc), (2, .int yk), (3, .int yv), (4, .int yi)]) (st' := [.int yi]) (by rfl) ?_
        refine Pa.if1 (a := yi.toInt) (t := 224) (by rfl) (by rfl) (rfl) (fun h12 => ?_) (fun h13 => ?_)
        · have h12 : yi.toInt ≠ 0 := h12
          refine Pa.mp 1 (pc' := 225) (l' := [(0, .ref 69), (1, .int yc), (2, .int yk), (3, .int yv), (4, .int yi)]) (st' := [.int yv]) (by rfl) ?_
          refine Pa.iret (by rfl) ?_
          exact l5 h2 h5 h10 h12
        · have h13 : yi.toInt = 0 := h13
          refine Pa.mp 1 (pc' := 218) (l' := [(0, .ref 69), (1, .int yc), (2, .int yk), (3, .int yv), (4, .int yi)]) (st' := [.ref 69]) (by rfl) ?_
          refine Pa.inv (by rfl) (by rfl) (.inl rfl) (by rfl) ?_
          show Pa N 192 0 [(0, .ref 69)] [] yA _
          refine Pa.mp 2 (pc' := 2) (l' := [(0, .ref 69)]) (st' := [.ref 69, .ref 69]) (by rfl) ?_
          refine Pa.gfI (v := yA.1 69 63) (by rfl) (by rfl) (.inl rfl) (by rfl) (by rfl) ?_
          refine Pa.if1 (a := (yA.1 69 63).toInt) (t := 15) (by rfl) (by rfl) (rfl) (fun h14 => ?_) (fun h15 => ?_)
          · have h14 : 0 ≤ (yA.1 69 63).toInt := h14
            refine Pa.mp 1 (pc' := 16) (l' := [(0, .ref 69)]) (st' := [.ref 69, .ref 69]) (by rfl) ?_
            refine Pa.gfI (v := yA.1 69 63) (by rfl) (by rfl) (.inl rfl) (by rfl) (by rfl) ?_
            refine Pa.pfI (by rfl) (by rfl) (.inl rfl) (by rfl) ?_
            show Pa N 192 22 [(0, .ref 69)] [] (uI yA 69 63 (yA.1 69 63)) _
            refine Pa.ic (x := 0) (pc' := 23) (by rfl) (by rfl) (by decide) ?_
            refine Pa.iret (by rfl) ?_
            show Pa N 201 221 [(0, .ref 69), (1, .int yc), (2, .int yk), (3, .int yv), (4, .int yi)] [.int 0] (uI yA 69 63 (yA.1 69 63)) _
            refine Pa.mp 1 (pc' := 225) (l' := [(0, .ref 69), (1, .int yc), (2, .int yk), (3, .int yv), (4, .int yi)]) (st' := [.int 0]) (by rfl) ?_
            refine Pa.iret (by rfl) ?_
            exact l6 h2 h5 h10 h13 h14
          · have h15 : (yA.1 69 63).toInt < 0 := h15
            refine Pa.mp 1 (pc' := 9) (l' := [(0, .ref 69)]) (st' := [.ref 69, .ref 69]) (by rfl) ?_
            refine Pa.gfI (v := yA.1 69 61) (by rfl) (by rfl) (.inl rfl) (by rfl) (by rfl) ?_
            refine Pa.mp 1 (pc' := 19) (l' := [(0, .ref 69)]) (st' := [.int (yA.1 69 61), .ref 69]) (by rfl) ?_
            refine Pa.pfI (by rfl) (by rfl) (.inl rfl) (by rfl) ?_
            show Pa N 192 22 [(0, .ref 69)] [] (uI yA 69 63 (yA.1 69 61)) _
            refine Pa.ic (x := 0) (pc' := 23) (by rfl) (by rfl) (by decide) ?_
            refine Pa.iret (by rfl) ?_
            show Pa N 201 221 [(0, .ref 69), (1, .int yc), (2, .int yk), (3, .int yv), (4, .int yi)] [.int 0] (uI yA 69 63 (yA.1 69 61)) _
            refine Pa.mp 1 (pc' := 225) (l' := [(0, .ref 69), (1, .int yc), (2, .int yk), (3, .int yv), (4, .int yi)]) (st' := [.int 0]) (by rfl) ?_
            refine Pa.iret (by rfl) ?_
            exact l7 h2 h5 h10 h13 h15
      · have h11 : (mBy yA).toInt ≤ 57 := h11
        refine Pa.ic (x := 10) (pc' := 185) (by rfl) (by rfl) (by decide) ?_
        refine Pa.mp 3 (pc' := 188) (l' := [(0, .ref 69), (1, .int yc), (2, .int yk), (3, .int yv), (4, .int yi)]) (st' := [.ref 69, .int (10 * yv)]) (by rfl) ?_
        refine Pa.inv (by rfl) (by rfl) (.inl rfl) (by rfl) ?_
        refine Pa.mono (c_byteAt N yA) (fun yu A1 hu => ?_)
        obtain ⟨rfl, hu⟩ := hu
        rw [hu]
        show Pa N 201 191 [(0, .ref 69), (1, .int yc), (2, .int yk), (3, .int yv), (4, .int yi)] [.int (mBy yA), .int (10 * yv)] yA _
        refine Pa.mp 1 (pc' := 192) (l' := [(0, .ref 69), (1, .int yc), (2, .int yk), (3, .int yv), (4, .int yi)]) (st' := [.int ((10 * yv) + (mBy yA))]) (by rfl) ?_
        refine Pa.ic (x := 48) (pc' := 194) (by rfl) (by rfl) (by decide) ?_
        refine Pa.mp 2 (pc' := 196) (l' := [(3, .int (((10 * yv) + (mBy yA)) - 48)), (0, .ref 69), (1, .int yc), (2, .int yk), (4, .int yi)]) (st' := []) (by rfl) ?_
        refine Pa.iinc (x := yi) (c := 1) (v := (yi + 1)) (l' := [(4, .int (yi + 1)), (3, .int (((10 * yv) + (mBy yA)) - 48)), (0, .ref 69), (1, .int yc), (2, .int yk)]) (by rfl) (by rfl) (by decide) (by rfl) (by rfl) ?_
        refine Pa.mp 2 (pc' := 201) (l' := [(4, .int (yi + 1)), (3, .int (((10 * yv) + (mBy yA)) - 48)), (0, .ref 69), (1, .int yc), (2, .int yk)]) (st' := [.ref 69, .ref 69]) (by rfl) ?_
        refine Pa.gfI (v := yA.1 69 61) (by rfl) (by rfl) (.inl rfl) (by rfl) (by rfl) ?_
        refine Pa.ic (x := 1) (pc' := 205) (by rfl) (by rfl) (by decide) ?_
        refine Pa.mp 1 (pc' := 206) (l' := [(4, .int (yi + 1)), (3, .int (((10 * yv) + (mBy yA)) - 48)), (0, .ref 69), (1, .int yc), (2, .int yk)]) (st' := [.int ((yA.1 69 61) + 1), .ref 69]) (by rfl) ?_
        refine Pa.pfI (by rfl) (by rfl) (.inl rfl) (by rfl) ?_
        show Pa N 201 209 [(4, .int (yi + 1)), (3, .int (((10 * yv) + (mBy yA)) - 48)), (0, .ref 69), (1, .int yc), (2, .int yk)] [] (uI yA 69 61 ((yA.1 69 61) + 1)) _
        refine Pa.mp 1 (pc' := 158) (l' := [(4, .int (yi + 1)), (3, .int (((10 * yv) + (mBy yA)) - 48)), (0, .ref 69), (1, .int yc), (2, .int yk)]) (st' := []) (by rfl) ?_
        refine Pa.lv (l' := [(0, .ref 69), (1, .int yc), (2, .int yk), (3, .int (((10 * yv) + (mBy yA)) - 48)), (4, .int (yi + 1))]) (lvS_c rfl (lvS_c rfl (lvS_c rfl (lvS_c rfl (lvS_c rfl (lvS_nil)))))) rfl ?_
        exact l8 h2 h5 h11


theorem bm_wo0 {N : Nat} {yA : AW} {yQ : Option Value → AW → Prop} (yf yn : Int32)
    (l1 : Pa N 202 38 [(0, .ref 69), (1, .int yf), (2, .int yn), (3, .int 0), (4, .int 0), (5, .int 1), (6, .int 0), (7, .int 0)] [] (uI (uI (uI (uI (uI (uI yA 69 60 yf) 69 61 0) 69 62 yn) 69 63 (-1)) 69 64 0) 69 68 (-1)) yQ) :
    Pa N 202 0 [(0, .ref 69), (1, .int yf), (2, .int yn)] [] yA yQ := by
  refine Pa.mp 2 (pc' := 2) (l' := [(0, .ref 69), (1, .int yf), (2, .int yn)]) (st' := [.int yf, .ref 69]) (by rfl) ?_
  refine Pa.pfI (by rfl) (by rfl) (.inl rfl) (by rfl) ?_
  show Pa N 202 5 [(0, .ref 69), (1, .int yf), (2, .int yn)] [] (uI yA 69 60 yf) _
  refine Pa.mp 1 (pc' := 6) (l' := [(0, .ref 69), (1, .int yf), (2, .int yn)]) (st' := [.ref 69]) (by rfl) ?_
  refine Pa.ic (x := 0) (pc' := 7) (by rfl) (by rfl) (by decide) ?_
  refine Pa.pfI (by rfl) (by rfl) (.inl rfl) (by rfl) ?_
  show Pa N 202 10 [(0, .ref 69), (1, .int yf), (2, .int yn)] [] (uI (uI yA 69 60 yf) 69 61 0) _
  refine Pa.mp 2 (pc' := 12) (l' := [(0, .ref 69), (1, .int yf), (2, .int yn)]) (st' := [.int yn, .ref 69]) (by rfl) ?_
  refine Pa.pfI (by rfl) (by rfl) (.inl rfl) (by rfl) ?_
  show Pa N 202 15 [(0, .ref 69), (1, .int yf), (2, .int yn)] [] (uI (uI (uI yA 69 60 yf) 69 61 0) 69 62 yn) _
  refine Pa.mp 1 (pc' := 16) (l' := [(0, .ref 69), (1, .int yf), (2, .int yn)]) (st' := [.ref 69]) (by rfl) ?_
  refine Pa.ic (x := (-1)) (pc' := 17) (by rfl) (by rfl) (by decide) ?_
  refine Pa.pfI (by rfl) (by rfl) (.inl rfl) (by rfl) ?_
  show Pa N 202 20 [(0, .ref 69), (1, .int yf), (2, .int yn)] [] (uI (uI (uI (uI yA 69 60 yf) 69 61 0) 69 62 yn) 69 63 (-1)) _
  refine Pa.mp 1 (pc' := 21) (l' := [(0, .ref 69), (1, .int yf), (2, .int yn)]) (st' := [.ref 69]) (by rfl) ?_
  refine Pa.ic (x := 0) (pc' := 22) (by rfl) (by rfl) (by decide) ?_
  refine Pa.pfI (by rfl) (by rfl) (.inl rfl) (by rfl) ?_
  show Pa N 202 25 [(0, .ref 69), (1, .int yf), (2, .int yn)] [] (uI (uI (uI (uI (uI yA 69 60 yf) 69 61 0) 69 62 yn) 69 63 (-1)) 69 64 0) _
  refine Pa.mp 1 (pc' := 26) (l' := [(0, .ref 69), (1, .int yf), (2, .int yn)]) (st' := [.ref 69]) (by rfl) ?_
  refine Pa.ic (x := (-1)) (pc' := 27) (by rfl) (by rfl) (by decide) ?_
  refine Pa.pfI (by rfl) (by rfl) (.inl rfl) (by rfl) ?_
  show Pa N 202 30 [(0, .ref 69), (1, .int yf), (2, .int yn)] [] (uI (uI (uI (uI (uI (uI yA 69 60 yf) 69 61 0) 69 62 yn) 69 63 (-1)) 69 64 0) 69 68 (-1)) _
  refine Pa.ic (x := 0) (pc' := 31) (by rfl) (by rfl) (by decide) ?_
  refine Pa.mp 1 (pc' := 32) (l' := [(3, .int 0), (0, .ref 69), (1, .int yf), (2, .int yn)]) (st' := []) (by rfl) ?_
  refine Pa.ic (x := 0) (pc' := 33) (by rfl) (by rfl) (by decide) ?_
  refine Pa.mp 1 (pc' := 35) (l' := [(4, .int 0), (3, .int 0), (0, .ref 69), (1, .int yf), (2, .int yn)]) (st' := []) (by rfl) ?_
  refine Pa.ic (x := 1) (pc' := 36) (by rfl) (by rfl) (by decide) ?_
  refine Pa.mp 1 (pc' := 38) (l' := [(5, .int 1), (4, .int 0), (3, .int 0), (0, .ref 69), (1, .int yf), (2, .int yn)]) (st' := []) (by rfl) ?_
  refine Pa.lv (l' := [(0, .ref 69), (1, .int yf), (2, .int yn), (3, .int 0), (4, .int 0), (5, .int 1), (6, .int 0), (7, .int 0)]) (lvS_c rfl (lvS_c rfl (lvS_c rfl (lvS_c rfl (lvS_c rfl (lvS_c rfl (lvS_nil))))))) rfl ?_
  exact l1


theorem bm_wol {N : Nat} {yA : AW} {yQ : Option Value → AW → Prop} (yf yn yg li mo yv yh : Int32) 
    (l1 : mo.toInt = 0 → 0 ≤ (yA.1 69 63).toInt → yQ (some (.int yg)) yA)
    (l2 : mo.toInt = 0 → (yA.1 69 63).toInt < 0 → (yA.1 69 62).toInt ≤ (yA.1 69 61).toInt → yQ (some (.int yg)) yA)
    (l3 : mo.toInt = 0 → (yA.1 69 63).toInt < 0 → (yA.1 69 61).toInt < (yA.1 69 62).toInt → yQ (some (.int 0)) (uI yA 69 63 (yA.1 69 61)))
    (l4 : mo.toInt ≠ 0 → Pa N 194 0 [(0, .ref 69)] [] yA (fun yu A1 => Pa N 202 47 [(0, .ref 69), (1, .int yf), (2, .int yn), (3, .int yg), (4, .int li), (5, .int mo), (6, .int yv), (7, .int yh)] (yu.toList ++ []) A1 yQ)) :
    Pa (N + 1) 202 38 [(0, .ref 69), (1, .int yf), (2, .int yn), (3, .int yg), (4, .int li), (5, .int mo), (6, .int yv), (7, .int yh)] [] yA yQ := by
  refine Pa.mp1 0 (pc' := 40) (l' := [(0, .ref 69), (1, .int yf), (2, .int yn), (3, .int yg), (4, .int li), (5, .int mo), (6, .int yv), (7, .int yh)]) (st' := [.int mo]) (by rfl) ?_
  refine Pa.if1 (a := mo.toInt) (t := 121) (by rfl) (by rfl) (rfl) (fun h1 => ?_) (fun h2 => ?_)
  · have h1 : mo.toInt = 0 := h1
    refine Pa.mp 1 (pc' := 122) (l' := [(0, .ref 69), (1, .int yf), (2, .int yn), (3, .int yg), (4, .int li), (5, .int mo), (6, .int yv), (7, .int yh)]) (st' := [.ref 69]) (by rfl) ?_
    refine Pa.gfI (v := yA.1 69 63) (by rfl) (by rfl) (.inl rfl) (by rfl) (by rfl) ?_
    refine Pa.if1 (a := (yA.1 69 63).toInt) (t := 144) (by rfl) (by rfl) (rfl) (fun h3 => ?_) (fun h4 => ?_)
    · have h3 : 0 ≤ (yA.1 69 63).toInt := h3
      refine Pa.mp 1 (pc' := 145) (l' := [(0, .ref 69), (1, .int yf), (2, .int yn), (3, .int yg), (4, .int li), (5, .int mo), (6, .int yv), (7, .int yh)]) (st' := [.int yg]) (by rfl) ?_
      refine Pa.iret (by rfl) ?_
      exact l1 h1 h3
    · have h4 : (yA.1 69 63).toInt < 0 := h4
      refine Pa.mp 1 (pc' := 129) (l' := [(0, .ref 69), (1, .int yf), (2, .int yn), (3, .int yg), (4, .int li), (5, .int mo), (6, .int yv), (7, .int yh)]) (st' := [.ref 69]) (by rfl) ?_
      refine Pa.gfI (v := yA.1 69 61) (by rfl) (by rfl) (.inl rfl) (by rfl) (by rfl) ?_
      refine Pa.mp 1 (pc' := 133) (l' := [(0, .ref 69), (1, .int yf), (2, .int yn), (3, .int yg), (4, .int li), (5, .int mo), (6, .int yv), (7, .int yh)]) (st' := [.ref 69, .int (yA.1 69 61)]) (by rfl) ?_
      refine Pa.gfI (v := yA.1 69 62) (by rfl) (by rfl) (.inl rfl) (by rfl) (by rfl) ?_
      refine Pa.if2 (a := (yA.1 69 61).toInt) (b := (yA.1 69 62).toInt) (t := 144) (by rfl) (by rfl) (rfl) (rfl) (fun h5 => ?_) (fun h6 => ?_)
      · have h5 : (yA.1 69 62).toInt ≤ (yA.1 69 61).toInt := h5
        refine Pa.mp 1 (pc' := 145) (l' := [(0, .ref 69), (1, .int yf), (2, .int yn), (3, .int yg), (4, .int li), (5, .int mo), (6, .int yv), (7, .int yh)]) (st' := [.int yg]) (by rfl) ?_
        refine Pa.iret (by rfl) ?_
        exact l2 h1 h4 h5
      · have h6 : (yA.1 69 61).toInt < (yA.1 69 62).toInt := h6
        refine Pa.mp 1 (pc' := 140) (l' := [(0, .ref 69), (1, .int yf), (2, .int yn), (3, .int yg), (4, .int li), (5, .int mo), (6, .int yv), (7, .int yh)]) (st' := [.ref 69]) (by rfl) ?_
        refine Pa.inv (by rfl) (by rfl) (.inl rfl) (by rfl) ?_
        show Pa N 192 0 [(0, .ref 69)] [] yA _
        refine Pa.mp 2 (pc' := 2) (l' := [(0, .ref 69)]) (st' := [.ref 69, .ref 69]) (by rfl) ?_
        refine Pa.gfI (v := yA.1 69 63) (by rfl) (by rfl) (.inl rfl) (by rfl) (by rfl) ?_
        refine Pa.if1 (a := (yA.1 69 63).toInt) (t := 15) (by rfl) (by rfl) (rfl) (fun yh => (by exfalso; have h' : 0 ≤ (yA.1 69 63).toInt := yh; omega)) (fun _ => ?_)
        refine Pa.mp 1 (pc' := 9) (l' := [(0, .ref 69)]) (st' := [.ref 69, .ref 69]) (by rfl) ?_
        refine Pa.gfI (v := yA.1 69 61) (by rfl) (by rfl) (.inl rfl) (by rfl) (by rfl) ?_
        refine Pa.mp 1 (pc' := 19) (l' := [(0, .ref 69)]) (st' := [.int (yA.1 69 61), .ref 69]) (by rfl) ?_
        refine Pa.pfI (by rfl) (by rfl) (.inl rfl) (by rfl) ?_
        show Pa N 192 22 [(0, .ref 69)] [] (uI yA 69 63 (yA.1 69 61)) _
        refine Pa.ic (x := 0) (pc' := 23) (by rfl) (by rfl) (by decide) ?_
        refine Pa.iret (by rfl) ?_
        show Pa N 202 143 [(0, .ref 69), (1, .int yf), (2, .int yn), (3, .int yg), (4, .int li), (5, .int mo), (6, .int yv), (7, .int yh)] [.int 0] (uI yA 69 63 (yA.1 69 61)) _
        refine Pa.iret (by rfl) ?_
        exact l3 h1 h4 h6
  · have h2 : mo.toInt ≠ 0 := h2
    refine Pa.mp 1 (pc' := 44) (l' := [(0, .ref 69), (1, .int yf), (2, .int yn), (3, .int yg), (4, .int li), (5, .int mo), (6, .int yv), (7, .int yh)]) (st' := [.ref 69]) (by rfl) ?_
    refine Pa.inv (by rfl) (by rfl) (.inl rfl) (by rfl) ?_
    exact l4 h2


theorem bm_wo1 {N : Nat} {yA : AW} {yQ : Option Value → AW → Prop} (yf yn yg li mo yv yh yx : Int32) 
    (l1 : 0 ≤ (yA.1 69 63).toInt → Pa N 202 38 [(0, .ref 69), (1, .int yf), (2, .int yn), (3, .int yg), (4, .int (li + 1)), (5, .int 0), (6, .int yx), (7, .int 1)] [] yA yQ)
    (l2 : (yA.1 69 63).toInt < 0 → (mBy yA).toInt = 63 → yx.toInt = 0 → Pa N 194 0 [(0, .ref 69)] [] (uI yA 69 61 ((yA.1 69 61) + 1)) (fun yu A1 => Pa N 202 77 [(0, .ref 69), (1, .int yf), (2, .int yn), (3, .int yg), (4, .int li), (5, .int mo), (6, .int yx), (7, .int 0)] (yu.toList ++ []) A1 yQ))
    (l3 : (yA.1 69 63).toInt < 0 → (mBy yA).toInt = 63 → yx.toInt ≠ 0 → Pa N 194 0 [(0, .ref 69)] [] (uI yA 69 61 ((yA.1 69 61) + 1)) (fun yu A1 => Pa N 202 77 [(0, .ref 69), (1, .int yf), (2, .int yn), (3, .int yg), (4, .int li), (5, .int mo), (6, .int yx), (7, .int 1)] (yu.toList ++ []) A1 yQ))
    (l4 : (yA.1 69 63).toInt < 0 → (mBy yA).toInt ≠ 63 → 0 ≤ (yA.1 69 68).toInt → (mBy yA).toInt = 59 → Pa N 202 38 [(0, .ref 69), (1, .int yf), (2, .int yn), (3, .int yg), (4, .int (li + 1)), (5, .int 1), (6, .int yx), (7, .int 1)] [] (uI yA 69 61 ((yA.1 69 61) + 1)) yQ)
    (l5 : (yA.1 69 63).toInt < 0 → (mBy yA).toInt ≠ 63 → 0 ≤ (yA.1 69 68).toInt → (mBy yA).toInt ≠ 59 → Pa N 202 38 [(0, .ref 69), (1, .int yf), (2, .int yn), (3, .int yg), (4, .int (li + 1)), (5, .int 0), (6, .int yx), (7, .int 1)] [] yA yQ)
    (l6 : (yA.1 69 63).toInt < 0 → (mBy yA).toInt ≠ 63 → (yA.1 69 68).toInt < 0 → (mBy (uI yA 69 68 li)).toInt = 59 → Pa N 202 38 [(0, .ref 69), (1, .int yf), (2, .int yn), (3, .int yx), (4, .int (li + 1)), (5, .int 1), (6, .int yx), (7, .int 1)] [] (uI (uI yA 69 68 li) 69 61 ((yA.1 69 61) + 1)) yQ)
    (l7 : (yA.1 69 63).toInt < 0 → (mBy yA).toInt ≠ 63 → (yA.1 69 68).toInt < 0 → (mBy (uI yA 69 68 li)).toInt ≠ 59 → Pa N 202 38 [(0, .ref 69), (1, .int yf), (2, .int yn), (3, .int yx), (4, .int (li + 1)), (5, .int 0), (6, .int yx), (7, .int 1)] [] (uI yA 69 68 li) yQ) :
    Pa N 202 47 [(0, .ref 69), (1, .int yf), (2, .int yn), (3, .int yg), (4, .int li), (5, .int mo), (6, .int yv), (7, .int yh)] [.int yx] yA yQ := by
  refine Pa.mp 1 (pc' := 49) (l' := [(6, .int yx), (0, .ref 69), (1, .int yf), (2, .int yn), (3, .int yg), (4, .int li), (5, .int mo), (7, .int yh)]) (st' := []) (by rfl) ?_
  refine Pa.ic (x := 1) (pc' := 50) (by rfl) (by rfl) (by decide) ?_
  refine Pa.mp 2 (pc' := 53) (l' := [(7, .int 1), (6, .int yx), (0, .ref 69), (1, .int yf), (2, .int yn), (3, .int yg), (4, .int li), (5, .int mo)]) (st' := [.ref 69]) (by rfl) ?_
  refine Pa.ic (x := 63) (pc' := 55) (by rfl) (by rfl) (by decide) ?_
  refine Pa.inv (by rfl) (by rfl) (.inl rfl) (by rfl) ?_
  show Pa N 193 0 [(0, .ref 69), (1, .int 63)] [] yA _
  refine Pa.mp 1 (pc' := 1) (l' := [(0, .ref 69), (1, .int 63)]) (st' := [.ref 69]) (by rfl) ?_
  refine Pa.gfI (v := yA.1 69 63) (by rfl) (by rfl) (.inl rfl) (by rfl) (by rfl) ?_
  refine Pa.if1 (a := (yA.1 69 63).toInt) (t := 15) (by rfl) (by rfl) (rfl) (fun h1 => ?_) (fun h2 => ?_)
  · have h1 : 0 ≤ (yA.1 69 63).toInt := h1
    refine Pa.ic (x := 0) (pc' := 16) (by rfl) (by rfl) (by decide) ?_
    refine Pa.iret (by rfl) ?_
    show Pa N 202 58 [(7, .int 1), (6, .int yx), (0, .ref 69), (1, .int yf), (2, .int yn), (3, .int yg), (4, .int li), (5, .int mo)] [.int 0] yA _
    refine Pa.if1k true (by rfl) (by rfl) (by decide) ?_
    show Pa N 202 79 [(7, .int 1), (6, .int yx), (0, .ref 69), (1, .int yf), (2, .int yn), (3, .int yg), (4, .int li), (5, .int mo)] [] yA _
    refine Pa.mp 1 (pc' := 80) (l' := [(7, .int 1), (6, .int yx), (0, .ref 69), (1, .int yf), (2, .int yn), (3, .int yg), (4, .int li), (5, .int mo)]) (st' := [.ref 69]) (by rfl) ?_
    refine Pa.gfI (v := yA.1 69 63) (by rfl) (by rfl) (.inl rfl) (by rfl) (by rfl) ?_
    refine Pa.if1 (a := (yA.1 69 63).toInt) (t := 107) (by rfl) (by rfl) (rfl) (fun _ => ?_) (fun yh => (by exfalso; have h' : (yA.1 69 63).toInt < 0 := yh; omega))
    refine Pa.iinc (x := li) (c := 1) (v := (li + 1)) (l' := [(4, .int (li + 1)), (7, .int 1), (6, .int yx), (0, .ref 69), (1, .int yf), (2, .int yn), (3, .int yg), (5, .int mo)]) (by rfl) (by rfl) (by decide) (by rfl) (by rfl) ?_
    refine Pa.mp 1 (pc' := 111) (l' := [(4, .int (li + 1)), (7, .int 1), (6, .int yx), (0, .ref 69), (1, .int yf), (2, .int yn), (3, .int yg), (5, .int mo)]) (st' := [.ref 69]) (by rfl) ?_
    refine Pa.ic (x := 59) (pc' := 113) (by rfl) (by rfl) (by decide) ?_
    refine Pa.inv (by rfl) (by rfl) (.inl rfl) (by rfl) ?_
    show Pa N 193 0 [(0, .ref 69), (1, .int 59)] [] yA _
    refine Pa.mp 1 (pc' := 1) (l' := [(0, .ref 69), (1, .int 59)]) (st' := [.ref 69]) (by rfl) ?_
    refine Pa.gfI (v := yA.1 69 63) (by rfl) (by rfl) (.inl rfl) (by rfl) (by rfl) ?_
    refine Pa.if1 (a := (yA.1 69 63).toInt) (t := 15) (by rfl) (by rfl) (rfl) (fun _ => ?_) (fun yh => (by exfalso; have h' : (yA.1 69 63).toInt < 0 := yh; omega))
    refine Pa.ic (x := 0) (pc' := 16) (by rfl) (by rfl) (by decide) ?_
    refine Pa.iret (by rfl) ?_
    show Pa N 202 116 [(4, .int (li + 1)), (7, .int 1), (6, .int yx), (0, .ref 69), (1, .int yf), (2, .int yn), (3, .int yg), (5, .int mo)] [.int 0] yA _
    refine Pa.mp 2 (pc' := 38) (l' := [(5, .int 0), (4, .int (li + 1)), (7, .int 1), (6, .int yx), (0, .ref 69), (1, .int yf), (2, .int yn), (3, .int yg)]) (st' := []) (by rfl) ?_
    refine Pa.lv (l' := [(0, .ref 69), (1, .int yf), (2, .int yn), (3, .int yg), (4, .int (li + 1)), (5, .int 0), (6, .int yx), (7, .int 1)]) (lvS_c rfl (lvS_c rfl (lvS_c rfl (lvS_c rfl (lvS_c rfl (lvS_c rfl (lvS_c rfl (lvS_c rfl (lvS_nil))))))))) rfl ?_
    exact l1 h1
  · have h2 : (yA.1 69 63).toInt < 0 := h2
    refine Pa.mp 1 (pc' := 8) (l' := [(0, .ref 69), (1, .int 63)]) (st' := [.ref 69]) (by rfl) ?_
    refine Pa.inv (by rfl) (by rfl) (.inl rfl) (by rfl) ?_
    refine Pa.mono (c_byteAt N yA) (fun yu A1 hu => ?_)
    obtain ⟨rfl, hu⟩ := hu
    rw [hu]
    show Pa N 193 11 [(0, .ref 69), (1, .int 63)] [.int (mBy yA)] yA _
    refine Pa.mp 1 (pc' := 12) (l' := [(0, .ref 69), (1, .int 63)]) (st' := [.int 63, .int (mBy yA)]) (by rfl) ?_
    refine Pa.if2 (a := (mBy yA).toInt) (b := 63) (t := 17) (by rfl) (by rfl) (rfl) (by decide) (fun h5 => ?_) (fun h6 => ?_)
    · have h5 : (mBy yA).toInt = 63 := h5
      refine Pa.mp 2 (pc' := 19) (l' := [(0, .ref 69), (1, .int 63)]) (st' := [.ref 69, .ref 69]) (by rfl) ?_
      refine Pa.gfI (v := yA.1 69 61) (by rfl) (by rfl) (.inl rfl) (by rfl) (by rfl) ?_
      refine Pa.ic (x := 1) (pc' := 23) (by rfl) (by rfl) (by decide) ?_
      refine Pa.mp 1 (pc' := 24) (l' := [(0, .ref 69), (1, .int 63)]) (st' := [.int ((yA.1 69 61) + 1), .ref 69]) (by rfl) ?_
      refine Pa.pfI (by rfl) (by rfl) (.inl rfl) (by rfl) ?_
      show Pa N 193 27 [(0, .ref 69), (1, .int 63)] [] (uI yA 69 61 ((yA.1 69 61) + 1)) _
      refine Pa.ic (x := 1) (pc' := 28) (by rfl) (by rfl) (by decide) ?_
      refine Pa.iret (by rfl) ?_
      show Pa N 202 58 [(7, .int 1), (6, .int yx), (0, .ref 69), (1, .int yf), (2, .int yn), (3, .int yg), (4, .int li), (5, .int mo)] [.int 1] (uI yA 69 61 ((yA.1 69 61) + 1)) _
      refine Pa.if1k false (by rfl) (by rfl) (by decide) ?_
      show Pa N 202 61 [(7, .int 1), (6, .int yx), (0, .ref 69), (1, .int yf), (2, .int yn), (3, .int yg), (4, .int li), (5, .int mo)] [] (uI yA 69 61 ((yA.1 69 61) + 1)) _
      refine Pa.mp 1 (pc' := 63) (l' := [(7, .int 1), (6, .int yx), (0, .ref 69), (1, .int yf), (2, .int yn), (3, .int yg), (4, .int li), (5, .int mo)]) (st' := [.int yx]) (by rfl) ?_
      refine Pa.if1 (a := yx.toInt) (t := 70) (by rfl) (by rfl) (rfl) (fun h7 => ?_) (fun h8 => ?_)
      · have h7 : yx.toInt = 0 := h7
        refine Pa.ic (x := 0) (pc' := 71) (by rfl) (by rfl) (by decide) ?_
        refine Pa.mp 2 (pc' := 74) (l' := [(7, .int 0), (6, .int yx), (0, .ref 69), (1, .int yf), (2, .int yn), (3, .int yg), (4, .int li), (5, .int mo)]) (st' := [.ref 69]) (by rfl) ?_
        refine Pa.lv (l' := [(0, .ref 69), (1, .int yf), (2, .int yn), (3, .int yg), (4, .int li), (5, .int mo), (6, .int yx), (7, .int 0)]) (lvS_c rfl (lvS_c rfl (lvS_c rfl (lvS_c rfl (lvS_c rfl (lvS_c rfl (lvS_c rfl (lvS_c rfl (lvS_nil))))))))) rfl ?_
        refine Pa.inv (by rfl) (by rfl) (.inl rfl) (by rfl) ?_
        exact l2 h2 h5 h7
      · have h8 : yx.toInt ≠ 0 := h8
        refine Pa.ic (x := 1) (pc' := 67) (by rfl) (by rfl) (by decide) ?_
        refine Pa.mp 3 (pc' := 74) (l' := [(7, .int 1), (6, .int yx), (0, .ref 69), (1, .int yf), (2, .int yn), (3, .int yg), (4, .int li), (5, .int mo)]) (st' := [.ref 69]) (by rfl) ?_
        refine Pa.lv (l' := [(0, .ref 69), (1, .int yf), (2, .int yn), (3, .int yg), (4, .int li), (5, .int mo), (6, .int yx), (7, .int 1)]) (lvS_c rfl (lvS_c rfl (lvS_c rfl (lvS_c rfl (lvS_c rfl (lvS_c rfl (lvS_c rfl (lvS_c rfl (lvS_nil))))))))) rfl ?_
        refine Pa.inv (by rfl) (by rfl) (.inl rfl) (by rfl) ?_
        exact l3 h2 h5 h8
    · have h6 : (mBy yA).toInt ≠ 63 := h6
      refine Pa.ic (x := 0) (pc' := 16) (by rfl) (by rfl) (by decide) ?_
      refine Pa.iret (by rfl) ?_
      show Pa N 202 58 [(7, .int 1), (6, .int yx), (0, .ref 69), (1, .int yf), (2, .int yn), (3, .int yg), (4, .int li), (5, .int mo)] [.int 0] yA _
      refine Pa.if1k true (by rfl) (by rfl) (by decide) ?_
      show Pa N 202 79 [(7, .int 1), (6, .int yx), (0, .ref 69), (1, .int yf), (2, .int yn), (3, .int yg), (4, .int li), (5, .int mo)] [] yA _
      refine Pa.mp 1 (pc' := 80) (l' := [(7, .int 1), (6, .int yx), (0, .ref 69), (1, .int yf), (2, .int yn), (3, .int yg), (4, .int li), (5, .int mo)]) (st' := [.ref 69]) (by rfl) ?_
      refine Pa.gfI (v := yA.1 69 63) (by rfl) (by rfl) (.inl rfl) (by rfl) (by rfl) ?_
      refine Pa.if1 (a := (yA.1 69 63).toInt) (t := 107) (by rfl) (by rfl) (rfl) (fun yh => (by exfalso; have h' : 0 ≤ (yA.1 69 63).toInt := yh; omega)) (fun _ => ?_)
      refine Pa.mp 1 (pc' := 88) (l' := [(7, .int 1), (6, .int yx), (0, .ref 69), (1, .int yf), (2, .int yn), (3, .int yg), (4, .int li), (5, .int mo)]) (st' := [.int 1]) (by rfl) ?_
      refine Pa.if1k false (by rfl) (by rfl) (by decide) ?_
      show Pa N 202 91 [(7, .int 1), (6, .int yx), (0, .ref 69), (1, .int yf), (2, .int yn), (3, .int yg), (4, .int li), (5, .int mo)] [] yA _
      refine Pa.mp 1 (pc' := 92) (l' := [(7, .int 1), (6, .int yx), (0, .ref 69), (1, .int yf), (2, .int yn), (3, .int yg), (4, .int li), (5, .int mo)]) (st' := [.ref 69]) (by rfl) ?_
      refine Pa.gfI (v := yA.1 69 68) (by rfl) (by rfl) (.inl rfl) (by rfl) (by rfl) ?_
      refine Pa.if1 (a := (yA.1 69 68).toInt) (t := 107) (by rfl) (by rfl) (rfl) (fun h10 => ?_) (fun h11 => ?_)
      · have h10 : 0 ≤ (yA.1 69 68).toInt := h10
        refine Pa.iinc (x := li) (c := 1) (v := (li + 1)) (l' := [(4, .int (li + 1)), (7, .int 1), (6, .int yx), (0, .ref 69), (1, .int yf), (2, .int yn), (3, .int yg), (5, .int mo)]) (by rfl) (by rfl) (by decide) (by rfl) (by rfl) ?_
        refine Pa.mp 1 (pc' := 111) (l' := [(4, .int (li + 1)), (7, .int 1), (6, .int yx), (0, .ref 69), (1, .int yf), (2, .int yn), (3, .int yg), (5, .int mo)]) (st' := [.ref 69]) (by rfl) ?_
        refine Pa.ic (x := 59) (pc' := 113) (by rfl) (by rfl) (by decide) ?_
        refine Pa.inv (by rfl) (by rfl) (.inl rfl) (by rfl) ?_
        show Pa N 193 0 [(0, .ref 69), (1, .int 59)] [] yA _
        refine Pa.mp 1 (pc' := 1) (l' := [(0, .ref 69), (1, .int 59)]) (st' := [.ref 69]) (by rfl) ?_
        refine Pa.gfI (v := yA.1 69 63) (by rfl) (by rfl) (.inl rfl) (by rfl) (by rfl) ?_
        refine Pa.if1 (a := (yA.1 69 63).toInt) (t := 15) (by rfl) (by rfl) (rfl) (fun yh => (by exfalso; have h' : 0 ≤ (yA.1 69 63).toInt := yh; omega)) (fun _ => ?_)
        refine Pa.mp 1 (pc' := 8) (l' := [(0, .ref 69), (1, .int 59)]) (st' := [.ref 69]) (by rfl) ?_
        refine Pa.inv (by rfl) (by rfl) (.inl rfl) (by rfl) ?_
        refine Pa.mono (c_byteAt N yA) (fun yu A1 hu => ?_)
        obtain ⟨rfl, hu⟩ := hu
        rw [hu]
        show Pa N 193 11 [(0, .ref 69), (1, .int 59)] [.int (mBy yA)] yA _
        refine Pa.mp 1 (pc' := 12) (l' := [(0, .ref 69), (1, .int 59)]) (st' := [.int 59, .int (mBy yA)]) (by rfl) ?_
        refine Pa.if2 (a := (mBy yA).toInt) (b := 59) (t := 17) (by rfl) (by rfl) (rfl) (by decide) (fun h13 => ?_) (fun h14 => ?_)
        · have h13 : (mBy yA).toInt = 59 := h13
          refine Pa.mp 2 (pc' := 19) (l' := [(0, .ref 69), (1, .int 59)]) (st' := [.ref 69, .ref 69]) (by rfl) ?_
          refine Pa.gfI (v := yA.1 69 61) (by rfl) (by rfl) (.inl rfl) (by rfl) (by rfl) ?_
          refine Pa.ic (x := 1) (pc' := 23) (by rfl) (by rfl) (by decide) ?_
          refine Pa.mp 1 (pc' := 24) (l' := [(0, .ref 69), (1, .int 59)]) (st' := [.int ((yA.1 69 61) + 1), .ref 69]) (by rfl) ?_
          refine Pa.pfI (by rfl) (by rfl) (.inl rfl) (by rfl) ?_
          show Pa N 193 27 [(0, .ref 69), (1, .int 59)] [] (uI yA 69 61 ((yA.1 69 61) + 1)) _
          refine Pa.ic (x := 1) (pc' := 28) (by rfl) (by rfl) (by decide) ?_
          refine Pa.iret (by rfl) ?_
          show Pa N 202 116 [(4, .int (li + 1)), (7, .int 1), (6, .int yx), (0, .ref 69), (1, .int yf), (2, .int yn), (3, .int yg), (5, .int mo)] [.int 1] (uI yA 69 61 ((yA.1 69 61) + 1)) _
          refine Pa.mp 2 (pc' := 38) (l' := [(5, .int 1), (4, .int (li + 1)), (7, .int 1), (6, .int yx), (0, .ref 69), (1, .int yf), (2, .int yn), (3, .int yg)]) (st' := []) (by rfl) ?_
          refine Pa.lv (l' := [(0, .ref 69), (1, .int yf), (2, .int yn), (3, .int yg), (4, .int (li + 1)), (5, .int 1), (6, .int yx), (7, .int 1)]) (lvS_c rfl (lvS_c rfl (lvS_c rfl (lvS_c rfl (lvS_c rfl (lvS_c rfl (lvS_c rfl (lvS_c rfl (lvS_nil))))))))) rfl ?_
          exact l4 h2 h6 h10 h13
        · have h14 : (mBy yA).toInt ≠ 59 := h14
          refine Pa.ic (x := 0) (pc' := 16) (by rfl) (by rfl) (by decide) ?_
          refine Pa.iret (by rfl) ?_
          show Pa N 202 116 [(4, .int (li + 1)), (7, .int 1), (6, .int yx), (0, .ref 69), (1, .int yf), (2, .int yn), (3, .int yg), (5, .int mo)] [.int 0] yA _
          refine Pa.mp 2 (pc' := 38) (l' := [(5, .int 0), (4, .int (li + 1)), (7, .int 1), (6, .int yx), (0, .ref 69), (1, .int yf), (2, .int yn), (3, .int yg)]) (st' := []) (by rfl) ?_
          refine Pa.lv (l' := [(0, .ref 69), (1, .int yf), (2, .int yn), (3, .int yg), (4, .int (li + 1)), (5, .int 0), (6, .int yx), (7, .int 1)]) (lvS_c rfl (lvS_c rfl (lvS_c rfl (lvS_c rfl (lvS_c rfl (lvS_c rfl (lvS_c rfl (lvS_c rfl (lvS_nil))))))))) rfl ?_
          exact l5 h2 h6 h10 h14
      · have h11 : (yA.1 69 68).toInt < 0 := h11
        refine Pa.mp 2 (pc' := 101) (l' := [(7, .int 1), (6, .int yx), (0, .ref 69), (1, .int yf), (2, .int yn), (3, .int yg), (4, .int li), (5, .int mo)]) (st' := [.int li, .ref 69]) (by rfl) ?_
        refine Pa.pfI (by rfl) (by rfl) (.inl rfl) (by rfl) ?_
        show Pa N 202 104 [(7, .int 1), (6, .int yx), (0, .ref 69), (1, .int yf), (2, .int yn), (3, .int yg), (4, .int li), (5, .int mo)] [] (uI yA 69 68 li) _
        refine Pa.mp 2 (pc' := 107) (l' := [(3, .int yx), (7, .int 1), (6, .int yx), (0, .ref 69), (1, .int yf), (2, .int yn), (4, .int li), (5, .int mo)]) (st' := []) (by rfl) ?_
        refine Pa.iinc (x := li) (c := 1) (v := (li + 1)) (l' := [(4, .int (li + 1)), (3, .int yx), (7, .int 1), (6, .int yx), (0, .ref 69), (1, .int yf), (2, .int yn), (5, .int mo)]) (by rfl) (by rfl) (by decide) (by rfl) (by rfl) ?_
        refine Pa.mp 1 (pc' := 111) (l' := [(4, .int (li + 1)), (3, .int yx), (7, .int 1), (6, .int yx), (0, .ref 69), (1, .int yf), (2, .int yn), (5, .int mo)]) (st' := [.ref 69]) (by rfl) ?_
        refine Pa.ic (x := 59) (pc' := 113) (by rfl) (by rfl) (by decide) ?_
        refine Pa.inv (by rfl) (by rfl) (.inl rfl) (by rfl) ?_
        show Pa N 193 0 [(0, .ref 69), (1, .int 59)] [] (uI yA 69 68 li) _
        refine Pa.mp 1 (pc' := 1) (l' := [(0, .ref 69), (1, .int 59)]) (st' := [.ref 69]) (by rfl) ?_
        refine Pa.gfI (v := yA.1 69 63) (by rfl) (by rfl) (.inl rfl) (by rfl) (by show (uI yA 69 68 li).1 69 63 = yA.1 69 63; rw [uI_k (by decide)]) ?_
        refine Pa.if1 (a := (yA.1 69 63).toInt) (t := 15) (by rfl) (by rfl) (rfl) (fun yh => (by exfalso; have h' : 0 ≤ (yA.1 69 63).toInt := yh; omega)) (fun _ => ?_)
        refine Pa.mp 1 (pc' := 8) (l' := [(0, .ref 69), (1, .int 59)]) (st' := [.ref 69]) (by rfl) ?_
        refine Pa.inv (by rfl) (by rfl) (.inl rfl) (by rfl) ?_
        refine Pa.mono (c_byteAt N (uI yA 69 68 li)) (fun yu A1 hu => ?_)
        obtain ⟨rfl, hu⟩ := hu
        rw [hu]
        show Pa N 193 11 [(0, .ref 69), (1, .int 59)] [.int (mBy (uI yA 69 68 li))] (uI yA 69 68 li) _
        refine Pa.mp 1 (pc' := 12) (l' := [(0, .ref 69), (1, .int 59)]) (st' := [.int 59, .int (mBy (uI yA 69 68 li))]) (by rfl) ?_
        refine Pa.if2 (a := (mBy (uI yA 69 68 li)).toInt) (b := 59) (t := 17) (by rfl) (by rfl) (rfl) (by decide) (fun yh16 => ?_) (fun h17 => ?_)
        · have yh16 : (mBy (uI yA 69 68 li)).toInt = 59 := yh16
          refine Pa.mp 2 (pc' := 19) (l' := [(0, .ref 69), (1, .int 59)]) (st' := [.ref 69, .ref 69]) (by rfl) ?_
          refine Pa.gfI (v := yA.1 69 61) (by rfl) (by rfl) (.inl rfl) (by rfl) (by show (uI yA 69 68 li).1 69 61 = yA.1 69 61; rw [uI_k (by decide)]) ?_
          refine Pa.ic (x := 1) (pc' := 23) (by rfl) (by rfl) (by decide) ?_
          refine Pa.mp 1 (pc' := 24) (l' := [(0, .ref 69), (1, .int 59)]) (st' := [.int ((yA.1 69 61) + 1), .ref 69]) (by rfl) ?_
          refine Pa.pfI (by rfl) (by rfl) (.inl rfl) (by rfl) ?_
          show Pa N 193 27 [(0, .ref 69), (1, .int 59)] [] (uI (uI yA 69 68 li) 69 61 ((yA.1 69 61) + 1)) _
          refine Pa.ic (x := 1) (pc' := 28) (by rfl) (by rfl) (by decide) ?_
          refine Pa.iret (by rfl) ?_
          show Pa N 202 116 [(4, .int (li + 1)), (3, .int yx), (7, .int 1), (6, .int yx), (0, .ref 69), (1, .int yf), (2, .int yn), (5, .int mo)] [.int 1] (uI (uI yA 69 68 li) 69 61 ((yA.1 69 61) + 1)) _
          refine Pa.mp 2 (pc' := 38) (l' := [(5, .int 1), (4, .int (li + 1)), (3, .int yx), (7, .int 1), (6, .int yx), (0, .ref 69), (1, .int yf), (2, .int yn)]) (st' := []) (by rfl) ?_
          refine Pa.lv (l' := [(0, .ref 69), (1, .int yf), (2, .int yn), (3, .int yx), (4, .int (li + 1)), (5, .int 1), (6, .int yx), (7, .int 1)]) (lvS_c rfl (lvS_c rfl (lvS_c rfl (lvS_c rfl (lvS_c rfl (lvS_c rfl (lvS_c rfl (lvS_c rfl (lvS_nil))))))))) rfl ?_
          exact l6 h2 h6 h11 yh16
        · have h17 : (mBy (uI yA 69 68 li)).toInt ≠ 59 := h17
          refine Pa.ic (x := 0) (pc' := 16) (by rfl) (by rfl) (by decide) ?_
          refine Pa.iret (by rfl) ?_
          show Pa N 202 116 [(4, .int (li + 1)), (3, .int yx), (7, .int 1), (6, .int yx), (0, .ref 69), (1, .int yf), (2, .int yn), (5, .int mo)] [.int 0] (uI yA 69 68 li) _
          refine Pa.mp 2 (pc' := 38) (l' := [(5, .int 0), (4, .int (li + 1)), (3, .int yx), (7, .int 1), (6, .int yx), (0, .ref 69), (1, .int yf), (2, .int yn)]) (st' := []) (by rfl) ?_
          refine Pa.lv (l' := [(0, .ref 69), (1, .int yf), (2, .int yn), (3, .int yx), (4, .int (li + 1)), (5, .int 0), (6, .int yx), (7, .int 1)]) (lvS_c rfl (lvS_c rfl (lvS_c rfl (lvS_c rfl (lvS_c rfl (lvS_c rfl (lvS_c rfl (lvS_c rfl (lvS_nil))))))))) rfl ?_
          exact l7 h2 h6 h11 h17


theorem bm_wo2 {N : Nat} {yA : AW} {yQ : Option Value → AW → Prop} (yf yn yg li mo yv yh yx : Int32) 
    (l1 : 0 ≤ (yA.1 69 63).toInt → Pa N 202 38 [(0, .ref 69), (1, .int yf), (2, .int yn), (3, .int yg), (4, .int (li + 1)), (5, .int 0), (6, .int yx), (7, .int yh)] [] yA yQ)
    (l2 : (yA.1 69 63).toInt < 0 → yh.toInt = 0 → (mBy yA).toInt = 59 → Pa N 202 38 [(0, .ref 69), (1, .int yf), (2, .int yn), (3, .int yg), (4, .int (li + 1)), (5, .int 1), (6, .int yx), (7, .int yh)] [] (uI yA 69 61 ((yA.1 69 61) + 1)) yQ)
    (l3 : (yA.1 69 63).toInt < 0 → yh.toInt = 0 → (mBy yA).toInt ≠ 59 → Pa N 202 38 [(0, .ref 69), (1, .int yf), (2, .int yn), (3, .int yg), (4, .int (li + 1)), (5, .int 0), (6, .int yx), (7, .int yh)] [] yA yQ)
    (l4 : (yA.1 69 63).toInt < 0 → yh.toInt ≠ 0 → 0 ≤ (yA.1 69 68).toInt → (mBy yA).toInt = 59 → Pa N 202 38 [(0, .ref 69), (1, .int yf), (2, .int yn), (3, .int yg), (4, .int (li + 1)), (5, .int 1), (6, .int yx), (7, .int yh)] [] (uI yA 69 61 ((yA.1 69 61) + 1)) yQ)
    (l5 : (yA.1 69 63).toInt < 0 → yh.toInt ≠ 0 → 0 ≤ (yA.1 69 68).toInt → (mBy yA).toInt ≠ 59 → Pa N 202 38 [(0, .ref 69), (1, .int yf), (2, .int yn), (3, .int yg), (4, .int (li + 1)), (5, .int 0), (6, .int yx), (7, .int yh)] [] yA yQ)
    (l6 : (yA.1 69 63).toInt < 0 → yh.toInt ≠ 0 → (yA.1 69 68).toInt < 0 → (mBy (uI yA 69 68 li)).toInt = 59 → Pa N 202 38 [(0, .ref 69), (1, .int yf), (2, .int yn), (3, .int yx), (4, .int (li + 1)), (5, .int 1), (6, .int yx), (7, .int yh)] [] (uI (uI yA 69 68 li) 69 61 ((yA.1 69 61) + 1)) yQ)
    (l7 : (yA.1 69 63).toInt < 0 → yh.toInt ≠ 0 → (yA.1 69 68).toInt < 0 → (mBy (uI yA 69 68 li)).toInt ≠ 59 → Pa N 202 38 [(0, .ref 69), (1, .int yf), (2, .int yn), (3, .int yx), (4, .int (li + 1)), (5, .int 0), (6, .int yx), (7, .int yh)] [] (uI yA 69 68 li) yQ) :
    Pa N 202 77 [(0, .ref 69), (1, .int yf), (2, .int yn), (3, .int yg), (4, .int li), (5, .int mo), (6, .int yv), (7, .int yh)] [.int yx] yA yQ := by
  refine Pa.mp 2 (pc' := 80) (l' := [(6, .int yx), (0, .ref 69), (1, .int yf), (2, .int yn), (3, .int yg), (4, .int li), (5, .int mo), (7, .int yh)]) (st' := [.ref 69]) (by rfl) ?_
  refine Pa.gfI (v := yA.1 69 63) (by rfl) (by rfl) (.inl rfl) (by rfl) (by rfl) ?_
  refine Pa.if1 (a := (yA.1 69 63).toInt) (t := 107) (by rfl) (by rfl) (rfl) (fun h1 => ?_) (fun h2 => ?_)
  · have h1 : 0 ≤ (yA.1 69 63).toInt := h1
    refine Pa.iinc (x := li) (c := 1) (v := (li + 1)) (l' := [(4, .int (li + 1)), (6, .int yx), (0, .ref 69), (1, .int yf), (2, .int yn), (3, .int yg), (5, .int mo), (7, .int yh)]) (by rfl) (by rfl) (by decide) (by rfl) (by rfl) ?_
    refine Pa.mp 1 (pc' := 111) (l' := [(4, .int (li + 1)), (6, .int yx), (0, .ref 69), (1, .int yf), (2, .int yn), (3, .int yg), (5, .int mo), (7, .int yh)]) (st' := [.ref 69]) (by rfl) ?_
    refine Pa.ic (x := 59) (pc' := 113) (by rfl) (by rfl) (by decide) ?_
    refine Pa.inv (by rfl) (by rfl) (.inl rfl) (by rfl) ?_
    show Pa N 193 0 [(0, .ref 69), (1, .int 59)] [] yA _
    refine Pa.mp 1 (pc' := 1) (l' := [(0, .ref 69), (1, .int 59)]) (st' := [.ref 69]) (by rfl) ?_
    refine Pa.gfI (v := yA.1 69 63) (by rfl) (by rfl) (.inl rfl) (by rfl) (by rfl) ?_
    refine Pa.if1 (a := (yA.1 69 63).toInt) (t := 15) (by rfl) (by rfl) (rfl) (fun _ => ?_) (fun yh => (by exfalso; have h' : (yA.1 69 63).toInt < 0 := yh; omega))
    refine Pa.ic (x := 0) (pc' := 16) (by rfl) (by rfl) (by decide) ?_
    refine Pa.iret (by rfl) ?_
    show Pa N 202 116 [(4, .int (li + 1)), (6, .int yx), (0, .ref 69), (1, .int yf), (2, .int yn), (3, .int yg), (5, .int mo), (7, .int yh)] [.int 0] yA _
    refine Pa.mp 2 (pc' := 38) (l' := [(5, .int 0), (4, .int (li + 1)), (6, .int yx), (0, .ref 69), (1, .int yf), (2, .int yn), (3, .int yg), (7, .int yh)]) (st' := []) (by rfl) ?_
    refine Pa.lv (l' := [(0, .ref 69), (1, .int yf), (2, .int yn), (3, .int yg), (4, .int (li + 1)), (5, .int 0), (6, .int yx), (7, .int yh)]) (lvS_c rfl (lvS_c rfl (lvS_c rfl (lvS_c rfl (lvS_c rfl (lvS_c rfl (lvS_c rfl (lvS_c rfl (lvS_nil))))))))) rfl ?_
    exact l1 h1
  · have h2 : (yA.1 69 63).toInt < 0 := h2
    refine Pa.mp 1 (pc' := 88) (l' := [(6, .int yx), (0, .ref 69), (1, .int yf), (2, .int yn), (3, .int yg), (4, .int li), (5, .int mo), (7, .int yh)]) (st' := [.int yh]) (by rfl) ?_
    refine Pa.if1 (a := yh.toInt) (t := 107) (by rfl) (by rfl) (rfl) (fun h4 => ?_) (fun h5 => ?_)
    · have h4 : yh.toInt = 0 := h4
      refine Pa.iinc (x := li) (c := 1) (v := (li + 1)) (l' := [(4, .int (li + 1)), (6, .int yx), (0, .ref 69), (1, .int yf), (2, .int yn), (3, .int yg), (5, .int mo), (7, .int yh)]) (by rfl) (by rfl) (by decide) (by rfl) (by rfl) ?_
      refine Pa.mp 1 (pc' := 111) (l' := [(4, .int (li + 1)), (6, .int yx), (0, .ref 69), (1, .int yf), (2, .int yn), (3, .int yg), (5, .int mo), (7, .int yh)]) (st' := [.ref 69]) (by rfl) ?_
      refine Pa.ic (x := 59) (pc' := 113) (by rfl) (by rfl) (by decide) ?_
      refine Pa.inv (by rfl) (by rfl) (.inl rfl) (by rfl) ?_
      show Pa N 193 0 [(0, .ref 69), (1, .int 59)] [] yA _
      refine Pa.mp 1 (pc' := 1) (l' := [(0, .ref 69), (1, .int 59)]) (st' := [.ref 69]) (by rfl) ?_
      refine Pa.gfI (v := yA.1 69 63) (by rfl) (by rfl) (.inl rfl) (by rfl) (by rfl) ?_
      refine Pa.if1 (a := (yA.1 69 63).toInt) (t := 15) (by rfl) (by rfl) (rfl) (fun yh => (by exfalso; have h' : 0 ≤ (yA.1 69 63).toInt := yh; omega)) (fun _ => ?_)
      refine Pa.mp 1 (pc' := 8) (l' := [(0, .ref 69), (1, .int 59)]) (st' := [.ref 69]) (by rfl) ?_
      refine Pa.inv (by rfl) (by rfl) (.inl rfl) (by rfl) ?_
      refine Pa.mono (c_byteAt N yA) (fun yu A1 hu => ?_)
      obtain ⟨rfl, hu⟩ := hu
      rw [hu]
      show Pa N 193 11 [(0, .ref 69), (1, .int 59)] [.int (mBy yA)] yA _
      refine Pa.mp 1 (pc' := 12) (l' := [(0, .ref 69), (1, .int 59)]) (st' := [.int 59, .int (mBy yA)]) (by rfl) ?_
      refine Pa.if2 (a := (mBy yA).toInt) (b := 59) (t := 17) (by rfl) (by rfl) (rfl) (by decide) (fun h7 => ?_) (fun h8 => ?_)
      · have h7 : (mBy yA).toInt = 59 := h7
        refine Pa.mp 2 (pc' := 19) (l' := [(0, .ref 69), (1, .int 59)]) (st' := [.ref 69, .ref 69]) (by rfl) ?_
        refine Pa.gfI (v := yA.1 69 61) (by rfl) (by rfl) (.inl rfl) (by rfl) (by rfl) ?_
        refine Pa.ic (x := 1) (pc' := 23) (by rfl) (by rfl) (by decide) ?_
        refine Pa.mp 1 (pc' := 24) (l' := [(0, .ref 69), (1, .int 59)]) (st' := [.int ((yA.1 69 61) + 1), .ref 69]) (by rfl) ?_
        refine Pa.pfI (by rfl) (by rfl) (.inl rfl) (by rfl) ?_
        show Pa N 193 27 [(0, .ref 69), (1, .int 59)] [] (uI yA 69 61 ((yA.1 69 61) + 1)) _
        refine Pa.ic (x := 1) (pc' := 28) (by rfl) (by rfl) (by decide) ?_
        refine Pa.iret (by rfl) ?_
        show Pa N 202 116 [(4, .int (li + 1)), (6, .int yx), (0, .ref 69), (1, .int yf), (2, .int yn), (3, .int yg), (5, .int mo), (7, .int yh)] [.int 1] (uI yA 69 61 ((yA.1 69 61) + 1)) _
        refine Pa.mp 2 (pc' := 38) (l' := [(5, .int 1), (4, .int (li + 1)), (6, .int yx), (0, .ref 69), (1, .int yf), (2, .int yn), (3, .int yg), (7, .int yh)]) (st' := []) (by rfl) ?_
        refine Pa.lv (l' := [(0, .ref 69), (1, .int yf), (2, .int yn), (3, .int yg), (4, .int (li + 1)), (5, .int 1), (6, .int yx), (7, .int yh)]) (lvS_c rfl (lvS_c rfl (lvS_c rfl (lvS_c rfl (lvS_c rfl (lvS_c rfl (lvS_c rfl (lvS_c rfl (lvS_nil))))))))) rfl ?_
        exact l2 h2 h4 h7
      · have h8 : (mBy yA).toInt ≠ 59 := h8
        refine Pa.ic (x := 0) (pc' := 16) (by rfl) (by rfl) (by decide) ?_
        refine Pa.iret (by rfl) ?_
        show Pa N 202 116 [(4, .int (li + 1)), (6, .int yx), (0, .ref 69), (1, .int yf), (2, .int yn), (3, .int yg), (5, .int mo), (7, .int yh)] [.int 0] yA _
        refine Pa.mp 2 (pc' := 38) (l' := [(5, .int 0), (4, .int (li + 1)), (6, .int yx), (0, .ref 69), (1, .int yf), (2, .int yn), (3, .int yg), (7, .int yh)]) (st' := []) (by rfl) ?_
        refine Pa.lv (l' := [(0, .ref 69), (1, .int yf), (2, .int yn), (3, .int yg), (4, .int (li + 1)), (5, .int 0), (6, .int yx), (7, .int yh)]) (lvS_c rfl (lvS_c rfl (lvS_c rfl (lvS_c rfl (lvS_c rfl (lvS_c rfl (lvS_c rfl (lvS_c rfl (lvS_nil))))))))) rfl ?_
        exact l3 h2 h4 h8
    · have h5 : yh.toInt ≠ 0 := h5
      refine Pa.mp 1 (pc' := 92) (l' := [(6, .int yx), (0, .ref 69), (1, .int yf), (2, .int yn), (3, .int yg), (4, .int li), (5, .int mo), (7, .int yh)]) (st' := [.ref 69]) (by rfl) ?_
      refine Pa.gfI (v := yA.1 69 68) (by rfl) (by rfl) (.inl rfl) (by rfl) (by rfl) ?_
      refine Pa.if1 (a := (yA.1 69 68).toInt) (t := 107) (by rfl) (by rfl) (rfl) (fun h9 => ?_) (fun h10 => ?_)
      · have h9 : 0 ≤ (yA.1 69 68).toInt := h9
        refine Pa.iinc (x := li) (c := 1) (v := (li + 1)) (l' := [(4, .int (li + 1)), (6, .int yx), (0, .ref 69), (1, .int yf), (2, .int yn), (3, .int yg), (5, .int mo), (7, .int yh)]) (by rfl) (by rfl) (by decide) (by rfl) (by rfl) ?_
        refine Pa.mp 1 (pc' := 111) (l' := [(4, .int (li + 1)), (6, .int yx), (0, .ref 69), (1, .int yf), (2, .int yn), (3, .int yg), (5, .int mo), (7, .int yh)]) (st' := [.ref 69]) (by rfl) ?_
        refine Pa.ic (x := 59) (pc' := 113) (by rfl) (by rfl) (by decide) ?_
        refine Pa.inv (by rfl) (by rfl) (.inl rfl) (by rfl) ?_
        show Pa N 193 0 [(0, .ref 69), (1, .int 59)] [] yA _
        refine Pa.mp 1 (pc' := 1) (l' := [(0, .ref 69), (1, .int 59)]) (st' := [.ref 69]) (by rfl) ?_
        refine Pa.gfI (v := yA.1 69 63) (by rfl) (by rfl) (.inl rfl) (by rfl) (by rfl) ?_
        refine Pa.if1 (a := (yA.1 69 63).toInt) (t := 15) (by rfl) (by rfl) (rfl) (fun yh => (by exfalso; have h' : 0 ≤ (yA.1 69 63).toInt := yh; omega)) (fun _ => ?_)
        refine Pa.mp 1 (pc' := 8) (l' := [(0, .ref 69), (1, .int 59)]) (st' := [.ref 69]) (by rfl) ?_
        refine Pa.inv (by rfl) (by rfl) (.inl rfl) (by rfl) ?_
        refine Pa.mono (c_byteAt N yA) (fun yu A1 hu => ?_)
        obtain ⟨rfl, hu⟩ := hu
        rw [hu]
        show Pa N 193 11 [(0, .ref 69), (1, .int 59)] [.int (mBy yA)] yA _
        refine Pa.mp 1 (pc' := 12) (l' := [(0, .ref 69), (1, .int 59)]) (st' := [.int 59, .int (mBy yA)]) (by rfl) ?_
        refine Pa.if2 (a := (mBy yA).toInt) (b := 59) (t := 17) (by rfl) (by rfl) (rfl) (by decide) (fun h12 => ?_) (fun h13 => ?_)
        · have h12 : (mBy yA).toInt = 59 := h12
          refine Pa.mp 2 (pc' := 19) (l' := [(0, .ref 69), (1, .int 59)]) (st' := [.ref 69, .ref 69]) (by rfl) ?_
          refine Pa.gfI (v := yA.1 69 61) (by rfl) (by rfl) (.inl rfl) (by rfl) (by rfl) ?_
          refine Pa.ic (x := 1) (pc' := 23) (by rfl) (by rfl) (by decide) ?_
          refine Pa.mp 1 (pc' := 24) (l' := [(0, .ref 69), (1, .int 59)]) (st' := [.int ((yA.1 69 61) + 1), .ref 69]) (by rfl) ?_
          refine Pa.pfI (by rfl) (by rfl) (.inl rfl) (by rfl) ?_
          show Pa N 193 27 [(0, .ref 69), (1, .int 59)] [] (uI yA 69 61 ((yA.1 69 61) + 1)) _
          refine Pa.ic (x := 1) (pc' := 28) (by rfl) (by rfl) (by decide) ?_
          refine Pa.iret (by rfl) ?_
          show Pa N 202 116 [(4, .int (li + 1)), (6, .int yx), (0, .ref 69), (1, .int yf), (2, .int yn), (3, .int yg), (5, .int mo), (7, .int yh)] [.int 1] (uI yA 69 61 ((yA.1 69 61) + 1)) _
          refine Pa.mp 2 (pc' := 38) (l' := [(5, .int 1), (4, .int (li + 1)), (6, .int yx), (0, .ref 69), (1, .int yf), (2, .int yn), (3, .int yg), (7, .int yh)]) (st' := []) (by rfl) ?_
          refine Pa.lv (l' := [(0, .ref 69), (1, .int yf), (2, .int yn), (3, .int yg), (4, .int (li + 1)), (5, .int 1), (6, .int yx), (7, .int yh)]) (lvS_c rfl (lvS_c rfl (lvS_c rfl (lvS_c rfl (lvS_c rfl (lvS_c rfl (lvS_c rfl (lvS_c rfl (lvS_nil))))))))) rfl ?_
          exact l4 h2 h5 h9 h12
        · have h13 : (mBy yA).toInt ≠ 59 := h13
          refine Pa.ic (x := 0) (pc' := 16) (by rfl) (by rfl) (by decide) ?_
          refine Pa.iret (by rfl) ?_
          show Pa N 202 116 [(4, .int (li + 1)), (6, .int yx), (0, .ref 69), (1, .int yf), (2, .int yn), (3, .int yg), (5, .int mo), (7, .int yh)] [.int 0] yA _
          refine Pa.mp 2 (pc' := 38) (l' := [(5, .int 0), (4, .int (li + 1)), (6, .int yx), (0, .ref 69), (1, .int yf), (2, .int yn), (3, .int yg), (7, .int yh)]) (st' := []) (by rfl) ?_
          refine Pa.lv (l' := [(0, .ref 69), (1, .int yf), (2, .int yn), (3, .int yg), (4, .int (li + 1)), (5, .int 0), (6, .int yx), (7, .int yh)]) (lvS_c rfl (lvS_c rfl (lvS_c rfl (lvS_c rfl (lvS_c rfl (lvS_c rfl (lvS_c rfl (lvS_c rfl (lvS_nil))))))))) rfl ?_
          exact l5 h2 h5 h9 h13
      · have h10 : (yA.1 69 68).toInt < 0 := h10
        refine Pa.mp 2 (pc' := 101) (l' := [(6, .int yx), (0, .ref 69), (1, .int yf), (2, .int yn), (3, .int yg), (4, .int li), (5, .int mo), (7, .int yh)]) (st' := [.int li, .ref 69]) (by rfl) ?_
        refine Pa.pfI (by rfl) (by rfl) (.inl rfl) (by rfl) ?_
        show Pa N 202 104 [(6, .int yx), (0, .ref 69), (1, .int yf), (2, .int yn), (3, .int yg), (4, .int li), (5, .int mo), (7, .int yh)] [] (uI yA 69 68 li) _
        refine Pa.mp 2 (pc' := 107) (l' := [(3, .int yx), (6, .int yx), (0, .ref 69), (1, .int yf), (2, .int yn), (4, .int li), (5, .int mo), (7, .int yh)]) (st' := []) (by rfl) ?_
        refine Pa.iinc (x := li) (c := 1) (v := (li + 1)) (l' := [(4, .int (li + 1)), (3, .int yx), (6, .int yx), (0, .ref 69), (1, .int yf), (2, .int yn), (5, .int mo), (7, .int yh)]) (by rfl) (by rfl) (by decide) (by rfl) (by rfl) ?_
        refine Pa.mp 1 (pc' := 111) (l' := [(4, .int (li + 1)), (3, .int yx), (6, .int yx), (0, .ref 69), (1, .int yf), (2, .int yn), (5, .int mo), (7, .int yh)]) (st' := [.ref 69]) (by rfl) ?_
        refine Pa.ic (x := 59) (pc' := 113) (by rfl) (by rfl) (by decide) ?_
        refine Pa.inv (by rfl) (by rfl) (.inl rfl) (by rfl) ?_
        show Pa N 193 0 [(0, .ref 69), (1, .int 59)] [] (uI yA 69 68 li) _
        refine Pa.mp 1 (pc' := 1) (l' := [(0, .ref 69), (1, .int 59)]) (st' := [.ref 69]) (by rfl) ?_
        refine Pa.gfI (v := yA.1 69 63) (by rfl) (by rfl) (.inl rfl) (by rfl) (by show (uI yA 69 68 li).1 69 63 = yA.1 69 63; rw [uI_k (by decide)]) ?_
        refine Pa.if1 (a := (yA.1 69 63).toInt) (t := 15) (by rfl) (by rfl) (rfl) (fun yh => (by exfalso; have h' : 0 ≤ (yA.1 69 63).toInt := yh; omega)) (fun _ => ?_)
        refine Pa.mp 1 (pc' := 8) (l' := [(0, .ref 69), (1, .int 59)]) (st' := [.ref 69]) (by rfl) ?_
        refine Pa.inv (by rfl) (by rfl) (.inl rfl) (by rfl) ?_
        refine Pa.mono (c_byteAt N (uI yA 69 68 li)) (fun yu A1 hu => ?_)
        obtain ⟨rfl, hu⟩ := hu
        rw [hu]
        show Pa N 193 11 [(0, .ref 69), (1, .int 59)] [.int (mBy (uI yA 69 68 li))] (uI yA 69 68 li) _
        refine Pa.mp 1 (pc' := 12) (l' := [(0, .ref 69), (1, .int 59)]) (st' := [.int 59, .int (mBy (uI yA 69 68 li))]) (by rfl) ?_
        refine Pa.if2 (a := (mBy (uI yA 69 68 li)).toInt) (b := 59) (t := 17) (by rfl) (by rfl) (rfl) (by decide) (fun h15 => ?_) (fun yh16 => ?_)
        · have h15 : (mBy (uI yA 69 68 li)).toInt = 59 := h15
          refine Pa.mp 2 (pc' := 19) (l' := [(0, .ref 69), (1, .int 59)]) (st' := [.ref 69, .ref 69]) (by rfl) ?_
          refine Pa.gfI (v := yA.1 69 61) (by rfl) (by rfl) (.inl rfl) (by rfl) (by show (uI yA 69 68 li).1 69 61 = yA.1 69 61; rw [uI_k (by decide)]) ?_
          refine Pa.ic (x := 1) (pc' := 23) (by rfl) (by rfl) (by decide) ?_
          refine Pa.mp 1 (pc' := 24) (l' := [(0, .ref 69), (1, .int 59)]) (st' := [.int ((yA.1 69 61) + 1), .ref 69]) (by rfl) ?_
          refine Pa.pfI (by rfl) (by rfl) (.inl rfl) (by rfl) ?_
          show Pa N 193 27 [(0, .ref 69), (1, .int 59)] [] (uI (uI yA 69 68 li) 69 61 ((yA.1 69 61) + 1)) _
          refine Pa.ic (x := 1) (pc' := 28) (by rfl) (by rfl) (by decide) ?_
          refine Pa.iret (by rfl) ?_
          show Pa N 202 116 [(4, .int (li + 1)), (3, .int yx), (6, .int yx), (0, .ref 69), (1, .int yf), (2, .int yn), (5, .int mo), (7, .int yh)] [.int 1] (uI (uI yA 69 68 li) 69 61 ((yA.1 69 61) + 1)) _
          refine Pa.mp 2 (pc' := 38) (l' := [(5, .int 1), (4, .int (li + 1)), (3, .int yx), (6, .int yx), (0, .ref 69), (1, .int yf), (2, .int yn), (7, .int yh)]) (st' := []) (by rfl) ?_
          refine Pa.lv (l' := [(0, .ref 69), (1, .int yf), (2, .int yn), (3, .int yx), (4, .int (li + 1)), (5, .int 1), (6, .int yx), (7, .int yh)]) (lvS_c rfl (lvS_c rfl (lvS_c rfl (lvS_c rfl (lvS_c rfl (lvS_c rfl (lvS_c rfl (lvS_c rfl (lvS_nil))))))))) rfl ?_
          exact l6 h2 h5 h10 h15
        · have yh16 : (mBy (uI yA 69 68 li)).toInt ≠ 59 := yh16
          refine Pa.ic (x := 0) (pc' := 16) (by rfl) (by rfl) (by decide) ?_
          refine Pa.iret (by rfl) ?_
          show Pa N 202 116 [(4, .int (li + 1)), (3, .int yx), (6, .int yx), (0, .ref 69), (1, .int yf), (2, .int yn), (5, .int mo), (7, .int yh)] [.int 0] (uI yA 69 68 li) _
          refine Pa.mp 2 (pc' := 38) (l' := [(5, .int 0), (4, .int (li + 1)), (3, .int yx), (6, .int yx), (0, .ref 69), (1, .int yf), (2, .int yn), (7, .int yh)]) (st' := []) (by rfl) ?_
          refine Pa.lv (l' := [(0, .ref 69), (1, .int yf), (2, .int yn), (3, .int yx), (4, .int (li + 1)), (5, .int 0), (6, .int yx), (7, .int yh)]) (lvS_c rfl (lvS_c rfl (lvS_c rfl (lvS_c rfl (lvS_c rfl (lvS_c rfl (lvS_c rfl (lvS_c rfl (lvS_nil))))))))) rfl ?_
          exact l7 h2 h5 h10 yh16

/-! worlds of the reference's reader -/
def mW (yA : AW) (ya ft yop lv bl yn3 : Int32) (wh : Nat → Int32) : AW := uF (uI (uI (uI (uI (uI (uI yA 69 61 ya) 69 63 ft) 69 64 yop) 69 66 lv) 69 68 bl) 117 3 yn3) 115 wh
section MWS
variable {yA : AW} {ya ft yop lv bl yn3 yx : Int32} {wh : Nat → Int32}
theorem mW_60 : (mW yA ya ft yop lv bl yn3 wh).1 69 60 = yA.1 69 60 := rfl
theorem mW_61 : (mW yA ya ft yop lv bl yn3 wh).1 69 61 = ya := rfl
theorem mW_62 : (mW yA ya ft yop lv bl yn3 wh).1 69 62 = yA.1 69 62 := rfl
theorem mW_63 : (mW yA ya ft yop lv bl yn3 wh).1 69 63 = ft := rfl
theorem mW_64 : (mW yA ya ft yop lv bl yn3 wh).1 69 64 = yop := rfl
theorem mW_66 : (mW yA ya ft yop lv bl yn3 wh).1 69 66 = lv := rfl
theorem mW_67 : (mW yA ya ft yop lv bl yn3 wh).1 69 67 = yA.1 69 67 := rfl
theorem mW_68 : (mW yA ya ft yop lv bl yn3 wh).1 69 68 = bl := rfl
theorem mW_99 {yk : Nat} : (mW yA ya ft yop lv bl yn3 wh).1 99 yk = yA.1 99 yk := rfl
theorem mW_100 {yk : Nat} : (mW yA ya ft yop lv bl yn3 wh).1 100 yk = yA.1 100 yk := rfl
theorem mW_3 : (mW yA ya ft yop lv bl yn3 wh).1 117 3 = yn3 := rfl
theorem mW_117 {yk : Nat} (yh : yk ≠ 3) : (mW yA ya ft yop lv bl yn3 wh).1 117 yk = yA.1 117 yk := by
  show (if 117 = 117 ∧ yk = 3 then yn3 else yA.1 117 yk) = yA.1 117 yk
  rw [if_neg (fun yq => yh yq.2)]
theorem mW_at : uI (mW yA ya ft yop lv bl yn3 wh) 69 61 yx = mW yA yx ft yop lv bl yn3 wh := by
  refine Prod.ext ?_ rfl
  funext c' k'
  simp only [mW, uI, uF]
  repeat' split
  all_goals first
    | rfl
    | (exfalso; omega)
theorem mW_ft : uI (mW yA ya ft yop lv bl yn3 wh) 69 63 yx = mW yA ya yx yop lv bl yn3 wh := by
  refine Prod.ext ?_ rfl
  funext c' k'
  simp only [mW, uI, uF]
  repeat' split
  all_goals first
    | rfl
    | (exfalso; omega)
theorem mW_op : uI (mW yA ya ft yop lv bl yn3 wh) 69 64 yx = mW yA ya ft yx lv bl yn3 wh := by
  refine Prod.ext ?_ rfl
  funext c' k'
  simp only [mW, uI, uF]
  repeat' split
  all_goals first
    | rfl
    | (exfalso; omega)
theorem mW_lv : uI (mW yA ya ft yop lv bl yn3 wh) 69 66 yx = mW yA ya ft yop yx bl yn3 wh := by
  refine Prod.ext ?_ rfl
  funext c' k'
  simp only [mW, uI, uF]
  repeat' split
  all_goals first
    | rfl
    | (exfalso; omega)
theorem mW_bl : uI (mW yA ya ft yop lv bl yn3 wh) 69 68 yx = mW yA ya ft yop lv yx yn3 wh := by
  refine Prod.ext ?_ rfl
  funext c' k'
  simp only [mW, uI, uF]
  repeat' split
  all_goals first
    | rfl
    | (exfalso; omega)
theorem mW_n3 : uI (mW yA ya ft yop lv bl yn3 wh) 117 3 yx = mW yA ya ft yop lv bl yx wh := by
  refine Prod.ext ?_ rfl
  funext c' k'
  simp only [mW, uI, uF]
  repeat' split
  all_goals first
    | rfl
    | (exfalso; omega)
end MWS
def mT (yA : AW) (yj : Nat) : Int32 := if (yA.1 69 60).toInt < 0 then yA.1 99 yj else yA.1 100 ((yA.1 69 60).toInt.toNat + yj)
theorem mb {yA : AW} {yn ya : Nat} {ft yop lv bl yn3 : Int32} {wh : Nat → Int32} (he : (yA.1 69 62).toInt = (yn : Int)) (hn2 : yn ≤ 160) (hbs : (yA.1 69 60).toInt ≤ 3040) : ∃ yy, mBy (mW yA (Int32.ofNat ya) ft yop lv bl yn3 wh) = yy ∧ (ya ≤ yn → ya < yn → yy = mT yA ya ∧ rdC (mT yA) yn ya = yy.toInt) ∧ (ya ≤ yn → yn ≤ ya → yy = 0 ∧ rdC (mT yA) yn ya = -1) := by
  refine ⟨_, rfl, fun h0 yh => ?_, fun h0 yh => ?_⟩
  · have ea : (Int32.ofNat ya).toInt = (ya : Int) := i32_nat (by omega)
    have ye : mBy (mW yA (Int32.ofNat ya) ft yop lv bl yn3 wh) = mT yA ya := by
      unfold mBy mT
      rw [mW_61, mW_62, mW_60, he, ea, if_pos (by omega)]
      by_cases yhb : (yA.1 69 60).toInt < 0
      · rw [if_pos yhb, if_pos yhb, mW_99, Int.toNat_natCast]
      · rw [if_neg yhb, if_neg yhb, mW_100, i_addx (x := (yA.1 69 60).toInt + (ya : Int)) (by rw [ea]) (by omega) (by omega), show ((yA.1 69 60).toInt + (ya : Int)).toNat = (yA.1 69 60).toInt.toNat + ya by omega]
    exact ⟨ye, by rw [ye]; exact rdC_in yh⟩
  · have ea : (Int32.ofNat ya).toInt = (ya : Int) := i32_nat (by omega)
    refine ⟨?_, rdC_out yh⟩
    unfold mBy
    rw [mW_61, mW_62, he, ea, if_neg (by omega)]
/-! what codes stand for -/
def jnX (yg ya yb : Int32) : Int32 := if yg.toInt = 124 then (if ya.toInt ≠ 0 ∨ yb.toInt ≠ 0 then 1 else 0) else if yg.toInt = 38 then (if ya.toInt ≠ 0 ∧ yb.toInt ≠ 0 then 1 else 0) else if yg.toInt = 60 then (if ya.toInt < yb.toInt then 1 else 0) else if yg.toInt = 61 then (if ya.toInt = yb.toInt then 1 else 0) else if yg.toInt = 62 then (if yb.toInt < ya.toInt then 1 else 0) else if yg.toInt = 43 then ya + yb else if yg.toInt = 45 then ya - yb else if yg.toInt = 42 then ya * yb else if yg.toInt = 47 then (if yb.toInt = 0 then 0 else ya / yb) else if yg.toInt = 37 then (if yb.toInt = 0 then 0 else ya - ya / yb * yb) else 0
def ev1 (yenv : Nat → Int32) (yst : List Int32) (yx : Int32) : List Int32 := if 0 ≤ yx.toInt then yx :: yst else if -10 ≤ yx.toInt then yenv (-1 - yx).toInt.toNat :: yst else if yx.toInt = -33 then (if (yst.headD 0).toInt = 0 then 1 else 0) :: yst.tail else jnX (-yx) (yst.tail.headD 0) (yst.headD 0) :: yst.tail.tail
def evs (yenv : Nat → Int32) (yst cs : List Int32) : List Int32 := cs.foldl (ev1 yenv) yst
section EVS
variable {yenv : Nat → Int32} {yst cs ds : List Int32} {yx yg yv yw : Int32}
theorem evs_app : evs yenv yst (cs ++ ds) = evs yenv (evs yenv yst cs) ds := List.foldl_append
theorem evs_cons : evs yenv yst (yx :: ds) = evs yenv (ev1 yenv yst yx) ds := rfl
theorem ev_sg (h0 : 34 ≤ yg.toInt) (h1 : yg.toInt ≤ 255) : ev1 yenv (yw :: yv :: yst) (-yg) = jnX yg yv yw :: yst := by
  have ye : (-yg).toInt = -yg.toInt := by
    rw [Int32.toInt_neg]
    exact z_bm0 ⟨by show (-2147483648 : Int) ≤ _; omega, by show _ ≤ (2147483647 : Int); omega⟩
  unfold ev1
  rw [if_neg (by omega), if_neg (by omega), if_neg (by omega), Int32.neg_neg]
  rfl
theorem ev_nt : ev1 yenv (yv :: yst) (-33) = (if yv.toInt = 0 then 1 else 0) :: yst := by
  unfold ev1
  rw [if_neg (by decide), if_neg (by decide), if_pos (by decide)]
  rfl
theorem ev_nm {yi : Nat} (yh : yi < 10) : ev1 yenv yst (-1 - Int32.ofNat yi) = yenv yi :: yst := by
  have ye0 : (Int32.ofNat yi).toInt = (yi : Int) := i32_nat (by omega)
  have ym1 : (-1 : Int32).toInt = -1 := by decide
  have ye : (-1 - Int32.ofNat yi).toInt = -1 - (yi : Int) := i_subx (by rw [ye0, ym1]) (by omega) (by omega)
  have ye2 : (-1 - (-1 - Int32.ofNat yi)).toInt = (yi : Int) := i_subx (by rw [ye, ym1]; omega) (by omega) (by omega)
  unfold ev1
  rw [if_neg (by omega), if_pos (by omega), ye2, Int.toNat_natCast]
theorem ev_nu (yh : 0 ≤ yx.toInt) : ev1 yenv yst yx = yx :: yst := if_pos yh
end EVS
def p10 : Nat → Int
  | 0 => 1
  | yk + 1 => 10 * p10 yk
theorem p10_pos : ∀ yk, 1 ≤ p10 yk
  | 0 => Int.le_refl 1
  | yk + 1 => by
    have := p10_pos yk
    show 1 ≤ 10 * p10 yk
    omega
theorem rdN_nn {T : Nat → Int32} {yn : Nat} : ∀ (yk ya : Nat) (yv : Int32), 0 ≤ yv.toInt → (yv.toInt + 1) * p10 yk ≤ 1000000 → 0 ≤ (rdN T yn yk ya yv).2.toInt
  | 0, ya, yv, yh, _ => yh
  | yk + 1, ya, yv, yh, h2 => by
    rcases Classical.em (48 ≤ rdC T yn ya ∧ rdC T yn ya ≤ 57) with yq | yq
    · rw [rdN_go yq]
      have hl : ya < yn := by
        rcases Nat.lt_or_ge ya yn with yp | yp
        · exact yp
        · rw [rdC_out yp] at yq; omega
      rw [rdC_in hl] at yq
      have hp := p10_pos yk
      have hp1 := p10_pos (yk + 1)
      have h4 : yv.toInt + 1 ≤ 1000000 := by
        have h5 : (yv.toInt + 1) * 1 ≤ (yv.toInt + 1) * p10 (yk + 1) := Int.mul_le_mul_of_nonneg_left hp1 (by omega)
        omega
      have ye1 : (yv * 10).toInt = yv.toInt * 10 := by
        rw [Int32.toInt_mul, show (10 : Int32).toInt = 10 from rfl]
        exact z_bm0 ⟨by show (-2147483648 : Int) ≤ _; omega, by show _ ≤ (2147483647 : Int); omega⟩
      have ye2 : (yv * 10 + T ya).toInt = yv.toInt * 10 + (T ya).toInt := by
        rw [Int32.toInt_add, ye1]
        exact z_bm0 ⟨by show (-2147483648 : Int) ≤ _; omega, by show _ ≤ (2147483647 : Int); omega⟩
      have ye3 : (yv * 10 + T ya - 48).toInt = yv.toInt * 10 + (T ya).toInt - 48 := by
        rw [Int32.toInt_sub, ye2, show (48 : Int32).toInt = 48 from rfl]
        exact z_bm0 ⟨by show (-2147483648 : Int) ≤ _; omega, by show _ ≤ (2147483647 : Int); omega⟩
      refine rdN_nn yk (ya + 1) _ (by omega) ?_
      have h6 : ((yv * 10 + T ya - 48).toInt + 1) * p10 yk ≤ ((yv.toInt + 1) * 10) * p10 yk := Int.mul_le_mul_of_nonneg_right (by omega) (by omega)
      have h7 : ((yv.toInt + 1) * 10) * p10 yk = (yv.toInt + 1) * p10 (yk + 1) := Int.mul_assoc _ _ _
      omega
    · rw [rdN_stop yq]
      exact yh
theorem rdN_n6 {T : Nat → Int32} {yn ya : Nat} : 0 ≤ (rdN T yn 6 ya 0).2.toInt := rdN_nn 6 ya 0 (by decide) (by decide)
