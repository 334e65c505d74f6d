/-! WHOM yA COST NAMES THERE IS -/
def Rfl (yA : AW) : Prop := ∀ yc, yc < cT yA → (0 ≤ (yA.1 90 (7 * yc)).toInt ∧ (yA.1 90 (7 * yc)).toInt < (yA.1 69 11).toInt) ∧ 0 ≤ (yA.1 90 (7 * yc + 4)).toInt ∧ ((toH (yA.1 89 yc) ∧ (yA.1 90 (7 * yc + 4)).toInt < (yA.1 69 7).toInt) ∨ (¬ toH (yA.1 89 yc) ∧ (yA.1 90 (7 * yc + 4)).toInt < (yA.1 69 13).toInt))
def Sfl : zSu := ([(69, 7), (69, 11), (69, 13), (69, 31)], [89, 90])
def flE (yA yB : AW) : Prop := (∀ yj, yB.1 89 yj = yA.1 89 yj) ∧ (∀ yj, yB.1 90 yj = yA.1 90 yj) ∧ yB.1 69 31 = yA.1 69 31 ∧ (yA.1 69 7).toInt ≤ (yB.1 69 7).toInt ∧ (yA.1 69 11).toInt ≤ (yB.1 69 11).toInt ∧ (yA.1 69 13).toInt ≤ (yB.1 69 13).toInt
theorem flE_up {yA yB : AW} (yh : flE yA yB) (hX : Rfl yA) : Rfl yB := by
  obtain ⟨h1, h2, h3, h4, h5, h6⟩ := yh
  intro yc yhc
  have yhT : cT yB = cT yA := by unfold cT; rw [h3]
  rw [yhT] at yhc
  obtain ⟨⟨ya1, a2⟩, a3, a4⟩ := hX yc yhc
  rw [h1, h2, h2]
  refine ⟨⟨ya1, by omega⟩, a3, ?_⟩
  rcases a4 with ⟨a4, a5⟩ | ⟨a4, a5⟩
  · exact .inl ⟨a4, by omega⟩
  · exact .inr ⟨a4, by omega⟩
theorem Rfl_s (yA yB : AW) (yh : AgS Sfl yA yB) (hX : Rfl yA) : Rfl yB := by
  have yf1 := yh.1 (69, 7) (by simp [Sfl])
  have yf2 := yh.1 (69, 11) (by simp [Sfl])
  have yf3 := yh.1 (69, 13) (by simp [Sfl])
  have yf4 := yh.1 (69, 31) (by simp [Sfl])
  have ya1 := (yh.2 89 (by simp [Sfl])).1
  have a2 := (yh.2 90 (by simp [Sfl])).1
  simp only at yf1 yf2 yf3 yf4
  exact flE_up ⟨fun yj => by rw [ya1], fun yj => by rw [a2], yf4.symm, by rw [yf1]; exact Int.le_refl _, by rw [yf2]; exact Int.le_refl _, by rw [yf3]; exact Int.le_refl _⟩ hX
theorem flE_refl (yA : AW) : flE yA yA := ⟨fun _ => rfl, fun _ => rfl, rfl, Int.le_refl _, Int.le_refl _, Int.le_refl _⟩
theorem flE_x {yA : AW} {yc yk yx : Nat} {yv yw : Int32} {yd : Nat} (h1 : yc < 69) (h2 : yd < 69) : flE yA (uI (uI yA yc yk yv) yd yx yw) := by
  refine ⟨fun yj => ?_, fun yj => ?_, ?_, ?_, ?_, ?_⟩
  · rw [uI_c (by omega), uI_c (by omega)]
  · rw [uI_c (by omega), uI_c (by omega)]
  · rw [uI_c (by omega), uI_c (by omega)]
  · rw [uI_c (by omega), uI_c (by omega)]; exact Int.le_refl _
  · rw [uI_c (by omega), uI_c (by omega)]; exact Int.le_refl _
  · rw [uI_c (by omega), uI_c (by omega)]; exact Int.le_refl _
theorem flE_tr {yA yB yC : AW} (yh : flE yA yB) (yg : flE yB yC) : flE yA yC := by
  obtain ⟨h1, h2, h3, h4, h5, h6⟩ := yh
  obtain ⟨g1, g2, yg3, g4, yg5, g6⟩ := yg
  exact ⟨fun yj => by rw [g1, h1], fun yj => by rw [g2, h2], by rw [yg3, h3], by omega, by omega, by omega⟩
theorem flE_one {yA : AW} {yd yx : Nat} {yw : Int32} (yh : yd < 69) : flE yA (uI yA yd yx yw) := by
  refine ⟨fun yj => ?_, fun yj => ?_, ?_, ?_, ?_, ?_⟩
  · rw [uI_c (by omega)]
  · rw [uI_c (by omega)]
  · rw [uI_c (by omega)]
  · rw [uI_c (by omega)]; exact Int.le_refl _
  · rw [uI_c (by omega)]; exact Int.le_refl _
  · rw [uI_c (by omega)]; exact Int.le_refl _
theorem flE_hi {yA : AW} {yc yx : Nat} {yv : Int32} (h1 : yc ≠ 69) (h2 : yc ≠ 89) (h3 : yc ≠ 90) : flE yA (uI yA yc yx yv) := by
  have yr : ∀ yj, (uI yA yc yx yv).1 69 yj = yA.1 69 yj := fun yj => uI_c (fun yz => h1 yz.symm)
  refine ⟨fun yj => uI_c (fun yz => h2 yz.symm), fun yj => uI_c (fun yz => h3 yz.symm), yr 31, ?_, ?_, ?_⟩
  · rw [yr]; exact Int.le_refl _
  · rw [yr]; exact Int.le_refl _
  · rw [yr]; exact Int.le_refl _
/-- ya yrow below those of costs, and one of the counts grows -/
theorem flE_m {yA : AW} {yc yx : Nat} {yv : Int32} {yq : Nat} (h1 : yc ≠ 69) (h2 : yc ≠ 89) (h3 : yc ≠ 90) (hq : yq ≠ 31) (yhb : (yA.1 69 yq).toInt < 1000) : flE yA (uI (uI yA yc yx yv) 69 yq (yA.1 69 yq + 1)) := by
  have ye : (yA.1 69 yq + 1).toInt = (yA.1 69 yq).toInt + 1 := i32_add1 (by omega)
  have yr : ∀ yj, (uI yA yc yx yv).1 69 yj = yA.1 69 yj := fun yj => uI_c (fun yz => h1 yz.symm)
  have ym : ∀ yj, (yA.1 69 yj).toInt ≤ ((uI (uI yA yc yx yv) 69 yq (yA.1 69 yq + 1)).1 69 yj).toInt := fun yj => by
    by_cases yz : yj = yq
    · subst yz
      rw [uI_h, ye]
      omega
    · rw [uI_k yz, yr]
      exact Int.le_refl _
  refine ⟨fun yj => ?_, fun yj => ?_, ?_, ym 7, ym 11, ym 13⟩
  · rw [uI_c (by decide), uI_c (fun yz => h2 yz.symm)]
  · rw [uI_c (by decide), uI_c (fun yz => h3 yz.symm)]
  · rw [uI_k (fun yz => hq yz.symm), yr]
theorem bxf_house {N : Nat} {yA : AW} {yQ : Option Value → AW → Prop} (l : Int32)
    (l1 : l.toInt < 0 → yQ (some (.int (-1))) yA)
    (l2 : 0 ≤ l.toInt → 5 < l.toInt → yQ (some (.int (-1))) yA)
    (l3 : 0 ≤ l.toInt → l.toInt ≤ 5 → (yA.1 1 3).toInt < 20 → 0 ≤ (yA.1 1 3).toInt → yQ (some (.int (((yA.1 1 3) + 1) - 1))) (uI (uI yA 2 ((yA.1 1 3).toInt.toNat) l) 1 3 ((yA.1 1 3) + 1)))
    (l4 : 0 ≤ l.toInt → l.toInt ≤ 5 → 20 ≤ (yA.1 1 3).toInt → yQ (some (.int (-2))) yA) :
    Pa N 101 0 [(0, .ref 0), (1, .int l)] [] yA yQ := by
  refine Pa.mp 1 (pc' := 1) (l' := [(0, .ref 0), (1, .int l)]) (st' := [.int l]) (by rfl) ?_
  refine Pa.ist (by rfl) (by rfl) (.inl rfl) (by rfl) (by rfl) ?_
  show Pa N 147 0 [(0, .int l)] [] yA _
  refine Pa.mp 1 (pc' := 1) (l' := [(0, .int l)]) (st' := [.int l]) (by rfl) ?_
  refine Pa.ic (x := 0) (pc' := 2) (by rfl) (by rfl) (by decide) ?_
  refine Pa.ic (x := 5) (pc' := 3) (by rfl) (by rfl) (by decide) ?_
  refine Pa.ist (by rfl) (by rfl) (.inl rfl) (by rfl) (by rfl) ?_
  show Pa N 146 0 [(0, .int l), (1, .int 0), (2, .int 5)] [] yA _
  refine Pa.mp 2 (pc' := 2) (l' := [(0, .int l), (1, .int 0), (2, .int 5)]) (st' := [.int 0, .int l]) (by rfl) ?_
  refine Pa.if2 (a := l.toInt) (b := 0) (t := 14) (by rfl) (by rfl) (rfl) (by decide) (fun h1 => ?_) (fun h2 => ?_)
  · have h1 : l.toInt < 0 := h1
    refine Pa.ic (x := 0) (pc' := 15) (by rfl) (by rfl) (by decide) ?_
    refine Pa.iret (by rfl) ?_
    show Pa N 147 6 [(0, .int l)] [.int 0] yA _
    refine Pa.iret (by rfl) ?_
    show Pa N 101 4 [(0, .ref 0), (1, .int l)] [.int 0] yA _
    refine Pa.if1k false (by rfl) (by rfl) (by decide) ?_
    show Pa N 101 7 [(0, .ref 0), (1, .int l)] [] yA _
    refine Pa.ic (x := (-1)) (pc' := 8) (by rfl) (by rfl) (by decide) ?_
    refine Pa.iret (by rfl) ?_
    exact l1 h1
  · have h2 : 0 ≤ l.toInt := h2
    refine Pa.mp 2 (pc' := 7) (l' := [(0, .int l), (1, .int 0), (2, .int 5)]) (st' := [.int 5, .int l]) (by rfl) ?_
    refine Pa.if2 (a := l.toInt) (b := 5) (t := 14) (by rfl) (by rfl) (rfl) (by decide) (fun h3 => ?_) (fun h4 => ?_)
    · have h3 : 5 < l.toInt := h3
      refine Pa.ic (x := 0) (pc' := 15) (by rfl) (by rfl) (by decide) ?_
      refine Pa.iret (by rfl) ?_
      show Pa N 147 6 [(0, .int l)] [.int 0] yA _
      refine Pa.iret (by rfl) ?_
      show Pa N 101 4 [(0, .ref 0), (1, .int l)] [.int 0] yA _
      refine Pa.if1k false (by rfl) (by rfl) (by decide) ?_
      show Pa N 101 7 [(0, .ref 0), (1, .int l)] [] yA _
      refine Pa.ic (x := (-1)) (pc' := 8) (by rfl) (by rfl) (by decide) ?_
      refine Pa.iret (by rfl) ?_
      exact l2 h2 h3
    · have h4 : l.toInt ≤ 5 := h4
      refine Pa.ic (x := 1) (pc' := 11) (by rfl) (by rfl) (by decide) ?_
      refine Pa.mp 1 (pc' := 15) (l' := [(0, .int l), (1, .int 0), (2, .int 5)]) (st' := [.int 1]) (by rfl) ?_
      refine Pa.iret (by rfl) ?_
      show Pa N 147 6 [(0, .int l)] [.int 1] yA _
      refine Pa.iret (by rfl) ?_
      show Pa N 101 4 [(0, .ref 0), (1, .int l)] [.int 1] yA _
      refine Pa.if1k true (by rfl) (by rfl) (by decide) ?_
      show Pa N 101 9 [(0, .ref 0), (1, .int l)] [] yA _
      refine Pa.mp 1 (pc' := 10) (l' := [(0, .ref 0), (1, .int l)]) (st' := [.ref 0]) (by rfl) ?_
      refine Pa.gfR (by rfl) (by rfl) (.inl rfl) (by rfl) ?_
      show Pa N 101 13 [(0, .ref 0), (1, .int l)] [.ref 1] yA _
      refine Pa.mp 1 (pc' := 14) (l' := [(0, .ref 0), (1, .int l)]) (st' := [.int l, .ref 1]) (by rfl) ?_
      refine Pa.inv (by rfl) (by rfl) (.inr rfl) (by rfl) ?_
      show Pa N 50 0 [(0, .ref 1), (1, .int l)] [] yA _
      refine Pa.mp 1 (pc' := 1) (l' := [(0, .ref 1), (1, .int l)]) (st' := [.ref 1]) (by rfl) ?_
      refine Pa.gfI (v := yA.1 1 3) (by rfl) (by rfl) (.inl rfl) (by rfl) (by rfl) ?_
      refine Pa.ic (x := 20) (pc' := 6) (by rfl) (by rfl) (by decide) ?_
      refine Pa.if2 (a := (yA.1 1 3).toInt) (b := 20) (t := 12) (by rfl) (by rfl) (rfl) (by decide) (fun h5 => ?_) (fun h6 => ?_)
      · have h5 : (yA.1 1 3).toInt < 20 := h5
        refine Pa.mp 1 (pc' := 13) (l' := [(0, .ref 1), (1, .int l)]) (st' := [.ref 1]) (by rfl) ?_
        refine Pa.gfR (by rfl) (by rfl) (.inl rfl) (by rfl) ?_
        show Pa N 50 16 [(0, .ref 1), (1, .int l)] [.ref 2] yA _
        refine Pa.mp 1 (pc' := 17) (l' := [(0, .ref 1), (1, .int l)]) (st' := [.ref 1, .ref 2]) (by rfl) ?_
        refine Pa.gfI (v := yA.1 1 3) (by rfl) (by rfl) (.inl rfl) (by rfl) (by rfl) ?_
        refine Pa.mp 1 (pc' := 21) (l' := [(0, .ref 1), (1, .int l)]) (st' := [.int l, .int (yA.1 1 3), .ref 2]) (by rfl) ?_
        refine Pa.asts (j' := ((yA.1 1 3).toInt.toNat)) (by rfl) (by rfl) (by rfl) (fun h7 h8 => ?_)
        have h7 : 0 ≤ (yA.1 1 3).toInt := h7
        have h8 : (yA.1 1 3).toInt < 20 := h8
        show Pa N 50 22 [(0, .ref 1), (1, .int l)] [] (uI yA 2 ((yA.1 1 3).toInt.toNat) l) _
        refine Pa.mp 2 (pc' := 24) (l' := [(0, .ref 1), (1, .int l)]) (st' := [.ref 1, .ref 1]) (by rfl) ?_
        refine Pa.gfI (v := yA.1 1 3) (by rfl) (by rfl) (.inl rfl) (by rfl) (by show (uI yA 2 ((yA.1 1 3).toInt.toNat) l).1 1 3 = yA.1 1 3; rw [uI_c (by decide)]) ?_
        refine Pa.ic (x := 1) (pc' := 28) (by rfl) (by rfl) (by decide) ?_
        refine Pa.mp 1 (pc' := 29) (l' := [(0, .ref 1), (1, .int l)]) (st' := [.int ((yA.1 1 3) + 1), .ref 1]) (by rfl) ?_
        refine Pa.pfI (by rfl) (by rfl) (.inl rfl) (by rfl) ?_
        show Pa N 50 32 [(0, .ref 1), (1, .int l)] [] (uI (uI yA 2 ((yA.1 1 3).toInt.toNat) l) 1 3 ((yA.1 1 3) + 1)) _
        refine Pa.mp 1 (pc' := 33) (l' := [(0, .ref 1), (1, .int l)]) (st' := [.ref 1]) (by rfl) ?_
        refine Pa.gfI (v := (yA.1 1 3) + 1) (by rfl) (by rfl) (.inl rfl) (by rfl) (by show (uI (uI yA 2 ((yA.1 1 3).toInt.toNat) l) 1 3 ((yA.1 1 3) + 1)).1 1 3 = (yA.1 1 3) + 1; rw [uI_h]) ?_
        refine Pa.ic (x := 1) (pc' := 37) (by rfl) (by rfl) (by decide) ?_
        refine Pa.mp 1 (pc' := 38) (l' := [(0, .ref 1), (1, .int l)]) (st' := [.int (((yA.1 1 3) + 1) - 1)]) (by rfl) ?_
        refine Pa.iret (by rfl) ?_
        show Pa N 101 17 [(0, .ref 0), (1, .int l)] [.int (((yA.1 1 3) + 1) - 1)] (uI (uI yA 2 ((yA.1 1 3).toInt.toNat) l) 1 3 ((yA.1 1 3) + 1)) _
        refine Pa.iret (by rfl) ?_
        exact l3 h2 h4 h5 h7
      · have h6 : 20 ≤ (yA.1 1 3).toInt := h6
        refine Pa.ic (x := (-2)) (pc' := 11) (by rfl) (by rfl) (by decide) ?_
        refine Pa.iret (by rfl) ?_
        show Pa N 101 17 [(0, .ref 0), (1, .int l)] [.int (-2)] yA _
        refine Pa.iret (by rfl) ?_
        exact l4 h2 h4 h6

theorem bmf_house {N : Nat} {yA : AW} {yQ : Option Value → AW → Prop} (l : Int32)
    (l1 : l.toInt < 0 → yQ (some (.int (-1))) yA)
    (l2 : 0 ≤ l.toInt → 5 < l.toInt → yQ (some (.int (-1))) yA)
    (l3 : 0 ≤ l.toInt → l.toInt ≤ 5 → (yA.1 69 7).toInt ≠ 20 → 0 ≤ (yA.1 69 7).toInt → (yA.1 69 7).toInt < 20 → yQ (some (.int (((yA.1 69 7) + 1) - 1))) (uI (uI yA 73 ((yA.1 69 7).toInt.toNat) l) 69 7 ((yA.1 69 7) + 1)))
    (l4 : 0 ≤ l.toInt → l.toInt ≤ 5 → (yA.1 69 7).toInt = 20 → yQ (some (.int (-2))) yA) :
    Pa N 164 0 [(0, .ref 69), (1, .int l)] [] yA yQ := by
  refine Pa.mp 1 (pc' := 1) (l' := [(0, .ref 69), (1, .int l)]) (st' := [.int l]) (by rfl) ?_
  refine Pa.ist (by rfl) (by rfl) (.inl rfl) (by rfl) (by rfl) ?_
  show Pa N 154 0 [(0, .int l)] [] yA _
  refine Pa.mp 1 (pc' := 1) (l' := [(0, .int l)]) (st' := [.int l]) (by rfl) ?_
  refine Pa.ic (x := 0) (pc' := 2) (by rfl) (by rfl) (by decide) ?_
  refine Pa.ic (x := 5) (pc' := 3) (by rfl) (by rfl) (by decide) ?_
  refine Pa.ist (by rfl) (by rfl) (.inl rfl) (by rfl) (by rfl) ?_
  show Pa N 152 0 [(0, .int l), (1, .int 0), (2, .int 5)] [] yA _
  refine Pa.mp 2 (pc' := 2) (l' := [(0, .int l), (1, .int 0), (2, .int 5)]) (st' := [.int 0, .int l]) (by rfl) ?_
  refine Pa.if2 (a := l.toInt) (b := 0) (t := 14) (by rfl) (by rfl) (rfl) (by decide) (fun h1 => ?_) (fun h2 => ?_)
  · have h1 : l.toInt < 0 := h1
    refine Pa.ic (x := 0) (pc' := 15) (by rfl) (by rfl) (by decide) ?_
    refine Pa.iret (by rfl) ?_
    show Pa N 154 6 [(0, .int l)] [.int 0] yA _
    refine Pa.iret (by rfl) ?_
    show Pa N 164 4 [(0, .ref 69), (1, .int l)] [.int 0] yA _
    refine Pa.if1k false (by rfl) (by rfl) (by decide) ?_
    show Pa N 164 7 [(0, .ref 69), (1, .int l)] [] yA _
    refine Pa.ic (x := (-1)) (pc' := 8) (by rfl) (by rfl) (by decide) ?_
    refine Pa.iret (by rfl) ?_
    exact l1 h1
  · have h2 : 0 ≤ l.toInt := h2
    refine Pa.mp 2 (pc' := 7) (l' := [(0, .int l), (1, .int 0), (2, .int 5)]) (st' := [.int 5, .int l]) (by rfl) ?_
    refine Pa.if2 (a := l.toInt) (b := 5) (t := 14) (by rfl) (by rfl) (rfl) (by decide) (fun h3 => ?_) (fun h4 => ?_)
    · have h3 : 5 < l.toInt := h3
      refine Pa.ic (x := 0) (pc' := 15) (by rfl) (by rfl) (by decide) ?_
      refine Pa.iret (by rfl) ?_
      show Pa N 154 6 [(0, .int l)] [.int 0] yA _
      refine Pa.iret (by rfl) ?_
      show Pa N 164 4 [(0, .ref 69), (1, .int l)] [.int 0] yA _
      refine Pa.if1k false (by rfl) (by rfl) (by decide) ?_
      show Pa N 164 7 [(0, .ref 69), (1, .int l)] [] yA _
      refine Pa.ic (x := (-1)) (pc' := 8) (by rfl) (by rfl) (by decide) ?_
      refine Pa.iret (by rfl) ?_
      exact l2 h2 h3
    · have h4 : l.toInt ≤ 5 := h4
      refine Pa.ic (x := 1) (pc' := 11) (by rfl) (by rfl) (by decide) ?_
      refine Pa.mp 1 (pc' := 15) (l' := [(0, .int l), (1, .int 0), (2, .int 5)]) (st' := [.int 1]) (by rfl) ?_
      refine Pa.iret (by rfl) ?_
      show Pa N 154 6 [(0, .int l)] [.int 1] yA _
      refine Pa.iret (by rfl) ?_
      show Pa N 164 4 [(0, .ref 69), (1, .int l)] [.int 1] yA _
      refine Pa.if1k true (by rfl) (by rfl) (by decide) ?_
      show Pa N 164 9 [(0, .ref 69), (1, .int l)] [] yA _
      refine Pa.mp 1 (pc' := 10) (l' := [(0, .ref 69), (1, .int l)]) (st' := [.ref 69]) (by rfl) ?_
      refine Pa.gfI (v := yA.1 69 7) (by rfl) (by rfl) (.inl rfl) (by rfl) (by rfl) ?_
      refine Pa.ic (x := 20) (pc' := 15) (by rfl) (by rfl) (by decide) ?_
      refine Pa.if2 (a := (yA.1 69 7).toInt) (b := 20) (t := 21) (by rfl) (by rfl) (rfl) (by decide) (fun h5 => ?_) (fun h6 => ?_)
      · have h5 : (yA.1 69 7).toInt ≠ 20 := h5
        refine Pa.mp 1 (pc' := 22) (l' := [(0, .ref 69), (1, .int l)]) (st' := [.ref 69]) (by rfl) ?_
        refine Pa.gfR (by rfl) (by rfl) (.inl rfl) (by rfl) ?_
        show Pa N 164 25 [(0, .ref 69), (1, .int l)] [.ref 73] yA _
        refine Pa.mp 1 (pc' := 26) (l' := [(0, .ref 69), (1, .int l)]) (st' := [.ref 69, .ref 73]) (by rfl) ?_
        refine Pa.gfI (v := yA.1 69 7) (by rfl) (by rfl) (.inl rfl) (by rfl) (by rfl) ?_
        refine Pa.mp 1 (pc' := 30) (l' := [(0, .ref 69), (1, .int l)]) (st' := [.int l, .int (yA.1 69 7), .ref 73]) (by rfl) ?_
        refine Pa.asts (j' := ((yA.1 69 7).toInt.toNat)) (by rfl) (by rfl) (by rfl) (fun h7 h8 => ?_)
        have h7 : 0 ≤ (yA.1 69 7).toInt := h7
        have h8 : (yA.1 69 7).toInt < 20 := h8
        show Pa N 164 31 [(0, .ref 69), (1, .int l)] [] (uI yA 73 ((yA.1 69 7).toInt.toNat) l) _
        refine Pa.mp 2 (pc' := 33) (l' := [(0, .ref 69), (1, .int l)]) (st' := [.ref 69, .ref 69]) (by rfl) ?_
        refine Pa.gfI (v := yA.1 69 7) (by rfl) (by rfl) (.inl rfl) (by rfl) (by show (uI yA 73 ((yA.1 69 7).toInt.toNat) l).1 69 7 = yA.1 69 7; rw [uI_c (by decide)]) ?_
        refine Pa.ic (x := 1) (pc' := 37) (by rfl) (by rfl) (by decide) ?_
        refine Pa.mp 1 (pc' := 38) (l' := [(0, .ref 69), (1, .int l)]) (st' := [.int ((yA.1 69 7) + 1), .ref 69]) (by rfl) ?_
        refine Pa.pfI (by rfl) (by rfl) (.inl rfl) (by rfl) ?_
        show Pa N 164 41 [(0, .ref 69), (1, .int l)] [] (uI (uI yA 73 ((yA.1 69 7).toInt.toNat) l) 69 7 ((yA.1 69 7) + 1)) _
        refine Pa.mp 1 (pc' := 42) (l' := [(0, .ref 69), (1, .int l)]) (st' := [.ref 69]) (by rfl) ?_
        refine Pa.gfI (v := (yA.1 69 7) + 1) (by rfl) (by rfl) (.inl rfl) (by rfl) (by show (uI (uI yA 73 ((yA.1 69 7).toInt.toNat) l) 69 7 ((yA.1 69 7) + 1)).1 69 7 = (yA.1 69 7) + 1; rw [uI_h]) ?_
        refine Pa.ic (x := 1) (pc' := 46) (by rfl) (by rfl) (by decide) ?_
        refine Pa.mp 1 (pc' := 47) (l' := [(0, .ref 69), (1, .int l)]) (st' := [.int (((yA.1 69 7) + 1) - 1)]) (by rfl) ?_
        refine Pa.iret (by rfl) ?_
        exact l3 h2 h4 h5 h7 h8
      · have h6 : (yA.1 69 7).toInt = 20 := h6
        refine Pa.ic (x := (-2)) (pc' := 20) (by rfl) (by rfl) (by decide) ?_
        refine Pa.iret (by rfl) ?_
        exact l4 h2 h4 h6

theorem bxf_film {N : Nat} {yA : AW} {yQ : Option Value → AW → Prop} (yf yn : Int32)
    (l1 : yf.toInt < 0 → yQ (some (.int (-1))) yA)
    (l2 : 0 ≤ yf.toInt → (yA.1 1 3).toInt ≤ yf.toInt → yQ (some (.int (-1))) yA)
    (l3 : 0 ≤ yf.toInt → yf.toInt < (yA.1 1 3).toInt → yn.toInt < 1 → yQ (some (.int (-1))) yA)
    (l4 : 0 ≤ yf.toInt → yf.toInt < (yA.1 1 3).toInt → 1 ≤ yn.toInt → 9 < yn.toInt → yQ (some (.int (-1))) yA)
    (l5 : 0 ≤ yf.toInt → yf.toInt < (yA.1 1 3).toInt → 1 ≤ yn.toInt → yn.toInt ≤ 9 → (yA.1 5 6).toInt < 20 → 0 ≤ (yA.1 5 6).toInt → yQ (some (.int (((yA.1 5 6) + 1) - 1))) (uI (uI (uI yA 6 ((yA.1 5 6).toInt.toNat) yf) 7 ((yA.1 5 6).toInt.toNat) yn) 5 6 ((yA.1 5 6) + 1)))
    (l6 : 0 ≤ yf.toInt → yf.toInt < (yA.1 1 3).toInt → 1 ≤ yn.toInt → yn.toInt ≤ 9 → 20 ≤ (yA.1 5 6).toInt → yQ (some (.int (-2))) yA) :
    Pa N 103 0 [(0, .ref 0), (1, .int yf), (2, .int yn)] [] yA yQ := by
  refine Pa.mp 1 (pc' := 1) (l' := [(0, .ref 0), (1, .int yf), (2, .int yn)]) (st' := [.ref 0]) (by rfl) ?_
  refine Pa.gfR (by rfl) (by rfl) (.inl rfl) (by rfl) ?_
  show Pa N 103 4 [(0, .ref 0), (1, .int yf), (2, .int yn)] [.ref 1] yA _
  refine Pa.mp 1 (pc' := 5) (l' := [(0, .ref 0), (1, .int yf), (2, .int yn)]) (st' := [.int yf, .ref 1]) (by rfl) ?_
  refine Pa.inv (by rfl) (by rfl) (.inr rfl) (by rfl) ?_
  show Pa N 48 0 [(0, .ref 1), (1, .int yf)] [] yA _
  refine Pa.mp 1 (pc' := 1) (l' := [(0, .ref 1), (1, .int yf)]) (st' := [.int yf]) (by rfl) ?_
  refine Pa.if1 (a := yf.toInt) (t := 16) (by rfl) (by rfl) (rfl) (fun h1 => ?_) (fun h2 => ?_)
  · have h1 : yf.toInt < 0 := h1
    refine Pa.ic (x := 0) (pc' := 17) (by rfl) (by rfl) (by decide) ?_
    refine Pa.iret (by rfl) ?_
    show Pa N 103 8 [(0, .ref 0), (1, .int yf), (2, .int yn)] [.int 0] yA _
    refine Pa.if1k true (by rfl) (by rfl) (by decide) ?_
    show Pa N 103 21 [(0, .ref 0), (1, .int yf), (2, .int yn)] [] yA _
    refine Pa.ic (x := (-1)) (pc' := 22) (by rfl) (by rfl) (by decide) ?_
    refine Pa.iret (by rfl) ?_
    exact l1 h1
  · have h2 : 0 ≤ yf.toInt := h2
    refine Pa.mp 2 (pc' := 6) (l' := [(0, .ref 1), (1, .int yf)]) (st' := [.ref 1, .int yf]) (by rfl) ?_
    refine Pa.gfI (v := yA.1 1 3) (by rfl) (by rfl) (.inl rfl) (by rfl) (by rfl) ?_
    refine Pa.if2 (a := yf.toInt) (b := (yA.1 1 3).toInt) (t := 16) (by rfl) (by rfl) (rfl) (rfl) (fun h3 => ?_) (fun h4 => ?_)
    · have h3 : (yA.1 1 3).toInt ≤ yf.toInt := h3
      refine Pa.ic (x := 0) (pc' := 17) (by rfl) (by rfl) (by decide) ?_
      refine Pa.iret (by rfl) ?_
      show Pa N 103 8 [(0, .ref 0), (1, .int yf), (2, .int yn)] [.int 0] yA _
      refine Pa.if1k true (by rfl) (by rfl) (by decide) ?_
      show Pa N 103 21 [(0, .ref 0), (1, .int yf), (2, .int yn)] [] yA _
      refine Pa.ic (x := (-1)) (pc' := 22) (by rfl) (by rfl) (by decide) ?_
      refine Pa.iret (by rfl) ?_
      exact l2 h2 h3
    · have h4 : yf.toInt < (yA.1 1 3).toInt := h4
      refine Pa.ic (x := 1) (pc' := 13) (by rfl) (by rfl) (by decide) ?_
      refine Pa.mp 1 (pc' := 17) (l' := [(0, .ref 1), (1, .int yf)]) (st' := [.int 1]) (by rfl) ?_
      refine Pa.iret (by rfl) ?_
      show Pa N 103 8 [(0, .ref 0), (1, .int yf), (2, .int yn)] [.int 1] yA _
      refine Pa.if1k false (by rfl) (by rfl) (by decide) ?_
      show Pa N 103 11 [(0, .ref 0), (1, .int yf), (2, .int yn)] [] yA _
      refine Pa.mp 1 (pc' := 12) (l' := [(0, .ref 0), (1, .int yf), (2, .int yn)]) (st' := [.int yn]) (by rfl) ?_
      refine Pa.ic (x := 1) (pc' := 13) (by rfl) (by rfl) (by decide) ?_
      refine Pa.ic (x := 9) (pc' := 15) (by rfl) (by rfl) (by decide) ?_
      refine Pa.ist (by rfl) (by rfl) (.inl rfl) (by rfl) (by rfl) ?_
      show Pa N 146 0 [(0, .int yn), (1, .int 1), (2, .int 9)] [] yA _
      refine Pa.mp 2 (pc' := 2) (l' := [(0, .int yn), (1, .int 1), (2, .int 9)]) (st' := [.int 1, .int yn]) (by rfl) ?_
      refine Pa.if2 (a := yn.toInt) (b := 1) (t := 14) (by rfl) (by rfl) (rfl) (by decide) (fun h5 => ?_) (fun h6 => ?_)
      · have h5 : yn.toInt < 1 := h5
        refine Pa.ic (x := 0) (pc' := 15) (by rfl) (by rfl) (by decide) ?_
        refine Pa.iret (by rfl) ?_
        show Pa N 103 18 [(0, .ref 0), (1, .int yf), (2, .int yn)] [.int 0] yA _
        refine Pa.if1k false (by rfl) (by rfl) (by decide) ?_
        show Pa N 103 21 [(0, .ref 0), (1, .int yf), (2, .int yn)] [] yA _
        refine Pa.ic (x := (-1)) (pc' := 22) (by rfl) (by rfl) (by decide) ?_
        refine Pa.iret (by rfl) ?_
        exact l3 h2 h4 h5
      · have h6 : 1 ≤ yn.toInt := h6
        refine Pa.mp 2 (pc' := 7) (l' := [(0, .int yn), (1, .int 1), (2, .int 9)]) (st' := [.int 9, .int yn]) (by rfl) ?_
        refine Pa.if2 (a := yn.toInt) (b := 9) (t := 14) (by rfl) (by rfl) (rfl) (by decide) (fun h7 => ?_) (fun h8 => ?_)
        · have h7 : 9 < yn.toInt := h7
          refine Pa.ic (x := 0) (pc' := 15) (by rfl) (by rfl) (by decide) ?_
          refine Pa.iret (by rfl) ?_
          show Pa N 103 18 [(0, .ref 0), (1, .int yf), (2, .int yn)] [.int 0] yA _
          refine Pa.if1k false (by rfl) (by rfl) (by decide) ?_
          show Pa N 103 21 [(0, .ref 0), (1, .int yf), (2, .int yn)] [] yA _
          refine Pa.ic (x := (-1)) (pc' := 22) (by rfl) (by rfl) (by decide) ?_
          refine Pa.iret (by rfl) ?_
          exact l4 h2 h4 h6 h7
        · have h8 : yn.toInt ≤ 9 := h8
          refine Pa.ic (x := 1) (pc' := 11) (by rfl) (by rfl) (by decide) ?_
          refine Pa.mp 1 (pc' := 15) (l' := [(0, .int yn), (1, .int 1), (2, .int 9)]) (st' := [.int 1]) (by rfl) ?_
          refine Pa.iret (by rfl) ?_
          show Pa N 103 18 [(0, .ref 0), (1, .int yf), (2, .int yn)] [.int 1] yA _
          refine Pa.if1k true (by rfl) (by rfl) (by decide) ?_
          show Pa N 103 23 [(0, .ref 0), (1, .int yf), (2, .int yn)] [] yA _
          refine Pa.mp 1 (pc' := 24) (l' := [(0, .ref 0), (1, .int yf), (2, .int yn)]) (st' := [.ref 0]) (by rfl) ?_
          refine Pa.gfR (by rfl) (by rfl) (.inl rfl) (by rfl) ?_
          show Pa N 103 27 [(0, .ref 0), (1, .int yf), (2, .int yn)] [.ref 5] yA _
          refine Pa.mp 2 (pc' := 29) (l' := [(0, .ref 0), (1, .int yf), (2, .int yn)]) (st' := [.int yn, .int yf, .ref 5]) (by rfl) ?_
          refine Pa.inv (by rfl) (by rfl) (.inr rfl) (by rfl) ?_
          show Pa N 42 0 [(0, .ref 5), (1, .int yf), (2, .int yn)] [] yA _
          refine Pa.mp 1 (pc' := 1) (l' := [(0, .ref 5), (1, .int yf), (2, .int yn)]) (st' := [.ref 5]) (by rfl) ?_
          refine Pa.gfI (v := yA.1 5 6) (by rfl) (by rfl) (.inl rfl) (by rfl) (by rfl) ?_
          refine Pa.ic (x := 20) (pc' := 6) (by rfl) (by rfl) (by decide) ?_
          refine Pa.if2 (a := (yA.1 5 6).toInt) (b := 20) (t := 12) (by rfl) (by rfl) (rfl) (by decide) (fun h9 => ?_) (fun h10 => ?_)
          · have h9 : (yA.1 5 6).toInt < 20 := h9
            refine Pa.mp 1 (pc' := 13) (l' := [(0, .ref 5), (1, .int yf), (2, .int yn)]) (st' := [.ref 5]) (by rfl) ?_
            refine Pa.gfR (by rfl) (by rfl) (.inl rfl) (by rfl) ?_
            show Pa N 42 16 [(0, .ref 5), (1, .int yf), (2, .int yn)] [.ref 6] yA _
            refine Pa.mp 1 (pc' := 17) (l' := [(0, .ref 5), (1, .int yf), (2, .int yn)]) (st' := [.ref 5, .ref 6]) (by rfl) ?_
            refine Pa.gfI (v := yA.1 5 6) (by rfl) (by rfl) (.inl rfl) (by rfl) (by rfl) ?_
            refine Pa.mp 1 (pc' := 21) (l' := [(0, .ref 5), (1, .int yf), (2, .int yn)]) (st' := [.int yf, .int (yA.1 5 6), .ref 6]) (by rfl) ?_
            refine Pa.asts (j' := ((yA.1 5 6).toInt.toNat)) (by rfl) (by rfl) (by rfl) (fun h11 h12 => ?_)
            have h11 : 0 ≤ (yA.1 5 6).toInt := h11
            have h12 : (yA.1 5 6).toInt < 20 := h12
            show Pa N 42 22 [(0, .ref 5), (1, .int yf), (2, .int yn)] [] (uI yA 6 ((yA.1 5 6).toInt.toNat) yf) _
            refine Pa.mp 1 (pc' := 23) (l' := [(0, .ref 5), (1, .int yf), (2, .int yn)]) (st' := [.ref 5]) (by rfl) ?_
            refine Pa.gfR (by rfl) (by rfl) (.inl rfl) (by rfl) ?_
            show Pa N 42 26 [(0, .ref 5), (1, .int yf), (2, .int yn)] [.ref 7] (uI yA 6 ((yA.1 5 6).toInt.toNat) yf) _
            refine Pa.mp 1 (pc' := 27) (l' := [(0, .ref 5), (1, .int yf), (2, .int yn)]) (st' := [.ref 5, .ref 7]) (by rfl) ?_
            refine Pa.gfI (v := yA.1 5 6) (by rfl) (by rfl) (.inl rfl) (by rfl) (by show (uI yA 6 ((yA.1 5 6).toInt.toNat) yf).1 5 6 = yA.1 5 6; rw [uI_c (by decide)]) ?_
            refine Pa.mp 1 (pc' := 31) (l' := [(0, .ref 5), (1, .int yf), (2, .int yn)]) (st' := [.int yn, .int (yA.1 5 6), .ref 7]) (by rfl) ?_
            refine Pa.asts (j' := ((yA.1 5 6).toInt.toNat)) (by rfl) (by rfl) (by rfl) (fun h13 h14 => ?_)
            have h13 : 0 ≤ (yA.1 5 6).toInt := h13
            have h14 : (yA.1 5 6).toInt < 20 := h14
            show Pa N 42 32 [(0, .ref 5), (1, .int yf), (2, .int yn)] [] (uI (uI yA 6 ((yA.1 5 6).toInt.toNat) yf) 7 ((yA.1 5 6).toInt.toNat) yn) _
            refine Pa.mp 2 (pc' := 34) (l' := [(0, .ref 5), (1, .int yf), (2, .int yn)]) (st' := [.ref 5, .ref 5]) (by rfl) ?_
            refine Pa.gfI (v := yA.1 5 6) (by rfl) (by rfl) (.inl rfl) (by rfl) (by show (uI (uI yA 6 ((yA.1 5 6).toInt.toNat) yf) 7 ((yA.1 5 6).toInt.toNat) yn).1 5 6 = yA.1 5 6; rw [uI_c (by decide), uI_c (by decide)]) ?_
            refine Pa.ic (x := 1) (pc' := 38) (by rfl) (by rfl) (by decide) ?_
            refine Pa.mp 1 (pc' := 39) (l' := [(0, .ref 5), (1, .int yf), (2, .int yn)]) (st' := [.int ((yA.1 5 6) + 1), .ref 5]) (by rfl) ?_
            refine Pa.pfI (by rfl) (by rfl) (.inl rfl) (by rfl) ?_
            show Pa N 42 42 [(0, .ref 5), (1, .int yf), (2, .int yn)] [] (uI (uI (uI yA 6 ((yA.1 5 6).toInt.toNat) yf) 7 ((yA.1 5 6).toInt.toNat) yn) 5 6 ((yA.1 5 6) + 1)) _
            refine Pa.mp 1 (pc' := 43) (l' := [(0, .ref 5), (1, .int yf), (2, .int yn)]) (st' := [.ref 5]) (by rfl) ?_
            refine Pa.gfI (v := (yA.1 5 6) + 1) (by rfl) (by rfl) (.inl rfl) (by rfl) (by show (uI (uI (uI yA 6 ((yA.1 5 6).toInt.toNat) yf) 7 ((yA.1 5 6).toInt.toNat) yn) 5 6 ((yA.1 5 6) + 1)).1 5 6 = (yA.1 5 6) + 1; rw [uI_h]) ?_
            refine Pa.ic (x := 1) (pc' := 47) (by rfl) (by rfl) (by decide) ?_
            refine Pa.mp 1 (pc' := 48) (l' := [(0, .ref 5), (1, .int yf), (2, .int yn)]) (st' := [.int (((yA.1 5 6) + 1) - 1)]) (by rfl) ?_
            refine Pa.iret (by rfl) ?_
            show Pa N 103 32 [(0, .ref 0), (1, .int yf), (2, .int yn)] [.int (((yA.1 5 6) + 1) - 1)] (uI (uI (uI yA 6 ((yA.1 5 6).toInt.toNat) yf) 7 ((yA.1 5 6).toInt.toNat) yn) 5 6 ((yA.1 5 6) + 1)) _
            refine Pa.iret (by rfl) ?_
            exact l5 h2 h4 h6 h8 h9 h11
          · have h10 : 20 ≤ (yA.1 5 6).toInt := h10
            refine Pa.ic (x := (-2)) (pc' := 11) (by rfl) (by rfl) (by decide) ?_
            refine Pa.iret (by rfl) ?_
            show Pa N 103 32 [(0, .ref 0), (1, .int yf), (2, .int yn)] [.int (-2)] yA _
            refine Pa.iret (by rfl) ?_
            exact l6 h2 h4 h6 h8 h10

theorem bmf_film {N : Nat} {yA : AW} {yQ : Option Value → AW → Prop} (yf yn : Int32)
    (l1 : yf.toInt < 0 → yQ (some (.int (-1))) yA)
    (l2 : 0 ≤ yf.toInt → (yA.1 69 7).toInt ≤ yf.toInt → yQ (some (.int (-1))) yA)
    (l3 : 0 ≤ yf.toInt → yf.toInt < (yA.1 69 7).toInt → yn.toInt < 1 → yQ (some (.int (-1))) yA)
    (l4 : 0 ≤ yf.toInt → yf.toInt < (yA.1 69 7).toInt → 1 ≤ yn.toInt → 9 < yn.toInt → yQ (some (.int (-1))) yA)
    (l5 : 0 ≤ yf.toInt → yf.toInt < (yA.1 69 7).toInt → 1 ≤ yn.toInt → yn.toInt ≤ 9 → (yA.1 69 11).toInt ≠ 20 → 0 ≤ (yA.1 69 11).toInt → (yA.1 69 11).toInt < 20 → yQ (some (.int (((yA.1 69 11) + 1) - 1))) (uI (uI (uI yA 76 ((yA.1 69 11).toInt.toNat) yf) 77 ((yA.1 69 11).toInt.toNat) yn) 69 11 ((yA.1 69 11) + 1)))
    (l6 : 0 ≤ yf.toInt → yf.toInt < (yA.1 69 7).toInt → 1 ≤ yn.toInt → yn.toInt ≤ 9 → (yA.1 69 11).toInt = 20 → yQ (some (.int (-2))) yA) :
    Pa N 167 0 [(0, .ref 69), (1, .int yf), (2, .int yn)] [] yA yQ := by
  refine Pa.mp 2 (pc' := 2) (l' := [(0, .ref 69), (1, .int yf), (2, .int yn)]) (st' := [.int yf, .ref 69]) (by rfl) ?_
  refine Pa.inv (by rfl) (by rfl) (.inl rfl) (by rfl) ?_
  show Pa N 156 0 [(0, .ref 69), (1, .int yf)] [] yA _
  refine Pa.mp 1 (pc' := 1) (l' := [(0, .ref 69), (1, .int yf)]) (st' := [.int yf]) (by rfl) ?_
  refine Pa.if1 (a := yf.toInt) (t := 16) (by rfl) (by rfl) (rfl) (fun h1 => ?_) (fun h2 => ?_)
  · have h1 : yf.toInt < 0 := h1
    refine Pa.ic (x := 0) (pc' := 17) (by rfl) (by rfl) (by decide) ?_
    refine Pa.iret (by rfl) ?_
    show Pa N 167 5 [(0, .ref 69), (1, .int yf), (2, .int yn)] [.int 0] yA _
    refine Pa.if1k true (by rfl) (by rfl) (by decide) ?_
    show Pa N 167 18 [(0, .ref 69), (1, .int yf), (2, .int yn)] [] yA _
    refine Pa.ic (x := (-1)) (pc' := 19) (by rfl) (by rfl) (by decide) ?_
    refine Pa.iret (by rfl) ?_
    exact l1 h1
  · have h2 : 0 ≤ yf.toInt := h2
    refine Pa.mp 2 (pc' := 6) (l' := [(0, .ref 69), (1, .int yf)]) (st' := [.ref 69, .int yf]) (by rfl) ?_
    refine Pa.gfI (v := yA.1 69 7) (by rfl) (by rfl) (.inl rfl) (by rfl) (by rfl) ?_
    refine Pa.if2 (a := yf.toInt) (b := (yA.1 69 7).toInt) (t := 16) (by rfl) (by rfl) (rfl) (rfl) (fun h3 => ?_) (fun h4 => ?_)
    · have h3 : (yA.1 69 7).toInt ≤ yf.toInt := h3
      refine Pa.ic (x := 0) (pc' := 17) (by rfl) (by rfl) (by decide) ?_
      refine Pa.iret (by rfl) ?_
      show Pa N 167 5 [(0, .ref 69), (1, .int yf), (2, .int yn)] [.int 0] yA _
      refine Pa.if1k true (by rfl) (by rfl) (by decide) ?_
      show Pa N 167 18 [(0, .ref 69), (1, .int yf), (2, .int yn)] [] yA _
      refine Pa.ic (x := (-1)) (pc' := 19) (by rfl) (by rfl) (by decide) ?_
      refine Pa.iret (by rfl) ?_
      exact l2 h2 h3
    · have h4 : yf.toInt < (yA.1 69 7).toInt := h4
      refine Pa.ic (x := 1) (pc' := 13) (by rfl) (by rfl) (by decide) ?_
      refine Pa.mp 1 (pc' := 17) (l' := [(0, .ref 69), (1, .int yf)]) (st' := [.int 1]) (by rfl) ?_
      refine Pa.iret (by rfl) ?_
      show Pa N 167 5 [(0, .ref 69), (1, .int yf), (2, .int yn)] [.int 1] yA _
      refine Pa.if1k false (by rfl) (by rfl) (by decide) ?_
      show Pa N 167 8 [(0, .ref 69), (1, .int yf), (2, .int yn)] [] yA _
      refine Pa.mp 1 (pc' := 9) (l' := [(0, .ref 69), (1, .int yf), (2, .int yn)]) (st' := [.int yn]) (by rfl) ?_
      refine Pa.ic (x := 1) (pc' := 10) (by rfl) (by rfl) (by decide) ?_
      refine Pa.ic (x := 9) (pc' := 12) (by rfl) (by rfl) (by decide) ?_
      refine Pa.ist (by rfl) (by rfl) (.inl rfl) (by rfl) (by rfl) ?_
      show Pa N 152 0 [(0, .int yn), (1, .int 1), (2, .int 9)] [] yA _
      refine Pa.mp 2 (pc' := 2) (l' := [(0, .int yn), (1, .int 1), (2, .int 9)]) (st' := [.int 1, .int yn]) (by rfl) ?_
      refine Pa.if2 (a := yn.toInt) (b := 1) (t := 14) (by rfl) (by rfl) (rfl) (by decide) (fun h5 => ?_) (fun h6 => ?_)
      · have h5 : yn.toInt < 1 := h5
        refine Pa.ic (x := 0) (pc' := 15) (by rfl) (by rfl) (by decide) ?_
        refine Pa.iret (by rfl) ?_
        show Pa N 167 15 [(0, .ref 69), (1, .int yf), (2, .int yn)] [.int 0] yA _
        refine Pa.if1k false (by rfl) (by rfl) (by decide) ?_
        show Pa N 167 18 [(0, .ref 69), (1, .int yf), (2, .int yn)] [] yA _
        refine Pa.ic (x := (-1)) (pc' := 19) (by rfl) (by rfl) (by decide) ?_
        refine Pa.iret (by rfl) ?_
        exact l3 h2 h4 h5
      · have h6 : 1 ≤ yn.toInt := h6
        refine Pa.mp 2 (pc' := 7) (l' := [(0, .int yn), (1, .int 1), (2, .int 9)]) (st' := [.int 9, .int yn]) (by rfl) ?_
        refine Pa.if2 (a := yn.toInt) (b := 9) (t := 14) (by rfl) (by rfl) (rfl) (by decide) (fun h7 => ?_) (fun h8 => ?_)
        · have h7 : 9 < yn.toInt := h7
          refine Pa.ic (x := 0) (pc' := 15) (by rfl) (by rfl) (by decide) ?_
          refine Pa.iret (by rfl) ?_
          show Pa N 167 15 [(0, .ref 69), (1, .int yf), (2, .int yn)] [.int 0] yA _
          refine Pa.if1k false (by rfl) (by rfl) (by decide) ?_
          show Pa N 167 18 [(0, .ref 69), (1, .int yf), (2, .int yn)] [] yA _
          refine Pa.ic (x := (-1)) (pc' := 19) (by rfl) (by rfl) (by decide) ?_
          refine Pa.iret (by rfl) ?_
          exact l4 h2 h4 h6 h7
        · have h8 : yn.toInt ≤ 9 := h8
          refine Pa.ic (x := 1) (pc' := 11) (by rfl) (by rfl) (by decide) ?_
          refine Pa.mp 1 (pc' := 15) (l' := [(0, .int yn), (1, .int 1), (2, .int 9)]) (st' := [.int 1]) (by rfl) ?_
          refine Pa.iret (by rfl) ?_
          show Pa N 167 15 [(0, .ref 69), (1, .int yf), (2, .int yn)] [.int 1] yA _
          refine Pa.if1k true (by rfl) (by rfl) (by decide) ?_
          show Pa N 167 20 [(0, .ref 69), (1, .int yf), (2, .int yn)] [] yA _
          refine Pa.mp 1 (pc' := 21) (l' := [(0, .ref 69), (1, .int yf), (2, .int yn)]) (st' := [.ref 69]) (by rfl) ?_
          refine Pa.gfI (v := yA.1 69 11) (by rfl) (by rfl) (.inl rfl) (by rfl) (by rfl) ?_
          refine Pa.ic (x := 20) (pc' := 26) (by rfl) (by rfl) (by decide) ?_
          refine Pa.if2 (a := (yA.1 69 11).toInt) (b := 20) (t := 32) (by rfl) (by rfl) (rfl) (by decide) (fun h9 => ?_) (fun h10 => ?_)
          · have h9 : (yA.1 69 11).toInt ≠ 20 := h9
            refine Pa.mp 1 (pc' := 33) (l' := [(0, .ref 69), (1, .int yf), (2, .int yn)]) (st' := [.ref 69]) (by rfl) ?_
            refine Pa.gfR (by rfl) (by rfl) (.inl rfl) (by rfl) ?_
            show Pa N 167 36 [(0, .ref 69), (1, .int yf), (2, .int yn)] [.ref 76] yA _
            refine Pa.mp 1 (pc' := 37) (l' := [(0, .ref 69), (1, .int yf), (2, .int yn)]) (st' := [.ref 69, .ref 76]) (by rfl) ?_
            refine Pa.gfI (v := yA.1 69 11) (by rfl) (by rfl) (.inl rfl) (by rfl) (by rfl) ?_
            refine Pa.mp 1 (pc' := 41) (l' := [(0, .ref 69), (1, .int yf), (2, .int yn)]) (st' := [.int yf, .int (yA.1 69 11), .ref 76]) (by rfl) ?_
            refine Pa.asts (j' := ((yA.1 69 11).toInt.toNat)) (by rfl) (by rfl) (by rfl) (fun h11 h12 => ?_)
            have h11 : 0 ≤ (yA.1 69 11).toInt := h11
            have h12 : (yA.1 69 11).toInt < 20 := h12
            show Pa N 167 42 [(0, .ref 69), (1, .int yf), (2, .int yn)] [] (uI yA 76 ((yA.1 69 11).toInt.toNat) yf) _
            refine Pa.mp 1 (pc' := 43) (l' := [(0, .ref 69), (1, .int yf), (2, .int yn)]) (st' := [.ref 69]) (by rfl) ?_
            refine Pa.gfR (by rfl) (by rfl) (.inl rfl) (by rfl) ?_
            show Pa N 167 46 [(0, .ref 69), (1, .int yf), (2, .int yn)] [.ref 77] (uI yA 76 ((yA.1 69 11).toInt.toNat) yf) _
            refine Pa.mp 1 (pc' := 47) (l' := [(0, .ref 69), (1, .int yf), (2, .int yn)]) (st' := [.ref 69, .ref 77]) (by rfl) ?_
            refine Pa.gfI (v := yA.1 69 11) (by rfl) (by rfl) (.inl rfl) (by rfl) (by show (uI yA 76 ((yA.1 69 11).toInt.toNat) yf).1 69 11 = yA.1 69 11; rw [uI_c (by decide)]) ?_
            refine Pa.mp 1 (pc' := 51) (l' := [(0, .ref 69), (1, .int yf), (2, .int yn)]) (st' := [.int yn, .int (yA.1 69 11), .ref 77]) (by rfl) ?_
            refine Pa.asts (j' := ((yA.1 69 11).toInt.toNat)) (by rfl) (by rfl) (by rfl) (fun h13 h14 => ?_)
            have h13 : 0 ≤ (yA.1 69 11).toInt := h13
            have h14 : (yA.1 69 11).toInt < 20 := h14
            show Pa N 167 52 [(0, .ref 69), (1, .int yf), (2, .int yn)] [] (uI (uI yA 76 ((yA.1 69 11).toInt.toNat) yf) 77 ((yA.1 69 11).toInt.toNat) yn) _
            refine Pa.mp 2 (pc' := 54) (l' := [(0, .ref 69), (1, .int yf), (2, .int yn)]) (st' := [.ref 69, .ref 69]) (by rfl) ?_
            refine Pa.gfI (v := yA.1 69 11) (by rfl) (by rfl) (.inl rfl) (by rfl) (by show (uI (uI yA 76 ((yA.1 69 11).toInt.toNat) yf) 77 ((yA.1 69 11).toInt.toNat) yn).1 69 11 = yA.1 69 11; rw [uI_c (by decide), uI_c (by decide)]) ?_
            refine Pa.ic (x := 1) (pc' := 58) (by rfl) (by rfl) (by decide) ?_
            refine Pa.mp 1 (pc' := 59) (l' := [(0, .ref 69), (1, .int yf), (2, .int yn)]) (st' := [.int ((yA.1 69 11) + 1), .ref 69]) (by rfl) ?_
            refine Pa.pfI (by rfl) (by rfl) (.inl rfl) (by rfl) ?_
            show Pa N 167 62 [(0, .ref 69), (1, .int yf), (2, .int yn)] [] (uI (uI (uI yA 76 ((yA.1 69 11).toInt.toNat) yf) 77 ((yA.1 69 11).toInt.toNat) yn) 69 11 ((yA.1 69 11) + 1)) _
            refine Pa.mp 1 (pc' := 63) (l' := [(0, .ref 69), (1, .int yf), (2, .int yn)]) (st' := [.ref 69]) (by rfl) ?_
            refine Pa.gfI (v := (yA.1 69 11) + 1) (by rfl) (by rfl) (.inl rfl) (by rfl) (by show (uI (uI (uI yA 76 ((yA.1 69 11).toInt.toNat) yf) 77 ((yA.1 69 11).toInt.toNat) yn) 69 11 ((yA.1 69 11) + 1)).1 69 11 = (yA.1 69 11) + 1; rw [uI_h]) ?_
            refine Pa.ic (x := 1) (pc' := 67) (by rfl) (by rfl) (by decide) ?_
            refine Pa.mp 1 (pc' := 68) (l' := [(0, .ref 69), (1, .int yf), (2, .int yn)]) (st' := [.int (((yA.1 69 11) + 1) - 1)]) (by rfl) ?_
            refine Pa.iret (by rfl) ?_
            exact l5 h2 h4 h6 h8 h9 h11 h12
          · have h10 : (yA.1 69 11).toInt = 20 := h10
            refine Pa.ic (x := (-2)) (pc' := 31) (by rfl) (by rfl) (by decide) ?_
            refine Pa.iret (by rfl) ?_
            exact l6 h2 h4 h6 h8 h10

theorem bxf_person {N : Nat} {yA : AW} {yQ : Option Value → AW → Prop} (l : Int32)
    (l1 : l.toInt < 0 → yQ (some (.int (-1))) yA)
    (l2 : 0 ≤ l.toInt → 5 < l.toInt → yQ (some (.int (-1))) yA)
    (l3 : 0 ≤ l.toInt → l.toInt ≤ 5 → (yA.1 12 7).toInt < 60 → 0 ≤ (yA.1 12 7).toInt → yQ (some (.int (((yA.1 12 7) + 1) - 1))) (uI (uI yA 13 ((yA.1 12 7).toInt.toNat) l) 12 7 ((yA.1 12 7) + 1)))
    (l4 : 0 ≤ l.toInt → l.toInt ≤ 5 → 60 ≤ (yA.1 12 7).toInt → yQ (some (.int (-2))) yA) :
    Pa N 105 0 [(0, .ref 0), (1, .int l)] [] yA yQ := by
  refine Pa.mp 1 (pc' := 1) (l' := [(0, .ref 0), (1, .int l)]) (st' := [.int l]) (by rfl) ?_
  refine Pa.ist (by rfl) (by rfl) (.inl rfl) (by rfl) (by rfl) ?_
  show Pa N 147 0 [(0, .int l)] [] yA _
  refine Pa.mp 1 (pc' := 1) (l' := [(0, .int l)]) (st' := [.int l]) (by rfl) ?_
  refine Pa.ic (x := 0) (pc' := 2) (by rfl) (by rfl) (by decide) ?_
  refine Pa.ic (x := 5) (pc' := 3) (by rfl) (by rfl) (by decide) ?_
  refine Pa.ist (by rfl) (by rfl) (.inl rfl) (by rfl) (by rfl) ?_
  show Pa N 146 0 [(0, .int l), (1, .int 0), (2, .int 5)] [] yA _
  refine Pa.mp 2 (pc' := 2) (l' := [(0, .int l), (1, .int 0), (2, .int 5)]) (st' := [.int 0, .int l]) (by rfl) ?_
  refine Pa.if2 (a := l.toInt) (b := 0) (t := 14) (by rfl) (by rfl) (rfl) (by decide) (fun h1 => ?_) (fun h2 => ?_)
  · have h1 : l.toInt < 0 := h1
    refine Pa.ic (x := 0) (pc' := 15) (by rfl) (by rfl) (by decide) ?_
    refine Pa.iret (by rfl) ?_
    show Pa N 147 6 [(0, .int l)] [.int 0] yA _
    refine Pa.iret (by rfl) ?_
    show Pa N 105 4 [(0, .ref 0), (1, .int l)] [.int 0] yA _
    refine Pa.if1k false (by rfl) (by rfl) (by decide) ?_
    show Pa N 105 7 [(0, .ref 0), (1, .int l)] [] yA _
    refine Pa.ic (x := (-1)) (pc' := 8) (by rfl) (by rfl) (by decide) ?_
    refine Pa.iret (by rfl) ?_
    exact l1 h1
  · have h2 : 0 ≤ l.toInt := h2
    refine Pa.mp 2 (pc' := 7) (l' := [(0, .int l), (1, .int 0), (2, .int 5)]) (st' := [.int 5, .int l]) (by rfl) ?_
    refine Pa.if2 (a := l.toInt) (b := 5) (t := 14) (by rfl) (by rfl) (rfl) (by decide) (fun h3 => ?_) (fun h4 => ?_)
    · have h3 : 5 < l.toInt := h3
      refine Pa.ic (x := 0) (pc' := 15) (by rfl) (by rfl) (by decide) ?_
      refine Pa.iret (by rfl) ?_
      show Pa N 147 6 [(0, .int l)] [.int 0] yA _
      refine Pa.iret (by rfl) ?_
      show Pa N 105 4 [(0, .ref 0), (1, .int l)] [.int 0] yA _
      refine Pa.if1k false (by rfl) (by rfl) (by decide) ?_
      show Pa N 105 7 [(0, .ref 0), (1, .int l)] [] yA _
      refine Pa.ic (x := (-1)) (pc' := 8) (by rfl) (by rfl) (by decide) ?_
      refine Pa.iret (by rfl) ?_
      exact l2 h2 h3
    · have h4 : l.toInt ≤ 5 := h4
      refine Pa.ic (x := 1) (pc' := 11) (by rfl) (by rfl) (by decide) ?_
      refine Pa.mp 1 (pc' := 15) (l' := [(0, .int l), (1, .int 0), (2, .int 5)]) (st' := [.int 1]) (by rfl) ?_
      refine Pa.iret (by rfl) ?_
      show Pa N 147 6 [(0, .int l)] [.int 1] yA _
      refine Pa.iret (by rfl) ?_
      show Pa N 105 4 [(0, .ref 0), (1, .int l)] [.int 1] yA _
      refine Pa.if1k true (by rfl) (by rfl) (by decide) ?_
      show Pa N 105 9 [(0, .ref 0), (1, .int l)] [] yA _
      refine Pa.mp 1 (pc' := 10) (l' := [(0, .ref 0), (1, .int l)]) (st' := [.ref 0]) (by rfl) ?_
      refine Pa.gfR (by rfl) (by rfl) (.inl rfl) (by rfl) ?_
      show Pa N 105 13 [(0, .ref 0), (1, .int l)] [.ref 12] yA _
      refine Pa.mp 1 (pc' := 14) (l' := [(0, .ref 0), (1, .int l)]) (st' := [.int l, .ref 12]) (by rfl) ?_
      refine Pa.inv (by rfl) (by rfl) (.inr rfl) (by rfl) ?_
      show Pa N 57 0 [(0, .ref 12), (1, .int l)] [] yA _
      refine Pa.mp 1 (pc' := 1) (l' := [(0, .ref 12), (1, .int l)]) (st' := [.ref 12]) (by rfl) ?_
      refine Pa.gfI (v := yA.1 12 7) (by rfl) (by rfl) (.inl rfl) (by rfl) (by rfl) ?_
      refine Pa.ic (x := 60) (pc' := 6) (by rfl) (by rfl) (by decide) ?_
      refine Pa.if2 (a := (yA.1 12 7).toInt) (b := 60) (t := 12) (by rfl) (by rfl) (rfl) (by decide) (fun h5 => ?_) (fun h6 => ?_)
      · have h5 : (yA.1 12 7).toInt < 60 := h5
        refine Pa.mp 1 (pc' := 13) (l' := [(0, .ref 12), (1, .int l)]) (st' := [.ref 12]) (by rfl) ?_
        refine Pa.gfR (by rfl) (by rfl) (.inl rfl) (by rfl) ?_
        show Pa N 57 16 [(0, .ref 12), (1, .int l)] [.ref 13] yA _
        refine Pa.mp 1 (pc' := 17) (l' := [(0, .ref 12), (1, .int l)]) (st' := [.ref 12, .ref 13]) (by rfl) ?_
        refine Pa.gfI (v := yA.1 12 7) (by rfl) (by rfl) (.inl rfl) (by rfl) (by rfl) ?_
        refine Pa.mp 1 (pc' := 21) (l' := [(0, .ref 12), (1, .int l)]) (st' := [.int l, .int (yA.1 12 7), .ref 13]) (by rfl) ?_
        refine Pa.asts (j' := ((yA.1 12 7).toInt.toNat)) (by rfl) (by rfl) (by rfl) (fun h7 h8 => ?_)
        have h7 : 0 ≤ (yA.1 12 7).toInt := h7
        have h8 : (yA.1 12 7).toInt < 60 := h8
        show Pa N 57 22 [(0, .ref 12), (1, .int l)] [] (uI yA 13 ((yA.1 12 7).toInt.toNat) l) _
        refine Pa.mp 2 (pc' := 24) (l' := [(0, .ref 12), (1, .int l)]) (st' := [.ref 12, .ref 12]) (by rfl) ?_
        refine Pa.gfI (v := yA.1 12 7) (by rfl) (by rfl) (.inl rfl) (by rfl) (by show (uI yA 13 ((yA.1 12 7).toInt.toNat) l).1 12 7 = yA.1 12 7; rw [uI_c (by decide)]) ?_
        refine Pa.ic (x := 1) (pc' := 28) (by rfl) (by rfl) (by decide) ?_
        refine Pa.mp 1 (pc' := 29) (l' := [(0, .ref 12), (1, .int l)]) (st' := [.int ((yA.1 12 7) + 1), .ref 12]) (by rfl) ?_
        refine Pa.pfI (by rfl) (by rfl) (.inl rfl) (by rfl) ?_
        show Pa N 57 32 [(0, .ref 12), (1, .int l)] [] (uI (uI yA 13 ((yA.1 12 7).toInt.toNat) l) 12 7 ((yA.1 12 7) + 1)) _
        refine Pa.mp 1 (pc' := 33) (l' := [(0, .ref 12), (1, .int l)]) (st' := [.ref 12]) (by rfl) ?_
        refine Pa.gfI (v := (yA.1 12 7) + 1) (by rfl) (by rfl) (.inl rfl) (by rfl) (by show (uI (uI yA 13 ((yA.1 12 7).toInt.toNat) l) 12 7 ((yA.1 12 7) + 1)).1 12 7 = (yA.1 12 7) + 1; rw [uI_h]) ?_
        refine Pa.ic (x := 1) (pc' := 37) (by rfl) (by rfl) (by decide) ?_
        refine Pa.mp 1 (pc' := 38) (l' := [(0, .ref 12), (1, .int l)]) (st' := [.int (((yA.1 12 7) + 1) - 1)]) (by rfl) ?_
        refine Pa.iret (by rfl) ?_
        show Pa N 105 17 [(0, .ref 0), (1, .int l)] [.int (((yA.1 12 7) + 1) - 1)] (uI (uI yA 13 ((yA.1 12 7).toInt.toNat) l) 12 7 ((yA.1 12 7) + 1)) _
        refine Pa.iret (by rfl) ?_
        exact l3 h2 h4 h5 h7
      · have h6 : 60 ≤ (yA.1 12 7).toInt := h6
        refine Pa.ic (x := (-2)) (pc' := 11) (by rfl) (by rfl) (by decide) ?_
        refine Pa.iret (by rfl) ?_
        show Pa N 105 17 [(0, .ref 0), (1, .int l)] [.int (-2)] yA _
        refine Pa.iret (by rfl) ?_
        exact l4 h2 h4 h6

theorem bmf_person {N : Nat} {yA : AW} {yQ : Option Value → AW → Prop} (l : Int32)
    (l1 : l.toInt < 0 → yQ (some (.int (-1))) yA)
    (l2 : 0 ≤ l.toInt → 5 < l.toInt → yQ (some (.int (-1))) yA)
    (l3 : 0 ≤ l.toInt → l.toInt ≤ 5 → (yA.1 69 13).toInt ≠ 60 → 0 ≤ (yA.1 69 13).toInt → (yA.1 69 13).toInt < 60 → yQ (some (.int (((yA.1 69 13) + 1) - 1))) (uI (uI yA 78 ((yA.1 69 13).toInt.toNat) l) 69 13 ((yA.1 69 13) + 1)))
    (l4 : 0 ≤ l.toInt → l.toInt ≤ 5 → (yA.1 69 13).toInt = 60 → yQ (some (.int (-2))) yA) :
    Pa N 169 0 [(0, .ref 69), (1, .int l)] [] yA yQ := by
  refine Pa.mp 1 (pc' := 1) (l' := [(0, .ref 69), (1, .int l)]) (st' := [.int l]) (by rfl) ?_
  refine Pa.ist (by rfl) (by rfl) (.inl rfl) (by rfl) (by rfl) ?_
  show Pa N 154 0 [(0, .int l)] [] yA _
  refine Pa.mp 1 (pc' := 1) (l' := [(0, .int l)]) (st' := [.int l]) (by rfl) ?_
  refine Pa.ic (x := 0) (pc' := 2) (by rfl) (by rfl) (by decide) ?_
  refine Pa.ic (x := 5) (pc' := 3) (by rfl) (by rfl) (by decide) ?_
  refine Pa.ist (by rfl) (by rfl) (.inl rfl) (by rfl) (by rfl) ?_
  show Pa N 152 0 [(0, .int l), (1, .int 0), (2, .int 5)] [] yA _
  refine Pa.mp 2 (pc' := 2) (l' := [(0, .int l), (1, .int 0), (2, .int 5)]) (st' := [.int 0, .int l]) (by rfl) ?_
  refine Pa.if2 (a := l.toInt) (b := 0) (t := 14) (by rfl) (by rfl) (rfl) (by decide) (fun h1 => ?_) (fun h2 => ?_)
  · have h1 : l.toInt < 0 := h1
    refine Pa.ic (x := 0) (pc' := 15) (by rfl) (by rfl) (by decide) ?_
    refine Pa.iret (by rfl) ?_
    show Pa N 154 6 [(0, .int l)] [.int 0] yA _
    refine Pa.iret (by rfl) ?_
    show Pa N 169 4 [(0, .ref 69), (1, .int l)] [.int 0] yA _
    refine Pa.if1k false (by rfl) (by rfl) (by decide) ?_
    show Pa N 169 7 [(0, .ref 69), (1, .int l)] [] yA _
    refine Pa.ic (x := (-1)) (pc' := 8) (by rfl) (by rfl) (by decide) ?_
    refine Pa.iret (by rfl) ?_
    exact l1 h1
  · have h2 : 0 ≤ l.toInt := h2
    refine Pa.mp 2 (pc' := 7) (l' := [(0, .int l), (1, .int 0), (2, .int 5)]) (st' := [.int 5, .int l]) (by rfl) ?_
    refine Pa.if2 (a := l.toInt) (b := 5) (t := 14) (by rfl) (by rfl) (rfl) (by decide) (fun h3 => ?_) (fun h4 => ?_)
    · have h3 : 5 < l.toInt := h3
      refine Pa.ic (x := 0) (pc' := 15) (by rfl) (by rfl) (by decide) ?_
      refine Pa.iret (by rfl) ?_
      show Pa N 154 6 [(0, .int l)] [.int 0] yA _
      refine Pa.iret (by rfl) ?_
      show Pa N 169 4 [(0, .ref 69), (1, .int l)] [.int 0] yA _
      refine Pa.if1k false (by rfl) (by rfl) (by decide) ?_
      show Pa N 169 7 [(0, .ref 69), (1, .int l)] [] yA _
      refine Pa.ic (x := (-1)) (pc' := 8) (by rfl) (by rfl) (by decide) ?_
      refine Pa.iret (by rfl) ?_
      exact l2 h2 h3
    · have h4 : l.toInt ≤ 5 := h4
      refine Pa.ic (x := 1) (pc' := 11) (by rfl) (by rfl) (by decide) ?_
      refine Pa.mp 1 (pc' := 15) (l' := [(0, .int l), (1, .int 0), (2, .int 5)]) (st' := [.int 1]) (by rfl) ?_
      refine Pa.iret (by rfl) ?_
      show Pa N 154 6 [(0, .int l)] [.int 1] yA _
      refine Pa.iret (by rfl) ?_
      show Pa N 169 4 [(0, .ref 69), (1, .int l)] [.int 1] yA _
      refine Pa.if1k true (by rfl) (by rfl) (by decide) ?_
      show Pa N 169 9 [(0, .ref 69), (1, .int l)] [] yA _
      refine Pa.mp 1 (pc' := 10) (l' := [(0, .ref 69), (1, .int l)]) (st' := [.ref 69]) (by rfl) ?_
      refine Pa.gfI (v := yA.1 69 13) (by rfl) (by rfl) (.inl rfl) (by rfl) (by rfl) ?_
      refine Pa.ic (x := 60) (pc' := 15) (by rfl) (by rfl) (by decide) ?_
      refine Pa.if2 (a := (yA.1 69 13).toInt) (b := 60) (t := 21) (by rfl) (by rfl) (rfl) (by decide) (fun h5 => ?_) (fun h6 => ?_)
      · have h5 : (yA.1 69 13).toInt ≠ 60 := h5
        refine Pa.mp 1 (pc' := 22) (l' := [(0, .ref 69), (1, .int l)]) (st' := [.ref 69]) (by rfl) ?_
        refine Pa.gfR (by rfl) (by rfl) (.inl rfl) (by rfl) ?_
        show Pa N 169 25 [(0, .ref 69), (1, .int l)] [.ref 78] yA _
        refine Pa.mp 1 (pc' := 26) (l' := [(0, .ref 69), (1, .int l)]) (st' := [.ref 69, .ref 78]) (by rfl) ?_
        refine Pa.gfI (v := yA.1 69 13) (by rfl) (by rfl) (.inl rfl) (by rfl) (by rfl) ?_
        refine Pa.mp 1 (pc' := 30) (l' := [(0, .ref 69), (1, .int l)]) (st' := [.int l, .int (yA.1 69 13), .ref 78]) (by rfl) ?_
        refine Pa.asts (j' := ((yA.1 69 13).toInt.toNat)) (by rfl) (by rfl) (by rfl) (fun h7 h8 => ?_)
        have h7 : 0 ≤ (yA.1 69 13).toInt := h7
        have h8 : (yA.1 69 13).toInt < 60 := h8
        show Pa N 169 31 [(0, .ref 69), (1, .int l)] [] (uI yA 78 ((yA.1 69 13).toInt.toNat) l) _
        refine Pa.mp 2 (pc' := 33) (l' := [(0, .ref 69), (1, .int l)]) (st' := [.ref 69, .ref 69]) (by rfl) ?_
        refine Pa.gfI (v := yA.1 69 13) (by rfl) (by rfl) (.inl rfl) (by rfl) (by show (uI yA 78 ((yA.1 69 13).toInt.toNat) l).1 69 13 = yA.1 69 13; rw [uI_c (by decide)]) ?_
        refine Pa.ic (x := 1) (pc' := 37) (by rfl) (by rfl) (by decide) ?_
        refine Pa.mp 1 (pc' := 38) (l' := [(0, .ref 69), (1, .int l)]) (st' := [.int ((yA.1 69 13) + 1), .ref 69]) (by rfl) ?_
        refine Pa.pfI (by rfl) (by rfl) (.inl rfl) (by rfl) ?_
        show Pa N 169 41 [(0, .ref 69), (1, .int l)] [] (uI (uI yA 78 ((yA.1 69 13).toInt.toNat) l) 69 13 ((yA.1 69 13) + 1)) _
        refine Pa.mp 1 (pc' := 42) (l' := [(0, .ref 69), (1, .int l)]) (st' := [.ref 69]) (by rfl) ?_
        refine Pa.gfI (v := (yA.1 69 13) + 1) (by rfl) (by rfl) (.inl rfl) (by rfl) (by show (uI (uI yA 78 ((yA.1 69 13).toInt.toNat) l) 69 13 ((yA.1 69 13) + 1)).1 69 13 = (yA.1 69 13) + 1; rw [uI_h]) ?_
        refine Pa.ic (x := 1) (pc' := 46) (by rfl) (by rfl) (by decide) ?_
        refine Pa.mp 1 (pc' := 47) (l' := [(0, .ref 69), (1, .int l)]) (st' := [.int (((yA.1 69 13) + 1) - 1)]) (by rfl) ?_
        refine Pa.iret (by rfl) ?_
        exact l3 h2 h4 h5 h7 h8
      · have h6 : (yA.1 69 13).toInt = 60 := h6
        refine Pa.ic (x := (-2)) (pc' := 20) (by rfl) (by rfl) (by decide) ?_
        refine Pa.iret (by rfl) ?_
        exact l4 h2 h4 h6
def flD (yA : AW) (_ : Option Value) (A1 : AW) : Prop := flE yA A1
theorem df_house (N : Nat) (yA : AW) (l : Int32) : Pa N 101 0 [(0, .ref 0), (1, .int l)] [] yA (flD yA) :=
  bxf_house l (fun _ => flE_refl yA) (fun _ _ => flE_refl yA) (fun _ _ _ _ => flE_x (by decide) (by decide)) (fun _ _ _ => flE_refl yA)
theorem ef_house (N : Nat) (yA : AW) (l : Int32) : Pa N 164 0 [(0, .ref 69), (1, .int l)] [] yA (flD yA) :=
  bmf_house l (fun _ => flE_refl yA) (fun _ _ => flE_refl yA) (fun _ _ _ _ yh => flE_m (by decide) (by decide) (by decide) (by decide) (by omega)) (fun _ _ _ => flE_refl yA)
theorem df_person (N : Nat) (yA : AW) (l : Int32) : Pa N 105 0 [(0, .ref 0), (1, .int l)] [] yA (flD yA) :=
  bxf_person l (fun _ => flE_refl yA) (fun _ _ => flE_refl yA) (fun _ _ _ _ => flE_x (by decide) (by decide)) (fun _ _ _ => flE_refl yA)
theorem ef_person (N : Nat) (yA : AW) (l : Int32) : Pa N 169 0 [(0, .ref 69), (1, .int l)] [] yA (flD yA) :=
  bmf_person l (fun _ => flE_refl yA) (fun _ _ => flE_refl yA) (fun _ _ _ _ yh => flE_m (by decide) (by decide) (by decide) (by decide) (by omega)) (fun _ _ _ => flE_refl yA)
theorem df_film (N : Nat) (yA : AW) (yf yn : Int32) : Pa N 103 0 [(0, .ref 0), (1, .int yf), (2, .int yn)] [] yA (flD yA) :=
  bxf_film yf yn (fun _ => flE_refl yA) (fun _ _ => flE_refl yA) (fun _ _ _ => flE_refl yA) (fun _ _ _ _ => flE_refl yA) (fun _ _ _ _ _ _ => flE_tr (flE_x (yc := 6) (yd := 7) (by decide) (by decide)) (flE_one (by decide))) (fun _ _ _ _ _ => flE_refl yA)
theorem ef_film (N : Nat) (yA : AW) (yf yn : Int32) : Pa N 167 0 [(0, .ref 69), (1, .int yf), (2, .int yn)] [] yA (flD yA) :=
  bmf_film yf yn (fun _ => flE_refl yA) (fun _ _ => flE_refl yA) (fun _ _ _ => flE_refl yA) (fun _ _ _ _ => flE_refl yA) (fun _ _ _ _ _ _ yh => flE_tr (flE_hi (yc := 76) (yx := (yA.1 69 11).toInt.toNat) (yv := yf) (by decide) (by decide) (by decide)) (by
    have ye : (uI yA 76 (yA.1 69 11).toInt.toNat yf).1 69 11 = yA.1 69 11 := uI_c (by decide)
    have yz := flE_m (yA := uI yA 76 (yA.1 69 11).toInt.toNat yf) (yc := 77) (yx := (yA.1 69 11).toInt.toNat) (yv := yn) (yq := 11) (by decide) (by decide) (by decide) (by decide) (by rw [ye]; omega)
    rw [ye] at yz
    exact yz)) (fun _ _ _ _ _ => flE_refl yA)
theorem flP1 {yp : zPr} {yx yy : Nat} (hp : yp.1 = yx ∧ yp.2.1 = yy ∧ yp.2.2.1 = 1 ∧ yp.2.2.2.1 = false) (yhc : c_rm yp = true) (hx : ∀ N yA l, Pa N yx 0 [(0, .ref 0), (1, .int l)] [] yA (flD yA)) (hy : ∀ N yA l, Pa N yy 0 [(0, .ref 69), (1, .int l)] [] yA (flD yA)) : PairOK (RR [] [] Rfl) yp := by
  obtain ⟨yp1, yp2, yp3, yp4⟩ := hp
  refine pairK (D := fun _ => flD) (E := fun _ => flD) (by decide +kernel) (by decide +kernel) yhc (fun N yA yas _ hl => ?_) (fun N yA yas _ hl => ?_) (fun yA A1 A2 yas yx yy o _ _ _ _ hX hl ys1 ys2 => ?_)
  · rw [yp3] at hl
    obtain ⟨ya, rfl⟩ := as1 hl
    rw [yp1]
    exact hx N yA ya
  · rw [yp3] at hl
    obtain ⟨ya, rfl⟩ := as1 hl
    rw [yp2]
    exact hy N yA ya
  · refine ⟨fun yq hq => (by cases hq), fun yq hq => (by cases hq), flE_up (flE_tr ys1 ys2) hX, fun yh => ?_⟩
    rw [yp4] at yh
    cases yh
theorem fl_house {yp : zPr} (hp : yp.1 = 101 ∧ yp.2.1 = 164 ∧ yp.2.2.1 = 1 ∧ yp.2.2.2.1 = false) (yhc : c_rm yp = true) : PairOK (RR [] [] Rfl) yp := flP1 hp yhc df_house ef_house
theorem fl_person {yp : zPr} (hp : yp.1 = 105 ∧ yp.2.1 = 169 ∧ yp.2.2.1 = 1 ∧ yp.2.2.2.1 = false) (yhc : c_rm yp = true) : PairOK (RR [] [] Rfl) yp := flP1 hp yhc df_person ef_person
theorem fl_film {yp : zPr} (hp : yp.1 = 103 ∧ yp.2.1 = 167 ∧ yp.2.2.1 = 2 ∧ yp.2.2.2.1 = false) (yhc : c_rm yp = true) : PairOK (RR [] [] Rfl) yp := by
  obtain ⟨yp1, yp2, yp3, yp4⟩ := hp
  refine pairK (D := fun _ => flD) (E := fun _ => flD) (by decide +kernel) (by decide +kernel) yhc (fun N yA yas _ hl => ?_) (fun N yA yas _ hl => ?_) (fun yA A1 A2 yas yx yy o _ _ _ _ hX hl ys1 ys2 => ?_)
  · rw [yp3] at hl
    obtain ⟨ya, yb, rfl⟩ := as2 hl
    rw [yp1]
    exact df_film N yA ya yb
  · rw [yp3] at hl
    obtain ⟨ya, yb, rfl⟩ := as2 hl
    rw [yp2]
    exact ef_film N yA ya yb
  · refine ⟨fun yq hq => (by cases hq), fun yq hq => (by cases hq), flE_up (flE_tr ys1 ys2) hX, fun yh => ?_⟩
    rw [yp4] at yh
    cases yh
theorem k_costfl {yA A1 A2 : AW} {yk yn yx yy : Int32} (hA : okA yA) (hF : eqF Fc yA) (hR : eqRs Arc yA) (hL : Rfl yA) (ys1 : dCost yk yn yA (some (.int yx)) A1) (ys2 : eCost yk yn A1 (some (.int yy)) A2) : Rfl A2 := by
  have hok := okCo_eq (yk := yk) (yn := yn) hF hR hA
  have yf5 := hF ((30, 4), (69, 31)) (by simp [Fc])
  simp only at yf5
  rcases ys1 with ⟨ya1, a2, rfl⟩ | ⟨ya1, a2, a3, rfl⟩ | ⟨ya1, a2, a3, a4, ya, yha, hg, rfl⟩
  · rcases ys2 with ⟨b1, b2, rfl⟩ | ⟨b1, b2, b3, rfl⟩ | ⟨b1, b2, b3, b4, rfl⟩
    · exact hL
    · exact hL
    · exact absurd (hok.mpr b1) ya1
  · rcases ys2 with ⟨b1, b2, rfl⟩ | ⟨b1, b2, b3, rfl⟩ | ⟨b1, b2, b3, b4, rfl⟩
    · exact hL
    · exact hL
    · rw [yf5] at a2; omega
  · have ylow : ∀ yc yj, yc < 129 → yc ≠ 30 → yc ≠ 34 → (costX yA ya yk yn).1 yc yj = yA.1 yc yj := fun yc yj yhc yq1 yq2 => cX_low yq1 yq2 (by omega) yj
    have hokM : okCoM (costX yA ya yk yn) yk yn ↔ okCoM yA yk yn := by
      unfold okCoM
      rw [ylow 88 0 (by decide) (by decide) (by decide), ylow 88 1 (by decide) (by decide) (by decide), ylow 88 2 (by decide) (by decide) (by decide), ylow 88 3 (by decide) (by decide) (by decide), ylow 88 4 (by decide) (by decide) (by decide), ylow 88 5 (by decide) (by decide) (by decide), ylow 88 6 (by decide) (by decide) (by decide), ylow 69 11 (by decide) (by decide) (by decide), ylow 77 _ (by decide) (by decide) (by decide), ylow 69 0 (by decide) (by decide) (by decide), ylow 69 7 (by decide) (by decide) (by decide), ylow 69 13 (by decide) (by decide) (by decide)]
    have ye31 := ylow 69 31 (by decide) (by decide) (by decide)
    have hco := hok.mp ya1
    rcases ys2 with ⟨b1, b2, rfl⟩ | ⟨b1, b2, b3, rfl⟩ | ⟨b1, b2, b3, b4, rfl⟩
    · exact absurd (hokM.mpr hco) b1
    · rw [ye31, ← yf5] at b2; omega
    · rw [ye31] at b2 b3 b4
      obtain ⟨yt, ht⟩ : ∃ yt, (yA.1 69 31).toInt.toNat = yt := ⟨_, rfl⟩
      have htc : cT yA = yt := ht
      have ht1 : ((costX yA ya yk yn).1 69 31).toInt.toNat = yt := by rw [ye31]; exact ht
      have ht9 : yt < 150 := by omega
      have hT1 : (yA.1 69 31 + 1).toInt = (yA.1 69 31).toInt + 1 := i32_add1 (by omega)
      have m69 : ∀ yj, yj ≠ 31 → (costM (costX yA ya yk yn) yk yn).1 69 yj = yA.1 69 yj := fun yj hj => by
        rw [cM_69, if_neg hj]
        exact ylow 69 yj (by decide) (by decide) (by decide)
      have m89 : ∀ yj, (costM (costX yA ya yk yn) yk yn).1 89 yj = if yj = yt then yk else yA.1 89 yj := fun yj => by
        rw [cM_89 ht1, ylow 89 yj (by decide) (by decide) (by decide)]
      have m90 : ∀ yj, (costM (costX yA ya yk yn) yk yn).1 90 yj = if yj = 7 * yt + 6 then yA.1 88 6 else if yj = 7 * yt + 5 then yA.1 88 5 else if yj = 7 * yt + 4 then yA.1 88 4 else if yj = 7 * yt + 3 then yA.1 88 3 else if yj = 7 * yt + 2 then yA.1 88 2 else if yj = 7 * yt + 1 then yA.1 88 1 else if yj = 7 * yt then yA.1 88 0 else yA.1 90 yj := fun yj => by
        rw [cM_90 (by rw [ye31]; exact b3) (by rw [ye31]; exact b2) ht1]
        rw [ylow 88 0 (by decide) (by decide) (by decide), ylow 88 1 (by decide) (by decide) (by decide), ylow 88 2 (by decide) (by decide) (by decide), ylow 88 3 (by decide) (by decide) (by decide), ylow 88 4 (by decide) (by decide) (by decide), ylow 88 5 (by decide) (by decide) (by decide), ylow 88 6 (by decide) (by decide) (by decide), ylow 90 yj (by decide) (by decide) (by decide)]
      have hcT : cT (costM (costX yA ya yk yn) yk yn) = yt + 1 := by
        unfold cT
        rw [cM_69, if_pos rfl, ye31, hT1]
        omega
      have hco2 : okCo (yA.1 88 0) (yA.1 88 1) (yA.1 88 2) (yA.1 88 3) (yA.1 88 4) (yA.1 88 5) (yA.1 88 6) (yA.1 69 11) (yA.1 77 (yA.1 88 0).toInt.toNat) (yA.1 69 0) (yA.1 69 7) (yA.1 69 13) yk yn := hco
      generalize costM (costX yA ya yk yn) yk yn = yB at *
      intro yc yhc
      rw [hcT] at yhc
      rw [m69 11 (by decide), m69 7 (by decide), m69 13 (by decide), m89]
      by_cases ye : yc = yt
      · subst ye
        have z0 : yB.1 90 (7 * yc) = yA.1 88 0 := by
          rw [m90, if_neg (by omega), if_neg (by omega), if_neg (by omega), if_neg (by omega), if_neg (by omega), if_neg (by omega), if_pos rfl]
        have z4 : yB.1 90 (7 * yc + 4) = yA.1 88 4 := by
          rw [m90, if_neg (by omega), if_neg (by omega), if_pos rfl]
        rw [z0, z4, if_pos rfl]
        obtain ⟨yu1, yu2, u3, yu4, u5, u6, u7, u8, u9, u10, u11, u12, u13, u14⟩ := hco2
        exact ⟨⟨u5, u6⟩, u13, u14⟩
      · rw [if_neg ye]
        rw [m90, if_neg (by omega), if_neg (by omega), if_neg (by omega), if_neg (by omega), if_neg (by omega), if_neg (by omega), if_neg (by omega)]
        rw [m90, if_neg (by omega), if_neg (by omega), if_neg (by omega), if_neg (by omega), if_neg (by omega), if_neg (by omega), if_neg (by omega)]
        exact hL yc (by omega)
def RZf (yA : AW) : Prop := RZl yA ∧ Rfl yA
theorem h_costfl {yp : zPr} (hp : yp.1 = 112 ∧ yp.2.1 = 179 ∧ yp.2.2.1 = 2) (yhc : c_rm yp = true) : PairOK (RR Fc Arc RZf) yp := by
  obtain ⟨yp1, yp2, yp3⟩ := hp
  refine pairK (D := on2 dCost) (E := on2 eCost) (by decide +kernel) (by decide +kernel) yhc (fun N yA yas _ hl => ?_) (fun N yA yas _ hl => ?_) (fun yA A1 A2 yas yx yy o _ _ hF hR hX hl ys1 ys2 => ?_)
  · rw [yp3] at hl
    obtain ⟨ya, yb, rfl⟩ := as2 hl
    rw [yp1]
    exact d_cost N yA ya yb
  · rw [yp3] at hl
    obtain ⟨ya, yb, rfl⟩ := as2 hl
    rw [yp2]
    exact e_cost N yA ya yb
  · rw [yp3] at hl
    obtain ⟨ya, yb, rfl⟩ := as2 hl
    obtain ⟨yq1, yq2, yq3, yq4⟩ := k_cost o hF hR hX.1.1 ys1 ys2
    exact ⟨yq1, yq2, ⟨⟨yq3, k_cost34 o hF hR hX.1.2 ys1 ys2⟩, k_costfl o hF hR hX.2 ys1 ys2⟩, fun _ => yq4⟩
