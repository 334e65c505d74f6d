/-! REPAID, GOT, COUNT -/
theorem Rpx_y {yA : AW} (hA : okA yA) (hF : eqF Fy yA) (hR : eqRs Ay yA) (hX : RXL Iy yA) : Rpx yA := Rpx_of hA hF hR (fun yi yhi => hX yi (fsub_ok (yF := Iy) (F' := Iz) (by decide) yhi)) (hX 10 (by decide))
def okGt (T yi : Int32) : Prop := 0 ≤ yi.toInt ∧ yi.toInt < T.toInt
def dGt (yi : Int32) (yA : AW) (yu : Option Value) (A1 : AW) : Prop := A1 = yA ∧ ((¬ okGt (yA.1 1 3) yi ∧ yu = some (.int (-1))) ∨ (okGt (yA.1 1 3) yi ∧ yi.toInt < 20 ∧ yu = some (.int (yA.1 3 yi.toInt.toNat))))
def eGt (yi : Int32) (yA : AW) (yu : Option Value) (_ : AW) : Prop := (¬ okGt (yA.1 69 7) yi ∧ yu = some (.int (-1))) ∨ (okGt (yA.1 69 7) yi ∧ yu = some (.int (yA.1 74 yi.toInt.toNat)))
theorem bx_got {N : Nat} {yA : AW} {yQ : Option Value → AW → Prop} (yi : Int32)
    (l1 : yi.toInt < 0 → yQ (some (.int (-1))) yA)
    (l2 : 0 ≤ yi.toInt → (yA.1 1 3).toInt ≤ yi.toInt → yQ (some (.int (-1))) yA)
    (l3 : 0 ≤ yi.toInt → yi.toInt < (yA.1 1 3).toInt → yi.toInt < 20 → yQ (some (.int (yA.1 3 yi.toInt.toNat))) yA) :
    Pa N 130 0 [(0, .ref 0), (1, .int yi)] [] yA yQ := by
  refine Pa.mp 1 (pc' := 1) (l' := [(0, .ref 0), (1, .int yi)]) (st' := [.ref 0]) (by rfl) ?_
  refine Pa.gfR (by rfl) (by rfl) (.inl rfl) (by rfl) ?_
  show Pa N 130 4 [(0, .ref 0), (1, .int yi)] [.ref 1] yA _
  refine Pa.mp 1 (pc' := 5) (l' := [(0, .ref 0), (1, .int yi)]) (st' := [.int yi, .ref 1]) (by rfl) ?_
  refine Pa.inv (by rfl) (by rfl) (.inr rfl) (by rfl) ?_
  show Pa N 48 0 [(0, .ref 1), (1, .int yi)] [] yA _
  refine Pa.mp 1 (pc' := 1) (l' := [(0, .ref 1), (1, .int yi)]) (st' := [.int yi]) (by rfl) ?_
  refine Pa.if1 (a := yi.toInt) (t := 16) (by rfl) (by rfl) (rfl) (fun h1 => ?_) (fun h2 => ?_)
  · have h1 : yi.toInt < 0 := h1
    refine Pa.ic (x := 0) (pc' := 17) (by rfl) (by rfl) (by decide) ?_
    refine Pa.iret (by rfl) ?_
    show Pa N 130 8 [(0, .ref 0), (1, .int yi)] [.int 0] yA _
    refine Pa.if1k false (by rfl) (by rfl) (by decide) ?_
    show Pa N 130 11 [(0, .ref 0), (1, .int yi)] [] yA _
    refine Pa.ic (x := (-1)) (pc' := 12) (by rfl) (by rfl) (by decide) ?_
    refine Pa.iret (by rfl) ?_
    exact l1 h1
  · have h2 : 0 ≤ yi.toInt := h2
    refine Pa.mp 2 (pc' := 6) (l' := [(0, .ref 1), (1, .int yi)]) (st' := [.ref 1, .int yi]) (by rfl) ?_
    refine Pa.gfI (v := yA.1 1 3) (by rfl) (by rfl) (.inl rfl) (by rfl) (by rfl) ?_
    refine Pa.if2 (a := yi.toInt) (b := (yA.1 1 3).toInt) (t := 16) (by rfl) (by rfl) (rfl) (rfl) (fun h3 => ?_) (fun h4 => ?_)
    · have h3 : (yA.1 1 3).toInt ≤ yi.toInt := h3
      refine Pa.ic (x := 0) (pc' := 17) (by rfl) (by rfl) (by decide) ?_
      refine Pa.iret (by rfl) ?_
      show Pa N 130 8 [(0, .ref 0), (1, .int yi)] [.int 0] yA _
      refine Pa.if1k false (by rfl) (by rfl) (by decide) ?_
      show Pa N 130 11 [(0, .ref 0), (1, .int yi)] [] yA _
      refine Pa.ic (x := (-1)) (pc' := 12) (by rfl) (by rfl) (by decide) ?_
      refine Pa.iret (by rfl) ?_
      exact l2 h2 h3
    · have h4 : yi.toInt < (yA.1 1 3).toInt := h4
      refine Pa.ic (x := 1) (pc' := 13) (by rfl) (by rfl) (by decide) ?_
      refine Pa.mp 1 (pc' := 17) (l' := [(0, .ref 1), (1, .int yi)]) (st' := [.int 1]) (by rfl) ?_
      refine Pa.iret (by rfl) ?_
      show Pa N 130 8 [(0, .ref 0), (1, .int yi)] [.int 1] yA _
      refine Pa.if1k true (by rfl) (by rfl) (by decide) ?_
      show Pa N 130 13 [(0, .ref 0), (1, .int yi)] [] yA _
      refine Pa.mp 1 (pc' := 14) (l' := [(0, .ref 0), (1, .int yi)]) (st' := [.ref 0]) (by rfl) ?_
      refine Pa.gfR (by rfl) (by rfl) (.inl rfl) (by rfl) ?_
      show Pa N 130 17 [(0, .ref 0), (1, .int yi)] [.ref 1] yA _
      refine Pa.gfR (by rfl) (by rfl) (.inr rfl) (by rfl) ?_
      show Pa N 130 20 [(0, .ref 0), (1, .int yi)] [.ref 3] yA _
      refine Pa.mp 1 (pc' := 21) (l' := [(0, .ref 0), (1, .int yi)]) (st' := [.int yi, .ref 3]) (by rfl) ?_
      refine Pa.alds (v := yA.1 3 yi.toInt.toNat) (by rfl) (by rfl) (by rfl) (fun h5 h6 => ?_)
      have h5 : 0 ≤ yi.toInt := h5
      have h6 : yi.toInt < 20 := h6
      refine Pa.iret (by rfl) ?_
      exact l3 h2 h4 h6

theorem bm_got {N : Nat} {yA : AW} {yQ : Option Value → AW → Prop} (yi : Int32)
    (l1 : yi.toInt < 0 → yQ (some (.int (-1))) yA)
    (l2 : 0 ≤ yi.toInt → (yA.1 69 7).toInt ≤ yi.toInt → yQ (some (.int (-1))) yA)
    (l3 : 0 ≤ yi.toInt → yi.toInt < (yA.1 69 7).toInt → yi.toInt < 20 → yQ (some (.int (yA.1 74 yi.toInt.toNat))) yA) :
    Pa N 234 0 [(0, .ref 69), (1, .int yi)] [] yA yQ := by
  refine Pa.mp 2 (pc' := 2) (l' := [(0, .ref 69), (1, .int yi)]) (st' := [.int yi, .ref 69]) (by rfl) ?_
  refine Pa.inv (by rfl) (by rfl) (.inl rfl) (by rfl) ?_
  show Pa N 156 0 [(0, .ref 69), (1, .int yi)] [] yA _
  refine Pa.mp 1 (pc' := 1) (l' := [(0, .ref 69), (1, .int yi)]) (st' := [.int yi]) (by rfl) ?_
  refine Pa.if1 (a := yi.toInt) (t := 16) (by rfl) (by rfl) (rfl) (fun h1 => ?_) (fun h2 => ?_)
  · have h1 : yi.toInt < 0 := h1
    refine Pa.ic (x := 0) (pc' := 17) (by rfl) (by rfl) (by decide) ?_
    refine Pa.iret (by rfl) ?_
    show Pa N 234 5 [(0, .ref 69), (1, .int yi)] [.int 0] yA _
    refine Pa.if1k true (by rfl) (by rfl) (by decide) ?_
    show Pa N 234 17 [(0, .ref 69), (1, .int yi)] [] yA _
    refine Pa.ic (x := (-1)) (pc' := 18) (by rfl) (by rfl) (by decide) ?_
    refine Pa.iret (by rfl) ?_
    exact l1 h1
  · have h2 : 0 ≤ yi.toInt := h2
    refine Pa.mp 2 (pc' := 6) (l' := [(0, .ref 69), (1, .int yi)]) (st' := [.ref 69, .int yi]) (by rfl) ?_
    refine Pa.gfI (v := yA.1 69 7) (by rfl) (by rfl) (.inl rfl) (by rfl) (by rfl) ?_
    refine Pa.if2 (a := yi.toInt) (b := (yA.1 69 7).toInt) (t := 16) (by rfl) (by rfl) (rfl) (rfl) (fun h3 => ?_) (fun h4 => ?_)
    · have h3 : (yA.1 69 7).toInt ≤ yi.toInt := h3
      refine Pa.ic (x := 0) (pc' := 17) (by rfl) (by rfl) (by decide) ?_
      refine Pa.iret (by rfl) ?_
      show Pa N 234 5 [(0, .ref 69), (1, .int yi)] [.int 0] yA _
      refine Pa.if1k true (by rfl) (by rfl) (by decide) ?_
      show Pa N 234 17 [(0, .ref 69), (1, .int yi)] [] yA _
      refine Pa.ic (x := (-1)) (pc' := 18) (by rfl) (by rfl) (by decide) ?_
      refine Pa.iret (by rfl) ?_
      exact l2 h2 h3
    · have h4 : yi.toInt < (yA.1 69 7).toInt := h4
      refine Pa.ic (x := 1) (pc' := 13) (by rfl) (by rfl) (by decide) ?_
      refine Pa.mp 1 (pc' := 17) (l' := [(0, .ref 69), (1, .int yi)]) (st' := [.int 1]) (by rfl) ?_
      refine Pa.iret (by rfl) ?_
      show Pa N 234 5 [(0, .ref 69), (1, .int yi)] [.int 1] yA _
      refine Pa.if1k false (by rfl) (by rfl) (by decide) ?_
      show Pa N 234 8 [(0, .ref 69), (1, .int yi)] [] yA _
      refine Pa.mp 1 (pc' := 9) (l' := [(0, .ref 69), (1, .int yi)]) (st' := [.ref 69]) (by rfl) ?_
      refine Pa.gfR (by rfl) (by rfl) (.inl rfl) (by rfl) ?_
      show Pa N 234 12 [(0, .ref 69), (1, .int yi)] [.ref 74] yA _
      refine Pa.mp 1 (pc' := 13) (l' := [(0, .ref 69), (1, .int yi)]) (st' := [.int yi, .ref 74]) (by rfl) ?_
      refine Pa.alds (v := yA.1 74 yi.toInt.toNat) (by rfl) (by rfl) (by rfl) (fun h5 h6 => ?_)
      have h5 : 0 ≤ yi.toInt := h5
      have h6 : yi.toInt < 20 := h6
      refine Pa.mp 1 (pc' := 18) (l' := [(0, .ref 69), (1, .int yi)]) (st' := [.int (yA.1 74 yi.toInt.toNat)]) (by rfl) ?_
      refine Pa.iret (by rfl) ?_
      exact l3 h2 h4 h6
theorem d_got (N : Nat) (yA : AW) (yi : Int32) : Pa N 130 0 [(0, .ref 0), (1, .int yi)] [] yA (dGt yi yA) :=
  bx_got yi (fun _ => ⟨rfl, .inl ⟨fun yz => by unfold okGt at yz; omega, rfl⟩⟩) (fun _ _ => ⟨rfl, .inl ⟨fun yz => by unfold okGt at yz; omega, rfl⟩⟩) (fun y1 y2 y3 => ⟨rfl, .inr ⟨⟨y1, y2⟩, y3, rfl⟩⟩)
theorem e_got (N : Nat) (yA : AW) (yi : Int32) : Pa N 234 0 [(0, .ref 69), (1, .int yi)] [] yA (eGt yi yA) :=
  bm_got yi (fun _ => .inl ⟨fun yz => by unfold okGt at yz; omega, rfl⟩) (fun _ _ => .inl ⟨fun yz => by unfold okGt at yz; omega, rfl⟩) (fun y1 y2 y3 => .inr ⟨⟨y1, y2⟩, rfl⟩)
theorem h_got {yp : zPr} (hp : yp.1 = 130 ∧ yp.2.1 = 234 ∧ yp.2.2.1 = 1) (yhc : c_rm yp = true) (yq1 : (ri_wr zZ Fy Ay (wX yp) && kXL Iy (wX yp)) = true) (yq2 : (ri_wr zZ Fy Ay (wM yp) && kXL Iy (wM yp)) = true) : PairOK (RR Fy Ay (RXL Iy)) yp := by
  obtain ⟨yp1, yp2, yp3⟩ := hp
  refine pairF (D := on1 dGt) (E := on1 eGt) (by decide +kernel) (by decide +kernel) yhc (keepXL Iy) yq1 yq2 (fun N yA yas o hF hR hX hl => ?_) (fun N yA yas o hF hR hX hl => ?_) (fun yA A1 A2 yas yx yy o _ _ hF hR hX _ _ _ hl ys1 ys2 _ => ?_)
  · rw [yp3] at hl
    obtain ⟨ya, rfl⟩ := as1 hl
    rw [yp1]
    exact d_got N yA ya
  · rw [yp3] at hl
    obtain ⟨ya, rfl⟩ := as1 hl
    rw [yp2]
    exact e_got N yA ya
  · rw [yp3] at hl
    obtain ⟨ya, rfl⟩ := as1 hl
    have yg := Rpx_y o hF hR hX
    obtain ⟨rfl, ys1⟩ := ys1
    rw [yg.q.gx.gl.f1] at ys1
    rcases ys1 with ⟨ya1, a2⟩ | ⟨ya1, a2, a3⟩
    · rcases ys2 with ⟨b1, b2⟩ | ⟨b1, b2⟩
      · rw [some_int a2, some_int b2]
      · exact absurd b1 ya1
    · rcases ys2 with ⟨b1, b2⟩ | ⟨b1, b2⟩
      · exact absurd ya1 b1
      · rw [some_int a3, some_int b2]
        exact yg.py.2.2.2.1 _ (by have := ya1.1; omega)
/-! count -/
