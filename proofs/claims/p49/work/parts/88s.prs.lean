/-! PAIRS FOR WHAT IS PAID -/
theorem RXL3 {yi yj yk : Nat} {yA : AW} : (rxN yi yA ∧ rxN yj yA) ∧ rxN yk yA ↔ RXL [yi, yj, yk] yA := by
  refine ⟨fun yh yq hq => ?_, fun yh => ⟨⟨yh yi List.mem_cons_self, yh yj (List.mem_cons_of_mem _ List.mem_cons_self)⟩, yh yk (List.mem_cons_of_mem _ (List.mem_cons_of_mem _ List.mem_cons_self))⟩⟩
  rcases List.mem_cons.mp hq with yz | yz
  · rw [yz]
    exact yh.1.1
  · rcases List.mem_cons.mp yz with yz | yz
    · rw [yz]
      exact yh.1.2
    · rcases List.mem_cons.mp yz with yz | yz
      · rw [yz]
        exact yh.2
      · cases yz
/-! houses of films -/
/-- the reference's cells are yas they were -/
def hiE (yA yB : AW) : Prop := ∀ yd yj, 69 ≤ yd → yB.1 yd yj = yA.1 yd yj
theorem hiE_refl (yA : AW) : hiE yA yA := fun _ _ _ => rfl
theorem hiE_u {yA yB : AW} (yh : hiE yA yB) {yc yk : Nat} {yx : Int32} (yhc : yc < 69) : hiE yA (uI yB yc yk yx) := fun yd yj yhd => (uI_c (by omega)).trans (yh yd yj yhd)
theorem fh_hi {yA yB : AW} (yh : hiE yA yB) (hX : Rfh yA) : Rfh yB := by
  unfold Rfh at hX ⊢
  rw [yh 69 11 (by decide), yh 69 7 (by decide)]
  intro yf hf
  rw [yh 76 yf (by decide)]
  exact hX yf hf
theorem bx_sel {N : Nat} {yA : AW} {yQ : Option Value → AW → Prop} (yf yh : Int32)
    (l1 : yf.toInt < 0 → yQ (some (.int (-1))) yA)
    (l2 : 0 ≤ yf.toInt → (yA.1 5 6).toInt ≤ yf.toInt → yQ (some (.int (-1))) yA)
    (l3 : 0 ≤ yf.toInt → yf.toInt < (yA.1 5 6).toInt → yh.toInt < 0 → yQ (some (.int (-1))) yA)
    (l4 : 0 ≤ yf.toInt → yf.toInt < (yA.1 5 6).toInt → 0 ≤ yh.toInt → (yA.1 1 3).toInt ≤ yh.toInt → yQ (some (.int (-1))) yA)
    (l5 : 0 ≤ yf.toInt → yf.toInt < (yA.1 5 6).toInt → 0 ≤ yh.toInt → yh.toInt < (yA.1 1 3).toInt → yf.toInt < 20 → (yA.1 6 yf.toInt.toNat).toInt ≠ yh.toInt → yQ (some (.int (yA.1 6 yf.toInt.toNat))) (uI yA 6 yf.toInt.toNat yh))
    (l6 : 0 ≤ yf.toInt → yf.toInt < (yA.1 5 6).toInt → 0 ≤ yh.toInt → yh.toInt < (yA.1 1 3).toInt → yf.toInt < 20 → (yA.1 6 yf.toInt.toNat).toInt = yh.toInt → yQ (some (.int (-1))) yA) :
    Pa N 104 0 [(0, .ref 0), (1, .int yf), (2, .int yh)] [] yA yQ := by
  refine Pa.mp 1 (pc' := 1) (l' := [(0, .ref 0), (1, .int yf), (2, .int yh)]) (st' := [.ref 0]) (by rfl) ?_
  refine Pa.gfR (by rfl) (by rfl) (.inl rfl) (by rfl) ?_
  show Pa N 104 4 [(0, .ref 0), (1, .int yf), (2, .int yh)] [.ref 5] yA _
  refine Pa.mp 1 (pc' := 5) (l' := [(0, .ref 0), (1, .int yf), (2, .int yh)]) (st' := [.int yf, .ref 5]) (by rfl) ?_
  refine Pa.inv (by rfl) (by rfl) (.inr rfl) (by rfl) ?_
  show Pa N 41 0 [(0, .ref 5), (1, .int yf)] [] yA _
  refine Pa.mp 1 (pc' := 1) (l' := [(0, .ref 5), (1, .int yf)]) (st' := [.int yf]) (by rfl) ?_
  refine Pa.if1 (a := yf.toInt) (t := 16) (by rfl) (by rfl) (rfl) (fun h1 => ?_) (fun h2 => ?_)
  · have h1 : yf.toInt < 0 := h1
    refine Pa.ic (x := 0) (pc' := 17) (by rfl) (by rfl) (by decide) ?_
    refine Pa.iret (by rfl) ?_
    show Pa N 104 8 [(0, .ref 0), (1, .int yf), (2, .int yh)] [.int 0] yA _
    refine Pa.if1k true (by rfl) (by rfl) (by decide) ?_
    show Pa N 104 35 [(0, .ref 0), (1, .int yf), (2, .int yh)] [] yA _
    refine Pa.ic (x := (-1)) (pc' := 36) (by rfl) (by rfl) (by decide) ?_
    refine Pa.iret (by rfl) ?_
    exact l1 h1
  · have h2 : 0 ≤ yf.toInt := h2
    refine Pa.mp 2 (pc' := 6) (l' := [(0, .ref 5), (1, .int yf)]) (st' := [.ref 5, .int yf]) (by rfl) ?_
    refine Pa.gfI (v := yA.1 5 6) (by rfl) (by rfl) (.inl rfl) (by rfl) (by rfl) ?_
    refine Pa.if2 (a := yf.toInt) (b := (yA.1 5 6).toInt) (t := 16) (by rfl) (by rfl) (rfl) (rfl) (fun h3 => ?_) (fun h4 => ?_)
    · have h3 : (yA.1 5 6).toInt ≤ yf.toInt := h3
      refine Pa.ic (x := 0) (pc' := 17) (by rfl) (by rfl) (by decide) ?_
      refine Pa.iret (by rfl) ?_
      show Pa N 104 8 [(0, .ref 0), (1, .int yf), (2, .int yh)] [.int 0] yA _
      refine Pa.if1k true (by rfl) (by rfl) (by decide) ?_
      show Pa N 104 35 [(0, .ref 0), (1, .int yf), (2, .int yh)] [] yA _
      refine Pa.ic (x := (-1)) (pc' := 36) (by rfl) (by rfl) (by decide) ?_
      refine Pa.iret (by rfl) ?_
      exact l2 h2 h3
    · have h4 : yf.toInt < (yA.1 5 6).toInt := h4
      refine Pa.ic (x := 1) (pc' := 13) (by rfl) (by rfl) (by decide) ?_
      refine Pa.mp 1 (pc' := 17) (l' := [(0, .ref 5), (1, .int yf)]) (st' := [.int 1]) (by rfl) ?_
      refine Pa.iret (by rfl) ?_
      show Pa N 104 8 [(0, .ref 0), (1, .int yf), (2, .int yh)] [.int 1] yA _
      refine Pa.if1k false (by rfl) (by rfl) (by decide) ?_
      show Pa N 104 11 [(0, .ref 0), (1, .int yf), (2, .int yh)] [] yA _
      refine Pa.mp 1 (pc' := 12) (l' := [(0, .ref 0), (1, .int yf), (2, .int yh)]) (st' := [.ref 0]) (by rfl) ?_
      refine Pa.gfR (by rfl) (by rfl) (.inl rfl) (by rfl) ?_
      show Pa N 104 15 [(0, .ref 0), (1, .int yf), (2, .int yh)] [.ref 1] yA _
      refine Pa.mp 1 (pc' := 16) (l' := [(0, .ref 0), (1, .int yf), (2, .int yh)]) (st' := [.int yh, .ref 1]) (by rfl) ?_
      refine Pa.inv (by rfl) (by rfl) (.inr rfl) (by rfl) ?_
      show Pa N 48 0 [(0, .ref 1), (1, .int yh)] [] yA _
      refine Pa.mp 1 (pc' := 1) (l' := [(0, .ref 1), (1, .int yh)]) (st' := [.int yh]) (by rfl) ?_
      refine Pa.if1 (a := yh.toInt) (t := 16) (by rfl) (by rfl) (rfl) (fun h5 => ?_) (fun h6 => ?_)
      · have h5 : yh.toInt < 0 := h5
        refine Pa.ic (x := 0) (pc' := 17) (by rfl) (by rfl) (by decide) ?_
        refine Pa.iret (by rfl) ?_
        show Pa N 104 19 [(0, .ref 0), (1, .int yf), (2, .int yh)] [.int 0] yA _
        refine Pa.if1k true (by rfl) (by rfl) (by decide) ?_
        show Pa N 104 35 [(0, .ref 0), (1, .int yf), (2, .int yh)] [] yA _
        refine Pa.ic (x := (-1)) (pc' := 36) (by rfl) (by rfl) (by decide) ?_
        refine Pa.iret (by rfl) ?_
        exact l3 h2 h4 h5
      · have h6 : 0 ≤ yh.toInt := h6
        refine Pa.mp 2 (pc' := 6) (l' := [(0, .ref 1), (1, .int yh)]) (st' := [.ref 1, .int yh]) (by rfl) ?_
        refine Pa.gfI (v := yA.1 1 3) (by rfl) (by rfl) (.inl rfl) (by rfl) (by rfl) ?_
        refine Pa.if2 (a := yh.toInt) (b := (yA.1 1 3).toInt) (t := 16) (by rfl) (by rfl) (rfl) (rfl) (fun h7 => ?_) (fun h8 => ?_)
        · have h7 : (yA.1 1 3).toInt ≤ yh.toInt := h7
          refine Pa.ic (x := 0) (pc' := 17) (by rfl) (by rfl) (by decide) ?_
          refine Pa.iret (by rfl) ?_
          show Pa N 104 19 [(0, .ref 0), (1, .int yf), (2, .int yh)] [.int 0] yA _
          refine Pa.if1k true (by rfl) (by rfl) (by decide) ?_
          show Pa N 104 35 [(0, .ref 0), (1, .int yf), (2, .int yh)] [] yA _
          refine Pa.ic (x := (-1)) (pc' := 36) (by rfl) (by rfl) (by decide) ?_
          refine Pa.iret (by rfl) ?_
          exact l4 h2 h4 h6 h7
        · have h8 : yh.toInt < (yA.1 1 3).toInt := h8
          refine Pa.ic (x := 1) (pc' := 13) (by rfl) (by rfl) (by decide) ?_
          refine Pa.mp 1 (pc' := 17) (l' := [(0, .ref 1), (1, .int yh)]) (st' := [.int 1]) (by rfl) ?_
          refine Pa.iret (by rfl) ?_
          show Pa N 104 19 [(0, .ref 0), (1, .int yf), (2, .int yh)] [.int 1] yA _
          refine Pa.if1k false (by rfl) (by rfl) (by decide) ?_
          show Pa N 104 22 [(0, .ref 0), (1, .int yf), (2, .int yh)] [] yA _
          refine Pa.mp 1 (pc' := 23) (l' := [(0, .ref 0), (1, .int yf), (2, .int yh)]) (st' := [.ref 0]) (by rfl) ?_
          refine Pa.gfR (by rfl) (by rfl) (.inl rfl) (by rfl) ?_
          show Pa N 104 26 [(0, .ref 0), (1, .int yf), (2, .int yh)] [.ref 5] yA _
          refine Pa.gfR (by rfl) (by rfl) (.inr rfl) (by rfl) ?_
          show Pa N 104 29 [(0, .ref 0), (1, .int yf), (2, .int yh)] [.ref 6] yA _
          refine Pa.mp 1 (pc' := 30) (l' := [(0, .ref 0), (1, .int yf), (2, .int yh)]) (st' := [.int yf, .ref 6]) (by rfl) ?_
          refine Pa.alds (v := yA.1 6 yf.toInt.toNat) (by rfl) (by rfl) (by rfl) (fun h9 h10 => ?_)
          have h9 : 0 ≤ yf.toInt := h9
          have h10 : yf.toInt < 20 := h10
          refine Pa.mp 1 (pc' := 32) (l' := [(0, .ref 0), (1, .int yf), (2, .int yh)]) (st' := [.int yh, .int (yA.1 6 yf.toInt.toNat)]) (by rfl) ?_
          refine Pa.if2 (a := (yA.1 6 yf.toInt.toNat).toInt) (b := yh.toInt) (t := 37) (by rfl) (by rfl) (rfl) (rfl) (fun h11 => ?_) (fun h12 => ?_)
          · have h11 : (yA.1 6 yf.toInt.toNat).toInt ≠ yh.toInt := h11
            refine Pa.mp 1 (pc' := 38) (l' := [(0, .ref 0), (1, .int yf), (2, .int yh)]) (st' := [.ref 0]) (by rfl) ?_
            refine Pa.gfR (by rfl) (by rfl) (.inl rfl) (by rfl) ?_
            show Pa N 104 41 [(0, .ref 0), (1, .int yf), (2, .int yh)] [.ref 5] yA _
            refine Pa.gfR (by rfl) (by rfl) (.inr rfl) (by rfl) ?_
            show Pa N 104 44 [(0, .ref 0), (1, .int yf), (2, .int yh)] [.ref 6] yA _
            refine Pa.mp 1 (pc' := 45) (l' := [(0, .ref 0), (1, .int yf), (2, .int yh)]) (st' := [.int yf, .ref 6]) (by rfl) ?_
            refine Pa.alds (v := yA.1 6 yf.toInt.toNat) (by rfl) (by rfl) (by rfl) (fun h13 h14 => ?_)
            have h13 : 0 ≤ yf.toInt := h13
            have h14 : yf.toInt < 20 := h14
            refine Pa.mp 2 (pc' := 48) (l' := [(3, .int (yA.1 6 yf.toInt.toNat)), (0, .ref 0), (1, .int yf), (2, .int yh)]) (st' := [.ref 0]) (by rfl) ?_
            refine Pa.gfR (by rfl) (by rfl) (.inl rfl) (by rfl) ?_
            show Pa N 104 51 [(3, .int (yA.1 6 yf.toInt.toNat)), (0, .ref 0), (1, .int yf), (2, .int yh)] [.ref 5] yA _
            refine Pa.gfR (by rfl) (by rfl) (.inr rfl) (by rfl) ?_
            show Pa N 104 54 [(3, .int (yA.1 6 yf.toInt.toNat)), (0, .ref 0), (1, .int yf), (2, .int yh)] [.ref 6] yA _
            refine Pa.mp 2 (pc' := 56) (l' := [(3, .int (yA.1 6 yf.toInt.toNat)), (0, .ref 0), (1, .int yf), (2, .int yh)]) (st' := [.int yh, .int yf, .ref 6]) (by rfl) ?_
            refine Pa.asts (j' := yf.toInt.toNat) (by rfl) (by rfl) (by rfl) (fun h15 yh16 => ?_)
            have h15 : 0 ≤ yf.toInt := h15
            have yh16 : yf.toInt < 20 := yh16
            show Pa N 104 57 [(3, .int (yA.1 6 yf.toInt.toNat)), (0, .ref 0), (1, .int yf), (2, .int yh)] [] (uI yA 6 yf.toInt.toNat yh) _
            refine Pa.mp 1 (pc' := 58) (l' := [(3, .int (yA.1 6 yf.toInt.toNat)), (0, .ref 0), (1, .int yf), (2, .int yh)]) (st' := [.int (yA.1 6 yf.toInt.toNat)]) (by rfl) ?_
            refine Pa.iret (by rfl) ?_
            exact l5 h2 h4 h6 h8 h10 h11
          · have h12 : (yA.1 6 yf.toInt.toNat).toInt = yh.toInt := h12
            refine Pa.ic (x := (-1)) (pc' := 36) (by rfl) (by rfl) (by decide) ?_
            refine Pa.iret (by rfl) ?_
            exact l6 h2 h4 h6 h8 h10 h12

theorem bm_sel {N : Nat} {yA : AW} {yQ : Option Value → AW → Prop} (yf yh : Int32)
    (l1 : yf.toInt < 0 → yQ (some (.int (-1))) yA)
    (l2 : 0 ≤ yf.toInt → (yA.1 69 11).toInt ≤ yf.toInt → yQ (some (.int (-1))) yA)
    (l3 : 0 ≤ yf.toInt → yf.toInt < (yA.1 69 11).toInt → yh.toInt < 0 → yQ (some (.int (-1))) yA)
    (l4 : 0 ≤ yf.toInt → yf.toInt < (yA.1 69 11).toInt → 0 ≤ yh.toInt → (yA.1 69 7).toInt ≤ yh.toInt → yQ (some (.int (-1))) yA)
    (l5 : 0 ≤ yf.toInt → yf.toInt < (yA.1 69 11).toInt → 0 ≤ yh.toInt → yh.toInt < (yA.1 69 7).toInt → yf.toInt < 20 → (yA.1 76 yf.toInt.toNat).toInt ≠ yh.toInt → yQ (some (.int (yA.1 76 yf.toInt.toNat))) (uI yA 76 yf.toInt.toNat yh))
    (l6 : 0 ≤ yf.toInt → yf.toInt < (yA.1 69 11).toInt → 0 ≤ yh.toInt → yh.toInt < (yA.1 69 7).toInt → yf.toInt < 20 → (yA.1 76 yf.toInt.toNat).toInt = yh.toInt → yQ (some (.int (-1))) yA) :
    Pa N 168 0 [(0, .ref 69), (1, .int yf), (2, .int yh)] [] yA yQ := by
  refine Pa.mp 2 (pc' := 2) (l' := [(0, .ref 69), (1, .int yf), (2, .int yh)]) (st' := [.int yf, .ref 69]) (by rfl) ?_
  refine Pa.inv (by rfl) (by rfl) (.inl rfl) (by rfl) ?_
  show Pa N 157 0 [(0, .ref 69), (1, .int yf)] [] yA _
  refine Pa.mp 1 (pc' := 1) (l' := [(0, .ref 69), (1, .int yf)]) (st' := [.int yf]) (by rfl) ?_
  refine Pa.if1 (a := yf.toInt) (t := 16) (by rfl) (by rfl) (rfl) (fun h1 => ?_) (fun h2 => ?_)
  · have h1 : yf.toInt < 0 := h1
    refine Pa.ic (x := 0) (pc' := 17) (by rfl) (by rfl) (by decide) ?_
    refine Pa.iret (by rfl) ?_
    show Pa N 168 5 [(0, .ref 69), (1, .int yf), (2, .int yh)] [.int 0] yA _
    refine Pa.if1k true (by rfl) (by rfl) (by decide) ?_
    show Pa N 168 26 [(0, .ref 69), (1, .int yf), (2, .int yh)] [] yA _
    refine Pa.ic (x := (-1)) (pc' := 27) (by rfl) (by rfl) (by decide) ?_
    refine Pa.iret (by rfl) ?_
    exact l1 h1
  · have h2 : 0 ≤ yf.toInt := h2
    refine Pa.mp 2 (pc' := 6) (l' := [(0, .ref 69), (1, .int yf)]) (st' := [.ref 69, .int yf]) (by rfl) ?_
    refine Pa.gfI (v := yA.1 69 11) (by rfl) (by rfl) (.inl rfl) (by rfl) (by rfl) ?_
    refine Pa.if2 (a := yf.toInt) (b := (yA.1 69 11).toInt) (t := 16) (by rfl) (by rfl) (rfl) (rfl) (fun h3 => ?_) (fun h4 => ?_)
    · have h3 : (yA.1 69 11).toInt ≤ yf.toInt := h3
      refine Pa.ic (x := 0) (pc' := 17) (by rfl) (by rfl) (by decide) ?_
      refine Pa.iret (by rfl) ?_
      show Pa N 168 5 [(0, .ref 69), (1, .int yf), (2, .int yh)] [.int 0] yA _
      refine Pa.if1k true (by rfl) (by rfl) (by decide) ?_
      show Pa N 168 26 [(0, .ref 69), (1, .int yf), (2, .int yh)] [] yA _
      refine Pa.ic (x := (-1)) (pc' := 27) (by rfl) (by rfl) (by decide) ?_
      refine Pa.iret (by rfl) ?_
      exact l2 h2 h3
    · have h4 : yf.toInt < (yA.1 69 11).toInt := h4
      refine Pa.ic (x := 1) (pc' := 13) (by rfl) (by rfl) (by decide) ?_
      refine Pa.mp 1 (pc' := 17) (l' := [(0, .ref 69), (1, .int yf)]) (st' := [.int 1]) (by rfl) ?_
      refine Pa.iret (by rfl) ?_
      show Pa N 168 5 [(0, .ref 69), (1, .int yf), (2, .int yh)] [.int 1] yA _
      refine Pa.if1k false (by rfl) (by rfl) (by decide) ?_
      show Pa N 168 8 [(0, .ref 69), (1, .int yf), (2, .int yh)] [] yA _
      refine Pa.mp 2 (pc' := 10) (l' := [(0, .ref 69), (1, .int yf), (2, .int yh)]) (st' := [.int yh, .ref 69]) (by rfl) ?_
      refine Pa.inv (by rfl) (by rfl) (.inl rfl) (by rfl) ?_
      show Pa N 156 0 [(0, .ref 69), (1, .int yh)] [] yA _
      refine Pa.mp 1 (pc' := 1) (l' := [(0, .ref 69), (1, .int yh)]) (st' := [.int yh]) (by rfl) ?_
      refine Pa.if1 (a := yh.toInt) (t := 16) (by rfl) (by rfl) (rfl) (fun h5 => ?_) (fun h6 => ?_)
      · have h5 : yh.toInt < 0 := h5
        refine Pa.ic (x := 0) (pc' := 17) (by rfl) (by rfl) (by decide) ?_
        refine Pa.iret (by rfl) ?_
        show Pa N 168 13 [(0, .ref 69), (1, .int yf), (2, .int yh)] [.int 0] yA _
        refine Pa.if1k true (by rfl) (by rfl) (by decide) ?_
        show Pa N 168 26 [(0, .ref 69), (1, .int yf), (2, .int yh)] [] yA _
        refine Pa.ic (x := (-1)) (pc' := 27) (by rfl) (by rfl) (by decide) ?_
        refine Pa.iret (by rfl) ?_
        exact l3 h2 h4 h5
      · have h6 : 0 ≤ yh.toInt := h6
        refine Pa.mp 2 (pc' := 6) (l' := [(0, .ref 69), (1, .int yh)]) (st' := [.ref 69, .int yh]) (by rfl) ?_
        refine Pa.gfI (v := yA.1 69 7) (by rfl) (by rfl) (.inl rfl) (by rfl) (by rfl) ?_
        refine Pa.if2 (a := yh.toInt) (b := (yA.1 69 7).toInt) (t := 16) (by rfl) (by rfl) (rfl) (rfl) (fun h7 => ?_) (fun h8 => ?_)
        · have h7 : (yA.1 69 7).toInt ≤ yh.toInt := h7
          refine Pa.ic (x := 0) (pc' := 17) (by rfl) (by rfl) (by decide) ?_
          refine Pa.iret (by rfl) ?_
          show Pa N 168 13 [(0, .ref 69), (1, .int yf), (2, .int yh)] [.int 0] yA _
          refine Pa.if1k true (by rfl) (by rfl) (by decide) ?_
          show Pa N 168 26 [(0, .ref 69), (1, .int yf), (2, .int yh)] [] yA _
          refine Pa.ic (x := (-1)) (pc' := 27) (by rfl) (by rfl) (by decide) ?_
          refine Pa.iret (by rfl) ?_
          exact l4 h2 h4 h6 h7
        · have h8 : yh.toInt < (yA.1 69 7).toInt := h8
          refine Pa.ic (x := 1) (pc' := 13) (by rfl) (by rfl) (by decide) ?_
          refine Pa.mp 1 (pc' := 17) (l' := [(0, .ref 69), (1, .int yh)]) (st' := [.int 1]) (by rfl) ?_
          refine Pa.iret (by rfl) ?_
          show Pa N 168 13 [(0, .ref 69), (1, .int yf), (2, .int yh)] [.int 1] yA _
          refine Pa.if1k false (by rfl) (by rfl) (by decide) ?_
          show Pa N 168 16 [(0, .ref 69), (1, .int yf), (2, .int yh)] [] yA _
          refine Pa.mp 1 (pc' := 17) (l' := [(0, .ref 69), (1, .int yf), (2, .int yh)]) (st' := [.ref 69]) (by rfl) ?_
          refine Pa.gfR (by rfl) (by rfl) (.inl rfl) (by rfl) ?_
          show Pa N 168 20 [(0, .ref 69), (1, .int yf), (2, .int yh)] [.ref 76] yA _
          refine Pa.mp 1 (pc' := 21) (l' := [(0, .ref 69), (1, .int yf), (2, .int yh)]) (st' := [.int yf, .ref 76]) (by rfl) ?_
          refine Pa.alds (v := yA.1 76 yf.toInt.toNat) (by rfl) (by rfl) (by rfl) (fun h9 h10 => ?_)
          have h9 : 0 ≤ yf.toInt := h9
          have h10 : yf.toInt < 20 := h10
          refine Pa.mp 1 (pc' := 23) (l' := [(0, .ref 69), (1, .int yf), (2, .int yh)]) (st' := [.int yh, .int (yA.1 76 yf.toInt.toNat)]) (by rfl) ?_
          refine Pa.if2 (a := (yA.1 76 yf.toInt.toNat).toInt) (b := yh.toInt) (t := 28) (by rfl) (by rfl) (rfl) (rfl) (fun h11 => ?_) (fun h12 => ?_)
          · have h11 : (yA.1 76 yf.toInt.toNat).toInt ≠ yh.toInt := h11
            refine Pa.mp 1 (pc' := 29) (l' := [(0, .ref 69), (1, .int yf), (2, .int yh)]) (st' := [.ref 69]) (by rfl) ?_
            refine Pa.gfR (by rfl) (by rfl) (.inl rfl) (by rfl) ?_
            show Pa N 168 32 [(0, .ref 69), (1, .int yf), (2, .int yh)] [.ref 76] yA _
            refine Pa.mp 1 (pc' := 33) (l' := [(0, .ref 69), (1, .int yf), (2, .int yh)]) (st' := [.int yf, .ref 76]) (by rfl) ?_
            refine Pa.alds (v := yA.1 76 yf.toInt.toNat) (by rfl) (by rfl) (by rfl) (fun h13 h14 => ?_)
            have h13 : 0 ≤ yf.toInt := h13
            have h14 : yf.toInt < 20 := h14
            refine Pa.mp 2 (pc' := 36) (l' := [(3, .int (yA.1 76 yf.toInt.toNat)), (0, .ref 69), (1, .int yf), (2, .int yh)]) (st' := [.ref 69]) (by rfl) ?_
            refine Pa.gfR (by rfl) (by rfl) (.inl rfl) (by rfl) ?_
            show Pa N 168 39 [(3, .int (yA.1 76 yf.toInt.toNat)), (0, .ref 69), (1, .int yf), (2, .int yh)] [.ref 76] yA _
            refine Pa.mp 2 (pc' := 41) (l' := [(3, .int (yA.1 76 yf.toInt.toNat)), (0, .ref 69), (1, .int yf), (2, .int yh)]) (st' := [.int yh, .int yf, .ref 76]) (by rfl) ?_
            refine Pa.asts (j' := yf.toInt.toNat) (by rfl) (by rfl) (by rfl) (fun h15 yh16 => ?_)
            have h15 : 0 ≤ yf.toInt := h15
            have yh16 : yf.toInt < 20 := yh16
            show Pa N 168 42 [(3, .int (yA.1 76 yf.toInt.toNat)), (0, .ref 69), (1, .int yf), (2, .int yh)] [] (uI yA 76 yf.toInt.toNat yh) _
            refine Pa.mp 1 (pc' := 43) (l' := [(3, .int (yA.1 76 yf.toInt.toNat)), (0, .ref 69), (1, .int yf), (2, .int yh)]) (st' := [.int (yA.1 76 yf.toInt.toNat)]) (by rfl) ?_
            refine Pa.iret (by rfl) ?_
            exact l5 h2 h4 h6 h8 h10 h11
          · have h12 : (yA.1 76 yf.toInt.toNat).toInt = yh.toInt := h12
            refine Pa.ic (x := (-1)) (pc' := 27) (by rfl) (by rfl) (by decide) ?_
            refine Pa.iret (by rfl) ?_
            exact l6 h2 h4 h6 h8 h10 h12

theorem sl_X (N : Nat) (yA : AW) (yf yh : Int32) : Pa N 104 0 [(0, .ref 0), (1, .int yf), (2, .int yh)] [] yA (fun _ yB => hiE yA yB) :=
  bx_sel yf yh (fun _ => hiE_refl yA) (fun _ _ => hiE_refl yA) (fun _ _ _ => hiE_refl yA) (fun _ _ _ _ => hiE_refl yA) (fun _ _ _ _ _ _ => hiE_u (hiE_refl yA) (by decide)) (fun _ _ _ _ _ _ => hiE_refl yA)
theorem sl_M (N : Nat) (yA : AW) (yf yh : Int32) : Pa N 168 0 [(0, .ref 69), (1, .int yf), (2, .int yh)] [] yA (fun _ yB => Rfh yA → Rfh yB) := by
  refine bm_sel yf yh (fun _ yz => yz) (fun _ _ yz => yz) (fun _ _ _ yz => yz) (fun _ _ _ _ yz => yz) (fun y1 y2 y3 y4 _ _ yz => ?_) (fun _ _ _ _ _ _ yz => yz)
  intro yq hq
  rw [uI_c (by decide)] at hq
  rw [uI_row, uI_c (by decide)]
  by_cases ye : yq = yf.toInt.toNat
  · rw [if_pos ye]
    exact ⟨y3, y4⟩
  · rw [if_neg ye]
    exact yz yq hq
theorem h_selfh {yp : zPr} (hp : yp.1 = 104 ∧ yp.2.1 = 168 ∧ yp.2.2.1 = 2 ∧ yp.2.2.2.1 = false) (yhc : c_rm yp = true) : PairOK (RR [] [] Rfh) yp := by
  obtain ⟨yp1, yp2, yp3, yp4⟩ := hp
  refine pairK (D := fun _ yA _ yB => hiE yA yB) (E := fun _ yA _ yB => Rfh yA → Rfh yB) (by decide +kernel) (by decide +kernel) yhc (fun N yA yas _ hl => ?_) (fun N yA yas _ hl => ?_) (fun yA A1 A2 yas yx yy o _ _ _ _ hX hl ys1 ys2 => ?_)
  · rw [yp3] at hl
    obtain ⟨ya, yb, rfl⟩ := as2 hl
    rw [yp1]
    exact sl_X N yA ya yb
  · rw [yp3] at hl
    obtain ⟨ya, yb, rfl⟩ := as2 hl
    rw [yp2]
    exact sl_M N yA ya yb
  · refine ⟨fun yq hq => (by cases hq), fun yq hq => (by cases hq), ys2 (fh_hi ys1 hX), fun yh => ?_⟩
    rw [yp4] at yh
    cases yh
theorem hs_X (N : Nat) (yA : AW) (l : Int32) : Pa N 101 0 [(0, .ref 0), (1, .int l)] [] yA (fun _ yB => hiE yA yB) :=
  bxf_house l (fun _ => hiE_refl yA) (fun _ _ => hiE_refl yA) (fun _ _ _ _ => hiE_u (hiE_u (hiE_refl yA) (by decide)) (by decide)) (fun _ _ _ => hiE_refl yA)
theorem hs_M (N : Nat) (yA : AW) (l : Int32) : Pa N 164 0 [(0, .ref 69), (1, .int l)] [] yA (fun _ yB => Rfh yA → Rfh yB) := by
  refine bmf_house l (fun _ yz => yz) (fun _ _ yz => yz) (fun y1 y2 y3 y4 y5 yz => ?_) (fun _ _ _ yz => yz)
  intro yq hq
  rw [uI_k (by decide), uI_c (by decide)] at hq
  rw [uI_c (by decide), uI_c (by decide), uI_h, i32_add1 (by omega)]
  have := yz yq hq
  omega
theorem fl_househ {yp : zPr} (hp : yp.1 = 101 ∧ yp.2.1 = 164 ∧ yp.2.2.1 = 1 ∧ yp.2.2.2.1 = false) (yhc : c_rm yp = true) : PairOK (RR [] [] (fun yA => Rfl yA ∧ Rfh yA)) yp := by
  obtain ⟨yp1, yp2, yp3, yp4⟩ := hp
  refine pairK (D := fun _ yA _ yB => flE yA yB ∧ hiE yA yB) (E := fun _ yA _ yB => flE yA yB ∧ (Rfh yA → Rfh yB)) (by decide +kernel) (by decide +kernel) yhc (fun N yA yas _ hl => ?_) (fun N yA yas _ hl => ?_) (fun yA A1 A2 yas yx yy o _ _ _ _ hX hl ys1 ys2 => ?_)
  · rw [yp3] at hl
    obtain ⟨ya, rfl⟩ := as1 hl
    rw [yp1]
    exact Pa.and2 (df_house N yA ya) (hs_X N yA ya)
  · rw [yp3] at hl
    obtain ⟨ya, rfl⟩ := as1 hl
    rw [yp2]
    exact Pa.and2 (ef_house N yA ya) (hs_M N yA ya)
  · refine ⟨fun yq hq => (by cases hq), fun yq hq => (by cases hq), ⟨flE_up (flE_tr ys1.1 ys2.1) hX.1, ys2.2 (fh_hi ys1.2 hX.2)⟩, fun yh => ?_⟩
    rw [yp4] at yh
    cases yh
theorem fm_X (N : Nat) (yA : AW) (yf yn : Int32) : Pa N 103 0 [(0, .ref 0), (1, .int yf), (2, .int yn)] [] yA (fun _ yB => hiE yA yB) :=
  bxf_film yf yn (fun _ => hiE_refl yA) (fun _ _ => hiE_refl yA) (fun _ _ _ => hiE_refl yA) (fun _ _ _ _ => hiE_refl yA) (fun _ _ _ _ _ _ => hiE_u (hiE_u (hiE_u (hiE_refl yA) (by decide)) (by decide)) (by decide)) (fun _ _ _ _ _ => hiE_refl yA)
theorem fm_M (N : Nat) (yA : AW) (yf yn : Int32) : Pa N 167 0 [(0, .ref 69), (1, .int yf), (2, .int yn)] [] yA (fun _ yB => Rfh yA → Rfh yB) := by
  refine bmf_film yf yn (fun _ yz => yz) (fun _ _ yz => yz) (fun _ _ _ yz => yz) (fun _ _ _ _ yz => yz) (fun y1 y2 y3 y4 y5 y6 y7 yz => ?_) (fun _ _ _ _ _ yz => yz)
  intro yq hq
  rw [uI_h, i32_add1 (by omega)] at hq
  rw [uI_c (by decide), uI_c (by decide), uI_row, uI_k (by decide), uI_c (by decide), uI_c (by decide)]
  by_cases ye : yq = (yA.1 69 11).toInt.toNat
  · rw [if_pos ye]
    exact ⟨y1, y2⟩
  · rw [if_neg ye]
    exact yz yq (by omega)
theorem fq_filmh {yp : zPr} (hp : yp.1 = 103 ∧ yp.2.1 = 167 ∧ yp.2.2.1 = 2 ∧ yp.2.2.2.1 = false) (yhc : c_rm yp = true) : PairOK (RR [] [] (fun yA => (Rfl yA ∧ Rq yA) ∧ Rfh yA)) yp := by
  obtain ⟨yp1, yp2, yp3, yp4⟩ := hp
  refine pairK (D := fun _ yA yu yB => fqD yA yu yB ∧ hiE yA yB) (E := fun _ yA yu yB => fqD yA yu yB ∧ (Rfh yA → Rfh yB)) (by decide +kernel) (by decide +kernel) yhc (fun N yA yas _ hl => ?_) (fun N yA yas _ hl => ?_) (fun yA A1 A2 yas yx yy o _ _ _ _ hX hl ys1 ys2 => ?_)
  · rw [yp3] at hl
    obtain ⟨ya, yb, rfl⟩ := as2 hl
    rw [yp1]
    exact Pa.and2 (dq_film N yA ya yb) (fm_X N yA ya yb)
  · rw [yp3] at hl
    obtain ⟨ya, yb, rfl⟩ := as2 hl
    rw [yp2]
    exact Pa.and2 (eq_film N yA ya yb) (fm_M N yA ya yb)
  · refine ⟨fun yq hq => (by cases hq), fun yq hq => (by cases hq), ⟨⟨flE_up (flE_tr ys1.1.1 ys2.1.1) hX.1.1, fq_up ys2.1.1 ys2.1.2 (fq_up ys1.1.1 ys1.1.2 hX.1.2)⟩, ys2.2 (fh_hi ys1.2 hX.2)⟩, fun yh => ?_⟩
    rw [yp4] at yh
    cases yh
/-! late finds -/
theorem r91 {yA : AW} (o : okA yA) (hX : RZc yA) {yc : Nat} (yhc : yc < cT yA) (h150 : yc < 150) : 0 ≤ (yA.1 91 yc).toInt ∧ (yA.1 91 yc).toInt ≤ 99999 := by
  obtain ⟨ya, ya1, a2, a3, z0, z1, z2, z3⟩ := hX.1 yc yhc
  have r2 := o.cst 2 0 99999 h150 ya1 (by decide) (by rfl)
  rw [z2] at r2
  exact r2
theorem k_costlt {yA A1 A2 : AW} {yk yn yx yy : Int32} (hA : okA yA) (hX : RZc yA) (hL : Rlt yA) (ys1 : dCost yk yn yA (some (.int yx)) A1) (ys2 : eCost yk yn A1 (some (.int yy)) A2) : Rlt A2 := by
  have ylow : ∀ yi yj, 69 ≤ yi → yi < 129 → A1.1 yi yj = yA.1 yi yj := fun yi yj h1 h2 => by
    rcases ys1 with ⟨_, _, rfl⟩ | ⟨_, _, _, rfl⟩ | ⟨_, _, _, _, ya, yha, hg, rfl⟩
    · rfl
    · rfl
    · exact cX_low (by omega) (by omega) (by omega) yj
  have l1 : Rlt A1 := by
    intro yc yhc
    rw [ylow 69 31 (by decide) (by decide)] at yhc
    rw [ylow 91 yc (by decide) (by decide), ylow 92 yc (by decide) (by decide)]
    exact hL yc yhc
  rcases ys2 with ⟨_, _, rfl⟩ | ⟨_, _, _, rfl⟩ | ⟨b1, b2, b3, _, rfl⟩
  · exact l1
  · exact l1
  · obtain ⟨yt, ht⟩ : ∃ yt, (A1.1 69 31).toInt.toNat = yt := ⟨_, rfl⟩
    have hT1 : (A1.1 69 31 + 1).toInt = (A1.1 69 31).toInt + 1 := i32_add1 (by omega)
    intro yc yhc
    rw [cM_69, if_pos rfl, hT1] at yhc
    rw [cM_low (by decide) (by decide) (by decide) (by decide) (by decide), cM_91 ht]
    by_cases ye : yc = yt
    · have yz : yA.1 92 yc = 0 := by
        refine hX.2.2.1 yc ?_ (by omega)
        unfold cT
        rw [← ylow 69 31 (by decide) (by decide)]
        omega
      rw [if_pos ye, ylow 92 yc (by decide) (by decide), yz]
      have := b1.2.2.1
      have z0 : (0 : Int32).toInt = 0 := by decide
      omega
    · rw [if_neg ye]
      exact l1 yc (by omega)
theorem h_costlt {yp : zPr} (hp : yp.1 = 112 ∧ yp.2.1 = 179 ∧ yp.2.2.1 = 2) (yhc : c_rm yp = true) : PairOK (RR Fc Arc (fun yA => (RZl yA ∧ Rfl yA) ∧ Rlt yA)) yp := by
  obtain ⟨yp1, yp2, yp3⟩ := hp
  refine pairK (D := on2 dCost) (E := on2 eCost) (by decide +kernel) (by decide +kernel) yhc (fun N yA yas _ hl => ?_) (fun N yA yas _ hl => ?_) (fun yA A1 A2 yas yx yy o _ _ hF hR hX hl ys1 ys2 => ?_)
  · rw [yp3] at hl
    obtain ⟨ya, yb, rfl⟩ := as2 hl
    rw [yp1]
    exact d_cost N yA ya yb
  · rw [yp3] at hl
    obtain ⟨ya, yb, rfl⟩ := as2 hl
    rw [yp2]
    exact e_cost N yA ya yb
  · rw [yp3] at hl
    obtain ⟨ya, yb, rfl⟩ := as2 hl
    obtain ⟨yq1, yq2, yq3, yq4⟩ := k_cost o hF hR hX.1.1.1 ys1 ys2
    exact ⟨yq1, yq2, ⟨⟨⟨yq3, k_cost34 o hF hR hX.1.1.2 ys1 ys2⟩, k_costfl o hF hR hX.1.2 ys1 ys2⟩, k_costlt o hX.1.1.1 hX.2 ys1 ys2⟩, fun _ => yq4⟩
theorem k_auditlt {yA A1 A2 : AW} {yc yk yx yy : Int32} (hA : okA yA) (hF : eqF Fc yA) (hX : RZc yA) (hL : Rlt yA) (ys1 : dAudit yc yk yA (some (.int yx)) A1) (ys2 : eAudit yc yk A1 (some (.int yy)) A2) : Rlt A2 := by
  have yf5 := hF ((30, 4), (69, 31)) (by simp [Fc])
  simp only at yf5
  have gT := hA.fld (i := 69) (k := 31) (lo := 0) (hi := 150) (by decide +kernel)
  have ylow : ∀ yi yj, 69 ≤ yi → yi < 129 → A1.1 yi yj = yA.1 yi yj := fun yi yj h1 h2 => by
    rcases ys1 with ⟨_, _, rfl⟩ | ⟨ya1, a2⟩ | ⟨ya, ya1, ⟨_, _, rfl⟩ | ⟨_, _, _, rfl⟩ | ⟨_, _, _, rfl⟩⟩
    · rfl
    · exact (k_some hX yf5 ya1 a2).elim
    · rfl
    · rfl
    · have hg := ya1.2.2
      unfold auditX
      rw [uI_c (by omega), uI_c (by omega), uI_c (by omega)]
  have l1 : Rlt A1 := by
    intro yc yhc
    rw [ylow 69 31 (by decide) (by decide)] at yhc
    rw [ylow 91 yc (by decide) (by decide), ylow 92 yc (by decide) (by decide)]
    exact hL yc yhc
  rcases ys2 with ⟨_, _, rfl⟩ | ⟨_, _, _, _, rfl⟩ | ⟨b1, b2, _, _, rfl⟩
  · exact l1
  · exact l1
  · obtain ⟨yt, ht⟩ : ∃ yt, yc.toInt.toNat = yt := ⟨_, rfl⟩
    rw [ht, ylow 91 yt (by decide) (by decide)] at b2
    have b11 := b1.1
    have b12 := b1.2
    rw [ylow 69 31 (by decide) (by decide)] at b12
    have yr := r91 hA hX (yc := yt) (by unfold cT; omega) (by omega)
    intro yq hq
    unfold auditM at hq ⊢
    rw [ht] at hq ⊢
    rw [uI_c (by decide), uI_c (by decide)] at hq
    rw [uI_row, uI_c (by decide), uI_c (c' := 91) (by decide), uI_c (c' := 91) (by decide)]
    by_cases ye : yq = yt
    · rw [if_pos ye, ye, ylow 91 yt (by decide) (by decide)]
      have yu1 := b2.1
      have yu2 := b2.2
      rw [i_subx (x := (yA.1 91 yt).toInt - 1) (by rw [show (1 : Int32).toInt = 1 from by decide]) (by omega) (by omega)] at yu2
      omega
    · rw [if_neg ye]
      exact l1 yq hq
theorem h_auditlt {yp : zPr} (hp : yp.1 = 136 ∧ yp.2.1 = 242 ∧ yp.2.2.1 = 2) (yhc : c_rm yp = true) : PairOK (RR Fc Arc (fun yA => RZc yA ∧ Rlt yA)) yp := by
  obtain ⟨yp1, yp2, yp3⟩ := hp
  refine pairK (D := on2 dAudit) (E := on2 eAudit) (by decide +kernel) (by decide +kernel) yhc (fun N yA yas _ hl => ?_) (fun N yA yas o hl => ?_) (fun yA A1 A2 yas yx yy o _ _ hF hR hX hl ys1 ys2 => ?_)
  · rw [yp3] at hl
    obtain ⟨ya, yb, rfl⟩ := as2 hl
    rw [yp1]
    exact d_audit N yA ya yb
  · rw [yp3] at hl
    obtain ⟨ya, yb, rfl⟩ := as2 hl
    rw [yp2]
    exact e_audit N yA ya yb (o.fld (i := 69) (k := 31) (lo := 0) (hi := 150) (by decide +kernel)).2
  · rw [yp3] at hl
    obtain ⟨ya, yb, rfl⟩ := as2 hl
    obtain ⟨yq1, yq2, yq3, yq4⟩ := k_audit o hF hR hX.1 ys1 ys2
    exact ⟨yq1, yq2, ⟨yq3, k_auditlt o hF hX.1 hX.2 ys1 ys2⟩, fun _ => yq4⟩
theorem au_iff (yA : AW) : ((RZc yA ∧ Rlt yA) ∧ R34 yA) ↔ RXL [0, 12] yA := ⟨fun yh => (RXL2 (yi := 0) (yj := 12)).mp ⟨⟨yh.1.1, yh.2⟩, yh.1.2⟩, fun yh => ⟨⟨(yh 0 List.mem_cons_self : RZl yA).1, yh 12 (List.mem_cons_of_mem _ List.mem_cons_self)⟩, (yh 0 List.mem_cons_self : RZl yA).2⟩⟩
/-! asked; loans ytold -/
theorem k_askpy {yA A1 A2 : AW} {yf l yx yy : Int32} (hA : okA yA) (hF : eqF F27q yA) (hX : Rpy yA) (hxy : yx = yy) (ys1 : dAsk yf l yA (some (.int yx)) A1) (ys2 : eAsk yf l A1 (some (.int yy)) A2) : Rpy A2 := by
  have yf3 : yA.1 47 16 = yA.1 69 52 := hF ((47, 16), (69, 52)) (by simp [F27q, F27])
  have yn1 : ∀ yz : Int32, (some (Value.int yz) : Option Value) = some (.int (-1)) ∨ (some (Value.int yz) : Option Value) = some (.int (-2)) ∨ (some (Value.int yz) : Option Value) = some (.int (-3)) → yz.toInt < 0 := fun yz yh => by
    rcases yh with yh | yh | yh <;> rw [some_int yh] <;> decide
  have ysame : A1 = yA → A2 = A1 → Rpy A2 := fun ye1 ye2 => by
    rw [ye2, ye1]
    exact hX
  have nX : A1 ≠ yA → 0 ≤ yx.toInt := fun hn => by
    rcases ys1 with ⟨ya1, a2, a3⟩ | ⟨ya1, ⟨a2, a3, a4⟩ | ⟨a2, a3, a4, a5⟩ | ⟨a2, a3, a4, a5, a6⟩⟩
    · exact absurd a3 hn
    · exact absurd a4 hn
    · exact absurd a5 hn
    · rw [some_int a5, Int32.add_sub_cancel]
      exact a4
  rcases ys2 with ⟨b1, b2, b3⟩ | ⟨b1, ⟨b2, b3, b4⟩ | ⟨b2, b3, b4, b5⟩ | ⟨b2, b3, b4, b5, b6⟩⟩
  · have yz := yn1 yy (.inl b2)
    exact ysame (Classical.byContradiction (fun yh => by have := nX yh; rw [hxy] at this; omega)) b3
  · have yz := yn1 yy (.inr (.inr b3))
    exact ysame (Classical.byContradiction (fun yh => by have := nX yh; rw [hxy] at this; omega)) b4
  · have yz := yn1 yy (.inr (.inl b4))
    exact ysame (Classical.byContradiction (fun yh => by have := nX yh; rw [hxy] at this; omega)) b5
  · have hy0 : 0 ≤ yy.toInt := by
      rw [some_int b5, Int32.add_sub_cancel]
      exact b4
    rcases ys1 with ⟨ya1, a2, a3⟩ | ⟨ya1, ⟨a2, a3, a4⟩ | ⟨a2, a3, a4, a5⟩ | ⟨a2, a3, a4, a5, a6⟩⟩
    · exact absurd (yn1 yx (.inl a2)) (by rw [hxy]; omega)
    · exact absurd (yn1 yx (.inr (.inr a3))) (by rw [hxy]; omega)
    · exact absurd (yn1 yx (.inr (.inl a4))) (by rw [hxy]; omega)
    · rw [yf3] at a6
      obtain ⟨yt, ht⟩ : ∃ yt, (yA.1 69 52).toInt.toNat = yt := ⟨_, rfl⟩
      rw [ht] at a6
      have ylow : ∀ yc yj, yc ≠ 47 → yc ≠ 49 → yc ≠ 50 → yc ≠ 51 → yc ≠ 52 → A1.1 yc yj = yA.1 yc yj := fun yc yj yq1 yq2 yq3 yq4 yq5 => by
        rw [a6, uI_c yq1, uI_c yq5, uI_c yq4, uI_c yq3, uI_c yq2]
      have e52 : A1.1 69 52 = yA.1 69 52 := ylow 69 52 (by decide) (by decide) (by decide) (by decide) (by decide)
      rw [e52, ht] at b6
      have lo2 : ∀ yc yj, yc ≠ 47 → yc ≠ 49 → yc ≠ 50 → yc ≠ 51 → yc ≠ 52 → yc ≠ 106 → yc ≠ 107 → yc ≠ 108 → yc ≠ 109 → yc ≠ 69 → A2.1 yc yj = yA.1 yc yj := fun yc yj yq1 yq2 yq3 yq4 yq5 yq6 yq7 yq8 yq9 q0 => by
        rw [b6, uI_c q0, uI_c yq9, uI_c yq8, uI_c yq7, uI_c yq6, ylow yc yj yq1 yq2 yq3 yq4 yq5]
      have r52 : ∀ yj, A2.1 52 yj = if yj = yt then -1 else yA.1 52 yj := fun yj => by
        rw [b6, uI_c (by decide), uI_c (by decide), uI_c (by decide), uI_c (by decide), uI_c (by decide), a6, uI_c (by decide), uI_row, uI_c (by decide), uI_c (by decide), uI_c (by decide)]
      have r109 : ∀ yj, A2.1 109 yj = if yj = yt then -1 else yA.1 109 yj := fun yj => by
        rw [b6, uI_c (by decide), uI_row, uI_c (by decide), uI_c (by decide), uI_c (by decide), ylow 109 yj (by decide) (by decide) (by decide) (by decide) (by decide)]
      have r57 : A2.1 69 57 = yA.1 69 57 := by
        rw [b6, uI_k (by decide), uI_c (by decide), uI_c (by decide), uI_c (by decide), uI_c (by decide)]
        exact ylow 69 57 (by decide) (by decide) (by decide) (by decide) (by decide)
      obtain ⟨yx1, yx2, x3, yx4, yx5, x6⟩ := hX
      have l : ∀ yc, yc = 53 ∨ yc = 110 ∨ yc = 59 ∨ yc = 114 ∨ yc = 3 ∨ yc = 74 ∨ yc = 112 → ∀ yj, A2.1 yc yj = yA.1 yc yj := fun yc yhc yj => lo2 yc yj (by omega) (by omega) (by omega) (by omega) (by omega) (by omega) (by omega) (by omega) (by omega) (by omega)
      refine ⟨fun yj hj => ?_, fun yj hj => ?_, fun yj hj => ?_, fun yj hj => ?_, fun yi yhi => ?_, fun yi yhi hi2 => ?_⟩
      · rw [r52, r109]
        by_cases ye : yj = yt
        · rw [if_pos ye, if_pos ye]
        · rw [if_neg ye, if_neg ye]
          exact yx1 yj hj
      · rw [l 53 (by omega), l 110 (by omega)]
        exact yx2 yj hj
      · rw [l 59 (by omega), l 114 (by omega)]
        exact x3 yj hj
      · rw [l 3 (by omega), l 74 (by omega)]
        exact yx4 yj hj
      · rw [r57] at yhi
        rw [l 114 (by omega), l 112 (by omega)]
        exact yx5 yi yhi
      · rw [r57] at hi2
        rw [l 114 (by omega)]
        exact x6 yi yhi hi2
theorem h_askpy {yp : zPr} (hp : yp.1 = 123 ∧ yp.2.1 = 221 ∧ yp.2.2.1 = 2) (yhc : c_rm yp = true) : PairOK (RR F27q Ar27 (fun yA => Rq yA ∧ Rpy yA)) yp := by
  obtain ⟨yp1, yp2, yp3⟩ := hp
  refine pairK (D := on2 dAsk) (E := on2 eAsk) (by decide +kernel) (by decide +kernel) yhc (fun N yA yas _ hl => ?_) (fun N yA yas _ hl => ?_) (fun yA A1 A2 yas yx yy o1 _ _ hF hR hX hl ys1 ys2 => ?_)
  · rw [yp3] at hl
    obtain ⟨ya, yb, rfl⟩ := as2 hl
    rw [yp1]
    exact d_ask N yA ya yb
  · rw [yp3] at hl
    obtain ⟨ya, yb, rfl⟩ := as2 hl
    rw [yp2]
    exact e_ask N yA ya yb
  · rw [yp3] at hl
    obtain ⟨ya, yb, rfl⟩ := as2 hl
    obtain ⟨yr1, r2, r3⟩ := k_ask (yf := ya) (l := yb) o1 (fun yq hq => hF yq (List.mem_append_left _ hq)) hR ys1 ys2
    obtain ⟨yx1, yx2⟩ := k_askq (yf := ya) (l := yb) o1 hF hX.1 r3 ys1 ys2
    refine ⟨fun yq hq => ?_, r2, ⟨yx1, k_askpy (yf := ya) (l := yb) o1 hF hX.2 r3 ys1 ys2⟩, fun _ => r3⟩
    rcases List.mem_append.mp hq with yz | yz
    · exact yr1 yq yz
    · simp only [List.mem_cons, List.not_mem_nil, or_false] at yz
      subst yz
      exact yx2
def okLn (T yc l yv yr : Int32) : Prop := 0 ≤ yc.toInt ∧ yc.toInt < T.toInt ∧ 0 ≤ l.toInt ∧ l.toInt ≤ 19 ∧ 1 ≤ yv.toInt ∧ yv.toInt ≤ 99999999 ∧ 0 ≤ yr.toInt ∧ yr.toInt ≤ 2
def dLn (yc l yv yr : Int32) (yA : AW) (yu : Option Value) (yB : AW) : Prop := (¬ okLn (yA.1 47 16) yc l yv yr ∧ yu = some (.int (-1)) ∧ yB = yA) ∨ (okLn (yA.1 47 16) yc l yv yr ∧ (((yA.1 53 yc.toInt.toNat).toInt ≠ 0 ∧ yu = some (.int (-3)) ∧ yB = yA) ∨ ((yA.1 53 yc.toInt.toNat).toInt = 0 ∧ 60 ≤ (yA.1 47 17).toInt ∧ yu = some (.int (-2)) ∧ yB = yA) ∨ ((yA.1 53 yc.toInt.toNat).toInt = 0 ∧ (yA.1 47 17).toInt < 60 ∧ 0 ≤ (yA.1 47 17).toInt ∧ yu = some (.int ((yA.1 47 17 + 1) - 1)) ∧ yB = uI (uI (uI (uI yA 56 ((yA.1 47 17).toInt.toNat) yc) 57 ((yA.1 47 17).toInt.toNat) yv) 58 ((yA.1 47 17).toInt.toNat) yr) 47 17 (yA.1 47 17 + 1))))
def eLn (yc l yv yr : Int32) (yA : AW) (yu : Option Value) (yB : AW) : Prop := (¬ okLn (yA.1 69 52) yc l yv yr ∧ yu = some (.int (-1)) ∧ yB = yA) ∨ (okLn (yA.1 69 52) yc l yv yr ∧ (((yA.1 110 yc.toInt.toNat).toInt ≠ 0 ∧ yu = some (.int (-3)) ∧ yB = yA) ∨ ((yA.1 110 yc.toInt.toNat).toInt = 0 ∧ (yA.1 69 57).toInt = 60 ∧ yu = some (.int (-2)) ∧ yB = yA) ∨ ((yA.1 110 yc.toInt.toNat).toInt = 0 ∧ (yA.1 69 57).toInt < 60 ∧ 0 ≤ (yA.1 69 57).toInt ∧ yu = some (.int ((yA.1 69 57 + 1) - 1)) ∧ yB = uI (uI (uI (uI yA 111 ((yA.1 69 57).toInt.toNat) yc) 112 ((yA.1 69 57).toInt.toNat) yv) 113 ((yA.1 69 57).toInt.toNat) yr) 69 57 (yA.1 69 57 + 1))))
theorem bx_lon {N : Nat} {yA : AW} {yQ : Option Value → AW → Prop} (yc l yv yr : Int32)
    (l1 : yc.toInt < 0 → yQ (some (.int (-1))) yA)
    (l2 : 0 ≤ yc.toInt → (yA.1 47 16).toInt ≤ yc.toInt → yQ (some (.int (-1))) yA)
    (l3 : 0 ≤ yc.toInt → yc.toInt < (yA.1 47 16).toInt → l.toInt < 0 → yQ (some (.int (-1))) yA)
    (l4 : 0 ≤ yc.toInt → yc.toInt < (yA.1 47 16).toInt → 0 ≤ l.toInt → 19 < l.toInt → yQ (some (.int (-1))) yA)
    (l5 : 0 ≤ yc.toInt → yc.toInt < (yA.1 47 16).toInt → 0 ≤ l.toInt → l.toInt ≤ 19 → yv.toInt < 1 → yQ (some (.int (-1))) yA)
    (l6 : 0 ≤ yc.toInt → yc.toInt < (yA.1 47 16).toInt → 0 ≤ l.toInt → l.toInt ≤ 19 → 1 ≤ yv.toInt → 99999999 < yv.toInt → yQ (some (.int (-1))) yA)
    (l7 : 0 ≤ yc.toInt → yc.toInt < (yA.1 47 16).toInt → 0 ≤ l.toInt → l.toInt ≤ 19 → 1 ≤ yv.toInt → yv.toInt ≤ 99999999 → yr.toInt < 0 → yQ (some (.int (-1))) yA)
    (l8 : 0 ≤ yc.toInt → yc.toInt < (yA.1 47 16).toInt → 0 ≤ l.toInt → l.toInt ≤ 19 → 1 ≤ yv.toInt → yv.toInt ≤ 99999999 → 0 ≤ yr.toInt → 2 < yr.toInt → yQ (some (.int (-1))) yA)
    (l9 : 0 ≤ yc.toInt → yc.toInt < (yA.1 47 16).toInt → 0 ≤ l.toInt → l.toInt ≤ 19 → 1 ≤ yv.toInt → yv.toInt ≤ 99999999 → 0 ≤ yr.toInt → yr.toInt ≤ 2 → yc.toInt < 60 → (yA.1 53 yc.toInt.toNat).toInt = 0 → (yA.1 47 17).toInt < 60 → 0 ≤ (yA.1 47 17).toInt → yQ (some (.int (((yA.1 47 17) + 1) - 1))) (uI (uI (uI (uI yA 56 ((yA.1 47 17).toInt.toNat) yc) 57 ((yA.1 47 17).toInt.toNat) yv) 58 ((yA.1 47 17).toInt.toNat) yr) 47 17 ((yA.1 47 17) + 1)))
    (l10 : 0 ≤ yc.toInt → yc.toInt < (yA.1 47 16).toInt → 0 ≤ l.toInt → l.toInt ≤ 19 → 1 ≤ yv.toInt → yv.toInt ≤ 99999999 → 0 ≤ yr.toInt → yr.toInt ≤ 2 → yc.toInt < 60 → (yA.1 53 yc.toInt.toNat).toInt = 0 → 60 ≤ (yA.1 47 17).toInt → yQ (some (.int (-2))) yA)
    (l11 : 0 ≤ yc.toInt → yc.toInt < (yA.1 47 16).toInt → 0 ≤ l.toInt → l.toInt ≤ 19 → 1 ≤ yv.toInt → yv.toInt ≤ 99999999 → 0 ≤ yr.toInt → yr.toInt ≤ 2 → yc.toInt < 60 → (yA.1 53 yc.toInt.toNat).toInt ≠ 0 → yQ (some (.int (-3))) yA) :
    Pa N 126 0 [(0, .ref 0), (1, .int yc), (2, .int l), (3, .int yv), (4, .int yr)] [] yA yQ := by
  refine Pa.mp 1 (pc' := 1) (l' := [(0, .ref 0), (1, .int yc), (2, .int l), (3, .int yv), (4, .int yr)]) (st' := [.ref 0]) (by rfl) ?_
  refine Pa.gfR (by rfl) (by rfl) (.inl rfl) (by rfl) ?_
  show Pa N 126 4 [(0, .ref 0), (1, .int yc), (2, .int l), (3, .int yv), (4, .int yr)] [.ref 47] yA _
  refine Pa.mp 1 (pc' := 5) (l' := [(0, .ref 0), (1, .int yc), (2, .int l), (3, .int yv), (4, .int yr)]) (st' := [.int yc, .ref 47]) (by rfl) ?_
  refine Pa.inv (by rfl) (by rfl) (.inr rfl) (by rfl) ?_
  show Pa N 68 0 [(0, .ref 47), (1, .int yc)] [] yA _
  refine Pa.mp 1 (pc' := 1) (l' := [(0, .ref 47), (1, .int yc)]) (st' := [.int yc]) (by rfl) ?_
  refine Pa.if1 (a := yc.toInt) (t := 16) (by rfl) (by rfl) (rfl) (fun h1 => ?_) (fun h2 => ?_)
  · have h1 : yc.toInt < 0 := h1
    refine Pa.ic (x := 0) (pc' := 17) (by rfl) (by rfl) (by decide) ?_
    refine Pa.iret (by rfl) ?_
    show Pa N 126 8 [(0, .ref 0), (1, .int yc), (2, .int l), (3, .int yv), (4, .int yr)] [.int 0] yA _
    refine Pa.if1k true (by rfl) (by rfl) (by decide) ?_
    show Pa N 126 21 [(0, .ref 0), (1, .int yc), (2, .int l), (3, .int yv), (4, .int yr)] [] yA _
    refine Pa.ic (x := (-1)) (pc' := 22) (by rfl) (by rfl) (by decide) ?_
    refine Pa.iret (by rfl) ?_
    exact l1 h1
  · have h2 : 0 ≤ yc.toInt := h2
    refine Pa.mp 2 (pc' := 6) (l' := [(0, .ref 47), (1, .int yc)]) (st' := [.ref 47, .int yc]) (by rfl) ?_
    refine Pa.gfI (v := yA.1 47 16) (by rfl) (by rfl) (.inl rfl) (by rfl) (by rfl) ?_
    refine Pa.if2 (a := yc.toInt) (b := (yA.1 47 16).toInt) (t := 16) (by rfl) (by rfl) (rfl) (rfl) (fun h3 => ?_) (fun h4 => ?_)
    · have h3 : (yA.1 47 16).toInt ≤ yc.toInt := h3
      refine Pa.ic (x := 0) (pc' := 17) (by rfl) (by rfl) (by decide) ?_
      refine Pa.iret (by rfl) ?_
      show Pa N 126 8 [(0, .ref 0), (1, .int yc), (2, .int l), (3, .int yv), (4, .int yr)] [.int 0] yA _
      refine Pa.if1k true (by rfl) (by rfl) (by decide) ?_
      show Pa N 126 21 [(0, .ref 0), (1, .int yc), (2, .int l), (3, .int yv), (4, .int yr)] [] yA _
      refine Pa.ic (x := (-1)) (pc' := 22) (by rfl) (by rfl) (by decide) ?_
      refine Pa.iret (by rfl) ?_
      exact l2 h2 h3
    · have h4 : yc.toInt < (yA.1 47 16).toInt := h4
      refine Pa.ic (x := 1) (pc' := 13) (by rfl) (by rfl) (by decide) ?_
      refine Pa.mp 1 (pc' := 17) (l' := [(0, .ref 47), (1, .int yc)]) (st' := [.int 1]) (by rfl) ?_
      refine Pa.iret (by rfl) ?_
      show Pa N 126 8 [(0, .ref 0), (1, .int yc), (2, .int l), (3, .int yv), (4, .int yr)] [.int 1] yA _
      refine Pa.if1k false (by rfl) (by rfl) (by decide) ?_
      show Pa N 126 11 [(0, .ref 0), (1, .int yc), (2, .int l), (3, .int yv), (4, .int yr)] [] yA _
      refine Pa.mp 1 (pc' := 12) (l' := [(0, .ref 0), (1, .int yc), (2, .int l), (3, .int yv), (4, .int yr)]) (st' := [.int l]) (by rfl) ?_
      refine Pa.ic (x := 0) (pc' := 13) (by rfl) (by rfl) (by decide) ?_
      refine Pa.ic (x := 19) (pc' := 15) (by rfl) (by rfl) (by decide) ?_
      refine Pa.ist (by rfl) (by rfl) (.inl rfl) (by rfl) (by rfl) ?_
      show Pa N 146 0 [(0, .int l), (1, .int 0), (2, .int 19)] [] yA _
      refine Pa.mp 2 (pc' := 2) (l' := [(0, .int l), (1, .int 0), (2, .int 19)]) (st' := [.int 0, .int l]) (by rfl) ?_
      refine Pa.if2 (a := l.toInt) (b := 0) (t := 14) (by rfl) (by rfl) (rfl) (by decide) (fun h5 => ?_) (fun h6 => ?_)
      · have h5 : l.toInt < 0 := h5
        refine Pa.ic (x := 0) (pc' := 15) (by rfl) (by rfl) (by decide) ?_
        refine Pa.iret (by rfl) ?_
        show Pa N 126 18 [(0, .ref 0), (1, .int yc), (2, .int l), (3, .int yv), (4, .int yr)] [.int 0] yA _
        refine Pa.if1k false (by rfl) (by rfl) (by decide) ?_
        show Pa N 126 21 [(0, .ref 0), (1, .int yc), (2, .int l), (3, .int yv), (4, .int yr)] [] yA _
        refine Pa.ic (x := (-1)) (pc' := 22) (by rfl) (by rfl) (by decide) ?_
        refine Pa.iret (by rfl) ?_
        exact l3 h2 h4 h5
      · have h6 : 0 ≤ l.toInt := h6
        refine Pa.mp 2 (pc' := 7) (l' := [(0, .int l), (1, .int 0), (2, .int 19)]) (st' := [.int 19, .int l]) (by rfl) ?_
        refine Pa.if2 (a := l.toInt) (b := 19) (t := 14) (by rfl) (by rfl) (rfl) (by decide) (fun h7 => ?_) (fun h8 => ?_)
        · have h7 : 19 < l.toInt := h7
          refine Pa.ic (x := 0) (pc' := 15) (by rfl) (by rfl) (by decide) ?_
          refine Pa.iret (by rfl) ?_
          show Pa N 126 18 [(0, .ref 0), (1, .int yc), (2, .int l), (3, .int yv), (4, .int yr)] [.int 0] yA _
          refine Pa.if1k false (by rfl) (by rfl) (by decide) ?_
          show Pa N 126 21 [(0, .ref 0), (1, .int yc), (2, .int l), (3, .int yv), (4, .int yr)] [] yA _
          refine Pa.ic (x := (-1)) (pc' := 22) (by rfl) (by rfl) (by decide) ?_
          refine Pa.iret (by rfl) ?_
          exact l4 h2 h4 h6 h7
        · have h8 : l.toInt ≤ 19 := h8
          refine Pa.ic (x := 1) (pc' := 11) (by rfl) (by rfl) (by decide) ?_
          refine Pa.mp 1 (pc' := 15) (l' := [(0, .int l), (1, .int 0), (2, .int 19)]) (st' := [.int 1]) (by rfl) ?_
          refine Pa.iret (by rfl) ?_
          show Pa N 126 18 [(0, .ref 0), (1, .int yc), (2, .int l), (3, .int yv), (4, .int yr)] [.int 1] yA _
          refine Pa.if1k true (by rfl) (by rfl) (by decide) ?_
          show Pa N 126 23 [(0, .ref 0), (1, .int yc), (2, .int l), (3, .int yv), (4, .int yr)] [] yA _
          refine Pa.mp 1 (pc' := 24) (l' := [(0, .ref 0), (1, .int yc), (2, .int l), (3, .int yv), (4, .int yr)]) (st' := [.int yv]) (by rfl) ?_
          refine Pa.ic (x := 1) (pc' := 25) (by rfl) (by rfl) (by decide) ?_
          refine Pa.icl (x := 99999999) (pc' := 27) (by rfl) (fun _ _ _ => by rfl) (by decide) ?_
          refine Pa.ist (by rfl) (by rfl) (.inl rfl) (by rfl) (by rfl) ?_
          show Pa N 146 0 [(0, .int yv), (1, .int 1), (2, .int 99999999)] [] yA _
          refine Pa.mp 2 (pc' := 2) (l' := [(0, .int yv), (1, .int 1), (2, .int 99999999)]) (st' := [.int 1, .int yv]) (by rfl) ?_
          refine Pa.if2 (a := yv.toInt) (b := 1) (t := 14) (by rfl) (by rfl) (rfl) (by decide) (fun h9 => ?_) (fun h10 => ?_)
          · have h9 : yv.toInt < 1 := h9
            refine Pa.ic (x := 0) (pc' := 15) (by rfl) (by rfl) (by decide) ?_
            refine Pa.iret (by rfl) ?_
            show Pa N 126 30 [(0, .ref 0), (1, .int yc), (2, .int l), (3, .int yv), (4, .int yr)] [.int 0] yA _
            refine Pa.if1k true (by rfl) (by rfl) (by decide) ?_
            show Pa N 126 43 [(0, .ref 0), (1, .int yc), (2, .int l), (3, .int yv), (4, .int yr)] [] yA _
            refine Pa.ic (x := (-1)) (pc' := 44) (by rfl) (by rfl) (by decide) ?_
            refine Pa.iret (by rfl) ?_
            exact l5 h2 h4 h6 h8 h9
          · have h10 : 1 ≤ yv.toInt := h10
            refine Pa.mp 2 (pc' := 7) (l' := [(0, .int yv), (1, .int 1), (2, .int 99999999)]) (st' := [.int 99999999, .int yv]) (by rfl) ?_
            refine Pa.if2 (a := yv.toInt) (b := 99999999) (t := 14) (by rfl) (by rfl) (rfl) (by decide) (fun h11 => ?_) (fun h12 => ?_)
            · have h11 : 99999999 < yv.toInt := h11
              refine Pa.ic (x := 0) (pc' := 15) (by rfl) (by rfl) (by decide) ?_
              refine Pa.iret (by rfl) ?_
              show Pa N 126 30 [(0, .ref 0), (1, .int yc), (2, .int l), (3, .int yv), (4, .int yr)] [.int 0] yA _
              refine Pa.if1k true (by rfl) (by rfl) (by decide) ?_
              show Pa N 126 43 [(0, .ref 0), (1, .int yc), (2, .int l), (3, .int yv), (4, .int yr)] [] yA _
              refine Pa.ic (x := (-1)) (pc' := 44) (by rfl) (by rfl) (by decide) ?_
              refine Pa.iret (by rfl) ?_
              exact l6 h2 h4 h6 h8 h10 h11
            · have h12 : yv.toInt ≤ 99999999 := h12
              refine Pa.ic (x := 1) (pc' := 11) (by rfl) (by rfl) (by decide) ?_
              refine Pa.mp 1 (pc' := 15) (l' := [(0, .int yv), (1, .int 1), (2, .int 99999999)]) (st' := [.int 1]) (by rfl) ?_
              refine Pa.iret (by rfl) ?_
              show Pa N 126 30 [(0, .ref 0), (1, .int yc), (2, .int l), (3, .int yv), (4, .int yr)] [.int 1] yA _
              refine Pa.if1k false (by rfl) (by rfl) (by decide) ?_
              show Pa N 126 33 [(0, .ref 0), (1, .int yc), (2, .int l), (3, .int yv), (4, .int yr)] [] yA _
              refine Pa.mp 1 (pc' := 35) (l' := [(0, .ref 0), (1, .int yc), (2, .int l), (3, .int yv), (4, .int yr)]) (st' := [.int yr]) (by rfl) ?_
              refine Pa.ic (x := 0) (pc' := 36) (by rfl) (by rfl) (by decide) ?_
              refine Pa.ic (x := 2) (pc' := 37) (by rfl) (by rfl) (by decide) ?_
              refine Pa.ist (by rfl) (by rfl) (.inl rfl) (by rfl) (by rfl) ?_
              show Pa N 146 0 [(0, .int yr), (1, .int 0), (2, .int 2)] [] yA _
              refine Pa.mp 2 (pc' := 2) (l' := [(0, .int yr), (1, .int 0), (2, .int 2)]) (st' := [.int 0, .int yr]) (by rfl) ?_
              refine Pa.if2 (a := yr.toInt) (b := 0) (t := 14) (by rfl) (by rfl) (rfl) (by decide) (fun h13 => ?_) (fun h14 => ?_)
              · have h13 : yr.toInt < 0 := h13
                refine Pa.ic (x := 0) (pc' := 15) (by rfl) (by rfl) (by decide) ?_
                refine Pa.iret (by rfl) ?_
                show Pa N 126 40 [(0, .ref 0), (1, .int yc), (2, .int l), (3, .int yv), (4, .int yr)] [.int 0] yA _
                refine Pa.if1k false (by rfl) (by rfl) (by decide) ?_
                show Pa N 126 43 [(0, .ref 0), (1, .int yc), (2, .int l), (3, .int yv), (4, .int yr)] [] yA _
                refine Pa.ic (x := (-1)) (pc' := 44) (by rfl) (by rfl) (by decide) ?_
                refine Pa.iret (by rfl) ?_
                exact l7 h2 h4 h6 h8 h10 h12 h13
              · have h14 : 0 ≤ yr.toInt := h14
                refine Pa.mp 2 (pc' := 7) (l' := [(0, .int yr), (1, .int 0), (2, .int 2)]) (st' := [.int 2, .int yr]) (by rfl) ?_
                refine Pa.if2 (a := yr.toInt) (b := 2) (t := 14) (by rfl) (by rfl) (rfl) (by decide) (fun h15 => ?_) (fun yh16 => ?_)
                · have h15 : 2 < yr.toInt := h15
                  refine Pa.ic (x := 0) (pc' := 15) (by rfl) (by rfl) (by decide) ?_
                  refine Pa.iret (by rfl) ?_
                  show Pa N 126 40 [(0, .ref 0), (1, .int yc), (2, .int l), (3, .int yv), (4, .int yr)] [.int 0] yA _
                  refine Pa.if1k false (by rfl) (by rfl) (by decide) ?_
                  show Pa N 126 43 [(0, .ref 0), (1, .int yc), (2, .int l), (3, .int yv), (4, .int yr)] [] yA _
                  refine Pa.ic (x := (-1)) (pc' := 44) (by rfl) (by rfl) (by decide) ?_
                  refine Pa.iret (by rfl) ?_
                  exact l8 h2 h4 h6 h8 h10 h12 h14 h15
                · have yh16 : yr.toInt ≤ 2 := yh16
                  refine Pa.ic (x := 1) (pc' := 11) (by rfl) (by rfl) (by decide) ?_
                  refine Pa.mp 1 (pc' := 15) (l' := [(0, .int yr), (1, .int 0), (2, .int 2)]) (st' := [.int 1]) (by rfl) ?_
                  refine Pa.iret (by rfl) ?_
                  show Pa N 126 40 [(0, .ref 0), (1, .int yc), (2, .int l), (3, .int yv), (4, .int yr)] [.int 1] yA _
                  refine Pa.if1k true (by rfl) (by rfl) (by decide) ?_
                  show Pa N 126 45 [(0, .ref 0), (1, .int yc), (2, .int l), (3, .int yv), (4, .int yr)] [] yA _
                  refine Pa.mp 1 (pc' := 46) (l' := [(0, .ref 0), (1, .int yc), (2, .int l), (3, .int yv), (4, .int yr)]) (st' := [.ref 0]) (by rfl) ?_
                  refine Pa.gfR (by rfl) (by rfl) (.inl rfl) (by rfl) ?_
                  show Pa N 126 49 [(0, .ref 0), (1, .int yc), (2, .int l), (3, .int yv), (4, .int yr)] [.ref 47] yA _
                  refine Pa.mp 3 (pc' := 53) (l' := [(0, .ref 0), (1, .int yc), (2, .int l), (3, .int yv), (4, .int yr)]) (st' := [.int yr, .int yv, .int yc, .ref 47]) (by rfl) ?_
                  refine Pa.inv (by rfl) (by rfl) (.inr rfl) (by rfl) ?_
                  show Pa N 72 0 [(0, .ref 47), (1, .int yc), (2, .int yv), (3, .int yr)] [] yA _
                  refine Pa.mp 1 (pc' := 1) (l' := [(0, .ref 47), (1, .int yc), (2, .int yv), (3, .int yr)]) (st' := [.ref 47]) (by rfl) ?_
                  refine Pa.gfR (by rfl) (by rfl) (.inl rfl) (by rfl) ?_
                  show Pa N 72 4 [(0, .ref 47), (1, .int yc), (2, .int yv), (3, .int yr)] [.ref 53] yA _
                  refine Pa.mp 1 (pc' := 5) (l' := [(0, .ref 47), (1, .int yc), (2, .int yv), (3, .int yr)]) (st' := [.int yc, .ref 53]) (by rfl) ?_
                  refine Pa.blds (v := yA.1 53 yc.toInt.toNat) (by rfl) (by rfl) (by rfl) (fun h17 h18 => ?_)
                  have h17 : 0 ≤ yc.toInt := h17
                  have h18 : yc.toInt < 60 := h18
                  refine Pa.if1 (a := (yA.1 53 yc.toInt.toNat).toInt) (t := 12) (by rfl) (by rfl) (rfl) (fun h19 => ?_) (fun h20 => ?_)
                  · have h19 : (yA.1 53 yc.toInt.toNat).toInt = 0 := h19
                    refine Pa.mp 1 (pc' := 13) (l' := [(0, .ref 47), (1, .int yc), (2, .int yv), (3, .int yr)]) (st' := [.ref 47]) (by rfl) ?_
                    refine Pa.gfI (v := yA.1 47 17) (by rfl) (by rfl) (.inl rfl) (by rfl) (by rfl) ?_
                    refine Pa.ic (x := 60) (pc' := 18) (by rfl) (by rfl) (by decide) ?_
                    refine Pa.if2 (a := (yA.1 47 17).toInt) (b := 60) (t := 24) (by rfl) (by rfl) (rfl) (by decide) (fun h21 => ?_) (fun h22 => ?_)
                    · have h21 : (yA.1 47 17).toInt < 60 := h21
                      refine Pa.mp 1 (pc' := 25) (l' := [(0, .ref 47), (1, .int yc), (2, .int yv), (3, .int yr)]) (st' := [.ref 47]) (by rfl) ?_
                      refine Pa.gfR (by rfl) (by rfl) (.inl rfl) (by rfl) ?_
                      show Pa N 72 28 [(0, .ref 47), (1, .int yc), (2, .int yv), (3, .int yr)] [.ref 56] yA _
                      refine Pa.mp 1 (pc' := 29) (l' := [(0, .ref 47), (1, .int yc), (2, .int yv), (3, .int yr)]) (st' := [.ref 47, .ref 56]) (by rfl) ?_
                      refine Pa.gfI (v := yA.1 47 17) (by rfl) (by rfl) (.inl rfl) (by rfl) (by rfl) ?_
                      refine Pa.mp 1 (pc' := 33) (l' := [(0, .ref 47), (1, .int yc), (2, .int yv), (3, .int yr)]) (st' := [.int yc, .int (yA.1 47 17), .ref 56]) (by rfl) ?_
                      refine Pa.asts (j' := ((yA.1 47 17).toInt.toNat)) (by rfl) (by rfl) (by rfl) (fun h23 h24 => ?_)
                      have h23 : 0 ≤ (yA.1 47 17).toInt := h23
                      have h24 : (yA.1 47 17).toInt < 60 := h24
                      show Pa N 72 34 [(0, .ref 47), (1, .int yc), (2, .int yv), (3, .int yr)] [] (uI yA 56 ((yA.1 47 17).toInt.toNat) yc) _
                      refine Pa.mp 1 (pc' := 35) (l' := [(0, .ref 47), (1, .int yc), (2, .int yv), (3, .int yr)]) (st' := [.ref 47]) (by rfl) ?_
                      refine Pa.gfR (by rfl) (by rfl) (.inl rfl) (by rfl) ?_
                      show Pa N 72 38 [(0, .ref 47), (1, .int yc), (2, .int yv), (3, .int yr)] [.ref 57] (uI yA 56 ((yA.1 47 17).toInt.toNat) yc) _
                      refine Pa.mp 1 (pc' := 39) (l' := [(0, .ref 47), (1, .int yc), (2, .int yv), (3, .int yr)]) (st' := [.ref 47, .ref 57]) (by rfl) ?_
                      refine Pa.gfI (v := yA.1 47 17) (by rfl) (by rfl) (.inl rfl) (by rfl) (by show (uI yA 56 ((yA.1 47 17).toInt.toNat) yc).1 47 17 = yA.1 47 17; rw [uI_c (by decide)]) ?_
                      refine Pa.mp 1 (pc' := 43) (l' := [(0, .ref 47), (1, .int yc), (2, .int yv), (3, .int yr)]) (st' := [.int yv, .int (yA.1 47 17), .ref 57]) (by rfl) ?_
                      refine Pa.asts (j' := ((yA.1 47 17).toInt.toNat)) (by rfl) (by rfl) (by rfl) (fun h25 h26 => ?_)
                      have h25 : 0 ≤ (yA.1 47 17).toInt := h25
                      have h26 : (yA.1 47 17).toInt < 60 := h26
                      show Pa N 72 44 [(0, .ref 47), (1, .int yc), (2, .int yv), (3, .int yr)] [] (uI (uI yA 56 ((yA.1 47 17).toInt.toNat) yc) 57 ((yA.1 47 17).toInt.toNat) yv) _
                      refine Pa.mp 1 (pc' := 45) (l' := [(0, .ref 47), (1, .int yc), (2, .int yv), (3, .int yr)]) (st' := [.ref 47]) (by rfl) ?_
                      refine Pa.gfR (by rfl) (by rfl) (.inl rfl) (by rfl) ?_
                      show Pa N 72 48 [(0, .ref 47), (1, .int yc), (2, .int yv), (3, .int yr)] [.ref 58] (uI (uI yA 56 ((yA.1 47 17).toInt.toNat) yc) 57 ((yA.1 47 17).toInt.toNat) yv) _
                      refine Pa.mp 1 (pc' := 49) (l' := [(0, .ref 47), (1, .int yc), (2, .int yv), (3, .int yr)]) (st' := [.ref 47, .ref 58]) (by rfl) ?_
                      refine Pa.gfI (v := yA.1 47 17) (by rfl) (by rfl) (.inl rfl) (by rfl) (by show (uI (uI yA 56 ((yA.1 47 17).toInt.toNat) yc) 57 ((yA.1 47 17).toInt.toNat) yv).1 47 17 = yA.1 47 17; rw [uI_c (by decide), uI_c (by decide)]) ?_
                      refine Pa.mp 1 (pc' := 53) (l' := [(0, .ref 47), (1, .int yc), (2, .int yv), (3, .int yr)]) (st' := [.int yr, .int (yA.1 47 17), .ref 58]) (by rfl) ?_
                      refine Pa.asts (j' := ((yA.1 47 17).toInt.toNat)) (by rfl) (by rfl) (by rfl) (fun h27 h28 => ?_)
                      have h27 : 0 ≤ (yA.1 47 17).toInt := h27
                      have h28 : (yA.1 47 17).toInt < 60 := h28
                      show Pa N 72 54 [(0, .ref 47), (1, .int yc), (2, .int yv), (3, .int yr)] [] (uI (uI (uI yA 56 ((yA.1 47 17).toInt.toNat) yc) 57 ((yA.1 47 17).toInt.toNat) yv) 58 ((yA.1 47 17).toInt.toNat) yr) _
                      refine Pa.mp 2 (pc' := 56) (l' := [(0, .ref 47), (1, .int yc), (2, .int yv), (3, .int yr)]) (st' := [.ref 47, .ref 47]) (by rfl) ?_
                      refine Pa.gfI (v := yA.1 47 17) (by rfl) (by rfl) (.inl rfl) (by rfl) (by show (uI (uI (uI yA 56 ((yA.1 47 17).toInt.toNat) yc) 57 ((yA.1 47 17).toInt.toNat) yv) 58 ((yA.1 47 17).toInt.toNat) yr).1 47 17 = yA.1 47 17; rw [uI_c (by decide), uI_c (by decide), uI_c (by decide)]) ?_
                      refine Pa.ic (x := 1) (pc' := 60) (by rfl) (by rfl) (by decide) ?_
                      refine Pa.mp 1 (pc' := 61) (l' := [(0, .ref 47), (1, .int yc), (2, .int yv), (3, .int yr)]) (st' := [.int ((yA.1 47 17) + 1), .ref 47]) (by rfl) ?_
                      refine Pa.pfI (by rfl) (by rfl) (.inl rfl) (by rfl) ?_
                      show Pa N 72 64 [(0, .ref 47), (1, .int yc), (2, .int yv), (3, .int yr)] [] (uI (uI (uI (uI yA 56 ((yA.1 47 17).toInt.toNat) yc) 57 ((yA.1 47 17).toInt.toNat) yv) 58 ((yA.1 47 17).toInt.toNat) yr) 47 17 ((yA.1 47 17) + 1)) _
                      refine Pa.mp 1 (pc' := 65) (l' := [(0, .ref 47), (1, .int yc), (2, .int yv), (3, .int yr)]) (st' := [.ref 47]) (by rfl) ?_
                      refine Pa.gfI (v := (yA.1 47 17) + 1) (by rfl) (by rfl) (.inl rfl) (by rfl) (by show (uI (uI (uI (uI yA 56 ((yA.1 47 17).toInt.toNat) yc) 57 ((yA.1 47 17).toInt.toNat) yv) 58 ((yA.1 47 17).toInt.toNat) yr) 47 17 ((yA.1 47 17) + 1)).1 47 17 = (yA.1 47 17) + 1; rw [uI_h]) ?_
                      refine Pa.ic (x := 1) (pc' := 69) (by rfl) (by rfl) (by decide) ?_
                      refine Pa.mp 1 (pc' := 70) (l' := [(0, .ref 47), (1, .int yc), (2, .int yv), (3, .int yr)]) (st' := [.int (((yA.1 47 17) + 1) - 1)]) (by rfl) ?_
                      refine Pa.iret (by rfl) ?_
                      show Pa N 126 56 [(0, .ref 0), (1, .int yc), (2, .int l), (3, .int yv), (4, .int yr)] [.int (((yA.1 47 17) + 1) - 1)] (uI (uI (uI (uI yA 56 ((yA.1 47 17).toInt.toNat) yc) 57 ((yA.1 47 17).toInt.toNat) yv) 58 ((yA.1 47 17).toInt.toNat) yr) 47 17 ((yA.1 47 17) + 1)) _
                      refine Pa.iret (by rfl) ?_
                      exact l9 h2 h4 h6 h8 h10 h12 h14 yh16 h18 h19 h21 h23
                    · have h22 : 60 ≤ (yA.1 47 17).toInt := h22
                      refine Pa.ic (x := (-2)) (pc' := 23) (by rfl) (by rfl) (by decide) ?_
                      refine Pa.iret (by rfl) ?_
                      show Pa N 126 56 [(0, .ref 0), (1, .int yc), (2, .int l), (3, .int yv), (4, .int yr)] [.int (-2)] yA _
                      refine Pa.iret (by rfl) ?_
                      exact l10 h2 h4 h6 h8 h10 h12 h14 yh16 h18 h19 h22
                  · have h20 : (yA.1 53 yc.toInt.toNat).toInt ≠ 0 := h20
                    refine Pa.ic (x := (-3)) (pc' := 11) (by rfl) (by rfl) (by decide) ?_
                    refine Pa.iret (by rfl) ?_
                    show Pa N 126 56 [(0, .ref 0), (1, .int yc), (2, .int l), (3, .int yv), (4, .int yr)] [.int (-3)] yA _
                    refine Pa.iret (by rfl) ?_
                    exact l11 h2 h4 h6 h8 h10 h12 h14 yh16 h18 h20

theorem bm_lon {N : Nat} {yA : AW} {yQ : Option Value → AW → Prop} (yc l yv yr : Int32)
    (l1 : yc.toInt < 0 → yQ (some (.int (-1))) yA)
    (l2 : 0 ≤ yc.toInt → (yA.1 69 52).toInt ≤ yc.toInt → yQ (some (.int (-1))) yA)
    (l3 : 0 ≤ yc.toInt → yc.toInt < (yA.1 69 52).toInt → l.toInt < 0 → yQ (some (.int (-1))) yA)
    (l4 : 0 ≤ yc.toInt → yc.toInt < (yA.1 69 52).toInt → 0 ≤ l.toInt → 19 < l.toInt → yQ (some (.int (-1))) yA)
    (l5 : 0 ≤ yc.toInt → yc.toInt < (yA.1 69 52).toInt → 0 ≤ l.toInt → l.toInt ≤ 19 → yv.toInt < 1 → yQ (some (.int (-1))) yA)
    (l6 : 0 ≤ yc.toInt → yc.toInt < (yA.1 69 52).toInt → 0 ≤ l.toInt → l.toInt ≤ 19 → 1 ≤ yv.toInt → 99999999 < yv.toInt → yQ (some (.int (-1))) yA)
    (l7 : 0 ≤ yc.toInt → yc.toInt < (yA.1 69 52).toInt → 0 ≤ l.toInt → l.toInt ≤ 19 → 1 ≤ yv.toInt → yv.toInt ≤ 99999999 → yr.toInt < 0 → yQ (some (.int (-1))) yA)
    (l8 : 0 ≤ yc.toInt → yc.toInt < (yA.1 69 52).toInt → 0 ≤ l.toInt → l.toInt ≤ 19 → 1 ≤ yv.toInt → yv.toInt ≤ 99999999 → 0 ≤ yr.toInt → 2 < yr.toInt → yQ (some (.int (-1))) yA)
    (l9 : 0 ≤ yc.toInt → yc.toInt < (yA.1 69 52).toInt → 0 ≤ l.toInt → l.toInt ≤ 19 → 1 ≤ yv.toInt → yv.toInt ≤ 99999999 → 0 ≤ yr.toInt → yr.toInt ≤ 2 → yc.toInt < 60 → (yA.1 110 yc.toInt.toNat).toInt = 0 → (yA.1 69 57).toInt ≠ 60 → 0 ≤ (yA.1 69 57).toInt → (yA.1 69 57).toInt < 60 → yQ (some (.int (((yA.1 69 57) + 1) - 1))) (uI (uI (uI (uI yA 111 ((yA.1 69 57).toInt.toNat) yc) 112 ((yA.1 69 57).toInt.toNat) yv) 113 ((yA.1 69 57).toInt.toNat) yr) 69 57 ((yA.1 69 57) + 1)))
    (l10 : 0 ≤ yc.toInt → yc.toInt < (yA.1 69 52).toInt → 0 ≤ l.toInt → l.toInt ≤ 19 → 1 ≤ yv.toInt → yv.toInt ≤ 99999999 → 0 ≤ yr.toInt → yr.toInt ≤ 2 → yc.toInt < 60 → (yA.1 110 yc.toInt.toNat).toInt = 0 → (yA.1 69 57).toInt = 60 → yQ (some (.int (-2))) yA)
    (l11 : 0 ≤ yc.toInt → yc.toInt < (yA.1 69 52).toInt → 0 ≤ l.toInt → l.toInt ≤ 19 → 1 ≤ yv.toInt → yv.toInt ≤ 99999999 → 0 ≤ yr.toInt → yr.toInt ≤ 2 → yc.toInt < 60 → (yA.1 110 yc.toInt.toNat).toInt ≠ 0 → yQ (some (.int (-3))) yA) :
    Pa N 228 0 [(0, .ref 69), (1, .int yc), (2, .int l), (3, .int yv), (4, .int yr)] [] yA yQ := by
  refine Pa.mp 2 (pc' := 2) (l' := [(0, .ref 69), (1, .int yc), (2, .int l), (3, .int yv), (4, .int yr)]) (st' := [.int yc, .ref 69]) (by rfl) ?_
  refine Pa.inv (by rfl) (by rfl) (.inl rfl) (by rfl) ?_
  show Pa N 224 0 [(0, .ref 69), (1, .int yc)] [] yA _
  refine Pa.mp 1 (pc' := 1) (l' := [(0, .ref 69), (1, .int yc)]) (st' := [.int yc]) (by rfl) ?_
  refine Pa.if1 (a := yc.toInt) (t := 16) (by rfl) (by rfl) (rfl) (fun h1 => ?_) (fun h2 => ?_)
  · have h1 : yc.toInt < 0 := h1
    refine Pa.ic (x := 0) (pc' := 17) (by rfl) (by rfl) (by decide) ?_
    refine Pa.iret (by rfl) ?_
    show Pa N 228 5 [(0, .ref 69), (1, .int yc), (2, .int l), (3, .int yv), (4, .int yr)] [.int 0] yA _
    refine Pa.if1k true (by rfl) (by rfl) (by decide) ?_
    show Pa N 228 38 [(0, .ref 69), (1, .int yc), (2, .int l), (3, .int yv), (4, .int yr)] [] yA _
    refine Pa.ic (x := (-1)) (pc' := 39) (by rfl) (by rfl) (by decide) ?_
    refine Pa.iret (by rfl) ?_
    exact l1 h1
  · have h2 : 0 ≤ yc.toInt := h2
    refine Pa.mp 2 (pc' := 6) (l' := [(0, .ref 69), (1, .int yc)]) (st' := [.ref 69, .int yc]) (by rfl) ?_
    refine Pa.gfI (v := yA.1 69 52) (by rfl) (by rfl) (.inl rfl) (by rfl) (by rfl) ?_
    refine Pa.if2 (a := yc.toInt) (b := (yA.1 69 52).toInt) (t := 16) (by rfl) (by rfl) (rfl) (rfl) (fun h3 => ?_) (fun h4 => ?_)
    · have h3 : (yA.1 69 52).toInt ≤ yc.toInt := h3
      refine Pa.ic (x := 0) (pc' := 17) (by rfl) (by rfl) (by decide) ?_
      refine Pa.iret (by rfl) ?_
      show Pa N 228 5 [(0, .ref 69), (1, .int yc), (2, .int l), (3, .int yv), (4, .int yr)] [.int 0] yA _
      refine Pa.if1k true (by rfl) (by rfl) (by decide) ?_
      show Pa N 228 38 [(0, .ref 69), (1, .int yc), (2, .int l), (3, .int yv), (4, .int yr)] [] yA _
      refine Pa.ic (x := (-1)) (pc' := 39) (by rfl) (by rfl) (by decide) ?_
      refine Pa.iret (by rfl) ?_
      exact l2 h2 h3
    · have h4 : yc.toInt < (yA.1 69 52).toInt := h4
      refine Pa.ic (x := 1) (pc' := 13) (by rfl) (by rfl) (by decide) ?_
      refine Pa.mp 1 (pc' := 17) (l' := [(0, .ref 69), (1, .int yc)]) (st' := [.int 1]) (by rfl) ?_
      refine Pa.iret (by rfl) ?_
      show Pa N 228 5 [(0, .ref 69), (1, .int yc), (2, .int l), (3, .int yv), (4, .int yr)] [.int 1] yA _
      refine Pa.if1k false (by rfl) (by rfl) (by decide) ?_
      show Pa N 228 8 [(0, .ref 69), (1, .int yc), (2, .int l), (3, .int yv), (4, .int yr)] [] yA _
      refine Pa.mp 1 (pc' := 9) (l' := [(0, .ref 69), (1, .int yc), (2, .int l), (3, .int yv), (4, .int yr)]) (st' := [.int l]) (by rfl) ?_
      refine Pa.ic (x := 0) (pc' := 10) (by rfl) (by rfl) (by decide) ?_
      refine Pa.ic (x := 19) (pc' := 12) (by rfl) (by rfl) (by decide) ?_
      refine Pa.ist (by rfl) (by rfl) (.inl rfl) (by rfl) (by rfl) ?_
      show Pa N 152 0 [(0, .int l), (1, .int 0), (2, .int 19)] [] yA _
      refine Pa.mp 2 (pc' := 2) (l' := [(0, .int l), (1, .int 0), (2, .int 19)]) (st' := [.int 0, .int l]) (by rfl) ?_
      refine Pa.if2 (a := l.toInt) (b := 0) (t := 14) (by rfl) (by rfl) (rfl) (by decide) (fun h5 => ?_) (fun h6 => ?_)
      · have h5 : l.toInt < 0 := h5
        refine Pa.ic (x := 0) (pc' := 15) (by rfl) (by rfl) (by decide) ?_
        refine Pa.iret (by rfl) ?_
        show Pa N 228 15 [(0, .ref 69), (1, .int yc), (2, .int l), (3, .int yv), (4, .int yr)] [.int 0] yA _
        refine Pa.if1k true (by rfl) (by rfl) (by decide) ?_
        show Pa N 228 38 [(0, .ref 69), (1, .int yc), (2, .int l), (3, .int yv), (4, .int yr)] [] yA _
        refine Pa.ic (x := (-1)) (pc' := 39) (by rfl) (by rfl) (by decide) ?_
        refine Pa.iret (by rfl) ?_
        exact l3 h2 h4 h5
      · have h6 : 0 ≤ l.toInt := h6
        refine Pa.mp 2 (pc' := 7) (l' := [(0, .int l), (1, .int 0), (2, .int 19)]) (st' := [.int 19, .int l]) (by rfl) ?_
        refine Pa.if2 (a := l.toInt) (b := 19) (t := 14) (by rfl) (by rfl) (rfl) (by decide) (fun h7 => ?_) (fun h8 => ?_)
        · have h7 : 19 < l.toInt := h7
          refine Pa.ic (x := 0) (pc' := 15) (by rfl) (by rfl) (by decide) ?_
          refine Pa.iret (by rfl) ?_
          show Pa N 228 15 [(0, .ref 69), (1, .int yc), (2, .int l), (3, .int yv), (4, .int yr)] [.int 0] yA _
          refine Pa.if1k true (by rfl) (by rfl) (by decide) ?_
          show Pa N 228 38 [(0, .ref 69), (1, .int yc), (2, .int l), (3, .int yv), (4, .int yr)] [] yA _
          refine Pa.ic (x := (-1)) (pc' := 39) (by rfl) (by rfl) (by decide) ?_
          refine Pa.iret (by rfl) ?_
          exact l4 h2 h4 h6 h7
        · have h8 : l.toInt ≤ 19 := h8
          refine Pa.ic (x := 1) (pc' := 11) (by rfl) (by rfl) (by decide) ?_
          refine Pa.mp 1 (pc' := 15) (l' := [(0, .int l), (1, .int 0), (2, .int 19)]) (st' := [.int 1]) (by rfl) ?_
          refine Pa.iret (by rfl) ?_
          show Pa N 228 15 [(0, .ref 69), (1, .int yc), (2, .int l), (3, .int yv), (4, .int yr)] [.int 1] yA _
          refine Pa.if1k false (by rfl) (by rfl) (by decide) ?_
          show Pa N 228 18 [(0, .ref 69), (1, .int yc), (2, .int l), (3, .int yv), (4, .int yr)] [] yA _
          refine Pa.mp 1 (pc' := 19) (l' := [(0, .ref 69), (1, .int yc), (2, .int l), (3, .int yv), (4, .int yr)]) (st' := [.int yv]) (by rfl) ?_
          refine Pa.ic (x := 1) (pc' := 20) (by rfl) (by rfl) (by decide) ?_
          refine Pa.icl (x := 99999999) (pc' := 22) (by rfl) (fun _ _ _ => by rfl) (by decide) ?_
          refine Pa.ist (by rfl) (by rfl) (.inl rfl) (by rfl) (by rfl) ?_
          show Pa N 152 0 [(0, .int yv), (1, .int 1), (2, .int 99999999)] [] yA _
          refine Pa.mp 2 (pc' := 2) (l' := [(0, .int yv), (1, .int 1), (2, .int 99999999)]) (st' := [.int 1, .int yv]) (by rfl) ?_
          refine Pa.if2 (a := yv.toInt) (b := 1) (t := 14) (by rfl) (by rfl) (rfl) (by decide) (fun h9 => ?_) (fun h10 => ?_)
          · have h9 : yv.toInt < 1 := h9
            refine Pa.ic (x := 0) (pc' := 15) (by rfl) (by rfl) (by decide) ?_
            refine Pa.iret (by rfl) ?_
            show Pa N 228 25 [(0, .ref 69), (1, .int yc), (2, .int l), (3, .int yv), (4, .int yr)] [.int 0] yA _
            refine Pa.if1k true (by rfl) (by rfl) (by decide) ?_
            show Pa N 228 38 [(0, .ref 69), (1, .int yc), (2, .int l), (3, .int yv), (4, .int yr)] [] yA _
            refine Pa.ic (x := (-1)) (pc' := 39) (by rfl) (by rfl) (by decide) ?_
            refine Pa.iret (by rfl) ?_
            exact l5 h2 h4 h6 h8 h9
          · have h10 : 1 ≤ yv.toInt := h10
            refine Pa.mp 2 (pc' := 7) (l' := [(0, .int yv), (1, .int 1), (2, .int 99999999)]) (st' := [.int 99999999, .int yv]) (by rfl) ?_
            refine Pa.if2 (a := yv.toInt) (b := 99999999) (t := 14) (by rfl) (by rfl) (rfl) (by decide) (fun h11 => ?_) (fun h12 => ?_)
            · have h11 : 99999999 < yv.toInt := h11
              refine Pa.ic (x := 0) (pc' := 15) (by rfl) (by rfl) (by decide) ?_
              refine Pa.iret (by rfl) ?_
              show Pa N 228 25 [(0, .ref 69), (1, .int yc), (2, .int l), (3, .int yv), (4, .int yr)] [.int 0] yA _
              refine Pa.if1k true (by rfl) (by rfl) (by decide) ?_
              show Pa N 228 38 [(0, .ref 69), (1, .int yc), (2, .int l), (3, .int yv), (4, .int yr)] [] yA _
              refine Pa.ic (x := (-1)) (pc' := 39) (by rfl) (by rfl) (by decide) ?_
              refine Pa.iret (by rfl) ?_
              exact l6 h2 h4 h6 h8 h10 h11
            · have h12 : yv.toInt ≤ 99999999 := h12
              refine Pa.ic (x := 1) (pc' := 11) (by rfl) (by rfl) (by decide) ?_
              refine Pa.mp 1 (pc' := 15) (l' := [(0, .int yv), (1, .int 1), (2, .int 99999999)]) (st' := [.int 1]) (by rfl) ?_
              refine Pa.iret (by rfl) ?_
              show Pa N 228 25 [(0, .ref 69), (1, .int yc), (2, .int l), (3, .int yv), (4, .int yr)] [.int 1] yA _
              refine Pa.if1k false (by rfl) (by rfl) (by decide) ?_
              show Pa N 228 28 [(0, .ref 69), (1, .int yc), (2, .int l), (3, .int yv), (4, .int yr)] [] yA _
              refine Pa.mp 1 (pc' := 30) (l' := [(0, .ref 69), (1, .int yc), (2, .int l), (3, .int yv), (4, .int yr)]) (st' := [.int yr]) (by rfl) ?_
              refine Pa.ic (x := 0) (pc' := 31) (by rfl) (by rfl) (by decide) ?_
              refine Pa.ic (x := 2) (pc' := 32) (by rfl) (by rfl) (by decide) ?_
              refine Pa.ist (by rfl) (by rfl) (.inl rfl) (by rfl) (by rfl) ?_
              show Pa N 152 0 [(0, .int yr), (1, .int 0), (2, .int 2)] [] yA _
              refine Pa.mp 2 (pc' := 2) (l' := [(0, .int yr), (1, .int 0), (2, .int 2)]) (st' := [.int 0, .int yr]) (by rfl) ?_
              refine Pa.if2 (a := yr.toInt) (b := 0) (t := 14) (by rfl) (by rfl) (rfl) (by decide) (fun h13 => ?_) (fun h14 => ?_)
              · have h13 : yr.toInt < 0 := h13
                refine Pa.ic (x := 0) (pc' := 15) (by rfl) (by rfl) (by decide) ?_
                refine Pa.iret (by rfl) ?_
                show Pa N 228 35 [(0, .ref 69), (1, .int yc), (2, .int l), (3, .int yv), (4, .int yr)] [.int 0] yA _
                refine Pa.if1k false (by rfl) (by rfl) (by decide) ?_
                show Pa N 228 38 [(0, .ref 69), (1, .int yc), (2, .int l), (3, .int yv), (4, .int yr)] [] yA _
                refine Pa.ic (x := (-1)) (pc' := 39) (by rfl) (by rfl) (by decide) ?_
                refine Pa.iret (by rfl) ?_
                exact l7 h2 h4 h6 h8 h10 h12 h13
              · have h14 : 0 ≤ yr.toInt := h14
                refine Pa.mp 2 (pc' := 7) (l' := [(0, .int yr), (1, .int 0), (2, .int 2)]) (st' := [.int 2, .int yr]) (by rfl) ?_
                refine Pa.if2 (a := yr.toInt) (b := 2) (t := 14) (by rfl) (by rfl) (rfl) (by decide) (fun h15 => ?_) (fun yh16 => ?_)
                · have h15 : 2 < yr.toInt := h15
                  refine Pa.ic (x := 0) (pc' := 15) (by rfl) (by rfl) (by decide) ?_
                  refine Pa.iret (by rfl) ?_
                  show Pa N 228 35 [(0, .ref 69), (1, .int yc), (2, .int l), (3, .int yv), (4, .int yr)] [.int 0] yA _
                  refine Pa.if1k false (by rfl) (by rfl) (by decide) ?_
                  show Pa N 228 38 [(0, .ref 69), (1, .int yc), (2, .int l), (3, .int yv), (4, .int yr)] [] yA _
                  refine Pa.ic (x := (-1)) (pc' := 39) (by rfl) (by rfl) (by decide) ?_
                  refine Pa.iret (by rfl) ?_
                  exact l8 h2 h4 h6 h8 h10 h12 h14 h15
                · have yh16 : yr.toInt ≤ 2 := yh16
                  refine Pa.ic (x := 1) (pc' := 11) (by rfl) (by rfl) (by decide) ?_
                  refine Pa.mp 1 (pc' := 15) (l' := [(0, .int yr), (1, .int 0), (2, .int 2)]) (st' := [.int 1]) (by rfl) ?_
                  refine Pa.iret (by rfl) ?_
                  show Pa N 228 35 [(0, .ref 69), (1, .int yc), (2, .int l), (3, .int yv), (4, .int yr)] [.int 1] yA _
                  refine Pa.if1k true (by rfl) (by rfl) (by decide) ?_
                  show Pa N 228 40 [(0, .ref 69), (1, .int yc), (2, .int l), (3, .int yv), (4, .int yr)] [] yA _
                  refine Pa.mp 1 (pc' := 41) (l' := [(0, .ref 69), (1, .int yc), (2, .int l), (3, .int yv), (4, .int yr)]) (st' := [.ref 69]) (by rfl) ?_
                  refine Pa.gfR (by rfl) (by rfl) (.inl rfl) (by rfl) ?_
                  show Pa N 228 44 [(0, .ref 69), (1, .int yc), (2, .int l), (3, .int yv), (4, .int yr)] [.ref 110] yA _
                  refine Pa.mp 1 (pc' := 45) (l' := [(0, .ref 69), (1, .int yc), (2, .int l), (3, .int yv), (4, .int yr)]) (st' := [.int yc, .ref 110]) (by rfl) ?_
                  refine Pa.blds (v := yA.1 110 yc.toInt.toNat) (by rfl) (by rfl) (by rfl) (fun h17 h18 => ?_)
                  have h17 : 0 ≤ yc.toInt := h17
                  have h18 : yc.toInt < 60 := h18
                  refine Pa.if1 (a := (yA.1 110 yc.toInt.toNat).toInt) (t := 52) (by rfl) (by rfl) (rfl) (fun h19 => ?_) (fun h20 => ?_)
                  · have h19 : (yA.1 110 yc.toInt.toNat).toInt = 0 := h19
                    refine Pa.mp 1 (pc' := 53) (l' := [(0, .ref 69), (1, .int yc), (2, .int l), (3, .int yv), (4, .int yr)]) (st' := [.ref 69]) (by rfl) ?_
                    refine Pa.gfI (v := yA.1 69 57) (by rfl) (by rfl) (.inl rfl) (by rfl) (by rfl) ?_
                    refine Pa.ic (x := 60) (pc' := 58) (by rfl) (by rfl) (by decide) ?_
                    refine Pa.if2 (a := (yA.1 69 57).toInt) (b := 60) (t := 64) (by rfl) (by rfl) (rfl) (by decide) (fun h21 => ?_) (fun h22 => ?_)
                    · have h21 : (yA.1 69 57).toInt ≠ 60 := h21
                      refine Pa.mp 1 (pc' := 65) (l' := [(0, .ref 69), (1, .int yc), (2, .int l), (3, .int yv), (4, .int yr)]) (st' := [.ref 69]) (by rfl) ?_
                      refine Pa.gfR (by rfl) (by rfl) (.inl rfl) (by rfl) ?_
                      show Pa N 228 68 [(0, .ref 69), (1, .int yc), (2, .int l), (3, .int yv), (4, .int yr)] [.ref 111] yA _
                      refine Pa.mp 1 (pc' := 69) (l' := [(0, .ref 69), (1, .int yc), (2, .int l), (3, .int yv), (4, .int yr)]) (st' := [.ref 69, .ref 111]) (by rfl) ?_
                      refine Pa.gfI (v := yA.1 69 57) (by rfl) (by rfl) (.inl rfl) (by rfl) (by rfl) ?_
                      refine Pa.mp 1 (pc' := 73) (l' := [(0, .ref 69), (1, .int yc), (2, .int l), (3, .int yv), (4, .int yr)]) (st' := [.int yc, .int (yA.1 69 57), .ref 111]) (by rfl) ?_
                      refine Pa.asts (j' := ((yA.1 69 57).toInt.toNat)) (by rfl) (by rfl) (by rfl) (fun h23 h24 => ?_)
                      have h23 : 0 ≤ (yA.1 69 57).toInt := h23
                      have h24 : (yA.1 69 57).toInt < 60 := h24
                      show Pa N 228 74 [(0, .ref 69), (1, .int yc), (2, .int l), (3, .int yv), (4, .int yr)] [] (uI yA 111 ((yA.1 69 57).toInt.toNat) yc) _
                      refine Pa.mp 1 (pc' := 75) (l' := [(0, .ref 69), (1, .int yc), (2, .int l), (3, .int yv), (4, .int yr)]) (st' := [.ref 69]) (by rfl) ?_
                      refine Pa.gfR (by rfl) (by rfl) (.inl rfl) (by rfl) ?_
                      show Pa N 228 78 [(0, .ref 69), (1, .int yc), (2, .int l), (3, .int yv), (4, .int yr)] [.ref 112] (uI yA 111 ((yA.1 69 57).toInt.toNat) yc) _
                      refine Pa.mp 1 (pc' := 79) (l' := [(0, .ref 69), (1, .int yc), (2, .int l), (3, .int yv), (4, .int yr)]) (st' := [.ref 69, .ref 112]) (by rfl) ?_
                      refine Pa.gfI (v := yA.1 69 57) (by rfl) (by rfl) (.inl rfl) (by rfl) (by show (uI yA 111 ((yA.1 69 57).toInt.toNat) yc).1 69 57 = yA.1 69 57; rw [uI_c (by decide)]) ?_
                      refine Pa.mp 1 (pc' := 83) (l' := [(0, .ref 69), (1, .int yc), (2, .int l), (3, .int yv), (4, .int yr)]) (st' := [.int yv, .int (yA.1 69 57), .ref 112]) (by rfl) ?_
                      refine Pa.asts (j' := ((yA.1 69 57).toInt.toNat)) (by rfl) (by rfl) (by rfl) (fun h25 h26 => ?_)
                      have h25 : 0 ≤ (yA.1 69 57).toInt := h25
                      have h26 : (yA.1 69 57).toInt < 60 := h26
                      show Pa N 228 84 [(0, .ref 69), (1, .int yc), (2, .int l), (3, .int yv), (4, .int yr)] [] (uI (uI yA 111 ((yA.1 69 57).toInt.toNat) yc) 112 ((yA.1 69 57).toInt.toNat) yv) _
                      refine Pa.mp 1 (pc' := 85) (l' := [(0, .ref 69), (1, .int yc), (2, .int l), (3, .int yv), (4, .int yr)]) (st' := [.ref 69]) (by rfl) ?_
                      refine Pa.gfR (by rfl) (by rfl) (.inl rfl) (by rfl) ?_
                      show Pa N 228 88 [(0, .ref 69), (1, .int yc), (2, .int l), (3, .int yv), (4, .int yr)] [.ref 113] (uI (uI yA 111 ((yA.1 69 57).toInt.toNat) yc) 112 ((yA.1 69 57).toInt.toNat) yv) _
                      refine Pa.mp 1 (pc' := 89) (l' := [(0, .ref 69), (1, .int yc), (2, .int l), (3, .int yv), (4, .int yr)]) (st' := [.ref 69, .ref 113]) (by rfl) ?_
                      refine Pa.gfI (v := yA.1 69 57) (by rfl) (by rfl) (.inl rfl) (by rfl) (by show (uI (uI yA 111 ((yA.1 69 57).toInt.toNat) yc) 112 ((yA.1 69 57).toInt.toNat) yv).1 69 57 = yA.1 69 57; rw [uI_c (by decide), uI_c (by decide)]) ?_
                      refine Pa.mp 1 (pc' := 94) (l' := [(0, .ref 69), (1, .int yc), (2, .int l), (3, .int yv), (4, .int yr)]) (st' := [.int yr, .int (yA.1 69 57), .ref 113]) (by rfl) ?_
                      refine Pa.asts (j' := ((yA.1 69 57).toInt.toNat)) (by rfl) (by rfl) (by rfl) (fun h27 h28 => ?_)
                      have h27 : 0 ≤ (yA.1 69 57).toInt := h27
                      have h28 : (yA.1 69 57).toInt < 60 := h28
                      show Pa N 228 95 [(0, .ref 69), (1, .int yc), (2, .int l), (3, .int yv), (4, .int yr)] [] (uI (uI (uI yA 111 ((yA.1 69 57).toInt.toNat) yc) 112 ((yA.1 69 57).toInt.toNat) yv) 113 ((yA.1 69 57).toInt.toNat) yr) _
                      refine Pa.mp 2 (pc' := 97) (l' := [(0, .ref 69), (1, .int yc), (2, .int l), (3, .int yv), (4, .int yr)]) (st' := [.ref 69, .ref 69]) (by rfl) ?_
                      refine Pa.gfI (v := yA.1 69 57) (by rfl) (by rfl) (.inl rfl) (by rfl) (by show (uI (uI (uI yA 111 ((yA.1 69 57).toInt.toNat) yc) 112 ((yA.1 69 57).toInt.toNat) yv) 113 ((yA.1 69 57).toInt.toNat) yr).1 69 57 = yA.1 69 57; rw [uI_c (by decide), uI_c (by decide), uI_c (by decide)]) ?_
                      refine Pa.ic (x := 1) (pc' := 101) (by rfl) (by rfl) (by decide) ?_
                      refine Pa.mp 1 (pc' := 102) (l' := [(0, .ref 69), (1, .int yc), (2, .int l), (3, .int yv), (4, .int yr)]) (st' := [.int ((yA.1 69 57) + 1), .ref 69]) (by rfl) ?_
                      refine Pa.pfI (by rfl) (by rfl) (.inl rfl) (by rfl) ?_
                      show Pa N 228 105 [(0, .ref 69), (1, .int yc), (2, .int l), (3, .int yv), (4, .int yr)] [] (uI (uI (uI (uI yA 111 ((yA.1 69 57).toInt.toNat) yc) 112 ((yA.1 69 57).toInt.toNat) yv) 113 ((yA.1 69 57).toInt.toNat) yr) 69 57 ((yA.1 69 57) + 1)) _
                      refine Pa.mp 1 (pc' := 106) (l' := [(0, .ref 69), (1, .int yc), (2, .int l), (3, .int yv), (4, .int yr)]) (st' := [.ref 69]) (by rfl) ?_
                      refine Pa.gfI (v := (yA.1 69 57) + 1) (by rfl) (by rfl) (.inl rfl) (by rfl) (by show (uI (uI (uI (uI yA 111 ((yA.1 69 57).toInt.toNat) yc) 112 ((yA.1 69 57).toInt.toNat) yv) 113 ((yA.1 69 57).toInt.toNat) yr) 69 57 ((yA.1 69 57) + 1)).1 69 57 = (yA.1 69 57) + 1; rw [uI_h]) ?_
                      refine Pa.ic (x := 1) (pc' := 110) (by rfl) (by rfl) (by decide) ?_
                      refine Pa.mp 1 (pc' := 111) (l' := [(0, .ref 69), (1, .int yc), (2, .int l), (3, .int yv), (4, .int yr)]) (st' := [.int (((yA.1 69 57) + 1) - 1)]) (by rfl) ?_
                      refine Pa.iret (by rfl) ?_
                      exact l9 h2 h4 h6 h8 h10 h12 h14 yh16 h18 h19 h21 h23 h24
                    · have h22 : (yA.1 69 57).toInt = 60 := h22
                      refine Pa.ic (x := (-2)) (pc' := 63) (by rfl) (by rfl) (by decide) ?_
                      refine Pa.iret (by rfl) ?_
                      exact l10 h2 h4 h6 h8 h10 h12 h14 yh16 h18 h19 h22
                  · have h20 : (yA.1 110 yc.toInt.toNat).toInt ≠ 0 := h20
                    refine Pa.ic (x := (-3)) (pc' := 51) (by rfl) (by rfl) (by decide) ?_
                    refine Pa.iret (by rfl) ?_
                    exact l11 h2 h4 h6 h8 h10 h12 h14 yh16 h18 h20

theorem d_lon (N : Nat) (yA : AW) (yc l yv yr : Int32) : Pa N 126 0 [(0, .ref 0), (1, .int yc), (2, .int l), (3, .int yv), (4, .int yr)] [] yA (dLn yc l yv yr yA) := by
  have no : ¬ okLn (yA.1 47 16) yc l yv yr → dLn yc l yv yr yA (some (.int (-1))) yA := fun yh => .inl ⟨yh, rfl, rfl⟩
  refine bx_lon yc l yv yr ?_ ?_ ?_ ?_ ?_ ?_ ?_ ?_ ?_ ?_ ?_
  · exact fun _ => no (fun yz => by unfold okLn at yz; omega)
  · exact fun _ _ => no (fun yz => by unfold okLn at yz; omega)
  · exact fun _ _ _ => no (fun yz => by unfold okLn at yz; omega)
  · exact fun _ _ _ _ => no (fun yz => by unfold okLn at yz; omega)
  · exact fun _ _ _ _ _ => no (fun yz => by unfold okLn at yz; omega)
  · exact fun _ _ _ _ _ _ => no (fun yz => by unfold okLn at yz; omega)
  · exact fun _ _ _ _ _ _ _ => no (fun yz => by unfold okLn at yz; omega)
  · exact fun _ _ _ _ _ _ _ _ => no (fun yz => by unfold okLn at yz; omega)
  · exact fun y1 y2 y3 y4 y5 y6 y7 y8 y9 ya yb yc => .inr ⟨⟨y1, y2, y3, y4, y5, y6, y7, y8⟩, .inr (.inr ⟨ya, yb, yc, rfl, rfl⟩)⟩
  · exact fun y1 y2 y3 y4 y5 y6 y7 y8 y9 ya yb => .inr ⟨⟨y1, y2, y3, y4, y5, y6, y7, y8⟩, .inr (.inl ⟨ya, yb, rfl, rfl⟩)⟩
  · exact fun y1 y2 y3 y4 y5 y6 y7 y8 y9 ya => .inr ⟨⟨y1, y2, y3, y4, y5, y6, y7, y8⟩, .inl ⟨ya, rfl, rfl⟩⟩
theorem e_lon (N : Nat) (yA : AW) (yc l yv yr : Int32) : Pa N 228 0 [(0, .ref 69), (1, .int yc), (2, .int l), (3, .int yv), (4, .int yr)] [] yA (eLn yc l yv yr yA) := by
  have no : ¬ okLn (yA.1 69 52) yc l yv yr → eLn yc l yv yr yA (some (.int (-1))) yA := fun yh => .inl ⟨yh, rfl, rfl⟩
  refine bm_lon yc l yv yr ?_ ?_ ?_ ?_ ?_ ?_ ?_ ?_ ?_ ?_ ?_
  · exact fun _ => no (fun yz => by unfold okLn at yz; omega)
  · exact fun _ _ => no (fun yz => by unfold okLn at yz; omega)
  · exact fun _ _ _ => no (fun yz => by unfold okLn at yz; omega)
  · exact fun _ _ _ _ => no (fun yz => by unfold okLn at yz; omega)
  · exact fun _ _ _ _ _ => no (fun yz => by unfold okLn at yz; omega)
  · exact fun _ _ _ _ _ _ => no (fun yz => by unfold okLn at yz; omega)
  · exact fun _ _ _ _ _ _ _ => no (fun yz => by unfold okLn at yz; omega)
  · exact fun _ _ _ _ _ _ _ _ => no (fun yz => by unfold okLn at yz; omega)
  · exact fun y1 y2 y3 y4 y5 y6 y7 y8 y9 ya yb yc yd => .inr ⟨⟨y1, y2, y3, y4, y5, y6, y7, y8⟩, .inr (.inr ⟨ya, yd, yc, rfl, rfl⟩)⟩
  · exact fun y1 y2 y3 y4 y5 y6 y7 y8 y9 ya yb => .inr ⟨⟨y1, y2, y3, y4, y5, y6, y7, y8⟩, .inr (.inl ⟨ya, yb, rfl, rfl⟩)⟩
  · exact fun y1 y2 y3 y4 y5 y6 y7 y8 y9 ya => .inr ⟨⟨y1, y2, y3, y4, y5, y6, y7, y8⟩, .inl ⟨ya, rfl, rfl⟩⟩
def Fln : zRF := [((47, 16), (69, 52)), ((47, 17), (69, 57))]
def Aln : zRA := [(56, 111), (57, 112), (58, 113)]
theorem k_lon {yA A1 A2 : AW} {yc l yv yr yx yy : Int32} (hA : okA yA) (hF : eqF Fln yA) (hR : eqRs Aln yA) (hX : Rpy yA) (ys1 : dLn yc l yv yr yA (some (.int yx)) A1) (ys2 : eLn yc l yv yr A1 (some (.int yy)) A2) : eqF Fln A2 ∧ eqRs Aln A2 ∧ Rpy A2 ∧ yx = yy := by
  have yf2 : yA.1 47 16 = yA.1 69 52 := hF ((47, 16), (69, 52)) (by simp [Fln])
  have yf3 : yA.1 47 17 = yA.1 69 57 := hF ((47, 17), (69, 57)) (by simp [Fln])
  have gT := hA.fld (i := 69) (k := 52) (lo := 0) (hi := 60) (by decide +kernel)
  have gN := hA.fld (i := 69) (k := 57) (lo := 0) (hi := 60) (by decide +kernel)
  unfold dLn at ys1
  rw [yf2, yf3] at ys1
  have e53 : okLn (yA.1 69 52) yc l yv yr → yA.1 53 yc.toInt.toNat = yA.1 110 yc.toInt.toNat := fun yh => hX.2.1 _ (by have := yh.1; have := yh.2.1; omega)
  rcases ys1 with ⟨ya1, a2, rfl⟩ | ⟨ya1, ⟨a2, a3, rfl⟩ | ⟨a2, a3, a4, rfl⟩ | ⟨a2, a3, a4, a5, a6⟩⟩
  · rcases ys2 with ⟨b1, b2, rfl⟩ | ⟨b1, -⟩
    · exact ⟨hF, hR, hX, by rw [some_int a2, some_int b2]⟩
    · exact absurd b1 ya1
  · rw [e53 ya1] at a2
    rcases ys2 with ⟨b1, b2, rfl⟩ | ⟨b1, ⟨b2, b3, rfl⟩ | ⟨b2, b3, b4, rfl⟩ | ⟨b2, b3, b4, b5, b6⟩⟩
    · exact absurd ya1 b1
    · exact ⟨hF, hR, hX, by rw [some_int a3, some_int b3]⟩
    · exact absurd b2 a2
    · exact absurd b2 a2
  · rw [e53 ya1] at a2
    rcases ys2 with ⟨b1, b2, rfl⟩ | ⟨b1, ⟨b2, b3, rfl⟩ | ⟨b2, b3, b4, rfl⟩ | ⟨b2, b3, b4, b5, b6⟩⟩
    · exact absurd ya1 b1
    · exact absurd a2 b2
    · exact ⟨hF, hR, hX, by rw [some_int a4, some_int b4]⟩
    · omega
  · rw [e53 ya1] at a2
    obtain ⟨yt, ht⟩ : ∃ yt, (yA.1 69 57).toInt.toNat = yt := ⟨_, rfl⟩
    rw [ht] at a6
    have ylow : ∀ yd yj, yd ≠ 47 → yd ≠ 56 → yd ≠ 57 → yd ≠ 58 → A1.1 yd yj = yA.1 yd yj := fun yd yj yq1 yq2 yq3 yq4 => by
      rw [a6, uI_c yq1, uI_c yq4, uI_c yq3, uI_c yq2]
    have e52 : A1.1 69 52 = yA.1 69 52 := ylow 69 52 (by decide) (by decide) (by decide) (by decide)
    have e57 : A1.1 69 57 = yA.1 69 57 := ylow 69 57 (by decide) (by decide) (by decide) (by decide)
    have e110 : ∀ yj, A1.1 110 yj = yA.1 110 yj := fun yj => ylow 110 yj (by decide) (by decide) (by decide) (by decide)
    unfold eLn at ys2
    rw [e52, e57, e110, ht] at ys2
    rcases ys2 with ⟨b1, -⟩ | ⟨b1, ⟨b2, -⟩ | ⟨b2, b3, -⟩ | ⟨b2, b3, b4, b5, b6⟩⟩
    · exact absurd ya1 b1
    · exact absurd a2 b2
    · omega
    · have lo2 : ∀ yd yj, yd ≠ 47 → yd ≠ 56 → yd ≠ 57 → yd ≠ 58 → yd ≠ 69 → yd ≠ 111 → yd ≠ 112 → yd ≠ 113 → A2.1 yd yj = yA.1 yd yj := fun yd yj yq1 yq2 yq3 yq4 yq5 yq6 yq7 yq8 => by
        rw [b6, uI_c yq5, uI_c yq8, uI_c yq7, uI_c yq6, ylow yd yj yq1 yq2 yq3 yq4]
      have hT1 : (yA.1 69 57 + 1).toInt = (yA.1 69 57).toInt + 1 := i32_add1 (by omega)
      have r57 : A2.1 69 57 = yA.1 69 57 + 1 := by rw [b6, uI_h]
      have r112 : ∀ yj, A2.1 112 yj = if yj = yt then yv else yA.1 112 yj := fun yj => by
        rw [b6, uI_c (by decide), uI_c (by decide), uI_row, uI_c (by decide), ylow 112 yj (by decide) (by decide) (by decide) (by decide)]
      have l : ∀ yd, yd = 52 ∨ yd = 109 ∨ yd = 53 ∨ yd = 110 ∨ yd = 59 ∨ yd = 114 ∨ yd = 3 ∨ yd = 74 → ∀ yj, A2.1 yd yj = yA.1 yd yj := fun yd yhd yj => lo2 yd yj (by omega) (by omega) (by omega) (by omega) (by omega) (by omega) (by omega) (by omega)
      obtain ⟨yx1, yx2, x3, yx4, yx5, x6⟩ := hX
      refine ⟨?_, ?_, ⟨fun yj hj => ?_, fun yj hj => ?_, fun yj hj => ?_, fun yj hj => ?_, fun yi yhi => ?_, fun yi yhi hi2 => ?_⟩, by rw [some_int a5, some_int b5]⟩
      · intro yq hqq
        simp only [Fln, List.mem_cons, List.not_mem_nil, or_false] at hqq
        rcases hqq with rfl | rfl
        · show A2.1 47 16 = A2.1 69 52
          rw [b6, uI_c (by decide), uI_c (by decide), uI_c (by decide), uI_c (by decide), uI_k (by decide), uI_c (by decide), uI_c (by decide), uI_c (by decide), e52, a6, uI_k (by decide), uI_c (by decide), uI_c (by decide), uI_c (by decide), yf2]
        · show A2.1 47 17 = A2.1 69 57
          rw [r57, b6, uI_c (by decide), uI_c (by decide), uI_c (by decide), uI_c (by decide), a6, uI_h]
      · intro yq hqq ym yhm yj hj
        have hq0 := hR yq hqq ym yhm yj hj
        simp only [Aln, List.mem_cons, List.not_mem_nil, or_false] at hqq
        rcases hqq with rfl | rfl | rfl
        · show A2.1 56 yj = A2.1 111 yj
          rw [b6, uI_c (by decide), uI_c (by decide), uI_c (by decide), uI_c (by decide), uI_c (by decide), uI_c (by decide), uI_c (by decide), uI_row, ylow 111 yj (by decide) (by decide) (by decide) (by decide), a6, uI_c (by decide), uI_c (by decide), uI_c (by decide), uI_row]
          by_cases ye : yj = yt
          · rw [if_pos ye, if_pos ye]
          · rw [if_neg ye, if_neg ye]
            exact hq0
        · show A2.1 57 yj = A2.1 112 yj
          rw [r112, b6, uI_c (by decide), uI_c (by decide), uI_c (by decide), uI_c (by decide), a6, uI_c (by decide), uI_c (by decide), uI_row, uI_c (by decide)]
          by_cases ye : yj = yt
          · rw [if_pos ye, if_pos ye]
          · rw [if_neg ye, if_neg ye]
            exact hq0
        · show A2.1 58 yj = A2.1 113 yj
          rw [b6, uI_c (by decide), uI_c (by decide), uI_c (by decide), uI_c (by decide), uI_c (by decide), uI_row, uI_c (by decide), uI_c (by decide), ylow 113 yj (by decide) (by decide) (by decide) (by decide), a6, uI_c (by decide), uI_row, uI_c (by decide), uI_c (by decide)]
          by_cases ye : yj = yt
          · rw [if_pos ye, if_pos ye]
          · rw [if_neg ye, if_neg ye]
            exact hq0
      · rw [l 52 (by omega), l 109 (by omega)]
        exact yx1 yj hj
      · rw [l 53 (by omega), l 110 (by omega)]
        exact yx2 yj hj
      · rw [l 59 (by omega), l 114 (by omega)]
        exact x3 yj hj
      · rw [l 3 (by omega), l 74 (by omega)]
        exact yx4 yj hj
      · rw [r57, hT1] at yhi
        rw [l 114 (by omega), r112]
        by_cases ye : yi = yt
        · have yz := x6 yi (by omega) (by omega)
          rw [if_pos ye, yz]
          have z0 : (0 : Int32).toInt = 0 := by decide
          have := ya1.2.2.2.2.1
          have := ya1.2.2.2.2.2.1
          omega
        · rw [if_neg ye]
          exact yx5 yi (by omega)
      · rw [r57, hT1] at hi2
        rw [l 114 (by omega)]
        exact x6 yi yhi (by omega)
theorem h_lon {yp : zPr} (hp : yp.1 = 126 ∧ yp.2.1 = 228 ∧ yp.2.2.1 = 4) (yhc : c_rm yp = true) : PairOK (RR Fln Aln Rpy) yp := by
  obtain ⟨yp1, yp2, yp3⟩ := hp
  refine pairK (D := on4 dLn) (E := on4 eLn) (by decide +kernel) (by decide +kernel) yhc (fun N yA yas _ hl => ?_) (fun N yA yas _ hl => ?_) (fun yA A1 A2 yas yx yy o1 _ _ hF hR hX hl ys1 ys2 => ?_)
  · rw [yp3] at hl
    obtain ⟨ya, yb, yc, yd, rfl⟩ := as4 hl
    rw [yp1]
    exact d_lon N yA ya yb yc yd
  · rw [yp3] at hl
    obtain ⟨ya, yb, yc, yd, rfl⟩ := as4 hl
    rw [yp2]
    exact e_lon N yA ya yb yc yd
  · rw [yp3] at hl
    obtain ⟨ya, yb, yc, yd, rfl⟩ := as4 hl
    obtain ⟨yr1, r2, r3, r4⟩ := k_lon (yc := ya) (l := yb) (yv := yc) (yr := yd) o1 hF hR hX ys1 ys2
    exact ⟨yr1, r2, r3, fun _ => r4⟩
/-! advance, settle -/
def Fy : zRF := Fq ++ [((47, 17), (69, 57))]
def Ay : zRA := Aq ++ [(56, 111), (57, 112), (58, 113)]
def Iy : List Nat := [0, 1, 2, 3, 4, 5, 6, 7, 8, 9, 10, 11, 12]
def Iz : List Nat := [0, 1, 2, 3, 4, 5, 6, 7, 8, 9, 11, 12]
theorem Rpx_of {yA : AW} (hA : okA yA) (hF : eqF Fy yA) (hR : eqRs Ay yA) (hX : RXL Iz yA) (h10 : Rpy yA) : Rpx yA := by
  have yq : Rqx yA := Rqx_of hA (fun yp hp => hF yp (List.mem_append_left _ hp)) (fun yp hp => hR yp (List.mem_append_left _ hp)) (fun yi yhi => hX yi (fsub_ok (yF := Iz) (F' := Iq) (by decide) yhi))
  have yr : ∀ ya yb yn, (decide ((ya, yb) ∈ Ay)) = true → z_aP (ya, yb) = some yn → ∀ yj, yj < yn → yA.1 ya yj = yA.1 yb yj := fun ya yb yn yh h2 yj hj => hR (ya, yb) (of_decide_eq_true yh) yn h2 yj hj
  have yf : ∀ ya yb, (decide ((ya, yb) ∈ Fy)) = true → yA.1 ya.1 ya.2 = yA.1 yb.1 yb.2 := fun ya yb yh => hF (ya, yb) (of_decide_eq_true yh)
  exact ⟨yq, hX 9 (by decide), hX 12 (by decide), h10, hX 11 (by decide), yf (47, 17) (69, 57) (by decide +kernel), yr 56 111 60 (by decide +kernel) (by decide +kernel), yr 57 112 60 (by decide +kernel) (by decide +kernel), yr 58 113 60 (by decide +kernel) (by decide +kernel)⟩
theorem py_fin {yA A1 A2 : AW} {r52 r53 r59 r3 r109 r110 r114 r74 : Nat → Int32} (h1 : afX yA r52 r53 r59 r3 A1) (h2 : afM A1 yA r109 r110 r114 r74 A2) (ye1 : ∀ yj, yj < 60 → r52 yj = r109 yj) (ye2 : ∀ yj, yj < 60 → r53 yj = r110 yj) (ye3 : ∀ yj, yj < 60 → r59 yj = r114 yj) (ye4 : ∀ yj, yj < 20 → r3 yj = r74 yj) (g60 : lnT yA ≤ 60) (yg : gdG yA r114) (yz : ∀ yi, yi < 60 → lnT yA ≤ yi → r114 yi = 0) : Rpy A2 := by
  obtain ⟨yx1, yx2, x3, yx4, yx5, x6⟩ := h1
  obtain ⟨ym1, ym2, ym3, ym4, ym5, ym6, ym7⟩ := h2
  refine ⟨fun yj hj => ?_, fun yj hj => ?_, fun yj hj => ?_, fun yj hj => ?_, fun yi yhi => ?_, fun yi yhi hi2 => ?_⟩
  · rw [ym1 52 yj (by omega), x3, ym4]
    exact ye1 yj hj
  · rw [ym1 53 yj (by omega), yx4, ym5]
    exact ye2 yj hj
  · rw [ym1 59 yj (by omega), yx5 yj hj, ym6 yj hj]
    exact ye3 yj hj
  · rw [ym1 3 yj (by omega), x6, ym7]
    exact ye4 yj hj
  · rw [ym3] at yhi
    have hi' : yi < lnT yA := yhi
    rw [ym6 yi (by omega), ym2]
    exact yg yi hi'
  · rw [ym3] at hi2
    rw [ym6 yi yhi]
    exact yz yi yhi hi2
theorem hp_eq {yA : AW} (yg : Rpx yA) {yc : Nat} {yt : Int32} {yj : Nat} (hj : yj < 20) : hpR yA yc yt (yA.1 3) yj = hpR yA yc yt (yA.1 74) yj := by
  unfold hpR
  rw [yg.py.2.2.2.1 yj hj]
theorem lp_gd {yA : AW} (yg : Rpx yA) (yc : Nat) {yt : Int32} (ht : 0 ≤ yt.toInt) : gdG yA (lpR yA yc yt) := (py_good yg.gd yg.n60 ht (yc := Int32.ofNat yc) (yk := 3)).1
theorem lp_0 {yA : AW} (yg : Rpx yA) (yc : Nat) {yt : Int32} (ht : 0 ≤ yt.toInt) {yi : Nat} (h6 : yi < 60) (yhi : lnT yA ≤ yi) : lpR yA yc yt yi = 0 := (py_hi yg.gd yg.n60 ht yhi (yc := Int32.ofNat yc) (yk := 3)).trans (yg.py.2.2.2.2.2 yi h6 yhi)
theorem Pok_z {yp : zPr} (yh : PairOK (RR Fy Ay (fun yA => RXL Iz yA ∧ Rpy yA)) yp) : PairOK (RR Fy Ay (RXL Iy)) yp := yh.cong (fun yw => ⟨fun yq => ⟨yq.1, fun yi yhi => by
    by_cases ye : yi = 10
    · rw [ye]
      exact yq.2.2
    · refine yq.2.1 yi ?_
      simp only [Iy, Iz, List.mem_cons, List.not_mem_nil, or_false] at yhi ⊢
      omega⟩, fun yq => ⟨yq.1, fun yi yhi => yq.2 yi (fsub_ok (yF := Iy) (F' := Iz) (by decide) yhi), yq.2 10 (by decide)⟩⟩)
/-- ya ypair with ya relation that is written, known to yboth runs yas yfar yas it holds -/
theorem pairH {yp : zPr} {yF : zRF} {Ar : zRA} {RX R2 : AW → Prop} {kR : zWr → Bool} {yD yE : List Int32 → AW → Option Value → AW → Prop} (hF : okFs yF = true) (hA : okRs Ar = true) (yhc : c_rm yp = true) (hs : Keeps RX kR) (yq1 : (ri_wr zZ yF Ar (c_get1 yp.1 0 yp.2.2.1).2.2.2 && kR (c_get1 yp.1 0 yp.2.2.1).2.2.2) = true) (yq2 : (ri_wr zZ yF Ar (c_get1 yp.2.1 69 yp.2.2.1).2.2.2 && kR (c_get1 yp.2.1 69 yp.2.2.1).2.2.2) = true)
    (hX : ∀ (N : Nat) (yA : AW) (yas : List Int32), okA yA → eqF yF yA → eqRs Ar yA → RX yA → R2 yA → yas.length = yp.2.2.1 → Pa N yp.1 0 (lv_args 0 (.ref 0 :: yas.map Value.int)) [] yA (yD yas yA))
    (yhM : ∀ (N : Nat) (yA A1 : AW) (yas : List Int32) (yx : Int32), okA yA → eqF yF yA → eqRs Ar yA → RX yA → R2 yA → okA A1 → yas.length = yp.2.2.1 → yD yas yA (some (.int yx)) A1 → Pa N yp.2.1 0 (lv_args 0 (.ref 69 :: yas.map Value.int)) [] A1 (yE yas yA))
    (yhK : ∀ (yA A1 A2 : AW) (yas : List Int32) (yx yy : Int32), okA yA → eqF yF yA → eqRs Ar yA → RX yA → R2 yA → yas.length = yp.2.2.1 → yD yas yA (some (.int yx)) A1 → yE yas yA (some (.int yy)) A2 → R2 A2 ∧ (yp.2.2.2.1 = true → yx = yy)) : PairOK (RR yF Ar (fun yA => RX yA ∧ R2 yA)) yp := by
  intro yL xs yd yhd yw yas hW hk hR hl
  unfold c_rm at yhc
  rw [Bool.and_eq_true, Bool.and_eq_true, Bool.and_eq_true] at yhc
  have yb := l_cl (L := yL) (xs := xs) (c_is_ok yhc.1.1) hW hk hl yhd
  have hR0 : RR yF Ar RX yw := ⟨hR.1, hR.2.1⟩
  have hq := (RI_ofA hW hF hA).mp hR0.1
  refine (yb.pa (fun N => hX N (aw yw) yas ⟨yw, hW, rfl⟩ hq.1 hq.2 hR0.2 hR.2.2 hl) (SH_of hW)).mono (fun yv yw1 hv => ?_)
  obtain ⟨⟨yx, rfl, ye2, ye3, ye4, ye5, ye6, ye7, e8⟩, ys1⟩ := hv
  refine ⟨ye4, ?_⟩
  have hR1 : RR yF Ar RX yw1 := kpRR hs _ yw yw1 hW hR0 ye4 e8 yq1
  have b2 := l_cl (L := yL) (xs := xs) (c_is_ok yhc.1.2) ye4 ye5 hl yhd
  refine (b2.pa (fun N => yhM N (aw yw) (aw yw1) yas yx ⟨yw, hW, rfl⟩ hq.1 hq.2 hR0.2 hR.2.2 ⟨yw1, ye4, rfl⟩ hl ys1) (SH_of ye4)).mono (fun v2 yw2 hv2 => ?_)
  obtain ⟨⟨yy, rfl, yf2, yf3, yf4, yf5, yf6, yf7, yf8⟩, ys2⟩ := hv2
  have hR2 : RR yF Ar RX yw2 := kpRR hs _ yw1 yw2 ye4 hR1 yf4 yf8 yq2
  have yha := Nat.le_of_ble_eq_true yhc.2.1
  have yhb := Nat.le_of_ble_eq_true yhc.2.2
  obtain ⟨g1, g2⟩ := yhK (aw yw) (aw yw1) (aw yw2) yas yx yy ⟨yw, hW, rfl⟩ hq.1 hq.2 hR0.2 hR.2.2 hl ys1 ys2
  exact ⟨⟨yx, yy, rfl, rfl, g2⟩, yf4, yf5, ⟨hR2.1, hR2.2, g1⟩, by omega, by omega⟩
def eAw (yc : Int32) (yA yW : AW) (yu : Option Value) (yB : AW) : Prop := (¬ okAv yA yc ∧ yu = some (.int (-1)) ∧ yB = yW) ∨ (okAv yA yc ∧ avS yA yc.toInt.toNat ∧ yu = some (.int (-3)) ∧ yB = yW) ∨ (okAv yA yc ∧ ¬ avS yA yc.toInt.toNat ∧ yu = some (.int (hfV yA yc.toInt.toNat)) ∧ afM yW yA (avR yA yc.toInt.toNat (yA.1 109)) (yA.1 110) (lpR yA yc.toInt.toNat (hfV yA yc.toInt.toNat)) (hpR yA yc.toInt.toNat (hfV yA yc.toInt.toNat) (yA.1 74)) yB)
def eSw (yc : Int32) (yA yW : AW) (yu : Option Value) (yB : AW) : Prop := (¬ okAv yA yc ∧ yu = some (.int (-1)) ∧ yB = yW) ∨ (okAv yA yc ∧ stS yA yc.toInt.toNat ∧ yu = some (.int (-3)) ∧ yB = yW) ∨ (okAv yA yc ∧ ¬ stS yA yc.toInt.toNat ∧ yu = some (.int (stV yA yc.toInt.toNat)) ∧ afM yW yA (yA.1 109) (seR yc.toInt.toNat (yA.1 110)) (lqR yA yc.toInt.toNat (stV yA yc.toInt.toNat)) (hqR yA yc.toInt.toNat (stV yA yc.toInt.toNat) (yA.1 74)) yB)
theorem dAv_sm {yA A1 : AW} {yc : Int32} {yu : Option Value} (yh : dAv yc yA yu A1) : smM A1 yA A1 := by
  rcases yh with ⟨_, _, rfl⟩ | ⟨_, _, _, rfl⟩ | ⟨_, _, _, yh⟩
  · exact smM_refl _
  · exact smM_refl _
  · exact afX_sm yh
theorem dSt_sm {yA A1 : AW} {yc : Int32} {yu : Option Value} (yh : dSt yc yA yu A1) : smM A1 yA A1 := by
  rcases yh with ⟨_, _, rfl⟩ | ⟨_, _, _, rfl⟩ | ⟨_, _, _, yh⟩
  · exact smM_refl _
  · exact smM_refl _
  · exact afX_sm yh
/-- yboth runs, yas one -/
def eAd (yc : Int32) (yA : AW) (yu : Option Value) (yB : AW) : Prop := ∃ yx A1, dAv yc yA (some (.int yx)) A1 ∧ eAw yc yA A1 yu yB
def eSd (yc : Int32) (yA : AW) (yu : Option Value) (yB : AW) : Prop := ∃ yx A1, dSt yc yA (some (.int yx)) A1 ∧ eSw yc yA A1 yu yB
theorem k_adv {yA A2 : AW} {yc yy : Int32} (yg : Rpx yA) (yh : eAd yc yA (some (.int yy)) A2) : Rpy A2 ∧ ∀ yx A1, dAv yc yA (some (.int yx)) A1 → yx = yy := by
  obtain ⟨yx0, A1, ys1, ys2⟩ := yh
  refine ⟨?_, fun yx A3 ys3 => ?_⟩
  · rcases ys1 with ⟨ya1, a2, rfl⟩ | ⟨ya1, a2, a3, rfl⟩ | ⟨ya1, a2, a3, a4⟩
    · rcases ys2 with ⟨b1, b2, rfl⟩ | ⟨b1, b2, b3, rfl⟩ | ⟨b1, b2, b3, b4⟩
      · exact yg.py
      · exact yg.py
      · exact absurd b1 ya1
    · rcases ys2 with ⟨b1, b2, rfl⟩ | ⟨b1, b2, b3, rfl⟩ | ⟨b1, b2, b3, b4⟩
      · exact yg.py
      · exact yg.py
      · exact absurd a2 b2
    · rcases ys2 with ⟨b1, b2, rfl⟩ | ⟨b1, b2, b3, rfl⟩ | ⟨b1, b2, b3, b4⟩
      · exact absurd ya1 b1
      · exact absurd b2 a2
      · have yt0 := hf_0 yg yc.toInt.toNat
        exact py_fin a4 b4 (fun yj hj => by
          unfold avR
          rw [yg.py.1 yj hj]) (fun yj hj => yg.py.2.1 yj hj) (fun yj _ => rfl) (fun yj hj => hp_eq yg hj) yg.n60 (lp_gd yg _ yt0) (fun yi h6 yhi => lp_0 yg _ yt0 h6 yhi)
  · rcases ys3 with ⟨ya1, a2, rfl⟩ | ⟨ya1, a2, a3, rfl⟩ | ⟨ya1, a2, a3, a4⟩
    · rcases ys2 with ⟨b1, b2, -⟩ | ⟨b1, b2, b3, -⟩ | ⟨b1, b2, b3, b4⟩
      · rw [some_int a2, some_int b2]
      · exact absurd b1 ya1
      · exact absurd b1 ya1
    · rcases ys2 with ⟨b1, b2, -⟩ | ⟨b1, b2, b3, -⟩ | ⟨b1, b2, b3, b4⟩
      · exact absurd ya1 b1
      · rw [some_int a3, some_int b3]
      · exact absurd a2 b2
    · rcases ys2 with ⟨b1, b2, -⟩ | ⟨b1, b2, b3, -⟩ | ⟨b1, b2, b3, b4⟩
      · exact absurd ya1 b1
      · exact absurd b2 a2
      · rw [some_int a3, some_int b3]
theorem k_set {yA A2 : AW} {yc yy : Int32} (yg : Rpx yA) (yh : eSd yc yA (some (.int yy)) A2) : Rpy A2 ∧ ∀ yx A1, dSt yc yA (some (.int yx)) A1 → yx = yy := by
  obtain ⟨yx0, A1, ys1, ys2⟩ := yh
  refine ⟨?_, fun yx A3 ys3 => ?_⟩
  · rcases ys1 with ⟨ya1, a2, rfl⟩ | ⟨ya1, a2, a3, rfl⟩ | ⟨ya1, a2, a3, a4⟩
    · rcases ys2 with ⟨b1, b2, rfl⟩ | ⟨b1, b2, b3, rfl⟩ | ⟨b1, b2, b3, b4⟩
      · exact yg.py
      · exact yg.py
      · exact absurd b1 ya1
    · rcases ys2 with ⟨b1, b2, rfl⟩ | ⟨b1, b2, b3, rfl⟩ | ⟨b1, b2, b3, b4⟩
      · exact yg.py
      · exact yg.py
      · exact absurd a2 b2
    · rcases ys2 with ⟨b1, b2, rfl⟩ | ⟨b1, b2, b3, rfl⟩ | ⟨b1, b2, b3, b4⟩
      · exact absurd ya1 b1
      · exact absurd b2 a2
      · by_cases yt0 : (stV yA yc.toInt.toNat).toInt ≤ 0
        · have el : lqR yA yc.toInt.toNat (stV yA yc.toInt.toNat) = yA.1 114 := funext fun yj => if_pos yt0
          rw [el] at a4 b4
          exact py_fin a4 b4 (fun yj hj => yg.py.1 yj hj) (fun yj hj => by
            unfold seR
            rw [yg.py.2.1 yj hj]) (fun yj _ => rfl) (fun yj hj => by
            unfold hqR
            rw [if_pos yt0, if_pos yt0]
            exact yg.py.2.2.2.1 yj hj) yg.n60 yg.gd (fun yi h6 yhi => yg.py.2.2.2.2.2 yi h6 yhi)
        · have el : lqR yA yc.toInt.toNat (stV yA yc.toInt.toNat) = lpR yA yc.toInt.toNat (stV yA yc.toInt.toNat) := funext fun yj => if_neg yt0
          rw [el] at a4 b4
          have yt1 : 0 ≤ (stV yA yc.toInt.toNat).toInt := by omega
          exact py_fin a4 b4 (fun yj hj => yg.py.1 yj hj) (fun yj hj => by
            unfold seR
            rw [yg.py.2.1 yj hj]) (fun yj _ => rfl) (fun yj hj => by
            unfold hqR
            rw [if_neg yt0, if_neg yt0]
            exact hp_eq yg hj) yg.n60 (lp_gd yg _ yt1) (fun yi h6 yhi => lp_0 yg _ yt1 h6 yhi)
  · rcases ys3 with ⟨ya1, a2, rfl⟩ | ⟨ya1, a2, a3, rfl⟩ | ⟨ya1, a2, a3, a4⟩
    · rcases ys2 with ⟨b1, b2, -⟩ | ⟨b1, b2, b3, -⟩ | ⟨b1, b2, b3, b4⟩
      · rw [some_int a2, some_int b2]
      · exact absurd b1 ya1
      · exact absurd b1 ya1
    · rcases ys2 with ⟨b1, b2, -⟩ | ⟨b1, b2, b3, -⟩ | ⟨b1, b2, b3, b4⟩
      · exact absurd ya1 b1
      · rw [some_int a3, some_int b3]
      · exact absurd a2 b2
    · rcases ys2 with ⟨b1, b2, -⟩ | ⟨b1, b2, b3, -⟩ | ⟨b1, b2, b3, b4⟩
      · exact absurd ya1 b1
      · exact absurd b2 a2
      · rw [some_int a3, some_int b3]
theorem h_adv {yp : zPr} (hp : yp.1 = 127 ∧ yp.2.1 = 231 ∧ yp.2.2.1 = 1) (yhc : c_rm yp = true) (yq1 : (ri_wr zZ Fy Ay (wX yp) && kXL Iz (wX yp)) = true) (yq2 : (ri_wr zZ Fy Ay (wM yp) && kXL Iz (wM yp)) = true) : PairOK (RR Fy Ay (RXL Iy)) yp := by
  obtain ⟨yp1, yp2, yp3⟩ := hp
  refine Pok_z (pairH (yD := on1 dAv) (yE := on1 eAd) (by decide +kernel) (by decide +kernel) yhc (keepXL Iz) yq1 yq2 (fun N yA yas o hF hR hX h10 hl => ?_) (fun N yA A1 yas yx o hF hR hX h10 _ hl ys1 => ?_) (fun yA A1 A2 yas yx yy o hF hR hX h10 hl ys1 ys2 => ?_))
  · rw [yp3] at hl
    obtain ⟨yc, rfl⟩ := as1 hl
    rw [yp1]
    exact d_adv (Rpx_of o hF hR hX h10) N yc
  · rw [yp3] at hl
    obtain ⟨yc, rfl⟩ := as1 hl
    rw [yp2]
    have ys1 : dAv yc yA (some (.int yx)) A1 := ys1
    exact Pa.mono (e_adv0 (Rpx_of o hF hR hX h10) (dAv_sm ys1) N yc) (fun yu yB yh => ⟨yx, A1, ys1, yh⟩)
  · rw [yp3] at hl
    obtain ⟨yc, rfl⟩ := as1 hl
    have yk := k_adv (yc := yc) (Rpx_of o hF hR hX h10) ys2
    exact ⟨yk.1, fun _ => yk.2 yx A1 ys1⟩
theorem h_set {yp : zPr} (hp : yp.1 = 128 ∧ yp.2.1 = 232 ∧ yp.2.2.1 = 1) (yhc : c_rm yp = true) (yq1 : (ri_wr zZ Fy Ay (wX yp) && kXL Iz (wX yp)) = true) (yq2 : (ri_wr zZ Fy Ay (wM yp) && kXL Iz (wM yp)) = true) : PairOK (RR Fy Ay (RXL Iy)) yp := by
  obtain ⟨yp1, yp2, yp3⟩ := hp
  refine Pok_z (pairH (yD := on1 dSt) (yE := on1 eSd) (by decide +kernel) (by decide +kernel) yhc (keepXL Iz) yq1 yq2 (fun N yA yas o hF hR hX h10 hl => ?_) (fun N yA A1 yas yx o hF hR hX h10 _ hl ys1 => ?_) (fun yA A1 A2 yas yx yy o hF hR hX h10 hl ys1 ys2 => ?_))
  · rw [yp3] at hl
    obtain ⟨yc, rfl⟩ := as1 hl
    rw [yp1]
    exact d_set (Rpx_of o hF hR hX h10) N yc
  · rw [yp3] at hl
    obtain ⟨yc, rfl⟩ := as1 hl
    rw [yp2]
    have ys1 : dSt yc yA (some (.int yx)) A1 := ys1
    exact Pa.mono (e_set0 (Rpx_of o hF hR hX h10) (dSt_sm ys1) N yc) (fun yu yB yh => ⟨yx, A1, ys1, yh⟩)
  · rw [yp3] at hl
    obtain ⟨yc, rfl⟩ := as1 hl
    have yk := k_set (yc := yc) (Rpx_of o hF hR hX h10) ys2
    exact ⟨yk.1, fun _ => yk.2 yx A1 ys1⟩
