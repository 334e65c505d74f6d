/-! POINTS: the sums of the two -/
def ptFX (A : AW) (f l k : Int32) (j : Nat) : Int32 := if (A.1 8 j).toInt = f.toInt ∧ (A.1 9 j).toInt = l.toInt ∧ (A.1 11 j).toInt ≤ k.toInt then A.1 10 j else 0
def ptsX (A : AW) (f l k : Int32) : Int32 := sumN (ptFX A f l k) (A.1 5 7).toInt.toNat
def ptFM (A : AW) (f l k : Int32) (j : Nat) : Int32 := if (A.1 84 j).toInt = f.toInt ∧ (A.1 85 j).toInt = l.toInt ∧ 0 ≤ (A.1 87 j).toInt ∧ (A.1 87 j).toInt ≤ k.toInt then A.1 86 j else 0
def ptsM (A : AW) (f l k : Int32) : Int32 := sumN (ptFM A f l k) (A.1 69 24).toInt.toNat
theorem sumN_0 {f : Nat → Int32} {n : Nat} (h : f n = 0) : sumN f (n + 1) = sumN f n := by
  show sumN f n + f n = sumN f n
  rw [h, Int32.add_zero]
theorem sumN_s {f : Nat → Int32} {n : Nat} {x : Int32} (h : f n = x) : sumN f (n + 1) = sumN f n + x := by
  show sumN f n + f n = sumN f n + x
  rw [h]
theorem bx_pb0 {N : Nat} {A : AW} {Q : Option Value → AW → Prop} (f l k : Int32)
    (l1 : Pa N 46 6 [(0, .ref 5), (1, .int f), (2, .int l), (3, .int k), (4, .int 0), (5, .int 0)] [] A Q) :
    Pa N 46 0 [(0, .ref 5), (1, .int f), (2, .int l), (3, .int k)] [] A Q := by
  refine Pa.ic (x := 0) (pc' := 1) (by rfl) (by rfl) (by decide) ?_
  refine Pa.mp 1 (pc' := 3) (l' := [(4, .int 0), (0, .ref 5), (1, .int f), (2, .int l), (3, .int k)]) (st' := []) (by rfl) ?_
  refine Pa.ic (x := 0) (pc' := 4) (by rfl) (by rfl) (by decide) ?_
  refine Pa.mp 1 (pc' := 6) (l' := [(5, .int 0), (4, .int 0), (0, .ref 5), (1, .int f), (2, .int l), (3, .int k)]) (st' := []) (by rfl) ?_
  refine Pa.lv (l' := [(0, .ref 5), (1, .int f), (2, .int l), (3, .int k), (4, .int 0), (5, .int 0)]) (lvS_c rfl (lvS_c rfl (lvS_c rfl (lvS_c rfl (lvS_c rfl (lvS_c rfl (lvS_nil))))))) rfl ?_
  exact l1

theorem bx_pb {N : Nat} {A : AW} {Q : Option Value → AW → Prop} (f l k s i : Int32)
    (l1 : (A.1 5 7).toInt ≤ i.toInt → Q (some (.int s)) A)
    (l2 : i.toInt < (A.1 5 7).toInt → 0 ≤ i.toInt → i.toInt < 100 → (A.1 8 i.toInt.toNat).toInt ≠ f.toInt → Pa N 46 6 [(0, .ref 5), (1, .int f), (2, .int l), (3, .int k), (4, .int s), (5, .int (i + 1))] [] A Q)
    (l3 : i.toInt < (A.1 5 7).toInt → 0 ≤ i.toInt → i.toInt < 100 → (A.1 8 i.toInt.toNat).toInt = f.toInt → (A.1 9 i.toInt.toNat).toInt ≠ l.toInt → Pa N 46 6 [(0, .ref 5), (1, .int f), (2, .int l), (3, .int k), (4, .int s), (5, .int (i + 1))] [] A Q)
    (l4 : i.toInt < (A.1 5 7).toInt → 0 ≤ i.toInt → i.toInt < 100 → (A.1 8 i.toInt.toNat).toInt = f.toInt → (A.1 9 i.toInt.toNat).toInt = l.toInt → k.toInt < (A.1 11 i.toInt.toNat).toInt → Pa N 46 6 [(0, .ref 5), (1, .int f), (2, .int l), (3, .int k), (4, .int s), (5, .int (i + 1))] [] A Q)
    (l5 : i.toInt < (A.1 5 7).toInt → 0 ≤ i.toInt → i.toInt < 100 → (A.1 8 i.toInt.toNat).toInt = f.toInt → (A.1 9 i.toInt.toNat).toInt = l.toInt → (A.1 11 i.toInt.toNat).toInt ≤ k.toInt → Pa N 46 6 [(0, .ref 5), (1, .int f), (2, .int l), (3, .int k), (4, .int (s + (A.1 10 i.toInt.toNat))), (5, .int (i + 1))] [] A Q) :
    Pa (N + 1) 46 6 [(0, .ref 5), (1, .int f), (2, .int l), (3, .int k), (4, .int s), (5, .int i)] [] A Q := by
  refine Pa.mp1 1 (pc' := 9) (l' := [(0, .ref 5), (1, .int f), (2, .int l), (3, .int k), (4, .int s), (5, .int i)]) (st' := [.ref 5, .int i]) (by rfl) ?_
  refine Pa.gfI (v := A.1 5 7) (by rfl) (by rfl) (.inl rfl) (by rfl) (by rfl) ?_
  refine Pa.if2 (a := i.toInt) (b := (A.1 5 7).toInt) (t := 66) (by rfl) (by rfl) (rfl) (rfl) (fun h1 => ?_) (fun h2 => ?_)
  · skip
    refine Pa.mp 1 (pc' := 68) (l' := [(0, .ref 5), (1, .int f), (2, .int l), (3, .int k), (4, .int s), (5, .int i)]) (st' := [.int s]) (by rfl) ?_
    refine Pa.iret (by rfl) ?_
    exact l1 h1
  · skip
    refine Pa.mp 1 (pc' := 16) (l' := [(0, .ref 5), (1, .int f), (2, .int l), (3, .int k), (4, .int s), (5, .int i)]) (st' := [.ref 5]) (by rfl) ?_
    refine Pa.gfR (by rfl) (by rfl) (.inl rfl) (by rfl) ?_
    show Pa N 46 19 [(0, .ref 5), (1, .int f), (2, .int l), (3, .int k), (4, .int s), (5, .int i)] [.ref 8] A _
    refine Pa.mp 1 (pc' := 21) (l' := [(0, .ref 5), (1, .int f), (2, .int l), (3, .int k), (4, .int s), (5, .int i)]) (st' := [.int i, .ref 8]) (by rfl) ?_
    refine Pa.alds (v := A.1 8 i.toInt.toNat) (by rfl) (by rfl) (by rfl) (fun h3 h4 => ?_)
    refine Pa.mp 1 (pc' := 23) (l' := [(0, .ref 5), (1, .int f), (2, .int l), (3, .int k), (4, .int s), (5, .int i)]) (st' := [.int f, .int (A.1 8 i.toInt.toNat)]) (by rfl) ?_
    refine Pa.if2 (a := (A.1 8 i.toInt.toNat).toInt) (b := f.toInt) (t := 60) (by rfl) (by rfl) (rfl) (rfl) (fun h5 => ?_) (fun h6 => ?_)
    · skip
      refine Pa.iinc (x := i) (c := 1) (v := (i + 1)) (l' := [(5, .int (i + 1)), (0, .ref 5), (1, .int f), (2, .int l), (3, .int k), (4, .int s)]) (by rfl) (by rfl) (by decide) (by rfl) (by rfl) ?_
      refine Pa.mp 1 (pc' := 6) (l' := [(5, .int (i + 1)), (0, .ref 5), (1, .int f), (2, .int l), (3, .int k), (4, .int s)]) (st' := []) (by rfl) ?_
      refine Pa.lv (l' := [(0, .ref 5), (1, .int f), (2, .int l), (3, .int k), (4, .int s), (5, .int (i + 1))]) (lvS_c rfl (lvS_c rfl (lvS_c rfl (lvS_c rfl (lvS_c rfl (lvS_c rfl (lvS_nil))))))) rfl ?_
      exact l2 h2 h3 h4 h5
    · skip
      refine Pa.mp 1 (pc' := 27) (l' := [(0, .ref 5), (1, .int f), (2, .int l), (3, .int k), (4, .int s), (5, .int i)]) (st' := [.ref 5]) (by rfl) ?_
      refine Pa.gfR (by rfl) (by rfl) (.inl rfl) (by rfl) ?_
      show Pa N 46 30 [(0, .ref 5), (1, .int f), (2, .int l), (3, .int k), (4, .int s), (5, .int i)] [.ref 9] A _
      refine Pa.mp 1 (pc' := 32) (l' := [(0, .ref 5), (1, .int f), (2, .int l), (3, .int k), (4, .int s), (5, .int i)]) (st' := [.int i, .ref 9]) (by rfl) ?_
      refine Pa.alds (v := A.1 9 i.toInt.toNat) (by rfl) (by rfl) (by rfl) (fun h7 h8 => ?_)
      refine Pa.mp 1 (pc' := 34) (l' := [(0, .ref 5), (1, .int f), (2, .int l), (3, .int k), (4, .int s), (5, .int i)]) (st' := [.int l, .int (A.1 9 i.toInt.toNat)]) (by rfl) ?_
      refine Pa.if2 (a := (A.1 9 i.toInt.toNat).toInt) (b := l.toInt) (t := 60) (by rfl) (by rfl) (rfl) (rfl) (fun h9 => ?_) (fun h10 => ?_)
      · skip
        refine Pa.iinc (x := i) (c := 1) (v := (i + 1)) (l' := [(5, .int (i + 1)), (0, .ref 5), (1, .int f), (2, .int l), (3, .int k), (4, .int s)]) (by rfl) (by rfl) (by decide) (by rfl) (by rfl) ?_
        refine Pa.mp 1 (pc' := 6) (l' := [(5, .int (i + 1)), (0, .ref 5), (1, .int f), (2, .int l), (3, .int k), (4, .int s)]) (st' := []) (by rfl) ?_
        refine Pa.lv (l' := [(0, .ref 5), (1, .int f), (2, .int l), (3, .int k), (4, .int s), (5, .int (i + 1))]) (lvS_c rfl (lvS_c rfl (lvS_c rfl (lvS_c rfl (lvS_c rfl (lvS_c rfl (lvS_nil))))))) rfl ?_
        exact l3 h2 h3 h4 h6 h9
      · skip
        refine Pa.mp 1 (pc' := 38) (l' := [(0, .ref 5), (1, .int f), (2, .int l), (3, .int k), (4, .int s), (5, .int i)]) (st' := [.ref 5]) (by rfl) ?_
        refine Pa.gfR (by rfl) (by rfl) (.inl rfl) (by rfl) ?_
        show Pa N 46 41 [(0, .ref 5), (1, .int f), (2, .int l), (3, .int k), (4, .int s), (5, .int i)] [.ref 11] A _
        refine Pa.mp 1 (pc' := 43) (l' := [(0, .ref 5), (1, .int f), (2, .int l), (3, .int k), (4, .int s), (5, .int i)]) (st' := [.int i, .ref 11]) (by rfl) ?_
        refine Pa.alds (v := A.1 11 i.toInt.toNat) (by rfl) (by rfl) (by rfl) (fun h11 h12 => ?_)
        refine Pa.mp 1 (pc' := 45) (l' := [(0, .ref 5), (1, .int f), (2, .int l), (3, .int k), (4, .int s), (5, .int i)]) (st' := [.int k, .int (A.1 11 i.toInt.toNat)]) (by rfl) ?_
        refine Pa.if2 (a := (A.1 11 i.toInt.toNat).toInt) (b := k.toInt) (t := 60) (by rfl) (by rfl) (rfl) (rfl) (fun h13 => ?_) (fun h14 => ?_)
        · skip
          refine Pa.iinc (x := i) (c := 1) (v := (i + 1)) (l' := [(5, .int (i + 1)), (0, .ref 5), (1, .int f), (2, .int l), (3, .int k), (4, .int s)]) (by rfl) (by rfl) (by decide) (by rfl) (by rfl) ?_
          refine Pa.mp 1 (pc' := 6) (l' := [(5, .int (i + 1)), (0, .ref 5), (1, .int f), (2, .int l), (3, .int k), (4, .int s)]) (st' := []) (by rfl) ?_
          refine Pa.lv (l' := [(0, .ref 5), (1, .int f), (2, .int l), (3, .int k), (4, .int s), (5, .int (i + 1))]) (lvS_c rfl (lvS_c rfl (lvS_c rfl (lvS_c rfl (lvS_c rfl (lvS_c rfl (lvS_nil))))))) rfl ?_
          exact l4 h2 h3 h4 h6 h10 h13
        · skip
          refine Pa.mp 2 (pc' := 51) (l' := [(0, .ref 5), (1, .int f), (2, .int l), (3, .int k), (4, .int s), (5, .int i)]) (st' := [.ref 5, .int s]) (by rfl) ?_
          refine Pa.gfR (by rfl) (by rfl) (.inl rfl) (by rfl) ?_
          show Pa N 46 54 [(0, .ref 5), (1, .int f), (2, .int l), (3, .int k), (4, .int s), (5, .int i)] [.ref 10, .int s] A _
          refine Pa.mp 1 (pc' := 56) (l' := [(0, .ref 5), (1, .int f), (2, .int l), (3, .int k), (4, .int s), (5, .int i)]) (st' := [.int i, .ref 10, .int s]) (by rfl) ?_
          refine Pa.alds (v := A.1 10 i.toInt.toNat) (by rfl) (by rfl) (by rfl) (fun h15 h16 => ?_)
          refine Pa.mp 2 (pc' := 60) (l' := [(4, .int (s + (A.1 10 i.toInt.toNat))), (0, .ref 5), (1, .int f), (2, .int l), (3, .int k), (5, .int i)]) (st' := []) (by rfl) ?_
          refine Pa.iinc (x := i) (c := 1) (v := (i + 1)) (l' := [(5, .int (i + 1)), (4, .int (s + (A.1 10 i.toInt.toNat))), (0, .ref 5), (1, .int f), (2, .int l), (3, .int k)]) (by rfl) (by rfl) (by decide) (by rfl) (by rfl) ?_
          refine Pa.mp 1 (pc' := 6) (l' := [(5, .int (i + 1)), (4, .int (s + (A.1 10 i.toInt.toNat))), (0, .ref 5), (1, .int f), (2, .int l), (3, .int k)]) (st' := []) (by rfl) ?_
          refine Pa.lv (l' := [(0, .ref 5), (1, .int f), (2, .int l), (3, .int k), (4, .int (s + (A.1 10 i.toInt.toNat))), (5, .int (i + 1))]) (lvS_c rfl (lvS_c rfl (lvS_c rfl (lvS_c rfl (lvS_c rfl (lvS_c rfl (lvS_nil))))))) rfl ?_
          exact l5 h2 h3 h4 h6 h10 h14

theorem bm_po0 {N : Nat} {A : AW} {Q : Option Value → AW → Prop} (f l k : Int32)
    (l1 : Pa N 175 6 [(0, .ref 69), (1, .int f), (2, .int l), (3, .int k), (4, .int 0), (5, .int 0)] [] A Q) :
    Pa N 175 0 [(0, .ref 69), (1, .int f), (2, .int l), (3, .int k)] [] A Q := by
  refine Pa.ic (x := 0) (pc' := 1) (by rfl) (by rfl) (by decide) ?_
  refine Pa.mp 1 (pc' := 3) (l' := [(4, .int 0), (0, .ref 69), (1, .int f), (2, .int l), (3, .int k)]) (st' := []) (by rfl) ?_
  refine Pa.ic (x := 0) (pc' := 4) (by rfl) (by rfl) (by decide) ?_
  refine Pa.mp 1 (pc' := 6) (l' := [(5, .int 0), (4, .int 0), (0, .ref 69), (1, .int f), (2, .int l), (3, .int k)]) (st' := []) (by rfl) ?_
  refine Pa.lv (l' := [(0, .ref 69), (1, .int f), (2, .int l), (3, .int k), (4, .int 0), (5, .int 0)]) (lvS_c rfl (lvS_c rfl (lvS_c rfl (lvS_c rfl (lvS_c rfl (lvS_c rfl (lvS_nil))))))) rfl ?_
  exact l1

theorem bm_po {N : Nat} {A : AW} {Q : Option Value → AW → Prop} (f l k s i : Int32)
    (l1 : (A.1 69 24).toInt ≤ i.toInt → Q (some (.int s)) A)
    (l2 : i.toInt < (A.1 69 24).toInt → 0 ≤ i.toInt → i.toInt < 100 → (A.1 84 i.toInt.toNat).toInt ≠ f.toInt → Pa N 175 6 [(0, .ref 69), (1, .int f), (2, .int l), (3, .int k), (4, .int (s + 0)), (5, .int (i + 1))] [] A Q)
    (l3 : i.toInt < (A.1 69 24).toInt → 0 ≤ i.toInt → i.toInt < 100 → (A.1 84 i.toInt.toNat).toInt = f.toInt → (A.1 85 i.toInt.toNat).toInt ≠ l.toInt → Pa N 175 6 [(0, .ref 69), (1, .int f), (2, .int l), (3, .int k), (4, .int (s + 0)), (5, .int (i + 1))] [] A Q)
    (l4 : i.toInt < (A.1 69 24).toInt → 0 ≤ i.toInt → i.toInt < 100 → (A.1 84 i.toInt.toNat).toInt = f.toInt → (A.1 85 i.toInt.toNat).toInt = l.toInt → (A.1 87 i.toInt.toNat).toInt < 0 → Pa N 175 6 [(0, .ref 69), (1, .int f), (2, .int l), (3, .int k), (4, .int (s + 0)), (5, .int (i + 1))] [] A Q)
    (l5 : i.toInt < (A.1 69 24).toInt → 0 ≤ i.toInt → i.toInt < 100 → (A.1 84 i.toInt.toNat).toInt = f.toInt → (A.1 85 i.toInt.toNat).toInt = l.toInt → 0 ≤ (A.1 87 i.toInt.toNat).toInt → k.toInt < (A.1 87 i.toInt.toNat).toInt → Pa N 175 6 [(0, .ref 69), (1, .int f), (2, .int l), (3, .int k), (4, .int (s + 0)), (5, .int (i + 1))] [] A Q)
    (l6 : i.toInt < (A.1 69 24).toInt → 0 ≤ i.toInt → i.toInt < 100 → (A.1 84 i.toInt.toNat).toInt = f.toInt → (A.1 85 i.toInt.toNat).toInt = l.toInt → 0 ≤ (A.1 87 i.toInt.toNat).toInt → (A.1 87 i.toInt.toNat).toInt ≤ k.toInt → Pa N 175 6 [(0, .ref 69), (1, .int f), (2, .int l), (3, .int k), (4, .int (s + (A.1 86 i.toInt.toNat))), (5, .int (i + 1))] [] A Q) :
    Pa (N + 1) 175 6 [(0, .ref 69), (1, .int f), (2, .int l), (3, .int k), (4, .int s), (5, .int i)] [] A Q := by
  refine Pa.mp1 1 (pc' := 9) (l' := [(0, .ref 69), (1, .int f), (2, .int l), (3, .int k), (4, .int s), (5, .int i)]) (st' := [.ref 69, .int i]) (by rfl) ?_
  refine Pa.gfI (v := A.1 69 24) (by rfl) (by rfl) (.inl rfl) (by rfl) (by rfl) ?_
  refine Pa.if2 (a := i.toInt) (b := (A.1 69 24).toInt) (t := 74) (by rfl) (by rfl) (rfl) (rfl) (fun h1 => ?_) (fun h2 => ?_)
  · skip
    refine Pa.mp 1 (pc' := 76) (l' := [(0, .ref 69), (1, .int f), (2, .int l), (3, .int k), (4, .int s), (5, .int i)]) (st' := [.int s]) (by rfl) ?_
    refine Pa.iret (by rfl) ?_
    exact l1 h1
  · skip
    refine Pa.mp 2 (pc' := 18) (l' := [(0, .ref 69), (1, .int f), (2, .int l), (3, .int k), (4, .int s), (5, .int i)]) (st' := [.ref 69, .int s]) (by rfl) ?_
    refine Pa.gfR (by rfl) (by rfl) (.inl rfl) (by rfl) ?_
    show Pa N 175 21 [(0, .ref 69), (1, .int f), (2, .int l), (3, .int k), (4, .int s), (5, .int i)] [.ref 84, .int s] A _
    refine Pa.mp 1 (pc' := 23) (l' := [(0, .ref 69), (1, .int f), (2, .int l), (3, .int k), (4, .int s), (5, .int i)]) (st' := [.int i, .ref 84, .int s]) (by rfl) ?_
    refine Pa.alds (v := A.1 84 i.toInt.toNat) (by rfl) (by rfl) (by rfl) (fun h3 h4 => ?_)
    refine Pa.mp 1 (pc' := 25) (l' := [(0, .ref 69), (1, .int f), (2, .int l), (3, .int k), (4, .int s), (5, .int i)]) (st' := [.int f, .int (A.1 84 i.toInt.toNat), .int s]) (by rfl) ?_
    refine Pa.if2 (a := (A.1 84 i.toInt.toNat).toInt) (b := f.toInt) (t := 64) (by rfl) (by rfl) (rfl) (rfl) (fun h5 => ?_) (fun h6 => ?_)
    · skip
      refine Pa.ic (x := 0) (pc' := 65) (by rfl) (by rfl) (by decide) ?_
      refine Pa.mp 2 (pc' := 68) (l' := [(4, .int (s + 0)), (0, .ref 69), (1, .int f), (2, .int l), (3, .int k), (5, .int i)]) (st' := []) (by rfl) ?_
      refine Pa.iinc (x := i) (c := 1) (v := (i + 1)) (l' := [(5, .int (i + 1)), (4, .int (s + 0)), (0, .ref 69), (1, .int f), (2, .int l), (3, .int k)]) (by rfl) (by rfl) (by decide) (by rfl) (by rfl) ?_
      refine Pa.mp 1 (pc' := 6) (l' := [(5, .int (i + 1)), (4, .int (s + 0)), (0, .ref 69), (1, .int f), (2, .int l), (3, .int k)]) (st' := []) (by rfl) ?_
      refine Pa.lv (l' := [(0, .ref 69), (1, .int f), (2, .int l), (3, .int k), (4, .int (s + 0)), (5, .int (i + 1))]) (lvS_c rfl (lvS_c rfl (lvS_c rfl (lvS_c rfl (lvS_c rfl (lvS_c rfl (lvS_nil))))))) rfl ?_
      exact l2 h2 h3 h4 h5
    · skip
      refine Pa.mp 1 (pc' := 29) (l' := [(0, .ref 69), (1, .int f), (2, .int l), (3, .int k), (4, .int s), (5, .int i)]) (st' := [.ref 69, .int s]) (by rfl) ?_
      refine Pa.gfR (by rfl) (by rfl) (.inl rfl) (by rfl) ?_
      show Pa N 175 32 [(0, .ref 69), (1, .int f), (2, .int l), (3, .int k), (4, .int s), (5, .int i)] [.ref 85, .int s] A _
      refine Pa.mp 1 (pc' := 34) (l' := [(0, .ref 69), (1, .int f), (2, .int l), (3, .int k), (4, .int s), (5, .int i)]) (st' := [.int i, .ref 85, .int s]) (by rfl) ?_
      refine Pa.alds (v := A.1 85 i.toInt.toNat) (by rfl) (by rfl) (by rfl) (fun h7 h8 => ?_)
      refine Pa.mp 1 (pc' := 36) (l' := [(0, .ref 69), (1, .int f), (2, .int l), (3, .int k), (4, .int s), (5, .int i)]) (st' := [.int l, .int (A.1 85 i.toInt.toNat), .int s]) (by rfl) ?_
      refine Pa.if2 (a := (A.1 85 i.toInt.toNat).toInt) (b := l.toInt) (t := 64) (by rfl) (by rfl) (rfl) (rfl) (fun h9 => ?_) (fun h10 => ?_)
      · skip
        refine Pa.ic (x := 0) (pc' := 65) (by rfl) (by rfl) (by decide) ?_
        refine Pa.mp 2 (pc' := 68) (l' := [(4, .int (s + 0)), (0, .ref 69), (1, .int f), (2, .int l), (3, .int k), (5, .int i)]) (st' := []) (by rfl) ?_
        refine Pa.iinc (x := i) (c := 1) (v := (i + 1)) (l' := [(5, .int (i + 1)), (4, .int (s + 0)), (0, .ref 69), (1, .int f), (2, .int l), (3, .int k)]) (by rfl) (by rfl) (by decide) (by rfl) (by rfl) ?_
        refine Pa.mp 1 (pc' := 6) (l' := [(5, .int (i + 1)), (4, .int (s + 0)), (0, .ref 69), (1, .int f), (2, .int l), (3, .int k)]) (st' := []) (by rfl) ?_
        refine Pa.lv (l' := [(0, .ref 69), (1, .int f), (2, .int l), (3, .int k), (4, .int (s + 0)), (5, .int (i + 1))]) (lvS_c rfl (lvS_c rfl (lvS_c rfl (lvS_c rfl (lvS_c rfl (lvS_c rfl (lvS_nil))))))) rfl ?_
        exact l3 h2 h3 h4 h6 h9
      · skip
        refine Pa.mp 1 (pc' := 40) (l' := [(0, .ref 69), (1, .int f), (2, .int l), (3, .int k), (4, .int s), (5, .int i)]) (st' := [.ref 69, .int s]) (by rfl) ?_
        refine Pa.gfR (by rfl) (by rfl) (.inl rfl) (by rfl) ?_
        show Pa N 175 43 [(0, .ref 69), (1, .int f), (2, .int l), (3, .int k), (4, .int s), (5, .int i)] [.ref 87, .int s] A _
        refine Pa.mp 1 (pc' := 45) (l' := [(0, .ref 69), (1, .int f), (2, .int l), (3, .int k), (4, .int s), (5, .int i)]) (st' := [.int i, .ref 87, .int s]) (by rfl) ?_
        refine Pa.alds (v := A.1 87 i.toInt.toNat) (by rfl) (by rfl) (by rfl) (fun h11 h12 => ?_)
        refine Pa.ic (x := 0) (pc' := 47) (by rfl) (by rfl) (by decide) ?_
        refine Pa.mp 1 (pc' := 48) (l' := [(0, .ref 69), (1, .int f), (2, .int l), (3, .int k), (4, .int s), (5, .int i)]) (st' := [.int k, .int 0, .int (A.1 87 i.toInt.toNat), .int s]) (by rfl) ?_
        refine Pa.ist (by rfl) (by rfl) (.inl rfl) (by rfl) (by rfl) ?_
        show Pa N 152 0 [(0, .int (A.1 87 i.toInt.toNat)), (1, .int 0), (2, .int k)] [] A _
        refine Pa.mp 2 (pc' := 2) (l' := [(0, .int (A.1 87 i.toInt.toNat)), (1, .int 0), (2, .int k)]) (st' := [.int 0, .int (A.1 87 i.toInt.toNat)]) (by rfl) ?_
        refine Pa.if2 (a := (A.1 87 i.toInt.toNat).toInt) (b := 0) (t := 14) (by rfl) (by rfl) (rfl) (by decide) (fun h13 => ?_) (fun h14 => ?_)
        · skip
          refine Pa.ic (x := 0) (pc' := 15) (by rfl) (by rfl) (by decide) ?_
          refine Pa.iret (by rfl) ?_
          show Pa N 175 51 [(0, .ref 69), (1, .int f), (2, .int l), (3, .int k), (4, .int s), (5, .int i)] [.int 0, .int s] A _
          refine Pa.if1k true (by rfl) (by rfl) (by decide) ?_
          show Pa N 175 64 [(0, .ref 69), (1, .int f), (2, .int l), (3, .int k), (4, .int s), (5, .int i)] [.int s] A _
          refine Pa.ic (x := 0) (pc' := 65) (by rfl) (by rfl) (by decide) ?_
          refine Pa.mp 2 (pc' := 68) (l' := [(4, .int (s + 0)), (0, .ref 69), (1, .int f), (2, .int l), (3, .int k), (5, .int i)]) (st' := []) (by rfl) ?_
          refine Pa.iinc (x := i) (c := 1) (v := (i + 1)) (l' := [(5, .int (i + 1)), (4, .int (s + 0)), (0, .ref 69), (1, .int f), (2, .int l), (3, .int k)]) (by rfl) (by rfl) (by decide) (by rfl) (by rfl) ?_
          refine Pa.mp 1 (pc' := 6) (l' := [(5, .int (i + 1)), (4, .int (s + 0)), (0, .ref 69), (1, .int f), (2, .int l), (3, .int k)]) (st' := []) (by rfl) ?_
          refine Pa.lv (l' := [(0, .ref 69), (1, .int f), (2, .int l), (3, .int k), (4, .int (s + 0)), (5, .int (i + 1))]) (lvS_c rfl (lvS_c rfl (lvS_c rfl (lvS_c rfl (lvS_c rfl (lvS_c rfl (lvS_nil))))))) rfl ?_
          exact l4 h2 h3 h4 h6 h10 h13
        · skip
          refine Pa.mp 2 (pc' := 7) (l' := [(0, .int (A.1 87 i.toInt.toNat)), (1, .int 0), (2, .int k)]) (st' := [.int k, .int (A.1 87 i.toInt.toNat)]) (by rfl) ?_
          refine Pa.if2 (a := (A.1 87 i.toInt.toNat).toInt) (b := k.toInt) (t := 14) (by rfl) (by rfl) (rfl) (rfl) (fun h15 => ?_) (fun h16 => ?_)
          · skip
            refine Pa.ic (x := 0) (pc' := 15) (by rfl) (by rfl) (by decide) ?_
            refine Pa.iret (by rfl) ?_
            show Pa N 175 51 [(0, .ref 69), (1, .int f), (2, .int l), (3, .int k), (4, .int s), (5, .int i)] [.int 0, .int s] A _
            refine Pa.if1k true (by rfl) (by rfl) (by decide) ?_
            show Pa N 175 64 [(0, .ref 69), (1, .int f), (2, .int l), (3, .int k), (4, .int s), (5, .int i)] [.int s] A _
            refine Pa.ic (x := 0) (pc' := 65) (by rfl) (by rfl) (by decide) ?_
            refine Pa.mp 2 (pc' := 68) (l' := [(4, .int (s + 0)), (0, .ref 69), (1, .int f), (2, .int l), (3, .int k), (5, .int i)]) (st' := []) (by rfl) ?_
            refine Pa.iinc (x := i) (c := 1) (v := (i + 1)) (l' := [(5, .int (i + 1)), (4, .int (s + 0)), (0, .ref 69), (1, .int f), (2, .int l), (3, .int k)]) (by rfl) (by rfl) (by decide) (by rfl) (by rfl) ?_
            refine Pa.mp 1 (pc' := 6) (l' := [(5, .int (i + 1)), (4, .int (s + 0)), (0, .ref 69), (1, .int f), (2, .int l), (3, .int k)]) (st' := []) (by rfl) ?_
            refine Pa.lv (l' := [(0, .ref 69), (1, .int f), (2, .int l), (3, .int k), (4, .int (s + 0)), (5, .int (i + 1))]) (lvS_c rfl (lvS_c rfl (lvS_c rfl (lvS_c rfl (lvS_c rfl (lvS_c rfl (lvS_nil))))))) rfl ?_
            exact l5 h2 h3 h4 h6 h10 h14 h15
          · skip
            refine Pa.ic (x := 1) (pc' := 11) (by rfl) (by rfl) (by decide) ?_
            refine Pa.mp 1 (pc' := 15) (l' := [(0, .int (A.1 87 i.toInt.toNat)), (1, .int 0), (2, .int k)]) (st' := [.int 1]) (by rfl) ?_
            refine Pa.iret (by rfl) ?_
            show Pa N 175 51 [(0, .ref 69), (1, .int f), (2, .int l), (3, .int k), (4, .int s), (5, .int i)] [.int 1, .int s] A _
            refine Pa.if1k false (by rfl) (by rfl) (by decide) ?_
            show Pa N 175 54 [(0, .ref 69), (1, .int f), (2, .int l), (3, .int k), (4, .int s), (5, .int i)] [.int s] A _
            refine Pa.mp 1 (pc' := 55) (l' := [(0, .ref 69), (1, .int f), (2, .int l), (3, .int k), (4, .int s), (5, .int i)]) (st' := [.ref 69, .int s]) (by rfl) ?_
            refine Pa.gfR (by rfl) (by rfl) (.inl rfl) (by rfl) ?_
            show Pa N 175 58 [(0, .ref 69), (1, .int f), (2, .int l), (3, .int k), (4, .int s), (5, .int i)] [.ref 86, .int s] A _
            refine Pa.mp 1 (pc' := 60) (l' := [(0, .ref 69), (1, .int f), (2, .int l), (3, .int k), (4, .int s), (5, .int i)]) (st' := [.int i, .ref 86, .int s]) (by rfl) ?_
            refine Pa.alds (v := A.1 86 i.toInt.toNat) (by rfl) (by rfl) (by rfl) (fun h17 h18 => ?_)
            refine Pa.mp 3 (pc' := 68) (l' := [(4, .int (s + (A.1 86 i.toInt.toNat))), (0, .ref 69), (1, .int f), (2, .int l), (3, .int k), (5, .int i)]) (st' := []) (by rfl) ?_
            refine Pa.iinc (x := i) (c := 1) (v := (i + 1)) (l' := [(5, .int (i + 1)), (4, .int (s + (A.1 86 i.toInt.toNat))), (0, .ref 69), (1, .int f), (2, .int l), (3, .int k)]) (by rfl) (by rfl) (by decide) (by rfl) (by rfl) ?_
            refine Pa.mp 1 (pc' := 6) (l' := [(5, .int (i + 1)), (4, .int (s + (A.1 86 i.toInt.toNat))), (0, .ref 69), (1, .int f), (2, .int l), (3, .int k)]) (st' := []) (by rfl) ?_
            refine Pa.lv (l' := [(0, .ref 69), (1, .int f), (2, .int l), (3, .int k), (4, .int (s + (A.1 86 i.toInt.toNat))), (5, .int (i + 1))]) (lvS_c rfl (lvS_c rfl (lvS_c rfl (lvS_c rfl (lvS_c rfl (lvS_c rfl (lvS_nil))))))) rfl ?_
            exact l6 h2 h3 h4 h6 h10 h14 h16


theorem c_pointsBy (N : Nat) (A : AW) (f l k : Int32) : Pa N 46 0 [(0, .ref 5), (1, .int f), (2, .int l), (3, .int k)] [] A (fun u A1 => u = some (.int (ptsX A f l k)) ∧ A1 = A) := by
  have key : ∀ N n, n ≤ (A.1 5 7).toInt.toNat → Pa N 46 6 [(0, .ref 5), (1, .int f), (2, .int l), (3, .int k), (4, .int (sumN (ptFX A f l k) n)), (5, .int (Int32.ofNat n))] [] A (fun u A1 => u = some (.int (ptsX A f l k)) ∧ A1 = A) := by
    intro N
    induction N with
    | zero => intro n _; exact Pa.zero
    | succ N ih =>
      intro n hn
      have e1 := on_nat hn
      have e2 : (Int32.ofNat n).toInt.toNat = n := by rw [e1]; rfl
      refine bx_pb f l k _ _ ?_ ?_ ?_ ?_ ?_ <;> rw [e1] <;> try rw [Int.toNat_natCast]
      · intro h1
        refine ⟨?_, rfl⟩
        unfold ptsX
        rw [show (A.1 5 7).toInt.toNat = n by omega]
      · intro h1 h2 h3 h4
        have h := ih (n + 1) (by omega)
        rw [sumN_0 (show ptFX A f l k n = 0 from if_neg (fun q => h4 q.1)), on_succ] at h
        exact h
      · intro h1 h2 h3 h4 h5
        have h := ih (n + 1) (by omega)
        rw [sumN_0 (show ptFX A f l k n = 0 from if_neg (fun q => h5 q.2.1)), on_succ] at h
        exact h
      · intro h1 h2 h3 h4 h5 h6
        have h := ih (n + 1) (by omega)
        rw [sumN_0 (show ptFX A f l k n = 0 from if_neg (fun q => by omega)), on_succ] at h
        exact h
      · intro h1 h2 h3 h4 h5 h6
        have h := ih (n + 1) (by omega)
        rw [sumN_s (show ptFX A f l k n = A.1 10 n from if_pos ⟨h4, h5, h6⟩), on_succ] at h
        exact h
  exact bx_pb0 f l k (key N 0 (Nat.zero_le _))
theorem c_pointsOf (N : Nat) (A : AW) (f l k : Int32) : Pa N 175 0 [(0, .ref 69), (1, .int f), (2, .int l), (3, .int k)] [] A (fun u A1 => u = some (.int (ptsM A f l k)) ∧ A1 = A) := by
  have key : ∀ N n, n ≤ (A.1 69 24).toInt.toNat → Pa N 175 6 [(0, .ref 69), (1, .int f), (2, .int l), (3, .int k), (4, .int (sumN (ptFM A f l k) n)), (5, .int (Int32.ofNat n))] [] A (fun u A1 => u = some (.int (ptsM A f l k)) ∧ A1 = A) := by
    intro N
    induction N with
    | zero => intro n _; exact Pa.zero
    | succ N ih =>
      intro n hn
      have e1 := on_nat hn
      refine bm_po f l k _ _ ?_ ?_ ?_ ?_ ?_ ?_ <;> rw [e1] <;> (try rw [Int.toNat_natCast]) <;> (try rw [Int32.add_zero])
      · intro h1
        refine ⟨?_, rfl⟩
        unfold ptsM
        rw [show (A.1 69 24).toInt.toNat = n by omega]
      · intro h1 h2 h3 h4
        have h := ih (n + 1) (by omega)
        rw [sumN_0 (show ptFM A f l k n = 0 from if_neg (fun q => h4 q.1)), on_succ] at h
        exact h
      · intro h1 h2 h3 h4 h5
        have h := ih (n + 1) (by omega)
        rw [sumN_0 (show ptFM A f l k n = 0 from if_neg (fun q => h5 q.2.1)), on_succ] at h
        exact h
      · intro h1 h2 h3 h4 h5 h6
        have h := ih (n + 1) (by omega)
        rw [sumN_0 (show ptFM A f l k n = 0 from if_neg (fun q => by omega)), on_succ] at h
        exact h
      · intro h1 h2 h3 h4 h5 h6 h7
        have h := ih (n + 1) (by omega)
        rw [sumN_0 (show ptFM A f l k n = 0 from if_neg (fun q => by omega)), on_succ] at h
        exact h
      · intro h1 h2 h3 h4 h5 h6 h7
        have h := ih (n + 1) (by omega)
        rw [sumN_s (show ptFM A f l k n = A.1 86 n from if_pos ⟨h4, h5, h6, h7⟩), on_succ] at h
        exact h
  exact bm_po0 f l k (key N 0 (Nat.zero_le _))
theorem bx_points {N : Nat} {A : AW} {Q : Option Value → AW → Prop} (f l k : Int32)
    (l1 : f.toInt < 0 → Q (some (.int (-1))) A)
    (l2 : 0 ≤ f.toInt → (A.1 5 6).toInt ≤ f.toInt → Q (some (.int (-1))) A)
    (l3 : 0 ≤ f.toInt → f.toInt < (A.1 5 6).toInt → l.toInt < 0 → Q (some (.int (-1))) A)
    (l4 : 0 ≤ f.toInt → f.toInt < (A.1 5 6).toInt → 0 ≤ l.toInt → 5 < l.toInt → Q (some (.int (-1))) A)
    (l5 : 0 ≤ f.toInt → f.toInt < (A.1 5 6).toInt → 0 ≤ l.toInt → l.toInt ≤ 5 → k.toInt < 0 → Q (some (.int (-1))) A)
    (l6 : 0 ≤ f.toInt → f.toInt < (A.1 5 6).toInt → 0 ≤ l.toInt → l.toInt ≤ 5 → 0 ≤ k.toInt → 3599 < k.toInt → Q (some (.int (-1))) A)
    (l7 : 0 ≤ f.toInt → f.toInt < (A.1 5 6).toInt → 0 ≤ l.toInt → l.toInt ≤ 5 → 0 ≤ k.toInt → k.toInt ≤ 3599 → Q (some (.int (ptsX A f l k))) A) :
    Pa N 110 0 [(0, .ref 0), (1, .int f), (2, .int l), (3, .int k)] [] A Q := by
  refine Pa.mp 1 (pc' := 1) (l' := [(0, .ref 0), (1, .int f), (2, .int l), (3, .int k)]) (st' := [.ref 0]) (by rfl) ?_
  refine Pa.gfR (by rfl) (by rfl) (.inl rfl) (by rfl) ?_
  show Pa N 110 4 [(0, .ref 0), (1, .int f), (2, .int l), (3, .int k)] [.ref 5] A _
  refine Pa.mp 1 (pc' := 5) (l' := [(0, .ref 0), (1, .int f), (2, .int l), (3, .int k)]) (st' := [.int f, .ref 5]) (by rfl) ?_
  refine Pa.inv (by rfl) (by rfl) (.inr rfl) (by rfl) ?_
  show Pa N 41 0 [(0, .ref 5), (1, .int f)] [] A _
  refine Pa.mp 1 (pc' := 1) (l' := [(0, .ref 5), (1, .int f)]) (st' := [.int f]) (by rfl) ?_
  refine Pa.if1 (a := f.toInt) (t := 16) (by rfl) (by rfl) (rfl) (fun h1 => ?_) (fun h2 => ?_)
  · skip
    refine Pa.ic (x := 0) (pc' := 17) (by rfl) (by rfl) (by decide) ?_
    refine Pa.iret (by rfl) ?_
    show Pa N 110 8 [(0, .ref 0), (1, .int f), (2, .int l), (3, .int k)] [.int 0] A _
    refine Pa.if1k true (by rfl) (by rfl) (by decide) ?_
    show Pa N 110 25 [(0, .ref 0), (1, .int f), (2, .int l), (3, .int k)] [] A _
    refine Pa.ic (x := (-1)) (pc' := 26) (by rfl) (by rfl) (by decide) ?_
    refine Pa.iret (by rfl) ?_
    exact l1 h1
  · skip
    refine Pa.mp 2 (pc' := 6) (l' := [(0, .ref 5), (1, .int f)]) (st' := [.ref 5, .int f]) (by rfl) ?_
    refine Pa.gfI (v := A.1 5 6) (by rfl) (by rfl) (.inl rfl) (by rfl) (by rfl) ?_
    refine Pa.if2 (a := f.toInt) (b := (A.1 5 6).toInt) (t := 16) (by rfl) (by rfl) (rfl) (rfl) (fun h3 => ?_) (fun h4 => ?_)
    · skip
      refine Pa.ic (x := 0) (pc' := 17) (by rfl) (by rfl) (by decide) ?_
      refine Pa.iret (by rfl) ?_
      show Pa N 110 8 [(0, .ref 0), (1, .int f), (2, .int l), (3, .int k)] [.int 0] A _
      refine Pa.if1k true (by rfl) (by rfl) (by decide) ?_
      show Pa N 110 25 [(0, .ref 0), (1, .int f), (2, .int l), (3, .int k)] [] A _
      refine Pa.ic (x := (-1)) (pc' := 26) (by rfl) (by rfl) (by decide) ?_
      refine Pa.iret (by rfl) ?_
      exact l2 h2 h3
    · skip
      refine Pa.ic (x := 1) (pc' := 13) (by rfl) (by rfl) (by decide) ?_
      refine Pa.mp 1 (pc' := 17) (l' := [(0, .ref 5), (1, .int f)]) (st' := [.int 1]) (by rfl) ?_
      refine Pa.iret (by rfl) ?_
      show Pa N 110 8 [(0, .ref 0), (1, .int f), (2, .int l), (3, .int k)] [.int 1] A _
      refine Pa.if1k false (by rfl) (by rfl) (by decide) ?_
      show Pa N 110 11 [(0, .ref 0), (1, .int f), (2, .int l), (3, .int k)] [] A _
      refine Pa.mp 1 (pc' := 12) (l' := [(0, .ref 0), (1, .int f), (2, .int l), (3, .int k)]) (st' := [.int l]) (by rfl) ?_
      refine Pa.ist (by rfl) (by rfl) (.inl rfl) (by rfl) (by rfl) ?_
      show Pa N 147 0 [(0, .int l)] [] A _
      refine Pa.mp 1 (pc' := 1) (l' := [(0, .int l)]) (st' := [.int l]) (by rfl) ?_
      refine Pa.ic (x := 0) (pc' := 2) (by rfl) (by rfl) (by decide) ?_
      refine Pa.ic (x := 5) (pc' := 3) (by rfl) (by rfl) (by decide) ?_
      refine Pa.ist (by rfl) (by rfl) (.inl rfl) (by rfl) (by rfl) ?_
      show Pa N 146 0 [(0, .int l), (1, .int 0), (2, .int 5)] [] A _
      refine Pa.mp 2 (pc' := 2) (l' := [(0, .int l), (1, .int 0), (2, .int 5)]) (st' := [.int 0, .int l]) (by rfl) ?_
      refine Pa.if2 (a := l.toInt) (b := 0) (t := 14) (by rfl) (by rfl) (rfl) (by decide) (fun h5 => ?_) (fun h6 => ?_)
      · skip
        refine Pa.ic (x := 0) (pc' := 15) (by rfl) (by rfl) (by decide) ?_
        refine Pa.iret (by rfl) ?_
        show Pa N 147 6 [(0, .int l)] [.int 0] A _
        refine Pa.iret (by rfl) ?_
        show Pa N 110 15 [(0, .ref 0), (1, .int f), (2, .int l), (3, .int k)] [.int 0] A _
        refine Pa.if1k true (by rfl) (by rfl) (by decide) ?_
        show Pa N 110 25 [(0, .ref 0), (1, .int f), (2, .int l), (3, .int k)] [] A _
        refine Pa.ic (x := (-1)) (pc' := 26) (by rfl) (by rfl) (by decide) ?_
        refine Pa.iret (by rfl) ?_
        exact l3 h2 h4 h5
      · skip
        refine Pa.mp 2 (pc' := 7) (l' := [(0, .int l), (1, .int 0), (2, .int 5)]) (st' := [.int 5, .int l]) (by rfl) ?_
        refine Pa.if2 (a := l.toInt) (b := 5) (t := 14) (by rfl) (by rfl) (rfl) (by decide) (fun h7 => ?_) (fun h8 => ?_)
        · skip
          refine Pa.ic (x := 0) (pc' := 15) (by rfl) (by rfl) (by decide) ?_
          refine Pa.iret (by rfl) ?_
          show Pa N 147 6 [(0, .int l)] [.int 0] A _
          refine Pa.iret (by rfl) ?_
          show Pa N 110 15 [(0, .ref 0), (1, .int f), (2, .int l), (3, .int k)] [.int 0] A _
          refine Pa.if1k true (by rfl) (by rfl) (by decide) ?_
          show Pa N 110 25 [(0, .ref 0), (1, .int f), (2, .int l), (3, .int k)] [] A _
          refine Pa.ic (x := (-1)) (pc' := 26) (by rfl) (by rfl) (by decide) ?_
          refine Pa.iret (by rfl) ?_
          exact l4 h2 h4 h6 h7
        · skip
          refine Pa.ic (x := 1) (pc' := 11) (by rfl) (by rfl) (by decide) ?_
          refine Pa.mp 1 (pc' := 15) (l' := [(0, .int l), (1, .int 0), (2, .int 5)]) (st' := [.int 1]) (by rfl) ?_
          refine Pa.iret (by rfl) ?_
          show Pa N 147 6 [(0, .int l)] [.int 1] A _
          refine Pa.iret (by rfl) ?_
          show Pa N 110 15 [(0, .ref 0), (1, .int f), (2, .int l), (3, .int k)] [.int 1] A _
          refine Pa.if1k false (by rfl) (by rfl) (by decide) ?_
          show Pa N 110 18 [(0, .ref 0), (1, .int f), (2, .int l), (3, .int k)] [] A _
          refine Pa.mp 1 (pc' := 19) (l' := [(0, .ref 0), (1, .int f), (2, .int l), (3, .int k)]) (st' := [.int k]) (by rfl) ?_
          refine Pa.ist (by rfl) (by rfl) (.inl rfl) (by rfl) (by rfl) ?_
          show Pa N 148 0 [(0, .int k)] [] A _
          refine Pa.mp 1 (pc' := 1) (l' := [(0, .int k)]) (st' := [.int k]) (by rfl) ?_
          refine Pa.ic (x := 0) (pc' := 2) (by rfl) (by rfl) (by decide) ?_
          refine Pa.ic (x := 3599) (pc' := 5) (by rfl) (by rfl) (by decide) ?_
          refine Pa.ist (by rfl) (by rfl) (.inl rfl) (by rfl) (by rfl) ?_
          show Pa N 146 0 [(0, .int k), (1, .int 0), (2, .int 3599)] [] A _
          refine Pa.mp 2 (pc' := 2) (l' := [(0, .int k), (1, .int 0), (2, .int 3599)]) (st' := [.int 0, .int k]) (by rfl) ?_
          refine Pa.if2 (a := k.toInt) (b := 0) (t := 14) (by rfl) (by rfl) (rfl) (by decide) (fun h9 => ?_) (fun h10 => ?_)
          · skip
            refine Pa.ic (x := 0) (pc' := 15) (by rfl) (by rfl) (by decide) ?_
            refine Pa.iret (by rfl) ?_
            show Pa N 148 8 [(0, .int k)] [.int 0] A _
            refine Pa.iret (by rfl) ?_
            show Pa N 110 22 [(0, .ref 0), (1, .int f), (2, .int l), (3, .int k)] [.int 0] A _
            refine Pa.if1k false (by rfl) (by rfl) (by decide) ?_
            show Pa N 110 25 [(0, .ref 0), (1, .int f), (2, .int l), (3, .int k)] [] A _
            refine Pa.ic (x := (-1)) (pc' := 26) (by rfl) (by rfl) (by decide) ?_
            refine Pa.iret (by rfl) ?_
            exact l5 h2 h4 h6 h8 h9
          · skip
            refine Pa.mp 2 (pc' := 7) (l' := [(0, .int k), (1, .int 0), (2, .int 3599)]) (st' := [.int 3599, .int k]) (by rfl) ?_
            refine Pa.if2 (a := k.toInt) (b := 3599) (t := 14) (by rfl) (by rfl) (rfl) (by decide) (fun h11 => ?_) (fun h12 => ?_)
            · skip
              refine Pa.ic (x := 0) (pc' := 15) (by rfl) (by rfl) (by decide) ?_
              refine Pa.iret (by rfl) ?_
              show Pa N 148 8 [(0, .int k)] [.int 0] A _
              refine Pa.iret (by rfl) ?_
              show Pa N 110 22 [(0, .ref 0), (1, .int f), (2, .int l), (3, .int k)] [.int 0] A _
              refine Pa.if1k false (by rfl) (by rfl) (by decide) ?_
              show Pa N 110 25 [(0, .ref 0), (1, .int f), (2, .int l), (3, .int k)] [] A _
              refine Pa.ic (x := (-1)) (pc' := 26) (by rfl) (by rfl) (by decide) ?_
              refine Pa.iret (by rfl) ?_
              exact l6 h2 h4 h6 h8 h10 h11
            · skip
              refine Pa.ic (x := 1) (pc' := 11) (by rfl) (by rfl) (by decide) ?_
              refine Pa.mp 1 (pc' := 15) (l' := [(0, .int k), (1, .int 0), (2, .int 3599)]) (st' := [.int 1]) (by rfl) ?_
              refine Pa.iret (by rfl) ?_
              show Pa N 148 8 [(0, .int k)] [.int 1] A _
              refine Pa.iret (by rfl) ?_
              show Pa N 110 22 [(0, .ref 0), (1, .int f), (2, .int l), (3, .int k)] [.int 1] A _
              refine Pa.if1k true (by rfl) (by rfl) (by decide) ?_
              show Pa N 110 27 [(0, .ref 0), (1, .int f), (2, .int l), (3, .int k)] [] A _
              refine Pa.mp 1 (pc' := 28) (l' := [(0, .ref 0), (1, .int f), (2, .int l), (3, .int k)]) (st' := [.ref 0]) (by rfl) ?_
              refine Pa.gfR (by rfl) (by rfl) (.inl rfl) (by rfl) ?_
              show Pa N 110 31 [(0, .ref 0), (1, .int f), (2, .int l), (3, .int k)] [.ref 5] A _
              refine Pa.mp 3 (pc' := 34) (l' := [(0, .ref 0), (1, .int f), (2, .int l), (3, .int k)]) (st' := [.int k, .int l, .int f, .ref 5]) (by rfl) ?_
              refine Pa.inv (by rfl) (by rfl) (.inr rfl) (by rfl) ?_
              refine Pa.mono (c_pointsBy N A f l k) (fun u A1 hu => ?_)
              obtain ⟨rfl, rfl⟩ := hu
              show Pa N 110 37 [(0, .ref 0), (1, .int f), (2, .int l), (3, .int k)] [.int (ptsX A f l k)] A _
              refine Pa.iret (by rfl) ?_
              exact l7 h2 h4 h6 h8 h10 h12

theorem bm_points {N : Nat} {A : AW} {Q : Option Value → AW → Prop} (f l k : Int32)
    (l1 : f.toInt < 0 → Q (some (.int (-1))) A)
    (l2 : 0 ≤ f.toInt → (A.1 69 11).toInt ≤ f.toInt → Q (some (.int (-1))) A)
    (l3 : 0 ≤ f.toInt → f.toInt < (A.1 69 11).toInt → l.toInt < 0 → Q (some (.int (-1))) A)
    (l4 : 0 ≤ f.toInt → f.toInt < (A.1 69 11).toInt → 0 ≤ l.toInt → 5 < l.toInt → Q (some (.int (-1))) A)
    (l5 : 0 ≤ f.toInt → f.toInt < (A.1 69 11).toInt → 0 ≤ l.toInt → l.toInt ≤ 5 → k.toInt < 0 → Q (some (.int (-1))) A)
    (l6 : 0 ≤ f.toInt → f.toInt < (A.1 69 11).toInt → 0 ≤ l.toInt → l.toInt ≤ 5 → 0 ≤ k.toInt → 3599 < k.toInt → Q (some (.int (-1))) A)
    (l7 : 0 ≤ f.toInt → f.toInt < (A.1 69 11).toInt → 0 ≤ l.toInt → l.toInt ≤ 5 → 0 ≤ k.toInt → k.toInt ≤ 3599 → Q (some (.int (ptsM A f l k))) A) :
    Pa N 176 0 [(0, .ref 69), (1, .int f), (2, .int l), (3, .int k)] [] A Q := by
  refine Pa.mp 2 (pc' := 2) (l' := [(0, .ref 69), (1, .int f), (2, .int l), (3, .int k)]) (st' := [.int f, .ref 69]) (by rfl) ?_
  refine Pa.inv (by rfl) (by rfl) (.inl rfl) (by rfl) ?_
  show Pa N 157 0 [(0, .ref 69), (1, .int f)] [] A _
  refine Pa.mp 1 (pc' := 1) (l' := [(0, .ref 69), (1, .int f)]) (st' := [.int f]) (by rfl) ?_
  refine Pa.if1 (a := f.toInt) (t := 16) (by rfl) (by rfl) (rfl) (fun h1 => ?_) (fun h2 => ?_)
  · skip
    refine Pa.ic (x := 0) (pc' := 17) (by rfl) (by rfl) (by decide) ?_
    refine Pa.iret (by rfl) ?_
    show Pa N 176 5 [(0, .ref 69), (1, .int f), (2, .int l), (3, .int k)] [.int 0] A _
    refine Pa.if1k true (by rfl) (by rfl) (by decide) ?_
    show Pa N 176 32 [(0, .ref 69), (1, .int f), (2, .int l), (3, .int k)] [] A _
    refine Pa.ic (x := (-1)) (pc' := 33) (by rfl) (by rfl) (by decide) ?_
    refine Pa.iret (by rfl) ?_
    exact l1 h1
  · skip
    refine Pa.mp 2 (pc' := 6) (l' := [(0, .ref 69), (1, .int f)]) (st' := [.ref 69, .int f]) (by rfl) ?_
    refine Pa.gfI (v := A.1 69 11) (by rfl) (by rfl) (.inl rfl) (by rfl) (by rfl) ?_
    refine Pa.if2 (a := f.toInt) (b := (A.1 69 11).toInt) (t := 16) (by rfl) (by rfl) (rfl) (rfl) (fun h3 => ?_) (fun h4 => ?_)
    · skip
      refine Pa.ic (x := 0) (pc' := 17) (by rfl) (by rfl) (by decide) ?_
      refine Pa.iret (by rfl) ?_
      show Pa N 176 5 [(0, .ref 69), (1, .int f), (2, .int l), (3, .int k)] [.int 0] A _
      refine Pa.if1k true (by rfl) (by rfl) (by decide) ?_
      show Pa N 176 32 [(0, .ref 69), (1, .int f), (2, .int l), (3, .int k)] [] A _
      refine Pa.ic (x := (-1)) (pc' := 33) (by rfl) (by rfl) (by decide) ?_
      refine Pa.iret (by rfl) ?_
      exact l2 h2 h3
    · skip
      refine Pa.ic (x := 1) (pc' := 13) (by rfl) (by rfl) (by decide) ?_
      refine Pa.mp 1 (pc' := 17) (l' := [(0, .ref 69), (1, .int f)]) (st' := [.int 1]) (by rfl) ?_
      refine Pa.iret (by rfl) ?_
      show Pa N 176 5 [(0, .ref 69), (1, .int f), (2, .int l), (3, .int k)] [.int 1] A _
      refine Pa.if1k false (by rfl) (by rfl) (by decide) ?_
      show Pa N 176 8 [(0, .ref 69), (1, .int f), (2, .int l), (3, .int k)] [] A _
      refine Pa.mp 1 (pc' := 9) (l' := [(0, .ref 69), (1, .int f), (2, .int l), (3, .int k)]) (st' := [.int l]) (by rfl) ?_
      refine Pa.ist (by rfl) (by rfl) (.inl rfl) (by rfl) (by rfl) ?_
      show Pa N 154 0 [(0, .int l)] [] A _
      refine Pa.mp 1 (pc' := 1) (l' := [(0, .int l)]) (st' := [.int l]) (by rfl) ?_
      refine Pa.ic (x := 0) (pc' := 2) (by rfl) (by rfl) (by decide) ?_
      refine Pa.ic (x := 5) (pc' := 3) (by rfl) (by rfl) (by decide) ?_
      refine Pa.ist (by rfl) (by rfl) (.inl rfl) (by rfl) (by rfl) ?_
      show Pa N 152 0 [(0, .int l), (1, .int 0), (2, .int 5)] [] A _
      refine Pa.mp 2 (pc' := 2) (l' := [(0, .int l), (1, .int 0), (2, .int 5)]) (st' := [.int 0, .int l]) (by rfl) ?_
      refine Pa.if2 (a := l.toInt) (b := 0) (t := 14) (by rfl) (by rfl) (rfl) (by decide) (fun h5 => ?_) (fun h6 => ?_)
      · skip
        refine Pa.ic (x := 0) (pc' := 15) (by rfl) (by rfl) (by decide) ?_
        refine Pa.iret (by rfl) ?_
        show Pa N 154 6 [(0, .int l)] [.int 0] A _
        refine Pa.iret (by rfl) ?_
        show Pa N 176 12 [(0, .ref 69), (1, .int f), (2, .int l), (3, .int k)] [.int 0] A _
        refine Pa.if1k true (by rfl) (by rfl) (by decide) ?_
        show Pa N 176 32 [(0, .ref 69), (1, .int f), (2, .int l), (3, .int k)] [] A _
        refine Pa.ic (x := (-1)) (pc' := 33) (by rfl) (by rfl) (by decide) ?_
        refine Pa.iret (by rfl) ?_
        exact l3 h2 h4 h5
      · skip
        refine Pa.mp 2 (pc' := 7) (l' := [(0, .int l), (1, .int 0), (2, .int 5)]) (st' := [.int 5, .int l]) (by rfl) ?_
        refine Pa.if2 (a := l.toInt) (b := 5) (t := 14) (by rfl) (by rfl) (rfl) (by decide) (fun h7 => ?_) (fun h8 => ?_)
        · skip
          refine Pa.ic (x := 0) (pc' := 15) (by rfl) (by rfl) (by decide) ?_
          refine Pa.iret (by rfl) ?_
          show Pa N 154 6 [(0, .int l)] [.int 0] A _
          refine Pa.iret (by rfl) ?_
          show Pa N 176 12 [(0, .ref 69), (1, .int f), (2, .int l), (3, .int k)] [.int 0] A _
          refine Pa.if1k true (by rfl) (by rfl) (by decide) ?_
          show Pa N 176 32 [(0, .ref 69), (1, .int f), (2, .int l), (3, .int k)] [] A _
          refine Pa.ic (x := (-1)) (pc' := 33) (by rfl) (by rfl) (by decide) ?_
          refine Pa.iret (by rfl) ?_
          exact l4 h2 h4 h6 h7
        · skip
          refine Pa.ic (x := 1) (pc' := 11) (by rfl) (by rfl) (by decide) ?_
          refine Pa.mp 1 (pc' := 15) (l' := [(0, .int l), (1, .int 0), (2, .int 5)]) (st' := [.int 1]) (by rfl) ?_
          refine Pa.iret (by rfl) ?_
          show Pa N 154 6 [(0, .int l)] [.int 1] A _
          refine Pa.iret (by rfl) ?_
          show Pa N 176 12 [(0, .ref 69), (1, .int f), (2, .int l), (3, .int k)] [.int 1] A _
          refine Pa.if1k false (by rfl) (by rfl) (by decide) ?_
          show Pa N 176 15 [(0, .ref 69), (1, .int f), (2, .int l), (3, .int k)] [] A _
          refine Pa.mp 1 (pc' := 16) (l' := [(0, .ref 69), (1, .int f), (2, .int l), (3, .int k)]) (st' := [.int k]) (by rfl) ?_
          refine Pa.ist (by rfl) (by rfl) (.inl rfl) (by rfl) (by rfl) ?_
          show Pa N 153 0 [(0, .int k)] [] A _
          refine Pa.mp 1 (pc' := 1) (l' := [(0, .int k)]) (st' := [.int k]) (by rfl) ?_
          refine Pa.ic (x := 0) (pc' := 2) (by rfl) (by rfl) (by decide) ?_
          refine Pa.ic (x := 3599) (pc' := 5) (by rfl) (by rfl) (by decide) ?_
          refine Pa.ist (by rfl) (by rfl) (.inl rfl) (by rfl) (by rfl) ?_
          show Pa N 152 0 [(0, .int k), (1, .int 0), (2, .int 3599)] [] A _
          refine Pa.mp 2 (pc' := 2) (l' := [(0, .int k), (1, .int 0), (2, .int 3599)]) (st' := [.int 0, .int k]) (by rfl) ?_
          refine Pa.if2 (a := k.toInt) (b := 0) (t := 14) (by rfl) (by rfl) (rfl) (by decide) (fun h9 => ?_) (fun h10 => ?_)
          · skip
            refine Pa.ic (x := 0) (pc' := 15) (by rfl) (by rfl) (by decide) ?_
            refine Pa.iret (by rfl) ?_
            show Pa N 153 8 [(0, .int k)] [.int 0] A _
            refine Pa.iret (by rfl) ?_
            show Pa N 176 19 [(0, .ref 69), (1, .int f), (2, .int l), (3, .int k)] [.int 0] A _
            refine Pa.if1k true (by rfl) (by rfl) (by decide) ?_
            show Pa N 176 32 [(0, .ref 69), (1, .int f), (2, .int l), (3, .int k)] [] A _
            refine Pa.ic (x := (-1)) (pc' := 33) (by rfl) (by rfl) (by decide) ?_
            refine Pa.iret (by rfl) ?_
            exact l5 h2 h4 h6 h8 h9
          · skip
            refine Pa.mp 2 (pc' := 7) (l' := [(0, .int k), (1, .int 0), (2, .int 3599)]) (st' := [.int 3599, .int k]) (by rfl) ?_
            refine Pa.if2 (a := k.toInt) (b := 3599) (t := 14) (by rfl) (by rfl) (rfl) (by decide) (fun h11 => ?_) (fun h12 => ?_)
            · skip
              refine Pa.ic (x := 0) (pc' := 15) (by rfl) (by rfl) (by decide) ?_
              refine Pa.iret (by rfl) ?_
              show Pa N 153 8 [(0, .int k)] [.int 0] A _
              refine Pa.iret (by rfl) ?_
              show Pa N 176 19 [(0, .ref 69), (1, .int f), (2, .int l), (3, .int k)] [.int 0] A _
              refine Pa.if1k true (by rfl) (by rfl) (by decide) ?_
              show Pa N 176 32 [(0, .ref 69), (1, .int f), (2, .int l), (3, .int k)] [] A _
              refine Pa.ic (x := (-1)) (pc' := 33) (by rfl) (by rfl) (by decide) ?_
              refine Pa.iret (by rfl) ?_
              exact l6 h2 h4 h6 h8 h10 h11
            · skip
              refine Pa.ic (x := 1) (pc' := 11) (by rfl) (by rfl) (by decide) ?_
              refine Pa.mp 1 (pc' := 15) (l' := [(0, .int k), (1, .int 0), (2, .int 3599)]) (st' := [.int 1]) (by rfl) ?_
              refine Pa.iret (by rfl) ?_
              show Pa N 153 8 [(0, .int k)] [.int 1] A _
              refine Pa.iret (by rfl) ?_
              show Pa N 176 19 [(0, .ref 69), (1, .int f), (2, .int l), (3, .int k)] [.int 1] A _
              refine Pa.if1k false (by rfl) (by rfl) (by decide) ?_
              show Pa N 176 22 [(0, .ref 69), (1, .int f), (2, .int l), (3, .int k)] [] A _
              refine Pa.mp 4 (pc' := 26) (l' := [(0, .ref 69), (1, .int f), (2, .int l), (3, .int k)]) (st' := [.int k, .int l, .int f, .ref 69]) (by rfl) ?_
              refine Pa.inv (by rfl) (by rfl) (.inl rfl) (by rfl) ?_
              refine Pa.mono (c_pointsOf N A f l k) (fun u A1 hu => ?_)
              obtain ⟨rfl, rfl⟩ := hu
              show Pa N 176 29 [(0, .ref 69), (1, .int f), (2, .int l), (3, .int k)] [.int (ptsM A f l k)] A _
              refine Pa.mp 1 (pc' := 33) (l' := [(0, .ref 69), (1, .int f), (2, .int l), (3, .int k)]) (st' := [.int (ptsM A f l k)]) (by rfl) ?_
              refine Pa.iret (by rfl) ?_
              exact l7 h2 h4 h6 h8 h10 h12

/-- the numbers that the face takes -/
def ptOk (F : Int32) (f l k : Int32) : Prop := 0 ≤ f.toInt ∧ f.toInt < F.toInt ∧ 0 ≤ l.toInt ∧ l.toInt ≤ 5 ∧ 0 ≤ k.toInt ∧ k.toInt ≤ 3599
theorem d_points (N : Nat) (A : AW) (f l k : Int32) : Pa N 110 0 [(0, .ref 0), (1, .int f), (2, .int l), (3, .int k)] [] A (fun u A1 => A1 = A ∧ ((ptOk (A.1 5 6) f l k ∧ u = some (.int (ptsX A f l k))) ∨ (¬ ptOk (A.1 5 6) f l k ∧ u = some (.int (-1))))) := by
  refine bx_points f l k ?_ ?_ ?_ ?_ ?_ ?_ ?_
  all_goals
    intros
    unfold ptOk
    first
      | exact ⟨rfl, .inl ⟨by omega, rfl⟩⟩
      | exact ⟨rfl, .inr ⟨by omega, rfl⟩⟩
theorem e_points (N : Nat) (A : AW) (f l k : Int32) : Pa N 176 0 [(0, .ref 69), (1, .int f), (2, .int l), (3, .int k)] [] A (fun u A1 => A1 = A ∧ ((ptOk (A.1 69 11) f l k ∧ u = some (.int (ptsM A f l k))) ∨ (¬ ptOk (A.1 69 11) f l k ∧ u = some (.int (-1))))) := by
  refine bm_points f l k ?_ ?_ ?_ ?_ ?_ ?_ ?_
  all_goals
    intros
    unfold ptOk
    first
      | exact ⟨rfl, .inl ⟨by omega, rfl⟩⟩
      | exact ⟨rfl, .inr ⟨by omega, rfl⟩⟩
