/-! ACT: the runs of the class, one ya kind and act -/
theorem b_abv0 {N : Nat} {yA : AW} {yQ : Option Value → AW → Prop} 
    (l1 : yQ (some (.int (-1))) yA) :
    Pa N 24 0 [(0, .int 0)] [] yA yQ := by
  refine Pa.mp 1 (pc' := 1) (l' := [(0, .int 0)]) (st' := [.int 0]) (by rfl) ?_
  refine Pa.if1k false (by rfl) (by rfl) (by decide) ?_
  show Pa N 24 4 [(0, .int 0)] [] yA _
  refine Pa.mp 1 (pc' := 5) (l' := [(0, .int 0)]) (st' := [.int 0]) (by rfl) ?_
  refine Pa.ic (x := 7) (pc' := 7) (by rfl) (by rfl) (by decide) ?_
  refine Pa.if2k false (by rfl) (by rfl) (by decide) ?_
  show Pa N 24 10 [(0, .int 0)] [] yA _
  refine Pa.cst (pc' := 13) (l' := [(0, .int 0)]) (st' := [.retAddr 1]) (by rfl) (fun _ _ _ => by rfl) ?_
  refine Pa.mp 1 (pc' := 14) (l' := [(0, .int 0)]) (st' := [.int 0, .retAddr 1]) (by rfl) ?_
  refine Pa.xld (v := (-1)) (by rfl) (by decide) (by rfl) (fun h1 => ?_)
  refine Pa.mp 1 (pc' := 19) (l' := [(0, .int 0)]) (st' := [.int (-1)]) (by rfl) ?_
  refine Pa.iret (by rfl) ?_
  exact l1
theorem c_abv0 (N : Nat) (yA : AW) : Pa N 24 0 [(0, .int 0)] [] yA (fun yu A1 => yu = some (.int (-1)) ∧ A1 = yA) := b_abv0 ⟨rfl, rfl⟩

theorem b_abv1 {N : Nat} {yA : AW} {yQ : Option Value → AW → Prop} 
    (l1 : yQ (some (.int 0)) yA) :
    Pa N 24 0 [(0, .int 1)] [] yA yQ := by
  refine Pa.mp 1 (pc' := 1) (l' := [(0, .int 1)]) (st' := [.int 1]) (by rfl) ?_
  refine Pa.if1k false (by rfl) (by rfl) (by decide) ?_
  show Pa N 24 4 [(0, .int 1)] [] yA _
  refine Pa.mp 1 (pc' := 5) (l' := [(0, .int 1)]) (st' := [.int 1]) (by rfl) ?_
  refine Pa.ic (x := 7) (pc' := 7) (by rfl) (by rfl) (by decide) ?_
  refine Pa.if2k false (by rfl) (by rfl) (by decide) ?_
  show Pa N 24 10 [(0, .int 1)] [] yA _
  refine Pa.cst (pc' := 13) (l' := [(0, .int 1)]) (st' := [.retAddr 1]) (by rfl) (fun _ _ _ => by rfl) ?_
  refine Pa.mp 1 (pc' := 14) (l' := [(0, .int 1)]) (st' := [.int 1, .retAddr 1]) (by rfl) ?_
  refine Pa.xld (v := 0) (by rfl) (by decide) (by rfl) (fun h1 => ?_)
  refine Pa.mp 1 (pc' := 19) (l' := [(0, .int 1)]) (st' := [.int 0]) (by rfl) ?_
  refine Pa.iret (by rfl) ?_
  exact l1
theorem c_abv1 (N : Nat) (yA : AW) : Pa N 24 0 [(0, .int 1)] [] yA (fun yu A1 => yu = some (.int 0) ∧ A1 = yA) := b_abv1 ⟨rfl, rfl⟩

theorem b_abv2 {N : Nat} {yA : AW} {yQ : Option Value → AW → Prop} 
    (l1 : yQ (some (.int 0)) yA) :
    Pa N 24 0 [(0, .int 2)] [] yA yQ := by
  refine Pa.mp 1 (pc' := 1) (l' := [(0, .int 2)]) (st' := [.int 2]) (by rfl) ?_
  refine Pa.if1k false (by rfl) (by rfl) (by decide) ?_
  show Pa N 24 4 [(0, .int 2)] [] yA _
  refine Pa.mp 1 (pc' := 5) (l' := [(0, .int 2)]) (st' := [.int 2]) (by rfl) ?_
  refine Pa.ic (x := 7) (pc' := 7) (by rfl) (by rfl) (by decide) ?_
  refine Pa.if2k false (by rfl) (by rfl) (by decide) ?_
  show Pa N 24 10 [(0, .int 2)] [] yA _
  refine Pa.cst (pc' := 13) (l' := [(0, .int 2)]) (st' := [.retAddr 1]) (by rfl) (fun _ _ _ => by rfl) ?_
  refine Pa.mp 1 (pc' := 14) (l' := [(0, .int 2)]) (st' := [.int 2, .retAddr 1]) (by rfl) ?_
  refine Pa.xld (v := 0) (by rfl) (by decide) (by rfl) (fun h1 => ?_)
  refine Pa.mp 1 (pc' := 19) (l' := [(0, .int 2)]) (st' := [.int 0]) (by rfl) ?_
  refine Pa.iret (by rfl) ?_
  exact l1
theorem c_abv2 (N : Nat) (yA : AW) : Pa N 24 0 [(0, .int 2)] [] yA (fun yu A1 => yu = some (.int 0) ∧ A1 = yA) := b_abv2 ⟨rfl, rfl⟩

theorem b_abv3 {N : Nat} {yA : AW} {yQ : Option Value → AW → Prop} 
    (l1 : yQ (some (.int 2)) yA) :
    Pa N 24 0 [(0, .int 3)] [] yA yQ := by
  refine Pa.mp 1 (pc' := 1) (l' := [(0, .int 3)]) (st' := [.int 3]) (by rfl) ?_
  refine Pa.if1k false (by rfl) (by rfl) (by decide) ?_
  show Pa N 24 4 [(0, .int 3)] [] yA _
  refine Pa.mp 1 (pc' := 5) (l' := [(0, .int 3)]) (st' := [.int 3]) (by rfl) ?_
  refine Pa.ic (x := 7) (pc' := 7) (by rfl) (by rfl) (by decide) ?_
  refine Pa.if2k false (by rfl) (by rfl) (by decide) ?_
  show Pa N 24 10 [(0, .int 3)] [] yA _
  refine Pa.cst (pc' := 13) (l' := [(0, .int 3)]) (st' := [.retAddr 1]) (by rfl) (fun _ _ _ => by rfl) ?_
  refine Pa.mp 1 (pc' := 14) (l' := [(0, .int 3)]) (st' := [.int 3, .retAddr 1]) (by rfl) ?_
  refine Pa.xld (v := 2) (by rfl) (by decide) (by rfl) (fun h1 => ?_)
  refine Pa.mp 1 (pc' := 19) (l' := [(0, .int 3)]) (st' := [.int 2]) (by rfl) ?_
  refine Pa.iret (by rfl) ?_
  exact l1
theorem c_abv3 (N : Nat) (yA : AW) : Pa N 24 0 [(0, .int 3)] [] yA (fun yu A1 => yu = some (.int 2) ∧ A1 = yA) := b_abv3 ⟨rfl, rfl⟩

theorem b_abv4 {N : Nat} {yA : AW} {yQ : Option Value → AW → Prop} 
    (l1 : yQ (some (.int 0)) yA) :
    Pa N 24 0 [(0, .int 4)] [] yA yQ := by
  refine Pa.mp 1 (pc' := 1) (l' := [(0, .int 4)]) (st' := [.int 4]) (by rfl) ?_
  refine Pa.if1k false (by rfl) (by rfl) (by decide) ?_
  show Pa N 24 4 [(0, .int 4)] [] yA _
  refine Pa.mp 1 (pc' := 5) (l' := [(0, .int 4)]) (st' := [.int 4]) (by rfl) ?_
  refine Pa.ic (x := 7) (pc' := 7) (by rfl) (by rfl) (by decide) ?_
  refine Pa.if2k false (by rfl) (by rfl) (by decide) ?_
  show Pa N 24 10 [(0, .int 4)] [] yA _
  refine Pa.cst (pc' := 13) (l' := [(0, .int 4)]) (st' := [.retAddr 1]) (by rfl) (fun _ _ _ => by rfl) ?_
  refine Pa.mp 1 (pc' := 14) (l' := [(0, .int 4)]) (st' := [.int 4, .retAddr 1]) (by rfl) ?_
  refine Pa.xld (v := 0) (by rfl) (by decide) (by rfl) (fun h1 => ?_)
  refine Pa.mp 1 (pc' := 19) (l' := [(0, .int 4)]) (st' := [.int 0]) (by rfl) ?_
  refine Pa.iret (by rfl) ?_
  exact l1
theorem c_abv4 (N : Nat) (yA : AW) : Pa N 24 0 [(0, .int 4)] [] yA (fun yu A1 => yu = some (.int 0) ∧ A1 = yA) := b_abv4 ⟨rfl, rfl⟩

theorem b_abv5 {N : Nat} {yA : AW} {yQ : Option Value → AW → Prop} 
    (l1 : yQ (some (.int 2)) yA) :
    Pa N 24 0 [(0, .int 5)] [] yA yQ := by
  refine Pa.mp 1 (pc' := 1) (l' := [(0, .int 5)]) (st' := [.int 5]) (by rfl) ?_
  refine Pa.if1k false (by rfl) (by rfl) (by decide) ?_
  show Pa N 24 4 [(0, .int 5)] [] yA _
  refine Pa.mp 1 (pc' := 5) (l' := [(0, .int 5)]) (st' := [.int 5]) (by rfl) ?_
  refine Pa.ic (x := 7) (pc' := 7) (by rfl) (by rfl) (by decide) ?_
  refine Pa.if2k false (by rfl) (by rfl) (by decide) ?_
  show Pa N 24 10 [(0, .int 5)] [] yA _
  refine Pa.cst (pc' := 13) (l' := [(0, .int 5)]) (st' := [.retAddr 1]) (by rfl) (fun _ _ _ => by rfl) ?_
  refine Pa.mp 1 (pc' := 14) (l' := [(0, .int 5)]) (st' := [.int 5, .retAddr 1]) (by rfl) ?_
  refine Pa.xld (v := 2) (by rfl) (by decide) (by rfl) (fun h1 => ?_)
  refine Pa.mp 1 (pc' := 19) (l' := [(0, .int 5)]) (st' := [.int 2]) (by rfl) ?_
  refine Pa.iret (by rfl) ?_
  exact l1
theorem c_abv5 (N : Nat) (yA : AW) : Pa N 24 0 [(0, .int 5)] [] yA (fun yu A1 => yu = some (.int 2) ∧ A1 = yA) := b_abv5 ⟨rfl, rfl⟩

theorem b_abv6 {N : Nat} {yA : AW} {yQ : Option Value → AW → Prop} 
    (l1 : yQ (some (.int 4)) yA) :
    Pa N 24 0 [(0, .int 6)] [] yA yQ := by
  refine Pa.mp 1 (pc' := 1) (l' := [(0, .int 6)]) (st' := [.int 6]) (by rfl) ?_
  refine Pa.if1k false (by rfl) (by rfl) (by decide) ?_
  show Pa N 24 4 [(0, .int 6)] [] yA _
  refine Pa.mp 1 (pc' := 5) (l' := [(0, .int 6)]) (st' := [.int 6]) (by rfl) ?_
  refine Pa.ic (x := 7) (pc' := 7) (by rfl) (by rfl) (by decide) ?_
  refine Pa.if2k false (by rfl) (by rfl) (by decide) ?_
  show Pa N 24 10 [(0, .int 6)] [] yA _
  refine Pa.cst (pc' := 13) (l' := [(0, .int 6)]) (st' := [.retAddr 1]) (by rfl) (fun _ _ _ => by rfl) ?_
  refine Pa.mp 1 (pc' := 14) (l' := [(0, .int 6)]) (st' := [.int 6, .retAddr 1]) (by rfl) ?_
  refine Pa.xld (v := 4) (by rfl) (by decide) (by rfl) (fun h1 => ?_)
  refine Pa.mp 1 (pc' := 19) (l' := [(0, .int 6)]) (st' := [.int 4]) (by rfl) ?_
  refine Pa.iret (by rfl) ?_
  exact l1
theorem c_abv6 (N : Nat) (yA : AW) : Pa N 24 0 [(0, .int 6)] [] yA (fun yu A1 => yu = some (.int 4) ∧ A1 = yA) := b_abv6 ⟨rfl, rfl⟩

theorem b_bod0_0 {N : Nat} {yA : AW} {yQ : Option Value → AW → Prop} 
    (l1 : yQ (some (.int 10)) yA) :
    Pa N 37 0 [(0, .int 0), (1, .int 0)] [] yA yQ := by
  refine Pa.mp 1 (pc' := 1) (l' := [(0, .int 0), (1, .int 0)]) (st' := [.int 0]) (by rfl) ?_
  refine Pa.ic (x := 7) (pc' := 3) (by rfl) (by rfl) (by decide) ?_
  refine Pa.mp 5 (pc' := 8) (l' := [(2, .int 0), (0, .int 0), (1, .int 0)]) (st' := [.int 0]) (by rfl) ?_
  refine Pa.if1k false (by rfl) (by rfl) (by decide) ?_
  show Pa N 37 11 [(2, .int 0), (0, .int 0), (1, .int 0)] [] yA _
  refine Pa.mp 1 (pc' := 12) (l' := [(2, .int 0), (0, .int 0), (1, .int 0)]) (st' := [.int 0]) (by rfl) ?_
  refine Pa.ic (x := 7) (pc' := 14) (by rfl) (by rfl) (by decide) ?_
  refine Pa.if2k false (by rfl) (by rfl) (by decide) ?_
  show Pa N 37 17 [(2, .int 0), (0, .int 0), (1, .int 0)] [] yA _
  refine Pa.mp 1 (pc' := 18) (l' := [(2, .int 0), (0, .int 0), (1, .int 0)]) (st' := [.int 0]) (by rfl) ?_
  refine Pa.if1k false (by rfl) (by rfl) (by decide) ?_
  show Pa N 37 21 [(2, .int 0), (0, .int 0), (1, .int 0)] [] yA _
  refine Pa.mp 1 (pc' := 22) (l' := [(2, .int 0), (0, .int 0), (1, .int 0)]) (st' := [.int 0]) (by rfl) ?_
  refine Pa.cst (pc' := 25) (l' := [(2, .int 0), (0, .int 0), (1, .int 0)]) (st' := [.retAddr 2, .int 0]) (by rfl) (fun _ _ _ => by rfl) ?_
  refine Pa.lenx (x := 21) (by rfl) (by decide) (by decide) ?_
  refine Pa.if2k false (by rfl) (by rfl) (by decide) ?_
  show Pa N 37 29 [(2, .int 0), (0, .int 0), (1, .int 0)] [] yA _
  refine Pa.cst (pc' := 32) (l' := [(2, .int 0), (0, .int 0), (1, .int 0)]) (st' := [.retAddr 2]) (by rfl) (fun _ _ _ => by rfl) ?_
  refine Pa.mp 1 (pc' := 33) (l' := [(2, .int 0), (0, .int 0), (1, .int 0)]) (st' := [.int 0, .retAddr 2]) (by rfl) ?_
  refine Pa.xld (v := 10) (by rfl) (by decide) (by rfl) (fun h1 => ?_)
  refine Pa.mp 1 (pc' := 38) (l' := [(2, .int 0), (0, .int 0), (1, .int 0)]) (st' := [.int 10]) (by rfl) ?_
  refine Pa.iret (by rfl) ?_
  exact l1
theorem c_bod0_0 (N : Nat) (yA : AW) : Pa N 37 0 [(0, .int 0), (1, .int 0)] [] yA (fun yu A1 => yu = some (.int 10) ∧ A1 = yA) := b_bod0_0 ⟨rfl, rfl⟩

theorem b_bod0_1 {N : Nat} {yA : AW} {yQ : Option Value → AW → Prop} 
    (l1 : yQ (some (.int 0)) yA) :
    Pa N 37 0 [(0, .int 0), (1, .int 1)] [] yA yQ := by
  refine Pa.mp 1 (pc' := 1) (l' := [(0, .int 0), (1, .int 1)]) (st' := [.int 0]) (by rfl) ?_
  refine Pa.ic (x := 7) (pc' := 3) (by rfl) (by rfl) (by decide) ?_
  refine Pa.mp 5 (pc' := 8) (l' := [(2, .int 1), (0, .int 0), (1, .int 1)]) (st' := [.int 1]) (by rfl) ?_
  refine Pa.if1k false (by rfl) (by rfl) (by decide) ?_
  show Pa N 37 11 [(2, .int 1), (0, .int 0), (1, .int 1)] [] yA _
  refine Pa.mp 1 (pc' := 12) (l' := [(2, .int 1), (0, .int 0), (1, .int 1)]) (st' := [.int 1]) (by rfl) ?_
  refine Pa.ic (x := 7) (pc' := 14) (by rfl) (by rfl) (by decide) ?_
  refine Pa.if2k false (by rfl) (by rfl) (by decide) ?_
  show Pa N 37 17 [(2, .int 1), (0, .int 0), (1, .int 1)] [] yA _
  refine Pa.mp 1 (pc' := 18) (l' := [(2, .int 1), (0, .int 0), (1, .int 1)]) (st' := [.int 1]) (by rfl) ?_
  refine Pa.if1k false (by rfl) (by rfl) (by decide) ?_
  show Pa N 37 21 [(2, .int 1), (0, .int 0), (1, .int 1)] [] yA _
  refine Pa.mp 1 (pc' := 22) (l' := [(2, .int 1), (0, .int 0), (1, .int 1)]) (st' := [.int 1]) (by rfl) ?_
  refine Pa.cst (pc' := 25) (l' := [(2, .int 1), (0, .int 0), (1, .int 1)]) (st' := [.retAddr 2, .int 1]) (by rfl) (fun _ _ _ => by rfl) ?_
  refine Pa.lenx (x := 21) (by rfl) (by decide) (by decide) ?_
  refine Pa.if2k false (by rfl) (by rfl) (by decide) ?_
  show Pa N 37 29 [(2, .int 1), (0, .int 0), (1, .int 1)] [] yA _
  refine Pa.cst (pc' := 32) (l' := [(2, .int 1), (0, .int 0), (1, .int 1)]) (st' := [.retAddr 2]) (by rfl) (fun _ _ _ => by rfl) ?_
  refine Pa.mp 1 (pc' := 33) (l' := [(2, .int 1), (0, .int 0), (1, .int 1)]) (st' := [.int 1, .retAddr 2]) (by rfl) ?_
  refine Pa.xld (v := 0) (by rfl) (by decide) (by rfl) (fun h1 => ?_)
  refine Pa.mp 1 (pc' := 38) (l' := [(2, .int 1), (0, .int 0), (1, .int 1)]) (st' := [.int 0]) (by rfl) ?_
  refine Pa.iret (by rfl) ?_
  exact l1
theorem c_bod0_1 (N : Nat) (yA : AW) : Pa N 37 0 [(0, .int 0), (1, .int 1)] [] yA (fun yu A1 => yu = some (.int 0) ∧ A1 = yA) := b_bod0_1 ⟨rfl, rfl⟩

theorem b_bod0_2 {N : Nat} {yA : AW} {yQ : Option Value → AW → Prop} 
    (l1 : yQ (some (.int 30)) yA) :
    Pa N 37 0 [(0, .int 0), (1, .int 2)] [] yA yQ := by
  refine Pa.mp 1 (pc' := 1) (l' := [(0, .int 0), (1, .int 2)]) (st' := [.int 0]) (by rfl) ?_
  refine Pa.ic (x := 7) (pc' := 3) (by rfl) (by rfl) (by decide) ?_
  refine Pa.mp 5 (pc' := 8) (l' := [(2, .int 2), (0, .int 0), (1, .int 2)]) (st' := [.int 2]) (by rfl) ?_
  refine Pa.if1k false (by rfl) (by rfl) (by decide) ?_
  show Pa N 37 11 [(2, .int 2), (0, .int 0), (1, .int 2)] [] yA _
  refine Pa.mp 1 (pc' := 12) (l' := [(2, .int 2), (0, .int 0), (1, .int 2)]) (st' := [.int 2]) (by rfl) ?_
  refine Pa.ic (x := 7) (pc' := 14) (by rfl) (by rfl) (by decide) ?_
  refine Pa.if2k false (by rfl) (by rfl) (by decide) ?_
  show Pa N 37 17 [(2, .int 2), (0, .int 0), (1, .int 2)] [] yA _
  refine Pa.mp 1 (pc' := 18) (l' := [(2, .int 2), (0, .int 0), (1, .int 2)]) (st' := [.int 2]) (by rfl) ?_
  refine Pa.if1k false (by rfl) (by rfl) (by decide) ?_
  show Pa N 37 21 [(2, .int 2), (0, .int 0), (1, .int 2)] [] yA _
  refine Pa.mp 1 (pc' := 22) (l' := [(2, .int 2), (0, .int 0), (1, .int 2)]) (st' := [.int 2]) (by rfl) ?_
  refine Pa.cst (pc' := 25) (l' := [(2, .int 2), (0, .int 0), (1, .int 2)]) (st' := [.retAddr 2, .int 2]) (by rfl) (fun _ _ _ => by rfl) ?_
  refine Pa.lenx (x := 21) (by rfl) (by decide) (by decide) ?_
  refine Pa.if2k false (by rfl) (by rfl) (by decide) ?_
  show Pa N 37 29 [(2, .int 2), (0, .int 0), (1, .int 2)] [] yA _
  refine Pa.cst (pc' := 32) (l' := [(2, .int 2), (0, .int 0), (1, .int 2)]) (st' := [.retAddr 2]) (by rfl) (fun _ _ _ => by rfl) ?_
  refine Pa.mp 1 (pc' := 33) (l' := [(2, .int 2), (0, .int 0), (1, .int 2)]) (st' := [.int 2, .retAddr 2]) (by rfl) ?_
  refine Pa.xld (v := 30) (by rfl) (by decide) (by rfl) (fun h1 => ?_)
  refine Pa.mp 1 (pc' := 38) (l' := [(2, .int 2), (0, .int 0), (1, .int 2)]) (st' := [.int 30]) (by rfl) ?_
  refine Pa.iret (by rfl) ?_
  exact l1
theorem c_bod0_2 (N : Nat) (yA : AW) : Pa N 37 0 [(0, .int 0), (1, .int 2)] [] yA (fun yu A1 => yu = some (.int 30) ∧ A1 = yA) := b_bod0_2 ⟨rfl, rfl⟩

theorem b_bod0_3 {N : Nat} {yA : AW} {yQ : Option Value → AW → Prop} 
    (l1 : yQ (some (.int 0)) yA) :
    Pa N 37 0 [(0, .int 0), (1, .int 3)] [] yA yQ := by
  refine Pa.mp 1 (pc' := 1) (l' := [(0, .int 0), (1, .int 3)]) (st' := [.int 0]) (by rfl) ?_
  refine Pa.ic (x := 7) (pc' := 3) (by rfl) (by rfl) (by decide) ?_
  refine Pa.mp 5 (pc' := 8) (l' := [(2, .int 3), (0, .int 0), (1, .int 3)]) (st' := [.int 3]) (by rfl) ?_
  refine Pa.if1k false (by rfl) (by rfl) (by decide) ?_
  show Pa N 37 11 [(2, .int 3), (0, .int 0), (1, .int 3)] [] yA _
  refine Pa.mp 1 (pc' := 12) (l' := [(2, .int 3), (0, .int 0), (1, .int 3)]) (st' := [.int 3]) (by rfl) ?_
  refine Pa.ic (x := 7) (pc' := 14) (by rfl) (by rfl) (by decide) ?_
  refine Pa.if2k false (by rfl) (by rfl) (by decide) ?_
  show Pa N 37 17 [(2, .int 3), (0, .int 0), (1, .int 3)] [] yA _
  refine Pa.mp 1 (pc' := 18) (l' := [(2, .int 3), (0, .int 0), (1, .int 3)]) (st' := [.int 3]) (by rfl) ?_
  refine Pa.if1k false (by rfl) (by rfl) (by decide) ?_
  show Pa N 37 21 [(2, .int 3), (0, .int 0), (1, .int 3)] [] yA _
  refine Pa.mp 1 (pc' := 22) (l' := [(2, .int 3), (0, .int 0), (1, .int 3)]) (st' := [.int 3]) (by rfl) ?_
  refine Pa.cst (pc' := 25) (l' := [(2, .int 3), (0, .int 0), (1, .int 3)]) (st' := [.retAddr 2, .int 3]) (by rfl) (fun _ _ _ => by rfl) ?_
  refine Pa.lenx (x := 21) (by rfl) (by decide) (by decide) ?_
  refine Pa.if2k false (by rfl) (by rfl) (by decide) ?_
  show Pa N 37 29 [(2, .int 3), (0, .int 0), (1, .int 3)] [] yA _
  refine Pa.cst (pc' := 32) (l' := [(2, .int 3), (0, .int 0), (1, .int 3)]) (st' := [.retAddr 2]) (by rfl) (fun _ _ _ => by rfl) ?_
  refine Pa.mp 1 (pc' := 33) (l' := [(2, .int 3), (0, .int 0), (1, .int 3)]) (st' := [.int 3, .retAddr 2]) (by rfl) ?_
  refine Pa.xld (v := 0) (by rfl) (by decide) (by rfl) (fun h1 => ?_)
  refine Pa.mp 1 (pc' := 38) (l' := [(2, .int 3), (0, .int 0), (1, .int 3)]) (st' := [.int 0]) (by rfl) ?_
  refine Pa.iret (by rfl) ?_
  exact l1
theorem c_bod0_3 (N : Nat) (yA : AW) : Pa N 37 0 [(0, .int 0), (1, .int 3)] [] yA (fun yu A1 => yu = some (.int 0) ∧ A1 = yA) := b_bod0_3 ⟨rfl, rfl⟩

theorem b_bod0_4 {N : Nat} {yA : AW} {yQ : Option Value → AW → Prop} 
    (l1 : yQ (some (.int 0)) yA) :
    Pa N 37 0 [(0, .int 0), (1, .int 4)] [] yA yQ := by
  refine Pa.mp 1 (pc' := 1) (l' := [(0, .int 0), (1, .int 4)]) (st' := [.int 0]) (by rfl) ?_
  refine Pa.ic (x := 7) (pc' := 3) (by rfl) (by rfl) (by decide) ?_
  refine Pa.mp 5 (pc' := 8) (l' := [(2, .int 4), (0, .int 0), (1, .int 4)]) (st' := [.int 4]) (by rfl) ?_
  refine Pa.if1k false (by rfl) (by rfl) (by decide) ?_
  show Pa N 37 11 [(2, .int 4), (0, .int 0), (1, .int 4)] [] yA _
  refine Pa.mp 1 (pc' := 12) (l' := [(2, .int 4), (0, .int 0), (1, .int 4)]) (st' := [.int 4]) (by rfl) ?_
  refine Pa.ic (x := 7) (pc' := 14) (by rfl) (by rfl) (by decide) ?_
  refine Pa.if2k false (by rfl) (by rfl) (by decide) ?_
  show Pa N 37 17 [(2, .int 4), (0, .int 0), (1, .int 4)] [] yA _
  refine Pa.mp 1 (pc' := 18) (l' := [(2, .int 4), (0, .int 0), (1, .int 4)]) (st' := [.int 4]) (by rfl) ?_
  refine Pa.if1k false (by rfl) (by rfl) (by decide) ?_
  show Pa N 37 21 [(2, .int 4), (0, .int 0), (1, .int 4)] [] yA _
  refine Pa.mp 1 (pc' := 22) (l' := [(2, .int 4), (0, .int 0), (1, .int 4)]) (st' := [.int 4]) (by rfl) ?_
  refine Pa.cst (pc' := 25) (l' := [(2, .int 4), (0, .int 0), (1, .int 4)]) (st' := [.retAddr 2, .int 4]) (by rfl) (fun _ _ _ => by rfl) ?_
  refine Pa.lenx (x := 21) (by rfl) (by decide) (by decide) ?_
  refine Pa.if2k false (by rfl) (by rfl) (by decide) ?_
  show Pa N 37 29 [(2, .int 4), (0, .int 0), (1, .int 4)] [] yA _
  refine Pa.cst (pc' := 32) (l' := [(2, .int 4), (0, .int 0), (1, .int 4)]) (st' := [.retAddr 2]) (by rfl) (fun _ _ _ => by rfl) ?_
  refine Pa.mp 1 (pc' := 33) (l' := [(2, .int 4), (0, .int 0), (1, .int 4)]) (st' := [.int 4, .retAddr 2]) (by rfl) ?_
  refine Pa.xld (v := 0) (by rfl) (by decide) (by rfl) (fun h1 => ?_)
  refine Pa.mp 1 (pc' := 38) (l' := [(2, .int 4), (0, .int 0), (1, .int 4)]) (st' := [.int 0]) (by rfl) ?_
  refine Pa.iret (by rfl) ?_
  exact l1
theorem c_bod0_4 (N : Nat) (yA : AW) : Pa N 37 0 [(0, .int 0), (1, .int 4)] [] yA (fun yu A1 => yu = some (.int 0) ∧ A1 = yA) := b_bod0_4 ⟨rfl, rfl⟩

theorem b_bod0_5 {N : Nat} {yA : AW} {yQ : Option Value → AW → Prop} 
    (l1 : yQ (some (.int 60)) yA) :
    Pa N 37 0 [(0, .int 0), (1, .int 5)] [] yA yQ := by
  refine Pa.mp 1 (pc' := 1) (l' := [(0, .int 0), (1, .int 5)]) (st' := [.int 0]) (by rfl) ?_
  refine Pa.ic (x := 7) (pc' := 3) (by rfl) (by rfl) (by decide) ?_
  refine Pa.mp 5 (pc' := 8) (l' := [(2, .int 5), (0, .int 0), (1, .int 5)]) (st' := [.int 5]) (by rfl) ?_
  refine Pa.if1k false (by rfl) (by rfl) (by decide) ?_
  show Pa N 37 11 [(2, .int 5), (0, .int 0), (1, .int 5)] [] yA _
  refine Pa.mp 1 (pc' := 12) (l' := [(2, .int 5), (0, .int 0), (1, .int 5)]) (st' := [.int 5]) (by rfl) ?_
  refine Pa.ic (x := 7) (pc' := 14) (by rfl) (by rfl) (by decide) ?_
  refine Pa.if2k false (by rfl) (by rfl) (by decide) ?_
  show Pa N 37 17 [(2, .int 5), (0, .int 0), (1, .int 5)] [] yA _
  refine Pa.mp 1 (pc' := 18) (l' := [(2, .int 5), (0, .int 0), (1, .int 5)]) (st' := [.int 5]) (by rfl) ?_
  refine Pa.if1k false (by rfl) (by rfl) (by decide) ?_
  show Pa N 37 21 [(2, .int 5), (0, .int 0), (1, .int 5)] [] yA _
  refine Pa.mp 1 (pc' := 22) (l' := [(2, .int 5), (0, .int 0), (1, .int 5)]) (st' := [.int 5]) (by rfl) ?_
  refine Pa.cst (pc' := 25) (l' := [(2, .int 5), (0, .int 0), (1, .int 5)]) (st' := [.retAddr 2, .int 5]) (by rfl) (fun _ _ _ => by rfl) ?_
  refine Pa.lenx (x := 21) (by rfl) (by decide) (by decide) ?_
  refine Pa.if2k false (by rfl) (by rfl) (by decide) ?_
  show Pa N 37 29 [(2, .int 5), (0, .int 0), (1, .int 5)] [] yA _
  refine Pa.cst (pc' := 32) (l' := [(2, .int 5), (0, .int 0), (1, .int 5)]) (st' := [.retAddr 2]) (by rfl) (fun _ _ _ => by rfl) ?_
  refine Pa.mp 1 (pc' := 33) (l' := [(2, .int 5), (0, .int 0), (1, .int 5)]) (st' := [.int 5, .retAddr 2]) (by rfl) ?_
  refine Pa.xld (v := 60) (by rfl) (by decide) (by rfl) (fun h1 => ?_)
  refine Pa.mp 1 (pc' := 38) (l' := [(2, .int 5), (0, .int 0), (1, .int 5)]) (st' := [.int 60]) (by rfl) ?_
  refine Pa.iret (by rfl) ?_
  exact l1
theorem c_bod0_5 (N : Nat) (yA : AW) : Pa N 37 0 [(0, .int 0), (1, .int 5)] [] yA (fun yu A1 => yu = some (.int 60) ∧ A1 = yA) := b_bod0_5 ⟨rfl, rfl⟩

theorem b_bod0_6 {N : Nat} {yA : AW} {yQ : Option Value → AW → Prop} 
    (l1 : yQ (some (.int 0)) yA) :
    Pa N 37 0 [(0, .int 0), (1, .int 6)] [] yA yQ := by
  refine Pa.mp 1 (pc' := 1) (l' := [(0, .int 0), (1, .int 6)]) (st' := [.int 0]) (by rfl) ?_
  refine Pa.ic (x := 7) (pc' := 3) (by rfl) (by rfl) (by decide) ?_
  refine Pa.mp 5 (pc' := 8) (l' := [(2, .int 6), (0, .int 0), (1, .int 6)]) (st' := [.int 6]) (by rfl) ?_
  refine Pa.if1k false (by rfl) (by rfl) (by decide) ?_
  show Pa N 37 11 [(2, .int 6), (0, .int 0), (1, .int 6)] [] yA _
  refine Pa.mp 1 (pc' := 12) (l' := [(2, .int 6), (0, .int 0), (1, .int 6)]) (st' := [.int 6]) (by rfl) ?_
  refine Pa.ic (x := 7) (pc' := 14) (by rfl) (by rfl) (by decide) ?_
  refine Pa.if2k false (by rfl) (by rfl) (by decide) ?_
  show Pa N 37 17 [(2, .int 6), (0, .int 0), (1, .int 6)] [] yA _
  refine Pa.mp 1 (pc' := 18) (l' := [(2, .int 6), (0, .int 0), (1, .int 6)]) (st' := [.int 6]) (by rfl) ?_
  refine Pa.if1k false (by rfl) (by rfl) (by decide) ?_
  show Pa N 37 21 [(2, .int 6), (0, .int 0), (1, .int 6)] [] yA _
  refine Pa.mp 1 (pc' := 22) (l' := [(2, .int 6), (0, .int 0), (1, .int 6)]) (st' := [.int 6]) (by rfl) ?_
  refine Pa.cst (pc' := 25) (l' := [(2, .int 6), (0, .int 0), (1, .int 6)]) (st' := [.retAddr 2, .int 6]) (by rfl) (fun _ _ _ => by rfl) ?_
  refine Pa.lenx (x := 21) (by rfl) (by decide) (by decide) ?_
  refine Pa.if2k false (by rfl) (by rfl) (by decide) ?_
  show Pa N 37 29 [(2, .int 6), (0, .int 0), (1, .int 6)] [] yA _
  refine Pa.cst (pc' := 32) (l' := [(2, .int 6), (0, .int 0), (1, .int 6)]) (st' := [.retAddr 2]) (by rfl) (fun _ _ _ => by rfl) ?_
  refine Pa.mp 1 (pc' := 33) (l' := [(2, .int 6), (0, .int 0), (1, .int 6)]) (st' := [.int 6, .retAddr 2]) (by rfl) ?_
  refine Pa.xld (v := 0) (by rfl) (by decide) (by rfl) (fun h1 => ?_)
  refine Pa.mp 1 (pc' := 38) (l' := [(2, .int 6), (0, .int 0), (1, .int 6)]) (st' := [.int 0]) (by rfl) ?_
  refine Pa.iret (by rfl) ?_
  exact l1
theorem c_bod0_6 (N : Nat) (yA : AW) : Pa N 37 0 [(0, .int 0), (1, .int 6)] [] yA (fun yu A1 => yu = some (.int 0) ∧ A1 = yA) := b_bod0_6 ⟨rfl, rfl⟩

theorem b_bod1_0 {N : Nat} {yA : AW} {yQ : Option Value → AW → Prop} 
    (l1 : yQ (some (.int 11)) yA) :
    Pa N 37 0 [(0, .int 1), (1, .int 0)] [] yA yQ := by
  refine Pa.mp 1 (pc' := 1) (l' := [(0, .int 1), (1, .int 0)]) (st' := [.int 1]) (by rfl) ?_
  refine Pa.ic (x := 7) (pc' := 3) (by rfl) (by rfl) (by decide) ?_
  refine Pa.mp 5 (pc' := 8) (l' := [(2, .int 7), (0, .int 1), (1, .int 0)]) (st' := [.int 0]) (by rfl) ?_
  refine Pa.if1k false (by rfl) (by rfl) (by decide) ?_
  show Pa N 37 11 [(2, .int 7), (0, .int 1), (1, .int 0)] [] yA _
  refine Pa.mp 1 (pc' := 12) (l' := [(2, .int 7), (0, .int 1), (1, .int 0)]) (st' := [.int 0]) (by rfl) ?_
  refine Pa.ic (x := 7) (pc' := 14) (by rfl) (by rfl) (by decide) ?_
  refine Pa.if2k false (by rfl) (by rfl) (by decide) ?_
  show Pa N 37 17 [(2, .int 7), (0, .int 1), (1, .int 0)] [] yA _
  refine Pa.mp 1 (pc' := 18) (l' := [(2, .int 7), (0, .int 1), (1, .int 0)]) (st' := [.int 7]) (by rfl) ?_
  refine Pa.if1k false (by rfl) (by rfl) (by decide) ?_
  show Pa N 37 21 [(2, .int 7), (0, .int 1), (1, .int 0)] [] yA _
  refine Pa.mp 1 (pc' := 22) (l' := [(2, .int 7), (0, .int 1), (1, .int 0)]) (st' := [.int 7]) (by rfl) ?_
  refine Pa.cst (pc' := 25) (l' := [(2, .int 7), (0, .int 1), (1, .int 0)]) (st' := [.retAddr 2, .int 7]) (by rfl) (fun _ _ _ => by rfl) ?_
  refine Pa.lenx (x := 21) (by rfl) (by decide) (by decide) ?_
  refine Pa.if2k false (by rfl) (by rfl) (by decide) ?_
  show Pa N 37 29 [(2, .int 7), (0, .int 1), (1, .int 0)] [] yA _
  refine Pa.cst (pc' := 32) (l' := [(2, .int 7), (0, .int 1), (1, .int 0)]) (st' := [.retAddr 2]) (by rfl) (fun _ _ _ => by rfl) ?_
  refine Pa.mp 1 (pc' := 33) (l' := [(2, .int 7), (0, .int 1), (1, .int 0)]) (st' := [.int 7, .retAddr 2]) (by rfl) ?_
  refine Pa.xld (v := 11) (by rfl) (by decide) (by rfl) (fun h1 => ?_)
  refine Pa.mp 1 (pc' := 38) (l' := [(2, .int 7), (0, .int 1), (1, .int 0)]) (st' := [.int 11]) (by rfl) ?_
  refine Pa.iret (by rfl) ?_
  exact l1
theorem c_bod1_0 (N : Nat) (yA : AW) : Pa N 37 0 [(0, .int 1), (1, .int 0)] [] yA (fun yu A1 => yu = some (.int 11) ∧ A1 = yA) := b_bod1_0 ⟨rfl, rfl⟩

theorem b_bod1_1 {N : Nat} {yA : AW} {yQ : Option Value → AW → Prop} 
    (l1 : yQ (some (.int 20)) yA) :
    Pa N 37 0 [(0, .int 1), (1, .int 1)] [] yA yQ := by
  refine Pa.mp 1 (pc' := 1) (l' := [(0, .int 1), (1, .int 1)]) (st' := [.int 1]) (by rfl) ?_
  refine Pa.ic (x := 7) (pc' := 3) (by rfl) (by rfl) (by decide) ?_
  refine Pa.mp 5 (pc' := 8) (l' := [(2, .int 8), (0, .int 1), (1, .int 1)]) (st' := [.int 1]) (by rfl) ?_
  refine Pa.if1k false (by rfl) (by rfl) (by decide) ?_
  show Pa N 37 11 [(2, .int 8), (0, .int 1), (1, .int 1)] [] yA _
  refine Pa.mp 1 (pc' := 12) (l' := [(2, .int 8), (0, .int 1), (1, .int 1)]) (st' := [.int 1]) (by rfl) ?_
  refine Pa.ic (x := 7) (pc' := 14) (by rfl) (by rfl) (by decide) ?_
  refine Pa.if2k false (by rfl) (by rfl) (by decide) ?_
  show Pa N 37 17 [(2, .int 8), (0, .int 1), (1, .int 1)] [] yA _
  refine Pa.mp 1 (pc' := 18) (l' := [(2, .int 8), (0, .int 1), (1, .int 1)]) (st' := [.int 8]) (by rfl) ?_
  refine Pa.if1k false (by rfl) (by rfl) (by decide) ?_
  show Pa N 37 21 [(2, .int 8), (0, .int 1), (1, .int 1)] [] yA _
  refine Pa.mp 1 (pc' := 22) (l' := [(2, .int 8), (0, .int 1), (1, .int 1)]) (st' := [.int 8]) (by rfl) ?_
  refine Pa.cst (pc' := 25) (l' := [(2, .int 8), (0, .int 1), (1, .int 1)]) (st' := [.retAddr 2, .int 8]) (by rfl) (fun _ _ _ => by rfl) ?_
  refine Pa.lenx (x := 21) (by rfl) (by decide) (by decide) ?_
  refine Pa.if2k false (by rfl) (by rfl) (by decide) ?_
  show Pa N 37 29 [(2, .int 8), (0, .int 1), (1, .int 1)] [] yA _
  refine Pa.cst (pc' := 32) (l' := [(2, .int 8), (0, .int 1), (1, .int 1)]) (st' := [.retAddr 2]) (by rfl) (fun _ _ _ => by rfl) ?_
  refine Pa.mp 1 (pc' := 33) (l' := [(2, .int 8), (0, .int 1), (1, .int 1)]) (st' := [.int 8, .retAddr 2]) (by rfl) ?_
  refine Pa.xld (v := 20) (by rfl) (by decide) (by rfl) (fun h1 => ?_)
  refine Pa.mp 1 (pc' := 38) (l' := [(2, .int 8), (0, .int 1), (1, .int 1)]) (st' := [.int 20]) (by rfl) ?_
  refine Pa.iret (by rfl) ?_
  exact l1
theorem c_bod1_1 (N : Nat) (yA : AW) : Pa N 37 0 [(0, .int 1), (1, .int 1)] [] yA (fun yu A1 => yu = some (.int 20) ∧ A1 = yA) := b_bod1_1 ⟨rfl, rfl⟩

theorem b_bod1_2 {N : Nat} {yA : AW} {yQ : Option Value → AW → Prop} 
    (l1 : yQ (some (.int 0)) yA) :
    Pa N 37 0 [(0, .int 1), (1, .int 2)] [] yA yQ := by
  refine Pa.mp 1 (pc' := 1) (l' := [(0, .int 1), (1, .int 2)]) (st' := [.int 1]) (by rfl) ?_
  refine Pa.ic (x := 7) (pc' := 3) (by rfl) (by rfl) (by decide) ?_
  refine Pa.mp 5 (pc' := 8) (l' := [(2, .int 9), (0, .int 1), (1, .int 2)]) (st' := [.int 2]) (by rfl) ?_
  refine Pa.if1k false (by rfl) (by rfl) (by decide) ?_
  show Pa N 37 11 [(2, .int 9), (0, .int 1), (1, .int 2)] [] yA _
  refine Pa.mp 1 (pc' := 12) (l' := [(2, .int 9), (0, .int 1), (1, .int 2)]) (st' := [.int 2]) (by rfl) ?_
  refine Pa.ic (x := 7) (pc' := 14) (by rfl) (by rfl) (by decide) ?_
  refine Pa.if2k false (by rfl) (by rfl) (by decide) ?_
  show Pa N 37 17 [(2, .int 9), (0, .int 1), (1, .int 2)] [] yA _
  refine Pa.mp 1 (pc' := 18) (l' := [(2, .int 9), (0, .int 1), (1, .int 2)]) (st' := [.int 9]) (by rfl) ?_
  refine Pa.if1k false (by rfl) (by rfl) (by decide) ?_
  show Pa N 37 21 [(2, .int 9), (0, .int 1), (1, .int 2)] [] yA _
  refine Pa.mp 1 (pc' := 22) (l' := [(2, .int 9), (0, .int 1), (1, .int 2)]) (st' := [.int 9]) (by rfl) ?_
  refine Pa.cst (pc' := 25) (l' := [(2, .int 9), (0, .int 1), (1, .int 2)]) (st' := [.retAddr 2, .int 9]) (by rfl) (fun _ _ _ => by rfl) ?_
  refine Pa.lenx (x := 21) (by rfl) (by decide) (by decide) ?_
  refine Pa.if2k false (by rfl) (by rfl) (by decide) ?_
  show Pa N 37 29 [(2, .int 9), (0, .int 1), (1, .int 2)] [] yA _
  refine Pa.cst (pc' := 32) (l' := [(2, .int 9), (0, .int 1), (1, .int 2)]) (st' := [.retAddr 2]) (by rfl) (fun _ _ _ => by rfl) ?_
  refine Pa.mp 1 (pc' := 33) (l' := [(2, .int 9), (0, .int 1), (1, .int 2)]) (st' := [.int 9, .retAddr 2]) (by rfl) ?_
  refine Pa.xld (v := 0) (by rfl) (by decide) (by rfl) (fun h1 => ?_)
  refine Pa.mp 1 (pc' := 38) (l' := [(2, .int 9), (0, .int 1), (1, .int 2)]) (st' := [.int 0]) (by rfl) ?_
  refine Pa.iret (by rfl) ?_
  exact l1
theorem c_bod1_2 (N : Nat) (yA : AW) : Pa N 37 0 [(0, .int 1), (1, .int 2)] [] yA (fun yu A1 => yu = some (.int 0) ∧ A1 = yA) := b_bod1_2 ⟨rfl, rfl⟩

theorem b_bod1_3 {N : Nat} {yA : AW} {yQ : Option Value → AW → Prop} 
    (l1 : yQ (some (.int 0)) yA) :
    Pa N 37 0 [(0, .int 1), (1, .int 3)] [] yA yQ := by
  refine Pa.mp 1 (pc' := 1) (l' := [(0, .int 1), (1, .int 3)]) (st' := [.int 1]) (by rfl) ?_
  refine Pa.ic (x := 7) (pc' := 3) (by rfl) (by rfl) (by decide) ?_
  refine Pa.mp 5 (pc' := 8) (l' := [(2, .int 10), (0, .int 1), (1, .int 3)]) (st' := [.int 3]) (by rfl) ?_
  refine Pa.if1k false (by rfl) (by rfl) (by decide) ?_
  show Pa N 37 11 [(2, .int 10), (0, .int 1), (1, .int 3)] [] yA _
  refine Pa.mp 1 (pc' := 12) (l' := [(2, .int 10), (0, .int 1), (1, .int 3)]) (st' := [.int 3]) (by rfl) ?_
  refine Pa.ic (x := 7) (pc' := 14) (by rfl) (by rfl) (by decide) ?_
  refine Pa.if2k false (by rfl) (by rfl) (by decide) ?_
  show Pa N 37 17 [(2, .int 10), (0, .int 1), (1, .int 3)] [] yA _
  refine Pa.mp 1 (pc' := 18) (l' := [(2, .int 10), (0, .int 1), (1, .int 3)]) (st' := [.int 10]) (by rfl) ?_
  refine Pa.if1k false (by rfl) (by rfl) (by decide) ?_
  show Pa N 37 21 [(2, .int 10), (0, .int 1), (1, .int 3)] [] yA _
  refine Pa.mp 1 (pc' := 22) (l' := [(2, .int 10), (0, .int 1), (1, .int 3)]) (st' := [.int 10]) (by rfl) ?_
  refine Pa.cst (pc' := 25) (l' := [(2, .int 10), (0, .int 1), (1, .int 3)]) (st' := [.retAddr 2, .int 10]) (by rfl) (fun _ _ _ => by rfl) ?_
  refine Pa.lenx (x := 21) (by rfl) (by decide) (by decide) ?_
  refine Pa.if2k false (by rfl) (by rfl) (by decide) ?_
  show Pa N 37 29 [(2, .int 10), (0, .int 1), (1, .int 3)] [] yA _
  refine Pa.cst (pc' := 32) (l' := [(2, .int 10), (0, .int 1), (1, .int 3)]) (st' := [.retAddr 2]) (by rfl) (fun _ _ _ => by rfl) ?_
  refine Pa.mp 1 (pc' := 33) (l' := [(2, .int 10), (0, .int 1), (1, .int 3)]) (st' := [.int 10, .retAddr 2]) (by rfl) ?_
  refine Pa.xld (v := 0) (by rfl) (by decide) (by rfl) (fun h1 => ?_)
  refine Pa.mp 1 (pc' := 38) (l' := [(2, .int 10), (0, .int 1), (1, .int 3)]) (st' := [.int 0]) (by rfl) ?_
  refine Pa.iret (by rfl) ?_
  exact l1
theorem c_bod1_3 (N : Nat) (yA : AW) : Pa N 37 0 [(0, .int 1), (1, .int 3)] [] yA (fun yu A1 => yu = some (.int 0) ∧ A1 = yA) := b_bod1_3 ⟨rfl, rfl⟩

theorem b_bod1_4 {N : Nat} {yA : AW} {yQ : Option Value → AW → Prop} 
    (l1 : yQ (some (.int 50)) yA) :
    Pa N 37 0 [(0, .int 1), (1, .int 4)] [] yA yQ := by
  refine Pa.mp 1 (pc' := 1) (l' := [(0, .int 1), (1, .int 4)]) (st' := [.int 1]) (by rfl) ?_
  refine Pa.ic (x := 7) (pc' := 3) (by rfl) (by rfl) (by decide) ?_
  refine Pa.mp 5 (pc' := 8) (l' := [(2, .int 11), (0, .int 1), (1, .int 4)]) (st' := [.int 4]) (by rfl) ?_
  refine Pa.if1k false (by rfl) (by rfl) (by decide) ?_
  show Pa N 37 11 [(2, .int 11), (0, .int 1), (1, .int 4)] [] yA _
  refine Pa.mp 1 (pc' := 12) (l' := [(2, .int 11), (0, .int 1), (1, .int 4)]) (st' := [.int 4]) (by rfl) ?_
  refine Pa.ic (x := 7) (pc' := 14) (by rfl) (by rfl) (by decide) ?_
  refine Pa.if2k false (by rfl) (by rfl) (by decide) ?_
  show Pa N 37 17 [(2, .int 11), (0, .int 1), (1, .int 4)] [] yA _
  refine Pa.mp 1 (pc' := 18) (l' := [(2, .int 11), (0, .int 1), (1, .int 4)]) (st' := [.int 11]) (by rfl) ?_
  refine Pa.if1k false (by rfl) (by rfl) (by decide) ?_
  show Pa N 37 21 [(2, .int 11), (0, .int 1), (1, .int 4)] [] yA _
  refine Pa.mp 1 (pc' := 22) (l' := [(2, .int 11), (0, .int 1), (1, .int 4)]) (st' := [.int 11]) (by rfl) ?_
  refine Pa.cst (pc' := 25) (l' := [(2, .int 11), (0, .int 1), (1, .int 4)]) (st' := [.retAddr 2, .int 11]) (by rfl) (fun _ _ _ => by rfl) ?_
  refine Pa.lenx (x := 21) (by rfl) (by decide) (by decide) ?_
  refine Pa.if2k false (by rfl) (by rfl) (by decide) ?_
  show Pa N 37 29 [(2, .int 11), (0, .int 1), (1, .int 4)] [] yA _
  refine Pa.cst (pc' := 32) (l' := [(2, .int 11), (0, .int 1), (1, .int 4)]) (st' := [.retAddr 2]) (by rfl) (fun _ _ _ => by rfl) ?_
  refine Pa.mp 1 (pc' := 33) (l' := [(2, .int 11), (0, .int 1), (1, .int 4)]) (st' := [.int 11, .retAddr 2]) (by rfl) ?_
  refine Pa.xld (v := 50) (by rfl) (by decide) (by rfl) (fun h1 => ?_)
  refine Pa.mp 1 (pc' := 38) (l' := [(2, .int 11), (0, .int 1), (1, .int 4)]) (st' := [.int 50]) (by rfl) ?_
  refine Pa.iret (by rfl) ?_
  exact l1
theorem c_bod1_4 (N : Nat) (yA : AW) : Pa N 37 0 [(0, .int 1), (1, .int 4)] [] yA (fun yu A1 => yu = some (.int 50) ∧ A1 = yA) := b_bod1_4 ⟨rfl, rfl⟩

theorem b_bod1_5 {N : Nat} {yA : AW} {yQ : Option Value → AW → Prop} 
    (l1 : yQ (some (.int 0)) yA) :
    Pa N 37 0 [(0, .int 1), (1, .int 5)] [] yA yQ := by
  refine Pa.mp 1 (pc' := 1) (l' := [(0, .int 1), (1, .int 5)]) (st' := [.int 1]) (by rfl) ?_
  refine Pa.ic (x := 7) (pc' := 3) (by rfl) (by rfl) (by decide) ?_
  refine Pa.mp 5 (pc' := 8) (l' := [(2, .int 12), (0, .int 1), (1, .int 5)]) (st' := [.int 5]) (by rfl) ?_
  refine Pa.if1k false (by rfl) (by rfl) (by decide) ?_
  show Pa N 37 11 [(2, .int 12), (0, .int 1), (1, .int 5)] [] yA _
  refine Pa.mp 1 (pc' := 12) (l' := [(2, .int 12), (0, .int 1), (1, .int 5)]) (st' := [.int 5]) (by rfl) ?_
  refine Pa.ic (x := 7) (pc' := 14) (by rfl) (by rfl) (by decide) ?_
  refine Pa.if2k false (by rfl) (by rfl) (by decide) ?_
  show Pa N 37 17 [(2, .int 12), (0, .int 1), (1, .int 5)] [] yA _
  refine Pa.mp 1 (pc' := 18) (l' := [(2, .int 12), (0, .int 1), (1, .int 5)]) (st' := [.int 12]) (by rfl) ?_
  refine Pa.if1k false (by rfl) (by rfl) (by decide) ?_
  show Pa N 37 21 [(2, .int 12), (0, .int 1), (1, .int 5)] [] yA _
  refine Pa.mp 1 (pc' := 22) (l' := [(2, .int 12), (0, .int 1), (1, .int 5)]) (st' := [.int 12]) (by rfl) ?_
  refine Pa.cst (pc' := 25) (l' := [(2, .int 12), (0, .int 1), (1, .int 5)]) (st' := [.retAddr 2, .int 12]) (by rfl) (fun _ _ _ => by rfl) ?_
  refine Pa.lenx (x := 21) (by rfl) (by decide) (by decide) ?_
  refine Pa.if2k false (by rfl) (by rfl) (by decide) ?_
  show Pa N 37 29 [(2, .int 12), (0, .int 1), (1, .int 5)] [] yA _
  refine Pa.cst (pc' := 32) (l' := [(2, .int 12), (0, .int 1), (1, .int 5)]) (st' := [.retAddr 2]) (by rfl) (fun _ _ _ => by rfl) ?_
  refine Pa.mp 1 (pc' := 33) (l' := [(2, .int 12), (0, .int 1), (1, .int 5)]) (st' := [.int 12, .retAddr 2]) (by rfl) ?_
  refine Pa.xld (v := 0) (by rfl) (by decide) (by rfl) (fun h1 => ?_)
  refine Pa.mp 1 (pc' := 38) (l' := [(2, .int 12), (0, .int 1), (1, .int 5)]) (st' := [.int 0]) (by rfl) ?_
  refine Pa.iret (by rfl) ?_
  exact l1
theorem c_bod1_5 (N : Nat) (yA : AW) : Pa N 37 0 [(0, .int 1), (1, .int 5)] [] yA (fun yu A1 => yu = some (.int 0) ∧ A1 = yA) := b_bod1_5 ⟨rfl, rfl⟩

theorem b_bod1_6 {N : Nat} {yA : AW} {yQ : Option Value → AW → Prop} 
    (l1 : yQ (some (.int 70)) yA) :
    Pa N 37 0 [(0, .int 1), (1, .int 6)] [] yA yQ := by
  refine Pa.mp 1 (pc' := 1) (l' := [(0, .int 1), (1, .int 6)]) (st' := [.int 1]) (by rfl) ?_
  refine Pa.ic (x := 7) (pc' := 3) (by rfl) (by rfl) (by decide) ?_
  refine Pa.mp 5 (pc' := 8) (l' := [(2, .int 13), (0, .int 1), (1, .int 6)]) (st' := [.int 6]) (by rfl) ?_
  refine Pa.if1k false (by rfl) (by rfl) (by decide) ?_
  show Pa N 37 11 [(2, .int 13), (0, .int 1), (1, .int 6)] [] yA _
  refine Pa.mp 1 (pc' := 12) (l' := [(2, .int 13), (0, .int 1), (1, .int 6)]) (st' := [.int 6]) (by rfl) ?_
  refine Pa.ic (x := 7) (pc' := 14) (by rfl) (by rfl) (by decide) ?_
  refine Pa.if2k false (by rfl) (by rfl) (by decide) ?_
  show Pa N 37 17 [(2, .int 13), (0, .int 1), (1, .int 6)] [] yA _
  refine Pa.mp 1 (pc' := 18) (l' := [(2, .int 13), (0, .int 1), (1, .int 6)]) (st' := [.int 13]) (by rfl) ?_
  refine Pa.if1k false (by rfl) (by rfl) (by decide) ?_
  show Pa N 37 21 [(2, .int 13), (0, .int 1), (1, .int 6)] [] yA _
  refine Pa.mp 1 (pc' := 22) (l' := [(2, .int 13), (0, .int 1), (1, .int 6)]) (st' := [.int 13]) (by rfl) ?_
  refine Pa.cst (pc' := 25) (l' := [(2, .int 13), (0, .int 1), (1, .int 6)]) (st' := [.retAddr 2, .int 13]) (by rfl) (fun _ _ _ => by rfl) ?_
  refine Pa.lenx (x := 21) (by rfl) (by decide) (by decide) ?_
  refine Pa.if2k false (by rfl) (by rfl) (by decide) ?_
  show Pa N 37 29 [(2, .int 13), (0, .int 1), (1, .int 6)] [] yA _
  refine Pa.cst (pc' := 32) (l' := [(2, .int 13), (0, .int 1), (1, .int 6)]) (st' := [.retAddr 2]) (by rfl) (fun _ _ _ => by rfl) ?_
  refine Pa.mp 1 (pc' := 33) (l' := [(2, .int 13), (0, .int 1), (1, .int 6)]) (st' := [.int 13, .retAddr 2]) (by rfl) ?_
  refine Pa.xld (v := 70) (by rfl) (by decide) (by rfl) (fun h1 => ?_)
  refine Pa.mp 1 (pc' := 38) (l' := [(2, .int 13), (0, .int 1), (1, .int 6)]) (st' := [.int 70]) (by rfl) ?_
  refine Pa.iret (by rfl) ?_
  exact l1
theorem c_bod1_6 (N : Nat) (yA : AW) : Pa N 37 0 [(0, .int 1), (1, .int 6)] [] yA (fun yu A1 => yu = some (.int 70) ∧ A1 = yA) := b_bod1_6 ⟨rfl, rfl⟩

theorem b_bod2_0 {N : Nat} {yA : AW} {yQ : Option Value → AW → Prop} 
    (l1 : yQ (some (.int 12)) yA) :
    Pa N 37 0 [(0, .int 2), (1, .int 0)] [] yA yQ := by
  refine Pa.mp 1 (pc' := 1) (l' := [(0, .int 2), (1, .int 0)]) (st' := [.int 2]) (by rfl) ?_
  refine Pa.ic (x := 7) (pc' := 3) (by rfl) (by rfl) (by decide) ?_
  refine Pa.mp 5 (pc' := 8) (l' := [(2, .int 14), (0, .int 2), (1, .int 0)]) (st' := [.int 0]) (by rfl) ?_
  refine Pa.if1k false (by rfl) (by rfl) (by decide) ?_
  show Pa N 37 11 [(2, .int 14), (0, .int 2), (1, .int 0)] [] yA _
  refine Pa.mp 1 (pc' := 12) (l' := [(2, .int 14), (0, .int 2), (1, .int 0)]) (st' := [.int 0]) (by rfl) ?_
  refine Pa.ic (x := 7) (pc' := 14) (by rfl) (by rfl) (by decide) ?_
  refine Pa.if2k false (by rfl) (by rfl) (by decide) ?_
  show Pa N 37 17 [(2, .int 14), (0, .int 2), (1, .int 0)] [] yA _
  refine Pa.mp 1 (pc' := 18) (l' := [(2, .int 14), (0, .int 2), (1, .int 0)]) (st' := [.int 14]) (by rfl) ?_
  refine Pa.if1k false (by rfl) (by rfl) (by decide) ?_
  show Pa N 37 21 [(2, .int 14), (0, .int 2), (1, .int 0)] [] yA _
  refine Pa.mp 1 (pc' := 22) (l' := [(2, .int 14), (0, .int 2), (1, .int 0)]) (st' := [.int 14]) (by rfl) ?_
  refine Pa.cst (pc' := 25) (l' := [(2, .int 14), (0, .int 2), (1, .int 0)]) (st' := [.retAddr 2, .int 14]) (by rfl) (fun _ _ _ => by rfl) ?_
  refine Pa.lenx (x := 21) (by rfl) (by decide) (by decide) ?_
  refine Pa.if2k false (by rfl) (by rfl) (by decide) ?_
  show Pa N 37 29 [(2, .int 14), (0, .int 2), (1, .int 0)] [] yA _
  refine Pa.cst (pc' := 32) (l' := [(2, .int 14), (0, .int 2), (1, .int 0)]) (st' := [.retAddr 2]) (by rfl) (fun _ _ _ => by rfl) ?_
  refine Pa.mp 1 (pc' := 33) (l' := [(2, .int 14), (0, .int 2), (1, .int 0)]) (st' := [.int 14, .retAddr 2]) (by rfl) ?_
  refine Pa.xld (v := 12) (by rfl) (by decide) (by rfl) (fun h1 => ?_)
  refine Pa.mp 1 (pc' := 38) (l' := [(2, .int 14), (0, .int 2), (1, .int 0)]) (st' := [.int 12]) (by rfl) ?_
  refine Pa.iret (by rfl) ?_
  exact l1
theorem c_bod2_0 (N : Nat) (yA : AW) : Pa N 37 0 [(0, .int 2), (1, .int 0)] [] yA (fun yu A1 => yu = some (.int 12) ∧ A1 = yA) := b_bod2_0 ⟨rfl, rfl⟩

theorem b_bod2_1 {N : Nat} {yA : AW} {yQ : Option Value → AW → Prop} 
    (l1 : yQ (some (.int 0)) yA) :
    Pa N 37 0 [(0, .int 2), (1, .int 1)] [] yA yQ := by
  refine Pa.mp 1 (pc' := 1) (l' := [(0, .int 2), (1, .int 1)]) (st' := [.int 2]) (by rfl) ?_
  refine Pa.ic (x := 7) (pc' := 3) (by rfl) (by rfl) (by decide) ?_
  refine Pa.mp 5 (pc' := 8) (l' := [(2, .int 15), (0, .int 2), (1, .int 1)]) (st' := [.int 1]) (by rfl) ?_
  refine Pa.if1k false (by rfl) (by rfl) (by decide) ?_
  show Pa N 37 11 [(2, .int 15), (0, .int 2), (1, .int 1)] [] yA _
  refine Pa.mp 1 (pc' := 12) (l' := [(2, .int 15), (0, .int 2), (1, .int 1)]) (st' := [.int 1]) (by rfl) ?_
  refine Pa.ic (x := 7) (pc' := 14) (by rfl) (by rfl) (by decide) ?_
  refine Pa.if2k false (by rfl) (by rfl) (by decide) ?_
  show Pa N 37 17 [(2, .int 15), (0, .int 2), (1, .int 1)] [] yA _
  refine Pa.mp 1 (pc' := 18) (l' := [(2, .int 15), (0, .int 2), (1, .int 1)]) (st' := [.int 15]) (by rfl) ?_
  refine Pa.if1k false (by rfl) (by rfl) (by decide) ?_
  show Pa N 37 21 [(2, .int 15), (0, .int 2), (1, .int 1)] [] yA _
  refine Pa.mp 1 (pc' := 22) (l' := [(2, .int 15), (0, .int 2), (1, .int 1)]) (st' := [.int 15]) (by rfl) ?_
  refine Pa.cst (pc' := 25) (l' := [(2, .int 15), (0, .int 2), (1, .int 1)]) (st' := [.retAddr 2, .int 15]) (by rfl) (fun _ _ _ => by rfl) ?_
  refine Pa.lenx (x := 21) (by rfl) (by decide) (by decide) ?_
  refine Pa.if2k false (by rfl) (by rfl) (by decide) ?_
  show Pa N 37 29 [(2, .int 15), (0, .int 2), (1, .int 1)] [] yA _
  refine Pa.cst (pc' := 32) (l' := [(2, .int 15), (0, .int 2), (1, .int 1)]) (st' := [.retAddr 2]) (by rfl) (fun _ _ _ => by rfl) ?_
  refine Pa.mp 1 (pc' := 33) (l' := [(2, .int 15), (0, .int 2), (1, .int 1)]) (st' := [.int 15, .retAddr 2]) (by rfl) ?_
  refine Pa.xld (v := 0) (by rfl) (by decide) (by rfl) (fun h1 => ?_)
  refine Pa.mp 1 (pc' := 38) (l' := [(2, .int 15), (0, .int 2), (1, .int 1)]) (st' := [.int 0]) (by rfl) ?_
  refine Pa.iret (by rfl) ?_
  exact l1
theorem c_bod2_1 (N : Nat) (yA : AW) : Pa N 37 0 [(0, .int 2), (1, .int 1)] [] yA (fun yu A1 => yu = some (.int 0) ∧ A1 = yA) := b_bod2_1 ⟨rfl, rfl⟩

theorem b_bod2_2 {N : Nat} {yA : AW} {yQ : Option Value → AW → Prop} 
    (l1 : yQ (some (.int 0)) yA) :
    Pa N 37 0 [(0, .int 2), (1, .int 2)] [] yA yQ := by
  refine Pa.mp 1 (pc' := 1) (l' := [(0, .int 2), (1, .int 2)]) (st' := [.int 2]) (by rfl) ?_
  refine Pa.ic (x := 7) (pc' := 3) (by rfl) (by rfl) (by decide) ?_
  refine Pa.mp 5 (pc' := 8) (l' := [(2, .int 16), (0, .int 2), (1, .int 2)]) (st' := [.int 2]) (by rfl) ?_
  refine Pa.if1k false (by rfl) (by rfl) (by decide) ?_
  show Pa N 37 11 [(2, .int 16), (0, .int 2), (1, .int 2)] [] yA _
  refine Pa.mp 1 (pc' := 12) (l' := [(2, .int 16), (0, .int 2), (1, .int 2)]) (st' := [.int 2]) (by rfl) ?_
  refine Pa.ic (x := 7) (pc' := 14) (by rfl) (by rfl) (by decide) ?_
  refine Pa.if2k false (by rfl) (by rfl) (by decide) ?_
  show Pa N 37 17 [(2, .int 16), (0, .int 2), (1, .int 2)] [] yA _
  refine Pa.mp 1 (pc' := 18) (l' := [(2, .int 16), (0, .int 2), (1, .int 2)]) (st' := [.int 16]) (by rfl) ?_
  refine Pa.if1k false (by rfl) (by rfl) (by decide) ?_
  show Pa N 37 21 [(2, .int 16), (0, .int 2), (1, .int 2)] [] yA _
  refine Pa.mp 1 (pc' := 22) (l' := [(2, .int 16), (0, .int 2), (1, .int 2)]) (st' := [.int 16]) (by rfl) ?_
  refine Pa.cst (pc' := 25) (l' := [(2, .int 16), (0, .int 2), (1, .int 2)]) (st' := [.retAddr 2, .int 16]) (by rfl) (fun _ _ _ => by rfl) ?_
  refine Pa.lenx (x := 21) (by rfl) (by decide) (by decide) ?_
  refine Pa.if2k false (by rfl) (by rfl) (by decide) ?_
  show Pa N 37 29 [(2, .int 16), (0, .int 2), (1, .int 2)] [] yA _
  refine Pa.cst (pc' := 32) (l' := [(2, .int 16), (0, .int 2), (1, .int 2)]) (st' := [.retAddr 2]) (by rfl) (fun _ _ _ => by rfl) ?_
  refine Pa.mp 1 (pc' := 33) (l' := [(2, .int 16), (0, .int 2), (1, .int 2)]) (st' := [.int 16, .retAddr 2]) (by rfl) ?_
  refine Pa.xld (v := 0) (by rfl) (by decide) (by rfl) (fun h1 => ?_)
  refine Pa.mp 1 (pc' := 38) (l' := [(2, .int 16), (0, .int 2), (1, .int 2)]) (st' := [.int 0]) (by rfl) ?_
  refine Pa.iret (by rfl) ?_
  exact l1
theorem c_bod2_2 (N : Nat) (yA : AW) : Pa N 37 0 [(0, .int 2), (1, .int 2)] [] yA (fun yu A1 => yu = some (.int 0) ∧ A1 = yA) := b_bod2_2 ⟨rfl, rfl⟩

theorem b_bod2_3 {N : Nat} {yA : AW} {yQ : Option Value → AW → Prop} 
    (l1 : yQ (some (.int 40)) yA) :
    Pa N 37 0 [(0, .int 2), (1, .int 3)] [] yA yQ := by
  refine Pa.mp 1 (pc' := 1) (l' := [(0, .int 2), (1, .int 3)]) (st' := [.int 2]) (by rfl) ?_
  refine Pa.ic (x := 7) (pc' := 3) (by rfl) (by rfl) (by decide) ?_
  refine Pa.mp 5 (pc' := 8) (l' := [(2, .int 17), (0, .int 2), (1, .int 3)]) (st' := [.int 3]) (by rfl) ?_
  refine Pa.if1k false (by rfl) (by rfl) (by decide) ?_
  show Pa N 37 11 [(2, .int 17), (0, .int 2), (1, .int 3)] [] yA _
  refine Pa.mp 1 (pc' := 12) (l' := [(2, .int 17), (0, .int 2), (1, .int 3)]) (st' := [.int 3]) (by rfl) ?_
  refine Pa.ic (x := 7) (pc' := 14) (by rfl) (by rfl) (by decide) ?_
  refine Pa.if2k false (by rfl) (by rfl) (by decide) ?_
  show Pa N 37 17 [(2, .int 17), (0, .int 2), (1, .int 3)] [] yA _
  refine Pa.mp 1 (pc' := 18) (l' := [(2, .int 17), (0, .int 2), (1, .int 3)]) (st' := [.int 17]) (by rfl) ?_
  refine Pa.if1k false (by rfl) (by rfl) (by decide) ?_
  show Pa N 37 21 [(2, .int 17), (0, .int 2), (1, .int 3)] [] yA _
  refine Pa.mp 1 (pc' := 22) (l' := [(2, .int 17), (0, .int 2), (1, .int 3)]) (st' := [.int 17]) (by rfl) ?_
  refine Pa.cst (pc' := 25) (l' := [(2, .int 17), (0, .int 2), (1, .int 3)]) (st' := [.retAddr 2, .int 17]) (by rfl) (fun _ _ _ => by rfl) ?_
  refine Pa.lenx (x := 21) (by rfl) (by decide) (by decide) ?_
  refine Pa.if2k false (by rfl) (by rfl) (by decide) ?_
  show Pa N 37 29 [(2, .int 17), (0, .int 2), (1, .int 3)] [] yA _
  refine Pa.cst (pc' := 32) (l' := [(2, .int 17), (0, .int 2), (1, .int 3)]) (st' := [.retAddr 2]) (by rfl) (fun _ _ _ => by rfl) ?_
  refine Pa.mp 1 (pc' := 33) (l' := [(2, .int 17), (0, .int 2), (1, .int 3)]) (st' := [.int 17, .retAddr 2]) (by rfl) ?_
  refine Pa.xld (v := 40) (by rfl) (by decide) (by rfl) (fun h1 => ?_)
  refine Pa.mp 1 (pc' := 38) (l' := [(2, .int 17), (0, .int 2), (1, .int 3)]) (st' := [.int 40]) (by rfl) ?_
  refine Pa.iret (by rfl) ?_
  exact l1
theorem c_bod2_3 (N : Nat) (yA : AW) : Pa N 37 0 [(0, .int 2), (1, .int 3)] [] yA (fun yu A1 => yu = some (.int 40) ∧ A1 = yA) := b_bod2_3 ⟨rfl, rfl⟩

theorem b_bod2_4 {N : Nat} {yA : AW} {yQ : Option Value → AW → Prop} 
    (l1 : yQ (some (.int 0)) yA) :
    Pa N 37 0 [(0, .int 2), (1, .int 4)] [] yA yQ := by
  refine Pa.mp 1 (pc' := 1) (l' := [(0, .int 2), (1, .int 4)]) (st' := [.int 2]) (by rfl) ?_
  refine Pa.ic (x := 7) (pc' := 3) (by rfl) (by rfl) (by decide) ?_
  refine Pa.mp 5 (pc' := 8) (l' := [(2, .int 18), (0, .int 2), (1, .int 4)]) (st' := [.int 4]) (by rfl) ?_
  refine Pa.if1k false (by rfl) (by rfl) (by decide) ?_
  show Pa N 37 11 [(2, .int 18), (0, .int 2), (1, .int 4)] [] yA _
  refine Pa.mp 1 (pc' := 12) (l' := [(2, .int 18), (0, .int 2), (1, .int 4)]) (st' := [.int 4]) (by rfl) ?_
  refine Pa.ic (x := 7) (pc' := 14) (by rfl) (by rfl) (by decide) ?_
  refine Pa.if2k false (by rfl) (by rfl) (by decide) ?_
  show Pa N 37 17 [(2, .int 18), (0, .int 2), (1, .int 4)] [] yA _
  refine Pa.mp 1 (pc' := 18) (l' := [(2, .int 18), (0, .int 2), (1, .int 4)]) (st' := [.int 18]) (by rfl) ?_
  refine Pa.if1k false (by rfl) (by rfl) (by decide) ?_
  show Pa N 37 21 [(2, .int 18), (0, .int 2), (1, .int 4)] [] yA _
  refine Pa.mp 1 (pc' := 22) (l' := [(2, .int 18), (0, .int 2), (1, .int 4)]) (st' := [.int 18]) (by rfl) ?_
  refine Pa.cst (pc' := 25) (l' := [(2, .int 18), (0, .int 2), (1, .int 4)]) (st' := [.retAddr 2, .int 18]) (by rfl) (fun _ _ _ => by rfl) ?_
  refine Pa.lenx (x := 21) (by rfl) (by decide) (by decide) ?_
  refine Pa.if2k false (by rfl) (by rfl) (by decide) ?_
  show Pa N 37 29 [(2, .int 18), (0, .int 2), (1, .int 4)] [] yA _
  refine Pa.cst (pc' := 32) (l' := [(2, .int 18), (0, .int 2), (1, .int 4)]) (st' := [.retAddr 2]) (by rfl) (fun _ _ _ => by rfl) ?_
  refine Pa.mp 1 (pc' := 33) (l' := [(2, .int 18), (0, .int 2), (1, .int 4)]) (st' := [.int 18, .retAddr 2]) (by rfl) ?_
  refine Pa.xld (v := 0) (by rfl) (by decide) (by rfl) (fun h1 => ?_)
  refine Pa.mp 1 (pc' := 38) (l' := [(2, .int 18), (0, .int 2), (1, .int 4)]) (st' := [.int 0]) (by rfl) ?_
  refine Pa.iret (by rfl) ?_
  exact l1
theorem c_bod2_4 (N : Nat) (yA : AW) : Pa N 37 0 [(0, .int 2), (1, .int 4)] [] yA (fun yu A1 => yu = some (.int 0) ∧ A1 = yA) := b_bod2_4 ⟨rfl, rfl⟩

theorem b_bod2_5 {N : Nat} {yA : AW} {yQ : Option Value → AW → Prop} 
    (l1 : yQ (some (.int 61)) yA) :
    Pa N 37 0 [(0, .int 2), (1, .int 5)] [] yA yQ := by
  refine Pa.mp 1 (pc' := 1) (l' := [(0, .int 2), (1, .int 5)]) (st' := [.int 2]) (by rfl) ?_
  refine Pa.ic (x := 7) (pc' := 3) (by rfl) (by rfl) (by decide) ?_
  refine Pa.mp 5 (pc' := 8) (l' := [(2, .int 19), (0, .int 2), (1, .int 5)]) (st' := [.int 5]) (by rfl) ?_
  refine Pa.if1k false (by rfl) (by rfl) (by decide) ?_
  show Pa N 37 11 [(2, .int 19), (0, .int 2), (1, .int 5)] [] yA _
  refine Pa.mp 1 (pc' := 12) (l' := [(2, .int 19), (0, .int 2), (1, .int 5)]) (st' := [.int 5]) (by rfl) ?_
  refine Pa.ic (x := 7) (pc' := 14) (by rfl) (by rfl) (by decide) ?_
  refine Pa.if2k false (by rfl) (by rfl) (by decide) ?_
  show Pa N 37 17 [(2, .int 19), (0, .int 2), (1, .int 5)] [] yA _
  refine Pa.mp 1 (pc' := 18) (l' := [(2, .int 19), (0, .int 2), (1, .int 5)]) (st' := [.int 19]) (by rfl) ?_
  refine Pa.if1k false (by rfl) (by rfl) (by decide) ?_
  show Pa N 37 21 [(2, .int 19), (0, .int 2), (1, .int 5)] [] yA _
  refine Pa.mp 1 (pc' := 22) (l' := [(2, .int 19), (0, .int 2), (1, .int 5)]) (st' := [.int 19]) (by rfl) ?_
  refine Pa.cst (pc' := 25) (l' := [(2, .int 19), (0, .int 2), (1, .int 5)]) (st' := [.retAddr 2, .int 19]) (by rfl) (fun _ _ _ => by rfl) ?_
  refine Pa.lenx (x := 21) (by rfl) (by decide) (by decide) ?_
  refine Pa.if2k false (by rfl) (by rfl) (by decide) ?_
  show Pa N 37 29 [(2, .int 19), (0, .int 2), (1, .int 5)] [] yA _
  refine Pa.cst (pc' := 32) (l' := [(2, .int 19), (0, .int 2), (1, .int 5)]) (st' := [.retAddr 2]) (by rfl) (fun _ _ _ => by rfl) ?_
  refine Pa.mp 1 (pc' := 33) (l' := [(2, .int 19), (0, .int 2), (1, .int 5)]) (st' := [.int 19, .retAddr 2]) (by rfl) ?_
  refine Pa.xld (v := 61) (by rfl) (by decide) (by rfl) (fun h1 => ?_)
  refine Pa.mp 1 (pc' := 38) (l' := [(2, .int 19), (0, .int 2), (1, .int 5)]) (st' := [.int 61]) (by rfl) ?_
  refine Pa.iret (by rfl) ?_
  exact l1
theorem c_bod2_5 (N : Nat) (yA : AW) : Pa N 37 0 [(0, .int 2), (1, .int 5)] [] yA (fun yu A1 => yu = some (.int 61) ∧ A1 = yA) := b_bod2_5 ⟨rfl, rfl⟩

theorem b_bod2_6 {N : Nat} {yA : AW} {yQ : Option Value → AW → Prop} 
    (l1 : yQ (some (.int 0)) yA) :
    Pa N 37 0 [(0, .int 2), (1, .int 6)] [] yA yQ := by
  refine Pa.mp 1 (pc' := 1) (l' := [(0, .int 2), (1, .int 6)]) (st' := [.int 2]) (by rfl) ?_
  refine Pa.ic (x := 7) (pc' := 3) (by rfl) (by rfl) (by decide) ?_
  refine Pa.mp 5 (pc' := 8) (l' := [(2, .int 20), (0, .int 2), (1, .int 6)]) (st' := [.int 6]) (by rfl) ?_
  refine Pa.if1k false (by rfl) (by rfl) (by decide) ?_
  show Pa N 37 11 [(2, .int 20), (0, .int 2), (1, .int 6)] [] yA _
  refine Pa.mp 1 (pc' := 12) (l' := [(2, .int 20), (0, .int 2), (1, .int 6)]) (st' := [.int 6]) (by rfl) ?_
  refine Pa.ic (x := 7) (pc' := 14) (by rfl) (by rfl) (by decide) ?_
  refine Pa.if2k false (by rfl) (by rfl) (by decide) ?_
  show Pa N 37 17 [(2, .int 20), (0, .int 2), (1, .int 6)] [] yA _
  refine Pa.mp 1 (pc' := 18) (l' := [(2, .int 20), (0, .int 2), (1, .int 6)]) (st' := [.int 20]) (by rfl) ?_
  refine Pa.if1k false (by rfl) (by rfl) (by decide) ?_
  show Pa N 37 21 [(2, .int 20), (0, .int 2), (1, .int 6)] [] yA _
  refine Pa.mp 1 (pc' := 22) (l' := [(2, .int 20), (0, .int 2), (1, .int 6)]) (st' := [.int 20]) (by rfl) ?_
  refine Pa.cst (pc' := 25) (l' := [(2, .int 20), (0, .int 2), (1, .int 6)]) (st' := [.retAddr 2, .int 20]) (by rfl) (fun _ _ _ => by rfl) ?_
  refine Pa.lenx (x := 21) (by rfl) (by decide) (by decide) ?_
  refine Pa.if2k false (by rfl) (by rfl) (by decide) ?_
  show Pa N 37 29 [(2, .int 20), (0, .int 2), (1, .int 6)] [] yA _
  refine Pa.cst (pc' := 32) (l' := [(2, .int 20), (0, .int 2), (1, .int 6)]) (st' := [.retAddr 2]) (by rfl) (fun _ _ _ => by rfl) ?_
  refine Pa.mp 1 (pc' := 33) (l' := [(2, .int 20), (0, .int 2), (1, .int 6)]) (st' := [.int 20, .retAddr 2]) (by rfl) ?_
  refine Pa.xld (v := 0) (by rfl) (by decide) (by rfl) (fun h1 => ?_)
  refine Pa.mp 1 (pc' := 38) (l' := [(2, .int 20), (0, .int 2), (1, .int 6)]) (st' := [.int 0]) (by rfl) ?_
  refine Pa.iret (by rfl) ?_
  exact l1
theorem c_bod2_6 (N : Nat) (yA : AW) : Pa N 37 0 [(0, .int 2), (1, .int 6)] [] yA (fun yu A1 => yu = some (.int 0) ∧ A1 = yA) := b_bod2_6 ⟨rfl, rfl⟩

theorem b_kwb0_0 {N : Nat} {yA : AW} {yQ : Option Value → AW → Prop} 
    (l1 : yQ (some (.int 0)) yA) :
    Pa N 38 0 [(0, .int 0), (1, .int 0)] [] yA yQ := by
  refine Pa.mp 2 (pc' := 2) (l' := [(2, .int 0), (0, .int 0), (1, .int 0)]) (st' := []) (by rfl) ?_
  refine Pa.ic (x := 0) (pc' := 3) (by rfl) (by rfl) (by decide) ?_
  refine Pa.mp 2 (pc' := 5) (l' := [(3, .int 0), (2, .int 0), (0, .int 0), (1, .int 0)]) (st' := [.int 0]) (by rfl) ?_
  refine Pa.ic (x := 7) (pc' := 7) (by rfl) (by rfl) (by decide) ?_
  refine Pa.if2k false (by rfl) (by rfl) (by decide) ?_
  show Pa N 38 10 [(3, .int 0), (2, .int 0), (0, .int 0), (1, .int 0)] [] yA _
  refine Pa.mp 1 (pc' := 11) (l' := [(3, .int 0), (2, .int 0), (0, .int 0), (1, .int 0)]) (st' := [.int 0]) (by rfl) ?_
  refine Pa.if1k true (by rfl) (by rfl) (by decide) ?_
  show Pa N 38 33 [(3, .int 0), (2, .int 0), (0, .int 0), (1, .int 0)] [] yA _
  refine Pa.mp 1 (pc' := 34) (l' := [(3, .int 0), (2, .int 0), (0, .int 0), (1, .int 0)]) (st' := [.int 0]) (by rfl) ?_
  refine Pa.iret (by rfl) ?_
  exact l1
theorem c_kwb0_0 (N : Nat) (yA : AW) : Pa N 38 0 [(0, .int 0), (1, .int 0)] [] yA (fun yu A1 => yu = some (.int 0) ∧ A1 = yA) := b_kwb0_0 ⟨rfl, rfl⟩

theorem b_kwb0_1 {N : Nat} {yA : AW} {yQ : Option Value → AW → Prop} 
    (l1 : yQ (some (.int 0)) yA) :
    Pa N 38 0 [(0, .int 0), (1, .int 1)] [] yA yQ := by
  refine Pa.mp 2 (pc' := 2) (l' := [(2, .int 1), (0, .int 0), (1, .int 1)]) (st' := []) (by rfl) ?_
  refine Pa.ic (x := 0) (pc' := 3) (by rfl) (by rfl) (by decide) ?_
  refine Pa.mp 2 (pc' := 5) (l' := [(3, .int 0), (2, .int 1), (0, .int 0), (1, .int 1)]) (st' := [.int 0]) (by rfl) ?_
  refine Pa.ic (x := 7) (pc' := 7) (by rfl) (by rfl) (by decide) ?_
  refine Pa.if2k false (by rfl) (by rfl) (by decide) ?_
  show Pa N 38 10 [(3, .int 0), (2, .int 1), (0, .int 0), (1, .int 1)] [] yA _
  refine Pa.mp 1 (pc' := 11) (l' := [(3, .int 0), (2, .int 1), (0, .int 0), (1, .int 1)]) (st' := [.int 1]) (by rfl) ?_
  refine Pa.if1k false (by rfl) (by rfl) (by decide) ?_
  show Pa N 38 14 [(3, .int 0), (2, .int 1), (0, .int 0), (1, .int 1)] [] yA _
  refine Pa.mp 2 (pc' := 16) (l' := [(3, .int 0), (2, .int 1), (0, .int 0), (1, .int 1)]) (st' := [.int 1, .int 0]) (by rfl) ?_
  refine Pa.ist (by rfl) (by rfl) (.inl rfl) (by rfl) (by rfl) ?_
  refine Pa.mono (c_bod0_1 N yA) (fun yu A1 hu => ?_)
  obtain ⟨rfl, hu⟩ := hu
  rw [hu]
  show Pa N 38 19 [(3, .int 0), (2, .int 1), (0, .int 0), (1, .int 1)] [.int 0] yA _
  refine Pa.if1k false (by rfl) (by rfl) (by decide) ?_
  show Pa N 38 22 [(3, .int 0), (2, .int 1), (0, .int 0), (1, .int 1)] [] yA _
  refine Pa.mp 1 (pc' := 23) (l' := [(3, .int 0), (2, .int 1), (0, .int 0), (1, .int 1)]) (st' := [.int 1]) (by rfl) ?_
  refine Pa.ist (by rfl) (by rfl) (.inl rfl) (by rfl) (by rfl) ?_
  refine Pa.mono (c_abv1 N yA) (fun yu A1 hu => ?_)
  obtain ⟨rfl, hu⟩ := hu
  rw [hu]
  show Pa N 38 26 [(3, .int 0), (2, .int 1), (0, .int 0), (1, .int 1)] [.int 0] yA _
  refine Pa.mp 1 (pc' := 27) (l' := [(2, .int 0), (3, .int 0), (0, .int 0), (1, .int 1)]) (st' := []) (by rfl) ?_
  refine Pa.iinc (x := 0) (c := 1) (v := 1) (l' := [(3, .int 1), (2, .int 0), (0, .int 0), (1, .int 1)]) (by rfl) (by rfl) (by decide) (by decide) (by rfl) ?_
  refine Pa.mp 2 (pc' := 5) (l' := [(3, .int 1), (2, .int 0), (0, .int 0), (1, .int 1)]) (st' := [.int 1]) (by rfl) ?_
  refine Pa.ic (x := 7) (pc' := 7) (by rfl) (by rfl) (by decide) ?_
  refine Pa.if2k false (by rfl) (by rfl) (by decide) ?_
  show Pa N 38 10 [(3, .int 1), (2, .int 0), (0, .int 0), (1, .int 1)] [] yA _
  refine Pa.mp 1 (pc' := 11) (l' := [(3, .int 1), (2, .int 0), (0, .int 0), (1, .int 1)]) (st' := [.int 0]) (by rfl) ?_
  refine Pa.if1k true (by rfl) (by rfl) (by decide) ?_
  show Pa N 38 33 [(3, .int 1), (2, .int 0), (0, .int 0), (1, .int 1)] [] yA _
  refine Pa.mp 1 (pc' := 34) (l' := [(3, .int 1), (2, .int 0), (0, .int 0), (1, .int 1)]) (st' := [.int 0]) (by rfl) ?_
  refine Pa.iret (by rfl) ?_
  exact l1
theorem c_kwb0_1 (N : Nat) (yA : AW) : Pa N 38 0 [(0, .int 0), (1, .int 1)] [] yA (fun yu A1 => yu = some (.int 0) ∧ A1 = yA) := b_kwb0_1 ⟨rfl, rfl⟩

theorem b_kwb0_2 {N : Nat} {yA : AW} {yQ : Option Value → AW → Prop} 
    (l1 : yQ (some (.int 2)) yA) :
    Pa N 38 0 [(0, .int 0), (1, .int 2)] [] yA yQ := by
  refine Pa.mp 2 (pc' := 2) (l' := [(2, .int 2), (0, .int 0), (1, .int 2)]) (st' := []) (by rfl) ?_
  refine Pa.ic (x := 0) (pc' := 3) (by rfl) (by rfl) (by decide) ?_
  refine Pa.mp 2 (pc' := 5) (l' := [(3, .int 0), (2, .int 2), (0, .int 0), (1, .int 2)]) (st' := [.int 0]) (by rfl) ?_
  refine Pa.ic (x := 7) (pc' := 7) (by rfl) (by rfl) (by decide) ?_
  refine Pa.if2k false (by rfl) (by rfl) (by decide) ?_
  show Pa N 38 10 [(3, .int 0), (2, .int 2), (0, .int 0), (1, .int 2)] [] yA _
  refine Pa.mp 1 (pc' := 11) (l' := [(3, .int 0), (2, .int 2), (0, .int 0), (1, .int 2)]) (st' := [.int 2]) (by rfl) ?_
  refine Pa.if1k false (by rfl) (by rfl) (by decide) ?_
  show Pa N 38 14 [(3, .int 0), (2, .int 2), (0, .int 0), (1, .int 2)] [] yA _
  refine Pa.mp 2 (pc' := 16) (l' := [(3, .int 0), (2, .int 2), (0, .int 0), (1, .int 2)]) (st' := [.int 2, .int 0]) (by rfl) ?_
  refine Pa.ist (by rfl) (by rfl) (.inl rfl) (by rfl) (by rfl) ?_
  refine Pa.mono (c_bod0_2 N yA) (fun yu A1 hu => ?_)
  obtain ⟨rfl, hu⟩ := hu
  rw [hu]
  show Pa N 38 19 [(3, .int 0), (2, .int 2), (0, .int 0), (1, .int 2)] [.int 30] yA _
  refine Pa.if1k true (by rfl) (by rfl) (by decide) ?_
  show Pa N 38 33 [(3, .int 0), (2, .int 2), (0, .int 0), (1, .int 2)] [] yA _
  refine Pa.mp 1 (pc' := 34) (l' := [(3, .int 0), (2, .int 2), (0, .int 0), (1, .int 2)]) (st' := [.int 2]) (by rfl) ?_
  refine Pa.iret (by rfl) ?_
  exact l1
theorem c_kwb0_2 (N : Nat) (yA : AW) : Pa N 38 0 [(0, .int 0), (1, .int 2)] [] yA (fun yu A1 => yu = some (.int 2) ∧ A1 = yA) := b_kwb0_2 ⟨rfl, rfl⟩

theorem b_kwb0_3 {N : Nat} {yA : AW} {yQ : Option Value → AW → Prop} 
    (l1 : yQ (some (.int 2)) yA) :
    Pa N 38 0 [(0, .int 0), (1, .int 3)] [] yA yQ := by
  refine Pa.mp 2 (pc' := 2) (l' := [(2, .int 3), (0, .int 0), (1, .int 3)]) (st' := []) (by rfl) ?_
  refine Pa.ic (x := 0) (pc' := 3) (by rfl) (by rfl) (by decide) ?_
  refine Pa.mp 2 (pc' := 5) (l' := [(3, .int 0), (2, .int 3), (0, .int 0), (1, .int 3)]) (st' := [.int 0]) (by rfl) ?_
  refine Pa.ic (x := 7) (pc' := 7) (by rfl) (by rfl) (by decide) ?_
  refine Pa.if2k false (by rfl) (by rfl) (by decide) ?_
  show Pa N 38 10 [(3, .int 0), (2, .int 3), (0, .int 0), (1, .int 3)] [] yA _
  refine Pa.mp 1 (pc' := 11) (l' := [(3, .int 0), (2, .int 3), (0, .int 0), (1, .int 3)]) (st' := [.int 3]) (by rfl) ?_
  refine Pa.if1k false (by rfl) (by rfl) (by decide) ?_
  show Pa N 38 14 [(3, .int 0), (2, .int 3), (0, .int 0), (1, .int 3)] [] yA _
  refine Pa.mp 2 (pc' := 16) (l' := [(3, .int 0), (2, .int 3), (0, .int 0), (1, .int 3)]) (st' := [.int 3, .int 0]) (by rfl) ?_
  refine Pa.ist (by rfl) (by rfl) (.inl rfl) (by rfl) (by rfl) ?_
  refine Pa.mono (c_bod0_3 N yA) (fun yu A1 hu => ?_)
  obtain ⟨rfl, hu⟩ := hu
  rw [hu]
  show Pa N 38 19 [(3, .int 0), (2, .int 3), (0, .int 0), (1, .int 3)] [.int 0] yA _
  refine Pa.if1k false (by rfl) (by rfl) (by decide) ?_
  show Pa N 38 22 [(3, .int 0), (2, .int 3), (0, .int 0), (1, .int 3)] [] yA _
  refine Pa.mp 1 (pc' := 23) (l' := [(3, .int 0), (2, .int 3), (0, .int 0), (1, .int 3)]) (st' := [.int 3]) (by rfl) ?_
  refine Pa.ist (by rfl) (by rfl) (.inl rfl) (by rfl) (by rfl) ?_
  refine Pa.mono (c_abv3 N yA) (fun yu A1 hu => ?_)
  obtain ⟨rfl, hu⟩ := hu
  rw [hu]
  show Pa N 38 26 [(3, .int 0), (2, .int 3), (0, .int 0), (1, .int 3)] [.int 2] yA _
  refine Pa.mp 1 (pc' := 27) (l' := [(2, .int 2), (3, .int 0), (0, .int 0), (1, .int 3)]) (st' := []) (by rfl) ?_
  refine Pa.iinc (x := 0) (c := 1) (v := 1) (l' := [(3, .int 1), (2, .int 2), (0, .int 0), (1, .int 3)]) (by rfl) (by rfl) (by decide) (by decide) (by rfl) ?_
  refine Pa.mp 2 (pc' := 5) (l' := [(3, .int 1), (2, .int 2), (0, .int 0), (1, .int 3)]) (st' := [.int 1]) (by rfl) ?_
  refine Pa.ic (x := 7) (pc' := 7) (by rfl) (by rfl) (by decide) ?_
  refine Pa.if2k false (by rfl) (by rfl) (by decide) ?_
  show Pa N 38 10 [(3, .int 1), (2, .int 2), (0, .int 0), (1, .int 3)] [] yA _
  refine Pa.mp 1 (pc' := 11) (l' := [(3, .int 1), (2, .int 2), (0, .int 0), (1, .int 3)]) (st' := [.int 2]) (by rfl) ?_
  refine Pa.if1k false (by rfl) (by rfl) (by decide) ?_
  show Pa N 38 14 [(3, .int 1), (2, .int 2), (0, .int 0), (1, .int 3)] [] yA _
  refine Pa.mp 2 (pc' := 16) (l' := [(3, .int 1), (2, .int 2), (0, .int 0), (1, .int 3)]) (st' := [.int 2, .int 0]) (by rfl) ?_
  refine Pa.ist (by rfl) (by rfl) (.inl rfl) (by rfl) (by rfl) ?_
  refine Pa.mono (c_bod0_2 N yA) (fun yu A1 hu => ?_)
  obtain ⟨rfl, hu⟩ := hu
  rw [hu]
  show Pa N 38 19 [(3, .int 1), (2, .int 2), (0, .int 0), (1, .int 3)] [.int 30] yA _
  refine Pa.if1k true (by rfl) (by rfl) (by decide) ?_
  show Pa N 38 33 [(3, .int 1), (2, .int 2), (0, .int 0), (1, .int 3)] [] yA _
  refine Pa.mp 1 (pc' := 34) (l' := [(3, .int 1), (2, .int 2), (0, .int 0), (1, .int 3)]) (st' := [.int 2]) (by rfl) ?_
  refine Pa.iret (by rfl) ?_
  exact l1
theorem c_kwb0_3 (N : Nat) (yA : AW) : Pa N 38 0 [(0, .int 0), (1, .int 3)] [] yA (fun yu A1 => yu = some (.int 2) ∧ A1 = yA) := b_kwb0_3 ⟨rfl, rfl⟩

theorem b_kwb0_4 {N : Nat} {yA : AW} {yQ : Option Value → AW → Prop} 
    (l1 : yQ (some (.int 0)) yA) :
    Pa N 38 0 [(0, .int 0), (1, .int 4)] [] yA yQ := by
  refine Pa.mp 2 (pc' := 2) (l' := [(2, .int 4), (0, .int 0), (1, .int 4)]) (st' := []) (by rfl) ?_
  refine Pa.ic (x := 0) (pc' := 3) (by rfl) (by rfl) (by decide) ?_
  refine Pa.mp 2 (pc' := 5) (l' := [(3, .int 0), (2, .int 4), (0, .int 0), (1, .int 4)]) (st' := [.int 0]) (by rfl) ?_
  refine Pa.ic (x := 7) (pc' := 7) (by rfl) (by rfl) (by decide) ?_
  refine Pa.if2k false (by rfl) (by rfl) (by decide) ?_
  show Pa N 38 10 [(3, .int 0), (2, .int 4), (0, .int 0), (1, .int 4)] [] yA _
  refine Pa.mp 1 (pc' := 11) (l' := [(3, .int 0), (2, .int 4), (0, .int 0), (1, .int 4)]) (st' := [.int 4]) (by rfl) ?_
  refine Pa.if1k false (by rfl) (by rfl) (by decide) ?_
  show Pa N 38 14 [(3, .int 0), (2, .int 4), (0, .int 0), (1, .int 4)] [] yA _
  refine Pa.mp 2 (pc' := 16) (l' := [(3, .int 0), (2, .int 4), (0, .int 0), (1, .int 4)]) (st' := [.int 4, .int 0]) (by rfl) ?_
  refine Pa.ist (by rfl) (by rfl) (.inl rfl) (by rfl) (by rfl) ?_
  refine Pa.mono (c_bod0_4 N yA) (fun yu A1 hu => ?_)
  obtain ⟨rfl, hu⟩ := hu
  rw [hu]
  show Pa N 38 19 [(3, .int 0), (2, .int 4), (0, .int 0), (1, .int 4)] [.int 0] yA _
  refine Pa.if1k false (by rfl) (by rfl) (by decide) ?_
  show Pa N 38 22 [(3, .int 0), (2, .int 4), (0, .int 0), (1, .int 4)] [] yA _
  refine Pa.mp 1 (pc' := 23) (l' := [(3, .int 0), (2, .int 4), (0, .int 0), (1, .int 4)]) (st' := [.int 4]) (by rfl) ?_
  refine Pa.ist (by rfl) (by rfl) (.inl rfl) (by rfl) (by rfl) ?_
  refine Pa.mono (c_abv4 N yA) (fun yu A1 hu => ?_)
  obtain ⟨rfl, hu⟩ := hu
  rw [hu]
  show Pa N 38 26 [(3, .int 0), (2, .int 4), (0, .int 0), (1, .int 4)] [.int 0] yA _
  refine Pa.mp 1 (pc' := 27) (l' := [(2, .int 0), (3, .int 0), (0, .int 0), (1, .int 4)]) (st' := []) (by rfl) ?_
  refine Pa.iinc (x := 0) (c := 1) (v := 1) (l' := [(3, .int 1), (2, .int 0), (0, .int 0), (1, .int 4)]) (by rfl) (by rfl) (by decide) (by decide) (by rfl) ?_
  refine Pa.mp 2 (pc' := 5) (l' := [(3, .int 1), (2, .int 0), (0, .int 0), (1, .int 4)]) (st' := [.int 1]) (by rfl) ?_
  refine Pa.ic (x := 7) (pc' := 7) (by rfl) (by rfl) (by decide) ?_
  refine Pa.if2k false (by rfl) (by rfl) (by decide) ?_
  show Pa N 38 10 [(3, .int 1), (2, .int 0), (0, .int 0), (1, .int 4)] [] yA _
  refine Pa.mp 1 (pc' := 11) (l' := [(3, .int 1), (2, .int 0), (0, .int 0), (1, .int 4)]) (st' := [.int 0]) (by rfl) ?_
  refine Pa.if1k true (by rfl) (by rfl) (by decide) ?_
  show Pa N 38 33 [(3, .int 1), (2, .int 0), (0, .int 0), (1, .int 4)] [] yA _
  refine Pa.mp 1 (pc' := 34) (l' := [(3, .int 1), (2, .int 0), (0, .int 0), (1, .int 4)]) (st' := [.int 0]) (by rfl) ?_
  refine Pa.iret (by rfl) ?_
  exact l1
theorem c_kwb0_4 (N : Nat) (yA : AW) : Pa N 38 0 [(0, .int 0), (1, .int 4)] [] yA (fun yu A1 => yu = some (.int 0) ∧ A1 = yA) := b_kwb0_4 ⟨rfl, rfl⟩

theorem b_kwb0_5 {N : Nat} {yA : AW} {yQ : Option Value → AW → Prop} 
    (l1 : yQ (some (.int 5)) yA) :
    Pa N 38 0 [(0, .int 0), (1, .int 5)] [] yA yQ := by
  refine Pa.mp 2 (pc' := 2) (l' := [(2, .int 5), (0, .int 0), (1, .int 5)]) (st' := []) (by rfl) ?_
  refine Pa.ic (x := 0) (pc' := 3) (by rfl) (by rfl) (by decide) ?_
  refine Pa.mp 2 (pc' := 5) (l' := [(3, .int 0), (2, .int 5), (0, .int 0), (1, .int 5)]) (st' := [.int 0]) (by rfl) ?_
  refine Pa.ic (x := 7) (pc' := 7) (by rfl) (by rfl) (by decide) ?_
  refine Pa.if2k false (by rfl) (by rfl) (by decide) ?_
  show Pa N 38 10 [(3, .int 0), (2, .int 5), (0, .int 0), (1, .int 5)] [] yA _
  refine Pa.mp 1 (pc' := 11) (l' := [(3, .int 0), (2, .int 5), (0, .int 0), (1, .int 5)]) (st' := [.int 5]) (by rfl) ?_
  refine Pa.if1k false (by rfl) (by rfl) (by decide) ?_
  show Pa N 38 14 [(3, .int 0), (2, .int 5), (0, .int 0), (1, .int 5)] [] yA _
  refine Pa.mp 2 (pc' := 16) (l' := [(3, .int 0), (2, .int 5), (0, .int 0), (1, .int 5)]) (st' := [.int 5, .int 0]) (by rfl) ?_
  refine Pa.ist (by rfl) (by rfl) (.inl rfl) (by rfl) (by rfl) ?_
  refine Pa.mono (c_bod0_5 N yA) (fun yu A1 hu => ?_)
  obtain ⟨rfl, hu⟩ := hu
  rw [hu]
  show Pa N 38 19 [(3, .int 0), (2, .int 5), (0, .int 0), (1, .int 5)] [.int 60] yA _
  refine Pa.if1k true (by rfl) (by rfl) (by decide) ?_
  show Pa N 38 33 [(3, .int 0), (2, .int 5), (0, .int 0), (1, .int 5)] [] yA _
  refine Pa.mp 1 (pc' := 34) (l' := [(3, .int 0), (2, .int 5), (0, .int 0), (1, .int 5)]) (st' := [.int 5]) (by rfl) ?_
  refine Pa.iret (by rfl) ?_
  exact l1
theorem c_kwb0_5 (N : Nat) (yA : AW) : Pa N 38 0 [(0, .int 0), (1, .int 5)] [] yA (fun yu A1 => yu = some (.int 5) ∧ A1 = yA) := b_kwb0_5 ⟨rfl, rfl⟩

theorem b_kwb0_6 {N : Nat} {yA : AW} {yQ : Option Value → AW → Prop} 
    (l1 : yQ (some (.int 0)) yA) :
    Pa N 38 0 [(0, .int 0), (1, .int 6)] [] yA yQ := by
  refine Pa.mp 2 (pc' := 2) (l' := [(2, .int 6), (0, .int 0), (1, .int 6)]) (st' := []) (by rfl) ?_
  refine Pa.ic (x := 0) (pc' := 3) (by rfl) (by rfl) (by decide) ?_
  refine Pa.mp 2 (pc' := 5) (l' := [(3, .int 0), (2, .int 6), (0, .int 0), (1, .int 6)]) (st' := [.int 0]) (by rfl) ?_
  refine Pa.ic (x := 7) (pc' := 7) (by rfl) (by rfl) (by decide) ?_
  refine Pa.if2k false (by rfl) (by rfl) (by decide) ?_
  show Pa N 38 10 [(3, .int 0), (2, .int 6), (0, .int 0), (1, .int 6)] [] yA _
  refine Pa.mp 1 (pc' := 11) (l' := [(3, .int 0), (2, .int 6), (0, .int 0), (1, .int 6)]) (st' := [.int 6]) (by rfl) ?_
  refine Pa.if1k false (by rfl) (by rfl) (by decide) ?_
  show Pa N 38 14 [(3, .int 0), (2, .int 6), (0, .int 0), (1, .int 6)] [] yA _
  refine Pa.mp 2 (pc' := 16) (l' := [(3, .int 0), (2, .int 6), (0, .int 0), (1, .int 6)]) (st' := [.int 6, .int 0]) (by rfl) ?_
  refine Pa.ist (by rfl) (by rfl) (.inl rfl) (by rfl) (by rfl) ?_
  refine Pa.mono (c_bod0_6 N yA) (fun yu A1 hu => ?_)
  obtain ⟨rfl, hu⟩ := hu
  rw [hu]
  show Pa N 38 19 [(3, .int 0), (2, .int 6), (0, .int 0), (1, .int 6)] [.int 0] yA _
  refine Pa.if1k false (by rfl) (by rfl) (by decide) ?_
  show Pa N 38 22 [(3, .int 0), (2, .int 6), (0, .int 0), (1, .int 6)] [] yA _
  refine Pa.mp 1 (pc' := 23) (l' := [(3, .int 0), (2, .int 6), (0, .int 0), (1, .int 6)]) (st' := [.int 6]) (by rfl) ?_
  refine Pa.ist (by rfl) (by rfl) (.inl rfl) (by rfl) (by rfl) ?_
  refine Pa.mono (c_abv6 N yA) (fun yu A1 hu => ?_)
  obtain ⟨rfl, hu⟩ := hu
  rw [hu]
  show Pa N 38 26 [(3, .int 0), (2, .int 6), (0, .int 0), (1, .int 6)] [.int 4] yA _
  refine Pa.mp 1 (pc' := 27) (l' := [(2, .int 4), (3, .int 0), (0, .int 0), (1, .int 6)]) (st' := []) (by rfl) ?_
  refine Pa.iinc (x := 0) (c := 1) (v := 1) (l' := [(3, .int 1), (2, .int 4), (0, .int 0), (1, .int 6)]) (by rfl) (by rfl) (by decide) (by decide) (by rfl) ?_
  refine Pa.mp 2 (pc' := 5) (l' := [(3, .int 1), (2, .int 4), (0, .int 0), (1, .int 6)]) (st' := [.int 1]) (by rfl) ?_
  refine Pa.ic (x := 7) (pc' := 7) (by rfl) (by rfl) (by decide) ?_
  refine Pa.if2k false (by rfl) (by rfl) (by decide) ?_
  show Pa N 38 10 [(3, .int 1), (2, .int 4), (0, .int 0), (1, .int 6)] [] yA _
  refine Pa.mp 1 (pc' := 11) (l' := [(3, .int 1), (2, .int 4), (0, .int 0), (1, .int 6)]) (st' := [.int 4]) (by rfl) ?_
  refine Pa.if1k false (by rfl) (by rfl) (by decide) ?_
  show Pa N 38 14 [(3, .int 1), (2, .int 4), (0, .int 0), (1, .int 6)] [] yA _
  refine Pa.mp 2 (pc' := 16) (l' := [(3, .int 1), (2, .int 4), (0, .int 0), (1, .int 6)]) (st' := [.int 4, .int 0]) (by rfl) ?_
  refine Pa.ist (by rfl) (by rfl) (.inl rfl) (by rfl) (by rfl) ?_
  refine Pa.mono (c_bod0_4 N yA) (fun yu A1 hu => ?_)
  obtain ⟨rfl, hu⟩ := hu
  rw [hu]
  show Pa N 38 19 [(3, .int 1), (2, .int 4), (0, .int 0), (1, .int 6)] [.int 0] yA _
  refine Pa.if1k false (by rfl) (by rfl) (by decide) ?_
  show Pa N 38 22 [(3, .int 1), (2, .int 4), (0, .int 0), (1, .int 6)] [] yA _
  refine Pa.mp 1 (pc' := 23) (l' := [(3, .int 1), (2, .int 4), (0, .int 0), (1, .int 6)]) (st' := [.int 4]) (by rfl) ?_
  refine Pa.ist (by rfl) (by rfl) (.inl rfl) (by rfl) (by rfl) ?_
  refine Pa.mono (c_abv4 N yA) (fun yu A1 hu => ?_)
  obtain ⟨rfl, hu⟩ := hu
  rw [hu]
  show Pa N 38 26 [(3, .int 1), (2, .int 4), (0, .int 0), (1, .int 6)] [.int 0] yA _
  refine Pa.mp 1 (pc' := 27) (l' := [(2, .int 0), (3, .int 1), (0, .int 0), (1, .int 6)]) (st' := []) (by rfl) ?_
  refine Pa.iinc (x := 1) (c := 1) (v := 2) (l' := [(3, .int 2), (2, .int 0), (0, .int 0), (1, .int 6)]) (by rfl) (by rfl) (by decide) (by decide) (by rfl) ?_
  refine Pa.mp 2 (pc' := 5) (l' := [(3, .int 2), (2, .int 0), (0, .int 0), (1, .int 6)]) (st' := [.int 2]) (by rfl) ?_
  refine Pa.ic (x := 7) (pc' := 7) (by rfl) (by rfl) (by decide) ?_
  refine Pa.if2k false (by rfl) (by rfl) (by decide) ?_
  show Pa N 38 10 [(3, .int 2), (2, .int 0), (0, .int 0), (1, .int 6)] [] yA _
  refine Pa.mp 1 (pc' := 11) (l' := [(3, .int 2), (2, .int 0), (0, .int 0), (1, .int 6)]) (st' := [.int 0]) (by rfl) ?_
  refine Pa.if1k true (by rfl) (by rfl) (by decide) ?_
  show Pa N 38 33 [(3, .int 2), (2, .int 0), (0, .int 0), (1, .int 6)] [] yA _
  refine Pa.mp 1 (pc' := 34) (l' := [(3, .int 2), (2, .int 0), (0, .int 0), (1, .int 6)]) (st' := [.int 0]) (by rfl) ?_
  refine Pa.iret (by rfl) ?_
  exact l1
theorem c_kwb0_6 (N : Nat) (yA : AW) : Pa N 38 0 [(0, .int 0), (1, .int 6)] [] yA (fun yu A1 => yu = some (.int 0) ∧ A1 = yA) := b_kwb0_6 ⟨rfl, rfl⟩

theorem b_kwb1_0 {N : Nat} {yA : AW} {yQ : Option Value → AW → Prop} 
    (l1 : yQ (some (.int 0)) yA) :
    Pa N 38 0 [(0, .int 1), (1, .int 0)] [] yA yQ := by
  refine Pa.mp 2 (pc' := 2) (l' := [(2, .int 0), (0, .int 1), (1, .int 0)]) (st' := []) (by rfl) ?_
  refine Pa.ic (x := 0) (pc' := 3) (by rfl) (by rfl) (by decide) ?_
  refine Pa.mp 2 (pc' := 5) (l' := [(3, .int 0), (2, .int 0), (0, .int 1), (1, .int 0)]) (st' := [.int 0]) (by rfl) ?_
  refine Pa.ic (x := 7) (pc' := 7) (by rfl) (by rfl) (by decide) ?_
  refine Pa.if2k false (by rfl) (by rfl) (by decide) ?_
  show Pa N 38 10 [(3, .int 0), (2, .int 0), (0, .int 1), (1, .int 0)] [] yA _
  refine Pa.mp 1 (pc' := 11) (l' := [(3, .int 0), (2, .int 0), (0, .int 1), (1, .int 0)]) (st' := [.int 0]) (by rfl) ?_
  refine Pa.if1k true (by rfl) (by rfl) (by decide) ?_
  show Pa N 38 33 [(3, .int 0), (2, .int 0), (0, .int 1), (1, .int 0)] [] yA _
  refine Pa.mp 1 (pc' := 34) (l' := [(3, .int 0), (2, .int 0), (0, .int 1), (1, .int 0)]) (st' := [.int 0]) (by rfl) ?_
  refine Pa.iret (by rfl) ?_
  exact l1
theorem c_kwb1_0 (N : Nat) (yA : AW) : Pa N 38 0 [(0, .int 1), (1, .int 0)] [] yA (fun yu A1 => yu = some (.int 0) ∧ A1 = yA) := b_kwb1_0 ⟨rfl, rfl⟩

theorem b_kwb1_1 {N : Nat} {yA : AW} {yQ : Option Value → AW → Prop} 
    (l1 : yQ (some (.int 1)) yA) :
    Pa N 38 0 [(0, .int 1), (1, .int 1)] [] yA yQ := by
  refine Pa.mp 2 (pc' := 2) (l' := [(2, .int 1), (0, .int 1), (1, .int 1)]) (st' := []) (by rfl) ?_
  refine Pa.ic (x := 0) (pc' := 3) (by rfl) (by rfl) (by decide) ?_
  refine Pa.mp 2 (pc' := 5) (l' := [(3, .int 0), (2, .int 1), (0, .int 1), (1, .int 1)]) (st' := [.int 0]) (by rfl) ?_
  refine Pa.ic (x := 7) (pc' := 7) (by rfl) (by rfl) (by decide) ?_
  refine Pa.if2k false (by rfl) (by rfl) (by decide) ?_
  show Pa N 38 10 [(3, .int 0), (2, .int 1), (0, .int 1), (1, .int 1)] [] yA _
  refine Pa.mp 1 (pc' := 11) (l' := [(3, .int 0), (2, .int 1), (0, .int 1), (1, .int 1)]) (st' := [.int 1]) (by rfl) ?_
  refine Pa.if1k false (by rfl) (by rfl) (by decide) ?_
  show Pa N 38 14 [(3, .int 0), (2, .int 1), (0, .int 1), (1, .int 1)] [] yA _
  refine Pa.mp 2 (pc' := 16) (l' := [(3, .int 0), (2, .int 1), (0, .int 1), (1, .int 1)]) (st' := [.int 1, .int 1]) (by rfl) ?_
  refine Pa.ist (by rfl) (by rfl) (.inl rfl) (by rfl) (by rfl) ?_
  refine Pa.mono (c_bod1_1 N yA) (fun yu A1 hu => ?_)
  obtain ⟨rfl, hu⟩ := hu
  rw [hu]
  show Pa N 38 19 [(3, .int 0), (2, .int 1), (0, .int 1), (1, .int 1)] [.int 20] yA _
  refine Pa.if1k true (by rfl) (by rfl) (by decide) ?_
  show Pa N 38 33 [(3, .int 0), (2, .int 1), (0, .int 1), (1, .int 1)] [] yA _
  refine Pa.mp 1 (pc' := 34) (l' := [(3, .int 0), (2, .int 1), (0, .int 1), (1, .int 1)]) (st' := [.int 1]) (by rfl) ?_
  refine Pa.iret (by rfl) ?_
  exact l1
theorem c_kwb1_1 (N : Nat) (yA : AW) : Pa N 38 0 [(0, .int 1), (1, .int 1)] [] yA (fun yu A1 => yu = some (.int 1) ∧ A1 = yA) := b_kwb1_1 ⟨rfl, rfl⟩

theorem b_kwb1_2 {N : Nat} {yA : AW} {yQ : Option Value → AW → Prop} 
    (l1 : yQ (some (.int 0)) yA) :
    Pa N 38 0 [(0, .int 1), (1, .int 2)] [] yA yQ := by
  refine Pa.mp 2 (pc' := 2) (l' := [(2, .int 2), (0, .int 1), (1, .int 2)]) (st' := []) (by rfl) ?_
  refine Pa.ic (x := 0) (pc' := 3) (by rfl) (by rfl) (by decide) ?_
  refine Pa.mp 2 (pc' := 5) (l' := [(3, .int 0), (2, .int 2), (0, .int 1), (1, .int 2)]) (st' := [.int 0]) (by rfl) ?_
  refine Pa.ic (x := 7) (pc' := 7) (by rfl) (by rfl) (by decide) ?_
  refine Pa.if2k false (by rfl) (by rfl) (by decide) ?_
  show Pa N 38 10 [(3, .int 0), (2, .int 2), (0, .int 1), (1, .int 2)] [] yA _
  refine Pa.mp 1 (pc' := 11) (l' := [(3, .int 0), (2, .int 2), (0, .int 1), (1, .int 2)]) (st' := [.int 2]) (by rfl) ?_
  refine Pa.if1k false (by rfl) (by rfl) (by decide) ?_
  show Pa N 38 14 [(3, .int 0), (2, .int 2), (0, .int 1), (1, .int 2)] [] yA _
  refine Pa.mp 2 (pc' := 16) (l' := [(3, .int 0), (2, .int 2), (0, .int 1), (1, .int 2)]) (st' := [.int 2, .int 1]) (by rfl) ?_
  refine Pa.ist (by rfl) (by rfl) (.inl rfl) (by rfl) (by rfl) ?_
  refine Pa.mono (c_bod1_2 N yA) (fun yu A1 hu => ?_)
  obtain ⟨rfl, hu⟩ := hu
  rw [hu]
  show Pa N 38 19 [(3, .int 0), (2, .int 2), (0, .int 1), (1, .int 2)] [.int 0] yA _
  refine Pa.if1k false (by rfl) (by rfl) (by decide) ?_
  show Pa N 38 22 [(3, .int 0), (2, .int 2), (0, .int 1), (1, .int 2)] [] yA _
  refine Pa.mp 1 (pc' := 23) (l' := [(3, .int 0), (2, .int 2), (0, .int 1), (1, .int 2)]) (st' := [.int 2]) (by rfl) ?_
  refine Pa.ist (by rfl) (by rfl) (.inl rfl) (by rfl) (by rfl) ?_
  refine Pa.mono (c_abv2 N yA) (fun yu A1 hu => ?_)
  obtain ⟨rfl, hu⟩ := hu
  rw [hu]
  show Pa N 38 26 [(3, .int 0), (2, .int 2), (0, .int 1), (1, .int 2)] [.int 0] yA _
  refine Pa.mp 1 (pc' := 27) (l' := [(2, .int 0), (3, .int 0), (0, .int 1), (1, .int 2)]) (st' := []) (by rfl) ?_
  refine Pa.iinc (x := 0) (c := 1) (v := 1) (l' := [(3, .int 1), (2, .int 0), (0, .int 1), (1, .int 2)]) (by rfl) (by rfl) (by decide) (by decide) (by rfl) ?_
  refine Pa.mp 2 (pc' := 5) (l' := [(3, .int 1), (2, .int 0), (0, .int 1), (1, .int 2)]) (st' := [.int 1]) (by rfl) ?_
  refine Pa.ic (x := 7) (pc' := 7) (by rfl) (by rfl) (by decide) ?_
  refine Pa.if2k false (by rfl) (by rfl) (by decide) ?_
  show Pa N 38 10 [(3, .int 1), (2, .int 0), (0, .int 1), (1, .int 2)] [] yA _
  refine Pa.mp 1 (pc' := 11) (l' := [(3, .int 1), (2, .int 0), (0, .int 1), (1, .int 2)]) (st' := [.int 0]) (by rfl) ?_
  refine Pa.if1k true (by rfl) (by rfl) (by decide) ?_
  show Pa N 38 33 [(3, .int 1), (2, .int 0), (0, .int 1), (1, .int 2)] [] yA _
  refine Pa.mp 1 (pc' := 34) (l' := [(3, .int 1), (2, .int 0), (0, .int 1), (1, .int 2)]) (st' := [.int 0]) (by rfl) ?_
  refine Pa.iret (by rfl) ?_
  exact l1
theorem c_kwb1_2 (N : Nat) (yA : AW) : Pa N 38 0 [(0, .int 1), (1, .int 2)] [] yA (fun yu A1 => yu = some (.int 0) ∧ A1 = yA) := b_kwb1_2 ⟨rfl, rfl⟩

theorem b_kwb1_3 {N : Nat} {yA : AW} {yQ : Option Value → AW → Prop} 
    (l1 : yQ (some (.int 0)) yA) :
    Pa N 38 0 [(0, .int 1), (1, .int 3)] [] yA yQ := by
  refine Pa.mp 2 (pc' := 2) (l' := [(2, .int 3), (0, .int 1), (1, .int 3)]) (st' := []) (by rfl) ?_
  refine Pa.ic (x := 0) (pc' := 3) (by rfl) (by rfl) (by decide) ?_
  refine Pa.mp 2 (pc' := 5) (l' := [(3, .int 0), (2, .int 3), (0, .int 1), (1, .int 3)]) (st' := [.int 0]) (by rfl) ?_
  refine Pa.ic (x := 7) (pc' := 7) (by rfl) (by rfl) (by decide) ?_
  refine Pa.if2k false (by rfl) (by rfl) (by decide) ?_
  show Pa N 38 10 [(3, .int 0), (2, .int 3), (0, .int 1), (1, .int 3)] [] yA _
  refine Pa.mp 1 (pc' := 11) (l' := [(3, .int 0), (2, .int 3), (0, .int 1), (1, .int 3)]) (st' := [.int 3]) (by rfl) ?_
  refine Pa.if1k false (by rfl) (by rfl) (by decide) ?_
  show Pa N 38 14 [(3, .int 0), (2, .int 3), (0, .int 1), (1, .int 3)] [] yA _
  refine Pa.mp 2 (pc' := 16) (l' := [(3, .int 0), (2, .int 3), (0, .int 1), (1, .int 3)]) (st' := [.int 3, .int 1]) (by rfl) ?_
  refine Pa.ist (by rfl) (by rfl) (.inl rfl) (by rfl) (by rfl) ?_
  refine Pa.mono (c_bod1_3 N yA) (fun yu A1 hu => ?_)
  obtain ⟨rfl, hu⟩ := hu
  rw [hu]
  show Pa N 38 19 [(3, .int 0), (2, .int 3), (0, .int 1), (1, .int 3)] [.int 0] yA _
  refine Pa.if1k false (by rfl) (by rfl) (by decide) ?_
  show Pa N 38 22 [(3, .int 0), (2, .int 3), (0, .int 1), (1, .int 3)] [] yA _
  refine Pa.mp 1 (pc' := 23) (l' := [(3, .int 0), (2, .int 3), (0, .int 1), (1, .int 3)]) (st' := [.int 3]) (by rfl) ?_
  refine Pa.ist (by rfl) (by rfl) (.inl rfl) (by rfl) (by rfl) ?_
  refine Pa.mono (c_abv3 N yA) (fun yu A1 hu => ?_)
  obtain ⟨rfl, hu⟩ := hu
  rw [hu]
  show Pa N 38 26 [(3, .int 0), (2, .int 3), (0, .int 1), (1, .int 3)] [.int 2] yA _
  refine Pa.mp 1 (pc' := 27) (l' := [(2, .int 2), (3, .int 0), (0, .int 1), (1, .int 3)]) (st' := []) (by rfl) ?_
  refine Pa.iinc (x := 0) (c := 1) (v := 1) (l' := [(3, .int 1), (2, .int 2), (0, .int 1), (1, .int 3)]) (by rfl) (by rfl) (by decide) (by decide) (by rfl) ?_
  refine Pa.mp 2 (pc' := 5) (l' := [(3, .int 1), (2, .int 2), (0, .int 1), (1, .int 3)]) (st' := [.int 1]) (by rfl) ?_
  refine Pa.ic (x := 7) (pc' := 7) (by rfl) (by rfl) (by decide) ?_
  refine Pa.if2k false (by rfl) (by rfl) (by decide) ?_
  show Pa N 38 10 [(3, .int 1), (2, .int 2), (0, .int 1), (1, .int 3)] [] yA _
  refine Pa.mp 1 (pc' := 11) (l' := [(3, .int 1), (2, .int 2), (0, .int 1), (1, .int 3)]) (st' := [.int 2]) (by rfl) ?_
  refine Pa.if1k false (by rfl) (by rfl) (by decide) ?_
  show Pa N 38 14 [(3, .int 1), (2, .int 2), (0, .int 1), (1, .int 3)] [] yA _
  refine Pa.mp 2 (pc' := 16) (l' := [(3, .int 1), (2, .int 2), (0, .int 1), (1, .int 3)]) (st' := [.int 2, .int 1]) (by rfl) ?_
  refine Pa.ist (by rfl) (by rfl) (.inl rfl) (by rfl) (by rfl) ?_
  refine Pa.mono (c_bod1_2 N yA) (fun yu A1 hu => ?_)
  obtain ⟨rfl, hu⟩ := hu
  rw [hu]
  show Pa N 38 19 [(3, .int 1), (2, .int 2), (0, .int 1), (1, .int 3)] [.int 0] yA _
  refine Pa.if1k false (by rfl) (by rfl) (by decide) ?_
  show Pa N 38 22 [(3, .int 1), (2, .int 2), (0, .int 1), (1, .int 3)] [] yA _
  refine Pa.mp 1 (pc' := 23) (l' := [(3, .int 1), (2, .int 2), (0, .int 1), (1, .int 3)]) (st' := [.int 2]) (by rfl) ?_
  refine Pa.ist (by rfl) (by rfl) (.inl rfl) (by rfl) (by rfl) ?_
  refine Pa.mono (c_abv2 N yA) (fun yu A1 hu => ?_)
  obtain ⟨rfl, hu⟩ := hu
  rw [hu]
  show Pa N 38 26 [(3, .int 1), (2, .int 2), (0, .int 1), (1, .int 3)] [.int 0] yA _
  refine Pa.mp 1 (pc' := 27) (l' := [(2, .int 0), (3, .int 1), (0, .int 1), (1, .int 3)]) (st' := []) (by rfl) ?_
  refine Pa.iinc (x := 1) (c := 1) (v := 2) (l' := [(3, .int 2), (2, .int 0), (0, .int 1), (1, .int 3)]) (by rfl) (by rfl) (by decide) (by decide) (by rfl) ?_
  refine Pa.mp 2 (pc' := 5) (l' := [(3, .int 2), (2, .int 0), (0, .int 1), (1, .int 3)]) (st' := [.int 2]) (by rfl) ?_
  refine Pa.ic (x := 7) (pc' := 7) (by rfl) (by rfl) (by decide) ?_
  refine Pa.if2k false (by rfl) (by rfl) (by decide) ?_
  show Pa N 38 10 [(3, .int 2), (2, .int 0), (0, .int 1), (1, .int 3)] [] yA _
  refine Pa.mp 1 (pc' := 11) (l' := [(3, .int 2), (2, .int 0), (0, .int 1), (1, .int 3)]) (st' := [.int 0]) (by rfl) ?_
  refine Pa.if1k true (by rfl) (by rfl) (by decide) ?_
  show Pa N 38 33 [(3, .int 2), (2, .int 0), (0, .int 1), (1, .int 3)] [] yA _
  refine Pa.mp 1 (pc' := 34) (l' := [(3, .int 2), (2, .int 0), (0, .int 1), (1, .int 3)]) (st' := [.int 0]) (by rfl) ?_
  refine Pa.iret (by rfl) ?_
  exact l1
theorem c_kwb1_3 (N : Nat) (yA : AW) : Pa N 38 0 [(0, .int 1), (1, .int 3)] [] yA (fun yu A1 => yu = some (.int 0) ∧ A1 = yA) := b_kwb1_3 ⟨rfl, rfl⟩

theorem b_kwb1_4 {N : Nat} {yA : AW} {yQ : Option Value → AW → Prop} 
    (l1 : yQ (some (.int 4)) yA) :
    Pa N 38 0 [(0, .int 1), (1, .int 4)] [] yA yQ := by
  refine Pa.mp 2 (pc' := 2) (l' := [(2, .int 4), (0, .int 1), (1, .int 4)]) (st' := []) (by rfl) ?_
  refine Pa.ic (x := 0) (pc' := 3) (by rfl) (by rfl) (by decide) ?_
  refine Pa.mp 2 (pc' := 5) (l' := [(3, .int 0), (2, .int 4), (0, .int 1), (1, .int 4)]) (st' := [.int 0]) (by rfl) ?_
  refine Pa.ic (x := 7) (pc' := 7) (by rfl) (by rfl) (by decide) ?_
  refine Pa.if2k false (by rfl) (by rfl) (by decide) ?_
  show Pa N 38 10 [(3, .int 0), (2, .int 4), (0, .int 1), (1, .int 4)] [] yA _
  refine Pa.mp 1 (pc' := 11) (l' := [(3, .int 0), (2, .int 4), (0, .int 1), (1, .int 4)]) (st' := [.int 4]) (by rfl) ?_
  refine Pa.if1k false (by rfl) (by rfl) (by decide) ?_
  show Pa N 38 14 [(3, .int 0), (2, .int 4), (0, .int 1), (1, .int 4)] [] yA _
  refine Pa.mp 2 (pc' := 16) (l' := [(3, .int 0), (2, .int 4), (0, .int 1), (1, .int 4)]) (st' := [.int 4, .int 1]) (by rfl) ?_
  refine Pa.ist (by rfl) (by rfl) (.inl rfl) (by rfl) (by rfl) ?_
  refine Pa.mono (c_bod1_4 N yA) (fun yu A1 hu => ?_)
  obtain ⟨rfl, hu⟩ := hu
  rw [hu]
  show Pa N 38 19 [(3, .int 0), (2, .int 4), (0, .int 1), (1, .int 4)] [.int 50] yA _
  refine Pa.if1k true (by rfl) (by rfl) (by decide) ?_
  show Pa N 38 33 [(3, .int 0), (2, .int 4), (0, .int 1), (1, .int 4)] [] yA _
  refine Pa.mp 1 (pc' := 34) (l' := [(3, .int 0), (2, .int 4), (0, .int 1), (1, .int 4)]) (st' := [.int 4]) (by rfl) ?_
  refine Pa.iret (by rfl) ?_
  exact l1
theorem c_kwb1_4 (N : Nat) (yA : AW) : Pa N 38 0 [(0, .int 1), (1, .int 4)] [] yA (fun yu A1 => yu = some (.int 4) ∧ A1 = yA) := b_kwb1_4 ⟨rfl, rfl⟩

theorem b_kwb1_5 {N : Nat} {yA : AW} {yQ : Option Value → AW → Prop} 
    (l1 : yQ (some (.int 0)) yA) :
    Pa N 38 0 [(0, .int 1), (1, .int 5)] [] yA yQ := by
  refine Pa.mp 2 (pc' := 2) (l' := [(2, .int 5), (0, .int 1), (1, .int 5)]) (st' := []) (by rfl) ?_
  refine Pa.ic (x := 0) (pc' := 3) (by rfl) (by rfl) (by decide) ?_
  refine Pa.mp 2 (pc' := 5) (l' := [(3, .int 0), (2, .int 5), (0, .int 1), (1, .int 5)]) (st' := [.int 0]) (by rfl) ?_
  refine Pa.ic (x := 7) (pc' := 7) (by rfl) (by rfl) (by decide) ?_
  refine Pa.if2k false (by rfl) (by rfl) (by decide) ?_
  show Pa N 38 10 [(3, .int 0), (2, .int 5), (0, .int 1), (1, .int 5)] [] yA _
  refine Pa.mp 1 (pc' := 11) (l' := [(3, .int 0), (2, .int 5), (0, .int 1), (1, .int 5)]) (st' := [.int 5]) (by rfl) ?_
  refine Pa.if1k false (by rfl) (by rfl) (by decide) ?_
  show Pa N 38 14 [(3, .int 0), (2, .int 5), (0, .int 1), (1, .int 5)] [] yA _
  refine Pa.mp 2 (pc' := 16) (l' := [(3, .int 0), (2, .int 5), (0, .int 1), (1, .int 5)]) (st' := [.int 5, .int 1]) (by rfl) ?_
  refine Pa.ist (by rfl) (by rfl) (.inl rfl) (by rfl) (by rfl) ?_
  refine Pa.mono (c_bod1_5 N yA) (fun yu A1 hu => ?_)
  obtain ⟨rfl, hu⟩ := hu
  rw [hu]
  show Pa N 38 19 [(3, .int 0), (2, .int 5), (0, .int 1), (1, .int 5)] [.int 0] yA _
  refine Pa.if1k false (by rfl) (by rfl) (by decide) ?_
  show Pa N 38 22 [(3, .int 0), (2, .int 5), (0, .int 1), (1, .int 5)] [] yA _
  refine Pa.mp 1 (pc' := 23) (l' := [(3, .int 0), (2, .int 5), (0, .int 1), (1, .int 5)]) (st' := [.int 5]) (by rfl) ?_
  refine Pa.ist (by rfl) (by rfl) (.inl rfl) (by rfl) (by rfl) ?_
  refine Pa.mono (c_abv5 N yA) (fun yu A1 hu => ?_)
  obtain ⟨rfl, hu⟩ := hu
  rw [hu]
  show Pa N 38 26 [(3, .int 0), (2, .int 5), (0, .int 1), (1, .int 5)] [.int 2] yA _
  refine Pa.mp 1 (pc' := 27) (l' := [(2, .int 2), (3, .int 0), (0, .int 1), (1, .int 5)]) (st' := []) (by rfl) ?_
  refine Pa.iinc (x := 0) (c := 1) (v := 1) (l' := [(3, .int 1), (2, .int 2), (0, .int 1), (1, .int 5)]) (by rfl) (by rfl) (by decide) (by decide) (by rfl) ?_
  refine Pa.mp 2 (pc' := 5) (l' := [(3, .int 1), (2, .int 2), (0, .int 1), (1, .int 5)]) (st' := [.int 1]) (by rfl) ?_
  refine Pa.ic (x := 7) (pc' := 7) (by rfl) (by rfl) (by decide) ?_
  refine Pa.if2k false (by rfl) (by rfl) (by decide) ?_
  show Pa N 38 10 [(3, .int 1), (2, .int 2), (0, .int 1), (1, .int 5)] [] yA _
  refine Pa.mp 1 (pc' := 11) (l' := [(3, .int 1), (2, .int 2), (0, .int 1), (1, .int 5)]) (st' := [.int 2]) (by rfl) ?_
  refine Pa.if1k false (by rfl) (by rfl) (by decide) ?_
  show Pa N 38 14 [(3, .int 1), (2, .int 2), (0, .int 1), (1, .int 5)] [] yA _
  refine Pa.mp 2 (pc' := 16) (l' := [(3, .int 1), (2, .int 2), (0, .int 1), (1, .int 5)]) (st' := [.int 2, .int 1]) (by rfl) ?_
  refine Pa.ist (by rfl) (by rfl) (.inl rfl) (by rfl) (by rfl) ?_
  refine Pa.mono (c_bod1_2 N yA) (fun yu A1 hu => ?_)
  obtain ⟨rfl, hu⟩ := hu
  rw [hu]
  show Pa N 38 19 [(3, .int 1), (2, .int 2), (0, .int 1), (1, .int 5)] [.int 0] yA _
  refine Pa.if1k false (by rfl) (by rfl) (by decide) ?_
  show Pa N 38 22 [(3, .int 1), (2, .int 2), (0, .int 1), (1, .int 5)] [] yA _
  refine Pa.mp 1 (pc' := 23) (l' := [(3, .int 1), (2, .int 2), (0, .int 1), (1, .int 5)]) (st' := [.int 2]) (by rfl) ?_
  refine Pa.ist (by rfl) (by rfl) (.inl rfl) (by rfl) (by rfl) ?_
  refine Pa.mono (c_abv2 N yA) (fun yu A1 hu => ?_)
  obtain ⟨rfl, hu⟩ := hu
  rw [hu]
  show Pa N 38 26 [(3, .int 1), (2, .int 2), (0, .int 1), (1, .int 5)] [.int 0] yA _
  refine Pa.mp 1 (pc' := 27) (l' := [(2, .int 0), (3, .int 1), (0, .int 1), (1, .int 5)]) (st' := []) (by rfl) ?_
  refine Pa.iinc (x := 1) (c := 1) (v := 2) (l' := [(3, .int 2), (2, .int 0), (0, .int 1), (1, .int 5)]) (by rfl) (by rfl) (by decide) (by decide) (by rfl) ?_
  refine Pa.mp 2 (pc' := 5) (l' := [(3, .int 2), (2, .int 0), (0, .int 1), (1, .int 5)]) (st' := [.int 2]) (by rfl) ?_
  refine Pa.ic (x := 7) (pc' := 7) (by rfl) (by rfl) (by decide) ?_
  refine Pa.if2k false (by rfl) (by rfl) (by decide) ?_
  show Pa N 38 10 [(3, .int 2), (2, .int 0), (0, .int 1), (1, .int 5)] [] yA _
  refine Pa.mp 1 (pc' := 11) (l' := [(3, .int 2), (2, .int 0), (0, .int 1), (1, .int 5)]) (st' := [.int 0]) (by rfl) ?_
  refine Pa.if1k true (by rfl) (by rfl) (by decide) ?_
  show Pa N 38 33 [(3, .int 2), (2, .int 0), (0, .int 1), (1, .int 5)] [] yA _
  refine Pa.mp 1 (pc' := 34) (l' := [(3, .int 2), (2, .int 0), (0, .int 1), (1, .int 5)]) (st' := [.int 0]) (by rfl) ?_
  refine Pa.iret (by rfl) ?_
  exact l1
theorem c_kwb1_5 (N : Nat) (yA : AW) : Pa N 38 0 [(0, .int 1), (1, .int 5)] [] yA (fun yu A1 => yu = some (.int 0) ∧ A1 = yA) := b_kwb1_5 ⟨rfl, rfl⟩

theorem b_kwb1_6 {N : Nat} {yA : AW} {yQ : Option Value → AW → Prop} 
    (l1 : yQ (some (.int 6)) yA) :
    Pa N 38 0 [(0, .int 1), (1, .int 6)] [] yA yQ := by
  refine Pa.mp 2 (pc' := 2) (l' := [(2, .int 6), (0, .int 1), (1, .int 6)]) (st' := []) (by rfl) ?_
  refine Pa.ic (x := 0) (pc' := 3) (by rfl) (by rfl) (by decide) ?_
  refine Pa.mp 2 (pc' := 5) (l' := [(3, .int 0), (2, .int 6), (0, .int 1), (1, .int 6)]) (st' := [.int 0]) (by rfl) ?_
  refine Pa.ic (x := 7) (pc' := 7) (by rfl) (by rfl) (by decide) ?_
  refine Pa.if2k false (by rfl) (by rfl) (by decide) ?_
  show Pa N 38 10 [(3, .int 0), (2, .int 6), (0, .int 1), (1, .int 6)] [] yA _
  refine Pa.mp 1 (pc' := 11) (l' := [(3, .int 0), (2, .int 6), (0, .int 1), (1, .int 6)]) (st' := [.int 6]) (by rfl) ?_
  refine Pa.if1k false (by rfl) (by rfl) (by decide) ?_
  show Pa N 38 14 [(3, .int 0), (2, .int 6), (0, .int 1), (1, .int 6)] [] yA _
  refine Pa.mp 2 (pc' := 16) (l' := [(3, .int 0), (2, .int 6), (0, .int 1), (1, .int 6)]) (st' := [.int 6, .int 1]) (by rfl) ?_
  refine Pa.ist (by rfl) (by rfl) (.inl rfl) (by rfl) (by rfl) ?_
  refine Pa.mono (c_bod1_6 N yA) (fun yu A1 hu => ?_)
  obtain ⟨rfl, hu⟩ := hu
  rw [hu]
  show Pa N 38 19 [(3, .int 0), (2, .int 6), (0, .int 1), (1, .int 6)] [.int 70] yA _
  refine Pa.if1k true (by rfl) (by rfl) (by decide) ?_
  show Pa N 38 33 [(3, .int 0), (2, .int 6), (0, .int 1), (1, .int 6)] [] yA _
  refine Pa.mp 1 (pc' := 34) (l' := [(3, .int 0), (2, .int 6), (0, .int 1), (1, .int 6)]) (st' := [.int 6]) (by rfl) ?_
  refine Pa.iret (by rfl) ?_
  exact l1
theorem c_kwb1_6 (N : Nat) (yA : AW) : Pa N 38 0 [(0, .int 1), (1, .int 6)] [] yA (fun yu A1 => yu = some (.int 6) ∧ A1 = yA) := b_kwb1_6 ⟨rfl, rfl⟩

theorem b_kwb2_0 {N : Nat} {yA : AW} {yQ : Option Value → AW → Prop} 
    (l1 : yQ (some (.int 0)) yA) :
    Pa N 38 0 [(0, .int 2), (1, .int 0)] [] yA yQ := by
  refine Pa.mp 2 (pc' := 2) (l' := [(2, .int 0), (0, .int 2), (1, .int 0)]) (st' := []) (by rfl) ?_
  refine Pa.ic (x := 0) (pc' := 3) (by rfl) (by rfl) (by decide) ?_
  refine Pa.mp 2 (pc' := 5) (l' := [(3, .int 0), (2, .int 0), (0, .int 2), (1, .int 0)]) (st' := [.int 0]) (by rfl) ?_
  refine Pa.ic (x := 7) (pc' := 7) (by rfl) (by rfl) (by decide) ?_
  refine Pa.if2k false (by rfl) (by rfl) (by decide) ?_
  show Pa N 38 10 [(3, .int 0), (2, .int 0), (0, .int 2), (1, .int 0)] [] yA _
  refine Pa.mp 1 (pc' := 11) (l' := [(3, .int 0), (2, .int 0), (0, .int 2), (1, .int 0)]) (st' := [.int 0]) (by rfl) ?_
  refine Pa.if1k true (by rfl) (by rfl) (by decide) ?_
  show Pa N 38 33 [(3, .int 0), (2, .int 0), (0, .int 2), (1, .int 0)] [] yA _
  refine Pa.mp 1 (pc' := 34) (l' := [(3, .int 0), (2, .int 0), (0, .int 2), (1, .int 0)]) (st' := [.int 0]) (by rfl) ?_
  refine Pa.iret (by rfl) ?_
  exact l1
theorem c_kwb2_0 (N : Nat) (yA : AW) : Pa N 38 0 [(0, .int 2), (1, .int 0)] [] yA (fun yu A1 => yu = some (.int 0) ∧ A1 = yA) := b_kwb2_0 ⟨rfl, rfl⟩

theorem b_kwb2_1 {N : Nat} {yA : AW} {yQ : Option Value → AW → Prop} 
    (l1 : yQ (some (.int 0)) yA) :
    Pa N 38 0 [(0, .int 2), (1, .int 1)] [] yA yQ := by
  refine Pa.mp 2 (pc' := 2) (l' := [(2, .int 1), (0, .int 2), (1, .int 1)]) (st' := []) (by rfl) ?_
  refine Pa.ic (x := 0) (pc' := 3) (by rfl) (by rfl) (by decide) ?_
  refine Pa.mp 2 (pc' := 5) (l' := [(3, .int 0), (2, .int 1), (0, .int 2), (1, .int 1)]) (st' := [.int 0]) (by rfl) ?_
  refine Pa.ic (x := 7) (pc' := 7) (by rfl) (by rfl) (by decide) ?_
  refine Pa.if2k false (by rfl) (by rfl) (by decide) ?_
  show Pa N 38 10 [(3, .int 0), (2, .int 1), (0, .int 2), (1, .int 1)] [] yA _
  refine Pa.mp 1 (pc' := 11) (l' := [(3, .int 0), (2, .int 1), (0, .int 2), (1, .int 1)]) (st' := [.int 1]) (by rfl) ?_
  refine Pa.if1k false (by rfl) (by rfl) (by decide) ?_
  show Pa N 38 14 [(3, .int 0), (2, .int 1), (0, .int 2), (1, .int 1)] [] yA _
  refine Pa.mp 2 (pc' := 16) (l' := [(3, .int 0), (2, .int 1), (0, .int 2), (1, .int 1)]) (st' := [.int 1, .int 2]) (by rfl) ?_
  refine Pa.ist (by rfl) (by rfl) (.inl rfl) (by rfl) (by rfl) ?_
  refine Pa.mono (c_bod2_1 N yA) (fun yu A1 hu => ?_)
  obtain ⟨rfl, hu⟩ := hu
  rw [hu]
  show Pa N 38 19 [(3, .int 0), (2, .int 1), (0, .int 2), (1, .int 1)] [.int 0] yA _
  refine Pa.if1k false (by rfl) (by rfl) (by decide) ?_
  show Pa N 38 22 [(3, .int 0), (2, .int 1), (0, .int 2), (1, .int 1)] [] yA _
  refine Pa.mp 1 (pc' := 23) (l' := [(3, .int 0), (2, .int 1), (0, .int 2), (1, .int 1)]) (st' := [.int 1]) (by rfl) ?_
  refine Pa.ist (by rfl) (by rfl) (.inl rfl) (by rfl) (by rfl) ?_
  refine Pa.mono (c_abv1 N yA) (fun yu A1 hu => ?_)
  obtain ⟨rfl, hu⟩ := hu
  rw [hu]
  show Pa N 38 26 [(3, .int 0), (2, .int 1), (0, .int 2), (1, .int 1)] [.int 0] yA _
  refine Pa.mp 1 (pc' := 27) (l' := [(2, .int 0), (3, .int 0), (0, .int 2), (1, .int 1)]) (st' := []) (by rfl) ?_
  refine Pa.iinc (x := 0) (c := 1) (v := 1) (l' := [(3, .int 1), (2, .int 0), (0, .int 2), (1, .int 1)]) (by rfl) (by rfl) (by decide) (by decide) (by rfl) ?_
  refine Pa.mp 2 (pc' := 5) (l' := [(3, .int 1), (2, .int 0), (0, .int 2), (1, .int 1)]) (st' := [.int 1]) (by rfl) ?_
  refine Pa.ic (x := 7) (pc' := 7) (by rfl) (by rfl) (by decide) ?_
  refine Pa.if2k false (by rfl) (by rfl) (by decide) ?_
  show Pa N 38 10 [(3, .int 1), (2, .int 0), (0, .int 2), (1, .int 1)] [] yA _
  refine Pa.mp 1 (pc' := 11) (l' := [(3, .int 1), (2, .int 0), (0, .int 2), (1, .int 1)]) (st' := [.int 0]) (by rfl) ?_
  refine Pa.if1k true (by rfl) (by rfl) (by decide) ?_
  show Pa N 38 33 [(3, .int 1), (2, .int 0), (0, .int 2), (1, .int 1)] [] yA _
  refine Pa.mp 1 (pc' := 34) (l' := [(3, .int 1), (2, .int 0), (0, .int 2), (1, .int 1)]) (st' := [.int 0]) (by rfl) ?_
  refine Pa.iret (by rfl) ?_
  exact l1
theorem c_kwb2_1 (N : Nat) (yA : AW) : Pa N 38 0 [(0, .int 2), (1, .int 1)] [] yA (fun yu A1 => yu = some (.int 0) ∧ A1 = yA) := b_kwb2_1 ⟨rfl, rfl⟩

theorem b_kwb2_2 {N : Nat} {yA : AW} {yQ : Option Value → AW → Prop} 
    (l1 : yQ (some (.int 0)) yA) :
    Pa N 38 0 [(0, .int 2), (1, .int 2)] [] yA yQ := by
  refine Pa.mp 2 (pc' := 2) (l' := [(2, .int 2), (0, .int 2), (1, .int 2)]) (st' := []) (by rfl) ?_
  refine Pa.ic (x := 0) (pc' := 3) (by rfl) (by rfl) (by decide) ?_
  refine Pa.mp 2 (pc' := 5) (l' := [(3, .int 0), (2, .int 2), (0, .int 2), (1, .int 2)]) (st' := [.int 0]) (by rfl) ?_
  refine Pa.ic (x := 7) (pc' := 7) (by rfl) (by rfl) (by decide) ?_
  refine Pa.if2k false (by rfl) (by rfl) (by decide) ?_
  show Pa N 38 10 [(3, .int 0), (2, .int 2), (0, .int 2), (1, .int 2)] [] yA _
  refine Pa.mp 1 (pc' := 11) (l' := [(3, .int 0), (2, .int 2), (0, .int 2), (1, .int 2)]) (st' := [.int 2]) (by rfl) ?_
  refine Pa.if1k false (by rfl) (by rfl) (by decide) ?_
  show Pa N 38 14 [(3, .int 0), (2, .int 2), (0, .int 2), (1, .int 2)] [] yA _
  refine Pa.mp 2 (pc' := 16) (l' := [(3, .int 0), (2, .int 2), (0, .int 2), (1, .int 2)]) (st' := [.int 2, .int 2]) (by rfl) ?_
  refine Pa.ist (by rfl) (by rfl) (.inl rfl) (by rfl) (by rfl) ?_
  refine Pa.mono (c_bod2_2 N yA) (fun yu A1 hu => ?_)
  obtain ⟨rfl, hu⟩ := hu
  rw [hu]
  show Pa N 38 19 [(3, .int 0), (2, .int 2), (0, .int 2), (1, .int 2)] [.int 0] yA _
  refine Pa.if1k false (by rfl) (by rfl) (by decide) ?_
  show Pa N 38 22 [(3, .int 0), (2, .int 2), (0, .int 2), (1, .int 2)] [] yA _
  refine Pa.mp 1 (pc' := 23) (l' := [(3, .int 0), (2, .int 2), (0, .int 2), (1, .int 2)]) (st' := [.int 2]) (by rfl) ?_
  refine Pa.ist (by rfl) (by rfl) (.inl rfl) (by rfl) (by rfl) ?_
  refine Pa.mono (c_abv2 N yA) (fun yu A1 hu => ?_)
  obtain ⟨rfl, hu⟩ := hu
  rw [hu]
  show Pa N 38 26 [(3, .int 0), (2, .int 2), (0, .int 2), (1, .int 2)] [.int 0] yA _
  refine Pa.mp 1 (pc' := 27) (l' := [(2, .int 0), (3, .int 0), (0, .int 2), (1, .int 2)]) (st' := []) (by rfl) ?_
  refine Pa.iinc (x := 0) (c := 1) (v := 1) (l' := [(3, .int 1), (2, .int 0), (0, .int 2), (1, .int 2)]) (by rfl) (by rfl) (by decide) (by decide) (by rfl) ?_
  refine Pa.mp 2 (pc' := 5) (l' := [(3, .int 1), (2, .int 0), (0, .int 2), (1, .int 2)]) (st' := [.int 1]) (by rfl) ?_
  refine Pa.ic (x := 7) (pc' := 7) (by rfl) (by rfl) (by decide) ?_
  refine Pa.if2k false (by rfl) (by rfl) (by decide) ?_
  show Pa N 38 10 [(3, .int 1), (2, .int 0), (0, .int 2), (1, .int 2)] [] yA _
  refine Pa.mp 1 (pc' := 11) (l' := [(3, .int 1), (2, .int 0), (0, .int 2), (1, .int 2)]) (st' := [.int 0]) (by rfl) ?_
  refine Pa.if1k true (by rfl) (by rfl) (by decide) ?_
  show Pa N 38 33 [(3, .int 1), (2, .int 0), (0, .int 2), (1, .int 2)] [] yA _
  refine Pa.mp 1 (pc' := 34) (l' := [(3, .int 1), (2, .int 0), (0, .int 2), (1, .int 2)]) (st' := [.int 0]) (by rfl) ?_
  refine Pa.iret (by rfl) ?_
  exact l1
theorem c_kwb2_2 (N : Nat) (yA : AW) : Pa N 38 0 [(0, .int 2), (1, .int 2)] [] yA (fun yu A1 => yu = some (.int 0) ∧ A1 = yA) := b_kwb2_2 ⟨rfl, rfl⟩

theorem b_kwb2_3 {N : Nat} {yA : AW} {yQ : Option Value → AW → Prop} 
    (l1 : yQ (some (.int 3)) yA) :
    Pa N 38 0 [(0, .int 2), (1, .int 3)] [] yA yQ := by
  refine Pa.mp 2 (pc' := 2) (l' := [(2, .int 3), (0, .int 2), (1, .int 3)]) (st' := []) (by rfl) ?_
  refine Pa.ic (x := 0) (pc' := 3) (by rfl) (by rfl) (by decide) ?_
  refine Pa.mp 2 (pc' := 5) (l' := [(3, .int 0), (2, .int 3), (0, .int 2), (1, .int 3)]) (st' := [.int 0]) (by rfl) ?_
  refine Pa.ic (x := 7) (pc' := 7) (by rfl) (by rfl) (by decide) ?_
  refine Pa.if2k false (by rfl) (by rfl) (by decide) ?_
  show Pa N 38 10 [(3, .int 0), (2, .int 3), (0, .int 2), (1, .int 3)] [] yA _
  refine Pa.mp 1 (pc' := 11) (l' := [(3, .int 0), (2, .int 3), (0, .int 2), (1, .int 3)]) (st' := [.int 3]) (by rfl) ?_
  refine Pa.if1k false (by rfl) (by rfl) (by decide) ?_
  show Pa N 38 14 [(3, .int 0), (2, .int 3), (0, .int 2), (1, .int 3)] [] yA _
  refine Pa.mp 2 (pc' := 16) (l' := [(3, .int 0), (2, .int 3), (0, .int 2), (1, .int 3)]) (st' := [.int 3, .int 2]) (by rfl) ?_
  refine Pa.ist (by rfl) (by rfl) (.inl rfl) (by rfl) (by rfl) ?_
  refine Pa.mono (c_bod2_3 N yA) (fun yu A1 hu => ?_)
  obtain ⟨rfl, hu⟩ := hu
  rw [hu]
  show Pa N 38 19 [(3, .int 0), (2, .int 3), (0, .int 2), (1, .int 3)] [.int 40] yA _
  refine Pa.if1k true (by rfl) (by rfl) (by decide) ?_
  show Pa N 38 33 [(3, .int 0), (2, .int 3), (0, .int 2), (1, .int 3)] [] yA _
  refine Pa.mp 1 (pc' := 34) (l' := [(3, .int 0), (2, .int 3), (0, .int 2), (1, .int 3)]) (st' := [.int 3]) (by rfl) ?_
  refine Pa.iret (by rfl) ?_
  exact l1
theorem c_kwb2_3 (N : Nat) (yA : AW) : Pa N 38 0 [(0, .int 2), (1, .int 3)] [] yA (fun yu A1 => yu = some (.int 3) ∧ A1 = yA) := b_kwb2_3 ⟨rfl, rfl⟩

theorem b_kwb2_4 {N : Nat} {yA : AW} {yQ : Option Value → AW → Prop} 
    (l1 : yQ (some (.int 0)) yA) :
    Pa N 38 0 [(0, .int 2), (1, .int 4)] [] yA yQ := by
  refine Pa.mp 2 (pc' := 2) (l' := [(2, .int 4), (0, .int 2), (1, .int 4)]) (st' := []) (by rfl) ?_
  refine Pa.ic (x := 0) (pc' := 3) (by rfl) (by rfl) (by decide) ?_
  refine Pa.mp 2 (pc' := 5) (l' := [(3, .int 0), (2, .int 4), (0, .int 2), (1, .int 4)]) (st' := [.int 0]) (by rfl) ?_
  refine Pa.ic (x := 7) (pc' := 7) (by rfl) (by rfl) (by decide) ?_
  refine Pa.if2k false (by rfl) (by rfl) (by decide) ?_
  show Pa N 38 10 [(3, .int 0), (2, .int 4), (0, .int 2), (1, .int 4)] [] yA _
  refine Pa.mp 1 (pc' := 11) (l' := [(3, .int 0), (2, .int 4), (0, .int 2), (1, .int 4)]) (st' := [.int 4]) (by rfl) ?_
  refine Pa.if1k false (by rfl) (by rfl) (by decide) ?_
  show Pa N 38 14 [(3, .int 0), (2, .int 4), (0, .int 2), (1, .int 4)] [] yA _
  refine Pa.mp 2 (pc' := 16) (l' := [(3, .int 0), (2, .int 4), (0, .int 2), (1, .int 4)]) (st' := [.int 4, .int 2]) (by rfl) ?_
  refine Pa.ist (by rfl) (by rfl) (.inl rfl) (by rfl) (by rfl) ?_
  refine Pa.mono (c_bod2_4 N yA) (fun yu A1 hu => ?_)
  obtain ⟨rfl, hu⟩ := hu
  rw [hu]
  show Pa N 38 19 [(3, .int 0), (2, .int 4), (0, .int 2), (1, .int 4)] [.int 0] yA _
  refine Pa.if1k false (by rfl) (by rfl) (by decide) ?_
  show Pa N 38 22 [(3, .int 0), (2, .int 4), (0, .int 2), (1, .int 4)] [] yA _
  refine Pa.mp 1 (pc' := 23) (l' := [(3, .int 0), (2, .int 4), (0, .int 2), (1, .int 4)]) (st' := [.int 4]) (by rfl) ?_
  refine Pa.ist (by rfl) (by rfl) (.inl rfl) (by rfl) (by rfl) ?_
  refine Pa.mono (c_abv4 N yA) (fun yu A1 hu => ?_)
  obtain ⟨rfl, hu⟩ := hu
  rw [hu]
  show Pa N 38 26 [(3, .int 0), (2, .int 4), (0, .int 2), (1, .int 4)] [.int 0] yA _
  refine Pa.mp 1 (pc' := 27) (l' := [(2, .int 0), (3, .int 0), (0, .int 2), (1, .int 4)]) (st' := []) (by rfl) ?_
  refine Pa.iinc (x := 0) (c := 1) (v := 1) (l' := [(3, .int 1), (2, .int 0), (0, .int 2), (1, .int 4)]) (by rfl) (by rfl) (by decide) (by decide) (by rfl) ?_
  refine Pa.mp 2 (pc' := 5) (l' := [(3, .int 1), (2, .int 0), (0, .int 2), (1, .int 4)]) (st' := [.int 1]) (by rfl) ?_
  refine Pa.ic (x := 7) (pc' := 7) (by rfl) (by rfl) (by decide) ?_
  refine Pa.if2k false (by rfl) (by rfl) (by decide) ?_
  show Pa N 38 10 [(3, .int 1), (2, .int 0), (0, .int 2), (1, .int 4)] [] yA _
  refine Pa.mp 1 (pc' := 11) (l' := [(3, .int 1), (2, .int 0), (0, .int 2), (1, .int 4)]) (st' := [.int 0]) (by rfl) ?_
  refine Pa.if1k true (by rfl) (by rfl) (by decide) ?_
  show Pa N 38 33 [(3, .int 1), (2, .int 0), (0, .int 2), (1, .int 4)] [] yA _
  refine Pa.mp 1 (pc' := 34) (l' := [(3, .int 1), (2, .int 0), (0, .int 2), (1, .int 4)]) (st' := [.int 0]) (by rfl) ?_
  refine Pa.iret (by rfl) ?_
  exact l1
theorem c_kwb2_4 (N : Nat) (yA : AW) : Pa N 38 0 [(0, .int 2), (1, .int 4)] [] yA (fun yu A1 => yu = some (.int 0) ∧ A1 = yA) := b_kwb2_4 ⟨rfl, rfl⟩

theorem b_kwb2_5 {N : Nat} {yA : AW} {yQ : Option Value → AW → Prop} 
    (l1 : yQ (some (.int 5)) yA) :
    Pa N 38 0 [(0, .int 2), (1, .int 5)] [] yA yQ := by
  refine Pa.mp 2 (pc' := 2) (l' := [(2, .int 5), (0, .int 2), (1, .int 5)]) (st' := []) (by rfl) ?_
  refine Pa.ic (x := 0) (pc' := 3) (by rfl) (by rfl) (by decide) ?_
  refine Pa.mp 2 (pc' := 5) (l' := [(3, .int 0), (2, .int 5), (0, .int 2), (1, .int 5)]) (st' := [.int 0]) (by rfl) ?_
  refine Pa.ic (x := 7) (pc' := 7) (by rfl) (by rfl) (by decide) ?_
  refine Pa.if2k false (by rfl) (by rfl) (by decide) ?_
  show Pa N 38 10 [(3, .int 0), (2, .int 5), (0, .int 2), (1, .int 5)] [] yA _
  refine Pa.mp 1 (pc' := 11) (l' := [(3, .int 0), (2, .int 5), (0, .int 2), (1, .int 5)]) (st' := [.int 5]) (by rfl) ?_
  refine Pa.if1k false (by rfl) (by rfl) (by decide) ?_
  show Pa N 38 14 [(3, .int 0), (2, .int 5), (0, .int 2), (1, .int 5)] [] yA _
  refine Pa.mp 2 (pc' := 16) (l' := [(3, .int 0), (2, .int 5), (0, .int 2), (1, .int 5)]) (st' := [.int 5, .int 2]) (by rfl) ?_
  refine Pa.ist (by rfl) (by rfl) (.inl rfl) (by rfl) (by rfl) ?_
  refine Pa.mono (c_bod2_5 N yA) (fun yu A1 hu => ?_)
  obtain ⟨rfl, hu⟩ := hu
  rw [hu]
  show Pa N 38 19 [(3, .int 0), (2, .int 5), (0, .int 2), (1, .int 5)] [.int 61] yA _
  refine Pa.if1k true (by rfl) (by rfl) (by decide) ?_
  show Pa N 38 33 [(3, .int 0), (2, .int 5), (0, .int 2), (1, .int 5)] [] yA _
  refine Pa.mp 1 (pc' := 34) (l' := [(3, .int 0), (2, .int 5), (0, .int 2), (1, .int 5)]) (st' := [.int 5]) (by rfl) ?_
  refine Pa.iret (by rfl) ?_
  exact l1
theorem c_kwb2_5 (N : Nat) (yA : AW) : Pa N 38 0 [(0, .int 2), (1, .int 5)] [] yA (fun yu A1 => yu = some (.int 5) ∧ A1 = yA) := b_kwb2_5 ⟨rfl, rfl⟩

theorem b_kwb2_6 {N : Nat} {yA : AW} {yQ : Option Value → AW → Prop} 
    (l1 : yQ (some (.int 0)) yA) :
    Pa N 38 0 [(0, .int 2), (1, .int 6)] [] yA yQ := by
  refine Pa.mp 2 (pc' := 2) (l' := [(2, .int 6), (0, .int 2), (1, .int 6)]) (st' := []) (by rfl) ?_
  refine Pa.ic (x := 0) (pc' := 3) (by rfl) (by rfl) (by decide) ?_
  refine Pa.mp 2 (pc' := 5) (l' := [(3, .int 0), (2, .int 6), (0, .int 2), (1, .int 6)]) (st' := [.int 0]) (by rfl) ?_
  refine Pa.ic (x := 7) (pc' := 7) (by rfl) (by rfl) (by decide) ?_
  refine Pa.if2k false (by rfl) (by rfl) (by decide) ?_
  show Pa N 38 10 [(3, .int 0), (2, .int 6), (0, .int 2), (1, .int 6)] [] yA _
  refine Pa.mp 1 (pc' := 11) (l' := [(3, .int 0), (2, .int 6), (0, .int 2), (1, .int 6)]) (st' := [.int 6]) (by rfl) ?_
  refine Pa.if1k false (by rfl) (by rfl) (by decide) ?_
  show Pa N 38 14 [(3, .int 0), (2, .int 6), (0, .int 2), (1, .int 6)] [] yA _
  refine Pa.mp 2 (pc' := 16) (l' := [(3, .int 0), (2, .int 6), (0, .int 2), (1, .int 6)]) (st' := [.int 6, .int 2]) (by rfl) ?_
  refine Pa.ist (by rfl) (by rfl) (.inl rfl) (by rfl) (by rfl) ?_
  refine Pa.mono (c_bod2_6 N yA) (fun yu A1 hu => ?_)
  obtain ⟨rfl, hu⟩ := hu
  rw [hu]
  show Pa N 38 19 [(3, .int 0), (2, .int 6), (0, .int 2), (1, .int 6)] [.int 0] yA _
  refine Pa.if1k false (by rfl) (by rfl) (by decide) ?_
  show Pa N 38 22 [(3, .int 0), (2, .int 6), (0, .int 2), (1, .int 6)] [] yA _
  refine Pa.mp 1 (pc' := 23) (l' := [(3, .int 0), (2, .int 6), (0, .int 2), (1, .int 6)]) (st' := [.int 6]) (by rfl) ?_
  refine Pa.ist (by rfl) (by rfl) (.inl rfl) (by rfl) (by rfl) ?_
  refine Pa.mono (c_abv6 N yA) (fun yu A1 hu => ?_)
  obtain ⟨rfl, hu⟩ := hu
  rw [hu]
  show Pa N 38 26 [(3, .int 0), (2, .int 6), (0, .int 2), (1, .int 6)] [.int 4] yA _
  refine Pa.mp 1 (pc' := 27) (l' := [(2, .int 4), (3, .int 0), (0, .int 2), (1, .int 6)]) (st' := []) (by rfl) ?_
  refine Pa.iinc (x := 0) (c := 1) (v := 1) (l' := [(3, .int 1), (2, .int 4), (0, .int 2), (1, .int 6)]) (by rfl) (by rfl) (by decide) (by decide) (by rfl) ?_
  refine Pa.mp 2 (pc' := 5) (l' := [(3, .int 1), (2, .int 4), (0, .int 2), (1, .int 6)]) (st' := [.int 1]) (by rfl) ?_
  refine Pa.ic (x := 7) (pc' := 7) (by rfl) (by rfl) (by decide) ?_
  refine Pa.if2k false (by rfl) (by rfl) (by decide) ?_
  show Pa N 38 10 [(3, .int 1), (2, .int 4), (0, .int 2), (1, .int 6)] [] yA _
  refine Pa.mp 1 (pc' := 11) (l' := [(3, .int 1), (2, .int 4), (0, .int 2), (1, .int 6)]) (st' := [.int 4]) (by rfl) ?_
  refine Pa.if1k false (by rfl) (by rfl) (by decide) ?_
  show Pa N 38 14 [(3, .int 1), (2, .int 4), (0, .int 2), (1, .int 6)] [] yA _
  refine Pa.mp 2 (pc' := 16) (l' := [(3, .int 1), (2, .int 4), (0, .int 2), (1, .int 6)]) (st' := [.int 4, .int 2]) (by rfl) ?_
  refine Pa.ist (by rfl) (by rfl) (.inl rfl) (by rfl) (by rfl) ?_
  refine Pa.mono (c_bod2_4 N yA) (fun yu A1 hu => ?_)
  obtain ⟨rfl, hu⟩ := hu
  rw [hu]
  show Pa N 38 19 [(3, .int 1), (2, .int 4), (0, .int 2), (1, .int 6)] [.int 0] yA _
  refine Pa.if1k false (by rfl) (by rfl) (by decide) ?_
  show Pa N 38 22 [(3, .int 1), (2, .int 4), (0, .int 2), (1, .int 6)] [] yA _
  refine Pa.mp 1 (pc' := 23) (l' := [(3, .int 1), (2, .int 4), (0, .int 2), (1, .int 6)]) (st' := [.int 4]) (by rfl) ?_
  refine Pa.ist (by rfl) (by rfl) (.inl rfl) (by rfl) (by rfl) ?_
  refine Pa.mono (c_abv4 N yA) (fun yu A1 hu => ?_)
  obtain ⟨rfl, hu⟩ := hu
  rw [hu]
  show Pa N 38 26 [(3, .int 1), (2, .int 4), (0, .int 2), (1, .int 6)] [.int 0] yA _
  refine Pa.mp 1 (pc' := 27) (l' := [(2, .int 0), (3, .int 1), (0, .int 2), (1, .int 6)]) (st' := []) (by rfl) ?_
  refine Pa.iinc (x := 1) (c := 1) (v := 2) (l' := [(3, .int 2), (2, .int 0), (0, .int 2), (1, .int 6)]) (by rfl) (by rfl) (by decide) (by decide) (by rfl) ?_
  refine Pa.mp 2 (pc' := 5) (l' := [(3, .int 2), (2, .int 0), (0, .int 2), (1, .int 6)]) (st' := [.int 2]) (by rfl) ?_
  refine Pa.ic (x := 7) (pc' := 7) (by rfl) (by rfl) (by decide) ?_
  refine Pa.if2k false (by rfl) (by rfl) (by decide) ?_
  show Pa N 38 10 [(3, .int 2), (2, .int 0), (0, .int 2), (1, .int 6)] [] yA _
  refine Pa.mp 1 (pc' := 11) (l' := [(3, .int 2), (2, .int 0), (0, .int 2), (1, .int 6)]) (st' := [.int 0]) (by rfl) ?_
  refine Pa.if1k true (by rfl) (by rfl) (by decide) ?_
  show Pa N 38 33 [(3, .int 2), (2, .int 0), (0, .int 2), (1, .int 6)] [] yA _
  refine Pa.mp 1 (pc' := 34) (l' := [(3, .int 2), (2, .int 0), (0, .int 2), (1, .int 6)]) (st' := [.int 0]) (by rfl) ?_
  refine Pa.iret (by rfl) ?_
  exact l1
theorem c_kwb2_6 (N : Nat) (yA : AW) : Pa N 38 0 [(0, .int 2), (1, .int 6)] [] yA (fun yu A1 => yu = some (.int 0) ∧ A1 = yA) := b_kwb2_6 ⟨rfl, rfl⟩
theorem bpf0_1 {N : Nat} {yA : AW} {yQ : Option Value → AW → Prop} {ya : Nat} (yx yc : Int32) (yha : 129 ≤ ya) (hk : yA.1 ya 1 = 1)
    (l1 : yQ (some (.int (yx + yc))) (uI (uI (uI yA 30 6 0) 33 0 10) 30 6 1)) :
    Pa N 39 0 [(0, .ref 30), (1, .ref ya), (2, .int 0), (3, .int 1), (4, .int yx), (5, .int yc), (6, .int 0)] [] (uI yA 30 6 0) yQ := by
  refine Pa.mp 2 (pc' := 2) (l' := [(0, .ref 30), (1, .ref ya), (2, .int 0), (3, .int 1), (4, .int yx), (5, .int yc), (6, .int 0)]) (st' := [.int 1, .int 0]) (by rfl) ?_
  refine Pa.ist (by rfl) (by rfl) (.inl rfl) (by rfl) (by rfl) ?_
  refine Pa.mono (c_kwb0_1 N (uI yA 30 6 0)) (fun yu A1 hu => ?_)
  obtain ⟨rfl, hu⟩ := hu
  rw [hu]
  show Pa N 39 5 [(0, .ref 30), (1, .ref ya), (2, .int 0), (3, .int 1), (4, .int yx), (5, .int yc), (6, .int 0)] [.int 0] (uI yA 30 6 0) _
  refine Pa.mp 2 (pc' := 9) (l' := [(7, .int 0), (0, .ref 30), (1, .ref ya), (2, .int 0), (3, .int 1), (4, .int yx), (5, .int yc), (6, .int 0)]) (st' := [.int 0]) (by rfl) ?_
  refine Pa.if1k false (by rfl) (by rfl) (by decide) ?_
  show Pa N 39 12 [(7, .int 0), (0, .ref 30), (1, .ref ya), (2, .int 0), (3, .int 1), (4, .int yx), (5, .int yc), (6, .int 0)] [] (uI yA 30 6 0) _
  refine Pa.mp 1 (pc' := 14) (l' := [(7, .int 0), (0, .ref 30), (1, .ref ya), (2, .int 0), (3, .int 1), (4, .int yx), (5, .int yc), (6, .int 0)]) (st' := [.int 0]) (by rfl) ?_
  refine Pa.ic (x := 30) (pc' := 16) (by rfl) (by rfl) (by decide) ?_
  refine Pa.if2k true (by rfl) (by rfl) (by decide) ?_
  show Pa N 39 21 [(7, .int 0), (0, .ref 30), (1, .ref ya), (2, .int 0), (3, .int 1), (4, .int yx), (5, .int yc), (6, .int 0)] [] (uI yA 30 6 0) _
  refine Pa.mp 2 (pc' := 24) (l' := [(7, .int 0), (0, .ref 30), (1, .ref ya), (2, .int 0), (3, .int 1), (4, .int yx), (5, .int yc), (6, .int 0)]) (st' := [.int 0, .int 0]) (by rfl) ?_
  refine Pa.ist (by rfl) (by rfl) (.inl rfl) (by rfl) (by rfl) ?_
  refine Pa.mono (c_bod0_0 N (uI yA 30 6 0)) (fun yu A1 hu => ?_)
  obtain ⟨rfl, hu⟩ := hu
  rw [hu]
  show Pa N 39 27 [(7, .int 0), (0, .ref 30), (1, .ref ya), (2, .int 0), (3, .int 1), (4, .int yx), (5, .int yc), (6, .int 0)] [.int 10] (uI yA 30 6 0) _
  refine Pa.mp 2 (pc' := 30) (l' := [(8, .int 10), (7, .int 0), (0, .ref 30), (1, .ref ya), (2, .int 0), (3, .int 1), (4, .int yx), (5, .int yc), (6, .int 0)]) (st' := [.ref 30]) (by rfl) ?_
  refine Pa.gfI (v := 0) (by rfl) (by rfl) (.inl rfl) (by rfl) (by show (uI yA 30 6 0).1 30 6 = 0; rw [uI_h]) ?_
  refine Pa.ic (x := 24) (pc' := 35) (by rfl) (by rfl) (by decide) ?_
  refine Pa.if2k false (by rfl) (by rfl) (by decide) ?_
  show Pa N 39 38 [(8, .int 10), (7, .int 0), (0, .ref 30), (1, .ref ya), (2, .int 0), (3, .int 1), (4, .int yx), (5, .int yc), (6, .int 0)] [] (uI yA 30 6 0) _
  refine Pa.mp 1 (pc' := 39) (l' := [(8, .int 10), (7, .int 0), (0, .ref 30), (1, .ref ya), (2, .int 0), (3, .int 1), (4, .int yx), (5, .int yc), (6, .int 0)]) (st' := [.ref 30]) (by rfl) ?_
  refine Pa.gfR (by rfl) (by rfl) (.inl rfl) (by rfl) ?_
  show Pa N 39 42 [(8, .int 10), (7, .int 0), (0, .ref 30), (1, .ref ya), (2, .int 0), (3, .int 1), (4, .int yx), (5, .int yc), (6, .int 0)] [.ref 33] (uI yA 30 6 0) _
  refine Pa.mp 1 (pc' := 43) (l' := [(8, .int 10), (7, .int 0), (0, .ref 30), (1, .ref ya), (2, .int 0), (3, .int 1), (4, .int yx), (5, .int yc), (6, .int 0)]) (st' := [.ref 30, .ref 33]) (by rfl) ?_
  refine Pa.gfI (v := 0) (by rfl) (by rfl) (.inl rfl) (by rfl) (by show (uI yA 30 6 0).1 30 6 = 0; rw [uI_h]) ?_
  refine Pa.mp 1 (pc' := 48) (l' := [(8, .int 10), (7, .int 0), (0, .ref 30), (1, .ref ya), (2, .int 0), (3, .int 1), (4, .int yx), (5, .int yc), (6, .int 0)]) (st' := [.int 10, .int 0, .ref 33]) (by rfl) ?_
  refine Pa.asts (j' := 0) (by rfl) (by rfl) (by rfl) (fun h1 h2 => ?_)
  show Pa N 39 49 [(8, .int 10), (7, .int 0), (0, .ref 30), (1, .ref ya), (2, .int 0), (3, .int 1), (4, .int yx), (5, .int yc), (6, .int 0)] [] (uI (uI yA 30 6 0) 33 0 10) _
  refine Pa.mp 2 (pc' := 51) (l' := [(8, .int 10), (7, .int 0), (0, .ref 30), (1, .ref ya), (2, .int 0), (3, .int 1), (4, .int yx), (5, .int yc), (6, .int 0)]) (st' := [.ref 30, .ref 30]) (by rfl) ?_
  refine Pa.gfI (v := 0) (by rfl) (by rfl) (.inl rfl) (by rfl) (by show (uI (uI yA 30 6 0) 33 0 10).1 30 6 = 0; rw [uI_c (by decide), uI_h]) ?_
  refine Pa.ic (x := 1) (pc' := 55) (by rfl) (by rfl) (by decide) ?_
  refine Pa.mp 1 (pc' := 56) (l' := [(8, .int 10), (7, .int 0), (0, .ref 30), (1, .ref ya), (2, .int 0), (3, .int 1), (4, .int yx), (5, .int yc), (6, .int 0)]) (st' := [.int 1, .ref 30]) (by rfl) ?_
  refine Pa.pfI (by rfl) (by rfl) (.inl rfl) (by rfl) ?_
  show Pa N 39 59 [(8, .int 10), (7, .int 0), (0, .ref 30), (1, .ref ya), (2, .int 0), (3, .int 1), (4, .int yx), (5, .int yc), (6, .int 0)] [] (uI (uI (uI yA 30 6 0) 33 0 10) 30 6 1) _
  refine Pa.mp 1 (pc' := 61) (l' := [(8, .int 10), (7, .int 0), (0, .ref 30), (1, .ref ya), (2, .int 0), (3, .int 1), (4, .int yx), (5, .int yc), (6, .int 0)]) (st' := [.int 0]) (by rfl) ?_
  refine Pa.ist (by rfl) (by rfl) (.inl rfl) (by rfl) (by rfl) ?_
  refine Pa.mono (c_abv0 N (uI (uI (uI yA 30 6 0) 33 0 10) 30 6 1)) (fun yu A1 hu => ?_)
  obtain ⟨rfl, hu⟩ := hu
  rw [hu]
  show Pa N 39 64 [(8, .int 10), (7, .int 0), (0, .ref 30), (1, .ref ya), (2, .int 0), (3, .int 1), (4, .int yx), (5, .int yc), (6, .int 0)] [.int (-1)] (uI (uI (uI yA 30 6 0) 33 0 10) 30 6 1) _
  refine Pa.mp 2 (pc' := 68) (l' := [(9, .int (-1)), (8, .int 10), (7, .int 0), (0, .ref 30), (1, .ref ya), (2, .int 0), (3, .int 1), (4, .int yx), (5, .int yc), (6, .int 0)]) (st' := [.int 0]) (by rfl) ?_
  refine Pa.ic (x := 1) (pc' := 69) (by rfl) (by rfl) (by decide) ?_
  refine Pa.mp 3 (pc' := 74) (l' := [(10, .int 1), (9, .int (-1)), (8, .int 10), (7, .int 0), (0, .ref 30), (1, .ref ya), (2, .int 0), (3, .int 1), (4, .int yx), (5, .int yc), (6, .int 0)]) (st' := [.int 10]) (by rfl) ?_
  refine Pa.mp 1 (pc' := 164) (l' := [(10, .int 1), (9, .int (-1)), (8, .int 10), (7, .int 0), (0, .ref 30), (1, .ref ya), (2, .int 0), (3, .int 1), (4, .int yx), (5, .int yc), (6, .int 0)]) (st' := []) (by rfl) ?_
  refine Pa.mp 3 (pc' := 169) (l' := [(10, .int 1), (9, .int (-1)), (8, .int 10), (7, .int 0), (0, .ref 30), (1, .ref ya), (2, .int 0), (3, .int 1), (4, .int yx), (5, .int yc), (6, .int 0)]) (st' := [.int (yx + yc)]) (by rfl) ?_
  refine Pa.iret (by rfl) ?_
  exact l1

theorem bpf0_2 {N : Nat} {yA : AW} {yQ : Option Value → AW → Prop} {ya : Nat} (yx yc : Int32) (yha : 129 ≤ ya) (hk : yA.1 ya 1 = 2)
    (l1 : yQ (some (.int ((yx + yc) - 4))) (uI (uI (uI (uI (uI yA 30 6 0) 33 0 30) 30 6 1) 33 1 10) 30 6 2)) :
    Pa N 39 0 [(0, .ref 30), (1, .ref ya), (2, .int 0), (3, .int 2), (4, .int yx), (5, .int yc), (6, .int 0)] [] (uI yA 30 6 0) yQ := by
  refine Pa.mp 2 (pc' := 2) (l' := [(0, .ref 30), (1, .ref ya), (2, .int 0), (3, .int 2), (4, .int yx), (5, .int yc), (6, .int 0)]) (st' := [.int 2, .int 0]) (by rfl) ?_
  refine Pa.ist (by rfl) (by rfl) (.inl rfl) (by rfl) (by rfl) ?_
  refine Pa.mono (c_kwb0_2 N (uI yA 30 6 0)) (fun yu A1 hu => ?_)
  obtain ⟨rfl, hu⟩ := hu
  rw [hu]
  show Pa N 39 5 [(0, .ref 30), (1, .ref ya), (2, .int 0), (3, .int 2), (4, .int yx), (5, .int yc), (6, .int 0)] [.int 2] (uI yA 30 6 0) _
  refine Pa.mp 2 (pc' := 9) (l' := [(7, .int 2), (0, .ref 30), (1, .ref ya), (2, .int 0), (3, .int 2), (4, .int yx), (5, .int yc), (6, .int 0)]) (st' := [.int 2]) (by rfl) ?_
  refine Pa.if1k false (by rfl) (by rfl) (by decide) ?_
  show Pa N 39 12 [(7, .int 2), (0, .ref 30), (1, .ref ya), (2, .int 0), (3, .int 2), (4, .int yx), (5, .int yc), (6, .int 0)] [] (uI yA 30 6 0) _
  refine Pa.mp 1 (pc' := 14) (l' := [(7, .int 2), (0, .ref 30), (1, .ref ya), (2, .int 0), (3, .int 2), (4, .int yx), (5, .int yc), (6, .int 0)]) (st' := [.int 0]) (by rfl) ?_
  refine Pa.ic (x := 30) (pc' := 16) (by rfl) (by rfl) (by decide) ?_
  refine Pa.if2k true (by rfl) (by rfl) (by decide) ?_
  show Pa N 39 21 [(7, .int 2), (0, .ref 30), (1, .ref ya), (2, .int 0), (3, .int 2), (4, .int yx), (5, .int yc), (6, .int 0)] [] (uI yA 30 6 0) _
  refine Pa.mp 2 (pc' := 24) (l' := [(7, .int 2), (0, .ref 30), (1, .ref ya), (2, .int 0), (3, .int 2), (4, .int yx), (5, .int yc), (6, .int 0)]) (st' := [.int 2, .int 0]) (by rfl) ?_
  refine Pa.ist (by rfl) (by rfl) (.inl rfl) (by rfl) (by rfl) ?_
  refine Pa.mono (c_bod0_2 N (uI yA 30 6 0)) (fun yu A1 hu => ?_)
  obtain ⟨rfl, hu⟩ := hu
  rw [hu]
  show Pa N 39 27 [(7, .int 2), (0, .ref 30), (1, .ref ya), (2, .int 0), (3, .int 2), (4, .int yx), (5, .int yc), (6, .int 0)] [.int 30] (uI yA 30 6 0) _
  refine Pa.mp 2 (pc' := 30) (l' := [(8, .int 30), (7, .int 2), (0, .ref 30), (1, .ref ya), (2, .int 0), (3, .int 2), (4, .int yx), (5, .int yc), (6, .int 0)]) (st' := [.ref 30]) (by rfl) ?_
  refine Pa.gfI (v := 0) (by rfl) (by rfl) (.inl rfl) (by rfl) (by show (uI yA 30 6 0).1 30 6 = 0; rw [uI_h]) ?_
  refine Pa.ic (x := 24) (pc' := 35) (by rfl) (by rfl) (by decide) ?_
  refine Pa.if2k false (by rfl) (by rfl) (by decide) ?_
  show Pa N 39 38 [(8, .int 30), (7, .int 2), (0, .ref 30), (1, .ref ya), (2, .int 0), (3, .int 2), (4, .int yx), (5, .int yc), (6, .int 0)] [] (uI yA 30 6 0) _
  refine Pa.mp 1 (pc' := 39) (l' := [(8, .int 30), (7, .int 2), (0, .ref 30), (1, .ref ya), (2, .int 0), (3, .int 2), (4, .int yx), (5, .int yc), (6, .int 0)]) (st' := [.ref 30]) (by rfl) ?_
  refine Pa.gfR (by rfl) (by rfl) (.inl rfl) (by rfl) ?_
  show Pa N 39 42 [(8, .int 30), (7, .int 2), (0, .ref 30), (1, .ref ya), (2, .int 0), (3, .int 2), (4, .int yx), (5, .int yc), (6, .int 0)] [.ref 33] (uI yA 30 6 0) _
  refine Pa.mp 1 (pc' := 43) (l' := [(8, .int 30), (7, .int 2), (0, .ref 30), (1, .ref ya), (2, .int 0), (3, .int 2), (4, .int yx), (5, .int yc), (6, .int 0)]) (st' := [.ref 30, .ref 33]) (by rfl) ?_
  refine Pa.gfI (v := 0) (by rfl) (by rfl) (.inl rfl) (by rfl) (by show (uI yA 30 6 0).1 30 6 = 0; rw [uI_h]) ?_
  refine Pa.mp 1 (pc' := 48) (l' := [(8, .int 30), (7, .int 2), (0, .ref 30), (1, .ref ya), (2, .int 0), (3, .int 2), (4, .int yx), (5, .int yc), (6, .int 0)]) (st' := [.int 30, .int 0, .ref 33]) (by rfl) ?_
  refine Pa.asts (j' := 0) (by rfl) (by rfl) (by rfl) (fun h1 h2 => ?_)
  show Pa N 39 49 [(8, .int 30), (7, .int 2), (0, .ref 30), (1, .ref ya), (2, .int 0), (3, .int 2), (4, .int yx), (5, .int yc), (6, .int 0)] [] (uI (uI yA 30 6 0) 33 0 30) _
  refine Pa.mp 2 (pc' := 51) (l' := [(8, .int 30), (7, .int 2), (0, .ref 30), (1, .ref ya), (2, .int 0), (3, .int 2), (4, .int yx), (5, .int yc), (6, .int 0)]) (st' := [.ref 30, .ref 30]) (by rfl) ?_
  refine Pa.gfI (v := 0) (by rfl) (by rfl) (.inl rfl) (by rfl) (by show (uI (uI yA 30 6 0) 33 0 30).1 30 6 = 0; rw [uI_c (by decide), uI_h]) ?_
  refine Pa.ic (x := 1) (pc' := 55) (by rfl) (by rfl) (by decide) ?_
  refine Pa.mp 1 (pc' := 56) (l' := [(8, .int 30), (7, .int 2), (0, .ref 30), (1, .ref ya), (2, .int 0), (3, .int 2), (4, .int yx), (5, .int yc), (6, .int 0)]) (st' := [.int 1, .ref 30]) (by rfl) ?_
  refine Pa.pfI (by rfl) (by rfl) (.inl rfl) (by rfl) ?_
  show Pa N 39 59 [(8, .int 30), (7, .int 2), (0, .ref 30), (1, .ref ya), (2, .int 0), (3, .int 2), (4, .int yx), (5, .int yc), (6, .int 0)] [] (uI (uI (uI yA 30 6 0) 33 0 30) 30 6 1) _
  refine Pa.mp 1 (pc' := 61) (l' := [(8, .int 30), (7, .int 2), (0, .ref 30), (1, .ref ya), (2, .int 0), (3, .int 2), (4, .int yx), (5, .int yc), (6, .int 0)]) (st' := [.int 2]) (by rfl) ?_
  refine Pa.ist (by rfl) (by rfl) (.inl rfl) (by rfl) (by rfl) ?_
  refine Pa.mono (c_abv2 N (uI (uI (uI yA 30 6 0) 33 0 30) 30 6 1)) (fun yu A1 hu => ?_)
  obtain ⟨rfl, hu⟩ := hu
  rw [hu]
  show Pa N 39 64 [(8, .int 30), (7, .int 2), (0, .ref 30), (1, .ref ya), (2, .int 0), (3, .int 2), (4, .int yx), (5, .int yc), (6, .int 0)] [.int 0] (uI (uI (uI yA 30 6 0) 33 0 30) 30 6 1) _
  refine Pa.mp 2 (pc' := 68) (l' := [(9, .int 0), (8, .int 30), (7, .int 2), (0, .ref 30), (1, .ref ya), (2, .int 0), (3, .int 2), (4, .int yx), (5, .int yc), (6, .int 0)]) (st' := [.int 0]) (by rfl) ?_
  refine Pa.ic (x := 1) (pc' := 69) (by rfl) (by rfl) (by decide) ?_
  refine Pa.mp 3 (pc' := 74) (l' := [(10, .int 1), (9, .int 0), (8, .int 30), (7, .int 2), (0, .ref 30), (1, .ref ya), (2, .int 0), (3, .int 2), (4, .int yx), (5, .int yc), (6, .int 0)]) (st' := [.int 30]) (by rfl) ?_
  refine Pa.mp 1 (pc' := 229) (l' := [(10, .int 1), (9, .int 0), (8, .int 30), (7, .int 2), (0, .ref 30), (1, .ref ya), (2, .int 0), (3, .int 2), (4, .int yx), (5, .int yc), (6, .int 0)]) (st' := []) (by rfl) ?_
  refine Pa.mp 2 (pc' := 231) (l' := [(10, .int 1), (9, .int 0), (8, .int 30), (7, .int 2), (0, .ref 30), (1, .ref ya), (2, .int 0), (3, .int 2), (4, .int yx), (5, .int yc), (6, .int 0)]) (st' := [.ref ya, .ref 30]) (by rfl) ?_
  refine Pa.ic (x := 0) (pc' := 232) (by rfl) (by rfl) (by decide) ?_
  refine Pa.mp 4 (pc' := 240) (l' := [(10, .int 1), (9, .int 0), (8, .int 30), (7, .int 2), (0, .ref 30), (1, .ref ya), (2, .int 0), (3, .int 2), (4, .int yx), (5, .int yc), (6, .int 0)]) (st' := [.int 1, .int yc, .int yx, .int 0, .int 0, .ref ya, .ref 30]) (by rfl) ?_
  refine Pa.inv (by rfl) (by rfl) (.inl rfl) (by rfl) ?_
  show Pa N 39 0 [(0, .ref 30), (1, .ref ya), (2, .int 0), (3, .int 0), (4, .int yx), (5, .int yc), (6, .int 1)] [] (uI (uI (uI yA 30 6 0) 33 0 30) 30 6 1) _
  refine Pa.mp 2 (pc' := 2) (l' := [(0, .ref 30), (1, .ref ya), (2, .int 0), (3, .int 0), (4, .int yx), (5, .int yc), (6, .int 1)]) (st' := [.int 0, .int 0]) (by rfl) ?_
  refine Pa.ist (by rfl) (by rfl) (.inl rfl) (by rfl) (by rfl) ?_
  refine Pa.mono (c_kwb0_0 N (uI (uI (uI yA 30 6 0) 33 0 30) 30 6 1)) (fun yu A1 hu => ?_)
  obtain ⟨rfl, hu⟩ := hu
  rw [hu]
  show Pa N 39 5 [(0, .ref 30), (1, .ref ya), (2, .int 0), (3, .int 0), (4, .int yx), (5, .int yc), (6, .int 1)] [.int 0] (uI (uI (uI yA 30 6 0) 33 0 30) 30 6 1) _
  refine Pa.mp 2 (pc' := 9) (l' := [(7, .int 0), (0, .ref 30), (1, .ref ya), (2, .int 0), (3, .int 0), (4, .int yx), (5, .int yc), (6, .int 1)]) (st' := [.int 0]) (by rfl) ?_
  refine Pa.if1k false (by rfl) (by rfl) (by decide) ?_
  show Pa N 39 12 [(7, .int 0), (0, .ref 30), (1, .ref ya), (2, .int 0), (3, .int 0), (4, .int yx), (5, .int yc), (6, .int 1)] [] (uI (uI (uI yA 30 6 0) 33 0 30) 30 6 1) _
  refine Pa.mp 1 (pc' := 14) (l' := [(7, .int 0), (0, .ref 30), (1, .ref ya), (2, .int 0), (3, .int 0), (4, .int yx), (5, .int yc), (6, .int 1)]) (st' := [.int 1]) (by rfl) ?_
  refine Pa.ic (x := 30) (pc' := 16) (by rfl) (by rfl) (by decide) ?_
  refine Pa.if2k true (by rfl) (by rfl) (by decide) ?_
  show Pa N 39 21 [(7, .int 0), (0, .ref 30), (1, .ref ya), (2, .int 0), (3, .int 0), (4, .int yx), (5, .int yc), (6, .int 1)] [] (uI (uI (uI yA 30 6 0) 33 0 30) 30 6 1) _
  refine Pa.mp 2 (pc' := 24) (l' := [(7, .int 0), (0, .ref 30), (1, .ref ya), (2, .int 0), (3, .int 0), (4, .int yx), (5, .int yc), (6, .int 1)]) (st' := [.int 0, .int 0]) (by rfl) ?_
  refine Pa.ist (by rfl) (by rfl) (.inl rfl) (by rfl) (by rfl) ?_
  refine Pa.mono (c_bod0_0 N (uI (uI (uI yA 30 6 0) 33 0 30) 30 6 1)) (fun yu A1 hu => ?_)
  obtain ⟨rfl, hu⟩ := hu
  rw [hu]
  show Pa N 39 27 [(7, .int 0), (0, .ref 30), (1, .ref ya), (2, .int 0), (3, .int 0), (4, .int yx), (5, .int yc), (6, .int 1)] [.int 10] (uI (uI (uI yA 30 6 0) 33 0 30) 30 6 1) _
  refine Pa.mp 2 (pc' := 30) (l' := [(8, .int 10), (7, .int 0), (0, .ref 30), (1, .ref ya), (2, .int 0), (3, .int 0), (4, .int yx), (5, .int yc), (6, .int 1)]) (st' := [.ref 30]) (by rfl) ?_
  refine Pa.gfI (v := 1) (by rfl) (by rfl) (.inl rfl) (by rfl) (by show (uI (uI (uI yA 30 6 0) 33 0 30) 30 6 1).1 30 6 = 1; rw [uI_h]) ?_
  refine Pa.ic (x := 24) (pc' := 35) (by rfl) (by rfl) (by decide) ?_
  refine Pa.if2k false (by rfl) (by rfl) (by decide) ?_
  show Pa N 39 38 [(8, .int 10), (7, .int 0), (0, .ref 30), (1, .ref ya), (2, .int 0), (3, .int 0), (4, .int yx), (5, .int yc), (6, .int 1)] [] (uI (uI (uI yA 30 6 0) 33 0 30) 30 6 1) _
  refine Pa.mp 1 (pc' := 39) (l' := [(8, .int 10), (7, .int 0), (0, .ref 30), (1, .ref ya), (2, .int 0), (3, .int 0), (4, .int yx), (5, .int yc), (6, .int 1)]) (st' := [.ref 30]) (by rfl) ?_
  refine Pa.gfR (by rfl) (by rfl) (.inl rfl) (by rfl) ?_
  show Pa N 39 42 [(8, .int 10), (7, .int 0), (0, .ref 30), (1, .ref ya), (2, .int 0), (3, .int 0), (4, .int yx), (5, .int yc), (6, .int 1)] [.ref 33] (uI (uI (uI yA 30 6 0) 33 0 30) 30 6 1) _
  refine Pa.mp 1 (pc' := 43) (l' := [(8, .int 10), (7, .int 0), (0, .ref 30), (1, .ref ya), (2, .int 0), (3, .int 0), (4, .int yx), (5, .int yc), (6, .int 1)]) (st' := [.ref 30, .ref 33]) (by rfl) ?_
  refine Pa.gfI (v := 1) (by rfl) (by rfl) (.inl rfl) (by rfl) (by show (uI (uI (uI yA 30 6 0) 33 0 30) 30 6 1).1 30 6 = 1; rw [uI_h]) ?_
  refine Pa.mp 1 (pc' := 48) (l' := [(8, .int 10), (7, .int 0), (0, .ref 30), (1, .ref ya), (2, .int 0), (3, .int 0), (4, .int yx), (5, .int yc), (6, .int 1)]) (st' := [.int 10, .int 1, .ref 33]) (by rfl) ?_
  refine Pa.asts (j' := 1) (by rfl) (by rfl) (by rfl) (fun h3 h4 => ?_)
  show Pa N 39 49 [(8, .int 10), (7, .int 0), (0, .ref 30), (1, .ref ya), (2, .int 0), (3, .int 0), (4, .int yx), (5, .int yc), (6, .int 1)] [] (uI (uI (uI (uI yA 30 6 0) 33 0 30) 30 6 1) 33 1 10) _
  refine Pa.mp 2 (pc' := 51) (l' := [(8, .int 10), (7, .int 0), (0, .ref 30), (1, .ref ya), (2, .int 0), (3, .int 0), (4, .int yx), (5, .int yc), (6, .int 1)]) (st' := [.ref 30, .ref 30]) (by rfl) ?_
  refine Pa.gfI (v := 1) (by rfl) (by rfl) (.inl rfl) (by rfl) (by show (uI (uI (uI (uI yA 30 6 0) 33 0 30) 30 6 1) 33 1 10).1 30 6 = 1; rw [uI_c (by decide), uI_h]) ?_
  refine Pa.ic (x := 1) (pc' := 55) (by rfl) (by rfl) (by decide) ?_
  refine Pa.mp 1 (pc' := 56) (l' := [(8, .int 10), (7, .int 0), (0, .ref 30), (1, .ref ya), (2, .int 0), (3, .int 0), (4, .int yx), (5, .int yc), (6, .int 1)]) (st' := [.int 2, .ref 30]) (by rfl) ?_
  refine Pa.pfI (by rfl) (by rfl) (.inl rfl) (by rfl) ?_
  show Pa N 39 59 [(8, .int 10), (7, .int 0), (0, .ref 30), (1, .ref ya), (2, .int 0), (3, .int 0), (4, .int yx), (5, .int yc), (6, .int 1)] [] (uI (uI (uI (uI (uI yA 30 6 0) 33 0 30) 30 6 1) 33 1 10) 30 6 2) _
  refine Pa.mp 1 (pc' := 61) (l' := [(8, .int 10), (7, .int 0), (0, .ref 30), (1, .ref ya), (2, .int 0), (3, .int 0), (4, .int yx), (5, .int yc), (6, .int 1)]) (st' := [.int 0]) (by rfl) ?_
  refine Pa.ist (by rfl) (by rfl) (.inl rfl) (by rfl) (by rfl) ?_
  refine Pa.mono (c_abv0 N (uI (uI (uI (uI (uI yA 30 6 0) 33 0 30) 30 6 1) 33 1 10) 30 6 2)) (fun yu A1 hu => ?_)
  obtain ⟨rfl, hu⟩ := hu
  rw [hu]
  show Pa N 39 64 [(8, .int 10), (7, .int 0), (0, .ref 30), (1, .ref ya), (2, .int 0), (3, .int 0), (4, .int yx), (5, .int yc), (6, .int 1)] [.int (-1)] (uI (uI (uI (uI (uI yA 30 6 0) 33 0 30) 30 6 1) 33 1 10) 30 6 2) _
  refine Pa.mp 2 (pc' := 68) (l' := [(9, .int (-1)), (8, .int 10), (7, .int 0), (0, .ref 30), (1, .ref ya), (2, .int 0), (3, .int 0), (4, .int yx), (5, .int yc), (6, .int 1)]) (st' := [.int 1]) (by rfl) ?_
  refine Pa.ic (x := 1) (pc' := 69) (by rfl) (by rfl) (by decide) ?_
  refine Pa.mp 3 (pc' := 74) (l' := [(10, .int 2), (9, .int (-1)), (8, .int 10), (7, .int 0), (0, .ref 30), (1, .ref ya), (2, .int 0), (3, .int 0), (4, .int yx), (5, .int yc), (6, .int 1)]) (st' := [.int 10]) (by rfl) ?_
  refine Pa.mp 1 (pc' := 164) (l' := [(10, .int 2), (9, .int (-1)), (8, .int 10), (7, .int 0), (0, .ref 30), (1, .ref ya), (2, .int 0), (3, .int 0), (4, .int yx), (5, .int yc), (6, .int 1)]) (st' := []) (by rfl) ?_
  refine Pa.mp 3 (pc' := 169) (l' := [(10, .int 2), (9, .int (-1)), (8, .int 10), (7, .int 0), (0, .ref 30), (1, .ref ya), (2, .int 0), (3, .int 0), (4, .int yx), (5, .int yc), (6, .int 1)]) (st' := [.int (yx + yc)]) (by rfl) ?_
  refine Pa.iret (by rfl) ?_
  show Pa N 39 243 [(10, .int 1), (9, .int 0), (8, .int 30), (7, .int 2), (0, .ref 30), (1, .ref ya), (2, .int 0), (3, .int 2), (4, .int yx), (5, .int yc), (6, .int 0)] [.int (yx + yc)] (uI (uI (uI (uI (uI yA 30 6 0) 33 0 30) 30 6 1) 33 1 10) 30 6 2) _
  refine Pa.ic (x := 4) (pc' := 244) (by rfl) (by rfl) (by decide) ?_
  refine Pa.mp 1 (pc' := 245) (l' := [(10, .int 1), (9, .int 0), (8, .int 30), (7, .int 2), (0, .ref 30), (1, .ref ya), (2, .int 0), (3, .int 2), (4, .int yx), (5, .int yc), (6, .int 0)]) (st' := [.int ((yx + yc) - 4)]) (by rfl) ?_
  refine Pa.iret (by rfl) ?_
  exact l1

theorem bpf0_3 {N : Nat} {yA : AW} {yQ : Option Value → AW → Prop} {ya : Nat} (yx yc : Int32) (yha : 129 ≤ ya) (hk : yA.1 ya 1 = 3)
    (l1 : yQ (some (.int ((yx + yc) - 4))) (uI (uI (uI (uI (uI yA 30 6 0) 33 0 30) 30 6 1) 33 1 10) 30 6 2)) :
    Pa N 39 0 [(0, .ref 30), (1, .ref ya), (2, .int 0), (3, .int 3), (4, .int yx), (5, .int yc), (6, .int 0)] [] (uI yA 30 6 0) yQ := by
  refine Pa.mp 2 (pc' := 2) (l' := [(0, .ref 30), (1, .ref ya), (2, .int 0), (3, .int 3), (4, .int yx), (5, .int yc), (6, .int 0)]) (st' := [.int 3, .int 0]) (by rfl) ?_
  refine Pa.ist (by rfl) (by rfl) (.inl rfl) (by rfl) (by rfl) ?_
  refine Pa.mono (c_kwb0_3 N (uI yA 30 6 0)) (fun yu A1 hu => ?_)
  obtain ⟨rfl, hu⟩ := hu
  rw [hu]
  show Pa N 39 5 [(0, .ref 30), (1, .ref ya), (2, .int 0), (3, .int 3), (4, .int yx), (5, .int yc), (6, .int 0)] [.int 2] (uI yA 30 6 0) _
  refine Pa.mp 2 (pc' := 9) (l' := [(7, .int 2), (0, .ref 30), (1, .ref ya), (2, .int 0), (3, .int 3), (4, .int yx), (5, .int yc), (6, .int 0)]) (st' := [.int 2]) (by rfl) ?_
  refine Pa.if1k false (by rfl) (by rfl) (by decide) ?_
  show Pa N 39 12 [(7, .int 2), (0, .ref 30), (1, .ref ya), (2, .int 0), (3, .int 3), (4, .int yx), (5, .int yc), (6, .int 0)] [] (uI yA 30 6 0) _
  refine Pa.mp 1 (pc' := 14) (l' := [(7, .int 2), (0, .ref 30), (1, .ref ya), (2, .int 0), (3, .int 3), (4, .int yx), (5, .int yc), (6, .int 0)]) (st' := [.int 0]) (by rfl) ?_
  refine Pa.ic (x := 30) (pc' := 16) (by rfl) (by rfl) (by decide) ?_
  refine Pa.if2k true (by rfl) (by rfl) (by decide) ?_
  show Pa N 39 21 [(7, .int 2), (0, .ref 30), (1, .ref ya), (2, .int 0), (3, .int 3), (4, .int yx), (5, .int yc), (6, .int 0)] [] (uI yA 30 6 0) _
  refine Pa.mp 2 (pc' := 24) (l' := [(7, .int 2), (0, .ref 30), (1, .ref ya), (2, .int 0), (3, .int 3), (4, .int yx), (5, .int yc), (6, .int 0)]) (st' := [.int 2, .int 0]) (by rfl) ?_
  refine Pa.ist (by rfl) (by rfl) (.inl rfl) (by rfl) (by rfl) ?_
  refine Pa.mono (c_bod0_2 N (uI yA 30 6 0)) (fun yu A1 hu => ?_)
  obtain ⟨rfl, hu⟩ := hu
  rw [hu]
  show Pa N 39 27 [(7, .int 2), (0, .ref 30), (1, .ref ya), (2, .int 0), (3, .int 3), (4, .int yx), (5, .int yc), (6, .int 0)] [.int 30] (uI yA 30 6 0) _
  refine Pa.mp 2 (pc' := 30) (l' := [(8, .int 30), (7, .int 2), (0, .ref 30), (1, .ref ya), (2, .int 0), (3, .int 3), (4, .int yx), (5, .int yc), (6, .int 0)]) (st' := [.ref 30]) (by rfl) ?_
  refine Pa.gfI (v := 0) (by rfl) (by rfl) (.inl rfl) (by rfl) (by show (uI yA 30 6 0).1 30 6 = 0; rw [uI_h]) ?_
  refine Pa.ic (x := 24) (pc' := 35) (by rfl) (by rfl) (by decide) ?_
  refine Pa.if2k false (by rfl) (by rfl) (by decide) ?_
  show Pa N 39 38 [(8, .int 30), (7, .int 2), (0, .ref 30), (1, .ref ya), (2, .int 0), (3, .int 3), (4, .int yx), (5, .int yc), (6, .int 0)] [] (uI yA 30 6 0) _
  refine Pa.mp 1 (pc' := 39) (l' := [(8, .int 30), (7, .int 2), (0, .ref 30), (1, .ref ya), (2, .int 0), (3, .int 3), (4, .int yx), (5, .int yc), (6, .int 0)]) (st' := [.ref 30]) (by rfl) ?_
  refine Pa.gfR (by rfl) (by rfl) (.inl rfl) (by rfl) ?_
  show Pa N 39 42 [(8, .int 30), (7, .int 2), (0, .ref 30), (1, .ref ya), (2, .int 0), (3, .int 3), (4, .int yx), (5, .int yc), (6, .int 0)] [.ref 33] (uI yA 30 6 0) _
  refine Pa.mp 1 (pc' := 43) (l' := [(8, .int 30), (7, .int 2), (0, .ref 30), (1, .ref ya), (2, .int 0), (3, .int 3), (4, .int yx), (5, .int yc), (6, .int 0)]) (st' := [.ref 30, .ref 33]) (by rfl) ?_
  refine Pa.gfI (v := 0) (by rfl) (by rfl) (.inl rfl) (by rfl) (by show (uI yA 30 6 0).1 30 6 = 0; rw [uI_h]) ?_
  refine Pa.mp 1 (pc' := 48) (l' := [(8, .int 30), (7, .int 2), (0, .ref 30), (1, .ref ya), (2, .int 0), (3, .int 3), (4, .int yx), (5, .int yc), (6, .int 0)]) (st' := [.int 30, .int 0, .ref 33]) (by rfl) ?_
  refine Pa.asts (j' := 0) (by rfl) (by rfl) (by rfl) (fun h1 h2 => ?_)
  show Pa N 39 49 [(8, .int 30), (7, .int 2), (0, .ref 30), (1, .ref ya), (2, .int 0), (3, .int 3), (4, .int yx), (5, .int yc), (6, .int 0)] [] (uI (uI yA 30 6 0) 33 0 30) _
  refine Pa.mp 2 (pc' := 51) (l' := [(8, .int 30), (7, .int 2), (0, .ref 30), (1, .ref ya), (2, .int 0), (3, .int 3), (4, .int yx), (5, .int yc), (6, .int 0)]) (st' := [.ref 30, .ref 30]) (by rfl) ?_
  refine Pa.gfI (v := 0) (by rfl) (by rfl) (.inl rfl) (by rfl) (by show (uI (uI yA 30 6 0) 33 0 30).1 30 6 = 0; rw [uI_c (by decide), uI_h]) ?_
  refine Pa.ic (x := 1) (pc' := 55) (by rfl) (by rfl) (by decide) ?_
  refine Pa.mp 1 (pc' := 56) (l' := [(8, .int 30), (7, .int 2), (0, .ref 30), (1, .ref ya), (2, .int 0), (3, .int 3), (4, .int yx), (5, .int yc), (6, .int 0)]) (st' := [.int 1, .ref 30]) (by rfl) ?_
  refine Pa.pfI (by rfl) (by rfl) (.inl rfl) (by rfl) ?_
  show Pa N 39 59 [(8, .int 30), (7, .int 2), (0, .ref 30), (1, .ref ya), (2, .int 0), (3, .int 3), (4, .int yx), (5, .int yc), (6, .int 0)] [] (uI (uI (uI yA 30 6 0) 33 0 30) 30 6 1) _
  refine Pa.mp 1 (pc' := 61) (l' := [(8, .int 30), (7, .int 2), (0, .ref 30), (1, .ref ya), (2, .int 0), (3, .int 3), (4, .int yx), (5, .int yc), (6, .int 0)]) (st' := [.int 2]) (by rfl) ?_
  refine Pa.ist (by rfl) (by rfl) (.inl rfl) (by rfl) (by rfl) ?_
  refine Pa.mono (c_abv2 N (uI (uI (uI yA 30 6 0) 33 0 30) 30 6 1)) (fun yu A1 hu => ?_)
  obtain ⟨rfl, hu⟩ := hu
  rw [hu]
  show Pa N 39 64 [(8, .int 30), (7, .int 2), (0, .ref 30), (1, .ref ya), (2, .int 0), (3, .int 3), (4, .int yx), (5, .int yc), (6, .int 0)] [.int 0] (uI (uI (uI yA 30 6 0) 33 0 30) 30 6 1) _
  refine Pa.mp 2 (pc' := 68) (l' := [(9, .int 0), (8, .int 30), (7, .int 2), (0, .ref 30), (1, .ref ya), (2, .int 0), (3, .int 3), (4, .int yx), (5, .int yc), (6, .int 0)]) (st' := [.int 0]) (by rfl) ?_
  refine Pa.ic (x := 1) (pc' := 69) (by rfl) (by rfl) (by decide) ?_
  refine Pa.mp 3 (pc' := 74) (l' := [(10, .int 1), (9, .int 0), (8, .int 30), (7, .int 2), (0, .ref 30), (1, .ref ya), (2, .int 0), (3, .int 3), (4, .int yx), (5, .int yc), (6, .int 0)]) (st' := [.int 30]) (by rfl) ?_
  refine Pa.mp 1 (pc' := 229) (l' := [(10, .int 1), (9, .int 0), (8, .int 30), (7, .int 2), (0, .ref 30), (1, .ref ya), (2, .int 0), (3, .int 3), (4, .int yx), (5, .int yc), (6, .int 0)]) (st' := []) (by rfl) ?_
  refine Pa.mp 2 (pc' := 231) (l' := [(10, .int 1), (9, .int 0), (8, .int 30), (7, .int 2), (0, .ref 30), (1, .ref ya), (2, .int 0), (3, .int 3), (4, .int yx), (5, .int yc), (6, .int 0)]) (st' := [.ref ya, .ref 30]) (by rfl) ?_
  refine Pa.ic (x := 0) (pc' := 232) (by rfl) (by rfl) (by decide) ?_
  refine Pa.mp 4 (pc' := 240) (l' := [(10, .int 1), (9, .int 0), (8, .int 30), (7, .int 2), (0, .ref 30), (1, .ref ya), (2, .int 0), (3, .int 3), (4, .int yx), (5, .int yc), (6, .int 0)]) (st' := [.int 1, .int yc, .int yx, .int 0, .int 0, .ref ya, .ref 30]) (by rfl) ?_
  refine Pa.inv (by rfl) (by rfl) (.inl rfl) (by rfl) ?_
  show Pa N 39 0 [(0, .ref 30), (1, .ref ya), (2, .int 0), (3, .int 0), (4, .int yx), (5, .int yc), (6, .int 1)] [] (uI (uI (uI yA 30 6 0) 33 0 30) 30 6 1) _
  refine Pa.mp 2 (pc' := 2) (l' := [(0, .ref 30), (1, .ref ya), (2, .int 0), (3, .int 0), (4, .int yx), (5, .int yc), (6, .int 1)]) (st' := [.int 0, .int 0]) (by rfl) ?_
  refine Pa.ist (by rfl) (by rfl) (.inl rfl) (by rfl) (by rfl) ?_
  refine Pa.mono (c_kwb0_0 N (uI (uI (uI yA 30 6 0) 33 0 30) 30 6 1)) (fun yu A1 hu => ?_)
  obtain ⟨rfl, hu⟩ := hu
  rw [hu]
  show Pa N 39 5 [(0, .ref 30), (1, .ref ya), (2, .int 0), (3, .int 0), (4, .int yx), (5, .int yc), (6, .int 1)] [.int 0] (uI (uI (uI yA 30 6 0) 33 0 30) 30 6 1) _
  refine Pa.mp 2 (pc' := 9) (l' := [(7, .int 0), (0, .ref 30), (1, .ref ya), (2, .int 0), (3, .int 0), (4, .int yx), (5, .int yc), (6, .int 1)]) (st' := [.int 0]) (by rfl) ?_
  refine Pa.if1k false (by rfl) (by rfl) (by decide) ?_
  show Pa N 39 12 [(7, .int 0), (0, .ref 30), (1, .ref ya), (2, .int 0), (3, .int 0), (4, .int yx), (5, .int yc), (6, .int 1)] [] (uI (uI (uI yA 30 6 0) 33 0 30) 30 6 1) _
  refine Pa.mp 1 (pc' := 14) (l' := [(7, .int 0), (0, .ref 30), (1, .ref ya), (2, .int 0), (3, .int 0), (4, .int yx), (5, .int yc), (6, .int 1)]) (st' := [.int 1]) (by rfl) ?_
  refine Pa.ic (x := 30) (pc' := 16) (by rfl) (by rfl) (by decide) ?_
  refine Pa.if2k true (by rfl) (by rfl) (by decide) ?_
  show Pa N 39 21 [(7, .int 0), (0, .ref 30), (1, .ref ya), (2, .int 0), (3, .int 0), (4, .int yx), (5, .int yc), (6, .int 1)] [] (uI (uI (uI yA 30 6 0) 33 0 30) 30 6 1) _
  refine Pa.mp 2 (pc' := 24) (l' := [(7, .int 0), (0, .ref 30), (1, .ref ya), (2, .int 0), (3, .int 0), (4, .int yx), (5, .int yc), (6, .int 1)]) (st' := [.int 0, .int 0]) (by rfl) ?_
  refine Pa.ist (by rfl) (by rfl) (.inl rfl) (by rfl) (by rfl) ?_
  refine Pa.mono (c_bod0_0 N (uI (uI (uI yA 30 6 0) 33 0 30) 30 6 1)) (fun yu A1 hu => ?_)
  obtain ⟨rfl, hu⟩ := hu
  rw [hu]
  show Pa N 39 27 [(7, .int 0), (0, .ref 30), (1, .ref ya), (2, .int 0), (3, .int 0), (4, .int yx), (5, .int yc), (6, .int 1)] [.int 10] (uI (uI (uI yA 30 6 0) 33 0 30) 30 6 1) _
  refine Pa.mp 2 (pc' := 30) (l' := [(8, .int 10), (7, .int 0), (0, .ref 30), (1, .ref ya), (2, .int 0), (3, .int 0), (4, .int yx), (5, .int yc), (6, .int 1)]) (st' := [.ref 30]) (by rfl) ?_
  refine Pa.gfI (v := 1) (by rfl) (by rfl) (.inl rfl) (by rfl) (by show (uI (uI (uI yA 30 6 0) 33 0 30) 30 6 1).1 30 6 = 1; rw [uI_h]) ?_
  refine Pa.ic (x := 24) (pc' := 35) (by rfl) (by rfl) (by decide) ?_
  refine Pa.if2k false (by rfl) (by rfl) (by decide) ?_
  show Pa N 39 38 [(8, .int 10), (7, .int 0), (0, .ref 30), (1, .ref ya), (2, .int 0), (3, .int 0), (4, .int yx), (5, .int yc), (6, .int 1)] [] (uI (uI (uI yA 30 6 0) 33 0 30) 30 6 1) _
  refine Pa.mp 1 (pc' := 39) (l' := [(8, .int 10), (7, .int 0), (0, .ref 30), (1, .ref ya), (2, .int 0), (3, .int 0), (4, .int yx), (5, .int yc), (6, .int 1)]) (st' := [.ref 30]) (by rfl) ?_
  refine Pa.gfR (by rfl) (by rfl) (.inl rfl) (by rfl) ?_
  show Pa N 39 42 [(8, .int 10), (7, .int 0), (0, .ref 30), (1, .ref ya), (2, .int 0), (3, .int 0), (4, .int yx), (5, .int yc), (6, .int 1)] [.ref 33] (uI (uI (uI yA 30 6 0) 33 0 30) 30 6 1) _
  refine Pa.mp 1 (pc' := 43) (l' := [(8, .int 10), (7, .int 0), (0, .ref 30), (1, .ref ya), (2, .int 0), (3, .int 0), (4, .int yx), (5, .int yc), (6, .int 1)]) (st' := [.ref 30, .ref 33]) (by rfl) ?_
  refine Pa.gfI (v := 1) (by rfl) (by rfl) (.inl rfl) (by rfl) (by show (uI (uI (uI yA 30 6 0) 33 0 30) 30 6 1).1 30 6 = 1; rw [uI_h]) ?_
  refine Pa.mp 1 (pc' := 48) (l' := [(8, .int 10), (7, .int 0), (0, .ref 30), (1, .ref ya), (2, .int 0), (3, .int 0), (4, .int yx), (5, .int yc), (6, .int 1)]) (st' := [.int 10, .int 1, .ref 33]) (by rfl) ?_
  refine Pa.asts (j' := 1) (by rfl) (by rfl) (by rfl) (fun h3 h4 => ?_)
  show Pa N 39 49 [(8, .int 10), (7, .int 0), (0, .ref 30), (1, .ref ya), (2, .int 0), (3, .int 0), (4, .int yx), (5, .int yc), (6, .int 1)] [] (uI (uI (uI (uI yA 30 6 0) 33 0 30) 30 6 1) 33 1 10) _
  refine Pa.mp 2 (pc' := 51) (l' := [(8, .int 10), (7, .int 0), (0, .ref 30), (1, .ref ya), (2, .int 0), (3, .int 0), (4, .int yx), (5, .int yc), (6, .int 1)]) (st' := [.ref 30, .ref 30]) (by rfl) ?_
  refine Pa.gfI (v := 1) (by rfl) (by rfl) (.inl rfl) (by rfl) (by show (uI (uI (uI (uI yA 30 6 0) 33 0 30) 30 6 1) 33 1 10).1 30 6 = 1; rw [uI_c (by decide), uI_h]) ?_
  refine Pa.ic (x := 1) (pc' := 55) (by rfl) (by rfl) (by decide) ?_
  refine Pa.mp 1 (pc' := 56) (l' := [(8, .int 10), (7, .int 0), (0, .ref 30), (1, .ref ya), (2, .int 0), (3, .int 0), (4, .int yx), (5, .int yc), (6, .int 1)]) (st' := [.int 2, .ref 30]) (by rfl) ?_
  refine Pa.pfI (by rfl) (by rfl) (.inl rfl) (by rfl) ?_
  show Pa N 39 59 [(8, .int 10), (7, .int 0), (0, .ref 30), (1, .ref ya), (2, .int 0), (3, .int 0), (4, .int yx), (5, .int yc), (6, .int 1)] [] (uI (uI (uI (uI (uI yA 30 6 0) 33 0 30) 30 6 1) 33 1 10) 30 6 2) _
  refine Pa.mp 1 (pc' := 61) (l' := [(8, .int 10), (7, .int 0), (0, .ref 30), (1, .ref ya), (2, .int 0), (3, .int 0), (4, .int yx), (5, .int yc), (6, .int 1)]) (st' := [.int 0]) (by rfl) ?_
  refine Pa.ist (by rfl) (by rfl) (.inl rfl) (by rfl) (by rfl) ?_
  refine Pa.mono (c_abv0 N (uI (uI (uI (uI (uI yA 30 6 0) 33 0 30) 30 6 1) 33 1 10) 30 6 2)) (fun yu A1 hu => ?_)
  obtain ⟨rfl, hu⟩ := hu
  rw [hu]
  show Pa N 39 64 [(8, .int 10), (7, .int 0), (0, .ref 30), (1, .ref ya), (2, .int 0), (3, .int 0), (4, .int yx), (5, .int yc), (6, .int 1)] [.int (-1)] (uI (uI (uI (uI (uI yA 30 6 0) 33 0 30) 30 6 1) 33 1 10) 30 6 2) _
  refine Pa.mp 2 (pc' := 68) (l' := [(9, .int (-1)), (8, .int 10), (7, .int 0), (0, .ref 30), (1, .ref ya), (2, .int 0), (3, .int 0), (4, .int yx), (5, .int yc), (6, .int 1)]) (st' := [.int 1]) (by rfl) ?_
  refine Pa.ic (x := 1) (pc' := 69) (by rfl) (by rfl) (by decide) ?_
  refine Pa.mp 3 (pc' := 74) (l' := [(10, .int 2), (9, .int (-1)), (8, .int 10), (7, .int 0), (0, .ref 30), (1, .ref ya), (2, .int 0), (3, .int 0), (4, .int yx), (5, .int yc), (6, .int 1)]) (st' := [.int 10]) (by rfl) ?_
  refine Pa.mp 1 (pc' := 164) (l' := [(10, .int 2), (9, .int (-1)), (8, .int 10), (7, .int 0), (0, .ref 30), (1, .ref ya), (2, .int 0), (3, .int 0), (4, .int yx), (5, .int yc), (6, .int 1)]) (st' := []) (by rfl) ?_
  refine Pa.mp 3 (pc' := 169) (l' := [(10, .int 2), (9, .int (-1)), (8, .int 10), (7, .int 0), (0, .ref 30), (1, .ref ya), (2, .int 0), (3, .int 0), (4, .int yx), (5, .int yc), (6, .int 1)]) (st' := [.int (yx + yc)]) (by rfl) ?_
  refine Pa.iret (by rfl) ?_
  show Pa N 39 243 [(10, .int 1), (9, .int 0), (8, .int 30), (7, .int 2), (0, .ref 30), (1, .ref ya), (2, .int 0), (3, .int 3), (4, .int yx), (5, .int yc), (6, .int 0)] [.int (yx + yc)] (uI (uI (uI (uI (uI yA 30 6 0) 33 0 30) 30 6 1) 33 1 10) 30 6 2) _
  refine Pa.ic (x := 4) (pc' := 244) (by rfl) (by rfl) (by decide) ?_
  refine Pa.mp 1 (pc' := 245) (l' := [(10, .int 1), (9, .int 0), (8, .int 30), (7, .int 2), (0, .ref 30), (1, .ref ya), (2, .int 0), (3, .int 3), (4, .int yx), (5, .int yc), (6, .int 0)]) (st' := [.int ((yx + yc) - 4)]) (by rfl) ?_
  refine Pa.iret (by rfl) ?_
  exact l1

theorem bpf0_4 {N : Nat} {yA : AW} {yQ : Option Value → AW → Prop} {ya : Nat} (yx yc : Int32) (yha : 129 ≤ ya) (hk : yA.1 ya 1 = 4)
    (l1 : yQ (some (.int (yx + yc))) (uI (uI (uI yA 30 6 0) 33 0 10) 30 6 1)) :
    Pa N 39 0 [(0, .ref 30), (1, .ref ya), (2, .int 0), (3, .int 4), (4, .int yx), (5, .int yc), (6, .int 0)] [] (uI yA 30 6 0) yQ := by
  refine Pa.mp 2 (pc' := 2) (l' := [(0, .ref 30), (1, .ref ya), (2, .int 0), (3, .int 4), (4, .int yx), (5, .int yc), (6, .int 0)]) (st' := [.int 4, .int 0]) (by rfl) ?_
  refine Pa.ist (by rfl) (by rfl) (.inl rfl) (by rfl) (by rfl) ?_
  refine Pa.mono (c_kwb0_4 N (uI yA 30 6 0)) (fun yu A1 hu => ?_)
  obtain ⟨rfl, hu⟩ := hu
  rw [hu]
  show Pa N 39 5 [(0, .ref 30), (1, .ref ya), (2, .int 0), (3, .int 4), (4, .int yx), (5, .int yc), (6, .int 0)] [.int 0] (uI yA 30 6 0) _
  refine Pa.mp 2 (pc' := 9) (l' := [(7, .int 0), (0, .ref 30), (1, .ref ya), (2, .int 0), (3, .int 4), (4, .int yx), (5, .int yc), (6, .int 0)]) (st' := [.int 0]) (by rfl) ?_
  refine Pa.if1k false (by rfl) (by rfl) (by decide) ?_
  show Pa N 39 12 [(7, .int 0), (0, .ref 30), (1, .ref ya), (2, .int 0), (3, .int 4), (4, .int yx), (5, .int yc), (6, .int 0)] [] (uI yA 30 6 0) _
  refine Pa.mp 1 (pc' := 14) (l' := [(7, .int 0), (0, .ref 30), (1, .ref ya), (2, .int 0), (3, .int 4), (4, .int yx), (5, .int yc), (6, .int 0)]) (st' := [.int 0]) (by rfl) ?_
  refine Pa.ic (x := 30) (pc' := 16) (by rfl) (by rfl) (by decide) ?_
  refine Pa.if2k true (by rfl) (by rfl) (by decide) ?_
  show Pa N 39 21 [(7, .int 0), (0, .ref 30), (1, .ref ya), (2, .int 0), (3, .int 4), (4, .int yx), (5, .int yc), (6, .int 0)] [] (uI yA 30 6 0) _
  refine Pa.mp 2 (pc' := 24) (l' := [(7, .int 0), (0, .ref 30), (1, .ref ya), (2, .int 0), (3, .int 4), (4, .int yx), (5, .int yc), (6, .int 0)]) (st' := [.int 0, .int 0]) (by rfl) ?_
  refine Pa.ist (by rfl) (by rfl) (.inl rfl) (by rfl) (by rfl) ?_
  refine Pa.mono (c_bod0_0 N (uI yA 30 6 0)) (fun yu A1 hu => ?_)
  obtain ⟨rfl, hu⟩ := hu
  rw [hu]
  show Pa N 39 27 [(7, .int 0), (0, .ref 30), (1, .ref ya), (2, .int 0), (3, .int 4), (4, .int yx), (5, .int yc), (6, .int 0)] [.int 10] (uI yA 30 6 0) _
  refine Pa.mp 2 (pc' := 30) (l' := [(8, .int 10), (7, .int 0), (0, .ref 30), (1, .ref ya), (2, .int 0), (3, .int 4), (4, .int yx), (5, .int yc), (6, .int 0)]) (st' := [.ref 30]) (by rfl) ?_
  refine Pa.gfI (v := 0) (by rfl) (by rfl) (.inl rfl) (by rfl) (by show (uI yA 30 6 0).1 30 6 = 0; rw [uI_h]) ?_
  refine Pa.ic (x := 24) (pc' := 35) (by rfl) (by rfl) (by decide) ?_
  refine Pa.if2k false (by rfl) (by rfl) (by decide) ?_
  show Pa N 39 38 [(8, .int 10), (7, .int 0), (0, .ref 30), (1, .ref ya), (2, .int 0), (3, .int 4), (4, .int yx), (5, .int yc), (6, .int 0)] [] (uI yA 30 6 0) _
  refine Pa.mp 1 (pc' := 39) (l' := [(8, .int 10), (7, .int 0), (0, .ref 30), (1, .ref ya), (2, .int 0), (3, .int 4), (4, .int yx), (5, .int yc), (6, .int 0)]) (st' := [.ref 30]) (by rfl) ?_
  refine Pa.gfR (by rfl) (by rfl) (.inl rfl) (by rfl) ?_
  show Pa N 39 42 [(8, .int 10), (7, .int 0), (0, .ref 30), (1, .ref ya), (2, .int 0), (3, .int 4), (4, .int yx), (5, .int yc), (6, .int 0)] [.ref 33] (uI yA 30 6 0) _
  refine Pa.mp 1 (pc' := 43) (l' := [(8, .int 10), (7, .int 0), (0, .ref 30), (1, .ref ya), (2, .int 0), (3, .int 4), (4, .int yx), (5, .int yc), (6, .int 0)]) (st' := [.ref 30, .ref 33]) (by rfl) ?_
  refine Pa.gfI (v := 0) (by rfl) (by rfl) (.inl rfl) (by rfl) (by show (uI yA 30 6 0).1 30 6 = 0; rw [uI_h]) ?_
  refine Pa.mp 1 (pc' := 48) (l' := [(8, .int 10), (7, .int 0), (0, .ref 30), (1, .ref ya), (2, .int 0), (3, .int 4), (4, .int yx), (5, .int yc), (6, .int 0)]) (st' := [.int 10, .int 0, .ref 33]) (by rfl) ?_
  refine Pa.asts (j' := 0) (by rfl) (by rfl) (by rfl) (fun h1 h2 => ?_)
  show Pa N 39 49 [(8, .int 10), (7, .int 0), (0, .ref 30), (1, .ref ya), (2, .int 0), (3, .int 4), (4, .int yx), (5, .int yc), (6, .int 0)] [] (uI (uI yA 30 6 0) 33 0 10) _
  refine Pa.mp 2 (pc' := 51) (l' := [(8, .int 10), (7, .int 0), (0, .ref 30), (1, .ref ya), (2, .int 0), (3, .int 4), (4, .int yx), (5, .int yc), (6, .int 0)]) (st' := [.ref 30, .ref 30]) (by rfl) ?_
  refine Pa.gfI (v := 0) (by rfl) (by rfl) (.inl rfl) (by rfl) (by show (uI (uI yA 30 6 0) 33 0 10).1 30 6 = 0; rw [uI_c (by decide), uI_h]) ?_
  refine Pa.ic (x := 1) (pc' := 55) (by rfl) (by rfl) (by decide) ?_
  refine Pa.mp 1 (pc' := 56) (l' := [(8, .int 10), (7, .int 0), (0, .ref 30), (1, .ref ya), (2, .int 0), (3, .int 4), (4, .int yx), (5, .int yc), (6, .int 0)]) (st' := [.int 1, .ref 30]) (by rfl) ?_
  refine Pa.pfI (by rfl) (by rfl) (.inl rfl) (by rfl) ?_
  show Pa N 39 59 [(8, .int 10), (7, .int 0), (0, .ref 30), (1, .ref ya), (2, .int 0), (3, .int 4), (4, .int yx), (5, .int yc), (6, .int 0)] [] (uI (uI (uI yA 30 6 0) 33 0 10) 30 6 1) _
  refine Pa.mp 1 (pc' := 61) (l' := [(8, .int 10), (7, .int 0), (0, .ref 30), (1, .ref ya), (2, .int 0), (3, .int 4), (4, .int yx), (5, .int yc), (6, .int 0)]) (st' := [.int 0]) (by rfl) ?_
  refine Pa.ist (by rfl) (by rfl) (.inl rfl) (by rfl) (by rfl) ?_
  refine Pa.mono (c_abv0 N (uI (uI (uI yA 30 6 0) 33 0 10) 30 6 1)) (fun yu A1 hu => ?_)
  obtain ⟨rfl, hu⟩ := hu
  rw [hu]
  show Pa N 39 64 [(8, .int 10), (7, .int 0), (0, .ref 30), (1, .ref ya), (2, .int 0), (3, .int 4), (4, .int yx), (5, .int yc), (6, .int 0)] [.int (-1)] (uI (uI (uI yA 30 6 0) 33 0 10) 30 6 1) _
  refine Pa.mp 2 (pc' := 68) (l' := [(9, .int (-1)), (8, .int 10), (7, .int 0), (0, .ref 30), (1, .ref ya), (2, .int 0), (3, .int 4), (4, .int yx), (5, .int yc), (6, .int 0)]) (st' := [.int 0]) (by rfl) ?_
  refine Pa.ic (x := 1) (pc' := 69) (by rfl) (by rfl) (by decide) ?_
  refine Pa.mp 3 (pc' := 74) (l' := [(10, .int 1), (9, .int (-1)), (8, .int 10), (7, .int 0), (0, .ref 30), (1, .ref ya), (2, .int 0), (3, .int 4), (4, .int yx), (5, .int yc), (6, .int 0)]) (st' := [.int 10]) (by rfl) ?_
  refine Pa.mp 1 (pc' := 164) (l' := [(10, .int 1), (9, .int (-1)), (8, .int 10), (7, .int 0), (0, .ref 30), (1, .ref ya), (2, .int 0), (3, .int 4), (4, .int yx), (5, .int yc), (6, .int 0)]) (st' := []) (by rfl) ?_
  refine Pa.mp 3 (pc' := 169) (l' := [(10, .int 1), (9, .int (-1)), (8, .int 10), (7, .int 0), (0, .ref 30), (1, .ref ya), (2, .int 0), (3, .int 4), (4, .int yx), (5, .int yc), (6, .int 0)]) (st' := [.int (yx + yc)]) (by rfl) ?_
  refine Pa.iret (by rfl) ?_
  exact l1

theorem bpf0_5 {N : Nat} {yA : AW} {yQ : Option Value → AW → Prop} {ya : Nat} (yx yc : Int32) (yha : 129 ≤ ya) (hk : yA.1 ya 1 = 5)
    (l1 : yQ (some (.int (((yx + 1) + yc) - 4))) (uI (uI (uI (uI (uI (uI (uI yA 30 6 0) 33 0 60) 30 6 1) 33 1 30) 30 6 2) 33 2 10) 30 6 3)) :
    Pa N 39 0 [(0, .ref 30), (1, .ref ya), (2, .int 0), (3, .int 5), (4, .int yx), (5, .int yc), (6, .int 0)] [] (uI yA 30 6 0) yQ := by
  refine Pa.mp 2 (pc' := 2) (l' := [(0, .ref 30), (1, .ref ya), (2, .int 0), (3, .int 5), (4, .int yx), (5, .int yc), (6, .int 0)]) (st' := [.int 5, .int 0]) (by rfl) ?_
  refine Pa.ist (by rfl) (by rfl) (.inl rfl) (by rfl) (by rfl) ?_
  refine Pa.mono (c_kwb0_5 N (uI yA 30 6 0)) (fun yu A1 hu => ?_)
  obtain ⟨rfl, hu⟩ := hu
  rw [hu]
  show Pa N 39 5 [(0, .ref 30), (1, .ref ya), (2, .int 0), (3, .int 5), (4, .int yx), (5, .int yc), (6, .int 0)] [.int 5] (uI yA 30 6 0) _
  refine Pa.mp 2 (pc' := 9) (l' := [(7, .int 5), (0, .ref 30), (1, .ref ya), (2, .int 0), (3, .int 5), (4, .int yx), (5, .int yc), (6, .int 0)]) (st' := [.int 5]) (by rfl) ?_
  refine Pa.if1k false (by rfl) (by rfl) (by decide) ?_
  show Pa N 39 12 [(7, .int 5), (0, .ref 30), (1, .ref ya), (2, .int 0), (3, .int 5), (4, .int yx), (5, .int yc), (6, .int 0)] [] (uI yA 30 6 0) _
  refine Pa.mp 1 (pc' := 14) (l' := [(7, .int 5), (0, .ref 30), (1, .ref ya), (2, .int 0), (3, .int 5), (4, .int yx), (5, .int yc), (6, .int 0)]) (st' := [.int 0]) (by rfl) ?_
  refine Pa.ic (x := 30) (pc' := 16) (by rfl) (by rfl) (by decide) ?_
  refine Pa.if2k true (by rfl) (by rfl) (by decide) ?_
  show Pa N 39 21 [(7, .int 5), (0, .ref 30), (1, .ref ya), (2, .int 0), (3, .int 5), (4, .int yx), (5, .int yc), (6, .int 0)] [] (uI yA 30 6 0) _
  refine Pa.mp 2 (pc' := 24) (l' := [(7, .int 5), (0, .ref 30), (1, .ref ya), (2, .int 0), (3, .int 5), (4, .int yx), (5, .int yc), (6, .int 0)]) (st' := [.int 5, .int 0]) (by rfl) ?_
  refine Pa.ist (by rfl) (by rfl) (.inl rfl) (by rfl) (by rfl) ?_
  refine Pa.mono (c_bod0_5 N (uI yA 30 6 0)) (fun yu A1 hu => ?_)
  obtain ⟨rfl, hu⟩ := hu
  rw [hu]
  show Pa N 39 27 [(7, .int 5), (0, .ref 30), (1, .ref ya), (2, .int 0), (3, .int 5), (4, .int yx), (5, .int yc), (6, .int 0)] [.int 60] (uI yA 30 6 0) _
  refine Pa.mp 2 (pc' := 30) (l' := [(8, .int 60), (7, .int 5), (0, .ref 30), (1, .ref ya), (2, .int 0), (3, .int 5), (4, .int yx), (5, .int yc), (6, .int 0)]) (st' := [.ref 30]) (by rfl) ?_
  refine Pa.gfI (v := 0) (by rfl) (by rfl) (.inl rfl) (by rfl) (by show (uI yA 30 6 0).1 30 6 = 0; rw [uI_h]) ?_
  refine Pa.ic (x := 24) (pc' := 35) (by rfl) (by rfl) (by decide) ?_
  refine Pa.if2k false (by rfl) (by rfl) (by decide) ?_
  show Pa N 39 38 [(8, .int 60), (7, .int 5), (0, .ref 30), (1, .ref ya), (2, .int 0), (3, .int 5), (4, .int yx), (5, .int yc), (6, .int 0)] [] (uI yA 30 6 0) _
  refine Pa.mp 1 (pc' := 39) (l' := [(8, .int 60), (7, .int 5), (0, .ref 30), (1, .ref ya), (2, .int 0), (3, .int 5), (4, .int yx), (5, .int yc), (6, .int 0)]) (st' := [.ref 30]) (by rfl) ?_
  refine Pa.gfR (by rfl) (by rfl) (.inl rfl) (by rfl) ?_
  show Pa N 39 42 [(8, .int 60), (7, .int 5), (0, .ref 30), (1, .ref ya), (2, .int 0), (3, .int 5), (4, .int yx), (5, .int yc), (6, .int 0)] [.ref 33] (uI yA 30 6 0) _
  refine Pa.mp 1 (pc' := 43) (l' := [(8, .int 60), (7, .int 5), (0, .ref 30), (1, .ref ya), (2, .int 0), (3, .int 5), (4, .int yx), (5, .int yc), (6, .int 0)]) (st' := [.ref 30, .ref 33]) (by rfl) ?_
  refine Pa.gfI (v := 0) (by rfl) (by rfl) (.inl rfl) (by rfl) (by show (uI yA 30 6 0).1 30 6 = 0; rw [uI_h]) ?_
  refine Pa.mp 1 (pc' := 48) (l' := [(8, .int 60), (7, .int 5), (0, .ref 30), (1, .ref ya), (2, .int 0), (3, .int 5), (4, .int yx), (5, .int yc), (6, .int 0)]) (st' := [.int 60, .int 0, .ref 33]) (by rfl) ?_
  refine Pa.asts (j' := 0) (by rfl) (by rfl) (by rfl) (fun h1 h2 => ?_)
  show Pa N 39 49 [(8, .int 60), (7, .int 5), (0, .ref 30), (1, .ref ya), (2, .int 0), (3, .int 5), (4, .int yx), (5, .int yc), (6, .int 0)] [] (uI (uI yA 30 6 0) 33 0 60) _
  refine Pa.mp 2 (pc' := 51) (l' := [(8, .int 60), (7, .int 5), (0, .ref 30), (1, .ref ya), (2, .int 0), (3, .int 5), (4, .int yx), (5, .int yc), (6, .int 0)]) (st' := [.ref 30, .ref 30]) (by rfl) ?_
  refine Pa.gfI (v := 0) (by rfl) (by rfl) (.inl rfl) (by rfl) (by show (uI (uI yA 30 6 0) 33 0 60).1 30 6 = 0; rw [uI_c (by decide), uI_h]) ?_
  refine Pa.ic (x := 1) (pc' := 55) (by rfl) (by rfl) (by decide) ?_
  refine Pa.mp 1 (pc' := 56) (l' := [(8, .int 60), (7, .int 5), (0, .ref 30), (1, .ref ya), (2, .int 0), (3, .int 5), (4, .int yx), (5, .int yc), (6, .int 0)]) (st' := [.int 1, .ref 30]) (by rfl) ?_
  refine Pa.pfI (by rfl) (by rfl) (.inl rfl) (by rfl) ?_
  show Pa N 39 59 [(8, .int 60), (7, .int 5), (0, .ref 30), (1, .ref ya), (2, .int 0), (3, .int 5), (4, .int yx), (5, .int yc), (6, .int 0)] [] (uI (uI (uI yA 30 6 0) 33 0 60) 30 6 1) _
  refine Pa.mp 1 (pc' := 61) (l' := [(8, .int 60), (7, .int 5), (0, .ref 30), (1, .ref ya), (2, .int 0), (3, .int 5), (4, .int yx), (5, .int yc), (6, .int 0)]) (st' := [.int 5]) (by rfl) ?_
  refine Pa.ist (by rfl) (by rfl) (.inl rfl) (by rfl) (by rfl) ?_
  refine Pa.mono (c_abv5 N (uI (uI (uI yA 30 6 0) 33 0 60) 30 6 1)) (fun yu A1 hu => ?_)
  obtain ⟨rfl, hu⟩ := hu
  rw [hu]
  show Pa N 39 64 [(8, .int 60), (7, .int 5), (0, .ref 30), (1, .ref ya), (2, .int 0), (3, .int 5), (4, .int yx), (5, .int yc), (6, .int 0)] [.int 2] (uI (uI (uI yA 30 6 0) 33 0 60) 30 6 1) _
  refine Pa.mp 2 (pc' := 68) (l' := [(9, .int 2), (8, .int 60), (7, .int 5), (0, .ref 30), (1, .ref ya), (2, .int 0), (3, .int 5), (4, .int yx), (5, .int yc), (6, .int 0)]) (st' := [.int 0]) (by rfl) ?_
  refine Pa.ic (x := 1) (pc' := 69) (by rfl) (by rfl) (by decide) ?_
  refine Pa.mp 3 (pc' := 74) (l' := [(10, .int 1), (9, .int 2), (8, .int 60), (7, .int 5), (0, .ref 30), (1, .ref ya), (2, .int 0), (3, .int 5), (4, .int yx), (5, .int yc), (6, .int 0)]) (st' := [.int 60]) (by rfl) ?_
  refine Pa.mp 1 (pc' := 297) (l' := [(10, .int 1), (9, .int 2), (8, .int 60), (7, .int 5), (0, .ref 30), (1, .ref ya), (2, .int 0), (3, .int 5), (4, .int yx), (5, .int yc), (6, .int 0)]) (st' := []) (by rfl) ?_
  refine Pa.mp 2 (pc' := 299) (l' := [(10, .int 1), (9, .int 2), (8, .int 60), (7, .int 5), (0, .ref 30), (1, .ref ya), (2, .int 0), (3, .int 5), (4, .int yx), (5, .int yc), (6, .int 0)]) (st' := [.ref ya, .ref 30]) (by rfl) ?_
  refine Pa.ic (x := 0) (pc' := 300) (by rfl) (by rfl) (by decide) ?_
  refine Pa.mp 2 (pc' := 304) (l' := [(10, .int 1), (9, .int 2), (8, .int 60), (7, .int 5), (0, .ref 30), (1, .ref ya), (2, .int 0), (3, .int 5), (4, .int yx), (5, .int yc), (6, .int 0)]) (st' := [.int yx, .int 2, .int 0, .ref ya, .ref 30]) (by rfl) ?_
  refine Pa.ic (x := 1) (pc' := 305) (by rfl) (by rfl) (by decide) ?_
  refine Pa.mp 3 (pc' := 310) (l' := [(10, .int 1), (9, .int 2), (8, .int 60), (7, .int 5), (0, .ref 30), (1, .ref ya), (2, .int 0), (3, .int 5), (4, .int yx), (5, .int yc), (6, .int 0)]) (st' := [.int 1, .int yc, .int (yx + 1), .int 2, .int 0, .ref ya, .ref 30]) (by rfl) ?_
  refine Pa.inv (by rfl) (by rfl) (.inl rfl) (by rfl) ?_
  show Pa N 39 0 [(0, .ref 30), (1, .ref ya), (2, .int 0), (3, .int 2), (4, .int (yx + 1)), (5, .int yc), (6, .int 1)] [] (uI (uI (uI yA 30 6 0) 33 0 60) 30 6 1) _
  refine Pa.mp 2 (pc' := 2) (l' := [(0, .ref 30), (1, .ref ya), (2, .int 0), (3, .int 2), (4, .int (yx + 1)), (5, .int yc), (6, .int 1)]) (st' := [.int 2, .int 0]) (by rfl) ?_
  refine Pa.ist (by rfl) (by rfl) (.inl rfl) (by rfl) (by rfl) ?_
  refine Pa.mono (c_kwb0_2 N (uI (uI (uI yA 30 6 0) 33 0 60) 30 6 1)) (fun yu A1 hu => ?_)
  obtain ⟨rfl, hu⟩ := hu
  rw [hu]
  show Pa N 39 5 [(0, .ref 30), (1, .ref ya), (2, .int 0), (3, .int 2), (4, .int (yx + 1)), (5, .int yc), (6, .int 1)] [.int 2] (uI (uI (uI yA 30 6 0) 33 0 60) 30 6 1) _
  refine Pa.mp 2 (pc' := 9) (l' := [(7, .int 2), (0, .ref 30), (1, .ref ya), (2, .int 0), (3, .int 2), (4, .int (yx + 1)), (5, .int yc), (6, .int 1)]) (st' := [.int 2]) (by rfl) ?_
  refine Pa.if1k false (by rfl) (by rfl) (by decide) ?_
  show Pa N 39 12 [(7, .int 2), (0, .ref 30), (1, .ref ya), (2, .int 0), (3, .int 2), (4, .int (yx + 1)), (5, .int yc), (6, .int 1)] [] (uI (uI (uI yA 30 6 0) 33 0 60) 30 6 1) _
  refine Pa.mp 1 (pc' := 14) (l' := [(7, .int 2), (0, .ref 30), (1, .ref ya), (2, .int 0), (3, .int 2), (4, .int (yx + 1)), (5, .int yc), (6, .int 1)]) (st' := [.int 1]) (by rfl) ?_
  refine Pa.ic (x := 30) (pc' := 16) (by rfl) (by rfl) (by decide) ?_
  refine Pa.if2k true (by rfl) (by rfl) (by decide) ?_
  show Pa N 39 21 [(7, .int 2), (0, .ref 30), (1, .ref ya), (2, .int 0), (3, .int 2), (4, .int (yx + 1)), (5, .int yc), (6, .int 1)] [] (uI (uI (uI yA 30 6 0) 33 0 60) 30 6 1) _
  refine Pa.mp 2 (pc' := 24) (l' := [(7, .int 2), (0, .ref 30), (1, .ref ya), (2, .int 0), (3, .int 2), (4, .int (yx + 1)), (5, .int yc), (6, .int 1)]) (st' := [.int 2, .int 0]) (by rfl) ?_
  refine Pa.ist (by rfl) (by rfl) (.inl rfl) (by rfl) (by rfl) ?_
  refine Pa.mono (c_bod0_2 N (uI (uI (uI yA 30 6 0) 33 0 60) 30 6 1)) (fun yu A1 hu => ?_)
  obtain ⟨rfl, hu⟩ := hu
  rw [hu]
  show Pa N 39 27 [(7, .int 2), (0, .ref 30), (1, .ref ya), (2, .int 0), (3, .int 2), (4, .int (yx + 1)), (5, .int yc), (6, .int 1)] [.int 30] (uI (uI (uI yA 30 6 0) 33 0 60) 30 6 1) _
  refine Pa.mp 2 (pc' := 30) (l' := [(8, .int 30), (7, .int 2), (0, .ref 30), (1, .ref ya), (2, .int 0), (3, .int 2), (4, .int (yx + 1)), (5, .int yc), (6, .int 1)]) (st' := [.ref 30]) (by rfl) ?_
  refine Pa.gfI (v := 1) (by rfl) (by rfl) (.inl rfl) (by rfl) (by show (uI (uI (uI yA 30 6 0) 33 0 60) 30 6 1).1 30 6 = 1; rw [uI_h]) ?_
  refine Pa.ic (x := 24) (pc' := 35) (by rfl) (by rfl) (by decide) ?_
  refine Pa.if2k false (by rfl) (by rfl) (by decide) ?_
  show Pa N 39 38 [(8, .int 30), (7, .int 2), (0, .ref 30), (1, .ref ya), (2, .int 0), (3, .int 2), (4, .int (yx + 1)), (5, .int yc), (6, .int 1)] [] (uI (uI (uI yA 30 6 0) 33 0 60) 30 6 1) _
  refine Pa.mp 1 (pc' := 39) (l' := [(8, .int 30), (7, .int 2), (0, .ref 30), (1, .ref ya), (2, .int 0), (3, .int 2), (4, .int (yx + 1)), (5, .int yc), (6, .int 1)]) (st' := [.ref 30]) (by rfl) ?_
  refine Pa.gfR (by rfl) (by rfl) (.inl rfl) (by rfl) ?_
  show Pa N 39 42 [(8, .int 30), (7, .int 2), (0, .ref 30), (1, .ref ya), (2, .int 0), (3, .int 2), (4, .int (yx + 1)), (5, .int yc), (6, .int 1)] [.ref 33] (uI (uI (uI yA 30 6 0) 33 0 60) 30 6 1) _
  refine Pa.mp 1 (pc' := 43) (l' := [(8, .int 30), (7, .int 2), (0, .ref 30), (1, .ref ya), (2, .int 0), (3, .int 2), (4, .int (yx + 1)), (5, .int yc), (6, .int 1)]) (st' := [.ref 30, .ref 33]) (by rfl) ?_
  refine Pa.gfI (v := 1) (by rfl) (by rfl) (.inl rfl) (by rfl) (by show (uI (uI (uI yA 30 6 0) 33 0 60) 30 6 1).1 30 6 = 1; rw [uI_h]) ?_
  refine Pa.mp 1 (pc' := 48) (l' := [(8, .int 30), (7, .int 2), (0, .ref 30), (1, .ref ya), (2, .int 0), (3, .int 2), (4, .int (yx + 1)), (5, .int yc), (6, .int 1)]) (st' := [.int 30, .int 1, .ref 33]) (by rfl) ?_
  refine Pa.asts (j' := 1) (by rfl) (by rfl) (by rfl) (fun h3 h4 => ?_)
  show Pa N 39 49 [(8, .int 30), (7, .int 2), (0, .ref 30), (1, .ref ya), (2, .int 0), (3, .int 2), (4, .int (yx + 1)), (5, .int yc), (6, .int 1)] [] (uI (uI (uI (uI yA 30 6 0) 33 0 60) 30 6 1) 33 1 30) _
  refine Pa.mp 2 (pc' := 51) (l' := [(8, .int 30), (7, .int 2), (0, .ref 30), (1, .ref ya), (2, .int 0), (3, .int 2), (4, .int (yx + 1)), (5, .int yc), (6, .int 1)]) (st' := [.ref 30, .ref 30]) (by rfl) ?_
  refine Pa.gfI (v := 1) (by rfl) (by rfl) (.inl rfl) (by rfl) (by show (uI (uI (uI (uI yA 30 6 0) 33 0 60) 30 6 1) 33 1 30).1 30 6 = 1; rw [uI_c (by decide), uI_h]) ?_
  refine Pa.ic (x := 1) (pc' := 55) (by rfl) (by rfl) (by decide) ?_
  refine Pa.mp 1 (pc' := 56) (l' := [(8, .int 30), (7, .int 2), (0, .ref 30), (1, .ref ya), (2, .int 0), (3, .int 2), (4, .int (yx + 1)), (5, .int yc), (6, .int 1)]) (st' := [.int 2, .ref 30]) (by rfl) ?_
  refine Pa.pfI (by rfl) (by rfl) (.inl rfl) (by rfl) ?_
  show Pa N 39 59 [(8, .int 30), (7, .int 2), (0, .ref 30), (1, .ref ya), (2, .int 0), (3, .int 2), (4, .int (yx + 1)), (5, .int yc), (6, .int 1)] [] (uI (uI (uI (uI (uI yA 30 6 0) 33 0 60) 30 6 1) 33 1 30) 30 6 2) _
  refine Pa.mp 1 (pc' := 61) (l' := [(8, .int 30), (7, .int 2), (0, .ref 30), (1, .ref ya), (2, .int 0), (3, .int 2), (4, .int (yx + 1)), (5, .int yc), (6, .int 1)]) (st' := [.int 2]) (by rfl) ?_
  refine Pa.ist (by rfl) (by rfl) (.inl rfl) (by rfl) (by rfl) ?_
  refine Pa.mono (c_abv2 N (uI (uI (uI (uI (uI yA 30 6 0) 33 0 60) 30 6 1) 33 1 30) 30 6 2)) (fun yu A1 hu => ?_)
  obtain ⟨rfl, hu⟩ := hu
  rw [hu]
  show Pa N 39 64 [(8, .int 30), (7, .int 2), (0, .ref 30), (1, .ref ya), (2, .int 0), (3, .int 2), (4, .int (yx + 1)), (5, .int yc), (6, .int 1)] [.int 0] (uI (uI (uI (uI (uI yA 30 6 0) 33 0 60) 30 6 1) 33 1 30) 30 6 2) _
  refine Pa.mp 2 (pc' := 68) (l' := [(9, .int 0), (8, .int 30), (7, .int 2), (0, .ref 30), (1, .ref ya), (2, .int 0), (3, .int 2), (4, .int (yx + 1)), (5, .int yc), (6, .int 1)]) (st' := [.int 1]) (by rfl) ?_
  refine Pa.ic (x := 1) (pc' := 69) (by rfl) (by rfl) (by decide) ?_
  refine Pa.mp 3 (pc' := 74) (l' := [(10, .int 2), (9, .int 0), (8, .int 30), (7, .int 2), (0, .ref 30), (1, .ref ya), (2, .int 0), (3, .int 2), (4, .int (yx + 1)), (5, .int yc), (6, .int 1)]) (st' := [.int 30]) (by rfl) ?_
  refine Pa.mp 1 (pc' := 229) (l' := [(10, .int 2), (9, .int 0), (8, .int 30), (7, .int 2), (0, .ref 30), (1, .ref ya), (2, .int 0), (3, .int 2), (4, .int (yx + 1)), (5, .int yc), (6, .int 1)]) (st' := []) (by rfl) ?_
  refine Pa.mp 2 (pc' := 231) (l' := [(10, .int 2), (9, .int 0), (8, .int 30), (7, .int 2), (0, .ref 30), (1, .ref ya), (2, .int 0), (3, .int 2), (4, .int (yx + 1)), (5, .int yc), (6, .int 1)]) (st' := [.ref ya, .ref 30]) (by rfl) ?_
  refine Pa.ic (x := 0) (pc' := 232) (by rfl) (by rfl) (by decide) ?_
  refine Pa.mp 4 (pc' := 240) (l' := [(10, .int 2), (9, .int 0), (8, .int 30), (7, .int 2), (0, .ref 30), (1, .ref ya), (2, .int 0), (3, .int 2), (4, .int (yx + 1)), (5, .int yc), (6, .int 1)]) (st' := [.int 2, .int yc, .int (yx + 1), .int 0, .int 0, .ref ya, .ref 30]) (by rfl) ?_
  refine Pa.inv (by rfl) (by rfl) (.inl rfl) (by rfl) ?_
  show Pa N 39 0 [(0, .ref 30), (1, .ref ya), (2, .int 0), (3, .int 0), (4, .int (yx + 1)), (5, .int yc), (6, .int 2)] [] (uI (uI (uI (uI (uI yA 30 6 0) 33 0 60) 30 6 1) 33 1 30) 30 6 2) _
  refine Pa.mp 2 (pc' := 2) (l' := [(0, .ref 30), (1, .ref ya), (2, .int 0), (3, .int 0), (4, .int (yx + 1)), (5, .int yc), (6, .int 2)]) (st' := [.int 0, .int 0]) (by rfl) ?_
  refine Pa.ist (by rfl) (by rfl) (.inl rfl) (by rfl) (by rfl) ?_
  refine Pa.mono (c_kwb0_0 N (uI (uI (uI (uI (uI yA 30 6 0) 33 0 60) 30 6 1) 33 1 30) 30 6 2)) (fun yu A1 hu => ?_)
  obtain ⟨rfl, hu⟩ := hu
  rw [hu]
  show Pa N 39 5 [(0, .ref 30), (1, .ref ya), (2, .int 0), (3, .int 0), (4, .int (yx + 1)), (5, .int yc), (6, .int 2)] [.int 0] (uI (uI (uI (uI (uI yA 30 6 0) 33 0 60) 30 6 1) 33 1 30) 30 6 2) _
  refine Pa.mp 2 (pc' := 9) (l' := [(7, .int 0), (0, .ref 30), (1, .ref ya), (2, .int 0), (3, .int 0), (4, .int (yx + 1)), (5, .int yc), (6, .int 2)]) (st' := [.int 0]) (by rfl) ?_
  refine Pa.if1k false (by rfl) (by rfl) (by decide) ?_
  show Pa N 39 12 [(7, .int 0), (0, .ref 30), (1, .ref ya), (2, .int 0), (3, .int 0), (4, .int (yx + 1)), (5, .int yc), (6, .int 2)] [] (uI (uI (uI (uI (uI yA 30 6 0) 33 0 60) 30 6 1) 33 1 30) 30 6 2) _
  refine Pa.mp 1 (pc' := 14) (l' := [(7, .int 0), (0, .ref 30), (1, .ref ya), (2, .int 0), (3, .int 0), (4, .int (yx + 1)), (5, .int yc), (6, .int 2)]) (st' := [.int 2]) (by rfl) ?_
  refine Pa.ic (x := 30) (pc' := 16) (by rfl) (by rfl) (by decide) ?_
  refine Pa.if2k true (by rfl) (by rfl) (by decide) ?_
  show Pa N 39 21 [(7, .int 0), (0, .ref 30), (1, .ref ya), (2, .int 0), (3, .int 0), (4, .int (yx + 1)), (5, .int yc), (6, .int 2)] [] (uI (uI (uI (uI (uI yA 30 6 0) 33 0 60) 30 6 1) 33 1 30) 30 6 2) _
  refine Pa.mp 2 (pc' := 24) (l' := [(7, .int 0), (0, .ref 30), (1, .ref ya), (2, .int 0), (3, .int 0), (4, .int (yx + 1)), (5, .int yc), (6, .int 2)]) (st' := [.int 0, .int 0]) (by rfl) ?_
  refine Pa.ist (by rfl) (by rfl) (.inl rfl) (by rfl) (by rfl) ?_
  refine Pa.mono (c_bod0_0 N (uI (uI (uI (uI (uI yA 30 6 0) 33 0 60) 30 6 1) 33 1 30) 30 6 2)) (fun yu A1 hu => ?_)
  obtain ⟨rfl, hu⟩ := hu
  rw [hu]
  show Pa N 39 27 [(7, .int 0), (0, .ref 30), (1, .ref ya), (2, .int 0), (3, .int 0), (4, .int (yx + 1)), (5, .int yc), (6, .int 2)] [.int 10] (uI (uI (uI (uI (uI yA 30 6 0) 33 0 60) 30 6 1) 33 1 30) 30 6 2) _
  refine Pa.mp 2 (pc' := 30) (l' := [(8, .int 10), (7, .int 0), (0, .ref 30), (1, .ref ya), (2, .int 0), (3, .int 0), (4, .int (yx + 1)), (5, .int yc), (6, .int 2)]) (st' := [.ref 30]) (by rfl) ?_
  refine Pa.gfI (v := 2) (by rfl) (by rfl) (.inl rfl) (by rfl) (by show (uI (uI (uI (uI (uI yA 30 6 0) 33 0 60) 30 6 1) 33 1 30) 30 6 2).1 30 6 = 2; rw [uI_h]) ?_
  refine Pa.ic (x := 24) (pc' := 35) (by rfl) (by rfl) (by decide) ?_
  refine Pa.if2k false (by rfl) (by rfl) (by decide) ?_
  show Pa N 39 38 [(8, .int 10), (7, .int 0), (0, .ref 30), (1, .ref ya), (2, .int 0), (3, .int 0), (4, .int (yx + 1)), (5, .int yc), (6, .int 2)] [] (uI (uI (uI (uI (uI yA 30 6 0) 33 0 60) 30 6 1) 33 1 30) 30 6 2) _
  refine Pa.mp 1 (pc' := 39) (l' := [(8, .int 10), (7, .int 0), (0, .ref 30), (1, .ref ya), (2, .int 0), (3, .int 0), (4, .int (yx + 1)), (5, .int yc), (6, .int 2)]) (st' := [.ref 30]) (by rfl) ?_
  refine Pa.gfR (by rfl) (by rfl) (.inl rfl) (by rfl) ?_
  show Pa N 39 42 [(8, .int 10), (7, .int 0), (0, .ref 30), (1, .ref ya), (2, .int 0), (3, .int 0), (4, .int (yx + 1)), (5, .int yc), (6, .int 2)] [.ref 33] (uI (uI (uI (uI (uI yA 30 6 0) 33 0 60) 30 6 1) 33 1 30) 30 6 2) _
  refine Pa.mp 1 (pc' := 43) (l' := [(8, .int 10), (7, .int 0), (0, .ref 30), (1, .ref ya), (2, .int 0), (3, .int 0), (4, .int (yx + 1)), (5, .int yc), (6, .int 2)]) (st' := [.ref 30, .ref 33]) (by rfl) ?_
  refine Pa.gfI (v := 2) (by rfl) (by rfl) (.inl rfl) (by rfl) (by show (uI (uI (uI (uI (uI yA 30 6 0) 33 0 60) 30 6 1) 33 1 30) 30 6 2).1 30 6 = 2; rw [uI_h]) ?_
  refine Pa.mp 1 (pc' := 48) (l' := [(8, .int 10), (7, .int 0), (0, .ref 30), (1, .ref ya), (2, .int 0), (3, .int 0), (4, .int (yx + 1)), (5, .int yc), (6, .int 2)]) (st' := [.int 10, .int 2, .ref 33]) (by rfl) ?_
  refine Pa.asts (j' := 2) (by rfl) (by rfl) (by rfl) (fun h5 h6 => ?_)
  show Pa N 39 49 [(8, .int 10), (7, .int 0), (0, .ref 30), (1, .ref ya), (2, .int 0), (3, .int 0), (4, .int (yx + 1)), (5, .int yc), (6, .int 2)] [] (uI (uI (uI (uI (uI (uI yA 30 6 0) 33 0 60) 30 6 1) 33 1 30) 30 6 2) 33 2 10) _
  refine Pa.mp 2 (pc' := 51) (l' := [(8, .int 10), (7, .int 0), (0, .ref 30), (1, .ref ya), (2, .int 0), (3, .int 0), (4, .int (yx + 1)), (5, .int yc), (6, .int 2)]) (st' := [.ref 30, .ref 30]) (by rfl) ?_
  refine Pa.gfI (v := 2) (by rfl) (by rfl) (.inl rfl) (by rfl) (by show (uI (uI (uI (uI (uI (uI yA 30 6 0) 33 0 60) 30 6 1) 33 1 30) 30 6 2) 33 2 10).1 30 6 = 2; rw [uI_c (by decide), uI_h]) ?_
  refine Pa.ic (x := 1) (pc' := 55) (by rfl) (by rfl) (by decide) ?_
  refine Pa.mp 1 (pc' := 56) (l' := [(8, .int 10), (7, .int 0), (0, .ref 30), (1, .ref ya), (2, .int 0), (3, .int 0), (4, .int (yx + 1)), (5, .int yc), (6, .int 2)]) (st' := [.int 3, .ref 30]) (by rfl) ?_
  refine Pa.pfI (by rfl) (by rfl) (.inl rfl) (by rfl) ?_
  show Pa N 39 59 [(8, .int 10), (7, .int 0), (0, .ref 30), (1, .ref ya), (2, .int 0), (3, .int 0), (4, .int (yx + 1)), (5, .int yc), (6, .int 2)] [] (uI (uI (uI (uI (uI (uI (uI yA 30 6 0) 33 0 60) 30 6 1) 33 1 30) 30 6 2) 33 2 10) 30 6 3) _
  refine Pa.mp 1 (pc' := 61) (l' := [(8, .int 10), (7, .int 0), (0, .ref 30), (1, .ref ya), (2, .int 0), (3, .int 0), (4, .int (yx + 1)), (5, .int yc), (6, .int 2)]) (st' := [.int 0]) (by rfl) ?_
  refine Pa.ist (by rfl) (by rfl) (.inl rfl) (by rfl) (by rfl) ?_
  refine Pa.mono (c_abv0 N (uI (uI (uI (uI (uI (uI (uI yA 30 6 0) 33 0 60) 30 6 1) 33 1 30) 30 6 2) 33 2 10) 30 6 3)) (fun yu A1 hu => ?_)
  obtain ⟨rfl, hu⟩ := hu
  rw [hu]
  show Pa N 39 64 [(8, .int 10), (7, .int 0), (0, .ref 30), (1, .ref ya), (2, .int 0), (3, .int 0), (4, .int (yx + 1)), (5, .int yc), (6, .int 2)] [.int (-1)] (uI (uI (uI (uI (uI (uI (uI yA 30 6 0) 33 0 60) 30 6 1) 33 1 30) 30 6 2) 33 2 10) 30 6 3) _
  refine Pa.mp 2 (pc' := 68) (l' := [(9, .int (-1)), (8, .int 10), (7, .int 0), (0, .ref 30), (1, .ref ya), (2, .int 0), (3, .int 0), (4, .int (yx + 1)), (5, .int yc), (6, .int 2)]) (st' := [.int 2]) (by rfl) ?_
  refine Pa.ic (x := 1) (pc' := 69) (by rfl) (by rfl) (by decide) ?_
  refine Pa.mp 3 (pc' := 74) (l' := [(10, .int 3), (9, .int (-1)), (8, .int 10), (7, .int 0), (0, .ref 30), (1, .ref ya), (2, .int 0), (3, .int 0), (4, .int (yx + 1)), (5, .int yc), (6, .int 2)]) (st' := [.int 10]) (by rfl) ?_
  refine Pa.mp 1 (pc' := 164) (l' := [(10, .int 3), (9, .int (-1)), (8, .int 10), (7, .int 0), (0, .ref 30), (1, .ref ya), (2, .int 0), (3, .int 0), (4, .int (yx + 1)), (5, .int yc), (6, .int 2)]) (st' := []) (by rfl) ?_
  refine Pa.mp 3 (pc' := 169) (l' := [(10, .int 3), (9, .int (-1)), (8, .int 10), (7, .int 0), (0, .ref 30), (1, .ref ya), (2, .int 0), (3, .int 0), (4, .int (yx + 1)), (5, .int yc), (6, .int 2)]) (st' := [.int ((yx + 1) + yc)]) (by rfl) ?_
  refine Pa.iret (by rfl) ?_
  show Pa N 39 243 [(10, .int 2), (9, .int 0), (8, .int 30), (7, .int 2), (0, .ref 30), (1, .ref ya), (2, .int 0), (3, .int 2), (4, .int (yx + 1)), (5, .int yc), (6, .int 1)] [.int ((yx + 1) + yc)] (uI (uI (uI (uI (uI (uI (uI yA 30 6 0) 33 0 60) 30 6 1) 33 1 30) 30 6 2) 33 2 10) 30 6 3) _
  refine Pa.ic (x := 4) (pc' := 244) (by rfl) (by rfl) (by decide) ?_
  refine Pa.mp 1 (pc' := 245) (l' := [(10, .int 2), (9, .int 0), (8, .int 30), (7, .int 2), (0, .ref 30), (1, .ref ya), (2, .int 0), (3, .int 2), (4, .int (yx + 1)), (5, .int yc), (6, .int 1)]) (st' := [.int (((yx + 1) + yc) - 4)]) (by rfl) ?_
  refine Pa.iret (by rfl) ?_
  show Pa N 39 313 [(10, .int 1), (9, .int 2), (8, .int 60), (7, .int 5), (0, .ref 30), (1, .ref ya), (2, .int 0), (3, .int 5), (4, .int yx), (5, .int yc), (6, .int 0)] [.int (((yx + 1) + yc) - 4)] (uI (uI (uI (uI (uI (uI (uI yA 30 6 0) 33 0 60) 30 6 1) 33 1 30) 30 6 2) 33 2 10) 30 6 3) _
  refine Pa.iret (by rfl) ?_
  exact l1

theorem bpf0_6 {N : Nat} {yA : AW} {yQ : Option Value → AW → Prop} {ya : Nat} (yx yc : Int32) (yha : 129 ≤ ya) (hk : yA.1 ya 1 = 6)
    (l1 : yQ (some (.int (yx + yc))) (uI (uI (uI yA 30 6 0) 33 0 10) 30 6 1)) :
    Pa N 39 0 [(0, .ref 30), (1, .ref ya), (2, .int 0), (3, .int 6), (4, .int yx), (5, .int yc), (6, .int 0)] [] (uI yA 30 6 0) yQ := by
  refine Pa.mp 2 (pc' := 2) (l' := [(0, .ref 30), (1, .ref ya), (2, .int 0), (3, .int 6), (4, .int yx), (5, .int yc), (6, .int 0)]) (st' := [.int 6, .int 0]) (by rfl) ?_
  refine Pa.ist (by rfl) (by rfl) (.inl rfl) (by rfl) (by rfl) ?_
  refine Pa.mono (c_kwb0_6 N (uI yA 30 6 0)) (fun yu A1 hu => ?_)
  obtain ⟨rfl, hu⟩ := hu
  rw [hu]
  show Pa N 39 5 [(0, .ref 30), (1, .ref ya), (2, .int 0), (3, .int 6), (4, .int yx), (5, .int yc), (6, .int 0)] [.int 0] (uI yA 30 6 0) _
  refine Pa.mp 2 (pc' := 9) (l' := [(7, .int 0), (0, .ref 30), (1, .ref ya), (2, .int 0), (3, .int 6), (4, .int yx), (5, .int yc), (6, .int 0)]) (st' := [.int 0]) (by rfl) ?_
  refine Pa.if1k false (by rfl) (by rfl) (by decide) ?_
  show Pa N 39 12 [(7, .int 0), (0, .ref 30), (1, .ref ya), (2, .int 0), (3, .int 6), (4, .int yx), (5, .int yc), (6, .int 0)] [] (uI yA 30 6 0) _
  refine Pa.mp 1 (pc' := 14) (l' := [(7, .int 0), (0, .ref 30), (1, .ref ya), (2, .int 0), (3, .int 6), (4, .int yx), (5, .int yc), (6, .int 0)]) (st' := [.int 0]) (by rfl) ?_
  refine Pa.ic (x := 30) (pc' := 16) (by rfl) (by rfl) (by decide) ?_
  refine Pa.if2k true (by rfl) (by rfl) (by decide) ?_
  show Pa N 39 21 [(7, .int 0), (0, .ref 30), (1, .ref ya), (2, .int 0), (3, .int 6), (4, .int yx), (5, .int yc), (6, .int 0)] [] (uI yA 30 6 0) _
  refine Pa.mp 2 (pc' := 24) (l' := [(7, .int 0), (0, .ref 30), (1, .ref ya), (2, .int 0), (3, .int 6), (4, .int yx), (5, .int yc), (6, .int 0)]) (st' := [.int 0, .int 0]) (by rfl) ?_
  refine Pa.ist (by rfl) (by rfl) (.inl rfl) (by rfl) (by rfl) ?_
  refine Pa.mono (c_bod0_0 N (uI yA 30 6 0)) (fun yu A1 hu => ?_)
  obtain ⟨rfl, hu⟩ := hu
  rw [hu]
  show Pa N 39 27 [(7, .int 0), (0, .ref 30), (1, .ref ya), (2, .int 0), (3, .int 6), (4, .int yx), (5, .int yc), (6, .int 0)] [.int 10] (uI yA 30 6 0) _
  refine Pa.mp 2 (pc' := 30) (l' := [(8, .int 10), (7, .int 0), (0, .ref 30), (1, .ref ya), (2, .int 0), (3, .int 6), (4, .int yx), (5, .int yc), (6, .int 0)]) (st' := [.ref 30]) (by rfl) ?_
  refine Pa.gfI (v := 0) (by rfl) (by rfl) (.inl rfl) (by rfl) (by show (uI yA 30 6 0).1 30 6 = 0; rw [uI_h]) ?_
  refine Pa.ic (x := 24) (pc' := 35) (by rfl) (by rfl) (by decide) ?_
  refine Pa.if2k false (by rfl) (by rfl) (by decide) ?_
  show Pa N 39 38 [(8, .int 10), (7, .int 0), (0, .ref 30), (1, .ref ya), (2, .int 0), (3, .int 6), (4, .int yx), (5, .int yc), (6, .int 0)] [] (uI yA 30 6 0) _
  refine Pa.mp 1 (pc' := 39) (l' := [(8, .int 10), (7, .int 0), (0, .ref 30), (1, .ref ya), (2, .int 0), (3, .int 6), (4, .int yx), (5, .int yc), (6, .int 0)]) (st' := [.ref 30]) (by rfl) ?_
  refine Pa.gfR (by rfl) (by rfl) (.inl rfl) (by rfl) ?_
  show Pa N 39 42 [(8, .int 10), (7, .int 0), (0, .ref 30), (1, .ref ya), (2, .int 0), (3, .int 6), (4, .int yx), (5, .int yc), (6, .int 0)] [.ref 33] (uI yA 30 6 0) _
  refine Pa.mp 1 (pc' := 43) (l' := [(8, .int 10), (7, .int 0), (0, .ref 30), (1, .ref ya), (2, .int 0), (3, .int 6), (4, .int yx), (5, .int yc), (6, .int 0)]) (st' := [.ref 30, .ref 33]) (by rfl) ?_
  refine Pa.gfI (v := 0) (by rfl) (by rfl) (.inl rfl) (by rfl) (by show (uI yA 30 6 0).1 30 6 = 0; rw [uI_h]) ?_
  refine Pa.mp 1 (pc' := 48) (l' := [(8, .int 10), (7, .int 0), (0, .ref 30), (1, .ref ya), (2, .int 0), (3, .int 6), (4, .int yx), (5, .int yc), (6, .int 0)]) (st' := [.int 10, .int 0, .ref 33]) (by rfl) ?_
  refine Pa.asts (j' := 0) (by rfl) (by rfl) (by rfl) (fun h1 h2 => ?_)
  show Pa N 39 49 [(8, .int 10), (7, .int 0), (0, .ref 30), (1, .ref ya), (2, .int 0), (3, .int 6), (4, .int yx), (5, .int yc), (6, .int 0)] [] (uI (uI yA 30 6 0) 33 0 10) _
  refine Pa.mp 2 (pc' := 51) (l' := [(8, .int 10), (7, .int 0), (0, .ref 30), (1, .ref ya), (2, .int 0), (3, .int 6), (4, .int yx), (5, .int yc), (6, .int 0)]) (st' := [.ref 30, .ref 30]) (by rfl) ?_
  refine Pa.gfI (v := 0) (by rfl) (by rfl) (.inl rfl) (by rfl) (by show (uI (uI yA 30 6 0) 33 0 10).1 30 6 = 0; rw [uI_c (by decide), uI_h]) ?_
  refine Pa.ic (x := 1) (pc' := 55) (by rfl) (by rfl) (by decide) ?_
  refine Pa.mp 1 (pc' := 56) (l' := [(8, .int 10), (7, .int 0), (0, .ref 30), (1, .ref ya), (2, .int 0), (3, .int 6), (4, .int yx), (5, .int yc), (6, .int 0)]) (st' := [.int 1, .ref 30]) (by rfl) ?_
  refine Pa.pfI (by rfl) (by rfl) (.inl rfl) (by rfl) ?_
  show Pa N 39 59 [(8, .int 10), (7, .int 0), (0, .ref 30), (1, .ref ya), (2, .int 0), (3, .int 6), (4, .int yx), (5, .int yc), (6, .int 0)] [] (uI (uI (uI yA 30 6 0) 33 0 10) 30 6 1) _
  refine Pa.mp 1 (pc' := 61) (l' := [(8, .int 10), (7, .int 0), (0, .ref 30), (1, .ref ya), (2, .int 0), (3, .int 6), (4, .int yx), (5, .int yc), (6, .int 0)]) (st' := [.int 0]) (by rfl) ?_
  refine Pa.ist (by rfl) (by rfl) (.inl rfl) (by rfl) (by rfl) ?_
  refine Pa.mono (c_abv0 N (uI (uI (uI yA 30 6 0) 33 0 10) 30 6 1)) (fun yu A1 hu => ?_)
  obtain ⟨rfl, hu⟩ := hu
  rw [hu]
  show Pa N 39 64 [(8, .int 10), (7, .int 0), (0, .ref 30), (1, .ref ya), (2, .int 0), (3, .int 6), (4, .int yx), (5, .int yc), (6, .int 0)] [.int (-1)] (uI (uI (uI yA 30 6 0) 33 0 10) 30 6 1) _
  refine Pa.mp 2 (pc' := 68) (l' := [(9, .int (-1)), (8, .int 10), (7, .int 0), (0, .ref 30), (1, .ref ya), (2, .int 0), (3, .int 6), (4, .int yx), (5, .int yc), (6, .int 0)]) (st' := [.int 0]) (by rfl) ?_
  refine Pa.ic (x := 1) (pc' := 69) (by rfl) (by rfl) (by decide) ?_
  refine Pa.mp 3 (pc' := 74) (l' := [(10, .int 1), (9, .int (-1)), (8, .int 10), (7, .int 0), (0, .ref 30), (1, .ref ya), (2, .int 0), (3, .int 6), (4, .int yx), (5, .int yc), (6, .int 0)]) (st' := [.int 10]) (by rfl) ?_
  refine Pa.mp 1 (pc' := 164) (l' := [(10, .int 1), (9, .int (-1)), (8, .int 10), (7, .int 0), (0, .ref 30), (1, .ref ya), (2, .int 0), (3, .int 6), (4, .int yx), (5, .int yc), (6, .int 0)]) (st' := []) (by rfl) ?_
  refine Pa.mp 3 (pc' := 169) (l' := [(10, .int 1), (9, .int (-1)), (8, .int 10), (7, .int 0), (0, .ref 30), (1, .ref ya), (2, .int 0), (3, .int 6), (4, .int yx), (5, .int yc), (6, .int 0)]) (st' := [.int (yx + yc)]) (by rfl) ?_
  refine Pa.iret (by rfl) ?_
  exact l1

theorem bpf1_1 {N : Nat} {yA : AW} {yQ : Option Value → AW → Prop} {ya : Nat} (yx yc : Int32) (yha : 129 ≤ ya) (hk : yA.1 ya 1 = 1)
    (l1 : yQ (some (.int (((yx + yc) * 2) ^^^ 9))) (uI (uI (uI (uI (uI (uI (uI yA 30 6 0) 33 0 20) 30 6 1) 33 1 11) 30 6 2) 33 2 10) 30 6 3)) :
    Pa N 39 0 [(0, .ref 30), (1, .ref ya), (2, .int 1), (3, .int 1), (4, .int yx), (5, .int yc), (6, .int 0)] [] (uI yA 30 6 0) yQ := by
  refine Pa.mp 2 (pc' := 2) (l' := [(0, .ref 30), (1, .ref ya), (2, .int 1), (3, .int 1), (4, .int yx), (5, .int yc), (6, .int 0)]) (st' := [.int 1, .int 1]) (by rfl) ?_
  refine Pa.ist (by rfl) (by rfl) (.inl rfl) (by rfl) (by rfl) ?_
  refine Pa.mono (c_kwb1_1 N (uI yA 30 6 0)) (fun yu A1 hu => ?_)
  obtain ⟨rfl, hu⟩ := hu
  rw [hu]
  show Pa N 39 5 [(0, .ref 30), (1, .ref ya), (2, .int 1), (3, .int 1), (4, .int yx), (5, .int yc), (6, .int 0)] [.int 1] (uI yA 30 6 0) _
  refine Pa.mp 2 (pc' := 9) (l' := [(7, .int 1), (0, .ref 30), (1, .ref ya), (2, .int 1), (3, .int 1), (4, .int yx), (5, .int yc), (6, .int 0)]) (st' := [.int 1]) (by rfl) ?_
  refine Pa.if1k false (by rfl) (by rfl) (by decide) ?_
  show Pa N 39 12 [(7, .int 1), (0, .ref 30), (1, .ref ya), (2, .int 1), (3, .int 1), (4, .int yx), (5, .int yc), (6, .int 0)] [] (uI yA 30 6 0) _
  refine Pa.mp 1 (pc' := 14) (l' := [(7, .int 1), (0, .ref 30), (1, .ref ya), (2, .int 1), (3, .int 1), (4, .int yx), (5, .int yc), (6, .int 0)]) (st' := [.int 0]) (by rfl) ?_
  refine Pa.ic (x := 30) (pc' := 16) (by rfl) (by rfl) (by decide) ?_
  refine Pa.if2k true (by rfl) (by rfl) (by decide) ?_
  show Pa N 39 21 [(7, .int 1), (0, .ref 30), (1, .ref ya), (2, .int 1), (3, .int 1), (4, .int yx), (5, .int yc), (6, .int 0)] [] (uI yA 30 6 0) _
  refine Pa.mp 2 (pc' := 24) (l' := [(7, .int 1), (0, .ref 30), (1, .ref ya), (2, .int 1), (3, .int 1), (4, .int yx), (5, .int yc), (6, .int 0)]) (st' := [.int 1, .int 1]) (by rfl) ?_
  refine Pa.ist (by rfl) (by rfl) (.inl rfl) (by rfl) (by rfl) ?_
  refine Pa.mono (c_bod1_1 N (uI yA 30 6 0)) (fun yu A1 hu => ?_)
  obtain ⟨rfl, hu⟩ := hu
  rw [hu]
  show Pa N 39 27 [(7, .int 1), (0, .ref 30), (1, .ref ya), (2, .int 1), (3, .int 1), (4, .int yx), (5, .int yc), (6, .int 0)] [.int 20] (uI yA 30 6 0) _
  refine Pa.mp 2 (pc' := 30) (l' := [(8, .int 20), (7, .int 1), (0, .ref 30), (1, .ref ya), (2, .int 1), (3, .int 1), (4, .int yx), (5, .int yc), (6, .int 0)]) (st' := [.ref 30]) (by rfl) ?_
  refine Pa.gfI (v := 0) (by rfl) (by rfl) (.inl rfl) (by rfl) (by show (uI yA 30 6 0).1 30 6 = 0; rw [uI_h]) ?_
  refine Pa.ic (x := 24) (pc' := 35) (by rfl) (by rfl) (by decide) ?_
  refine Pa.if2k false (by rfl) (by rfl) (by decide) ?_
  show Pa N 39 38 [(8, .int 20), (7, .int 1), (0, .ref 30), (1, .ref ya), (2, .int 1), (3, .int 1), (4, .int yx), (5, .int yc), (6, .int 0)] [] (uI yA 30 6 0) _
  refine Pa.mp 1 (pc' := 39) (l' := [(8, .int 20), (7, .int 1), (0, .ref 30), (1, .ref ya), (2, .int 1), (3, .int 1), (4, .int yx), (5, .int yc), (6, .int 0)]) (st' := [.ref 30]) (by rfl) ?_
  refine Pa.gfR (by rfl) (by rfl) (.inl rfl) (by rfl) ?_
  show Pa N 39 42 [(8, .int 20), (7, .int 1), (0, .ref 30), (1, .ref ya), (2, .int 1), (3, .int 1), (4, .int yx), (5, .int yc), (6, .int 0)] [.ref 33] (uI yA 30 6 0) _
  refine Pa.mp 1 (pc' := 43) (l' := [(8, .int 20), (7, .int 1), (0, .ref 30), (1, .ref ya), (2, .int 1), (3, .int 1), (4, .int yx), (5, .int yc), (6, .int 0)]) (st' := [.ref 30, .ref 33]) (by rfl) ?_
  refine Pa.gfI (v := 0) (by rfl) (by rfl) (.inl rfl) (by rfl) (by show (uI yA 30 6 0).1 30 6 = 0; rw [uI_h]) ?_
  refine Pa.mp 1 (pc' := 48) (l' := [(8, .int 20), (7, .int 1), (0, .ref 30), (1, .ref ya), (2, .int 1), (3, .int 1), (4, .int yx), (5, .int yc), (6, .int 0)]) (st' := [.int 20, .int 0, .ref 33]) (by rfl) ?_
  refine Pa.asts (j' := 0) (by rfl) (by rfl) (by rfl) (fun h1 h2 => ?_)
  show Pa N 39 49 [(8, .int 20), (7, .int 1), (0, .ref 30), (1, .ref ya), (2, .int 1), (3, .int 1), (4, .int yx), (5, .int yc), (6, .int 0)] [] (uI (uI yA 30 6 0) 33 0 20) _
  refine Pa.mp 2 (pc' := 51) (l' := [(8, .int 20), (7, .int 1), (0, .ref 30), (1, .ref ya), (2, .int 1), (3, .int 1), (4, .int yx), (5, .int yc), (6, .int 0)]) (st' := [.ref 30, .ref 30]) (by rfl) ?_
  refine Pa.gfI (v := 0) (by rfl) (by rfl) (.inl rfl) (by rfl) (by show (uI (uI yA 30 6 0) 33 0 20).1 30 6 = 0; rw [uI_c (by decide), uI_h]) ?_
  refine Pa.ic (x := 1) (pc' := 55) (by rfl) (by rfl) (by decide) ?_
  refine Pa.mp 1 (pc' := 56) (l' := [(8, .int 20), (7, .int 1), (0, .ref 30), (1, .ref ya), (2, .int 1), (3, .int 1), (4, .int yx), (5, .int yc), (6, .int 0)]) (st' := [.int 1, .ref 30]) (by rfl) ?_
  refine Pa.pfI (by rfl) (by rfl) (.inl rfl) (by rfl) ?_
  show Pa N 39 59 [(8, .int 20), (7, .int 1), (0, .ref 30), (1, .ref ya), (2, .int 1), (3, .int 1), (4, .int yx), (5, .int yc), (6, .int 0)] [] (uI (uI (uI yA 30 6 0) 33 0 20) 30 6 1) _
  refine Pa.mp 1 (pc' := 61) (l' := [(8, .int 20), (7, .int 1), (0, .ref 30), (1, .ref ya), (2, .int 1), (3, .int 1), (4, .int yx), (5, .int yc), (6, .int 0)]) (st' := [.int 1]) (by rfl) ?_
  refine Pa.ist (by rfl) (by rfl) (.inl rfl) (by rfl) (by rfl) ?_
  refine Pa.mono (c_abv1 N (uI (uI (uI yA 30 6 0) 33 0 20) 30 6 1)) (fun yu A1 hu => ?_)
  obtain ⟨rfl, hu⟩ := hu
  rw [hu]
  show Pa N 39 64 [(8, .int 20), (7, .int 1), (0, .ref 30), (1, .ref ya), (2, .int 1), (3, .int 1), (4, .int yx), (5, .int yc), (6, .int 0)] [.int 0] (uI (uI (uI yA 30 6 0) 33 0 20) 30 6 1) _
  refine Pa.mp 2 (pc' := 68) (l' := [(9, .int 0), (8, .int 20), (7, .int 1), (0, .ref 30), (1, .ref ya), (2, .int 1), (3, .int 1), (4, .int yx), (5, .int yc), (6, .int 0)]) (st' := [.int 0]) (by rfl) ?_
  refine Pa.ic (x := 1) (pc' := 69) (by rfl) (by rfl) (by decide) ?_
  refine Pa.mp 3 (pc' := 74) (l' := [(10, .int 1), (9, .int 0), (8, .int 20), (7, .int 1), (0, .ref 30), (1, .ref ya), (2, .int 1), (3, .int 1), (4, .int yx), (5, .int yc), (6, .int 0)]) (st' := [.int 20]) (by rfl) ?_
  refine Pa.mp 1 (pc' := 211) (l' := [(10, .int 1), (9, .int 0), (8, .int 20), (7, .int 1), (0, .ref 30), (1, .ref ya), (2, .int 1), (3, .int 1), (4, .int yx), (5, .int yc), (6, .int 0)]) (st' := []) (by rfl) ?_
  refine Pa.mp 2 (pc' := 213) (l' := [(10, .int 1), (9, .int 0), (8, .int 20), (7, .int 1), (0, .ref 30), (1, .ref ya), (2, .int 1), (3, .int 1), (4, .int yx), (5, .int yc), (6, .int 0)]) (st' := [.ref ya, .ref 30]) (by rfl) ?_
  refine Pa.ic (x := 1) (pc' := 214) (by rfl) (by rfl) (by decide) ?_
  refine Pa.mp 4 (pc' := 222) (l' := [(10, .int 1), (9, .int 0), (8, .int 20), (7, .int 1), (0, .ref 30), (1, .ref ya), (2, .int 1), (3, .int 1), (4, .int yx), (5, .int yc), (6, .int 0)]) (st' := [.int 1, .int yc, .int yx, .int 0, .int 1, .ref ya, .ref 30]) (by rfl) ?_
  refine Pa.inv (by rfl) (by rfl) (.inl rfl) (by rfl) ?_
  show Pa N 39 0 [(0, .ref 30), (1, .ref ya), (2, .int 1), (3, .int 0), (4, .int yx), (5, .int yc), (6, .int 1)] [] (uI (uI (uI yA 30 6 0) 33 0 20) 30 6 1) _
  refine Pa.mp 2 (pc' := 2) (l' := [(0, .ref 30), (1, .ref ya), (2, .int 1), (3, .int 0), (4, .int yx), (5, .int yc), (6, .int 1)]) (st' := [.int 0, .int 1]) (by rfl) ?_
  refine Pa.ist (by rfl) (by rfl) (.inl rfl) (by rfl) (by rfl) ?_
  refine Pa.mono (c_kwb1_0 N (uI (uI (uI yA 30 6 0) 33 0 20) 30 6 1)) (fun yu A1 hu => ?_)
  obtain ⟨rfl, hu⟩ := hu
  rw [hu]
  show Pa N 39 5 [(0, .ref 30), (1, .ref ya), (2, .int 1), (3, .int 0), (4, .int yx), (5, .int yc), (6, .int 1)] [.int 0] (uI (uI (uI yA 30 6 0) 33 0 20) 30 6 1) _
  refine Pa.mp 2 (pc' := 9) (l' := [(7, .int 0), (0, .ref 30), (1, .ref ya), (2, .int 1), (3, .int 0), (4, .int yx), (5, .int yc), (6, .int 1)]) (st' := [.int 0]) (by rfl) ?_
  refine Pa.if1k false (by rfl) (by rfl) (by decide) ?_
  show Pa N 39 12 [(7, .int 0), (0, .ref 30), (1, .ref ya), (2, .int 1), (3, .int 0), (4, .int yx), (5, .int yc), (6, .int 1)] [] (uI (uI (uI yA 30 6 0) 33 0 20) 30 6 1) _
  refine Pa.mp 1 (pc' := 14) (l' := [(7, .int 0), (0, .ref 30), (1, .ref ya), (2, .int 1), (3, .int 0), (4, .int yx), (5, .int yc), (6, .int 1)]) (st' := [.int 1]) (by rfl) ?_
  refine Pa.ic (x := 30) (pc' := 16) (by rfl) (by rfl) (by decide) ?_
  refine Pa.if2k true (by rfl) (by rfl) (by decide) ?_
  show Pa N 39 21 [(7, .int 0), (0, .ref 30), (1, .ref ya), (2, .int 1), (3, .int 0), (4, .int yx), (5, .int yc), (6, .int 1)] [] (uI (uI (uI yA 30 6 0) 33 0 20) 30 6 1) _
  refine Pa.mp 2 (pc' := 24) (l' := [(7, .int 0), (0, .ref 30), (1, .ref ya), (2, .int 1), (3, .int 0), (4, .int yx), (5, .int yc), (6, .int 1)]) (st' := [.int 0, .int 1]) (by rfl) ?_
  refine Pa.ist (by rfl) (by rfl) (.inl rfl) (by rfl) (by rfl) ?_
  refine Pa.mono (c_bod1_0 N (uI (uI (uI yA 30 6 0) 33 0 20) 30 6 1)) (fun yu A1 hu => ?_)
  obtain ⟨rfl, hu⟩ := hu
  rw [hu]
  show Pa N 39 27 [(7, .int 0), (0, .ref 30), (1, .ref ya), (2, .int 1), (3, .int 0), (4, .int yx), (5, .int yc), (6, .int 1)] [.int 11] (uI (uI (uI yA 30 6 0) 33 0 20) 30 6 1) _
  refine Pa.mp 2 (pc' := 30) (l' := [(8, .int 11), (7, .int 0), (0, .ref 30), (1, .ref ya), (2, .int 1), (3, .int 0), (4, .int yx), (5, .int yc), (6, .int 1)]) (st' := [.ref 30]) (by rfl) ?_
  refine Pa.gfI (v := 1) (by rfl) (by rfl) (.inl rfl) (by rfl) (by show (uI (uI (uI yA 30 6 0) 33 0 20) 30 6 1).1 30 6 = 1; rw [uI_h]) ?_
  refine Pa.ic (x := 24) (pc' := 35) (by rfl) (by rfl) (by decide) ?_
  refine Pa.if2k false (by rfl) (by rfl) (by decide) ?_
  show Pa N 39 38 [(8, .int 11), (7, .int 0), (0, .ref 30), (1, .ref ya), (2, .int 1), (3, .int 0), (4, .int yx), (5, .int yc), (6, .int 1)] [] (uI (uI (uI yA 30 6 0) 33 0 20) 30 6 1) _
  refine Pa.mp 1 (pc' := 39) (l' := [(8, .int 11), (7, .int 0), (0, .ref 30), (1, .ref ya), (2, .int 1), (3, .int 0), (4, .int yx), (5, .int yc), (6, .int 1)]) (st' := [.ref 30]) (by rfl) ?_
  refine Pa.gfR (by rfl) (by rfl) (.inl rfl) (by rfl) ?_
  show Pa N 39 42 [(8, .int 11), (7, .int 0), (0, .ref 30), (1, .ref ya), (2, .int 1), (3, .int 0), (4, .int yx), (5, .int yc), (6, .int 1)] [.ref 33] (uI (uI (uI yA 30 6 0) 33 0 20) 30 6 1) _
  refine Pa.mp 1 (pc' := 43) (l' := [(8, .int 11), (7, .int 0), (0, .ref 30), (1, .ref ya), (2, .int 1), (3, .int 0), (4, .int yx), (5, .int yc), (6, .int 1)]) (st' := [.ref 30, .ref 33]) (by rfl) ?_
  refine Pa.gfI (v := 1) (by rfl) (by rfl) (.inl rfl) (by rfl) (by show (uI (uI (uI yA 30 6 0) 33 0 20) 30 6 1).1 30 6 = 1; rw [uI_h]) ?_
  refine Pa.mp 1 (pc' := 48) (l' := [(8, .int 11), (7, .int 0), (0, .ref 30), (1, .ref ya), (2, .int 1), (3, .int 0), (4, .int yx), (5, .int yc), (6, .int 1)]) (st' := [.int 11, .int 1, .ref 33]) (by rfl) ?_
  refine Pa.asts (j' := 1) (by rfl) (by rfl) (by rfl) (fun h3 h4 => ?_)
  show Pa N 39 49 [(8, .int 11), (7, .int 0), (0, .ref 30), (1, .ref ya), (2, .int 1), (3, .int 0), (4, .int yx), (5, .int yc), (6, .int 1)] [] (uI (uI (uI (uI yA 30 6 0) 33 0 20) 30 6 1) 33 1 11) _
  refine Pa.mp 2 (pc' := 51) (l' := [(8, .int 11), (7, .int 0), (0, .ref 30), (1, .ref ya), (2, .int 1), (3, .int 0), (4, .int yx), (5, .int yc), (6, .int 1)]) (st' := [.ref 30, .ref 30]) (by rfl) ?_
  refine Pa.gfI (v := 1) (by rfl) (by rfl) (.inl rfl) (by rfl) (by show (uI (uI (uI (uI yA 30 6 0) 33 0 20) 30 6 1) 33 1 11).1 30 6 = 1; rw [uI_c (by decide), uI_h]) ?_
  refine Pa.ic (x := 1) (pc' := 55) (by rfl) (by rfl) (by decide) ?_
  refine Pa.mp 1 (pc' := 56) (l' := [(8, .int 11), (7, .int 0), (0, .ref 30), (1, .ref ya), (2, .int 1), (3, .int 0), (4, .int yx), (5, .int yc), (6, .int 1)]) (st' := [.int 2, .ref 30]) (by rfl) ?_
  refine Pa.pfI (by rfl) (by rfl) (.inl rfl) (by rfl) ?_
  show Pa N 39 59 [(8, .int 11), (7, .int 0), (0, .ref 30), (1, .ref ya), (2, .int 1), (3, .int 0), (4, .int yx), (5, .int yc), (6, .int 1)] [] (uI (uI (uI (uI (uI yA 30 6 0) 33 0 20) 30 6 1) 33 1 11) 30 6 2) _
  refine Pa.mp 1 (pc' := 61) (l' := [(8, .int 11), (7, .int 0), (0, .ref 30), (1, .ref ya), (2, .int 1), (3, .int 0), (4, .int yx), (5, .int yc), (6, .int 1)]) (st' := [.int 0]) (by rfl) ?_
  refine Pa.ist (by rfl) (by rfl) (.inl rfl) (by rfl) (by rfl) ?_
  refine Pa.mono (c_abv0 N (uI (uI (uI (uI (uI yA 30 6 0) 33 0 20) 30 6 1) 33 1 11) 30 6 2)) (fun yu A1 hu => ?_)
  obtain ⟨rfl, hu⟩ := hu
  rw [hu]
  show Pa N 39 64 [(8, .int 11), (7, .int 0), (0, .ref 30), (1, .ref ya), (2, .int 1), (3, .int 0), (4, .int yx), (5, .int yc), (6, .int 1)] [.int (-1)] (uI (uI (uI (uI (uI yA 30 6 0) 33 0 20) 30 6 1) 33 1 11) 30 6 2) _
  refine Pa.mp 2 (pc' := 68) (l' := [(9, .int (-1)), (8, .int 11), (7, .int 0), (0, .ref 30), (1, .ref ya), (2, .int 1), (3, .int 0), (4, .int yx), (5, .int yc), (6, .int 1)]) (st' := [.int 1]) (by rfl) ?_
  refine Pa.ic (x := 1) (pc' := 69) (by rfl) (by rfl) (by decide) ?_
  refine Pa.mp 3 (pc' := 74) (l' := [(10, .int 2), (9, .int (-1)), (8, .int 11), (7, .int 0), (0, .ref 30), (1, .ref ya), (2, .int 1), (3, .int 0), (4, .int yx), (5, .int yc), (6, .int 1)]) (st' := [.int 11]) (by rfl) ?_
  refine Pa.mp 1 (pc' := 170) (l' := [(10, .int 2), (9, .int (-1)), (8, .int 11), (7, .int 0), (0, .ref 30), (1, .ref ya), (2, .int 1), (3, .int 0), (4, .int yx), (5, .int yc), (6, .int 1)]) (st' := []) (by rfl) ?_
  refine Pa.mp 2 (pc' := 172) (l' := [(10, .int 2), (9, .int (-1)), (8, .int 11), (7, .int 0), (0, .ref 30), (1, .ref ya), (2, .int 1), (3, .int 0), (4, .int yx), (5, .int yc), (6, .int 1)]) (st' := [.ref ya, .ref 30]) (by rfl) ?_
  refine Pa.ic (x := 0) (pc' := 173) (by rfl) (by rfl) (by decide) ?_
  refine Pa.mp 1 (pc' := 174) (l' := [(10, .int 2), (9, .int (-1)), (8, .int 11), (7, .int 0), (0, .ref 30), (1, .ref ya), (2, .int 1), (3, .int 0), (4, .int yx), (5, .int yc), (6, .int 1)]) (st' := [.ref ya, .int 0, .ref ya, .ref 30]) (by rfl) ?_
  refine Pa.gfI (v := 1) (by rfl) (by rfl) (.inr rfl) (by rfl) (by show (uI (uI (uI (uI (uI yA 30 6 0) 33 0 20) 30 6 1) 33 1 11) 30 6 2).1 ya 1 = 1; rw [uI_c (by omega), uI_c (by omega), uI_c (by omega), uI_c (by omega), uI_c (by omega), hk]) ?_
  refine Pa.mp 3 (pc' := 183) (l' := [(10, .int 2), (9, .int (-1)), (8, .int 11), (7, .int 0), (0, .ref 30), (1, .ref ya), (2, .int 1), (3, .int 0), (4, .int yx), (5, .int yc), (6, .int 1)]) (st' := [.int 2, .int yc, .int yx, .int 1, .int 0, .ref ya, .ref 30]) (by rfl) ?_
  refine Pa.inv (by rfl) (by rfl) (.inl rfl) (by rfl) ?_
  show Pa N 39 0 [(0, .ref 30), (1, .ref ya), (2, .int 0), (3, .int 1), (4, .int yx), (5, .int yc), (6, .int 2)] [] (uI (uI (uI (uI (uI yA 30 6 0) 33 0 20) 30 6 1) 33 1 11) 30 6 2) _
  refine Pa.mp 2 (pc' := 2) (l' := [(0, .ref 30), (1, .ref ya), (2, .int 0), (3, .int 1), (4, .int yx), (5, .int yc), (6, .int 2)]) (st' := [.int 1, .int 0]) (by rfl) ?_
  refine Pa.ist (by rfl) (by rfl) (.inl rfl) (by rfl) (by rfl) ?_
  refine Pa.mono (c_kwb0_1 N (uI (uI (uI (uI (uI yA 30 6 0) 33 0 20) 30 6 1) 33 1 11) 30 6 2)) (fun yu A1 hu => ?_)
  obtain ⟨rfl, hu⟩ := hu
  rw [hu]
  show Pa N 39 5 [(0, .ref 30), (1, .ref ya), (2, .int 0), (3, .int 1), (4, .int yx), (5, .int yc), (6, .int 2)] [.int 0] (uI (uI (uI (uI (uI yA 30 6 0) 33 0 20) 30 6 1) 33 1 11) 30 6 2) _
  refine Pa.mp 2 (pc' := 9) (l' := [(7, .int 0), (0, .ref 30), (1, .ref ya), (2, .int 0), (3, .int 1), (4, .int yx), (5, .int yc), (6, .int 2)]) (st' := [.int 0]) (by rfl) ?_
  refine Pa.if1k false (by rfl) (by rfl) (by decide) ?_
  show Pa N 39 12 [(7, .int 0), (0, .ref 30), (1, .ref ya), (2, .int 0), (3, .int 1), (4, .int yx), (5, .int yc), (6, .int 2)] [] (uI (uI (uI (uI (uI yA 30 6 0) 33 0 20) 30 6 1) 33 1 11) 30 6 2) _
  refine Pa.mp 1 (pc' := 14) (l' := [(7, .int 0), (0, .ref 30), (1, .ref ya), (2, .int 0), (3, .int 1), (4, .int yx), (5, .int yc), (6, .int 2)]) (st' := [.int 2]) (by rfl) ?_
  refine Pa.ic (x := 30) (pc' := 16) (by rfl) (by rfl) (by decide) ?_
  refine Pa.if2k true (by rfl) (by rfl) (by decide) ?_
  show Pa N 39 21 [(7, .int 0), (0, .ref 30), (1, .ref ya), (2, .int 0), (3, .int 1), (4, .int yx), (5, .int yc), (6, .int 2)] [] (uI (uI (uI (uI (uI yA 30 6 0) 33 0 20) 30 6 1) 33 1 11) 30 6 2) _
  refine Pa.mp 2 (pc' := 24) (l' := [(7, .int 0), (0, .ref 30), (1, .ref ya), (2, .int 0), (3, .int 1), (4, .int yx), (5, .int yc), (6, .int 2)]) (st' := [.int 0, .int 0]) (by rfl) ?_
  refine Pa.ist (by rfl) (by rfl) (.inl rfl) (by rfl) (by rfl) ?_
  refine Pa.mono (c_bod0_0 N (uI (uI (uI (uI (uI yA 30 6 0) 33 0 20) 30 6 1) 33 1 11) 30 6 2)) (fun yu A1 hu => ?_)
  obtain ⟨rfl, hu⟩ := hu
  rw [hu]
  show Pa N 39 27 [(7, .int 0), (0, .ref 30), (1, .ref ya), (2, .int 0), (3, .int 1), (4, .int yx), (5, .int yc), (6, .int 2)] [.int 10] (uI (uI (uI (uI (uI yA 30 6 0) 33 0 20) 30 6 1) 33 1 11) 30 6 2) _
  refine Pa.mp 2 (pc' := 30) (l' := [(8, .int 10), (7, .int 0), (0, .ref 30), (1, .ref ya), (2, .int 0), (3, .int 1), (4, .int yx), (5, .int yc), (6, .int 2)]) (st' := [.ref 30]) (by rfl) ?_
  refine Pa.gfI (v := 2) (by rfl) (by rfl) (.inl rfl) (by rfl) (by show (uI (uI (uI (uI (uI yA 30 6 0) 33 0 20) 30 6 1) 33 1 11) 30 6 2).1 30 6 = 2; rw [uI_h]) ?_
  refine Pa.ic (x := 24) (pc' := 35) (by rfl) (by rfl) (by decide) ?_
  refine Pa.if2k false (by rfl) (by rfl) (by decide) ?_
  show Pa N 39 38 [(8, .int 10), (7, .int 0), (0, .ref 30), (1, .ref ya), (2, .int 0), (3, .int 1), (4, .int yx), (5, .int yc), (6, .int 2)] [] (uI (uI (uI (uI (uI yA 30 6 0) 33 0 20) 30 6 1) 33 1 11) 30 6 2) _
  refine Pa.mp 1 (pc' := 39) (l' := [(8, .int 10), (7, .int 0), (0, .ref 30), (1, .ref ya), (2, .int 0), (3, .int 1), (4, .int yx), (5, .int yc), (6, .int 2)]) (st' := [.ref 30]) (by rfl) ?_
  refine Pa.gfR (by rfl) (by rfl) (.inl rfl) (by rfl) ?_
  show Pa N 39 42 [(8, .int 10), (7, .int 0), (0, .ref 30), (1, .ref ya), (2, .int 0), (3, .int 1), (4, .int yx), (5, .int yc), (6, .int 2)] [.ref 33] (uI (uI (uI (uI (uI yA 30 6 0) 33 0 20) 30 6 1) 33 1 11) 30 6 2) _
  refine Pa.mp 1 (pc' := 43) (l' := [(8, .int 10), (7, .int 0), (0, .ref 30), (1, .ref ya), (2, .int 0), (3, .int 1), (4, .int yx), (5, .int yc), (6, .int 2)]) (st' := [.ref 30, .ref 33]) (by rfl) ?_
  refine Pa.gfI (v := 2) (by rfl) (by rfl) (.inl rfl) (by rfl) (by show (uI (uI (uI (uI (uI yA 30 6 0) 33 0 20) 30 6 1) 33 1 11) 30 6 2).1 30 6 = 2; rw [uI_h]) ?_
  refine Pa.mp 1 (pc' := 48) (l' := [(8, .int 10), (7, .int 0), (0, .ref 30), (1, .ref ya), (2, .int 0), (3, .int 1), (4, .int yx), (5, .int yc), (6, .int 2)]) (st' := [.int 10, .int 2, .ref 33]) (by rfl) ?_
  refine Pa.asts (j' := 2) (by rfl) (by rfl) (by rfl) (fun h5 h6 => ?_)
  show Pa N 39 49 [(8, .int 10), (7, .int 0), (0, .ref 30), (1, .ref ya), (2, .int 0), (3, .int 1), (4, .int yx), (5, .int yc), (6, .int 2)] [] (uI (uI (uI (uI (uI (uI yA 30 6 0) 33 0 20) 30 6 1) 33 1 11) 30 6 2) 33 2 10) _
  refine Pa.mp 2 (pc' := 51) (l' := [(8, .int 10), (7, .int 0), (0, .ref 30), (1, .ref ya), (2, .int 0), (3, .int 1), (4, .int yx), (5, .int yc), (6, .int 2)]) (st' := [.ref 30, .ref 30]) (by rfl) ?_
  refine Pa.gfI (v := 2) (by rfl) (by rfl) (.inl rfl) (by rfl) (by show (uI (uI (uI (uI (uI (uI yA 30 6 0) 33 0 20) 30 6 1) 33 1 11) 30 6 2) 33 2 10).1 30 6 = 2; rw [uI_c (by decide), uI_h]) ?_
  refine Pa.ic (x := 1) (pc' := 55) (by rfl) (by rfl) (by decide) ?_
  refine Pa.mp 1 (pc' := 56) (l' := [(8, .int 10), (7, .int 0), (0, .ref 30), (1, .ref ya), (2, .int 0), (3, .int 1), (4, .int yx), (5, .int yc), (6, .int 2)]) (st' := [.int 3, .ref 30]) (by rfl) ?_
  refine Pa.pfI (by rfl) (by rfl) (.inl rfl) (by rfl) ?_
  show Pa N 39 59 [(8, .int 10), (7, .int 0), (0, .ref 30), (1, .ref ya), (2, .int 0), (3, .int 1), (4, .int yx), (5, .int yc), (6, .int 2)] [] (uI (uI (uI (uI (uI (uI (uI yA 30 6 0) 33 0 20) 30 6 1) 33 1 11) 30 6 2) 33 2 10) 30 6 3) _
  refine Pa.mp 1 (pc' := 61) (l' := [(8, .int 10), (7, .int 0), (0, .ref 30), (1, .ref ya), (2, .int 0), (3, .int 1), (4, .int yx), (5, .int yc), (6, .int 2)]) (st' := [.int 0]) (by rfl) ?_
  refine Pa.ist (by rfl) (by rfl) (.inl rfl) (by rfl) (by rfl) ?_
  refine Pa.mono (c_abv0 N (uI (uI (uI (uI (uI (uI (uI yA 30 6 0) 33 0 20) 30 6 1) 33 1 11) 30 6 2) 33 2 10) 30 6 3)) (fun yu A1 hu => ?_)
  obtain ⟨rfl, hu⟩ := hu
  rw [hu]
  show Pa N 39 64 [(8, .int 10), (7, .int 0), (0, .ref 30), (1, .ref ya), (2, .int 0), (3, .int 1), (4, .int yx), (5, .int yc), (6, .int 2)] [.int (-1)] (uI (uI (uI (uI (uI (uI (uI yA 30 6 0) 33 0 20) 30 6 1) 33 1 11) 30 6 2) 33 2 10) 30 6 3) _
  refine Pa.mp 2 (pc' := 68) (l' := [(9, .int (-1)), (8, .int 10), (7, .int 0), (0, .ref 30), (1, .ref ya), (2, .int 0), (3, .int 1), (4, .int yx), (5, .int yc), (6, .int 2)]) (st' := [.int 2]) (by rfl) ?_
  refine Pa.ic (x := 1) (pc' := 69) (by rfl) (by rfl) (by decide) ?_
  refine Pa.mp 3 (pc' := 74) (l' := [(10, .int 3), (9, .int (-1)), (8, .int 10), (7, .int 0), (0, .ref 30), (1, .ref ya), (2, .int 0), (3, .int 1), (4, .int yx), (5, .int yc), (6, .int 2)]) (st' := [.int 10]) (by rfl) ?_
  refine Pa.mp 1 (pc' := 164) (l' := [(10, .int 3), (9, .int (-1)), (8, .int 10), (7, .int 0), (0, .ref 30), (1, .ref ya), (2, .int 0), (3, .int 1), (4, .int yx), (5, .int yc), (6, .int 2)]) (st' := []) (by rfl) ?_
  refine Pa.mp 3 (pc' := 169) (l' := [(10, .int 3), (9, .int (-1)), (8, .int 10), (7, .int 0), (0, .ref 30), (1, .ref ya), (2, .int 0), (3, .int 1), (4, .int yx), (5, .int yc), (6, .int 2)]) (st' := [.int (yx + yc)]) (by rfl) ?_
  refine Pa.iret (by rfl) ?_
  show Pa N 39 186 [(10, .int 2), (9, .int (-1)), (8, .int 11), (7, .int 0), (0, .ref 30), (1, .ref ya), (2, .int 1), (3, .int 0), (4, .int yx), (5, .int yc), (6, .int 1)] [.int (yx + yc)] (uI (uI (uI (uI (uI (uI (uI yA 30 6 0) 33 0 20) 30 6 1) 33 1 11) 30 6 2) 33 2 10) 30 6 3) _
  refine Pa.ic (x := 2) (pc' := 187) (by rfl) (by rfl) (by decide) ?_
  refine Pa.mp 1 (pc' := 188) (l' := [(10, .int 2), (9, .int (-1)), (8, .int 11), (7, .int 0), (0, .ref 30), (1, .ref ya), (2, .int 1), (3, .int 0), (4, .int yx), (5, .int yc), (6, .int 1)]) (st' := [.int ((yx + yc) * 2)]) (by rfl) ?_
  refine Pa.iret (by rfl) ?_
  show Pa N 39 225 [(10, .int 1), (9, .int 0), (8, .int 20), (7, .int 1), (0, .ref 30), (1, .ref ya), (2, .int 1), (3, .int 1), (4, .int yx), (5, .int yc), (6, .int 0)] [.int ((yx + yc) * 2)] (uI (uI (uI (uI (uI (uI (uI yA 30 6 0) 33 0 20) 30 6 1) 33 1 11) 30 6 2) 33 2 10) 30 6 3) _
  refine Pa.ic (x := 9) (pc' := 227) (by rfl) (by rfl) (by decide) ?_
  refine Pa.mp 1 (pc' := 228) (l' := [(10, .int 1), (9, .int 0), (8, .int 20), (7, .int 1), (0, .ref 30), (1, .ref ya), (2, .int 1), (3, .int 1), (4, .int yx), (5, .int yc), (6, .int 0)]) (st' := [.int (((yx + yc) * 2) ^^^ 9)]) (by rfl) ?_
  refine Pa.iret (by rfl) ?_
  exact l1

theorem bpf1_2 {N : Nat} {yA : AW} {yQ : Option Value → AW → Prop} {ya : Nat} (yx yc : Int32) (yha : 129 ≤ ya) (hk : yA.1 ya 1 = 2)
    (l1 : yQ (some (.int (((yx + yc) - 4) * 2))) (uI (uI (uI (uI (uI (uI (uI yA 30 6 0) 33 0 11) 30 6 1) 33 1 30) 30 6 2) 33 2 10) 30 6 3)) :
    Pa N 39 0 [(0, .ref 30), (1, .ref ya), (2, .int 1), (3, .int 2), (4, .int yx), (5, .int yc), (6, .int 0)] [] (uI yA 30 6 0) yQ := by
  refine Pa.mp 2 (pc' := 2) (l' := [(0, .ref 30), (1, .ref ya), (2, .int 1), (3, .int 2), (4, .int yx), (5, .int yc), (6, .int 0)]) (st' := [.int 2, .int 1]) (by rfl) ?_
  refine Pa.ist (by rfl) (by rfl) (.inl rfl) (by rfl) (by rfl) ?_
  refine Pa.mono (c_kwb1_2 N (uI yA 30 6 0)) (fun yu A1 hu => ?_)
  obtain ⟨rfl, hu⟩ := hu
  rw [hu]
  show Pa N 39 5 [(0, .ref 30), (1, .ref ya), (2, .int 1), (3, .int 2), (4, .int yx), (5, .int yc), (6, .int 0)] [.int 0] (uI yA 30 6 0) _
  refine Pa.mp 2 (pc' := 9) (l' := [(7, .int 0), (0, .ref 30), (1, .ref ya), (2, .int 1), (3, .int 2), (4, .int yx), (5, .int yc), (6, .int 0)]) (st' := [.int 0]) (by rfl) ?_
  refine Pa.if1k false (by rfl) (by rfl) (by decide) ?_
  show Pa N 39 12 [(7, .int 0), (0, .ref 30), (1, .ref ya), (2, .int 1), (3, .int 2), (4, .int yx), (5, .int yc), (6, .int 0)] [] (uI yA 30 6 0) _
  refine Pa.mp 1 (pc' := 14) (l' := [(7, .int 0), (0, .ref 30), (1, .ref ya), (2, .int 1), (3, .int 2), (4, .int yx), (5, .int yc), (6, .int 0)]) (st' := [.int 0]) (by rfl) ?_
  refine Pa.ic (x := 30) (pc' := 16) (by rfl) (by rfl) (by decide) ?_
  refine Pa.if2k true (by rfl) (by rfl) (by decide) ?_
  show Pa N 39 21 [(7, .int 0), (0, .ref 30), (1, .ref ya), (2, .int 1), (3, .int 2), (4, .int yx), (5, .int yc), (6, .int 0)] [] (uI yA 30 6 0) _
  refine Pa.mp 2 (pc' := 24) (l' := [(7, .int 0), (0, .ref 30), (1, .ref ya), (2, .int 1), (3, .int 2), (4, .int yx), (5, .int yc), (6, .int 0)]) (st' := [.int 0, .int 1]) (by rfl) ?_
  refine Pa.ist (by rfl) (by rfl) (.inl rfl) (by rfl) (by rfl) ?_
  refine Pa.mono (c_bod1_0 N (uI yA 30 6 0)) (fun yu A1 hu => ?_)
  obtain ⟨rfl, hu⟩ := hu
  rw [hu]
  show Pa N 39 27 [(7, .int 0), (0, .ref 30), (1, .ref ya), (2, .int 1), (3, .int 2), (4, .int yx), (5, .int yc), (6, .int 0)] [.int 11] (uI yA 30 6 0) _
  refine Pa.mp 2 (pc' := 30) (l' := [(8, .int 11), (7, .int 0), (0, .ref 30), (1, .ref ya), (2, .int 1), (3, .int 2), (4, .int yx), (5, .int yc), (6, .int 0)]) (st' := [.ref 30]) (by rfl) ?_
  refine Pa.gfI (v := 0) (by rfl) (by rfl) (.inl rfl) (by rfl) (by show (uI yA 30 6 0).1 30 6 = 0; rw [uI_h]) ?_
  refine Pa.ic (x := 24) (pc' := 35) (by rfl) (by rfl) (by decide) ?_
  refine Pa.if2k false (by rfl) (by rfl) (by decide) ?_
  show Pa N 39 38 [(8, .int 11), (7, .int 0), (0, .ref 30), (1, .ref ya), (2, .int 1), (3, .int 2), (4, .int yx), (5, .int yc), (6, .int 0)] [] (uI yA 30 6 0) _
  refine Pa.mp 1 (pc' := 39) (l' := [(8, .int 11), (7, .int 0), (0, .ref 30), (1, .ref ya), (2, .int 1), (3, .int 2), (4, .int yx), (5, .int yc), (6, .int 0)]) (st' := [.ref 30]) (by rfl) ?_
  refine Pa.gfR (by rfl) (by rfl) (.inl rfl) (by rfl) ?_
  show Pa N 39 42 [(8, .int 11), (7, .int 0), (0, .ref 30), (1, .ref ya), (2, .int 1), (3, .int 2), (4, .int yx), (5, .int yc), (6, .int 0)] [.ref 33] (uI yA 30 6 0) _
  refine Pa.mp 1 (pc' := 43) (l' := [(8, .int 11), (7, .int 0), (0, .ref 30), (1, .ref ya), (2, .int 1), (3, .int 2), (4, .int yx), (5, .int yc), (6, .int 0)]) (st' := [.ref 30, .ref 33]) (by rfl) ?_
  refine Pa.gfI (v := 0) (by rfl) (by rfl) (.inl rfl) (by rfl) (by show (uI yA 30 6 0).1 30 6 = 0; rw [uI_h]) ?_
  refine Pa.mp 1 (pc' := 48) (l' := [(8, .int 11), (7, .int 0), (0, .ref 30), (1, .ref ya), (2, .int 1), (3, .int 2), (4, .int yx), (5, .int yc), (6, .int 0)]) (st' := [.int 11, .int 0, .ref 33]) (by rfl) ?_
  refine Pa.asts (j' := 0) (by rfl) (by rfl) (by rfl) (fun h1 h2 => ?_)
  show Pa N 39 49 [(8, .int 11), (7, .int 0), (0, .ref 30), (1, .ref ya), (2, .int 1), (3, .int 2), (4, .int yx), (5, .int yc), (6, .int 0)] [] (uI (uI yA 30 6 0) 33 0 11) _
  refine Pa.mp 2 (pc' := 51) (l' := [(8, .int 11), (7, .int 0), (0, .ref 30), (1, .ref ya), (2, .int 1), (3, .int 2), (4, .int yx), (5, .int yc), (6, .int 0)]) (st' := [.ref 30, .ref 30]) (by rfl) ?_
  refine Pa.gfI (v := 0) (by rfl) (by rfl) (.inl rfl) (by rfl) (by show (uI (uI yA 30 6 0) 33 0 11).1 30 6 = 0; rw [uI_c (by decide), uI_h]) ?_
  refine Pa.ic (x := 1) (pc' := 55) (by rfl) (by rfl) (by decide) ?_
  refine Pa.mp 1 (pc' := 56) (l' := [(8, .int 11), (7, .int 0), (0, .ref 30), (1, .ref ya), (2, .int 1), (3, .int 2), (4, .int yx), (5, .int yc), (6, .int 0)]) (st' := [.int 1, .ref 30]) (by rfl) ?_
  refine Pa.pfI (by rfl) (by rfl) (.inl rfl) (by rfl) ?_
  show Pa N 39 59 [(8, .int 11), (7, .int 0), (0, .ref 30), (1, .ref ya), (2, .int 1), (3, .int 2), (4, .int yx), (5, .int yc), (6, .int 0)] [] (uI (uI (uI yA 30 6 0) 33 0 11) 30 6 1) _
  refine Pa.mp 1 (pc' := 61) (l' := [(8, .int 11), (7, .int 0), (0, .ref 30), (1, .ref ya), (2, .int 1), (3, .int 2), (4, .int yx), (5, .int yc), (6, .int 0)]) (st' := [.int 0]) (by rfl) ?_
  refine Pa.ist (by rfl) (by rfl) (.inl rfl) (by rfl) (by rfl) ?_
  refine Pa.mono (c_abv0 N (uI (uI (uI yA 30 6 0) 33 0 11) 30 6 1)) (fun yu A1 hu => ?_)
  obtain ⟨rfl, hu⟩ := hu
  rw [hu]
  show Pa N 39 64 [(8, .int 11), (7, .int 0), (0, .ref 30), (1, .ref ya), (2, .int 1), (3, .int 2), (4, .int yx), (5, .int yc), (6, .int 0)] [.int (-1)] (uI (uI (uI yA 30 6 0) 33 0 11) 30 6 1) _
  refine Pa.mp 2 (pc' := 68) (l' := [(9, .int (-1)), (8, .int 11), (7, .int 0), (0, .ref 30), (1, .ref ya), (2, .int 1), (3, .int 2), (4, .int yx), (5, .int yc), (6, .int 0)]) (st' := [.int 0]) (by rfl) ?_
  refine Pa.ic (x := 1) (pc' := 69) (by rfl) (by rfl) (by decide) ?_
  refine Pa.mp 3 (pc' := 74) (l' := [(10, .int 1), (9, .int (-1)), (8, .int 11), (7, .int 0), (0, .ref 30), (1, .ref ya), (2, .int 1), (3, .int 2), (4, .int yx), (5, .int yc), (6, .int 0)]) (st' := [.int 11]) (by rfl) ?_
  refine Pa.mp 1 (pc' := 170) (l' := [(10, .int 1), (9, .int (-1)), (8, .int 11), (7, .int 0), (0, .ref 30), (1, .ref ya), (2, .int 1), (3, .int 2), (4, .int yx), (5, .int yc), (6, .int 0)]) (st' := []) (by rfl) ?_
  refine Pa.mp 2 (pc' := 172) (l' := [(10, .int 1), (9, .int (-1)), (8, .int 11), (7, .int 0), (0, .ref 30), (1, .ref ya), (2, .int 1), (3, .int 2), (4, .int yx), (5, .int yc), (6, .int 0)]) (st' := [.ref ya, .ref 30]) (by rfl) ?_
  refine Pa.ic (x := 0) (pc' := 173) (by rfl) (by rfl) (by decide) ?_
  refine Pa.mp 1 (pc' := 174) (l' := [(10, .int 1), (9, .int (-1)), (8, .int 11), (7, .int 0), (0, .ref 30), (1, .ref ya), (2, .int 1), (3, .int 2), (4, .int yx), (5, .int yc), (6, .int 0)]) (st' := [.ref ya, .int 0, .ref ya, .ref 30]) (by rfl) ?_
  refine Pa.gfI (v := 2) (by rfl) (by rfl) (.inr rfl) (by rfl) (by show (uI (uI (uI yA 30 6 0) 33 0 11) 30 6 1).1 ya 1 = 2; rw [uI_c (by omega), uI_c (by omega), uI_c (by omega), hk]) ?_
  refine Pa.mp 3 (pc' := 183) (l' := [(10, .int 1), (9, .int (-1)), (8, .int 11), (7, .int 0), (0, .ref 30), (1, .ref ya), (2, .int 1), (3, .int 2), (4, .int yx), (5, .int yc), (6, .int 0)]) (st' := [.int 1, .int yc, .int yx, .int 2, .int 0, .ref ya, .ref 30]) (by rfl) ?_
  refine Pa.inv (by rfl) (by rfl) (.inl rfl) (by rfl) ?_
  show Pa N 39 0 [(0, .ref 30), (1, .ref ya), (2, .int 0), (3, .int 2), (4, .int yx), (5, .int yc), (6, .int 1)] [] (uI (uI (uI yA 30 6 0) 33 0 11) 30 6 1) _
  refine Pa.mp 2 (pc' := 2) (l' := [(0, .ref 30), (1, .ref ya), (2, .int 0), (3, .int 2), (4, .int yx), (5, .int yc), (6, .int 1)]) (st' := [.int 2, .int 0]) (by rfl) ?_
  refine Pa.ist (by rfl) (by rfl) (.inl rfl) (by rfl) (by rfl) ?_
  refine Pa.mono (c_kwb0_2 N (uI (uI (uI yA 30 6 0) 33 0 11) 30 6 1)) (fun yu A1 hu => ?_)
  obtain ⟨rfl, hu⟩ := hu
  rw [hu]
  show Pa N 39 5 [(0, .ref 30), (1, .ref ya), (2, .int 0), (3, .int 2), (4, .int yx), (5, .int yc), (6, .int 1)] [.int 2] (uI (uI (uI yA 30 6 0) 33 0 11) 30 6 1) _
  refine Pa.mp 2 (pc' := 9) (l' := [(7, .int 2), (0, .ref 30), (1, .ref ya), (2, .int 0), (3, .int 2), (4, .int yx), (5, .int yc), (6, .int 1)]) (st' := [.int 2]) (by rfl) ?_
  refine Pa.if1k false (by rfl) (by rfl) (by decide) ?_
  show Pa N 39 12 [(7, .int 2), (0, .ref 30), (1, .ref ya), (2, .int 0), (3, .int 2), (4, .int yx), (5, .int yc), (6, .int 1)] [] (uI (uI (uI yA 30 6 0) 33 0 11) 30 6 1) _
  refine Pa.mp 1 (pc' := 14) (l' := [(7, .int 2), (0, .ref 30), (1, .ref ya), (2, .int 0), (3, .int 2), (4, .int yx), (5, .int yc), (6, .int 1)]) (st' := [.int 1]) (by rfl) ?_
  refine Pa.ic (x := 30) (pc' := 16) (by rfl) (by rfl) (by decide) ?_
  refine Pa.if2k true (by rfl) (by rfl) (by decide) ?_
  show Pa N 39 21 [(7, .int 2), (0, .ref 30), (1, .ref ya), (2, .int 0), (3, .int 2), (4, .int yx), (5, .int yc), (6, .int 1)] [] (uI (uI (uI yA 30 6 0) 33 0 11) 30 6 1) _
  refine Pa.mp 2 (pc' := 24) (l' := [(7, .int 2), (0, .ref 30), (1, .ref ya), (2, .int 0), (3, .int 2), (4, .int yx), (5, .int yc), (6, .int 1)]) (st' := [.int 2, .int 0]) (by rfl) ?_
  refine Pa.ist (by rfl) (by rfl) (.inl rfl) (by rfl) (by rfl) ?_
  refine Pa.mono (c_bod0_2 N (uI (uI (uI yA 30 6 0) 33 0 11) 30 6 1)) (fun yu A1 hu => ?_)
  obtain ⟨rfl, hu⟩ := hu
  rw [hu]
  show Pa N 39 27 [(7, .int 2), (0, .ref 30), (1, .ref ya), (2, .int 0), (3, .int 2), (4, .int yx), (5, .int yc), (6, .int 1)] [.int 30] (uI (uI (uI yA 30 6 0) 33 0 11) 30 6 1) _
  refine Pa.mp 2 (pc' := 30) (l' := [(8, .int 30), (7, .int 2), (0, .ref 30), (1, .ref ya), (2, .int 0), (3, .int 2), (4, .int yx), (5, .int yc), (6, .int 1)]) (st' := [.ref 30]) (by rfl) ?_
  refine Pa.gfI (v := 1) (by rfl) (by rfl) (.inl rfl) (by rfl) (by show (uI (uI (uI yA 30 6 0) 33 0 11) 30 6 1).1 30 6 = 1; rw [uI_h]) ?_
  refine Pa.ic (x := 24) (pc' := 35) (by rfl) (by rfl) (by decide) ?_
  refine Pa.if2k false (by rfl) (by rfl) (by decide) ?_
  show Pa N 39 38 [(8, .int 30), (7, .int 2), (0, .ref 30), (1, .ref ya), (2, .int 0), (3, .int 2), (4, .int yx), (5, .int yc), (6, .int 1)] [] (uI (uI (uI yA 30 6 0) 33 0 11) 30 6 1) _
  refine Pa.mp 1 (pc' := 39) (l' := [(8, .int 30), (7, .int 2), (0, .ref 30), (1, .ref ya), (2, .int 0), (3, .int 2), (4, .int yx), (5, .int yc), (6, .int 1)]) (st' := [.ref 30]) (by rfl) ?_
  refine Pa.gfR (by rfl) (by rfl) (.inl rfl) (by rfl) ?_
  show Pa N 39 42 [(8, .int 30), (7, .int 2), (0, .ref 30), (1, .ref ya), (2, .int 0), (3, .int 2), (4, .int yx), (5, .int yc), (6, .int 1)] [.ref 33] (uI (uI (uI yA 30 6 0) 33 0 11) 30 6 1) _
  refine Pa.mp 1 (pc' := 43) (l' := [(8, .int 30), (7, .int 2), (0, .ref 30), (1, .ref ya), (2, .int 0), (3, .int 2), (4, .int yx), (5, .int yc), (6, .int 1)]) (st' := [.ref 30, .ref 33]) (by rfl) ?_
  refine Pa.gfI (v := 1) (by rfl) (by rfl) (.inl rfl) (by rfl) (by show (uI (uI (uI yA 30 6 0) 33 0 11) 30 6 1).1 30 6 = 1; rw [uI_h]) ?_
  refine Pa.mp 1 (pc' := 48) (l' := [(8, .int 30), (7, .int 2), (0, .ref 30), (1, .ref ya), (2, .int 0), (3, .int 2), (4, .int yx), (5, .int yc), (6, .int 1)]) (st' := [.int 30, .int 1, .ref 33]) (by rfl) ?_
  refine Pa.asts (j' := 1) (by rfl) (by rfl) (by rfl) (fun h3 h4 => ?_)
  show Pa N 39 49 [(8, .int 30), (7, .int 2), (0, .ref 30), (1, .ref ya), (2, .int 0), (3, .int 2), (4, .int yx), (5, .int yc), (6, .int 1)] [] (uI (uI (uI (uI yA 30 6 0) 33 0 11) 30 6 1) 33 1 30) _
  refine Pa.mp 2 (pc' := 51) (l' := [(8, .int 30), (7, .int 2), (0, .ref 30), (1, .ref ya), (2, .int 0), (3, .int 2), (4, .int yx), (5, .int yc), (6, .int 1)]) (st' := [.ref 30, .ref 30]) (by rfl) ?_
  refine Pa.gfI (v := 1) (by rfl) (by rfl) (.inl rfl) (by rfl) (by show (uI (uI (uI (uI yA 30 6 0) 33 0 11) 30 6 1) 33 1 30).1 30 6 = 1; rw [uI_c (by decide), uI_h]) ?_
  refine Pa.ic (x := 1) (pc' := 55) (by rfl) (by rfl) (by decide) ?_
  refine Pa.mp 1 (pc' := 56) (l' := [(8, .int 30), (7, .int 2), (0, .ref 30), (1, .ref ya), (2, .int 0), (3, .int 2), (4, .int yx), (5, .int yc), (6, .int 1)]) (st' := [.int 2, .ref 30]) (by rfl) ?_
  refine Pa.pfI (by rfl) (by rfl) (.inl rfl) (by rfl) ?_
  show Pa N 39 59 [(8, .int 30), (7, .int 2), (0, .ref 30), (1, .ref ya), (2, .int 0), (3, .int 2), (4, .int yx), (5, .int yc), (6, .int 1)] [] (uI (uI (uI (uI (uI yA 30 6 0) 33 0 11) 30 6 1) 33 1 30) 30 6 2) _
  refine Pa.mp 1 (pc' := 61) (l' := [(8, .int 30), (7, .int 2), (0, .ref 30), (1, .ref ya), (2, .int 0), (3, .int 2), (4, .int yx), (5, .int yc), (6, .int 1)]) (st' := [.int 2]) (by rfl) ?_
  refine Pa.ist (by rfl) (by rfl) (.inl rfl) (by rfl) (by rfl) ?_
  refine Pa.mono (c_abv2 N (uI (uI (uI (uI (uI yA 30 6 0) 33 0 11) 30 6 1) 33 1 30) 30 6 2)) (fun yu A1 hu => ?_)
  obtain ⟨rfl, hu⟩ := hu
  rw [hu]
  show Pa N 39 64 [(8, .int 30), (7, .int 2), (0, .ref 30), (1, .ref ya), (2, .int 0), (3, .int 2), (4, .int yx), (5, .int yc), (6, .int 1)] [.int 0] (uI (uI (uI (uI (uI yA 30 6 0) 33 0 11) 30 6 1) 33 1 30) 30 6 2) _
  refine Pa.mp 2 (pc' := 68) (l' := [(9, .int 0), (8, .int 30), (7, .int 2), (0, .ref 30), (1, .ref ya), (2, .int 0), (3, .int 2), (4, .int yx), (5, .int yc), (6, .int 1)]) (st' := [.int 1]) (by rfl) ?_
  refine Pa.ic (x := 1) (pc' := 69) (by rfl) (by rfl) (by decide) ?_
  refine Pa.mp 3 (pc' := 74) (l' := [(10, .int 2), (9, .int 0), (8, .int 30), (7, .int 2), (0, .ref 30), (1, .ref ya), (2, .int 0), (3, .int 2), (4, .int yx), (5, .int yc), (6, .int 1)]) (st' := [.int 30]) (by rfl) ?_
  refine Pa.mp 1 (pc' := 229) (l' := [(10, .int 2), (9, .int 0), (8, .int 30), (7, .int 2), (0, .ref 30), (1, .ref ya), (2, .int 0), (3, .int 2), (4, .int yx), (5, .int yc), (6, .int 1)]) (st' := []) (by rfl) ?_
  refine Pa.mp 2 (pc' := 231) (l' := [(10, .int 2), (9, .int 0), (8, .int 30), (7, .int 2), (0, .ref 30), (1, .ref ya), (2, .int 0), (3, .int 2), (4, .int yx), (5, .int yc), (6, .int 1)]) (st' := [.ref ya, .ref 30]) (by rfl) ?_
  refine Pa.ic (x := 0) (pc' := 232) (by rfl) (by rfl) (by decide) ?_
  refine Pa.mp 4 (pc' := 240) (l' := [(10, .int 2), (9, .int 0), (8, .int 30), (7, .int 2), (0, .ref 30), (1, .ref ya), (2, .int 0), (3, .int 2), (4, .int yx), (5, .int yc), (6, .int 1)]) (st' := [.int 2, .int yc, .int yx, .int 0, .int 0, .ref ya, .ref 30]) (by rfl) ?_
  refine Pa.inv (by rfl) (by rfl) (.inl rfl) (by rfl) ?_
  show Pa N 39 0 [(0, .ref 30), (1, .ref ya), (2, .int 0), (3, .int 0), (4, .int yx), (5, .int yc), (6, .int 2)] [] (uI (uI (uI (uI (uI yA 30 6 0) 33 0 11) 30 6 1) 33 1 30) 30 6 2) _
  refine Pa.mp 2 (pc' := 2) (l' := [(0, .ref 30), (1, .ref ya), (2, .int 0), (3, .int 0), (4, .int yx), (5, .int yc), (6, .int 2)]) (st' := [.int 0, .int 0]) (by rfl) ?_
  refine Pa.ist (by rfl) (by rfl) (.inl rfl) (by rfl) (by rfl) ?_
  refine Pa.mono (c_kwb0_0 N (uI (uI (uI (uI (uI yA 30 6 0) 33 0 11) 30 6 1) 33 1 30) 30 6 2)) (fun yu A1 hu => ?_)
  obtain ⟨rfl, hu⟩ := hu
  rw [hu]
  show Pa N 39 5 [(0, .ref 30), (1, .ref ya), (2, .int 0), (3, .int 0), (4, .int yx), (5, .int yc), (6, .int 2)] [.int 0] (uI (uI (uI (uI (uI yA 30 6 0) 33 0 11) 30 6 1) 33 1 30) 30 6 2) _
  refine Pa.mp 2 (pc' := 9) (l' := [(7, .int 0), (0, .ref 30), (1, .ref ya), (2, .int 0), (3, .int 0), (4, .int yx), (5, .int yc), (6, .int 2)]) (st' := [.int 0]) (by rfl) ?_
  refine Pa.if1k false (by rfl) (by rfl) (by decide) ?_
  show Pa N 39 12 [(7, .int 0), (0, .ref 30), (1, .ref ya), (2, .int 0), (3, .int 0), (4, .int yx), (5, .int yc), (6, .int 2)] [] (uI (uI (uI (uI (uI yA 30 6 0) 33 0 11) 30 6 1) 33 1 30) 30 6 2) _
  refine Pa.mp 1 (pc' := 14) (l' := [(7, .int 0), (0, .ref 30), (1, .ref ya), (2, .int 0), (3, .int 0), (4, .int yx), (5, .int yc), (6, .int 2)]) (st' := [.int 2]) (by rfl) ?_
  refine Pa.ic (x := 30) (pc' := 16) (by rfl) (by rfl) (by decide) ?_
  refine Pa.if2k true (by rfl) (by rfl) (by decide) ?_
  show Pa N 39 21 [(7, .int 0), (0, .ref 30), (1, .ref ya), (2, .int 0), (3, .int 0), (4, .int yx), (5, .int yc), (6, .int 2)] [] (uI (uI (uI (uI (uI yA 30 6 0) 33 0 11) 30 6 1) 33 1 30) 30 6 2) _
  refine Pa.mp 2 (pc' := 24) (l' := [(7, .int 0), (0, .ref 30), (1, .ref ya), (2, .int 0), (3, .int 0), (4, .int yx), (5, .int yc), (6, .int 2)]) (st' := [.int 0, .int 0]) (by rfl) ?_
  refine Pa.ist (by rfl) (by rfl) (.inl rfl) (by rfl) (by rfl) ?_
  refine Pa.mono (c_bod0_0 N (uI (uI (uI (uI (uI yA 30 6 0) 33 0 11) 30 6 1) 33 1 30) 30 6 2)) (fun yu A1 hu => ?_)
  obtain ⟨rfl, hu⟩ := hu
  rw [hu]
  show Pa N 39 27 [(7, .int 0), (0, .ref 30), (1, .ref ya), (2, .int 0), (3, .int 0), (4, .int yx), (5, .int yc), (6, .int 2)] [.int 10] (uI (uI (uI (uI (uI yA 30 6 0) 33 0 11) 30 6 1) 33 1 30) 30 6 2) _
  refine Pa.mp 2 (pc' := 30) (l' := [(8, .int 10), (7, .int 0), (0, .ref 30), (1, .ref ya), (2, .int 0), (3, .int 0), (4, .int yx), (5, .int yc), (6, .int 2)]) (st' := [.ref 30]) (by rfl) ?_
  refine Pa.gfI (v := 2) (by rfl) (by rfl) (.inl rfl) (by rfl) (by show (uI (uI (uI (uI (uI yA 30 6 0) 33 0 11) 30 6 1) 33 1 30) 30 6 2).1 30 6 = 2; rw [uI_h]) ?_
  refine Pa.ic (x := 24) (pc' := 35) (by rfl) (by rfl) (by decide) ?_
  refine Pa.if2k false (by rfl) (by rfl) (by decide) ?_
  show Pa N 39 38 [(8, .int 10), (7, .int 0), (0, .ref 30), (1, .ref ya), (2, .int 0), (3, .int 0), (4, .int yx), (5, .int yc), (6, .int 2)] [] (uI (uI (uI (uI (uI yA 30 6 0) 33 0 11) 30 6 1) 33 1 30) 30 6 2) _
  refine Pa.mp 1 (pc' := 39) (l' := [(8, .int 10), (7, .int 0), (0, .ref 30), (1, .ref ya), (2, .int 0), (3, .int 0), (4, .int yx), (5, .int yc), (6, .int 2)]) (st' := [.ref 30]) (by rfl) ?_
  refine Pa.gfR (by rfl) (by rfl) (.inl rfl) (by rfl) ?_
  show Pa N 39 42 [(8, .int 10), (7, .int 0), (0, .ref 30), (1, .ref ya), (2, .int 0), (3, .int 0), (4, .int yx), (5, .int yc), (6, .int 2)] [.ref 33] (uI (uI (uI (uI (uI yA 30 6 0) 33 0 11) 30 6 1) 33 1 30) 30 6 2) _
  refine Pa.mp 1 (pc' := 43) (l' := [(8, .int 10), (7, .int 0), (0, .ref 30), (1, .ref ya), (2, .int 0), (3, .int 0), (4, .int yx), (5, .int yc), (6, .int 2)]) (st' := [.ref 30, .ref 33]) (by rfl) ?_
  refine Pa.gfI (v := 2) (by rfl) (by rfl) (.inl rfl) (by rfl) (by show (uI (uI (uI (uI (uI yA 30 6 0) 33 0 11) 30 6 1) 33 1 30) 30 6 2).1 30 6 = 2; rw [uI_h]) ?_
  refine Pa.mp 1 (pc' := 48) (l' := [(8, .int 10), (7, .int 0), (0, .ref 30), (1, .ref ya), (2, .int 0), (3, .int 0), (4, .int yx), (5, .int yc), (6, .int 2)]) (st' := [.int 10, .int 2, .ref 33]) (by rfl) ?_
  refine Pa.asts (j' := 2) (by rfl) (by rfl) (by rfl) (fun h5 h6 => ?_)
  show Pa N 39 49 [(8, .int 10), (7, .int 0), (0, .ref 30), (1, .ref ya), (2, .int 0), (3, .int 0), (4, .int yx), (5, .int yc), (6, .int 2)] [] (uI (uI (uI (uI (uI (uI yA 30 6 0) 33 0 11) 30 6 1) 33 1 30) 30 6 2) 33 2 10) _
  refine Pa.mp 2 (pc' := 51) (l' := [(8, .int 10), (7, .int 0), (0, .ref 30), (1, .ref ya), (2, .int 0), (3, .int 0), (4, .int yx), (5, .int yc), (6, .int 2)]) (st' := [.ref 30, .ref 30]) (by rfl) ?_
  refine Pa.gfI (v := 2) (by rfl) (by rfl) (.inl rfl) (by rfl) (by show (uI (uI (uI (uI (uI (uI yA 30 6 0) 33 0 11) 30 6 1) 33 1 30) 30 6 2) 33 2 10).1 30 6 = 2; rw [uI_c (by decide), uI_h]) ?_
  refine Pa.ic (x := 1) (pc' := 55) (by rfl) (by rfl) (by decide) ?_
  refine Pa.mp 1 (pc' := 56) (l' := [(8, .int 10), (7, .int 0), (0, .ref 30), (1, .ref ya), (2, .int 0), (3, .int 0), (4, .int yx), (5, .int yc), (6, .int 2)]) (st' := [.int 3, .ref 30]) (by rfl) ?_
  refine Pa.pfI (by rfl) (by rfl) (.inl rfl) (by rfl) ?_
  show Pa N 39 59 [(8, .int 10), (7, .int 0), (0, .ref 30), (1, .ref ya), (2, .int 0), (3, .int 0), (4, .int yx), (5, .int yc), (6, .int 2)] [] (uI (uI (uI (uI (uI (uI (uI yA 30 6 0) 33 0 11) 30 6 1) 33 1 30) 30 6 2) 33 2 10) 30 6 3) _
  refine Pa.mp 1 (pc' := 61) (l' := [(8, .int 10), (7, .int 0), (0, .ref 30), (1, .ref ya), (2, .int 0), (3, .int 0), (4, .int yx), (5, .int yc), (6, .int 2)]) (st' := [.int 0]) (by rfl) ?_
  refine Pa.ist (by rfl) (by rfl) (.inl rfl) (by rfl) (by rfl) ?_
  refine Pa.mono (c_abv0 N (uI (uI (uI (uI (uI (uI (uI yA 30 6 0) 33 0 11) 30 6 1) 33 1 30) 30 6 2) 33 2 10) 30 6 3)) (fun yu A1 hu => ?_)
  obtain ⟨rfl, hu⟩ := hu
  rw [hu]
  show Pa N 39 64 [(8, .int 10), (7, .int 0), (0, .ref 30), (1, .ref ya), (2, .int 0), (3, .int 0), (4, .int yx), (5, .int yc), (6, .int 2)] [.int (-1)] (uI (uI (uI (uI (uI (uI (uI yA 30 6 0) 33 0 11) 30 6 1) 33 1 30) 30 6 2) 33 2 10) 30 6 3) _
  refine Pa.mp 2 (pc' := 68) (l' := [(9, .int (-1)), (8, .int 10), (7, .int 0), (0, .ref 30), (1, .ref ya), (2, .int 0), (3, .int 0), (4, .int yx), (5, .int yc), (6, .int 2)]) (st' := [.int 2]) (by rfl) ?_
  refine Pa.ic (x := 1) (pc' := 69) (by rfl) (by rfl) (by decide) ?_
  refine Pa.mp 3 (pc' := 74) (l' := [(10, .int 3), (9, .int (-1)), (8, .int 10), (7, .int 0), (0, .ref 30), (1, .ref ya), (2, .int 0), (3, .int 0), (4, .int yx), (5, .int yc), (6, .int 2)]) (st' := [.int 10]) (by rfl) ?_
  refine Pa.mp 1 (pc' := 164) (l' := [(10, .int 3), (9, .int (-1)), (8, .int 10), (7, .int 0), (0, .ref 30), (1, .ref ya), (2, .int 0), (3, .int 0), (4, .int yx), (5, .int yc), (6, .int 2)]) (st' := []) (by rfl) ?_
  refine Pa.mp 3 (pc' := 169) (l' := [(10, .int 3), (9, .int (-1)), (8, .int 10), (7, .int 0), (0, .ref 30), (1, .ref ya), (2, .int 0), (3, .int 0), (4, .int yx), (5, .int yc), (6, .int 2)]) (st' := [.int (yx + yc)]) (by rfl) ?_
  refine Pa.iret (by rfl) ?_
  show Pa N 39 243 [(10, .int 2), (9, .int 0), (8, .int 30), (7, .int 2), (0, .ref 30), (1, .ref ya), (2, .int 0), (3, .int 2), (4, .int yx), (5, .int yc), (6, .int 1)] [.int (yx + yc)] (uI (uI (uI (uI (uI (uI (uI yA 30 6 0) 33 0 11) 30 6 1) 33 1 30) 30 6 2) 33 2 10) 30 6 3) _
  refine Pa.ic (x := 4) (pc' := 244) (by rfl) (by rfl) (by decide) ?_
  refine Pa.mp 1 (pc' := 245) (l' := [(10, .int 2), (9, .int 0), (8, .int 30), (7, .int 2), (0, .ref 30), (1, .ref ya), (2, .int 0), (3, .int 2), (4, .int yx), (5, .int yc), (6, .int 1)]) (st' := [.int ((yx + yc) - 4)]) (by rfl) ?_
  refine Pa.iret (by rfl) ?_
  show Pa N 39 186 [(10, .int 1), (9, .int (-1)), (8, .int 11), (7, .int 0), (0, .ref 30), (1, .ref ya), (2, .int 1), (3, .int 2), (4, .int yx), (5, .int yc), (6, .int 0)] [.int ((yx + yc) - 4)] (uI (uI (uI (uI (uI (uI (uI yA 30 6 0) 33 0 11) 30 6 1) 33 1 30) 30 6 2) 33 2 10) 30 6 3) _
  refine Pa.ic (x := 2) (pc' := 187) (by rfl) (by rfl) (by decide) ?_
  refine Pa.mp 1 (pc' := 188) (l' := [(10, .int 1), (9, .int (-1)), (8, .int 11), (7, .int 0), (0, .ref 30), (1, .ref ya), (2, .int 1), (3, .int 2), (4, .int yx), (5, .int yc), (6, .int 0)]) (st' := [.int (((yx + yc) - 4) * 2)]) (by rfl) ?_
  refine Pa.iret (by rfl) ?_
  exact l1

theorem bpf1_3 {N : Nat} {yA : AW} {yQ : Option Value → AW → Prop} {ya : Nat} (yx yc : Int32) (yha : 129 ≤ ya) (hk : yA.1 ya 1 = 3)
    (l1 : yQ (some (.int (((yx + yc) - 4) * 2))) (uI (uI (uI (uI (uI (uI (uI yA 30 6 0) 33 0 11) 30 6 1) 33 1 30) 30 6 2) 33 2 10) 30 6 3)) :
    Pa N 39 0 [(0, .ref 30), (1, .ref ya), (2, .int 1), (3, .int 3), (4, .int yx), (5, .int yc), (6, .int 0)] [] (uI yA 30 6 0) yQ := by
  refine Pa.mp 2 (pc' := 2) (l' := [(0, .ref 30), (1, .ref ya), (2, .int 1), (3, .int 3), (4, .int yx), (5, .int yc), (6, .int 0)]) (st' := [.int 3, .int 1]) (by rfl) ?_
  refine Pa.ist (by rfl) (by rfl) (.inl rfl) (by rfl) (by rfl) ?_
  refine Pa.mono (c_kwb1_3 N (uI yA 30 6 0)) (fun yu A1 hu => ?_)
  obtain ⟨rfl, hu⟩ := hu
  rw [hu]
  show Pa N 39 5 [(0, .ref 30), (1, .ref ya), (2, .int 1), (3, .int 3), (4, .int yx), (5, .int yc), (6, .int 0)] [.int 0] (uI yA 30 6 0) _
  refine Pa.mp 2 (pc' := 9) (l' := [(7, .int 0), (0, .ref 30), (1, .ref ya), (2, .int 1), (3, .int 3), (4, .int yx), (5, .int yc), (6, .int 0)]) (st' := [.int 0]) (by rfl) ?_
  refine Pa.if1k false (by rfl) (by rfl) (by decide) ?_
  show Pa N 39 12 [(7, .int 0), (0, .ref 30), (1, .ref ya), (2, .int 1), (3, .int 3), (4, .int yx), (5, .int yc), (6, .int 0)] [] (uI yA 30 6 0) _
  refine Pa.mp 1 (pc' := 14) (l' := [(7, .int 0), (0, .ref 30), (1, .ref ya), (2, .int 1), (3, .int 3), (4, .int yx), (5, .int yc), (6, .int 0)]) (st' := [.int 0]) (by rfl) ?_
  refine Pa.ic (x := 30) (pc' := 16) (by rfl) (by rfl) (by decide) ?_
  refine Pa.if2k true (by rfl) (by rfl) (by decide) ?_
  show Pa N 39 21 [(7, .int 0), (0, .ref 30), (1, .ref ya), (2, .int 1), (3, .int 3), (4, .int yx), (5, .int yc), (6, .int 0)] [] (uI yA 30 6 0) _
  refine Pa.mp 2 (pc' := 24) (l' := [(7, .int 0), (0, .ref 30), (1, .ref ya), (2, .int 1), (3, .int 3), (4, .int yx), (5, .int yc), (6, .int 0)]) (st' := [.int 0, .int 1]) (by rfl) ?_
  refine Pa.ist (by rfl) (by rfl) (.inl rfl) (by rfl) (by rfl) ?_
  refine Pa.mono (c_bod1_0 N (uI yA 30 6 0)) (fun yu A1 hu => ?_)
  obtain ⟨rfl, hu⟩ := hu
  rw [hu]
  show Pa N 39 27 [(7, .int 0), (0, .ref 30), (1, .ref ya), (2, .int 1), (3, .int 3), (4, .int yx), (5, .int yc), (6, .int 0)] [.int 11] (uI yA 30 6 0) _
  refine Pa.mp 2 (pc' := 30) (l' := [(8, .int 11), (7, .int 0), (0, .ref 30), (1, .ref ya), (2, .int 1), (3, .int 3), (4, .int yx), (5, .int yc), (6, .int 0)]) (st' := [.ref 30]) (by rfl) ?_
  refine Pa.gfI (v := 0) (by rfl) (by rfl) (.inl rfl) (by rfl) (by show (uI yA 30 6 0).1 30 6 = 0; rw [uI_h]) ?_
  refine Pa.ic (x := 24) (pc' := 35) (by rfl) (by rfl) (by decide) ?_
  refine Pa.if2k false (by rfl) (by rfl) (by decide) ?_
  show Pa N 39 38 [(8, .int 11), (7, .int 0), (0, .ref 30), (1, .ref ya), (2, .int 1), (3, .int 3), (4, .int yx), (5, .int yc), (6, .int 0)] [] (uI yA 30 6 0) _
  refine Pa.mp 1 (pc' := 39) (l' := [(8, .int 11), (7, .int 0), (0, .ref 30), (1, .ref ya), (2, .int 1), (3, .int 3), (4, .int yx), (5, .int yc), (6, .int 0)]) (st' := [.ref 30]) (by rfl) ?_
  refine Pa.gfR (by rfl) (by rfl) (.inl rfl) (by rfl) ?_
  show Pa N 39 42 [(8, .int 11), (7, .int 0), (0, .ref 30), (1, .ref ya), (2, .int 1), (3, .int 3), (4, .int yx), (5, .int yc), (6, .int 0)] [.ref 33] (uI yA 30 6 0) _
  refine Pa.mp 1 (pc' := 43) (l' := [(8, .int 11), (7, .int 0), (0, .ref 30), (1, .ref ya), (2, .int 1), (3, .int 3), (4, .int yx), (5, .int yc), (6, .int 0)]) (st' := [.ref 30, .ref 33]) (by rfl) ?_
  refine Pa.gfI (v := 0) (by rfl) (by rfl) (.inl rfl) (by rfl) (by show (uI yA 30 6 0).1 30 6 = 0; rw [uI_h]) ?_
  refine Pa.mp 1 (pc' := 48) (l' := [(8, .int 11), (7, .int 0), (0, .ref 30), (1, .ref ya), (2, .int 1), (3, .int 3), (4, .int yx), (5, .int yc), (6, .int 0)]) (st' := [.int 11, .int 0, .ref 33]) (by rfl) ?_
  refine Pa.asts (j' := 0) (by rfl) (by rfl) (by rfl) (fun h1 h2 => ?_)
  show Pa N 39 49 [(8, .int 11), (7, .int 0), (0, .ref 30), (1, .ref ya), (2, .int 1), (3, .int 3), (4, .int yx), (5, .int yc), (6, .int 0)] [] (uI (uI yA 30 6 0) 33 0 11) _
  refine Pa.mp 2 (pc' := 51) (l' := [(8, .int 11), (7, .int 0), (0, .ref 30), (1, .ref ya), (2, .int 1), (3, .int 3), (4, .int yx), (5, .int yc), (6, .int 0)]) (st' := [.ref 30, .ref 30]) (by rfl) ?_
  refine Pa.gfI (v := 0) (by rfl) (by rfl) (.inl rfl) (by rfl) (by show (uI (uI yA 30 6 0) 33 0 11).1 30 6 = 0; rw [uI_c (by decide), uI_h]) ?_
  refine Pa.ic (x := 1) (pc' := 55) (by rfl) (by rfl) (by decide) ?_
  refine Pa.mp 1 (pc' := 56) (l' := [(8, .int 11), (7, .int 0), (0, .ref 30), (1, .ref ya), (2, .int 1), (3, .int 3), (4, .int yx), (5, .int yc), (6, .int 0)]) (st' := [.int 1, .ref 30]) (by rfl) ?_
  refine Pa.pfI (by rfl) (by rfl) (.inl rfl) (by rfl) ?_
  show Pa N 39 59 [(8, .int 11), (7, .int 0), (0, .ref 30), (1, .ref ya), (2, .int 1), (3, .int 3), (4, .int yx), (5, .int yc), (6, .int 0)] [] (uI (uI (uI yA 30 6 0) 33 0 11) 30 6 1) _
  refine Pa.mp 1 (pc' := 61) (l' := [(8, .int 11), (7, .int 0), (0, .ref 30), (1, .ref ya), (2, .int 1), (3, .int 3), (4, .int yx), (5, .int yc), (6, .int 0)]) (st' := [.int 0]) (by rfl) ?_
  refine Pa.ist (by rfl) (by rfl) (.inl rfl) (by rfl) (by rfl) ?_
  refine Pa.mono (c_abv0 N (uI (uI (uI yA 30 6 0) 33 0 11) 30 6 1)) (fun yu A1 hu => ?_)
  obtain ⟨rfl, hu⟩ := hu
  rw [hu]
  show Pa N 39 64 [(8, .int 11), (7, .int 0), (0, .ref 30), (1, .ref ya), (2, .int 1), (3, .int 3), (4, .int yx), (5, .int yc), (6, .int 0)] [.int (-1)] (uI (uI (uI yA 30 6 0) 33 0 11) 30 6 1) _
  refine Pa.mp 2 (pc' := 68) (l' := [(9, .int (-1)), (8, .int 11), (7, .int 0), (0, .ref 30), (1, .ref ya), (2, .int 1), (3, .int 3), (4, .int yx), (5, .int yc), (6, .int 0)]) (st' := [.int 0]) (by rfl) ?_
  refine Pa.ic (x := 1) (pc' := 69) (by rfl) (by rfl) (by decide) ?_
  refine Pa.mp 3 (pc' := 74) (l' := [(10, .int 1), (9, .int (-1)), (8, .int 11), (7, .int 0), (0, .ref 30), (1, .ref ya), (2, .int 1), (3, .int 3), (4, .int yx), (5, .int yc), (6, .int 0)]) (st' := [.int 11]) (by rfl) ?_
  refine Pa.mp 1 (pc' := 170) (l' := [(10, .int 1), (9, .int (-1)), (8, .int 11), (7, .int 0), (0, .ref 30), (1, .ref ya), (2, .int 1), (3, .int 3), (4, .int yx), (5, .int yc), (6, .int 0)]) (st' := []) (by rfl) ?_
  refine Pa.mp 2 (pc' := 172) (l' := [(10, .int 1), (9, .int (-1)), (8, .int 11), (7, .int 0), (0, .ref 30), (1, .ref ya), (2, .int 1), (3, .int 3), (4, .int yx), (5, .int yc), (6, .int 0)]) (st' := [.ref ya, .ref 30]) (by rfl) ?_
  refine Pa.ic (x := 0) (pc' := 173) (by rfl) (by rfl) (by decide) ?_
  refine Pa.mp 1 (pc' := 174) (l' := [(10, .int 1), (9, .int (-1)), (8, .int 11), (7, .int 0), (0, .ref 30), (1, .ref ya), (2, .int 1), (3, .int 3), (4, .int yx), (5, .int yc), (6, .int 0)]) (st' := [.ref ya, .int 0, .ref ya, .ref 30]) (by rfl) ?_
  refine Pa.gfI (v := 3) (by rfl) (by rfl) (.inr rfl) (by rfl) (by show (uI (uI (uI yA 30 6 0) 33 0 11) 30 6 1).1 ya 1 = 3; rw [uI_c (by omega), uI_c (by omega), uI_c (by omega), hk]) ?_
  refine Pa.mp 3 (pc' := 183) (l' := [(10, .int 1), (9, .int (-1)), (8, .int 11), (7, .int 0), (0, .ref 30), (1, .ref ya), (2, .int 1), (3, .int 3), (4, .int yx), (5, .int yc), (6, .int 0)]) (st' := [.int 1, .int yc, .int yx, .int 3, .int 0, .ref ya, .ref 30]) (by rfl) ?_
  refine Pa.inv (by rfl) (by rfl) (.inl rfl) (by rfl) ?_
  show Pa N 39 0 [(0, .ref 30), (1, .ref ya), (2, .int 0), (3, .int 3), (4, .int yx), (5, .int yc), (6, .int 1)] [] (uI (uI (uI yA 30 6 0) 33 0 11) 30 6 1) _
  refine Pa.mp 2 (pc' := 2) (l' := [(0, .ref 30), (1, .ref ya), (2, .int 0), (3, .int 3), (4, .int yx), (5, .int yc), (6, .int 1)]) (st' := [.int 3, .int 0]) (by rfl) ?_
  refine Pa.ist (by rfl) (by rfl) (.inl rfl) (by rfl) (by rfl) ?_
  refine Pa.mono (c_kwb0_3 N (uI (uI (uI yA 30 6 0) 33 0 11) 30 6 1)) (fun yu A1 hu => ?_)
  obtain ⟨rfl, hu⟩ := hu
  rw [hu]
  show Pa N 39 5 [(0, .ref 30), (1, .ref ya), (2, .int 0), (3, .int 3), (4, .int yx), (5, .int yc), (6, .int 1)] [.int 2] (uI (uI (uI yA 30 6 0) 33 0 11) 30 6 1) _
  refine Pa.mp 2 (pc' := 9) (l' := [(7, .int 2), (0, .ref 30), (1, .ref ya), (2, .int 0), (3, .int 3), (4, .int yx), (5, .int yc), (6, .int 1)]) (st' := [.int 2]) (by rfl) ?_
  refine Pa.if1k false (by rfl) (by rfl) (by decide) ?_
  show Pa N 39 12 [(7, .int 2), (0, .ref 30), (1, .ref ya), (2, .int 0), (3, .int 3), (4, .int yx), (5, .int yc), (6, .int 1)] [] (uI (uI (uI yA 30 6 0) 33 0 11) 30 6 1) _
  refine Pa.mp 1 (pc' := 14) (l' := [(7, .int 2), (0, .ref 30), (1, .ref ya), (2, .int 0), (3, .int 3), (4, .int yx), (5, .int yc), (6, .int 1)]) (st' := [.int 1]) (by rfl) ?_
  refine Pa.ic (x := 30) (pc' := 16) (by rfl) (by rfl) (by decide) ?_
  refine Pa.if2k true (by rfl) (by rfl) (by decide) ?_
  show Pa N 39 21 [(7, .int 2), (0, .ref 30), (1, .ref ya), (2, .int 0), (3, .int 3), (4, .int yx), (5, .int yc), (6, .int 1)] [] (uI (uI (uI yA 30 6 0) 33 0 11) 30 6 1) _
  refine Pa.mp 2 (pc' := 24) (l' := [(7, .int 2), (0, .ref 30), (1, .ref ya), (2, .int 0), (3, .int 3), (4, .int yx), (5, .int yc), (6, .int 1)]) (st' := [.int 2, .int 0]) (by rfl) ?_
  refine Pa.ist (by rfl) (by rfl) (.inl rfl) (by rfl) (by rfl) ?_
  refine Pa.mono (c_bod0_2 N (uI (uI (uI yA 30 6 0) 33 0 11) 30 6 1)) (fun yu A1 hu => ?_)
  obtain ⟨rfl, hu⟩ := hu
  rw [hu]
  show Pa N 39 27 [(7, .int 2), (0, .ref 30), (1, .ref ya), (2, .int 0), (3, .int 3), (4, .int yx), (5, .int yc), (6, .int 1)] [.int 30] (uI (uI (uI yA 30 6 0) 33 0 11) 30 6 1) _
  refine Pa.mp 2 (pc' := 30) (l' := [(8, .int 30), (7, .int 2), (0, .ref 30), (1, .ref ya), (2, .int 0), (3, .int 3), (4, .int yx), (5, .int yc), (6, .int 1)]) (st' := [.ref 30]) (by rfl) ?_
  refine Pa.gfI (v := 1) (by rfl) (by rfl) (.inl rfl) (by rfl) (by show (uI (uI (uI yA 30 6 0) 33 0 11) 30 6 1).1 30 6 = 1; rw [uI_h]) ?_
  refine Pa.ic (x := 24) (pc' := 35) (by rfl) (by rfl) (by decide) ?_
  refine Pa.if2k false (by rfl) (by rfl) (by decide) ?_
  show Pa N 39 38 [(8, .int 30), (7, .int 2), (0, .ref 30), (1, .ref ya), (2, .int 0), (3, .int 3), (4, .int yx), (5, .int yc), (6, .int 1)] [] (uI (uI (uI yA 30 6 0) 33 0 11) 30 6 1) _
  refine Pa.mp 1 (pc' := 39) (l' := [(8, .int 30), (7, .int 2), (0, .ref 30), (1, .ref ya), (2, .int 0), (3, .int 3), (4, .int yx), (5, .int yc), (6, .int 1)]) (st' := [.ref 30]) (by rfl) ?_
  refine Pa.gfR (by rfl) (by rfl) (.inl rfl) (by rfl) ?_
  show Pa N 39 42 [(8, .int 30), (7, .int 2), (0, .ref 30), (1, .ref ya), (2, .int 0), (3, .int 3), (4, .int yx), (5, .int yc), (6, .int 1)] [.ref 33] (uI (uI (uI yA 30 6 0) 33 0 11) 30 6 1) _
  refine Pa.mp 1 (pc' := 43) (l' := [(8, .int 30), (7, .int 2), (0, .ref 30), (1, .ref ya), (2, .int 0), (3, .int 3), (4, .int yx), (5, .int yc), (6, .int 1)]) (st' := [.ref 30, .ref 33]) (by rfl) ?_
  refine Pa.gfI (v := 1) (by rfl) (by rfl) (.inl rfl) (by rfl) (by show (uI (uI (uI yA 30 6 0) 33 0 11) 30 6 1).1 30 6 = 1; rw [uI_h]) ?_
  refine Pa.mp 1 (pc' := 48) (l' := [(8, .int 30), (7, .int 2), (0, .ref 30), (1, .ref ya), (2, .int 0), (3, .int 3), (4, .int yx), (5, .int yc), (6, .int 1)]) (st' := [.int 30, .int 1, .ref 33]) (by rfl) ?_
  refine Pa.asts (j' := 1) (by rfl) (by rfl) (by rfl) (fun h3 h4 => ?_)
  show Pa N 39 49 [(8, .int 30), (7, .int 2), (0, .ref 30), (1, .ref ya), (2, .int 0), (3, .int 3), (4, .int yx), (5, .int yc), (6, .int 1)] [] (uI (uI (uI (uI yA 30 6 0) 33 0 11) 30 6 1) 33 1 30) _
  refine Pa.mp 2 (pc' := 51) (l' := [(8, .int 30), (7, .int 2), (0, .ref 30), (1, .ref ya), (2, .int 0), (3, .int 3), (4, .int yx), (5, .int yc), (6, .int 1)]) (st' := [.ref 30, .ref 30]) (by rfl) ?_
  refine Pa.gfI (v := 1) (by rfl) (by rfl) (.inl rfl) (by rfl) (by show (uI (uI (uI (uI yA 30 6 0) 33 0 11) 30 6 1) 33 1 30).1 30 6 = 1; rw [uI_c (by decide), uI_h]) ?_
  refine Pa.ic (x := 1) (pc' := 55) (by rfl) (by rfl) (by decide) ?_
  refine Pa.mp 1 (pc' := 56) (l' := [(8, .int 30), (7, .int 2), (0, .ref 30), (1, .ref ya), (2, .int 0), (3, .int 3), (4, .int yx), (5, .int yc), (6, .int 1)]) (st' := [.int 2, .ref 30]) (by rfl) ?_
  refine Pa.pfI (by rfl) (by rfl) (.inl rfl) (by rfl) ?_
  show Pa N 39 59 [(8, .int 30), (7, .int 2), (0, .ref 30), (1, .ref ya), (2, .int 0), (3, .int 3), (4, .int yx), (5, .int yc), (6, .int 1)] [] (uI (uI (uI (uI (uI yA 30 6 0) 33 0 11) 30 6 1) 33 1 30) 30 6 2) _
  refine Pa.mp 1 (pc' := 61) (l' := [(8, .int 30), (7, .int 2), (0, .ref 30), (1, .ref ya), (2, .int 0), (3, .int 3), (4, .int yx), (5, .int yc), (6, .int 1)]) (st' := [.int 2]) (by rfl) ?_
  refine Pa.ist (by rfl) (by rfl) (.inl rfl) (by rfl) (by rfl) ?_
  refine Pa.mono (c_abv2 N (uI (uI (uI (uI (uI yA 30 6 0) 33 0 11) 30 6 1) 33 1 30) 30 6 2)) (fun yu A1 hu => ?_)
  obtain ⟨rfl, hu⟩ := hu
  rw [hu]
  show Pa N 39 64 [(8, .int 30), (7, .int 2), (0, .ref 30), (1, .ref ya), (2, .int 0), (3, .int 3), (4, .int yx), (5, .int yc), (6, .int 1)] [.int 0] (uI (uI (uI (uI (uI yA 30 6 0) 33 0 11) 30 6 1) 33 1 30) 30 6 2) _
  refine Pa.mp 2 (pc' := 68) (l' := [(9, .int 0), (8, .int 30), (7, .int 2), (0, .ref 30), (1, .ref ya), (2, .int 0), (3, .int 3), (4, .int yx), (5, .int yc), (6, .int 1)]) (st' := [.int 1]) (by rfl) ?_
  refine Pa.ic (x := 1) (pc' := 69) (by rfl) (by rfl) (by decide) ?_
  refine Pa.mp 3 (pc' := 74) (l' := [(10, .int 2), (9, .int 0), (8, .int 30), (7, .int 2), (0, .ref 30), (1, .ref ya), (2, .int 0), (3, .int 3), (4, .int yx), (5, .int yc), (6, .int 1)]) (st' := [.int 30]) (by rfl) ?_
  refine Pa.mp 1 (pc' := 229) (l' := [(10, .int 2), (9, .int 0), (8, .int 30), (7, .int 2), (0, .ref 30), (1, .ref ya), (2, .int 0), (3, .int 3), (4, .int yx), (5, .int yc), (6, .int 1)]) (st' := []) (by rfl) ?_
  refine Pa.mp 2 (pc' := 231) (l' := [(10, .int 2), (9, .int 0), (8, .int 30), (7, .int 2), (0, .ref 30), (1, .ref ya), (2, .int 0), (3, .int 3), (4, .int yx), (5, .int yc), (6, .int 1)]) (st' := [.ref ya, .ref 30]) (by rfl) ?_
  refine Pa.ic (x := 0) (pc' := 232) (by rfl) (by rfl) (by decide) ?_
  refine Pa.mp 4 (pc' := 240) (l' := [(10, .int 2), (9, .int 0), (8, .int 30), (7, .int 2), (0, .ref 30), (1, .ref ya), (2, .int 0), (3, .int 3), (4, .int yx), (5, .int yc), (6, .int 1)]) (st' := [.int 2, .int yc, .int yx, .int 0, .int 0, .ref ya, .ref 30]) (by rfl) ?_
  refine Pa.inv (by rfl) (by rfl) (.inl rfl) (by rfl) ?_
  show Pa N 39 0 [(0, .ref 30), (1, .ref ya), (2, .int 0), (3, .int 0), (4, .int yx), (5, .int yc), (6, .int 2)] [] (uI (uI (uI (uI (uI yA 30 6 0) 33 0 11) 30 6 1) 33 1 30) 30 6 2) _
  refine Pa.mp 2 (pc' := 2) (l' := [(0, .ref 30), (1, .ref ya), (2, .int 0), (3, .int 0), (4, .int yx), (5, .int yc), (6, .int 2)]) (st' := [.int 0, .int 0]) (by rfl) ?_
  refine Pa.ist (by rfl) (by rfl) (.inl rfl) (by rfl) (by rfl) ?_
  refine Pa.mono (c_kwb0_0 N (uI (uI (uI (uI (uI yA 30 6 0) 33 0 11) 30 6 1) 33 1 30) 30 6 2)) (fun yu A1 hu => ?_)
  obtain ⟨rfl, hu⟩ := hu
  rw [hu]
  show Pa N 39 5 [(0, .ref 30), (1, .ref ya), (2, .int 0), (3, .int 0), (4, .int yx), (5, .int yc), (6, .int 2)] [.int 0] (uI (uI (uI (uI (uI yA 30 6 0) 33 0 11) 30 6 1) 33 1 30) 30 6 2) _
  refine Pa.mp 2 (pc' := 9) (l' := [(7, .int 0), (0, .ref 30), (1, .ref ya), (2, .int 0), (3, .int 0), (4, .int yx), (5, .int yc), (6, .int 2)]) (st' := [.int 0]) (by rfl) ?_
  refine Pa.if1k false (by rfl) (by rfl) (by decide) ?_
  show Pa N 39 12 [(7, .int 0), (0, .ref 30), (1, .ref ya), (2, .int 0), (3, .int 0), (4, .int yx), (5, .int yc), (6, .int 2)] [] (uI (uI (uI (uI (uI yA 30 6 0) 33 0 11) 30 6 1) 33 1 30) 30 6 2) _
  refine Pa.mp 1 (pc' := 14) (l' := [(7, .int 0), (0, .ref 30), (1, .ref ya), (2, .int 0), (3, .int 0), (4, .int yx), (5, .int yc), (6, .int 2)]) (st' := [.int 2]) (by rfl) ?_
  refine Pa.ic (x := 30) (pc' := 16) (by rfl) (by rfl) (by decide) ?_
  refine Pa.if2k true (by rfl) (by rfl) (by decide) ?_
  show Pa N 39 21 [(7, .int 0), (0, .ref 30), (1, .ref ya), (2, .int 0), (3, .int 0), (4, .int yx), (5, .int yc), (6, .int 2)] [] (uI (uI (uI (uI (uI yA 30 6 0) 33 0 11) 30 6 1) 33 1 30) 30 6 2) _
  refine Pa.mp 2 (pc' := 24) (l' := [(7, .int 0), (0, .ref 30), (1, .ref ya), (2, .int 0), (3, .int 0), (4, .int yx), (5, .int yc), (6, .int 2)]) (st' := [.int 0, .int 0]) (by rfl) ?_
  refine Pa.ist (by rfl) (by rfl) (.inl rfl) (by rfl) (by rfl) ?_
  refine Pa.mono (c_bod0_0 N (uI (uI (uI (uI (uI yA 30 6 0) 33 0 11) 30 6 1) 33 1 30) 30 6 2)) (fun yu A1 hu => ?_)
  obtain ⟨rfl, hu⟩ := hu
  rw [hu]
  show Pa N 39 27 [(7, .int 0), (0, .ref 30), (1, .ref ya), (2, .int 0), (3, .int 0), (4, .int yx), (5, .int yc), (6, .int 2)] [.int 10] (uI (uI (uI (uI (uI yA 30 6 0) 33 0 11) 30 6 1) 33 1 30) 30 6 2) _
  refine Pa.mp 2 (pc' := 30) (l' := [(8, .int 10), (7, .int 0), (0, .ref 30), (1, .ref ya), (2, .int 0), (3, .int 0), (4, .int yx), (5, .int yc), (6, .int 2)]) (st' := [.ref 30]) (by rfl) ?_
  refine Pa.gfI (v := 2) (by rfl) (by rfl) (.inl rfl) (by rfl) (by show (uI (uI (uI (uI (uI yA 30 6 0) 33 0 11) 30 6 1) 33 1 30) 30 6 2).1 30 6 = 2; rw [uI_h]) ?_
  refine Pa.ic (x := 24) (pc' := 35) (by rfl) (by rfl) (by decide) ?_
  refine Pa.if2k false (by rfl) (by rfl) (by decide) ?_
  show Pa N 39 38 [(8, .int 10), (7, .int 0), (0, .ref 30), (1, .ref ya), (2, .int 0), (3, .int 0), (4, .int yx), (5, .int yc), (6, .int 2)] [] (uI (uI (uI (uI (uI yA 30 6 0) 33 0 11) 30 6 1) 33 1 30) 30 6 2) _
  refine Pa.mp 1 (pc' := 39) (l' := [(8, .int 10), (7, .int 0), (0, .ref 30), (1, .ref ya), (2, .int 0), (3, .int 0), (4, .int yx), (5, .int yc), (6, .int 2)]) (st' := [.ref 30]) (by rfl) ?_
  refine Pa.gfR (by rfl) (by rfl) (.inl rfl) (by rfl) ?_
  show Pa N 39 42 [(8, .int 10), (7, .int 0), (0, .ref 30), (1, .ref ya), (2, .int 0), (3, .int 0), (4, .int yx), (5, .int yc), (6, .int 2)] [.ref 33] (uI (uI (uI (uI (uI yA 30 6 0) 33 0 11) 30 6 1) 33 1 30) 30 6 2) _
  refine Pa.mp 1 (pc' := 43) (l' := [(8, .int 10), (7, .int 0), (0, .ref 30), (1, .ref ya), (2, .int 0), (3, .int 0), (4, .int yx), (5, .int yc), (6, .int 2)]) (st' := [.ref 30, .ref 33]) (by rfl) ?_
  refine Pa.gfI (v := 2) (by rfl) (by rfl) (.inl rfl) (by rfl) (by show (uI (uI (uI (uI (uI yA 30 6 0) 33 0 11) 30 6 1) 33 1 30) 30 6 2).1 30 6 = 2; rw [uI_h]) ?_
  refine Pa.mp 1 (pc' := 48) (l' := [(8, .int 10), (7, .int 0), (0, .ref 30), (1, .ref ya), (2, .int 0), (3, .int 0), (4, .int yx), (5, .int yc), (6, .int 2)]) (st' := [.int 10, .int 2, .ref 33]) (by rfl) ?_
  refine Pa.asts (j' := 2) (by rfl) (by rfl) (by rfl) (fun h5 h6 => ?_)
  show Pa N 39 49 [(8, .int 10), (7, .int 0), (0, .ref 30), (1, .ref ya), (2, .int 0), (3, .int 0), (4, .int yx), (5, .int yc), (6, .int 2)] [] (uI (uI (uI (uI (uI (uI yA 30 6 0) 33 0 11) 30 6 1) 33 1 30) 30 6 2) 33 2 10) _
  refine Pa.mp 2 (pc' := 51) (l' := [(8, .int 10), (7, .int 0), (0, .ref 30), (1, .ref ya), (2, .int 0), (3, .int 0), (4, .int yx), (5, .int yc), (6, .int 2)]) (st' := [.ref 30, .ref 30]) (by rfl) ?_
  refine Pa.gfI (v := 2) (by rfl) (by rfl) (.inl rfl) (by rfl) (by show (uI (uI (uI (uI (uI (uI yA 30 6 0) 33 0 11) 30 6 1) 33 1 30) 30 6 2) 33 2 10).1 30 6 = 2; rw [uI_c (by decide), uI_h]) ?_
  refine Pa.ic (x := 1) (pc' := 55) (by rfl) (by rfl) (by decide) ?_
  refine Pa.mp 1 (pc' := 56) (l' := [(8, .int 10), (7, .int 0), (0, .ref 30), (1, .ref ya), (2, .int 0), (3, .int 0), (4, .int yx), (5, .int yc), (6, .int 2)]) (st' := [.int 3, .ref 30]) (by rfl) ?_
  refine Pa.pfI (by rfl) (by rfl) (.inl rfl) (by rfl) ?_
  show Pa N 39 59 [(8, .int 10), (7, .int 0), (0, .ref 30), (1, .ref ya), (2, .int 0), (3, .int 0), (4, .int yx), (5, .int yc), (6, .int 2)] [] (uI (uI (uI (uI (uI (uI (uI yA 30 6 0) 33 0 11) 30 6 1) 33 1 30) 30 6 2) 33 2 10) 30 6 3) _
  refine Pa.mp 1 (pc' := 61) (l' := [(8, .int 10), (7, .int 0), (0, .ref 30), (1, .ref ya), (2, .int 0), (3, .int 0), (4, .int yx), (5, .int yc), (6, .int 2)]) (st' := [.int 0]) (by rfl) ?_
  refine Pa.ist (by rfl) (by rfl) (.inl rfl) (by rfl) (by rfl) ?_
  refine Pa.mono (c_abv0 N (uI (uI (uI (uI (uI (uI (uI yA 30 6 0) 33 0 11) 30 6 1) 33 1 30) 30 6 2) 33 2 10) 30 6 3)) (fun yu A1 hu => ?_)
  obtain ⟨rfl, hu⟩ := hu
  rw [hu]
  show Pa N 39 64 [(8, .int 10), (7, .int 0), (0, .ref 30), (1, .ref ya), (2, .int 0), (3, .int 0), (4, .int yx), (5, .int yc), (6, .int 2)] [.int (-1)] (uI (uI (uI (uI (uI (uI (uI yA 30 6 0) 33 0 11) 30 6 1) 33 1 30) 30 6 2) 33 2 10) 30 6 3) _
  refine Pa.mp 2 (pc' := 68) (l' := [(9, .int (-1)), (8, .int 10), (7, .int 0), (0, .ref 30), (1, .ref ya), (2, .int 0), (3, .int 0), (4, .int yx), (5, .int yc), (6, .int 2)]) (st' := [.int 2]) (by rfl) ?_
  refine Pa.ic (x := 1) (pc' := 69) (by rfl) (by rfl) (by decide) ?_
  refine Pa.mp 3 (pc' := 74) (l' := [(10, .int 3), (9, .int (-1)), (8, .int 10), (7, .int 0), (0, .ref 30), (1, .ref ya), (2, .int 0), (3, .int 0), (4, .int yx), (5, .int yc), (6, .int 2)]) (st' := [.int 10]) (by rfl) ?_
  refine Pa.mp 1 (pc' := 164) (l' := [(10, .int 3), (9, .int (-1)), (8, .int 10), (7, .int 0), (0, .ref 30), (1, .ref ya), (2, .int 0), (3, .int 0), (4, .int yx), (5, .int yc), (6, .int 2)]) (st' := []) (by rfl) ?_
  refine Pa.mp 3 (pc' := 169) (l' := [(10, .int 3), (9, .int (-1)), (8, .int 10), (7, .int 0), (0, .ref 30), (1, .ref ya), (2, .int 0), (3, .int 0), (4, .int yx), (5, .int yc), (6, .int 2)]) (st' := [.int (yx + yc)]) (by rfl) ?_
  refine Pa.iret (by rfl) ?_
  show Pa N 39 243 [(10, .int 2), (9, .int 0), (8, .int 30), (7, .int 2), (0, .ref 30), (1, .ref ya), (2, .int 0), (3, .int 3), (4, .int yx), (5, .int yc), (6, .int 1)] [.int (yx + yc)] (uI (uI (uI (uI (uI (uI (uI yA 30 6 0) 33 0 11) 30 6 1) 33 1 30) 30 6 2) 33 2 10) 30 6 3) _
  refine Pa.ic (x := 4) (pc' := 244) (by rfl) (by rfl) (by decide) ?_
  refine Pa.mp 1 (pc' := 245) (l' := [(10, .int 2), (9, .int 0), (8, .int 30), (7, .int 2), (0, .ref 30), (1, .ref ya), (2, .int 0), (3, .int 3), (4, .int yx), (5, .int yc), (6, .int 1)]) (st' := [.int ((yx + yc) - 4)]) (by rfl) ?_
  refine Pa.iret (by rfl) ?_
  show Pa N 39 186 [(10, .int 1), (9, .int (-1)), (8, .int 11), (7, .int 0), (0, .ref 30), (1, .ref ya), (2, .int 1), (3, .int 3), (4, .int yx), (5, .int yc), (6, .int 0)] [.int ((yx + yc) - 4)] (uI (uI (uI (uI (uI (uI (uI yA 30 6 0) 33 0 11) 30 6 1) 33 1 30) 30 6 2) 33 2 10) 30 6 3) _
  refine Pa.ic (x := 2) (pc' := 187) (by rfl) (by rfl) (by decide) ?_
  refine Pa.mp 1 (pc' := 188) (l' := [(10, .int 1), (9, .int (-1)), (8, .int 11), (7, .int 0), (0, .ref 30), (1, .ref ya), (2, .int 1), (3, .int 3), (4, .int yx), (5, .int yc), (6, .int 0)]) (st' := [.int (((yx + yc) - 4) * 2)]) (by rfl) ?_
  refine Pa.iret (by rfl) ?_
  exact l1

theorem bpf1_4 {N : Nat} {yA : AW} {yQ : Option Value → AW → Prop} {ya : Nat} (yx yc : Int32) (yha : 129 ≤ ya) (hk : yA.1 ya 1 = 4)
    (l1 : yQ (some (.int (-((yx + yc) * 2)))) (uI (uI (uI (uI (uI (uI (uI yA 30 6 0) 33 0 50) 30 6 1) 33 1 11) 30 6 2) 33 2 10) 30 6 3)) :
    Pa N 39 0 [(0, .ref 30), (1, .ref ya), (2, .int 1), (3, .int 4), (4, .int yx), (5, .int yc), (6, .int 0)] [] (uI yA 30 6 0) yQ := by
  refine Pa.mp 2 (pc' := 2) (l' := [(0, .ref 30), (1, .ref ya), (2, .int 1), (3, .int 4), (4, .int yx), (5, .int yc), (6, .int 0)]) (st' := [.int 4, .int 1]) (by rfl) ?_
  refine Pa.ist (by rfl) (by rfl) (.inl rfl) (by rfl) (by rfl) ?_
  refine Pa.mono (c_kwb1_4 N (uI yA 30 6 0)) (fun yu A1 hu => ?_)
  obtain ⟨rfl, hu⟩ := hu
  rw [hu]
  show Pa N 39 5 [(0, .ref 30), (1, .ref ya), (2, .int 1), (3, .int 4), (4, .int yx), (5, .int yc), (6, .int 0)] [.int 4] (uI yA 30 6 0) _
  refine Pa.mp 2 (pc' := 9) (l' := [(7, .int 4), (0, .ref 30), (1, .ref ya), (2, .int 1), (3, .int 4), (4, .int yx), (5, .int yc), (6, .int 0)]) (st' := [.int 4]) (by rfl) ?_
  refine Pa.if1k false (by rfl) (by rfl) (by decide) ?_
  show Pa N 39 12 [(7, .int 4), (0, .ref 30), (1, .ref ya), (2, .int 1), (3, .int 4), (4, .int yx), (5, .int yc), (6, .int 0)] [] (uI yA 30 6 0) _
  refine Pa.mp 1 (pc' := 14) (l' := [(7, .int 4), (0, .ref 30), (1, .ref ya), (2, .int 1), (3, .int 4), (4, .int yx), (5, .int yc), (6, .int 0)]) (st' := [.int 0]) (by rfl) ?_
  refine Pa.ic (x := 30) (pc' := 16) (by rfl) (by rfl) (by decide) ?_
  refine Pa.if2k true (by rfl) (by rfl) (by decide) ?_
  show Pa N 39 21 [(7, .int 4), (0, .ref 30), (1, .ref ya), (2, .int 1), (3, .int 4), (4, .int yx), (5, .int yc), (6, .int 0)] [] (uI yA 30 6 0) _
  refine Pa.mp 2 (pc' := 24) (l' := [(7, .int 4), (0, .ref 30), (1, .ref ya), (2, .int 1), (3, .int 4), (4, .int yx), (5, .int yc), (6, .int 0)]) (st' := [.int 4, .int 1]) (by rfl) ?_
  refine Pa.ist (by rfl) (by rfl) (.inl rfl) (by rfl) (by rfl) ?_
  refine Pa.mono (c_bod1_4 N (uI yA 30 6 0)) (fun yu A1 hu => ?_)
  obtain ⟨rfl, hu⟩ := hu
  rw [hu]
  show Pa N 39 27 [(7, .int 4), (0, .ref 30), (1, .ref ya), (2, .int 1), (3, .int 4), (4, .int yx), (5, .int yc), (6, .int 0)] [.int 50] (uI yA 30 6 0) _
  refine Pa.mp 2 (pc' := 30) (l' := [(8, .int 50), (7, .int 4), (0, .ref 30), (1, .ref ya), (2, .int 1), (3, .int 4), (4, .int yx), (5, .int yc), (6, .int 0)]) (st' := [.ref 30]) (by rfl) ?_
  refine Pa.gfI (v := 0) (by rfl) (by rfl) (.inl rfl) (by rfl) (by show (uI yA 30 6 0).1 30 6 = 0; rw [uI_h]) ?_
  refine Pa.ic (x := 24) (pc' := 35) (by rfl) (by rfl) (by decide) ?_
  refine Pa.if2k false (by rfl) (by rfl) (by decide) ?_
  show Pa N 39 38 [(8, .int 50), (7, .int 4), (0, .ref 30), (1, .ref ya), (2, .int 1), (3, .int 4), (4, .int yx), (5, .int yc), (6, .int 0)] [] (uI yA 30 6 0) _
  refine Pa.mp 1 (pc' := 39) (l' := [(8, .int 50), (7, .int 4), (0, .ref 30), (1, .ref ya), (2, .int 1), (3, .int 4), (4, .int yx), (5, .int yc), (6, .int 0)]) (st' := [.ref 30]) (by rfl) ?_
  refine Pa.gfR (by rfl) (by rfl) (.inl rfl) (by rfl) ?_
  show Pa N 39 42 [(8, .int 50), (7, .int 4), (0, .ref 30), (1, .ref ya), (2, .int 1), (3, .int 4), (4, .int yx), (5, .int yc), (6, .int 0)] [.ref 33] (uI yA 30 6 0) _
  refine Pa.mp 1 (pc' := 43) (l' := [(8, .int 50), (7, .int 4), (0, .ref 30), (1, .ref ya), (2, .int 1), (3, .int 4), (4, .int yx), (5, .int yc), (6, .int 0)]) (st' := [.ref 30, .ref 33]) (by rfl) ?_
  refine Pa.gfI (v := 0) (by rfl) (by rfl) (.inl rfl) (by rfl) (by show (uI yA 30 6 0).1 30 6 = 0; rw [uI_h]) ?_
  refine Pa.mp 1 (pc' := 48) (l' := [(8, .int 50), (7, .int 4), (0, .ref 30), (1, .ref ya), (2, .int 1), (3, .int 4), (4, .int yx), (5, .int yc), (6, .int 0)]) (st' := [.int 50, .int 0, .ref 33]) (by rfl) ?_
  refine Pa.asts (j' := 0) (by rfl) (by rfl) (by rfl) (fun h1 h2 => ?_)
  show Pa N 39 49 [(8, .int 50), (7, .int 4), (0, .ref 30), (1, .ref ya), (2, .int 1), (3, .int 4), (4, .int yx), (5, .int yc), (6, .int 0)] [] (uI (uI yA 30 6 0) 33 0 50) _
  refine Pa.mp 2 (pc' := 51) (l' := [(8, .int 50), (7, .int 4), (0, .ref 30), (1, .ref ya), (2, .int 1), (3, .int 4), (4, .int yx), (5, .int yc), (6, .int 0)]) (st' := [.ref 30, .ref 30]) (by rfl) ?_
  refine Pa.gfI (v := 0) (by rfl) (by rfl) (.inl rfl) (by rfl) (by show (uI (uI yA 30 6 0) 33 0 50).1 30 6 = 0; rw [uI_c (by decide), uI_h]) ?_
  refine Pa.ic (x := 1) (pc' := 55) (by rfl) (by rfl) (by decide) ?_
  refine Pa.mp 1 (pc' := 56) (l' := [(8, .int 50), (7, .int 4), (0, .ref 30), (1, .ref ya), (2, .int 1), (3, .int 4), (4, .int yx), (5, .int yc), (6, .int 0)]) (st' := [.int 1, .ref 30]) (by rfl) ?_
  refine Pa.pfI (by rfl) (by rfl) (.inl rfl) (by rfl) ?_
  show Pa N 39 59 [(8, .int 50), (7, .int 4), (0, .ref 30), (1, .ref ya), (2, .int 1), (3, .int 4), (4, .int yx), (5, .int yc), (6, .int 0)] [] (uI (uI (uI yA 30 6 0) 33 0 50) 30 6 1) _
  refine Pa.mp 1 (pc' := 61) (l' := [(8, .int 50), (7, .int 4), (0, .ref 30), (1, .ref ya), (2, .int 1), (3, .int 4), (4, .int yx), (5, .int yc), (6, .int 0)]) (st' := [.int 4]) (by rfl) ?_
  refine Pa.ist (by rfl) (by rfl) (.inl rfl) (by rfl) (by rfl) ?_
  refine Pa.mono (c_abv4 N (uI (uI (uI yA 30 6 0) 33 0 50) 30 6 1)) (fun yu A1 hu => ?_)
  obtain ⟨rfl, hu⟩ := hu
  rw [hu]
  show Pa N 39 64 [(8, .int 50), (7, .int 4), (0, .ref 30), (1, .ref ya), (2, .int 1), (3, .int 4), (4, .int yx), (5, .int yc), (6, .int 0)] [.int 0] (uI (uI (uI yA 30 6 0) 33 0 50) 30 6 1) _
  refine Pa.mp 2 (pc' := 68) (l' := [(9, .int 0), (8, .int 50), (7, .int 4), (0, .ref 30), (1, .ref ya), (2, .int 1), (3, .int 4), (4, .int yx), (5, .int yc), (6, .int 0)]) (st' := [.int 0]) (by rfl) ?_
  refine Pa.ic (x := 1) (pc' := 69) (by rfl) (by rfl) (by decide) ?_
  refine Pa.mp 3 (pc' := 74) (l' := [(10, .int 1), (9, .int 0), (8, .int 50), (7, .int 4), (0, .ref 30), (1, .ref ya), (2, .int 1), (3, .int 4), (4, .int yx), (5, .int yc), (6, .int 0)]) (st' := [.int 50]) (by rfl) ?_
  refine Pa.mp 1 (pc' := 281) (l' := [(10, .int 1), (9, .int 0), (8, .int 50), (7, .int 4), (0, .ref 30), (1, .ref ya), (2, .int 1), (3, .int 4), (4, .int yx), (5, .int yc), (6, .int 0)]) (st' := []) (by rfl) ?_
  refine Pa.mp 2 (pc' := 283) (l' := [(10, .int 1), (9, .int 0), (8, .int 50), (7, .int 4), (0, .ref 30), (1, .ref ya), (2, .int 1), (3, .int 4), (4, .int yx), (5, .int yc), (6, .int 0)]) (st' := [.ref ya, .ref 30]) (by rfl) ?_
  refine Pa.ic (x := 1) (pc' := 284) (by rfl) (by rfl) (by decide) ?_
  refine Pa.mp 4 (pc' := 292) (l' := [(10, .int 1), (9, .int 0), (8, .int 50), (7, .int 4), (0, .ref 30), (1, .ref ya), (2, .int 1), (3, .int 4), (4, .int yx), (5, .int yc), (6, .int 0)]) (st' := [.int 1, .int yc, .int yx, .int 0, .int 1, .ref ya, .ref 30]) (by rfl) ?_
  refine Pa.inv (by rfl) (by rfl) (.inl rfl) (by rfl) ?_
  show Pa N 39 0 [(0, .ref 30), (1, .ref ya), (2, .int 1), (3, .int 0), (4, .int yx), (5, .int yc), (6, .int 1)] [] (uI (uI (uI yA 30 6 0) 33 0 50) 30 6 1) _
  refine Pa.mp 2 (pc' := 2) (l' := [(0, .ref 30), (1, .ref ya), (2, .int 1), (3, .int 0), (4, .int yx), (5, .int yc), (6, .int 1)]) (st' := [.int 0, .int 1]) (by rfl) ?_
  refine Pa.ist (by rfl) (by rfl) (.inl rfl) (by rfl) (by rfl) ?_
  refine Pa.mono (c_kwb1_0 N (uI (uI (uI yA 30 6 0) 33 0 50) 30 6 1)) (fun yu A1 hu => ?_)
  obtain ⟨rfl, hu⟩ := hu
  rw [hu]
  show Pa N 39 5 [(0, .ref 30), (1, .ref ya), (2, .int 1), (3, .int 0), (4, .int yx), (5, .int yc), (6, .int 1)] [.int 0] (uI (uI (uI yA 30 6 0) 33 0 50) 30 6 1) _
  refine Pa.mp 2 (pc' := 9) (l' := [(7, .int 0), (0, .ref 30), (1, .ref ya), (2, .int 1), (3, .int 0), (4, .int yx), (5, .int yc), (6, .int 1)]) (st' := [.int 0]) (by rfl) ?_
  refine Pa.if1k false (by rfl) (by rfl) (by decide) ?_
  show Pa N 39 12 [(7, .int 0), (0, .ref 30), (1, .ref ya), (2, .int 1), (3, .int 0), (4, .int yx), (5, .int yc), (6, .int 1)] [] (uI (uI (uI yA 30 6 0) 33 0 50) 30 6 1) _
  refine Pa.mp 1 (pc' := 14) (l' := [(7, .int 0), (0, .ref 30), (1, .ref ya), (2, .int 1), (3, .int 0), (4, .int yx), (5, .int yc), (6, .int 1)]) (st' := [.int 1]) (by rfl) ?_
  refine Pa.ic (x := 30) (pc' := 16) (by rfl) (by rfl) (by decide) ?_
  refine Pa.if2k true (by rfl) (by rfl) (by decide) ?_
  show Pa N 39 21 [(7, .int 0), (0, .ref 30), (1, .ref ya), (2, .int 1), (3, .int 0), (4, .int yx), (5, .int yc), (6, .int 1)] [] (uI (uI (uI yA 30 6 0) 33 0 50) 30 6 1) _
  refine Pa.mp 2 (pc' := 24) (l' := [(7, .int 0), (0, .ref 30), (1, .ref ya), (2, .int 1), (3, .int 0), (4, .int yx), (5, .int yc), (6, .int 1)]) (st' := [.int 0, .int 1]) (by rfl) ?_
  refine Pa.ist (by rfl) (by rfl) (.inl rfl) (by rfl) (by rfl) ?_
  refine Pa.mono (c_bod1_0 N (uI (uI (uI yA 30 6 0) 33 0 50) 30 6 1)) (fun yu A1 hu => ?_)
  obtain ⟨rfl, hu⟩ := hu
  rw [hu]
  show Pa N 39 27 [(7, .int 0), (0, .ref 30), (1, .ref ya), (2, .int 1), (3, .int 0), (4, .int yx), (5, .int yc), (6, .int 1)] [.int 11] (uI (uI (uI yA 30 6 0) 33 0 50) 30 6 1) _
  refine Pa.mp 2 (pc' := 30) (l' := [(8, .int 11), (7, .int 0), (0, .ref 30), (1, .ref ya), (2, .int 1), (3, .int 0), (4, .int yx), (5, .int yc), (6, .int 1)]) (st' := [.ref 30]) (by rfl) ?_
  refine Pa.gfI (v := 1) (by rfl) (by rfl) (.inl rfl) (by rfl) (by show (uI (uI (uI yA 30 6 0) 33 0 50) 30 6 1).1 30 6 = 1; rw [uI_h]) ?_
  refine Pa.ic (x := 24) (pc' := 35) (by rfl) (by rfl) (by decide) ?_
  refine Pa.if2k false (by rfl) (by rfl) (by decide) ?_
  show Pa N 39 38 [(8, .int 11), (7, .int 0), (0, .ref 30), (1, .ref ya), (2, .int 1), (3, .int 0), (4, .int yx), (5, .int yc), (6, .int 1)] [] (uI (uI (uI yA 30 6 0) 33 0 50) 30 6 1) _
  refine Pa.mp 1 (pc' := 39) (l' := [(8, .int 11), (7, .int 0), (0, .ref 30), (1, .ref ya), (2, .int 1), (3, .int 0), (4, .int yx), (5, .int yc), (6, .int 1)]) (st' := [.ref 30]) (by rfl) ?_
  refine Pa.gfR (by rfl) (by rfl) (.inl rfl) (by rfl) ?_
  show Pa N 39 42 [(8, .int 11), (7, .int 0), (0, .ref 30), (1, .ref ya), (2, .int 1), (3, .int 0), (4, .int yx), (5, .int yc), (6, .int 1)] [.ref 33] (uI (uI (uI yA 30 6 0) 33 0 50) 30 6 1) _
  refine Pa.mp 1 (pc' := 43) (l' := [(8, .int 11), (7, .int 0), (0, .ref 30), (1, .ref ya), (2, .int 1), (3, .int 0), (4, .int yx), (5, .int yc), (6, .int 1)]) (st' := [.ref 30, .ref 33]) (by rfl) ?_
  refine Pa.gfI (v := 1) (by rfl) (by rfl) (.inl rfl) (by rfl) (by show (uI (uI (uI yA 30 6 0) 33 0 50) 30 6 1).1 30 6 = 1; rw [uI_h]) ?_
  refine Pa.mp 1 (pc' := 48) (l' := [(8, .int 11), (7, .int 0), (0, .ref 30), (1, .ref ya), (2, .int 1), (3, .int 0), (4, .int yx), (5, .int yc), (6, .int 1)]) (st' := [.int 11, .int 1, .ref 33]) (by rfl) ?_
  refine Pa.asts (j' := 1) (by rfl) (by rfl) (by rfl) (fun h3 h4 => ?_)
  show Pa N 39 49 [(8, .int 11), (7, .int 0), (0, .ref 30), (1, .ref ya), (2, .int 1), (3, .int 0), (4, .int yx), (5, .int yc), (6, .int 1)] [] (uI (uI (uI (uI yA 30 6 0) 33 0 50) 30 6 1) 33 1 11) _
  refine Pa.mp 2 (pc' := 51) (l' := [(8, .int 11), (7, .int 0), (0, .ref 30), (1, .ref ya), (2, .int 1), (3, .int 0), (4, .int yx), (5, .int yc), (6, .int 1)]) (st' := [.ref 30, .ref 30]) (by rfl) ?_
  refine Pa.gfI (v := 1) (by rfl) (by rfl) (.inl rfl) (by rfl) (by show (uI (uI (uI (uI yA 30 6 0) 33 0 50) 30 6 1) 33 1 11).1 30 6 = 1; rw [uI_c (by decide), uI_h]) ?_
  refine Pa.ic (x := 1) (pc' := 55) (by rfl) (by rfl) (by decide) ?_
  refine Pa.mp 1 (pc' := 56) (l' := [(8, .int 11), (7, .int 0), (0, .ref 30), (1, .ref ya), (2, .int 1), (3, .int 0), (4, .int yx), (5, .int yc), (6, .int 1)]) (st' := [.int 2, .ref 30]) (by rfl) ?_
  refine Pa.pfI (by rfl) (by rfl) (.inl rfl) (by rfl) ?_
  show Pa N 39 59 [(8, .int 11), (7, .int 0), (0, .ref 30), (1, .ref ya), (2, .int 1), (3, .int 0), (4, .int yx), (5, .int yc), (6, .int 1)] [] (uI (uI (uI (uI (uI yA 30 6 0) 33 0 50) 30 6 1) 33 1 11) 30 6 2) _
  refine Pa.mp 1 (pc' := 61) (l' := [(8, .int 11), (7, .int 0), (0, .ref 30), (1, .ref ya), (2, .int 1), (3, .int 0), (4, .int yx), (5, .int yc), (6, .int 1)]) (st' := [.int 0]) (by rfl) ?_
  refine Pa.ist (by rfl) (by rfl) (.inl rfl) (by rfl) (by rfl) ?_
  refine Pa.mono (c_abv0 N (uI (uI (uI (uI (uI yA 30 6 0) 33 0 50) 30 6 1) 33 1 11) 30 6 2)) (fun yu A1 hu => ?_)
  obtain ⟨rfl, hu⟩ := hu
  rw [hu]
  show Pa N 39 64 [(8, .int 11), (7, .int 0), (0, .ref 30), (1, .ref ya), (2, .int 1), (3, .int 0), (4, .int yx), (5, .int yc), (6, .int 1)] [.int (-1)] (uI (uI (uI (uI (uI yA 30 6 0) 33 0 50) 30 6 1) 33 1 11) 30 6 2) _
  refine Pa.mp 2 (pc' := 68) (l' := [(9, .int (-1)), (8, .int 11), (7, .int 0), (0, .ref 30), (1, .ref ya), (2, .int 1), (3, .int 0), (4, .int yx), (5, .int yc), (6, .int 1)]) (st' := [.int 1]) (by rfl) ?_
  refine Pa.ic (x := 1) (pc' := 69) (by rfl) (by rfl) (by decide) ?_
  refine Pa.mp 3 (pc' := 74) (l' := [(10, .int 2), (9, .int (-1)), (8, .int 11), (7, .int 0), (0, .ref 30), (1, .ref ya), (2, .int 1), (3, .int 0), (4, .int yx), (5, .int yc), (6, .int 1)]) (st' := [.int 11]) (by rfl) ?_
  refine Pa.mp 1 (pc' := 170) (l' := [(10, .int 2), (9, .int (-1)), (8, .int 11), (7, .int 0), (0, .ref 30), (1, .ref ya), (2, .int 1), (3, .int 0), (4, .int yx), (5, .int yc), (6, .int 1)]) (st' := []) (by rfl) ?_
  refine Pa.mp 2 (pc' := 172) (l' := [(10, .int 2), (9, .int (-1)), (8, .int 11), (7, .int 0), (0, .ref 30), (1, .ref ya), (2, .int 1), (3, .int 0), (4, .int yx), (5, .int yc), (6, .int 1)]) (st' := [.ref ya, .ref 30]) (by rfl) ?_
  refine Pa.ic (x := 0) (pc' := 173) (by rfl) (by rfl) (by decide) ?_
  refine Pa.mp 1 (pc' := 174) (l' := [(10, .int 2), (9, .int (-1)), (8, .int 11), (7, .int 0), (0, .ref 30), (1, .ref ya), (2, .int 1), (3, .int 0), (4, .int yx), (5, .int yc), (6, .int 1)]) (st' := [.ref ya, .int 0, .ref ya, .ref 30]) (by rfl) ?_
  refine Pa.gfI (v := 4) (by rfl) (by rfl) (.inr rfl) (by rfl) (by show (uI (uI (uI (uI (uI yA 30 6 0) 33 0 50) 30 6 1) 33 1 11) 30 6 2).1 ya 1 = 4; rw [uI_c (by omega), uI_c (by omega), uI_c (by omega), uI_c (by omega), uI_c (by omega), hk]) ?_
  refine Pa.mp 3 (pc' := 183) (l' := [(10, .int 2), (9, .int (-1)), (8, .int 11), (7, .int 0), (0, .ref 30), (1, .ref ya), (2, .int 1), (3, .int 0), (4, .int yx), (5, .int yc), (6, .int 1)]) (st' := [.int 2, .int yc, .int yx, .int 4, .int 0, .ref ya, .ref 30]) (by rfl) ?_
  refine Pa.inv (by rfl) (by rfl) (.inl rfl) (by rfl) ?_
  show Pa N 39 0 [(0, .ref 30), (1, .ref ya), (2, .int 0), (3, .int 4), (4, .int yx), (5, .int yc), (6, .int 2)] [] (uI (uI (uI (uI (uI yA 30 6 0) 33 0 50) 30 6 1) 33 1 11) 30 6 2) _
  refine Pa.mp 2 (pc' := 2) (l' := [(0, .ref 30), (1, .ref ya), (2, .int 0), (3, .int 4), (4, .int yx), (5, .int yc), (6, .int 2)]) (st' := [.int 4, .int 0]) (by rfl) ?_
  refine Pa.ist (by rfl) (by rfl) (.inl rfl) (by rfl) (by rfl) ?_
  refine Pa.mono (c_kwb0_4 N (uI (uI (uI (uI (uI yA 30 6 0) 33 0 50) 30 6 1) 33 1 11) 30 6 2)) (fun yu A1 hu => ?_)
  obtain ⟨rfl, hu⟩ := hu
  rw [hu]
  show Pa N 39 5 [(0, .ref 30), (1, .ref ya), (2, .int 0), (3, .int 4), (4, .int yx), (5, .int yc), (6, .int 2)] [.int 0] (uI (uI (uI (uI (uI yA 30 6 0) 33 0 50) 30 6 1) 33 1 11) 30 6 2) _
  refine Pa.mp 2 (pc' := 9) (l' := [(7, .int 0), (0, .ref 30), (1, .ref ya), (2, .int 0), (3, .int 4), (4, .int yx), (5, .int yc), (6, .int 2)]) (st' := [.int 0]) (by rfl) ?_
  refine Pa.if1k false (by rfl) (by rfl) (by decide) ?_
  show Pa N 39 12 [(7, .int 0), (0, .ref 30), (1, .ref ya), (2, .int 0), (3, .int 4), (4, .int yx), (5, .int yc), (6, .int 2)] [] (uI (uI (uI (uI (uI yA 30 6 0) 33 0 50) 30 6 1) 33 1 11) 30 6 2) _
  refine Pa.mp 1 (pc' := 14) (l' := [(7, .int 0), (0, .ref 30), (1, .ref ya), (2, .int 0), (3, .int 4), (4, .int yx), (5, .int yc), (6, .int 2)]) (st' := [.int 2]) (by rfl) ?_
  refine Pa.ic (x := 30) (pc' := 16) (by rfl) (by rfl) (by decide) ?_
  refine Pa.if2k true (by rfl) (by rfl) (by decide) ?_
  show Pa N 39 21 [(7, .int 0), (0, .ref 30), (1, .ref ya), (2, .int 0), (3, .int 4), (4, .int yx), (5, .int yc), (6, .int 2)] [] (uI (uI (uI (uI (uI yA 30 6 0) 33 0 50) 30 6 1) 33 1 11) 30 6 2) _
  refine Pa.mp 2 (pc' := 24) (l' := [(7, .int 0), (0, .ref 30), (1, .ref ya), (2, .int 0), (3, .int 4), (4, .int yx), (5, .int yc), (6, .int 2)]) (st' := [.int 0, .int 0]) (by rfl) ?_
  refine Pa.ist (by rfl) (by rfl) (.inl rfl) (by rfl) (by rfl) ?_
  refine Pa.mono (c_bod0_0 N (uI (uI (uI (uI (uI yA 30 6 0) 33 0 50) 30 6 1) 33 1 11) 30 6 2)) (fun yu A1 hu => ?_)
  obtain ⟨rfl, hu⟩ := hu
  rw [hu]
  show Pa N 39 27 [(7, .int 0), (0, .ref 30), (1, .ref ya), (2, .int 0), (3, .int 4), (4, .int yx), (5, .int yc), (6, .int 2)] [.int 10] (uI (uI (uI (uI (uI yA 30 6 0) 33 0 50) 30 6 1) 33 1 11) 30 6 2) _
  refine Pa.mp 2 (pc' := 30) (l' := [(8, .int 10), (7, .int 0), (0, .ref 30), (1, .ref ya), (2, .int 0), (3, .int 4), (4, .int yx), (5, .int yc), (6, .int 2)]) (st' := [.ref 30]) (by rfl) ?_
  refine Pa.gfI (v := 2) (by rfl) (by rfl) (.inl rfl) (by rfl) (by show (uI (uI (uI (uI (uI yA 30 6 0) 33 0 50) 30 6 1) 33 1 11) 30 6 2).1 30 6 = 2; rw [uI_h]) ?_
  refine Pa.ic (x := 24) (pc' := 35) (by rfl) (by rfl) (by decide) ?_
  refine Pa.if2k false (by rfl) (by rfl) (by decide) ?_
  show Pa N 39 38 [(8, .int 10), (7, .int 0), (0, .ref 30), (1, .ref ya), (2, .int 0), (3, .int 4), (4, .int yx), (5, .int yc), (6, .int 2)] [] (uI (uI (uI (uI (uI yA 30 6 0) 33 0 50) 30 6 1) 33 1 11) 30 6 2) _
  refine Pa.mp 1 (pc' := 39) (l' := [(8, .int 10), (7, .int 0), (0, .ref 30), (1, .ref ya), (2, .int 0), (3, .int 4), (4, .int yx), (5, .int yc), (6, .int 2)]) (st' := [.ref 30]) (by rfl) ?_
  refine Pa.gfR (by rfl) (by rfl) (.inl rfl) (by rfl) ?_
  show Pa N 39 42 [(8, .int 10), (7, .int 0), (0, .ref 30), (1, .ref ya), (2, .int 0), (3, .int 4), (4, .int yx), (5, .int yc), (6, .int 2)] [.ref 33] (uI (uI (uI (uI (uI yA 30 6 0) 33 0 50) 30 6 1) 33 1 11) 30 6 2) _
  refine Pa.mp 1 (pc' := 43) (l' := [(8, .int 10), (7, .int 0), (0, .ref 30), (1, .ref ya), (2, .int 0), (3, .int 4), (4, .int yx), (5, .int yc), (6, .int 2)]) (st' := [.ref 30, .ref 33]) (by rfl) ?_
  refine Pa.gfI (v := 2) (by rfl) (by rfl) (.inl rfl) (by rfl) (by show (uI (uI (uI (uI (uI yA 30 6 0) 33 0 50) 30 6 1) 33 1 11) 30 6 2).1 30 6 = 2; rw [uI_h]) ?_
  refine Pa.mp 1 (pc' := 48) (l' := [(8, .int 10), (7, .int 0), (0, .ref 30), (1, .ref ya), (2, .int 0), (3, .int 4), (4, .int yx), (5, .int yc), (6, .int 2)]) (st' := [.int 10, .int 2, .ref 33]) (by rfl) ?_
  refine Pa.asts (j' := 2) (by rfl) (by rfl) (by rfl) (fun h5 h6 => ?_)
  show Pa N 39 49 [(8, .int 10), (7, .int 0), (0, .ref 30), (1, .ref ya), (2, .int 0), (3, .int 4), (4, .int yx), (5, .int yc), (6, .int 2)] [] (uI (uI (uI (uI (uI (uI yA 30 6 0) 33 0 50) 30 6 1) 33 1 11) 30 6 2) 33 2 10) _
  refine Pa.mp 2 (pc' := 51) (l' := [(8, .int 10), (7, .int 0), (0, .ref 30), (1, .ref ya), (2, .int 0), (3, .int 4), (4, .int yx), (5, .int yc), (6, .int 2)]) (st' := [.ref 30, .ref 30]) (by rfl) ?_
  refine Pa.gfI (v := 2) (by rfl) (by rfl) (.inl rfl) (by rfl) (by show (uI (uI (uI (uI (uI (uI yA 30 6 0) 33 0 50) 30 6 1) 33 1 11) 30 6 2) 33 2 10).1 30 6 = 2; rw [uI_c (by decide), uI_h]) ?_
  refine Pa.ic (x := 1) (pc' := 55) (by rfl) (by rfl) (by decide) ?_
  refine Pa.mp 1 (pc' := 56) (l' := [(8, .int 10), (7, .int 0), (0, .ref 30), (1, .ref ya), (2, .int 0), (3, .int 4), (4, .int yx), (5, .int yc), (6, .int 2)]) (st' := [.int 3, .ref 30]) (by rfl) ?_
  refine Pa.pfI (by rfl) (by rfl) (.inl rfl) (by rfl) ?_
  show Pa N 39 59 [(8, .int 10), (7, .int 0), (0, .ref 30), (1, .ref ya), (2, .int 0), (3, .int 4), (4, .int yx), (5, .int yc), (6, .int 2)] [] (uI (uI (uI (uI (uI (uI (uI yA 30 6 0) 33 0 50) 30 6 1) 33 1 11) 30 6 2) 33 2 10) 30 6 3) _
  refine Pa.mp 1 (pc' := 61) (l' := [(8, .int 10), (7, .int 0), (0, .ref 30), (1, .ref ya), (2, .int 0), (3, .int 4), (4, .int yx), (5, .int yc), (6, .int 2)]) (st' := [.int 0]) (by rfl) ?_
  refine Pa.ist (by rfl) (by rfl) (.inl rfl) (by rfl) (by rfl) ?_
  refine Pa.mono (c_abv0 N (uI (uI (uI (uI (uI (uI (uI yA 30 6 0) 33 0 50) 30 6 1) 33 1 11) 30 6 2) 33 2 10) 30 6 3)) (fun yu A1 hu => ?_)
  obtain ⟨rfl, hu⟩ := hu
  rw [hu]
  show Pa N 39 64 [(8, .int 10), (7, .int 0), (0, .ref 30), (1, .ref ya), (2, .int 0), (3, .int 4), (4, .int yx), (5, .int yc), (6, .int 2)] [.int (-1)] (uI (uI (uI (uI (uI (uI (uI yA 30 6 0) 33 0 50) 30 6 1) 33 1 11) 30 6 2) 33 2 10) 30 6 3) _
  refine Pa.mp 2 (pc' := 68) (l' := [(9, .int (-1)), (8, .int 10), (7, .int 0), (0, .ref 30), (1, .ref ya), (2, .int 0), (3, .int 4), (4, .int yx), (5, .int yc), (6, .int 2)]) (st' := [.int 2]) (by rfl) ?_
  refine Pa.ic (x := 1) (pc' := 69) (by rfl) (by rfl) (by decide) ?_
  refine Pa.mp 3 (pc' := 74) (l' := [(10, .int 3), (9, .int (-1)), (8, .int 10), (7, .int 0), (0, .ref 30), (1, .ref ya), (2, .int 0), (3, .int 4), (4, .int yx), (5, .int yc), (6, .int 2)]) (st' := [.int 10]) (by rfl) ?_
  refine Pa.mp 1 (pc' := 164) (l' := [(10, .int 3), (9, .int (-1)), (8, .int 10), (7, .int 0), (0, .ref 30), (1, .ref ya), (2, .int 0), (3, .int 4), (4, .int yx), (5, .int yc), (6, .int 2)]) (st' := []) (by rfl) ?_
  refine Pa.mp 3 (pc' := 169) (l' := [(10, .int 3), (9, .int (-1)), (8, .int 10), (7, .int 0), (0, .ref 30), (1, .ref ya), (2, .int 0), (3, .int 4), (4, .int yx), (5, .int yc), (6, .int 2)]) (st' := [.int (yx + yc)]) (by rfl) ?_
  refine Pa.iret (by rfl) ?_
  show Pa N 39 186 [(10, .int 2), (9, .int (-1)), (8, .int 11), (7, .int 0), (0, .ref 30), (1, .ref ya), (2, .int 1), (3, .int 0), (4, .int yx), (5, .int yc), (6, .int 1)] [.int (yx + yc)] (uI (uI (uI (uI (uI (uI (uI yA 30 6 0) 33 0 50) 30 6 1) 33 1 11) 30 6 2) 33 2 10) 30 6 3) _
  refine Pa.ic (x := 2) (pc' := 187) (by rfl) (by rfl) (by decide) ?_
  refine Pa.mp 1 (pc' := 188) (l' := [(10, .int 2), (9, .int (-1)), (8, .int 11), (7, .int 0), (0, .ref 30), (1, .ref ya), (2, .int 1), (3, .int 0), (4, .int yx), (5, .int yc), (6, .int 1)]) (st' := [.int ((yx + yc) * 2)]) (by rfl) ?_
  refine Pa.iret (by rfl) ?_
  show Pa N 39 295 [(10, .int 1), (9, .int 0), (8, .int 50), (7, .int 4), (0, .ref 30), (1, .ref ya), (2, .int 1), (3, .int 4), (4, .int yx), (5, .int yc), (6, .int 0)] [.int ((yx + yc) * 2)] (uI (uI (uI (uI (uI (uI (uI yA 30 6 0) 33 0 50) 30 6 1) 33 1 11) 30 6 2) 33 2 10) 30 6 3) _
  refine Pa.mp 1 (pc' := 296) (l' := [(10, .int 1), (9, .int 0), (8, .int 50), (7, .int 4), (0, .ref 30), (1, .ref ya), (2, .int 1), (3, .int 4), (4, .int yx), (5, .int yc), (6, .int 0)]) (st' := [.int (-((yx + yc) * 2))]) (by rfl) ?_
  refine Pa.iret (by rfl) ?_
  exact l1

theorem bpf1_5 {N : Nat} {yA : AW} {yQ : Option Value → AW → Prop} {ya : Nat} (yx yc : Int32) (yha : 129 ≤ ya) (hk : yA.1 ya 1 = 5)
    (l1 : yQ (some (.int ((((yx + 1) + yc) - 4) * 2))) (uI (uI (uI (uI (uI (uI (uI (uI (uI yA 30 6 0) 33 0 11) 30 6 1) 33 1 60) 30 6 2) 33 2 30) 30 6 3) 33 3 10) 30 6 4)) :
    Pa N 39 0 [(0, .ref 30), (1, .ref ya), (2, .int 1), (3, .int 5), (4, .int yx), (5, .int yc), (6, .int 0)] [] (uI yA 30 6 0) yQ := by
  refine Pa.mp 2 (pc' := 2) (l' := [(0, .ref 30), (1, .ref ya), (2, .int 1), (3, .int 5), (4, .int yx), (5, .int yc), (6, .int 0)]) (st' := [.int 5, .int 1]) (by rfl) ?_
  refine Pa.ist (by rfl) (by rfl) (.inl rfl) (by rfl) (by rfl) ?_
  refine Pa.mono (c_kwb1_5 N (uI yA 30 6 0)) (fun yu A1 hu => ?_)
  obtain ⟨rfl, hu⟩ := hu
  rw [hu]
  show Pa N 39 5 [(0, .ref 30), (1, .ref ya), (2, .int 1), (3, .int 5), (4, .int yx), (5, .int yc), (6, .int 0)] [.int 0] (uI yA 30 6 0) _
  refine Pa.mp 2 (pc' := 9) (l' := [(7, .int 0), (0, .ref 30), (1, .ref ya), (2, .int 1), (3, .int 5), (4, .int yx), (5, .int yc), (6, .int 0)]) (st' := [.int 0]) (by rfl) ?_
  refine Pa.if1k false (by rfl) (by rfl) (by decide) ?_
  show Pa N 39 12 [(7, .int 0), (0, .ref 30), (1, .ref ya), (2, .int 1), (3, .int 5), (4, .int yx), (5, .int yc), (6, .int 0)] [] (uI yA 30 6 0) _
  refine Pa.mp 1 (pc' := 14) (l' := [(7, .int 0), (0, .ref 30), (1, .ref ya), (2, .int 1), (3, .int 5), (4, .int yx), (5, .int yc), (6, .int 0)]) (st' := [.int 0]) (by rfl) ?_
  refine Pa.ic (x := 30) (pc' := 16) (by rfl) (by rfl) (by decide) ?_
  refine Pa.if2k true (by rfl) (by rfl) (by decide) ?_
  show Pa N 39 21 [(7, .int 0), (0, .ref 30), (1, .ref ya), (2, .int 1), (3, .int 5), (4, .int yx), (5, .int yc), (6, .int 0)] [] (uI yA 30 6 0) _
  refine Pa.mp 2 (pc' := 24) (l' := [(7, .int 0), (0, .ref 30), (1, .ref ya), (2, .int 1), (3, .int 5), (4, .int yx), (5, .int yc), (6, .int 0)]) (st' := [.int 0, .int 1]) (by rfl) ?_
  refine Pa.ist (by rfl) (by rfl) (.inl rfl) (by rfl) (by rfl) ?_
  refine Pa.mono (c_bod1_0 N (uI yA 30 6 0)) (fun yu A1 hu => ?_)
  obtain ⟨rfl, hu⟩ := hu
  rw [hu]
  show Pa N 39 27 [(7, .int 0), (0, .ref 30), (1, .ref ya), (2, .int 1), (3, .int 5), (4, .int yx), (5, .int yc), (6, .int 0)] [.int 11] (uI yA 30 6 0) _
  refine Pa.mp 2 (pc' := 30) (l' := [(8, .int 11), (7, .int 0), (0, .ref 30), (1, .ref ya), (2, .int 1), (3, .int 5), (4, .int yx), (5, .int yc), (6, .int 0)]) (st' := [.ref 30]) (by rfl) ?_
  refine Pa.gfI (v := 0) (by rfl) (by rfl) (.inl rfl) (by rfl) (by show (uI yA 30 6 0).1 30 6 = 0; rw [uI_h]) ?_
  refine Pa.ic (x := 24) (pc' := 35) (by rfl) (by rfl) (by decide) ?_
  refine Pa.if2k false (by rfl) (by rfl) (by decide) ?_
  show Pa N 39 38 [(8, .int 11), (7, .int 0), (0, .ref 30), (1, .ref ya), (2, .int 1), (3, .int 5), (4, .int yx), (5, .int yc), (6, .int 0)] [] (uI yA 30 6 0) _
  refine Pa.mp 1 (pc' := 39) (l' := [(8, .int 11), (7, .int 0), (0, .ref 30), (1, .ref ya), (2, .int 1), (3, .int 5), (4, .int yx), (5, .int yc), (6, .int 0)]) (st' := [.ref 30]) (by rfl) ?_
  refine Pa.gfR (by rfl) (by rfl) (.inl rfl) (by rfl) ?_
  show Pa N 39 42 [(8, .int 11), (7, .int 0), (0, .ref 30), (1, .ref ya), (2, .int 1), (3, .int 5), (4, .int yx), (5, .int yc), (6, .int 0)] [.ref 33] (uI yA 30 6 0) _
  refine Pa.mp 1 (pc' := 43) (l' := [(8, .int 11), (7, .int 0), (0, .ref 30), (1, .ref ya), (2, .int 1), (3, .int 5), (4, .int yx), (5, .int yc), (6, .int 0)]) (st' := [.ref 30, .ref 33]) (by rfl) ?_
  refine Pa.gfI (v := 0) (by rfl) (by rfl) (.inl rfl) (by rfl) (by show (uI yA 30 6 0).1 30 6 = 0; rw [uI_h]) ?_
  refine Pa.mp 1 (pc' := 48) (l' := [(8, .int 11), (7, .int 0), (0, .ref 30), (1, .ref ya), (2, .int 1), (3, .int 5), (4, .int yx), (5, .int yc), (6, .int 0)]) (st' := [.int 11, .int 0, .ref 33]) (by rfl) ?_
  refine Pa.asts (j' := 0) (by rfl) (by rfl) (by rfl) (fun h1 h2 => ?_)
  show Pa N 39 49 [(8, .int 11), (7, .int 0), (0, .ref 30), (1, .ref ya), (2, .int 1), (3, .int 5), (4, .int yx), (5, .int yc), (6, .int 0)] [] (uI (uI yA 30 6 0) 33 0 11) _
  refine Pa.mp 2 (pc' := 51) (l' := [(8, .int 11), (7, .int 0), (0, .ref 30), (1, .ref ya), (2, .int 1), (3, .int 5), (4, .int yx), (5, .int yc), (6, .int 0)]) (st' := [.ref 30, .ref 30]) (by rfl) ?_
  refine Pa.gfI (v := 0) (by rfl) (by rfl) (.inl rfl) (by rfl) (by show (uI (uI yA 30 6 0) 33 0 11).1 30 6 = 0; rw [uI_c (by decide), uI_h]) ?_
  refine Pa.ic (x := 1) (pc' := 55) (by rfl) (by rfl) (by decide) ?_
  refine Pa.mp 1 (pc' := 56) (l' := [(8, .int 11), (7, .int 0), (0, .ref 30), (1, .ref ya), (2, .int 1), (3, .int 5), (4, .int yx), (5, .int yc), (6, .int 0)]) (st' := [.int 1, .ref 30]) (by rfl) ?_
  refine Pa.pfI (by rfl) (by rfl) (.inl rfl) (by rfl) ?_
  show Pa N 39 59 [(8, .int 11), (7, .int 0), (0, .ref 30), (1, .ref ya), (2, .int 1), (3, .int 5), (4, .int yx), (5, .int yc), (6, .int 0)] [] (uI (uI (uI yA 30 6 0) 33 0 11) 30 6 1) _
  refine Pa.mp 1 (pc' := 61) (l' := [(8, .int 11), (7, .int 0), (0, .ref 30), (1, .ref ya), (2, .int 1), (3, .int 5), (4, .int yx), (5, .int yc), (6, .int 0)]) (st' := [.int 0]) (by rfl) ?_
  refine Pa.ist (by rfl) (by rfl) (.inl rfl) (by rfl) (by rfl) ?_
  refine Pa.mono (c_abv0 N (uI (uI (uI yA 30 6 0) 33 0 11) 30 6 1)) (fun yu A1 hu => ?_)
  obtain ⟨rfl, hu⟩ := hu
  rw [hu]
  show Pa N 39 64 [(8, .int 11), (7, .int 0), (0, .ref 30), (1, .ref ya), (2, .int 1), (3, .int 5), (4, .int yx), (5, .int yc), (6, .int 0)] [.int (-1)] (uI (uI (uI yA 30 6 0) 33 0 11) 30 6 1) _
  refine Pa.mp 2 (pc' := 68) (l' := [(9, .int (-1)), (8, .int 11), (7, .int 0), (0, .ref 30), (1, .ref ya), (2, .int 1), (3, .int 5), (4, .int yx), (5, .int yc), (6, .int 0)]) (st' := [.int 0]) (by rfl) ?_
  refine Pa.ic (x := 1) (pc' := 69) (by rfl) (by rfl) (by decide) ?_
  refine Pa.mp 3 (pc' := 74) (l' := [(10, .int 1), (9, .int (-1)), (8, .int 11), (7, .int 0), (0, .ref 30), (1, .ref ya), (2, .int 1), (3, .int 5), (4, .int yx), (5, .int yc), (6, .int 0)]) (st' := [.int 11]) (by rfl) ?_
  refine Pa.mp 1 (pc' := 170) (l' := [(10, .int 1), (9, .int (-1)), (8, .int 11), (7, .int 0), (0, .ref 30), (1, .ref ya), (2, .int 1), (3, .int 5), (4, .int yx), (5, .int yc), (6, .int 0)]) (st' := []) (by rfl) ?_
  refine Pa.mp 2 (pc' := 172) (l' := [(10, .int 1), (9, .int (-1)), (8, .int 11), (7, .int 0), (0, .ref 30), (1, .ref ya), (2, .int 1), (3, .int 5), (4, .int yx), (5, .int yc), (6, .int 0)]) (st' := [.ref ya, .ref 30]) (by rfl) ?_
  refine Pa.ic (x := 0) (pc' := 173) (by rfl) (by rfl) (by decide) ?_
  refine Pa.mp 1 (pc' := 174) (l' := [(10, .int 1), (9, .int (-1)), (8, .int 11), (7, .int 0), (0, .ref 30), (1, .ref ya), (2, .int 1), (3, .int 5), (4, .int yx), (5, .int yc), (6, .int 0)]) (st' := [.ref ya, .int 0, .ref ya, .ref 30]) (by rfl) ?_
  refine Pa.gfI (v := 5) (by rfl) (by rfl) (.inr rfl) (by rfl) (by show (uI (uI (uI yA 30 6 0) 33 0 11) 30 6 1).1 ya 1 = 5; rw [uI_c (by omega), uI_c (by omega), uI_c (by omega), hk]) ?_
  refine Pa.mp 3 (pc' := 183) (l' := [(10, .int 1), (9, .int (-1)), (8, .int 11), (7, .int 0), (0, .ref 30), (1, .ref ya), (2, .int 1), (3, .int 5), (4, .int yx), (5, .int yc), (6, .int 0)]) (st' := [.int 1, .int yc, .int yx, .int 5, .int 0, .ref ya, .ref 30]) (by rfl) ?_
  refine Pa.inv (by rfl) (by rfl) (.inl rfl) (by rfl) ?_
  show Pa N 39 0 [(0, .ref 30), (1, .ref ya), (2, .int 0), (3, .int 5), (4, .int yx), (5, .int yc), (6, .int 1)] [] (uI (uI (uI yA 30 6 0) 33 0 11) 30 6 1) _
  refine Pa.mp 2 (pc' := 2) (l' := [(0, .ref 30), (1, .ref ya), (2, .int 0), (3, .int 5), (4, .int yx), (5, .int yc), (6, .int 1)]) (st' := [.int 5, .int 0]) (by rfl) ?_
  refine Pa.ist (by rfl) (by rfl) (.inl rfl) (by rfl) (by rfl) ?_
  refine Pa.mono (c_kwb0_5 N (uI (uI (uI yA 30 6 0) 33 0 11) 30 6 1)) (fun yu A1 hu => ?_)
  obtain ⟨rfl, hu⟩ := hu
  rw [hu]
  show Pa N 39 5 [(0, .ref 30), (1, .ref ya), (2, .int 0), (3, .int 5), (4, .int yx), (5, .int yc), (6, .int 1)] [.int 5] (uI (uI (uI yA 30 6 0) 33 0 11) 30 6 1) _
  refine Pa.mp 2 (pc' := 9) (l' := [(7, .int 5), (0, .ref 30), (1, .ref ya), (2, .int 0), (3, .int 5), (4, .int yx), (5, .int yc), (6, .int 1)]) (st' := [.int 5]) (by rfl) ?_
  refine Pa.if1k false (by rfl) (by rfl) (by decide) ?_
  show Pa N 39 12 [(7, .int 5), (0, .ref 30), (1, .ref ya), (2, .int 0), (3, .int 5), (4, .int yx), (5, .int yc), (6, .int 1)] [] (uI (uI (uI yA 30 6 0) 33 0 11) 30 6 1) _
  refine Pa.mp 1 (pc' := 14) (l' := [(7, .int 5), (0, .ref 30), (1, .ref ya), (2, .int 0), (3, .int 5), (4, .int yx), (5, .int yc), (6, .int 1)]) (st' := [.int 1]) (by rfl) ?_
  refine Pa.ic (x := 30) (pc' := 16) (by rfl) (by rfl) (by decide) ?_
  refine Pa.if2k true (by rfl) (by rfl) (by decide) ?_
  show Pa N 39 21 [(7, .int 5), (0, .ref 30), (1, .ref ya), (2, .int 0), (3, .int 5), (4, .int yx), (5, .int yc), (6, .int 1)] [] (uI (uI (uI yA 30 6 0) 33 0 11) 30 6 1) _
  refine Pa.mp 2 (pc' := 24) (l' := [(7, .int 5), (0, .ref 30), (1, .ref ya), (2, .int 0), (3, .int 5), (4, .int yx), (5, .int yc), (6, .int 1)]) (st' := [.int 5, .int 0]) (by rfl) ?_
  refine Pa.ist (by rfl) (by rfl) (.inl rfl) (by rfl) (by rfl) ?_
  refine Pa.mono (c_bod0_5 N (uI (uI (uI yA 30 6 0) 33 0 11) 30 6 1)) (fun yu A1 hu => ?_)
  obtain ⟨rfl, hu⟩ := hu
  rw [hu]
  show Pa N 39 27 [(7, .int 5), (0, .ref 30), (1, .ref ya), (2, .int 0), (3, .int 5), (4, .int yx), (5, .int yc), (6, .int 1)] [.int 60] (uI (uI (uI yA 30 6 0) 33 0 11) 30 6 1) _
  refine Pa.mp 2 (pc' := 30) (l' := [(8, .int 60), (7, .int 5), (0, .ref 30), (1, .ref ya), (2, .int 0), (3, .int 5), (4, .int yx), (5, .int yc), (6, .int 1)]) (st' := [.ref 30]) (by rfl) ?_
  refine Pa.gfI (v := 1) (by rfl) (by rfl) (.inl rfl) (by rfl) (by show (uI (uI (uI yA 30 6 0) 33 0 11) 30 6 1).1 30 6 = 1; rw [uI_h]) ?_
  refine Pa.ic (x := 24) (pc' := 35) (by rfl) (by rfl) (by decide) ?_
  refine Pa.if2k false (by rfl) (by rfl) (by decide) ?_
  show Pa N 39 38 [(8, .int 60), (7, .int 5), (0, .ref 30), (1, .ref ya), (2, .int 0), (3, .int 5), (4, .int yx), (5, .int yc), (6, .int 1)] [] (uI (uI (uI yA 30 6 0) 33 0 11) 30 6 1) _
  refine Pa.mp 1 (pc' := 39) (l' := [(8, .int 60), (7, .int 5), (0, .ref 30), (1, .ref ya), (2, .int 0), (3, .int 5), (4, .int yx), (5, .int yc), (6, .int 1)]) (st' := [.ref 30]) (by rfl) ?_
  refine Pa.gfR (by rfl) (by rfl) (.inl rfl) (by rfl) ?_
  show Pa N 39 42 [(8, .int 60), (7, .int 5), (0, .ref 30), (1, .ref ya), (2, .int 0), (3, .int 5), (4, .int yx), (5, .int yc), (6, .int 1)] [.ref 33] (uI (uI (uI yA 30 6 0) 33 0 11) 30 6 1) _
  refine Pa.mp 1 (pc' := 43) (l' := [(8, .int 60), (7, .int 5), (0, .ref 30), (1, .ref ya), (2, .int 0), (3, .int 5), (4, .int yx), (5, .int yc), (6, .int 1)]) (st' := [.ref 30, .ref 33]) (by rfl) ?_
  refine Pa.gfI (v := 1) (by rfl) (by rfl) (.inl rfl) (by rfl) (by show (uI (uI (uI yA 30 6 0) 33 0 11) 30 6 1).1 30 6 = 1; rw [uI_h]) ?_
  refine Pa.mp 1 (pc' := 48) (l' := [(8, .int 60), (7, .int 5), (0, .ref 30), (1, .ref ya), (2, .int 0), (3, .int 5), (4, .int yx), (5, .int yc), (6, .int 1)]) (st' := [.int 60, .int 1, .ref 33]) (by rfl) ?_
  refine Pa.asts (j' := 1) (by rfl) (by rfl) (by rfl) (fun h3 h4 => ?_)
  show Pa N 39 49 [(8, .int 60), (7, .int 5), (0, .ref 30), (1, .ref ya), (2, .int 0), (3, .int 5), (4, .int yx), (5, .int yc), (6, .int 1)] [] (uI (uI (uI (uI yA 30 6 0) 33 0 11) 30 6 1) 33 1 60) _
  refine Pa.mp 2 (pc' := 51) (l' := [(8, .int 60), (7, .int 5), (0, .ref 30), (1, .ref ya), (2, .int 0), (3, .int 5), (4, .int yx), (5, .int yc), (6, .int 1)]) (st' := [.ref 30, .ref 30]) (by rfl) ?_
  refine Pa.gfI (v := 1) (by rfl) (by rfl) (.inl rfl) (by rfl) (by show (uI (uI (uI (uI yA 30 6 0) 33 0 11) 30 6 1) 33 1 60).1 30 6 = 1; rw [uI_c (by decide), uI_h]) ?_
  refine Pa.ic (x := 1) (pc' := 55) (by rfl) (by rfl) (by decide) ?_
  refine Pa.mp 1 (pc' := 56) (l' := [(8, .int 60), (7, .int 5), (0, .ref 30), (1, .ref ya), (2, .int 0), (3, .int 5), (4, .int yx), (5, .int yc), (6, .int 1)]) (st' := [.int 2, .ref 30]) (by rfl) ?_
  refine Pa.pfI (by rfl) (by rfl) (.inl rfl) (by rfl) ?_
  show Pa N 39 59 [(8, .int 60), (7, .int 5), (0, .ref 30), (1, .ref ya), (2, .int 0), (3, .int 5), (4, .int yx), (5, .int yc), (6, .int 1)] [] (uI (uI (uI (uI (uI yA 30 6 0) 33 0 11) 30 6 1) 33 1 60) 30 6 2) _
  refine Pa.mp 1 (pc' := 61) (l' := [(8, .int 60), (7, .int 5), (0, .ref 30), (1, .ref ya), (2, .int 0), (3, .int 5), (4, .int yx), (5, .int yc), (6, .int 1)]) (st' := [.int 5]) (by rfl) ?_
  refine Pa.ist (by rfl) (by rfl) (.inl rfl) (by rfl) (by rfl) ?_
  refine Pa.mono (c_abv5 N (uI (uI (uI (uI (uI yA 30 6 0) 33 0 11) 30 6 1) 33 1 60) 30 6 2)) (fun yu A1 hu => ?_)
  obtain ⟨rfl, hu⟩ := hu
  rw [hu]
  show Pa N 39 64 [(8, .int 60), (7, .int 5), (0, .ref 30), (1, .ref ya), (2, .int 0), (3, .int 5), (4, .int yx), (5, .int yc), (6, .int 1)] [.int 2] (uI (uI (uI (uI (uI yA 30 6 0) 33 0 11) 30 6 1) 33 1 60) 30 6 2) _
  refine Pa.mp 2 (pc' := 68) (l' := [(9, .int 2), (8, .int 60), (7, .int 5), (0, .ref 30), (1, .ref ya), (2, .int 0), (3, .int 5), (4, .int yx), (5, .int yc), (6, .int 1)]) (st' := [.int 1]) (by rfl) ?_
  refine Pa.ic (x := 1) (pc' := 69) (by rfl) (by rfl) (by decide) ?_
  refine Pa.mp 3 (pc' := 74) (l' := [(10, .int 2), (9, .int 2), (8, .int 60), (7, .int 5), (0, .ref 30), (1, .ref ya), (2, .int 0), (3, .int 5), (4, .int yx), (5, .int yc), (6, .int 1)]) (st' := [.int 60]) (by rfl) ?_
  refine Pa.mp 1 (pc' := 297) (l' := [(10, .int 2), (9, .int 2), (8, .int 60), (7, .int 5), (0, .ref 30), (1, .ref ya), (2, .int 0), (3, .int 5), (4, .int yx), (5, .int yc), (6, .int 1)]) (st' := []) (by rfl) ?_
  refine Pa.mp 2 (pc' := 299) (l' := [(10, .int 2), (9, .int 2), (8, .int 60), (7, .int 5), (0, .ref 30), (1, .ref ya), (2, .int 0), (3, .int 5), (4, .int yx), (5, .int yc), (6, .int 1)]) (st' := [.ref ya, .ref 30]) (by rfl) ?_
  refine Pa.ic (x := 0) (pc' := 300) (by rfl) (by rfl) (by decide) ?_
  refine Pa.mp 2 (pc' := 304) (l' := [(10, .int 2), (9, .int 2), (8, .int 60), (7, .int 5), (0, .ref 30), (1, .ref ya), (2, .int 0), (3, .int 5), (4, .int yx), (5, .int yc), (6, .int 1)]) (st' := [.int yx, .int 2, .int 0, .ref ya, .ref 30]) (by rfl) ?_
  refine Pa.ic (x := 1) (pc' := 305) (by rfl) (by rfl) (by decide) ?_
  refine Pa.mp 3 (pc' := 310) (l' := [(10, .int 2), (9, .int 2), (8, .int 60), (7, .int 5), (0, .ref 30), (1, .ref ya), (2, .int 0), (3, .int 5), (4, .int yx), (5, .int yc), (6, .int 1)]) (st' := [.int 2, .int yc, .int (yx + 1), .int 2, .int 0, .ref ya, .ref 30]) (by rfl) ?_
  refine Pa.inv (by rfl) (by rfl) (.inl rfl) (by rfl) ?_
  show Pa N 39 0 [(0, .ref 30), (1, .ref ya), (2, .int 0), (3, .int 2), (4, .int (yx + 1)), (5, .int yc), (6, .int 2)] [] (uI (uI (uI (uI (uI yA 30 6 0) 33 0 11) 30 6 1) 33 1 60) 30 6 2) _
  refine Pa.mp 2 (pc' := 2) (l' := [(0, .ref 30), (1, .ref ya), (2, .int 0), (3, .int 2), (4, .int (yx + 1)), (5, .int yc), (6, .int 2)]) (st' := [.int 2, .int 0]) (by rfl) ?_
  refine Pa.ist (by rfl) (by rfl) (.inl rfl) (by rfl) (by rfl) ?_
  refine Pa.mono (c_kwb0_2 N (uI (uI (uI (uI (uI yA 30 6 0) 33 0 11) 30 6 1) 33 1 60) 30 6 2)) (fun yu A1 hu => ?_)
  obtain ⟨rfl, hu⟩ := hu
  rw [hu]
  show Pa N 39 5 [(0, .ref 30), (1, .ref ya), (2, .int 0), (3, .int 2), (4, .int (yx + 1)), (5, .int yc), (6, .int 2)] [.int 2] (uI (uI (uI (uI (uI yA 30 6 0) 33 0 11) 30 6 1) 33 1 60) 30 6 2) _
  refine Pa.mp 2 (pc' := 9) (l' := [(7, .int 2), (0, .ref 30), (1, .ref ya), (2, .int 0), (3, .int 2), (4, .int (yx + 1)), (5, .int yc), (6, .int 2)]) (st' := [.int 2]) (by rfl) ?_
  refine Pa.if1k false (by rfl) (by rfl) (by decide) ?_
  show Pa N 39 12 [(7, .int 2), (0, .ref 30), (1, .ref ya), (2, .int 0), (3, .int 2), (4, .int (yx + 1)), (5, .int yc), (6, .int 2)] [] (uI (uI (uI (uI (uI yA 30 6 0) 33 0 11) 30 6 1) 33 1 60) 30 6 2) _
  refine Pa.mp 1 (pc' := 14) (l' := [(7, .int 2), (0, .ref 30), (1, .ref ya), (2, .int 0), (3, .int 2), (4, .int (yx + 1)), (5, .int yc), (6, .int 2)]) (st' := [.int 2]) (by rfl) ?_
  refine Pa.ic (x := 30) (pc' := 16) (by rfl) (by rfl) (by decide) ?_
  refine Pa.if2k true (by rfl) (by rfl) (by decide) ?_
  show Pa N 39 21 [(7, .int 2), (0, .ref 30), (1, .ref ya), (2, .int 0), (3, .int 2), (4, .int (yx + 1)), (5, .int yc), (6, .int 2)] [] (uI (uI (uI (uI (uI yA 30 6 0) 33 0 11) 30 6 1) 33 1 60) 30 6 2) _
  refine Pa.mp 2 (pc' := 24) (l' := [(7, .int 2), (0, .ref 30), (1, .ref ya), (2, .int 0), (3, .int 2), (4, .int (yx + 1)), (5, .int yc), (6, .int 2)]) (st' := [.int 2, .int 0]) (by rfl) ?_
  refine Pa.ist (by rfl) (by rfl) (.inl rfl) (by rfl) (by rfl) ?_
  refine Pa.mono (c_bod0_2 N (uI (uI (uI (uI (uI yA 30 6 0) 33 0 11) 30 6 1) 33 1 60) 30 6 2)) (fun yu A1 hu => ?_)
  obtain ⟨rfl, hu⟩ := hu
  rw [hu]
  show Pa N 39 27 [(7, .int 2), (0, .ref 30), (1, .ref ya), (2, .int 0), (3, .int 2), (4, .int (yx + 1)), (5, .int yc), (6, .int 2)] [.int 30] (uI (uI (uI (uI (uI yA 30 6 0) 33 0 11) 30 6 1) 33 1 60) 30 6 2) _
  refine Pa.mp 2 (pc' := 30) (l' := [(8, .int 30), (7, .int 2), (0, .ref 30), (1, .ref ya), (2, .int 0), (3, .int 2), (4, .int (yx + 1)), (5, .int yc), (6, .int 2)]) (st' := [.ref 30]) (by rfl) ?_
  refine Pa.gfI (v := 2) (by rfl) (by rfl) (.inl rfl) (by rfl) (by show (uI (uI (uI (uI (uI yA 30 6 0) 33 0 11) 30 6 1) 33 1 60) 30 6 2).1 30 6 = 2; rw [uI_h]) ?_
  refine Pa.ic (x := 24) (pc' := 35) (by rfl) (by rfl) (by decide) ?_
  refine Pa.if2k false (by rfl) (by rfl) (by decide) ?_
  show Pa N 39 38 [(8, .int 30), (7, .int 2), (0, .ref 30), (1, .ref ya), (2, .int 0), (3, .int 2), (4, .int (yx + 1)), (5, .int yc), (6, .int 2)] [] (uI (uI (uI (uI (uI yA 30 6 0) 33 0 11) 30 6 1) 33 1 60) 30 6 2) _
  refine Pa.mp 1 (pc' := 39) (l' := [(8, .int 30), (7, .int 2), (0, .ref 30), (1, .ref ya), (2, .int 0), (3, .int 2), (4, .int (yx + 1)), (5, .int yc), (6, .int 2)]) (st' := [.ref 30]) (by rfl) ?_
  refine Pa.gfR (by rfl) (by rfl) (.inl rfl) (by rfl) ?_
  show Pa N 39 42 [(8, .int 30), (7, .int 2), (0, .ref 30), (1, .ref ya), (2, .int 0), (3, .int 2), (4, .int (yx + 1)), (5, .int yc), (6, .int 2)] [.ref 33] (uI (uI (uI (uI (uI yA 30 6 0) 33 0 11) 30 6 1) 33 1 60) 30 6 2) _
  refine Pa.mp 1 (pc' := 43) (l' := [(8, .int 30), (7, .int 2), (0, .ref 30), (1, .ref ya), (2, .int 0), (3, .int 2), (4, .int (yx + 1)), (5, .int yc), (6, .int 2)]) (st' := [.ref 30, .ref 33]) (by rfl) ?_
  refine Pa.gfI (v := 2) (by rfl) (by rfl) (.inl rfl) (by rfl) (by show (uI (uI (uI (uI (uI yA 30 6 0) 33 0 11) 30 6 1) 33 1 60) 30 6 2).1 30 6 = 2; rw [uI_h]) ?_
  refine Pa.mp 1 (pc' := 48) (l' := [(8, .int 30), (7, .int 2), (0, .ref 30), (1, .ref ya), (2, .int 0), (3, .int 2), (4, .int (yx + 1)), (5, .int yc), (6, .int 2)]) (st' := [.int 30, .int 2, .ref 33]) (by rfl) ?_
  refine Pa.asts (j' := 2) (by rfl) (by rfl) (by rfl) (fun h5 h6 => ?_)
  show Pa N 39 49 [(8, .int 30), (7, .int 2), (0, .ref 30), (1, .ref ya), (2, .int 0), (3, .int 2), (4, .int (yx + 1)), (5, .int yc), (6, .int 2)] [] (uI (uI (uI (uI (uI (uI yA 30 6 0) 33 0 11) 30 6 1) 33 1 60) 30 6 2) 33 2 30) _
  refine Pa.mp 2 (pc' := 51) (l' := [(8, .int 30), (7, .int 2), (0, .ref 30), (1, .ref ya), (2, .int 0), (3, .int 2), (4, .int (yx + 1)), (5, .int yc), (6, .int 2)]) (st' := [.ref 30, .ref 30]) (by rfl) ?_
  refine Pa.gfI (v := 2) (by rfl) (by rfl) (.inl rfl) (by rfl) (by show (uI (uI (uI (uI (uI (uI yA 30 6 0) 33 0 11) 30 6 1) 33 1 60) 30 6 2) 33 2 30).1 30 6 = 2; rw [uI_c (by decide), uI_h]) ?_
  refine Pa.ic (x := 1) (pc' := 55) (by rfl) (by rfl) (by decide) ?_
  refine Pa.mp 1 (pc' := 56) (l' := [(8, .int 30), (7, .int 2), (0, .ref 30), (1, .ref ya), (2, .int 0), (3, .int 2), (4, .int (yx + 1)), (5, .int yc), (6, .int 2)]) (st' := [.int 3, .ref 30]) (by rfl) ?_
  refine Pa.pfI (by rfl) (by rfl) (.inl rfl) (by rfl) ?_
  show Pa N 39 59 [(8, .int 30), (7, .int 2), (0, .ref 30), (1, .ref ya), (2, .int 0), (3, .int 2), (4, .int (yx + 1)), (5, .int yc), (6, .int 2)] [] (uI (uI (uI (uI (uI (uI (uI yA 30 6 0) 33 0 11) 30 6 1) 33 1 60) 30 6 2) 33 2 30) 30 6 3) _
  refine Pa.mp 1 (pc' := 61) (l' := [(8, .int 30), (7, .int 2), (0, .ref 30), (1, .ref ya), (2, .int 0), (3, .int 2), (4, .int (yx + 1)), (5, .int yc), (6, .int 2)]) (st' := [.int 2]) (by rfl) ?_
  refine Pa.ist (by rfl) (by rfl) (.inl rfl) (by rfl) (by rfl) ?_
  refine Pa.mono (c_abv2 N (uI (uI (uI (uI (uI (uI (uI yA 30 6 0) 33 0 11) 30 6 1) 33 1 60) 30 6 2) 33 2 30) 30 6 3)) (fun yu A1 hu => ?_)
  obtain ⟨rfl, hu⟩ := hu
  rw [hu]
  show Pa N 39 64 [(8, .int 30), (7, .int 2), (0, .ref 30), (1, .ref ya), (2, .int 0), (3, .int 2), (4, .int (yx + 1)), (5, .int yc), (6, .int 2)] [.int 0] (uI (uI (uI (uI (uI (uI (uI yA 30 6 0) 33 0 11) 30 6 1) 33 1 60) 30 6 2) 33 2 30) 30 6 3) _
  refine Pa.mp 2 (pc' := 68) (l' := [(9, .int 0), (8, .int 30), (7, .int 2), (0, .ref 30), (1, .ref ya), (2, .int 0), (3, .int 2), (4, .int (yx + 1)), (5, .int yc), (6, .int 2)]) (st' := [.int 2]) (by rfl) ?_
  refine Pa.ic (x := 1) (pc' := 69) (by rfl) (by rfl) (by decide) ?_
  refine Pa.mp 3 (pc' := 74) (l' := [(10, .int 3), (9, .int 0), (8, .int 30), (7, .int 2), (0, .ref 30), (1, .ref ya), (2, .int 0), (3, .int 2), (4, .int (yx + 1)), (5, .int yc), (6, .int 2)]) (st' := [.int 30]) (by rfl) ?_
  refine Pa.mp 1 (pc' := 229) (l' := [(10, .int 3), (9, .int 0), (8, .int 30), (7, .int 2), (0, .ref 30), (1, .ref ya), (2, .int 0), (3, .int 2), (4, .int (yx + 1)), (5, .int yc), (6, .int 2)]) (st' := []) (by rfl) ?_
  refine Pa.mp 2 (pc' := 231) (l' := [(10, .int 3), (9, .int 0), (8, .int 30), (7, .int 2), (0, .ref 30), (1, .ref ya), (2, .int 0), (3, .int 2), (4, .int (yx + 1)), (5, .int yc), (6, .int 2)]) (st' := [.ref ya, .ref 30]) (by rfl) ?_
  refine Pa.ic (x := 0) (pc' := 232) (by rfl) (by rfl) (by decide) ?_
  refine Pa.mp 4 (pc' := 240) (l' := [(10, .int 3), (9, .int 0), (8, .int 30), (7, .int 2), (0, .ref 30), (1, .ref ya), (2, .int 0), (3, .int 2), (4, .int (yx + 1)), (5, .int yc), (6, .int 2)]) (st' := [.int 3, .int yc, .int (yx + 1), .int 0, .int 0, .ref ya, .ref 30]) (by rfl) ?_
  refine Pa.inv (by rfl) (by rfl) (.inl rfl) (by rfl) ?_
  show Pa N 39 0 [(0, .ref 30), (1, .ref ya), (2, .int 0), (3, .int 0), (4, .int (yx + 1)), (5, .int yc), (6, .int 3)] [] (uI (uI (uI (uI (uI (uI (uI yA 30 6 0) 33 0 11) 30 6 1) 33 1 60) 30 6 2) 33 2 30) 30 6 3) _
  refine Pa.mp 2 (pc' := 2) (l' := [(0, .ref 30), (1, .ref ya), (2, .int 0), (3, .int 0), (4, .int (yx + 1)), (5, .int yc), (6, .int 3)]) (st' := [.int 0, .int 0]) (by rfl) ?_
  refine Pa.ist (by rfl) (by rfl) (.inl rfl) (by rfl) (by rfl) ?_
  refine Pa.mono (c_kwb0_0 N (uI (uI (uI (uI (uI (uI (uI yA 30 6 0) 33 0 11) 30 6 1) 33 1 60) 30 6 2) 33 2 30) 30 6 3)) (fun yu A1 hu => ?_)
  obtain ⟨rfl, hu⟩ := hu
  rw [hu]
  show Pa N 39 5 [(0, .ref 30), (1, .ref ya), (2, .int 0), (3, .int 0), (4, .int (yx + 1)), (5, .int yc), (6, .int 3)] [.int 0] (uI (uI (uI (uI (uI (uI (uI yA 30 6 0) 33 0 11) 30 6 1) 33 1 60) 30 6 2) 33 2 30) 30 6 3) _
  refine Pa.mp 2 (pc' := 9) (l' := [(7, .int 0), (0, .ref 30), (1, .ref ya), (2, .int 0), (3, .int 0), (4, .int (yx + 1)), (5, .int yc), (6, .int 3)]) (st' := [.int 0]) (by rfl) ?_
  refine Pa.if1k false (by rfl) (by rfl) (by decide) ?_
  show Pa N 39 12 [(7, .int 0), (0, .ref 30), (1, .ref ya), (2, .int 0), (3, .int 0), (4, .int (yx + 1)), (5, .int yc), (6, .int 3)] [] (uI (uI (uI (uI (uI (uI (uI yA 30 6 0) 33 0 11) 30 6 1) 33 1 60) 30 6 2) 33 2 30) 30 6 3) _
  refine Pa.mp 1 (pc' := 14) (l' := [(7, .int 0), (0, .ref 30), (1, .ref ya), (2, .int 0), (3, .int 0), (4, .int (yx + 1)), (5, .int yc), (6, .int 3)]) (st' := [.int 3]) (by rfl) ?_
  refine Pa.ic (x := 30) (pc' := 16) (by rfl) (by rfl) (by decide) ?_
  refine Pa.if2k true (by rfl) (by rfl) (by decide) ?_
  show Pa N 39 21 [(7, .int 0), (0, .ref 30), (1, .ref ya), (2, .int 0), (3, .int 0), (4, .int (yx + 1)), (5, .int yc), (6, .int 3)] [] (uI (uI (uI (uI (uI (uI (uI yA 30 6 0) 33 0 11) 30 6 1) 33 1 60) 30 6 2) 33 2 30) 30 6 3) _
  refine Pa.mp 2 (pc' := 24) (l' := [(7, .int 0), (0, .ref 30), (1, .ref ya), (2, .int 0), (3, .int 0), (4, .int (yx + 1)), (5, .int yc), (6, .int 3)]) (st' := [.int 0, .int 0]) (by rfl) ?_
  refine Pa.ist (by rfl) (by rfl) (.inl rfl) (by rfl) (by rfl) ?_
  refine Pa.mono (c_bod0_0 N (uI (uI (uI (uI (uI (uI (uI yA 30 6 0) 33 0 11) 30 6 1) 33 1 60) 30 6 2) 33 2 30) 30 6 3)) (fun yu A1 hu => ?_)
  obtain ⟨rfl, hu⟩ := hu
  rw [hu]
  show Pa N 39 27 [(7, .int 0), (0, .ref 30), (1, .ref ya), (2, .int 0), (3, .int 0), (4, .int (yx + 1)), (5, .int yc), (6, .int 3)] [.int 10] (uI (uI (uI (uI (uI (uI (uI yA 30 6 0) 33 0 11) 30 6 1) 33 1 60) 30 6 2) 33 2 30) 30 6 3) _
  refine Pa.mp 2 (pc' := 30) (l' := [(8, .int 10), (7, .int 0), (0, .ref 30), (1, .ref ya), (2, .int 0), (3, .int 0), (4, .int (yx + 1)), (5, .int yc), (6, .int 3)]) (st' := [.ref 30]) (by rfl) ?_
  refine Pa.gfI (v := 3) (by rfl) (by rfl) (.inl rfl) (by rfl) (by show (uI (uI (uI (uI (uI (uI (uI yA 30 6 0) 33 0 11) 30 6 1) 33 1 60) 30 6 2) 33 2 30) 30 6 3).1 30 6 = 3; rw [uI_h]) ?_
  refine Pa.ic (x := 24) (pc' := 35) (by rfl) (by rfl) (by decide) ?_
  refine Pa.if2k false (by rfl) (by rfl) (by decide) ?_
  show Pa N 39 38 [(8, .int 10), (7, .int 0), (0, .ref 30), (1, .ref ya), (2, .int 0), (3, .int 0), (4, .int (yx + 1)), (5, .int yc), (6, .int 3)] [] (uI (uI (uI (uI (uI (uI (uI yA 30 6 0) 33 0 11) 30 6 1) 33 1 60) 30 6 2) 33 2 30) 30 6 3) _
  refine Pa.mp 1 (pc' := 39) (l' := [(8, .int 10), (7, .int 0), (0, .ref 30), (1, .ref ya), (2, .int 0), (3, .int 0), (4, .int (yx + 1)), (5, .int yc), (6, .int 3)]) (st' := [.ref 30]) (by rfl) ?_
  refine Pa.gfR (by rfl) (by rfl) (.inl rfl) (by rfl) ?_
  show Pa N 39 42 [(8, .int 10), (7, .int 0), (0, .ref 30), (1, .ref ya), (2, .int 0), (3, .int 0), (4, .int (yx + 1)), (5, .int yc), (6, .int 3)] [.ref 33] (uI (uI (uI (uI (uI (uI (uI yA 30 6 0) 33 0 11) 30 6 1) 33 1 60) 30 6 2) 33 2 30) 30 6 3) _
  refine Pa.mp 1 (pc' := 43) (l' := [(8, .int 10), (7, .int 0), (0, .ref 30), (1, .ref ya), (2, .int 0), (3, .int 0), (4, .int (yx + 1)), (5, .int yc), (6, .int 3)]) (st' := [.ref 30, .ref 33]) (by rfl) ?_
  refine Pa.gfI (v := 3) (by rfl) (by rfl) (.inl rfl) (by rfl) (by show (uI (uI (uI (uI (uI (uI (uI yA 30 6 0) 33 0 11) 30 6 1) 33 1 60) 30 6 2) 33 2 30) 30 6 3).1 30 6 = 3; rw [uI_h]) ?_
  refine Pa.mp 1 (pc' := 48) (l' := [(8, .int 10), (7, .int 0), (0, .ref 30), (1, .ref ya), (2, .int 0), (3, .int 0), (4, .int (yx + 1)), (5, .int yc), (6, .int 3)]) (st' := [.int 10, .int 3, .ref 33]) (by rfl) ?_
  refine Pa.asts (j' := 3) (by rfl) (by rfl) (by rfl) (fun h7 h8 => ?_)
  show Pa N 39 49 [(8, .int 10), (7, .int 0), (0, .ref 30), (1, .ref ya), (2, .int 0), (3, .int 0), (4, .int (yx + 1)), (5, .int yc), (6, .int 3)] [] (uI (uI (uI (uI (uI (uI (uI (uI yA 30 6 0) 33 0 11) 30 6 1) 33 1 60) 30 6 2) 33 2 30) 30 6 3) 33 3 10) _
  refine Pa.mp 2 (pc' := 51) (l' := [(8, .int 10), (7, .int 0), (0, .ref 30), (1, .ref ya), (2, .int 0), (3, .int 0), (4, .int (yx + 1)), (5, .int yc), (6, .int 3)]) (st' := [.ref 30, .ref 30]) (by rfl) ?_
  refine Pa.gfI (v := 3) (by rfl) (by rfl) (.inl rfl) (by rfl) (by show (uI (uI (uI (uI (uI (uI (uI (uI yA 30 6 0) 33 0 11) 30 6 1) 33 1 60) 30 6 2) 33 2 30) 30 6 3) 33 3 10).1 30 6 = 3; rw [uI_c (by decide), uI_h]) ?_
  refine Pa.ic (x := 1) (pc' := 55) (by rfl) (by rfl) (by decide) ?_
  refine Pa.mp 1 (pc' := 56) (l' := [(8, .int 10), (7, .int 0), (0, .ref 30), (1, .ref ya), (2, .int 0), (3, .int 0), (4, .int (yx + 1)), (5, .int yc), (6, .int 3)]) (st' := [.int 4, .ref 30]) (by rfl) ?_
  refine Pa.pfI (by rfl) (by rfl) (.inl rfl) (by rfl) ?_
  show Pa N 39 59 [(8, .int 10), (7, .int 0), (0, .ref 30), (1, .ref ya), (2, .int 0), (3, .int 0), (4, .int (yx + 1)), (5, .int yc), (6, .int 3)] [] (uI (uI (uI (uI (uI (uI (uI (uI (uI yA 30 6 0) 33 0 11) 30 6 1) 33 1 60) 30 6 2) 33 2 30) 30 6 3) 33 3 10) 30 6 4) _
  refine Pa.mp 1 (pc' := 61) (l' := [(8, .int 10), (7, .int 0), (0, .ref 30), (1, .ref ya), (2, .int 0), (3, .int 0), (4, .int (yx + 1)), (5, .int yc), (6, .int 3)]) (st' := [.int 0]) (by rfl) ?_
  refine Pa.ist (by rfl) (by rfl) (.inl rfl) (by rfl) (by rfl) ?_
  refine Pa.mono (c_abv0 N (uI (uI (uI (uI (uI (uI (uI (uI (uI yA 30 6 0) 33 0 11) 30 6 1) 33 1 60) 30 6 2) 33 2 30) 30 6 3) 33 3 10) 30 6 4)) (fun yu A1 hu => ?_)
  obtain ⟨rfl, hu⟩ := hu
  rw [hu]
  show Pa N 39 64 [(8, .int 10), (7, .int 0), (0, .ref 30), (1, .ref ya), (2, .int 0), (3, .int 0), (4, .int (yx + 1)), (5, .int yc), (6, .int 3)] [.int (-1)] (uI (uI (uI (uI (uI (uI (uI (uI (uI yA 30 6 0) 33 0 11) 30 6 1) 33 1 60) 30 6 2) 33 2 30) 30 6 3) 33 3 10) 30 6 4) _
  refine Pa.mp 2 (pc' := 68) (l' := [(9, .int (-1)), (8, .int 10), (7, .int 0), (0, .ref 30), (1, .ref ya), (2, .int 0), (3, .int 0), (4, .int (yx + 1)), (5, .int yc), (6, .int 3)]) (st' := [.int 3]) (by rfl) ?_
  refine Pa.ic (x := 1) (pc' := 69) (by rfl) (by rfl) (by decide) ?_
  refine Pa.mp 3 (pc' := 74) (l' := [(10, .int 4), (9, .int (-1)), (8, .int 10), (7, .int 0), (0, .ref 30), (1, .ref ya), (2, .int 0), (3, .int 0), (4, .int (yx + 1)), (5, .int yc), (6, .int 3)]) (st' := [.int 10]) (by rfl) ?_
  refine Pa.mp 1 (pc' := 164) (l' := [(10, .int 4), (9, .int (-1)), (8, .int 10), (7, .int 0), (0, .ref 30), (1, .ref ya), (2, .int 0), (3, .int 0), (4, .int (yx + 1)), (5, .int yc), (6, .int 3)]) (st' := []) (by rfl) ?_
  refine Pa.mp 3 (pc' := 169) (l' := [(10, .int 4), (9, .int (-1)), (8, .int 10), (7, .int 0), (0, .ref 30), (1, .ref ya), (2, .int 0), (3, .int 0), (4, .int (yx + 1)), (5, .int yc), (6, .int 3)]) (st' := [.int ((yx + 1) + yc)]) (by rfl) ?_
  refine Pa.iret (by rfl) ?_
  show Pa N 39 243 [(10, .int 3), (9, .int 0), (8, .int 30), (7, .int 2), (0, .ref 30), (1, .ref ya), (2, .int 0), (3, .int 2), (4, .int (yx + 1)), (5, .int yc), (6, .int 2)] [.int ((yx + 1) + yc)] (uI (uI (uI (uI (uI (uI (uI (uI (uI yA 30 6 0) 33 0 11) 30 6 1) 33 1 60) 30 6 2) 33 2 30) 30 6 3) 33 3 10) 30 6 4) _
  refine Pa.ic (x := 4) (pc' := 244) (by rfl) (by rfl) (by decide) ?_
  refine Pa.mp 1 (pc' := 245) (l' := [(10, .int 3), (9, .int 0), (8, .int 30), (7, .int 2), (0, .ref 30), (1, .ref ya), (2, .int 0), (3, .int 2), (4, .int (yx + 1)), (5, .int yc), (6, .int 2)]) (st' := [.int (((yx + 1) + yc) - 4)]) (by rfl) ?_
  refine Pa.iret (by rfl) ?_
  show Pa N 39 313 [(10, .int 2), (9, .int 2), (8, .int 60), (7, .int 5), (0, .ref 30), (1, .ref ya), (2, .int 0), (3, .int 5), (4, .int yx), (5, .int yc), (6, .int 1)] [.int (((yx + 1) + yc) - 4)] (uI (uI (uI (uI (uI (uI (uI (uI (uI yA 30 6 0) 33 0 11) 30 6 1) 33 1 60) 30 6 2) 33 2 30) 30 6 3) 33 3 10) 30 6 4) _
  refine Pa.iret (by rfl) ?_
  show Pa N 39 186 [(10, .int 1), (9, .int (-1)), (8, .int 11), (7, .int 0), (0, .ref 30), (1, .ref ya), (2, .int 1), (3, .int 5), (4, .int yx), (5, .int yc), (6, .int 0)] [.int (((yx + 1) + yc) - 4)] (uI (uI (uI (uI (uI (uI (uI (uI (uI yA 30 6 0) 33 0 11) 30 6 1) 33 1 60) 30 6 2) 33 2 30) 30 6 3) 33 3 10) 30 6 4) _
  refine Pa.ic (x := 2) (pc' := 187) (by rfl) (by rfl) (by decide) ?_
  refine Pa.mp 1 (pc' := 188) (l' := [(10, .int 1), (9, .int (-1)), (8, .int 11), (7, .int 0), (0, .ref 30), (1, .ref ya), (2, .int 1), (3, .int 5), (4, .int yx), (5, .int yc), (6, .int 0)]) (st' := [.int ((((yx + 1) + yc) - 4) * 2)]) (by rfl) ?_
  refine Pa.iret (by rfl) ?_
  exact l1

theorem bpf1_6 {N : Nat} {yA : AW} {yQ : Option Value → AW → Prop} {ya : Nat} (yx yc : Int32) (yha : 129 ≤ ya) (hk : yA.1 ya 1 = 6)
    (l1 : yQ (some (.int ((-((yx + yc) * 2)) - (2 + yc)))) (uI (uI (uI (uI (uI (uI (uI (uI (uI (uI (uI yA 30 6 0) 33 0 70) 30 6 1) 33 1 50) 30 6 2) 33 2 11) 30 6 3) 33 3 10) 30 6 4) 33 4 10) 30 6 5)) :
    Pa N 39 0 [(0, .ref 30), (1, .ref ya), (2, .int 1), (3, .int 6), (4, .int yx), (5, .int yc), (6, .int 0)] [] (uI yA 30 6 0) yQ := by
  refine Pa.mp 2 (pc' := 2) (l' := [(0, .ref 30), (1, .ref ya), (2, .int 1), (3, .int 6), (4, .int yx), (5, .int yc), (6, .int 0)]) (st' := [.int 6, .int 1]) (by rfl) ?_
  refine Pa.ist (by rfl) (by rfl) (.inl rfl) (by rfl) (by rfl) ?_
  refine Pa.mono (c_kwb1_6 N (uI yA 30 6 0)) (fun yu A1 hu => ?_)
  obtain ⟨rfl, hu⟩ := hu
  rw [hu]
  show Pa N 39 5 [(0, .ref 30), (1, .ref ya), (2, .int 1), (3, .int 6), (4, .int yx), (5, .int yc), (6, .int 0)] [.int 6] (uI yA 30 6 0) _
  refine Pa.mp 2 (pc' := 9) (l' := [(7, .int 6), (0, .ref 30), (1, .ref ya), (2, .int 1), (3, .int 6), (4, .int yx), (5, .int yc), (6, .int 0)]) (st' := [.int 6]) (by rfl) ?_
  refine Pa.if1k false (by rfl) (by rfl) (by decide) ?_
  show Pa N 39 12 [(7, .int 6), (0, .ref 30), (1, .ref ya), (2, .int 1), (3, .int 6), (4, .int yx), (5, .int yc), (6, .int 0)] [] (uI yA 30 6 0) _
  refine Pa.mp 1 (pc' := 14) (l' := [(7, .int 6), (0, .ref 30), (1, .ref ya), (2, .int 1), (3, .int 6), (4, .int yx), (5, .int yc), (6, .int 0)]) (st' := [.int 0]) (by rfl) ?_
  refine Pa.ic (x := 30) (pc' := 16) (by rfl) (by rfl) (by decide) ?_
  refine Pa.if2k true (by rfl) (by rfl) (by decide) ?_
  show Pa N 39 21 [(7, .int 6), (0, .ref 30), (1, .ref ya), (2, .int 1), (3, .int 6), (4, .int yx), (5, .int yc), (6, .int 0)] [] (uI yA 30 6 0) _
  refine Pa.mp 2 (pc' := 24) (l' := [(7, .int 6), (0, .ref 30), (1, .ref ya), (2, .int 1), (3, .int 6), (4, .int yx), (5, .int yc), (6, .int 0)]) (st' := [.int 6, .int 1]) (by rfl) ?_
  refine Pa.ist (by rfl) (by rfl) (.inl rfl) (by rfl) (by rfl) ?_
  refine Pa.mono (c_bod1_6 N (uI yA 30 6 0)) (fun yu A1 hu => ?_)
  obtain ⟨rfl, hu⟩ := hu
  rw [hu]
  show Pa N 39 27 [(7, .int 6), (0, .ref 30), (1, .ref ya), (2, .int 1), (3, .int 6), (4, .int yx), (5, .int yc), (6, .int 0)] [.int 70] (uI yA 30 6 0) _
  refine Pa.mp 2 (pc' := 30) (l' := [(8, .int 70), (7, .int 6), (0, .ref 30), (1, .ref ya), (2, .int 1), (3, .int 6), (4, .int yx), (5, .int yc), (6, .int 0)]) (st' := [.ref 30]) (by rfl) ?_
  refine Pa.gfI (v := 0) (by rfl) (by rfl) (.inl rfl) (by rfl) (by show (uI yA 30 6 0).1 30 6 = 0; rw [uI_h]) ?_
  refine Pa.ic (x := 24) (pc' := 35) (by rfl) (by rfl) (by decide) ?_
  refine Pa.if2k false (by rfl) (by rfl) (by decide) ?_
  show Pa N 39 38 [(8, .int 70), (7, .int 6), (0, .ref 30), (1, .ref ya), (2, .int 1), (3, .int 6), (4, .int yx), (5, .int yc), (6, .int 0)] [] (uI yA 30 6 0) _
  refine Pa.mp 1 (pc' := 39) (l' := [(8, .int 70), (7, .int 6), (0, .ref 30), (1, .ref ya), (2, .int 1), (3, .int 6), (4, .int yx), (5, .int yc), (6, .int 0)]) (st' := [.ref 30]) (by rfl) ?_
  refine Pa.gfR (by rfl) (by rfl) (.inl rfl) (by rfl) ?_
  show Pa N 39 42 [(8, .int 70), (7, .int 6), (0, .ref 30), (1, .ref ya), (2, .int 1), (3, .int 6), (4, .int yx), (5, .int yc), (6, .int 0)] [.ref 33] (uI yA 30 6 0) _
  refine Pa.mp 1 (pc' := 43) (l' := [(8, .int 70), (7, .int 6), (0, .ref 30), (1, .ref ya), (2, .int 1), (3, .int 6), (4, .int yx), (5, .int yc), (6, .int 0)]) (st' := [.ref 30, .ref 33]) (by rfl) ?_
  refine Pa.gfI (v := 0) (by rfl) (by rfl) (.inl rfl) (by rfl) (by show (uI yA 30 6 0).1 30 6 = 0; rw [uI_h]) ?_
  refine Pa.mp 1 (pc' := 48) (l' := [(8, .int 70), (7, .int 6), (0, .ref 30), (1, .ref ya), (2, .int 1), (3, .int 6), (4, .int yx), (5, .int yc), (6, .int 0)]) (st' := [.int 70, .int 0, .ref 33]) (by rfl) ?_
  refine Pa.asts (j' := 0) (by rfl) (by rfl) (by rfl) (fun h1 h2 => ?_)
  show Pa N 39 49 [(8, .int 70), (7, .int 6), (0, .ref 30), (1, .ref ya), (2, .int 1), (3, .int 6), (4, .int yx), (5, .int yc), (6, .int 0)] [] (uI (uI yA 30 6 0) 33 0 70) _
  refine Pa.mp 2 (pc' := 51) (l' := [(8, .int 70), (7, .int 6), (0, .ref 30), (1, .ref ya), (2, .int 1), (3, .int 6), (4, .int yx), (5, .int yc), (6, .int 0)]) (st' := [.ref 30, .ref 30]) (by rfl) ?_
  refine Pa.gfI (v := 0) (by rfl) (by rfl) (.inl rfl) (by rfl) (by show (uI (uI yA 30 6 0) 33 0 70).1 30 6 = 0; rw [uI_c (by decide), uI_h]) ?_
  refine Pa.ic (x := 1) (pc' := 55) (by rfl) (by rfl) (by decide) ?_
  refine Pa.mp 1 (pc' := 56) (l' := [(8, .int 70), (7, .int 6), (0, .ref 30), (1, .ref ya), (2, .int 1), (3, .int 6), (4, .int yx), (5, .int yc), (6, .int 0)]) (st' := [.int 1, .ref 30]) (by rfl) ?_
  refine Pa.pfI (by rfl) (by rfl) (.inl rfl) (by rfl) ?_
  show Pa N 39 59 [(8, .int 70), (7, .int 6), (0, .ref 30), (1, .ref ya), (2, .int 1), (3, .int 6), (4, .int yx), (5, .int yc), (6, .int 0)] [] (uI (uI (uI yA 30 6 0) 33 0 70) 30 6 1) _
  refine Pa.mp 1 (pc' := 61) (l' := [(8, .int 70), (7, .int 6), (0, .ref 30), (1, .ref ya), (2, .int 1), (3, .int 6), (4, .int yx), (5, .int yc), (6, .int 0)]) (st' := [.int 6]) (by rfl) ?_
  refine Pa.ist (by rfl) (by rfl) (.inl rfl) (by rfl) (by rfl) ?_
  refine Pa.mono (c_abv6 N (uI (uI (uI yA 30 6 0) 33 0 70) 30 6 1)) (fun yu A1 hu => ?_)
  obtain ⟨rfl, hu⟩ := hu
  rw [hu]
  show Pa N 39 64 [(8, .int 70), (7, .int 6), (0, .ref 30), (1, .ref ya), (2, .int 1), (3, .int 6), (4, .int yx), (5, .int yc), (6, .int 0)] [.int 4] (uI (uI (uI yA 30 6 0) 33 0 70) 30 6 1) _
  refine Pa.mp 2 (pc' := 68) (l' := [(9, .int 4), (8, .int 70), (7, .int 6), (0, .ref 30), (1, .ref ya), (2, .int 1), (3, .int 6), (4, .int yx), (5, .int yc), (6, .int 0)]) (st' := [.int 0]) (by rfl) ?_
  refine Pa.ic (x := 1) (pc' := 69) (by rfl) (by rfl) (by decide) ?_
  refine Pa.mp 3 (pc' := 74) (l' := [(10, .int 1), (9, .int 4), (8, .int 70), (7, .int 6), (0, .ref 30), (1, .ref ya), (2, .int 1), (3, .int 6), (4, .int yx), (5, .int yc), (6, .int 0)]) (st' := [.int 70]) (by rfl) ?_
  refine Pa.mp 1 (pc' := 331) (l' := [(10, .int 1), (9, .int 4), (8, .int 70), (7, .int 6), (0, .ref 30), (1, .ref ya), (2, .int 1), (3, .int 6), (4, .int yx), (5, .int yc), (6, .int 0)]) (st' := []) (by rfl) ?_
  refine Pa.mp 2 (pc' := 333) (l' := [(10, .int 1), (9, .int 4), (8, .int 70), (7, .int 6), (0, .ref 30), (1, .ref ya), (2, .int 1), (3, .int 6), (4, .int yx), (5, .int yc), (6, .int 0)]) (st' := [.ref ya, .ref 30]) (by rfl) ?_
  refine Pa.ic (x := 1) (pc' := 334) (by rfl) (by rfl) (by decide) ?_
  refine Pa.mp 4 (pc' := 342) (l' := [(10, .int 1), (9, .int 4), (8, .int 70), (7, .int 6), (0, .ref 30), (1, .ref ya), (2, .int 1), (3, .int 6), (4, .int yx), (5, .int yc), (6, .int 0)]) (st' := [.int 1, .int yc, .int yx, .int 4, .int 1, .ref ya, .ref 30]) (by rfl) ?_
  refine Pa.inv (by rfl) (by rfl) (.inl rfl) (by rfl) ?_
  show Pa N 39 0 [(0, .ref 30), (1, .ref ya), (2, .int 1), (3, .int 4), (4, .int yx), (5, .int yc), (6, .int 1)] [] (uI (uI (uI yA 30 6 0) 33 0 70) 30 6 1) _
  refine Pa.mp 2 (pc' := 2) (l' := [(0, .ref 30), (1, .ref ya), (2, .int 1), (3, .int 4), (4, .int yx), (5, .int yc), (6, .int 1)]) (st' := [.int 4, .int 1]) (by rfl) ?_
  refine Pa.ist (by rfl) (by rfl) (.inl rfl) (by rfl) (by rfl) ?_
  refine Pa.mono (c_kwb1_4 N (uI (uI (uI yA 30 6 0) 33 0 70) 30 6 1)) (fun yu A1 hu => ?_)
  obtain ⟨rfl, hu⟩ := hu
  rw [hu]
  show Pa N 39 5 [(0, .ref 30), (1, .ref ya), (2, .int 1), (3, .int 4), (4, .int yx), (5, .int yc), (6, .int 1)] [.int 4] (uI (uI (uI yA 30 6 0) 33 0 70) 30 6 1) _
  refine Pa.mp 2 (pc' := 9) (l' := [(7, .int 4), (0, .ref 30), (1, .ref ya), (2, .int 1), (3, .int 4), (4, .int yx), (5, .int yc), (6, .int 1)]) (st' := [.int 4]) (by rfl) ?_
  refine Pa.if1k false (by rfl) (by rfl) (by decide) ?_
  show Pa N 39 12 [(7, .int 4), (0, .ref 30), (1, .ref ya), (2, .int 1), (3, .int 4), (4, .int yx), (5, .int yc), (6, .int 1)] [] (uI (uI (uI yA 30 6 0) 33 0 70) 30 6 1) _
  refine Pa.mp 1 (pc' := 14) (l' := [(7, .int 4), (0, .ref 30), (1, .ref ya), (2, .int 1), (3, .int 4), (4, .int yx), (5, .int yc), (6, .int 1)]) (st' := [.int 1]) (by rfl) ?_
  refine Pa.ic (x := 30) (pc' := 16) (by rfl) (by rfl) (by decide) ?_
  refine Pa.if2k true (by rfl) (by rfl) (by decide) ?_
  show Pa N 39 21 [(7, .int 4), (0, .ref 30), (1, .ref ya), (2, .int 1), (3, .int 4), (4, .int yx), (5, .int yc), (6, .int 1)] [] (uI (uI (uI yA 30 6 0) 33 0 70) 30 6 1) _
  refine Pa.mp 2 (pc' := 24) (l' := [(7, .int 4), (0, .ref 30), (1, .ref ya), (2, .int 1), (3, .int 4), (4, .int yx), (5, .int yc), (6, .int 1)]) (st' := [.int 4, .int 1]) (by rfl) ?_
  refine Pa.ist (by rfl) (by rfl) (.inl rfl) (by rfl) (by rfl) ?_
  refine Pa.mono (c_bod1_4 N (uI (uI (uI yA 30 6 0) 33 0 70) 30 6 1)) (fun yu A1 hu => ?_)
  obtain ⟨rfl, hu⟩ := hu
  rw [hu]
  show Pa N 39 27 [(7, .int 4), (0, .ref 30), (1, .ref ya), (2, .int 1), (3, .int 4), (4, .int yx), (5, .int yc), (6, .int 1)] [.int 50] (uI (uI (uI yA 30 6 0) 33 0 70) 30 6 1) _
  refine Pa.mp 2 (pc' := 30) (l' := [(8, .int 50), (7, .int 4), (0, .ref 30), (1, .ref ya), (2, .int 1), (3, .int 4), (4, .int yx), (5, .int yc), (6, .int 1)]) (st' := [.ref 30]) (by rfl) ?_
  refine Pa.gfI (v := 1) (by rfl) (by rfl) (.inl rfl) (by rfl) (by show (uI (uI (uI yA 30 6 0) 33 0 70) 30 6 1).1 30 6 = 1; rw [uI_h]) ?_
  refine Pa.ic (x := 24) (pc' := 35) (by rfl) (by rfl) (by decide) ?_
  refine Pa.if2k false (by rfl) (by rfl) (by decide) ?_
  show Pa N 39 38 [(8, .int 50), (7, .int 4), (0, .ref 30), (1, .ref ya), (2, .int 1), (3, .int 4), (4, .int yx), (5, .int yc), (6, .int 1)] [] (uI (uI (uI yA 30 6 0) 33 0 70) 30 6 1) _
  refine Pa.mp 1 (pc' := 39) (l' := [(8, .int 50), (7, .int 4), (0, .ref 30), (1, .ref ya), (2, .int 1), (3, .int 4), (4, .int yx), (5, .int yc), (6, .int 1)]) (st' := [.ref 30]) (by rfl) ?_
  refine Pa.gfR (by rfl) (by rfl) (.inl rfl) (by rfl) ?_
  show Pa N 39 42 [(8, .int 50), (7, .int 4), (0, .ref 30), (1, .ref ya), (2, .int 1), (3, .int 4), (4, .int yx), (5, .int yc), (6, .int 1)] [.ref 33] (uI (uI (uI yA 30 6 0) 33 0 70) 30 6 1) _
  refine Pa.mp 1 (pc' := 43) (l' := [(8, .int 50), (7, .int 4), (0, .ref 30), (1, .ref ya), (2, .int 1), (3, .int 4), (4, .int yx), (5, .int yc), (6, .int 1)]) (st' := [.ref 30, .ref 33]) (by rfl) ?_
  refine Pa.gfI (v := 1) (by rfl) (by rfl) (.inl rfl) (by rfl) (by show (uI (uI (uI yA 30 6 0) 33 0 70) 30 6 1).1 30 6 = 1; rw [uI_h]) ?_
  refine Pa.mp 1 (pc' := 48) (l' := [(8, .int 50), (7, .int 4), (0, .ref 30), (1, .ref ya), (2, .int 1), (3, .int 4), (4, .int yx), (5, .int yc), (6, .int 1)]) (st' := [.int 50, .int 1, .ref 33]) (by rfl) ?_
  refine Pa.asts (j' := 1) (by rfl) (by rfl) (by rfl) (fun h3 h4 => ?_)
  show Pa N 39 49 [(8, .int 50), (7, .int 4), (0, .ref 30), (1, .ref ya), (2, .int 1), (3, .int 4), (4, .int yx), (5, .int yc), (6, .int 1)] [] (uI (uI (uI (uI yA 30 6 0) 33 0 70) 30 6 1) 33 1 50) _
  refine Pa.mp 2 (pc' := 51) (l' := [(8, .int 50), (7, .int 4), (0, .ref 30), (1, .ref ya), (2, .int 1), (3, .int 4), (4, .int yx), (5, .int yc), (6, .int 1)]) (st' := [.ref 30, .ref 30]) (by rfl) ?_
  refine Pa.gfI (v := 1) (by rfl) (by rfl) (.inl rfl) (by rfl) (by show (uI (uI (uI (uI yA 30 6 0) 33 0 70) 30 6 1) 33 1 50).1 30 6 = 1; rw [uI_c (by decide), uI_h]) ?_
  refine Pa.ic (x := 1) (pc' := 55) (by rfl) (by rfl) (by decide) ?_
  refine Pa.mp 1 (pc' := 56) (l' := [(8, .int 50), (7, .int 4), (0, .ref 30), (1, .ref ya), (2, .int 1), (3, .int 4), (4, .int yx), (5, .int yc), (6, .int 1)]) (st' := [.int 2, .ref 30]) (by rfl) ?_
  refine Pa.pfI (by rfl) (by rfl) (.inl rfl) (by rfl) ?_
  show Pa N 39 59 [(8, .int 50), (7, .int 4), (0, .ref 30), (1, .ref ya), (2, .int 1), (3, .int 4), (4, .int yx), (5, .int yc), (6, .int 1)] [] (uI (uI (uI (uI (uI yA 30 6 0) 33 0 70) 30 6 1) 33 1 50) 30 6 2) _
  refine Pa.mp 1 (pc' := 61) (l' := [(8, .int 50), (7, .int 4), (0, .ref 30), (1, .ref ya), (2, .int 1), (3, .int 4), (4, .int yx), (5, .int yc), (6, .int 1)]) (st' := [.int 4]) (by rfl) ?_
  refine Pa.ist (by rfl) (by rfl) (.inl rfl) (by rfl) (by rfl) ?_
  refine Pa.mono (c_abv4 N (uI (uI (uI (uI (uI yA 30 6 0) 33 0 70) 30 6 1) 33 1 50) 30 6 2)) (fun yu A1 hu => ?_)
  obtain ⟨rfl, hu⟩ := hu
  rw [hu]
  show Pa N 39 64 [(8, .int 50), (7, .int 4), (0, .ref 30), (1, .ref ya), (2, .int 1), (3, .int 4), (4, .int yx), (5, .int yc), (6, .int 1)] [.int 0] (uI (uI (uI (uI (uI yA 30 6 0) 33 0 70) 30 6 1) 33 1 50) 30 6 2) _
  refine Pa.mp 2 (pc' := 68) (l' := [(9, .int 0), (8, .int 50), (7, .int 4), (0, .ref 30), (1, .ref ya), (2, .int 1), (3, .int 4), (4, .int yx), (5, .int yc), (6, .int 1)]) (st' := [.int 1]) (by rfl) ?_
  refine Pa.ic (x := 1) (pc' := 69) (by rfl) (by rfl) (by decide) ?_
  refine Pa.mp 3 (pc' := 74) (l' := [(10, .int 2), (9, .int 0), (8, .int 50), (7, .int 4), (0, .ref 30), (1, .ref ya), (2, .int 1), (3, .int 4), (4, .int yx), (5, .int yc), (6, .int 1)]) (st' := [.int 50]) (by rfl) ?_
  refine Pa.mp 1 (pc' := 281) (l' := [(10, .int 2), (9, .int 0), (8, .int 50), (7, .int 4), (0, .ref 30), (1, .ref ya), (2, .int 1), (3, .int 4), (4, .int yx), (5, .int yc), (6, .int 1)]) (st' := []) (by rfl) ?_
  refine Pa.mp 2 (pc' := 283) (l' := [(10, .int 2), (9, .int 0), (8, .int 50), (7, .int 4), (0, .ref 30), (1, .ref ya), (2, .int 1), (3, .int 4), (4, .int yx), (5, .int yc), (6, .int 1)]) (st' := [.ref ya, .ref 30]) (by rfl) ?_
  refine Pa.ic (x := 1) (pc' := 284) (by rfl) (by rfl) (by decide) ?_
  refine Pa.mp 4 (pc' := 292) (l' := [(10, .int 2), (9, .int 0), (8, .int 50), (7, .int 4), (0, .ref 30), (1, .ref ya), (2, .int 1), (3, .int 4), (4, .int yx), (5, .int yc), (6, .int 1)]) (st' := [.int 2, .int yc, .int yx, .int 0, .int 1, .ref ya, .ref 30]) (by rfl) ?_
  refine Pa.inv (by rfl) (by rfl) (.inl rfl) (by rfl) ?_
  show Pa N 39 0 [(0, .ref 30), (1, .ref ya), (2, .int 1), (3, .int 0), (4, .int yx), (5, .int yc), (6, .int 2)] [] (uI (uI (uI (uI (uI yA 30 6 0) 33 0 70) 30 6 1) 33 1 50) 30 6 2) _
  refine Pa.mp 2 (pc' := 2) (l' := [(0, .ref 30), (1, .ref ya), (2, .int 1), (3, .int 0), (4, .int yx), (5, .int yc), (6, .int 2)]) (st' := [.int 0, .int 1]) (by rfl) ?_
  refine Pa.ist (by rfl) (by rfl) (.inl rfl) (by rfl) (by rfl) ?_
  refine Pa.mono (c_kwb1_0 N (uI (uI (uI (uI (uI yA 30 6 0) 33 0 70) 30 6 1) 33 1 50) 30 6 2)) (fun yu A1 hu => ?_)
  obtain ⟨rfl, hu⟩ := hu
  rw [hu]
  show Pa N 39 5 [(0, .ref 30), (1, .ref ya), (2, .int 1), (3, .int 0), (4, .int yx), (5, .int yc), (6, .int 2)] [.int 0] (uI (uI (uI (uI (uI yA 30 6 0) 33 0 70) 30 6 1) 33 1 50) 30 6 2) _
  refine Pa.mp 2 (pc' := 9) (l' := [(7, .int 0), (0, .ref 30), (1, .ref ya), (2, .int 1), (3, .int 0), (4, .int yx), (5, .int yc), (6, .int 2)]) (st' := [.int 0]) (by rfl) ?_
  refine Pa.if1k false (by rfl) (by rfl) (by decide) ?_
  show Pa N 39 12 [(7, .int 0), (0, .ref 30), (1, .ref ya), (2, .int 1), (3, .int 0), (4, .int yx), (5, .int yc), (6, .int 2)] [] (uI (uI (uI (uI (uI yA 30 6 0) 33 0 70) 30 6 1) 33 1 50) 30 6 2) _
  refine Pa.mp 1 (pc' := 14) (l' := [(7, .int 0), (0, .ref 30), (1, .ref ya), (2, .int 1), (3, .int 0), (4, .int yx), (5, .int yc), (6, .int 2)]) (st' := [.int 2]) (by rfl) ?_
  refine Pa.ic (x := 30) (pc' := 16) (by rfl) (by rfl) (by decide) ?_
  refine Pa.if2k true (by rfl) (by rfl) (by decide) ?_
  show Pa N 39 21 [(7, .int 0), (0, .ref 30), (1, .ref ya), (2, .int 1), (3, .int 0), (4, .int yx), (5, .int yc), (6, .int 2)] [] (uI (uI (uI (uI (uI yA 30 6 0) 33 0 70) 30 6 1) 33 1 50) 30 6 2) _
  refine Pa.mp 2 (pc' := 24) (l' := [(7, .int 0), (0, .ref 30), (1, .ref ya), (2, .int 1), (3, .int 0), (4, .int yx), (5, .int yc), (6, .int 2)]) (st' := [.int 0, .int 1]) (by rfl) ?_
  refine Pa.ist (by rfl) (by rfl) (.inl rfl) (by rfl) (by rfl) ?_
  refine Pa.mono (c_bod1_0 N (uI (uI (uI (uI (uI yA 30 6 0) 33 0 70) 30 6 1) 33 1 50) 30 6 2)) (fun yu A1 hu => ?_)
  obtain ⟨rfl, hu⟩ := hu
  rw [hu]
  show Pa N 39 27 [(7, .int 0), (0, .ref 30), (1, .ref ya), (2, .int 1), (3, .int 0), (4, .int yx), (5, .int yc), (6, .int 2)] [.int 11] (uI (uI (uI (uI (uI yA 30 6 0) 33 0 70) 30 6 1) 33 1 50) 30 6 2) _
  refine Pa.mp 2 (pc' := 30) (l' := [(8, .int 11), (7, .int 0), (0, .ref 30), (1, .ref ya), (2, .int 1), (3, .int 0), (4, .int yx), (5, .int yc), (6, .int 2)]) (st' := [.ref 30]) (by rfl) ?_
  refine Pa.gfI (v := 2) (by rfl) (by rfl) (.inl rfl) (by rfl) (by show (uI (uI (uI (uI (uI yA 30 6 0) 33 0 70) 30 6 1) 33 1 50) 30 6 2).1 30 6 = 2; rw [uI_h]) ?_
  refine Pa.ic (x := 24) (pc' := 35) (by rfl) (by rfl) (by decide) ?_
  refine Pa.if2k false (by rfl) (by rfl) (by decide) ?_
  show Pa N 39 38 [(8, .int 11), (7, .int 0), (0, .ref 30), (1, .ref ya), (2, .int 1), (3, .int 0), (4, .int yx), (5, .int yc), (6, .int 2)] [] (uI (uI (uI (uI (uI yA 30 6 0) 33 0 70) 30 6 1) 33 1 50) 30 6 2) _
  refine Pa.mp 1 (pc' := 39) (l' := [(8, .int 11), (7, .int 0), (0, .ref 30), (1, .ref ya), (2, .int 1), (3, .int 0), (4, .int yx), (5, .int yc), (6, .int 2)]) (st' := [.ref 30]) (by rfl) ?_
  refine Pa.gfR (by rfl) (by rfl) (.inl rfl) (by rfl) ?_
  show Pa N 39 42 [(8, .int 11), (7, .int 0), (0, .ref 30), (1, .ref ya), (2, .int 1), (3, .int 0), (4, .int yx), (5, .int yc), (6, .int 2)] [.ref 33] (uI (uI (uI (uI (uI yA 30 6 0) 33 0 70) 30 6 1) 33 1 50) 30 6 2) _
  refine Pa.mp 1 (pc' := 43) (l' := [(8, .int 11), (7, .int 0), (0, .ref 30), (1, .ref ya), (2, .int 1), (3, .int 0), (4, .int yx), (5, .int yc), (6, .int 2)]) (st' := [.ref 30, .ref 33]) (by rfl) ?_
  refine Pa.gfI (v := 2) (by rfl) (by rfl) (.inl rfl) (by rfl) (by show (uI (uI (uI (uI (uI yA 30 6 0) 33 0 70) 30 6 1) 33 1 50) 30 6 2).1 30 6 = 2; rw [uI_h]) ?_
  refine Pa.mp 1 (pc' := 48) (l' := [(8, .int 11), (7, .int 0), (0, .ref 30), (1, .ref ya), (2, .int 1), (3, .int 0), (4, .int yx), (5, .int yc), (6, .int 2)]) (st' := [.int 11, .int 2, .ref 33]) (by rfl) ?_
  refine Pa.asts (j' := 2) (by rfl) (by rfl) (by rfl) (fun h5 h6 => ?_)
  show Pa N 39 49 [(8, .int 11), (7, .int 0), (0, .ref 30), (1, .ref ya), (2, .int 1), (3, .int 0), (4, .int yx), (5, .int yc), (6, .int 2)] [] (uI (uI (uI (uI (uI (uI yA 30 6 0) 33 0 70) 30 6 1) 33 1 50) 30 6 2) 33 2 11) _
  refine Pa.mp 2 (pc' := 51) (l' := [(8, .int 11), (7, .int 0), (0, .ref 30), (1, .ref ya), (2, .int 1), (3, .int 0), (4, .int yx), (5, .int yc), (6, .int 2)]) (st' := [.ref 30, .ref 30]) (by rfl) ?_
  refine Pa.gfI (v := 2) (by rfl) (by rfl) (.inl rfl) (by rfl) (by show (uI (uI (uI (uI (uI (uI yA 30 6 0) 33 0 70) 30 6 1) 33 1 50) 30 6 2) 33 2 11).1 30 6 = 2; rw [uI_c (by decide), uI_h]) ?_
  refine Pa.ic (x := 1) (pc' := 55) (by rfl) (by rfl) (by decide) ?_
  refine Pa.mp 1 (pc' := 56) (l' := [(8, .int 11), (7, .int 0), (0, .ref 30), (1, .ref ya), (2, .int 1), (3, .int 0), (4, .int yx), (5, .int yc), (6, .int 2)]) (st' := [.int 3, .ref 30]) (by rfl) ?_
  refine Pa.pfI (by rfl) (by rfl) (.inl rfl) (by rfl) ?_
  show Pa N 39 59 [(8, .int 11), (7, .int 0), (0, .ref 30), (1, .ref ya), (2, .int 1), (3, .int 0), (4, .int yx), (5, .int yc), (6, .int 2)] [] (uI (uI (uI (uI (uI (uI (uI yA 30 6 0) 33 0 70) 30 6 1) 33 1 50) 30 6 2) 33 2 11) 30 6 3) _
  refine Pa.mp 1 (pc' := 61) (l' := [(8, .int 11), (7, .int 0), (0, .ref 30), (1, .ref ya), (2, .int 1), (3, .int 0), (4, .int yx), (5, .int yc), (6, .int 2)]) (st' := [.int 0]) (by rfl) ?_
  refine Pa.ist (by rfl) (by rfl) (.inl rfl) (by rfl) (by rfl) ?_
  refine Pa.mono (c_abv0 N (uI (uI (uI (uI (uI (uI (uI yA 30 6 0) 33 0 70) 30 6 1) 33 1 50) 30 6 2) 33 2 11) 30 6 3)) (fun yu A1 hu => ?_)
  obtain ⟨rfl, hu⟩ := hu
  rw [hu]
  show Pa N 39 64 [(8, .int 11), (7, .int 0), (0, .ref 30), (1, .ref ya), (2, .int 1), (3, .int 0), (4, .int yx), (5, .int yc), (6, .int 2)] [.int (-1)] (uI (uI (uI (uI (uI (uI (uI yA 30 6 0) 33 0 70) 30 6 1) 33 1 50) 30 6 2) 33 2 11) 30 6 3) _
  refine Pa.mp 2 (pc' := 68) (l' := [(9, .int (-1)), (8, .int 11), (7, .int 0), (0, .ref 30), (1, .ref ya), (2, .int 1), (3, .int 0), (4, .int yx), (5, .int yc), (6, .int 2)]) (st' := [.int 2]) (by rfl) ?_
  refine Pa.ic (x := 1) (pc' := 69) (by rfl) (by rfl) (by decide) ?_
  refine Pa.mp 3 (pc' := 74) (l' := [(10, .int 3), (9, .int (-1)), (8, .int 11), (7, .int 0), (0, .ref 30), (1, .ref ya), (2, .int 1), (3, .int 0), (4, .int yx), (5, .int yc), (6, .int 2)]) (st' := [.int 11]) (by rfl) ?_
  refine Pa.mp 1 (pc' := 170) (l' := [(10, .int 3), (9, .int (-1)), (8, .int 11), (7, .int 0), (0, .ref 30), (1, .ref ya), (2, .int 1), (3, .int 0), (4, .int yx), (5, .int yc), (6, .int 2)]) (st' := []) (by rfl) ?_
  refine Pa.mp 2 (pc' := 172) (l' := [(10, .int 3), (9, .int (-1)), (8, .int 11), (7, .int 0), (0, .ref 30), (1, .ref ya), (2, .int 1), (3, .int 0), (4, .int yx), (5, .int yc), (6, .int 2)]) (st' := [.ref ya, .ref 30]) (by rfl) ?_
  refine Pa.ic (x := 0) (pc' := 173) (by rfl) (by rfl) (by decide) ?_
  refine Pa.mp 1 (pc' := 174) (l' := [(10, .int 3), (9, .int (-1)), (8, .int 11), (7, .int 0), (0, .ref 30), (1, .ref ya), (2, .int 1), (3, .int 0), (4, .int yx), (5, .int yc), (6, .int 2)]) (st' := [.ref ya, .int 0, .ref ya, .ref 30]) (by rfl) ?_
  refine Pa.gfI (v := 6) (by rfl) (by rfl) (.inr rfl) (by rfl) (by show (uI (uI (uI (uI (uI (uI (uI yA 30 6 0) 33 0 70) 30 6 1) 33 1 50) 30 6 2) 33 2 11) 30 6 3).1 ya 1 = 6; rw [uI_c (by omega), uI_c (by omega), uI_c (by omega), uI_c (by omega), uI_c (by omega), uI_c (by omega), uI_c (by omega), hk]) ?_
  refine Pa.mp 3 (pc' := 183) (l' := [(10, .int 3), (9, .int (-1)), (8, .int 11), (7, .int 0), (0, .ref 30), (1, .ref ya), (2, .int 1), (3, .int 0), (4, .int yx), (5, .int yc), (6, .int 2)]) (st' := [.int 3, .int yc, .int yx, .int 6, .int 0, .ref ya, .ref 30]) (by rfl) ?_
  refine Pa.inv (by rfl) (by rfl) (.inl rfl) (by rfl) ?_
  show Pa N 39 0 [(0, .ref 30), (1, .ref ya), (2, .int 0), (3, .int 6), (4, .int yx), (5, .int yc), (6, .int 3)] [] (uI (uI (uI (uI (uI (uI (uI yA 30 6 0) 33 0 70) 30 6 1) 33 1 50) 30 6 2) 33 2 11) 30 6 3) _
  refine Pa.mp 2 (pc' := 2) (l' := [(0, .ref 30), (1, .ref ya), (2, .int 0), (3, .int 6), (4, .int yx), (5, .int yc), (6, .int 3)]) (st' := [.int 6, .int 0]) (by rfl) ?_
  refine Pa.ist (by rfl) (by rfl) (.inl rfl) (by rfl) (by rfl) ?_
  refine Pa.mono (c_kwb0_6 N (uI (uI (uI (uI (uI (uI (uI yA 30 6 0) 33 0 70) 30 6 1) 33 1 50) 30 6 2) 33 2 11) 30 6 3)) (fun yu A1 hu => ?_)
  obtain ⟨rfl, hu⟩ := hu
  rw [hu]
  show Pa N 39 5 [(0, .ref 30), (1, .ref ya), (2, .int 0), (3, .int 6), (4, .int yx), (5, .int yc), (6, .int 3)] [.int 0] (uI (uI (uI (uI (uI (uI (uI yA 30 6 0) 33 0 70) 30 6 1) 33 1 50) 30 6 2) 33 2 11) 30 6 3) _
  refine Pa.mp 2 (pc' := 9) (l' := [(7, .int 0), (0, .ref 30), (1, .ref ya), (2, .int 0), (3, .int 6), (4, .int yx), (5, .int yc), (6, .int 3)]) (st' := [.int 0]) (by rfl) ?_
  refine Pa.if1k false (by rfl) (by rfl) (by decide) ?_
  show Pa N 39 12 [(7, .int 0), (0, .ref 30), (1, .ref ya), (2, .int 0), (3, .int 6), (4, .int yx), (5, .int yc), (6, .int 3)] [] (uI (uI (uI (uI (uI (uI (uI yA 30 6 0) 33 0 70) 30 6 1) 33 1 50) 30 6 2) 33 2 11) 30 6 3) _
  refine Pa.mp 1 (pc' := 14) (l' := [(7, .int 0), (0, .ref 30), (1, .ref ya), (2, .int 0), (3, .int 6), (4, .int yx), (5, .int yc), (6, .int 3)]) (st' := [.int 3]) (by rfl) ?_
  refine Pa.ic (x := 30) (pc' := 16) (by rfl) (by rfl) (by decide) ?_
  refine Pa.if2k true (by rfl) (by rfl) (by decide) ?_
  show Pa N 39 21 [(7, .int 0), (0, .ref 30), (1, .ref ya), (2, .int 0), (3, .int 6), (4, .int yx), (5, .int yc), (6, .int 3)] [] (uI (uI (uI (uI (uI (uI (uI yA 30 6 0) 33 0 70) 30 6 1) 33 1 50) 30 6 2) 33 2 11) 30 6 3) _
  refine Pa.mp 2 (pc' := 24) (l' := [(7, .int 0), (0, .ref 30), (1, .ref ya), (2, .int 0), (3, .int 6), (4, .int yx), (5, .int yc), (6, .int 3)]) (st' := [.int 0, .int 0]) (by rfl) ?_
  refine Pa.ist (by rfl) (by rfl) (.inl rfl) (by rfl) (by rfl) ?_
  refine Pa.mono (c_bod0_0 N (uI (uI (uI (uI (uI (uI (uI yA 30 6 0) 33 0 70) 30 6 1) 33 1 50) 30 6 2) 33 2 11) 30 6 3)) (fun yu A1 hu => ?_)
  obtain ⟨rfl, hu⟩ := hu
  rw [hu]
  show Pa N 39 27 [(7, .int 0), (0, .ref 30), (1, .ref ya), (2, .int 0), (3, .int 6), (4, .int yx), (5, .int yc), (6, .int 3)] [.int 10] (uI (uI (uI (uI (uI (uI (uI yA 30 6 0) 33 0 70) 30 6 1) 33 1 50) 30 6 2) 33 2 11) 30 6 3) _
  refine Pa.mp 2 (pc' := 30) (l' := [(8, .int 10), (7, .int 0), (0, .ref 30), (1, .ref ya), (2, .int 0), (3, .int 6), (4, .int yx), (5, .int yc), (6, .int 3)]) (st' := [.ref 30]) (by rfl) ?_
  refine Pa.gfI (v := 3) (by rfl) (by rfl) (.inl rfl) (by rfl) (by show (uI (uI (uI (uI (uI (uI (uI yA 30 6 0) 33 0 70) 30 6 1) 33 1 50) 30 6 2) 33 2 11) 30 6 3).1 30 6 = 3; rw [uI_h]) ?_
  refine Pa.ic (x := 24) (pc' := 35) (by rfl) (by rfl) (by decide) ?_
  refine Pa.if2k false (by rfl) (by rfl) (by decide) ?_
  show Pa N 39 38 [(8, .int 10), (7, .int 0), (0, .ref 30), (1, .ref ya), (2, .int 0), (3, .int 6), (4, .int yx), (5, .int yc), (6, .int 3)] [] (uI (uI (uI (uI (uI (uI (uI yA 30 6 0) 33 0 70) 30 6 1) 33 1 50) 30 6 2) 33 2 11) 30 6 3) _
  refine Pa.mp 1 (pc' := 39) (l' := [(8, .int 10), (7, .int 0), (0, .ref 30), (1, .ref ya), (2, .int 0), (3, .int 6), (4, .int yx), (5, .int yc), (6, .int 3)]) (st' := [.ref 30]) (by rfl) ?_
  refine Pa.gfR (by rfl) (by rfl) (.inl rfl) (by rfl) ?_
  show Pa N 39 42 [(8, .int 10), (7, .int 0), (0, .ref 30), (1, .ref ya), (2, .int 0), (3, .int 6), (4, .int yx), (5, .int yc), (6, .int 3)] [.ref 33] (uI (uI (uI (uI (uI (uI (uI yA 30 6 0) 33 0 70) 30 6 1) 33 1 50) 30 6 2) 33 2 11) 30 6 3) _
  refine Pa.mp 1 (pc' := 43) (l' := [(8, .int 10), (7, .int 0), (0, .ref 30), (1, .ref ya), (2, .int 0), (3, .int 6), (4, .int yx), (5, .int yc), (6, .int 3)]) (st' := [.ref 30, .ref 33]) (by rfl) ?_
  refine Pa.gfI (v := 3) (by rfl) (by rfl) (.inl rfl) (by rfl) (by show (uI (uI (uI (uI (uI (uI (uI yA 30 6 0) 33 0 70) 30 6 1) 33 1 50) 30 6 2) 33 2 11) 30 6 3).1 30 6 = 3; rw [uI_h]) ?_
  refine Pa.mp 1 (pc' := 48) (l' := [(8, .int 10), (7, .int 0), (0, .ref 30), (1, .ref ya), (2, .int 0), (3, .int 6), (4, .int yx), (5, .int yc), (6, .int 3)]) (st' := [.int 10, .int 3, .ref 33]) (by rfl) ?_
  refine Pa.asts (j' := 3) (by rfl) (by rfl) (by rfl) (fun h7 h8 => ?_)
  show Pa N 39 49 [(8, .int 10), (7, .int 0), (0, .ref 30), (1, .ref ya), (2, .int 0), (3, .int 6), (4, .int yx), (5, .int yc), (6, .int 3)] [] (uI (uI (uI (uI (uI (uI (uI (uI yA 30 6 0) 33 0 70) 30 6 1) 33 1 50) 30 6 2) 33 2 11) 30 6 3) 33 3 10) _
  refine Pa.mp 2 (pc' := 51) (l' := [(8, .int 10), (7, .int 0), (0, .ref 30), (1, .ref ya), (2, .int 0), (3, .int 6), (4, .int yx), (5, .int yc), (6, .int 3)]) (st' := [.ref 30, .ref 30]) (by rfl) ?_
  refine Pa.gfI (v := 3) (by rfl) (by rfl) (.inl rfl) (by rfl) (by show (uI (uI (uI (uI (uI (uI (uI (uI yA 30 6 0) 33 0 70) 30 6 1) 33 1 50) 30 6 2) 33 2 11) 30 6 3) 33 3 10).1 30 6 = 3; rw [uI_c (by decide), uI_h]) ?_
  refine Pa.ic (x := 1) (pc' := 55) (by rfl) (by rfl) (by decide) ?_
  refine Pa.mp 1 (pc' := 56) (l' := [(8, .int 10), (7, .int 0), (0, .ref 30), (1, .ref ya), (2, .int 0), (3, .int 6), (4, .int yx), (5, .int yc), (6, .int 3)]) (st' := [.int 4, .ref 30]) (by rfl) ?_
  refine Pa.pfI (by rfl) (by rfl) (.inl rfl) (by rfl) ?_
  show Pa N 39 59 [(8, .int 10), (7, .int 0), (0, .ref 30), (1, .ref ya), (2, .int 0), (3, .int 6), (4, .int yx), (5, .int yc), (6, .int 3)] [] (uI (uI (uI (uI (uI (uI (uI (uI (uI yA 30 6 0) 33 0 70) 30 6 1) 33 1 50) 30 6 2) 33 2 11) 30 6 3) 33 3 10) 30 6 4) _
  refine Pa.mp 1 (pc' := 61) (l' := [(8, .int 10), (7, .int 0), (0, .ref 30), (1, .ref ya), (2, .int 0), (3, .int 6), (4, .int yx), (5, .int yc), (6, .int 3)]) (st' := [.int 0]) (by rfl) ?_
  refine Pa.ist (by rfl) (by rfl) (.inl rfl) (by rfl) (by rfl) ?_
  refine Pa.mono (c_abv0 N (uI (uI (uI (uI (uI (uI (uI (uI (uI yA 30 6 0) 33 0 70) 30 6 1) 33 1 50) 30 6 2) 33 2 11) 30 6 3) 33 3 10) 30 6 4)) (fun yu A1 hu => ?_)
  obtain ⟨rfl, hu⟩ := hu
  rw [hu]
  show Pa N 39 64 [(8, .int 10), (7, .int 0), (0, .ref 30), (1, .ref ya), (2, .int 0), (3, .int 6), (4, .int yx), (5, .int yc), (6, .int 3)] [.int (-1)] (uI (uI (uI (uI (uI (uI (uI (uI (uI yA 30 6 0) 33 0 70) 30 6 1) 33 1 50) 30 6 2) 33 2 11) 30 6 3) 33 3 10) 30 6 4) _
  refine Pa.mp 2 (pc' := 68) (l' := [(9, .int (-1)), (8, .int 10), (7, .int 0), (0, .ref 30), (1, .ref ya), (2, .int 0), (3, .int 6), (4, .int yx), (5, .int yc), (6, .int 3)]) (st' := [.int 3]) (by rfl) ?_
  refine Pa.ic (x := 1) (pc' := 69) (by rfl) (by rfl) (by decide) ?_
  refine Pa.mp 3 (pc' := 74) (l' := [(10, .int 4), (9, .int (-1)), (8, .int 10), (7, .int 0), (0, .ref 30), (1, .ref ya), (2, .int 0), (3, .int 6), (4, .int yx), (5, .int yc), (6, .int 3)]) (st' := [.int 10]) (by rfl) ?_
  refine Pa.mp 1 (pc' := 164) (l' := [(10, .int 4), (9, .int (-1)), (8, .int 10), (7, .int 0), (0, .ref 30), (1, .ref ya), (2, .int 0), (3, .int 6), (4, .int yx), (5, .int yc), (6, .int 3)]) (st' := []) (by rfl) ?_
  refine Pa.mp 3 (pc' := 169) (l' := [(10, .int 4), (9, .int (-1)), (8, .int 10), (7, .int 0), (0, .ref 30), (1, .ref ya), (2, .int 0), (3, .int 6), (4, .int yx), (5, .int yc), (6, .int 3)]) (st' := [.int (yx + yc)]) (by rfl) ?_
  refine Pa.iret (by rfl) ?_
  show Pa N 39 186 [(10, .int 3), (9, .int (-1)), (8, .int 11), (7, .int 0), (0, .ref 30), (1, .ref ya), (2, .int 1), (3, .int 0), (4, .int yx), (5, .int yc), (6, .int 2)] [.int (yx + yc)] (uI (uI (uI (uI (uI (uI (uI (uI (uI yA 30 6 0) 33 0 70) 30 6 1) 33 1 50) 30 6 2) 33 2 11) 30 6 3) 33 3 10) 30 6 4) _
  refine Pa.ic (x := 2) (pc' := 187) (by rfl) (by rfl) (by decide) ?_
  refine Pa.mp 1 (pc' := 188) (l' := [(10, .int 3), (9, .int (-1)), (8, .int 11), (7, .int 0), (0, .ref 30), (1, .ref ya), (2, .int 1), (3, .int 0), (4, .int yx), (5, .int yc), (6, .int 2)]) (st' := [.int ((yx + yc) * 2)]) (by rfl) ?_
  refine Pa.iret (by rfl) ?_
  show Pa N 39 295 [(10, .int 2), (9, .int 0), (8, .int 50), (7, .int 4), (0, .ref 30), (1, .ref ya), (2, .int 1), (3, .int 4), (4, .int yx), (5, .int yc), (6, .int 1)] [.int ((yx + yc) * 2)] (uI (uI (uI (uI (uI (uI (uI (uI (uI yA 30 6 0) 33 0 70) 30 6 1) 33 1 50) 30 6 2) 33 2 11) 30 6 3) 33 3 10) 30 6 4) _
  refine Pa.mp 1 (pc' := 296) (l' := [(10, .int 2), (9, .int 0), (8, .int 50), (7, .int 4), (0, .ref 30), (1, .ref ya), (2, .int 1), (3, .int 4), (4, .int yx), (5, .int yc), (6, .int 1)]) (st' := [.int (-((yx + yc) * 2))]) (by rfl) ?_
  refine Pa.iret (by rfl) ?_
  show Pa N 39 345 [(10, .int 1), (9, .int 4), (8, .int 70), (7, .int 6), (0, .ref 30), (1, .ref ya), (2, .int 1), (3, .int 6), (4, .int yx), (5, .int yc), (6, .int 0)] [.int (-((yx + yc) * 2))] (uI (uI (uI (uI (uI (uI (uI (uI (uI yA 30 6 0) 33 0 70) 30 6 1) 33 1 50) 30 6 2) 33 2 11) 30 6 3) 33 3 10) 30 6 4) _
  refine Pa.mp 4 (pc' := 351) (l' := [(12, .int (-((yx + yc) * 2))), (10, .int 1), (9, .int 4), (8, .int 70), (7, .int 6), (0, .ref 30), (1, .ref ya), (2, .int 1), (3, .int 6), (4, .int yx), (5, .int yc), (6, .int 0)]) (st' := [.ref ya, .ref 30, .int (-((yx + yc) * 2))]) (by rfl) ?_
  refine Pa.ic (x := 0) (pc' := 352) (by rfl) (by rfl) (by decide) ?_
  refine Pa.mp 1 (pc' := 353) (l' := [(12, .int (-((yx + yc) * 2))), (10, .int 1), (9, .int 4), (8, .int 70), (7, .int 6), (0, .ref 30), (1, .ref ya), (2, .int 1), (3, .int 6), (4, .int yx), (5, .int yc), (6, .int 0)]) (st' := [.ref ya, .int 0, .ref ya, .ref 30, .int (-((yx + yc) * 2))]) (by rfl) ?_
  refine Pa.gfI (v := 6) (by rfl) (by rfl) (.inr rfl) (by rfl) (by show (uI (uI (uI (uI (uI (uI (uI (uI (uI yA 30 6 0) 33 0 70) 30 6 1) 33 1 50) 30 6 2) 33 2 11) 30 6 3) 33 3 10) 30 6 4).1 ya 1 = 6; rw [uI_c (by omega), uI_c (by omega), uI_c (by omega), uI_c (by omega), uI_c (by omega), uI_c (by omega), uI_c (by omega), uI_c (by omega), uI_c (by omega), hk]) ?_
  refine Pa.ic (x := 2) (pc' := 357) (by rfl) (by rfl) (by decide) ?_
  refine Pa.mp 2 (pc' := 361) (l' := [(12, .int (-((yx + yc) * 2))), (10, .int 1), (9, .int 4), (8, .int 70), (7, .int 6), (0, .ref 30), (1, .ref ya), (2, .int 1), (3, .int 6), (4, .int yx), (5, .int yc), (6, .int 0)]) (st' := [.int 1, .int yc, .int 2, .int 6, .int 0, .ref ya, .ref 30, .int (-((yx + yc) * 2))]) (by rfl) ?_
  refine Pa.inv (by rfl) (by rfl) (.inl rfl) (by rfl) ?_
  show Pa N 39 0 [(0, .ref 30), (1, .ref ya), (2, .int 0), (3, .int 6), (4, .int 2), (5, .int yc), (6, .int 1)] [] (uI (uI (uI (uI (uI (uI (uI (uI (uI yA 30 6 0) 33 0 70) 30 6 1) 33 1 50) 30 6 2) 33 2 11) 30 6 3) 33 3 10) 30 6 4) _
  refine Pa.mp 2 (pc' := 2) (l' := [(0, .ref 30), (1, .ref ya), (2, .int 0), (3, .int 6), (4, .int 2), (5, .int yc), (6, .int 1)]) (st' := [.int 6, .int 0]) (by rfl) ?_
  refine Pa.ist (by rfl) (by rfl) (.inl rfl) (by rfl) (by rfl) ?_
  refine Pa.mono (c_kwb0_6 N (uI (uI (uI (uI (uI (uI (uI (uI (uI yA 30 6 0) 33 0 70) 30 6 1) 33 1 50) 30 6 2) 33 2 11) 30 6 3) 33 3 10) 30 6 4)) (fun yu A1 hu => ?_)
  obtain ⟨rfl, hu⟩ := hu
  rw [hu]
  show Pa N 39 5 [(0, .ref 30), (1, .ref ya), (2, .int 0), (3, .int 6), (4, .int 2), (5, .int yc), (6, .int 1)] [.int 0] (uI (uI (uI (uI (uI (uI (uI (uI (uI yA 30 6 0) 33 0 70) 30 6 1) 33 1 50) 30 6 2) 33 2 11) 30 6 3) 33 3 10) 30 6 4) _
  refine Pa.mp 2 (pc' := 9) (l' := [(7, .int 0), (0, .ref 30), (1, .ref ya), (2, .int 0), (3, .int 6), (4, .int 2), (5, .int yc), (6, .int 1)]) (st' := [.int 0]) (by rfl) ?_
  refine Pa.if1k false (by rfl) (by rfl) (by decide) ?_
  show Pa N 39 12 [(7, .int 0), (0, .ref 30), (1, .ref ya), (2, .int 0), (3, .int 6), (4, .int 2), (5, .int yc), (6, .int 1)] [] (uI (uI (uI (uI (uI (uI (uI (uI (uI yA 30 6 0) 33 0 70) 30 6 1) 33 1 50) 30 6 2) 33 2 11) 30 6 3) 33 3 10) 30 6 4) _
  refine Pa.mp 1 (pc' := 14) (l' := [(7, .int 0), (0, .ref 30), (1, .ref ya), (2, .int 0), (3, .int 6), (4, .int 2), (5, .int yc), (6, .int 1)]) (st' := [.int 1]) (by rfl) ?_
  refine Pa.ic (x := 30) (pc' := 16) (by rfl) (by rfl) (by decide) ?_
  refine Pa.if2k true (by rfl) (by rfl) (by decide) ?_
  show Pa N 39 21 [(7, .int 0), (0, .ref 30), (1, .ref ya), (2, .int 0), (3, .int 6), (4, .int 2), (5, .int yc), (6, .int 1)] [] (uI (uI (uI (uI (uI (uI (uI (uI (uI yA 30 6 0) 33 0 70) 30 6 1) 33 1 50) 30 6 2) 33 2 11) 30 6 3) 33 3 10) 30 6 4) _
  refine Pa.mp 2 (pc' := 24) (l' := [(7, .int 0), (0, .ref 30), (1, .ref ya), (2, .int 0), (3, .int 6), (4, .int 2), (5, .int yc), (6, .int 1)]) (st' := [.int 0, .int 0]) (by rfl) ?_
  refine Pa.ist (by rfl) (by rfl) (.inl rfl) (by rfl) (by rfl) ?_
  refine Pa.mono (c_bod0_0 N (uI (uI (uI (uI (uI (uI (uI (uI (uI yA 30 6 0) 33 0 70) 30 6 1) 33 1 50) 30 6 2) 33 2 11) 30 6 3) 33 3 10) 30 6 4)) (fun yu A1 hu => ?_)
  obtain ⟨rfl, hu⟩ := hu
  rw [hu]
  show Pa N 39 27 [(7, .int 0), (0, .ref 30), (1, .ref ya), (2, .int 0), (3, .int 6), (4, .int 2), (5, .int yc), (6, .int 1)] [.int 10] (uI (uI (uI (uI (uI (uI (uI (uI (uI yA 30 6 0) 33 0 70) 30 6 1) 33 1 50) 30 6 2) 33 2 11) 30 6 3) 33 3 10) 30 6 4) _
  refine Pa.mp 2 (pc' := 30) (l' := [(8, .int 10), (7, .int 0), (0, .ref 30), (1, .ref ya), (2, .int 0), (3, .int 6), (4, .int 2), (5, .int yc), (6, .int 1)]) (st' := [.ref 30]) (by rfl) ?_
  refine Pa.gfI (v := 4) (by rfl) (by rfl) (.inl rfl) (by rfl) (by show (uI (uI (uI (uI (uI (uI (uI (uI (uI yA 30 6 0) 33 0 70) 30 6 1) 33 1 50) 30 6 2) 33 2 11) 30 6 3) 33 3 10) 30 6 4).1 30 6 = 4; rw [uI_h]) ?_
  refine Pa.ic (x := 24) (pc' := 35) (by rfl) (by rfl) (by decide) ?_
  refine Pa.if2k false (by rfl) (by rfl) (by decide) ?_
  show Pa N 39 38 [(8, .int 10), (7, .int 0), (0, .ref 30), (1, .ref ya), (2, .int 0), (3, .int 6), (4, .int 2), (5, .int yc), (6, .int 1)] [] (uI (uI (uI (uI (uI (uI (uI (uI (uI yA 30 6 0) 33 0 70) 30 6 1) 33 1 50) 30 6 2) 33 2 11) 30 6 3) 33 3 10) 30 6 4) _
  refine Pa.mp 1 (pc' := 39) (l' := [(8, .int 10), (7, .int 0), (0, .ref 30), (1, .ref ya), (2, .int 0), (3, .int 6), (4, .int 2), (5, .int yc), (6, .int 1)]) (st' := [.ref 30]) (by rfl) ?_
  refine Pa.gfR (by rfl) (by rfl) (.inl rfl) (by rfl) ?_
  show Pa N 39 42 [(8, .int 10), (7, .int 0), (0, .ref 30), (1, .ref ya), (2, .int 0), (3, .int 6), (4, .int 2), (5, .int yc), (6, .int 1)] [.ref 33] (uI (uI (uI (uI (uI (uI (uI (uI (uI yA 30 6 0) 33 0 70) 30 6 1) 33 1 50) 30 6 2) 33 2 11) 30 6 3) 33 3 10) 30 6 4) _
  refine Pa.mp 1 (pc' := 43) (l' := [(8, .int 10), (7, .int 0), (0, .ref 30), (1, .ref ya), (2, .int 0), (3, .int 6), (4, .int 2), (5, .int yc), (6, .int 1)]) (st' := [.ref 30, .ref 33]) (by rfl) ?_
  refine Pa.gfI (v := 4) (by rfl) (by rfl) (.inl rfl) (by rfl) (by show (uI (uI (uI (uI (uI (uI (uI (uI (uI yA 30 6 0) 33 0 70) 30 6 1) 33 1 50) 30 6 2) 33 2 11) 30 6 3) 33 3 10) 30 6 4).1 30 6 = 4; rw [uI_h]) ?_
  refine Pa.mp 1 (pc' := 48) (l' := [(8, .int 10), (7, .int 0), (0, .ref 30), (1, .ref ya), (2, .int 0), (3, .int 6), (4, .int 2), (5, .int yc), (6, .int 1)]) (st' := [.int 10, .int 4, .ref 33]) (by rfl) ?_
  refine Pa.asts (j' := 4) (by rfl) (by rfl) (by rfl) (fun h9 h10 => ?_)
  show Pa N 39 49 [(8, .int 10), (7, .int 0), (0, .ref 30), (1, .ref ya), (2, .int 0), (3, .int 6), (4, .int 2), (5, .int yc), (6, .int 1)] [] (uI (uI (uI (uI (uI (uI (uI (uI (uI (uI yA 30 6 0) 33 0 70) 30 6 1) 33 1 50) 30 6 2) 33 2 11) 30 6 3) 33 3 10) 30 6 4) 33 4 10) _
  refine Pa.mp 2 (pc' := 51) (l' := [(8, .int 10), (7, .int 0), (0, .ref 30), (1, .ref ya), (2, .int 0), (3, .int 6), (4, .int 2), (5, .int yc), (6, .int 1)]) (st' := [.ref 30, .ref 30]) (by rfl) ?_
  refine Pa.gfI (v := 4) (by rfl) (by rfl) (.inl rfl) (by rfl) (by show (uI (uI (uI (uI (uI (uI (uI (uI (uI (uI yA 30 6 0) 33 0 70) 30 6 1) 33 1 50) 30 6 2) 33 2 11) 30 6 3) 33 3 10) 30 6 4) 33 4 10).1 30 6 = 4; rw [uI_c (by decide), uI_h]) ?_
  refine Pa.ic (x := 1) (pc' := 55) (by rfl) (by rfl) (by decide) ?_
  refine Pa.mp 1 (pc' := 56) (l' := [(8, .int 10), (7, .int 0), (0, .ref 30), (1, .ref ya), (2, .int 0), (3, .int 6), (4, .int 2), (5, .int yc), (6, .int 1)]) (st' := [.int 5, .ref 30]) (by rfl) ?_
  refine Pa.pfI (by rfl) (by rfl) (.inl rfl) (by rfl) ?_
  show Pa N 39 59 [(8, .int 10), (7, .int 0), (0, .ref 30), (1, .ref ya), (2, .int 0), (3, .int 6), (4, .int 2), (5, .int yc), (6, .int 1)] [] (uI (uI (uI (uI (uI (uI (uI (uI (uI (uI (uI yA 30 6 0) 33 0 70) 30 6 1) 33 1 50) 30 6 2) 33 2 11) 30 6 3) 33 3 10) 30 6 4) 33 4 10) 30 6 5) _
  refine Pa.mp 1 (pc' := 61) (l' := [(8, .int 10), (7, .int 0), (0, .ref 30), (1, .ref ya), (2, .int 0), (3, .int 6), (4, .int 2), (5, .int yc), (6, .int 1)]) (st' := [.int 0]) (by rfl) ?_
  refine Pa.ist (by rfl) (by rfl) (.inl rfl) (by rfl) (by rfl) ?_
  refine Pa.mono (c_abv0 N (uI (uI (uI (uI (uI (uI (uI (uI (uI (uI (uI yA 30 6 0) 33 0 70) 30 6 1) 33 1 50) 30 6 2) 33 2 11) 30 6 3) 33 3 10) 30 6 4) 33 4 10) 30 6 5)) (fun yu A1 hu => ?_)
  obtain ⟨rfl, hu⟩ := hu
  rw [hu]
  show Pa N 39 64 [(8, .int 10), (7, .int 0), (0, .ref 30), (1, .ref ya), (2, .int 0), (3, .int 6), (4, .int 2), (5, .int yc), (6, .int 1)] [.int (-1)] (uI (uI (uI (uI (uI (uI (uI (uI (uI (uI (uI yA 30 6 0) 33 0 70) 30 6 1) 33 1 50) 30 6 2) 33 2 11) 30 6 3) 33 3 10) 30 6 4) 33 4 10) 30 6 5) _
  refine Pa.mp 2 (pc' := 68) (l' := [(9, .int (-1)), (8, .int 10), (7, .int 0), (0, .ref 30), (1, .ref ya), (2, .int 0), (3, .int 6), (4, .int 2), (5, .int yc), (6, .int 1)]) (st' := [.int 1]) (by rfl) ?_
  refine Pa.ic (x := 1) (pc' := 69) (by rfl) (by rfl) (by decide) ?_
  refine Pa.mp 3 (pc' := 74) (l' := [(10, .int 2), (9, .int (-1)), (8, .int 10), (7, .int 0), (0, .ref 30), (1, .ref ya), (2, .int 0), (3, .int 6), (4, .int 2), (5, .int yc), (6, .int 1)]) (st' := [.int 10]) (by rfl) ?_
  refine Pa.mp 1 (pc' := 164) (l' := [(10, .int 2), (9, .int (-1)), (8, .int 10), (7, .int 0), (0, .ref 30), (1, .ref ya), (2, .int 0), (3, .int 6), (4, .int 2), (5, .int yc), (6, .int 1)]) (st' := []) (by rfl) ?_
  refine Pa.mp 3 (pc' := 169) (l' := [(10, .int 2), (9, .int (-1)), (8, .int 10), (7, .int 0), (0, .ref 30), (1, .ref ya), (2, .int 0), (3, .int 6), (4, .int 2), (5, .int yc), (6, .int 1)]) (st' := [.int (2 + yc)]) (by rfl) ?_
  refine Pa.iret (by rfl) ?_
  show Pa N 39 364 [(12, .int (-((yx + yc) * 2))), (10, .int 1), (9, .int 4), (8, .int 70), (7, .int 6), (0, .ref 30), (1, .ref ya), (2, .int 1), (3, .int 6), (4, .int yx), (5, .int yc), (6, .int 0)] [.int (2 + yc), .int (-((yx + yc) * 2))] (uI (uI (uI (uI (uI (uI (uI (uI (uI (uI (uI yA 30 6 0) 33 0 70) 30 6 1) 33 1 50) 30 6 2) 33 2 11) 30 6 3) 33 3 10) 30 6 4) 33 4 10) 30 6 5) _
  refine Pa.mp 1 (pc' := 365) (l' := [(12, .int (-((yx + yc) * 2))), (10, .int 1), (9, .int 4), (8, .int 70), (7, .int 6), (0, .ref 30), (1, .ref ya), (2, .int 1), (3, .int 6), (4, .int yx), (5, .int yc), (6, .int 0)]) (st' := [.int ((-((yx + yc) * 2)) - (2 + yc))]) (by rfl) ?_
  refine Pa.iret (by rfl) ?_
  exact l1

theorem bpf2_1 {N : Nat} {yA : AW} {yQ : Option Value → AW → Prop} {ya : Nat} (yx yc : Int32) (yha : 129 ≤ ya) (hk : yA.1 ya 1 = 1)
    (l1 : yQ (some (.int ((((yx + yc) * 2) ^^^ 9) - (yA.1 ya 0)))) (uI (uI (uI (uI (uI (uI (uI (uI (uI yA 30 6 0) 33 0 12) 30 6 1) 33 1 20) 30 6 2) 33 2 11) 30 6 3) 33 3 10) 30 6 4)) :
    Pa N 39 0 [(0, .ref 30), (1, .ref ya), (2, .int 2), (3, .int 1), (4, .int yx), (5, .int yc), (6, .int 0)] [] (uI yA 30 6 0) yQ := by
  refine Pa.mp 2 (pc' := 2) (l' := [(0, .ref 30), (1, .ref ya), (2, .int 2), (3, .int 1), (4, .int yx), (5, .int yc), (6, .int 0)]) (st' := [.int 1, .int 2]) (by rfl) ?_
  refine Pa.ist (by rfl) (by rfl) (.inl rfl) (by rfl) (by rfl) ?_
  refine Pa.mono (c_kwb2_1 N (uI yA 30 6 0)) (fun yu A1 hu => ?_)
  obtain ⟨rfl, hu⟩ := hu
  rw [hu]
  show Pa N 39 5 [(0, .ref 30), (1, .ref ya), (2, .int 2), (3, .int 1), (4, .int yx), (5, .int yc), (6, .int 0)] [.int 0] (uI yA 30 6 0) _
  refine Pa.mp 2 (pc' := 9) (l' := [(7, .int 0), (0, .ref 30), (1, .ref ya), (2, .int 2), (3, .int 1), (4, .int yx), (5, .int yc), (6, .int 0)]) (st' := [.int 0]) (by rfl) ?_
  refine Pa.if1k false (by rfl) (by rfl) (by decide) ?_
  show Pa N 39 12 [(7, .int 0), (0, .ref 30), (1, .ref ya), (2, .int 2), (3, .int 1), (4, .int yx), (5, .int yc), (6, .int 0)] [] (uI yA 30 6 0) _
  refine Pa.mp 1 (pc' := 14) (l' := [(7, .int 0), (0, .ref 30), (1, .ref ya), (2, .int 2), (3, .int 1), (4, .int yx), (5, .int yc), (6, .int 0)]) (st' := [.int 0]) (by rfl) ?_
  refine Pa.ic (x := 30) (pc' := 16) (by rfl) (by rfl) (by decide) ?_
  refine Pa.if2k true (by rfl) (by rfl) (by decide) ?_
  show Pa N 39 21 [(7, .int 0), (0, .ref 30), (1, .ref ya), (2, .int 2), (3, .int 1), (4, .int yx), (5, .int yc), (6, .int 0)] [] (uI yA 30 6 0) _
  refine Pa.mp 2 (pc' := 24) (l' := [(7, .int 0), (0, .ref 30), (1, .ref ya), (2, .int 2), (3, .int 1), (4, .int yx), (5, .int yc), (6, .int 0)]) (st' := [.int 0, .int 2]) (by rfl) ?_
  refine Pa.ist (by rfl) (by rfl) (.inl rfl) (by rfl) (by rfl) ?_
  refine Pa.mono (c_bod2_0 N (uI yA 30 6 0)) (fun yu A1 hu => ?_)
  obtain ⟨rfl, hu⟩ := hu
  rw [hu]
  show Pa N 39 27 [(7, .int 0), (0, .ref 30), (1, .ref ya), (2, .int 2), (3, .int 1), (4, .int yx), (5, .int yc), (6, .int 0)] [.int 12] (uI yA 30 6 0) _
  refine Pa.mp 2 (pc' := 30) (l' := [(8, .int 12), (7, .int 0), (0, .ref 30), (1, .ref ya), (2, .int 2), (3, .int 1), (4, .int yx), (5, .int yc), (6, .int 0)]) (st' := [.ref 30]) (by rfl) ?_
  refine Pa.gfI (v := 0) (by rfl) (by rfl) (.inl rfl) (by rfl) (by show (uI yA 30 6 0).1 30 6 = 0; rw [uI_h]) ?_
  refine Pa.ic (x := 24) (pc' := 35) (by rfl) (by rfl) (by decide) ?_
  refine Pa.if2k false (by rfl) (by rfl) (by decide) ?_
  show Pa N 39 38 [(8, .int 12), (7, .int 0), (0, .ref 30), (1, .ref ya), (2, .int 2), (3, .int 1), (4, .int yx), (5, .int yc), (6, .int 0)] [] (uI yA 30 6 0) _
  refine Pa.mp 1 (pc' := 39) (l' := [(8, .int 12), (7, .int 0), (0, .ref 30), (1, .ref ya), (2, .int 2), (3, .int 1), (4, .int yx), (5, .int yc), (6, .int 0)]) (st' := [.ref 30]) (by rfl) ?_
  refine Pa.gfR (by rfl) (by rfl) (.inl rfl) (by rfl) ?_
  show Pa N 39 42 [(8, .int 12), (7, .int 0), (0, .ref 30), (1, .ref ya), (2, .int 2), (3, .int 1), (4, .int yx), (5, .int yc), (6, .int 0)] [.ref 33] (uI yA 30 6 0) _
  refine Pa.mp 1 (pc' := 43) (l' := [(8, .int 12), (7, .int 0), (0, .ref 30), (1, .ref ya), (2, .int 2), (3, .int 1), (4, .int yx), (5, .int yc), (6, .int 0)]) (st' := [.ref 30, .ref 33]) (by rfl) ?_
  refine Pa.gfI (v := 0) (by rfl) (by rfl) (.inl rfl) (by rfl) (by show (uI yA 30 6 0).1 30 6 = 0; rw [uI_h]) ?_
  refine Pa.mp 1 (pc' := 48) (l' := [(8, .int 12), (7, .int 0), (0, .ref 30), (1, .ref ya), (2, .int 2), (3, .int 1), (4, .int yx), (5, .int yc), (6, .int 0)]) (st' := [.int 12, .int 0, .ref 33]) (by rfl) ?_
  refine Pa.asts (j' := 0) (by rfl) (by rfl) (by rfl) (fun h1 h2 => ?_)
  show Pa N 39 49 [(8, .int 12), (7, .int 0), (0, .ref 30), (1, .ref ya), (2, .int 2), (3, .int 1), (4, .int yx), (5, .int yc), (6, .int 0)] [] (uI (uI yA 30 6 0) 33 0 12) _
  refine Pa.mp 2 (pc' := 51) (l' := [(8, .int 12), (7, .int 0), (0, .ref 30), (1, .ref ya), (2, .int 2), (3, .int 1), (4, .int yx), (5, .int yc), (6, .int 0)]) (st' := [.ref 30, .ref 30]) (by rfl) ?_
  refine Pa.gfI (v := 0) (by rfl) (by rfl) (.inl rfl) (by rfl) (by show (uI (uI yA 30 6 0) 33 0 12).1 30 6 = 0; rw [uI_c (by decide), uI_h]) ?_
  refine Pa.ic (x := 1) (pc' := 55) (by rfl) (by rfl) (by decide) ?_
  refine Pa.mp 1 (pc' := 56) (l' := [(8, .int 12), (7, .int 0), (0, .ref 30), (1, .ref ya), (2, .int 2), (3, .int 1), (4, .int yx), (5, .int yc), (6, .int 0)]) (st' := [.int 1, .ref 30]) (by rfl) ?_
  refine Pa.pfI (by rfl) (by rfl) (.inl rfl) (by rfl) ?_
  show Pa N 39 59 [(8, .int 12), (7, .int 0), (0, .ref 30), (1, .ref ya), (2, .int 2), (3, .int 1), (4, .int yx), (5, .int yc), (6, .int 0)] [] (uI (uI (uI yA 30 6 0) 33 0 12) 30 6 1) _
  refine Pa.mp 1 (pc' := 61) (l' := [(8, .int 12), (7, .int 0), (0, .ref 30), (1, .ref ya), (2, .int 2), (3, .int 1), (4, .int yx), (5, .int yc), (6, .int 0)]) (st' := [.int 0]) (by rfl) ?_
  refine Pa.ist (by rfl) (by rfl) (.inl rfl) (by rfl) (by rfl) ?_
  refine Pa.mono (c_abv0 N (uI (uI (uI yA 30 6 0) 33 0 12) 30 6 1)) (fun yu A1 hu => ?_)
  obtain ⟨rfl, hu⟩ := hu
  rw [hu]
  show Pa N 39 64 [(8, .int 12), (7, .int 0), (0, .ref 30), (1, .ref ya), (2, .int 2), (3, .int 1), (4, .int yx), (5, .int yc), (6, .int 0)] [.int (-1)] (uI (uI (uI yA 30 6 0) 33 0 12) 30 6 1) _
  refine Pa.mp 2 (pc' := 68) (l' := [(9, .int (-1)), (8, .int 12), (7, .int 0), (0, .ref 30), (1, .ref ya), (2, .int 2), (3, .int 1), (4, .int yx), (5, .int yc), (6, .int 0)]) (st' := [.int 0]) (by rfl) ?_
  refine Pa.ic (x := 1) (pc' := 69) (by rfl) (by rfl) (by decide) ?_
  refine Pa.mp 3 (pc' := 74) (l' := [(10, .int 1), (9, .int (-1)), (8, .int 12), (7, .int 0), (0, .ref 30), (1, .ref ya), (2, .int 2), (3, .int 1), (4, .int yx), (5, .int yc), (6, .int 0)]) (st' := [.int 12]) (by rfl) ?_
  refine Pa.mp 1 (pc' := 189) (l' := [(10, .int 1), (9, .int (-1)), (8, .int 12), (7, .int 0), (0, .ref 30), (1, .ref ya), (2, .int 2), (3, .int 1), (4, .int yx), (5, .int yc), (6, .int 0)]) (st' := []) (by rfl) ?_
  refine Pa.mp 2 (pc' := 191) (l' := [(10, .int 1), (9, .int (-1)), (8, .int 12), (7, .int 0), (0, .ref 30), (1, .ref ya), (2, .int 2), (3, .int 1), (4, .int yx), (5, .int yc), (6, .int 0)]) (st' := [.ref ya, .ref 30]) (by rfl) ?_
  refine Pa.ic (x := 1) (pc' := 192) (by rfl) (by rfl) (by decide) ?_
  refine Pa.mp 1 (pc' := 193) (l' := [(10, .int 1), (9, .int (-1)), (8, .int 12), (7, .int 0), (0, .ref 30), (1, .ref ya), (2, .int 2), (3, .int 1), (4, .int yx), (5, .int yc), (6, .int 0)]) (st' := [.ref ya, .int 1, .ref ya, .ref 30]) (by rfl) ?_
  refine Pa.gfI (v := 1) (by rfl) (by rfl) (.inr rfl) (by rfl) (by show (uI (uI (uI yA 30 6 0) 33 0 12) 30 6 1).1 ya 1 = 1; rw [uI_c (by omega), uI_c (by omega), uI_c (by omega), hk]) ?_
  refine Pa.mp 3 (pc' := 202) (l' := [(10, .int 1), (9, .int (-1)), (8, .int 12), (7, .int 0), (0, .ref 30), (1, .ref ya), (2, .int 2), (3, .int 1), (4, .int yx), (5, .int yc), (6, .int 0)]) (st' := [.int 1, .int yc, .int yx, .int 1, .int 1, .ref ya, .ref 30]) (by rfl) ?_
  refine Pa.inv (by rfl) (by rfl) (.inl rfl) (by rfl) ?_
  show Pa N 39 0 [(0, .ref 30), (1, .ref ya), (2, .int 1), (3, .int 1), (4, .int yx), (5, .int yc), (6, .int 1)] [] (uI (uI (uI yA 30 6 0) 33 0 12) 30 6 1) _
  refine Pa.mp 2 (pc' := 2) (l' := [(0, .ref 30), (1, .ref ya), (2, .int 1), (3, .int 1), (4, .int yx), (5, .int yc), (6, .int 1)]) (st' := [.int 1, .int 1]) (by rfl) ?_
  refine Pa.ist (by rfl) (by rfl) (.inl rfl) (by rfl) (by rfl) ?_
  refine Pa.mono (c_kwb1_1 N (uI (uI (uI yA 30 6 0) 33 0 12) 30 6 1)) (fun yu A1 hu => ?_)
  obtain ⟨rfl, hu⟩ := hu
  rw [hu]
  show Pa N 39 5 [(0, .ref 30), (1, .ref ya), (2, .int 1), (3, .int 1), (4, .int yx), (5, .int yc), (6, .int 1)] [.int 1] (uI (uI (uI yA 30 6 0) 33 0 12) 30 6 1) _
  refine Pa.mp 2 (pc' := 9) (l' := [(7, .int 1), (0, .ref 30), (1, .ref ya), (2, .int 1), (3, .int 1), (4, .int yx), (5, .int yc), (6, .int 1)]) (st' := [.int 1]) (by rfl) ?_
  refine Pa.if1k false (by rfl) (by rfl) (by decide) ?_
  show Pa N 39 12 [(7, .int 1), (0, .ref 30), (1, .ref ya), (2, .int 1), (3, .int 1), (4, .int yx), (5, .int yc), (6, .int 1)] [] (uI (uI (uI yA 30 6 0) 33 0 12) 30 6 1) _
  refine Pa.mp 1 (pc' := 14) (l' := [(7, .int 1), (0, .ref 30), (1, .ref ya), (2, .int 1), (3, .int 1), (4, .int yx), (5, .int yc), (6, .int 1)]) (st' := [.int 1]) (by rfl) ?_
  refine Pa.ic (x := 30) (pc' := 16) (by rfl) (by rfl) (by decide) ?_
  refine Pa.if2k true (by rfl) (by rfl) (by decide) ?_
  show Pa N 39 21 [(7, .int 1), (0, .ref 30), (1, .ref ya), (2, .int 1), (3, .int 1), (4, .int yx), (5, .int yc), (6, .int 1)] [] (uI (uI (uI yA 30 6 0) 33 0 12) 30 6 1) _
  refine Pa.mp 2 (pc' := 24) (l' := [(7, .int 1), (0, .ref 30), (1, .ref ya), (2, .int 1), (3, .int 1), (4, .int yx), (5, .int yc), (6, .int 1)]) (st' := [.int 1, .int 1]) (by rfl) ?_
  refine Pa.ist (by rfl) (by rfl) (.inl rfl) (by rfl) (by rfl) ?_
  refine Pa.mono (c_bod1_1 N (uI (uI (uI yA 30 6 0) 33 0 12) 30 6 1)) (fun yu A1 hu => ?_)
  obtain ⟨rfl, hu⟩ := hu
  rw [hu]
  show Pa N 39 27 [(7, .int 1), (0, .ref 30), (1, .ref ya), (2, .int 1), (3, .int 1), (4, .int yx), (5, .int yc), (6, .int 1)] [.int 20] (uI (uI (uI yA 30 6 0) 33 0 12) 30 6 1) _
  refine Pa.mp 2 (pc' := 30) (l' := [(8, .int 20), (7, .int 1), (0, .ref 30), (1, .ref ya), (2, .int 1), (3, .int 1), (4, .int yx), (5, .int yc), (6, .int 1)]) (st' := [.ref 30]) (by rfl) ?_
  refine Pa.gfI (v := 1) (by rfl) (by rfl) (.inl rfl) (by rfl) (by show (uI (uI (uI yA 30 6 0) 33 0 12) 30 6 1).1 30 6 = 1; rw [uI_h]) ?_
  refine Pa.ic (x := 24) (pc' := 35) (by rfl) (by rfl) (by decide) ?_
  refine Pa.if2k false (by rfl) (by rfl) (by decide) ?_
  show Pa N 39 38 [(8, .int 20), (7, .int 1), (0, .ref 30), (1, .ref ya), (2, .int 1), (3, .int 1), (4, .int yx), (5, .int yc), (6, .int 1)] [] (uI (uI (uI yA 30 6 0) 33 0 12) 30 6 1) _
  refine Pa.mp 1 (pc' := 39) (l' := [(8, .int 20), (7, .int 1), (0, .ref 30), (1, .ref ya), (2, .int 1), (3, .int 1), (4, .int yx), (5, .int yc), (6, .int 1)]) (st' := [.ref 30]) (by rfl) ?_
  refine Pa.gfR (by rfl) (by rfl) (.inl rfl) (by rfl) ?_
  show Pa N 39 42 [(8, .int 20), (7, .int 1), (0, .ref 30), (1, .ref ya), (2, .int 1), (3, .int 1), (4, .int yx), (5, .int yc), (6, .int 1)] [.ref 33] (uI (uI (uI yA 30 6 0) 33 0 12) 30 6 1) _
  refine Pa.mp 1 (pc' := 43) (l' := [(8, .int 20), (7, .int 1), (0, .ref 30), (1, .ref ya), (2, .int 1), (3, .int 1), (4, .int yx), (5, .int yc), (6, .int 1)]) (st' := [.ref 30, .ref 33]) (by rfl) ?_
  refine Pa.gfI (v := 1) (by rfl) (by rfl) (.inl rfl) (by rfl) (by show (uI (uI (uI yA 30 6 0) 33 0 12) 30 6 1).1 30 6 = 1; rw [uI_h]) ?_
  refine Pa.mp 1 (pc' := 48) (l' := [(8, .int 20), (7, .int 1), (0, .ref 30), (1, .ref ya), (2, .int 1), (3, .int 1), (4, .int yx), (5, .int yc), (6, .int 1)]) (st' := [.int 20, .int 1, .ref 33]) (by rfl) ?_
  refine Pa.asts (j' := 1) (by rfl) (by rfl) (by rfl) (fun h3 h4 => ?_)
  show Pa N 39 49 [(8, .int 20), (7, .int 1), (0, .ref 30), (1, .ref ya), (2, .int 1), (3, .int 1), (4, .int yx), (5, .int yc), (6, .int 1)] [] (uI (uI (uI (uI yA 30 6 0) 33 0 12) 30 6 1) 33 1 20) _
  refine Pa.mp 2 (pc' := 51) (l' := [(8, .int 20), (7, .int 1), (0, .ref 30), (1, .ref ya), (2, .int 1), (3, .int 1), (4, .int yx), (5, .int yc), (6, .int 1)]) (st' := [.ref 30, .ref 30]) (by rfl) ?_
  refine Pa.gfI (v := 1) (by rfl) (by rfl) (.inl rfl) (by rfl) (by show (uI (uI (uI (uI yA 30 6 0) 33 0 12) 30 6 1) 33 1 20).1 30 6 = 1; rw [uI_c (by decide), uI_h]) ?_
  refine Pa.ic (x := 1) (pc' := 55) (by rfl) (by rfl) (by decide) ?_
  refine Pa.mp 1 (pc' := 56) (l' := [(8, .int 20), (7, .int 1), (0, .ref 30), (1, .ref ya), (2, .int 1), (3, .int 1), (4, .int yx), (5, .int yc), (6, .int 1)]) (st' := [.int 2, .ref 30]) (by rfl) ?_
  refine Pa.pfI (by rfl) (by rfl) (.inl rfl) (by rfl) ?_
  show Pa N 39 59 [(8, .int 20), (7, .int 1), (0, .ref 30), (1, .ref ya), (2, .int 1), (3, .int 1), (4, .int yx), (5, .int yc), (6, .int 1)] [] (uI (uI (uI (uI (uI yA 30 6 0) 33 0 12) 30 6 1) 33 1 20) 30 6 2) _
  refine Pa.mp 1 (pc' := 61) (l' := [(8, .int 20), (7, .int 1), (0, .ref 30), (1, .ref ya), (2, .int 1), (3, .int 1), (4, .int yx), (5, .int yc), (6, .int 1)]) (st' := [.int 1]) (by rfl) ?_
  refine Pa.ist (by rfl) (by rfl) (.inl rfl) (by rfl) (by rfl) ?_
  refine Pa.mono (c_abv1 N (uI (uI (uI (uI (uI yA 30 6 0) 33 0 12) 30 6 1) 33 1 20) 30 6 2)) (fun yu A1 hu => ?_)
  obtain ⟨rfl, hu⟩ := hu
  rw [hu]
  show Pa N 39 64 [(8, .int 20), (7, .int 1), (0, .ref 30), (1, .ref ya), (2, .int 1), (3, .int 1), (4, .int yx), (5, .int yc), (6, .int 1)] [.int 0] (uI (uI (uI (uI (uI yA 30 6 0) 33 0 12) 30 6 1) 33 1 20) 30 6 2) _
  refine Pa.mp 2 (pc' := 68) (l' := [(9, .int 0), (8, .int 20), (7, .int 1), (0, .ref 30), (1, .ref ya), (2, .int 1), (3, .int 1), (4, .int yx), (5, .int yc), (6, .int 1)]) (st' := [.int 1]) (by rfl) ?_
  refine Pa.ic (x := 1) (pc' := 69) (by rfl) (by rfl) (by decide) ?_
  refine Pa.mp 3 (pc' := 74) (l' := [(10, .int 2), (9, .int 0), (8, .int 20), (7, .int 1), (0, .ref 30), (1, .ref ya), (2, .int 1), (3, .int 1), (4, .int yx), (5, .int yc), (6, .int 1)]) (st' := [.int 20]) (by rfl) ?_
  refine Pa.mp 1 (pc' := 211) (l' := [(10, .int 2), (9, .int 0), (8, .int 20), (7, .int 1), (0, .ref 30), (1, .ref ya), (2, .int 1), (3, .int 1), (4, .int yx), (5, .int yc), (6, .int 1)]) (st' := []) (by rfl) ?_
  refine Pa.mp 2 (pc' := 213) (l' := [(10, .int 2), (9, .int 0), (8, .int 20), (7, .int 1), (0, .ref 30), (1, .ref ya), (2, .int 1), (3, .int 1), (4, .int yx), (5, .int yc), (6, .int 1)]) (st' := [.ref ya, .ref 30]) (by rfl) ?_
  refine Pa.ic (x := 1) (pc' := 214) (by rfl) (by rfl) (by decide) ?_
  refine Pa.mp 4 (pc' := 222) (l' := [(10, .int 2), (9, .int 0), (8, .int 20), (7, .int 1), (0, .ref 30), (1, .ref ya), (2, .int 1), (3, .int 1), (4, .int yx), (5, .int yc), (6, .int 1)]) (st' := [.int 2, .int yc, .int yx, .int 0, .int 1, .ref ya, .ref 30]) (by rfl) ?_
  refine Pa.inv (by rfl) (by rfl) (.inl rfl) (by rfl) ?_
  show Pa N 39 0 [(0, .ref 30), (1, .ref ya), (2, .int 1), (3, .int 0), (4, .int yx), (5, .int yc), (6, .int 2)] [] (uI (uI (uI (uI (uI yA 30 6 0) 33 0 12) 30 6 1) 33 1 20) 30 6 2) _
  refine Pa.mp 2 (pc' := 2) (l' := [(0, .ref 30), (1, .ref ya), (2, .int 1), (3, .int 0), (4, .int yx), (5, .int yc), (6, .int 2)]) (st' := [.int 0, .int 1]) (by rfl) ?_
  refine Pa.ist (by rfl) (by rfl) (.inl rfl) (by rfl) (by rfl) ?_
  refine Pa.mono (c_kwb1_0 N (uI (uI (uI (uI (uI yA 30 6 0) 33 0 12) 30 6 1) 33 1 20) 30 6 2)) (fun yu A1 hu => ?_)
  obtain ⟨rfl, hu⟩ := hu
  rw [hu]
  show Pa N 39 5 [(0, .ref 30), (1, .ref ya), (2, .int 1), (3, .int 0), (4, .int yx), (5, .int yc), (6, .int 2)] [.int 0] (uI (uI (uI (uI (uI yA 30 6 0) 33 0 12) 30 6 1) 33 1 20) 30 6 2) _
  refine Pa.mp 2 (pc' := 9) (l' := [(7, .int 0), (0, .ref 30), (1, .ref ya), (2, .int 1), (3, .int 0), (4, .int yx), (5, .int yc), (6, .int 2)]) (st' := [.int 0]) (by rfl) ?_
  refine Pa.if1k false (by rfl) (by rfl) (by decide) ?_
  show Pa N 39 12 [(7, .int 0), (0, .ref 30), (1, .ref ya), (2, .int 1), (3, .int 0), (4, .int yx), (5, .int yc), (6, .int 2)] [] (uI (uI (uI (uI (uI yA 30 6 0) 33 0 12) 30 6 1) 33 1 20) 30 6 2) _
  refine Pa.mp 1 (pc' := 14) (l' := [(7, .int 0), (0, .ref 30), (1, .ref ya), (2, .int 1), (3, .int 0), (4, .int yx), (5, .int yc), (6, .int 2)]) (st' := [.int 2]) (by rfl) ?_
  refine Pa.ic (x := 30) (pc' := 16) (by rfl) (by rfl) (by decide) ?_
  refine Pa.if2k true (by rfl) (by rfl) (by decide) ?_
  show Pa N 39 21 [(7, .int 0), (0, .ref 30), (1, .ref ya), (2, .int 1), (3, .int 0), (4, .int yx), (5, .int yc), (6, .int 2)] [] (uI (uI (uI (uI (uI yA 30 6 0) 33 0 12) 30 6 1) 33 1 20) 30 6 2) _
  refine Pa.mp 2 (pc' := 24) (l' := [(7, .int 0), (0, .ref 30), (1, .ref ya), (2, .int 1), (3, .int 0), (4, .int yx), (5, .int yc), (6, .int 2)]) (st' := [.int 0, .int 1]) (by rfl) ?_
  refine Pa.ist (by rfl) (by rfl) (.inl rfl) (by rfl) (by rfl) ?_
  refine Pa.mono (c_bod1_0 N (uI (uI (uI (uI (uI yA 30 6 0) 33 0 12) 30 6 1) 33 1 20) 30 6 2)) (fun yu A1 hu => ?_)
  obtain ⟨rfl, hu⟩ := hu
  rw [hu]
  show Pa N 39 27 [(7, .int 0), (0, .ref 30), (1, .ref ya), (2, .int 1), (3, .int 0), (4, .int yx), (5, .int yc), (6, .int 2)] [.int 11] (uI (uI (uI (uI (uI yA 30 6 0) 33 0 12) 30 6 1) 33 1 20) 30 6 2) _
  refine Pa.mp 2 (pc' := 30) (l' := [(8, .int 11), (7, .int 0), (0, .ref 30), (1, .ref ya), (2, .int 1), (3, .int 0), (4, .int yx), (5, .int yc), (6, .int 2)]) (st' := [.ref 30]) (by rfl) ?_
  refine Pa.gfI (v := 2) (by rfl) (by rfl) (.inl rfl) (by rfl) (by show (uI (uI (uI (uI (uI yA 30 6 0) 33 0 12) 30 6 1) 33 1 20) 30 6 2).1 30 6 = 2; rw [uI_h]) ?_
  refine Pa.ic (x := 24) (pc' := 35) (by rfl) (by rfl) (by decide) ?_
  refine Pa.if2k false (by rfl) (by rfl) (by decide) ?_
  show Pa N 39 38 [(8, .int 11), (7, .int 0), (0, .ref 30), (1, .ref ya), (2, .int 1), (3, .int 0), (4, .int yx), (5, .int yc), (6, .int 2)] [] (uI (uI (uI (uI (uI yA 30 6 0) 33 0 12) 30 6 1) 33 1 20) 30 6 2) _
  refine Pa.mp 1 (pc' := 39) (l' := [(8, .int 11), (7, .int 0), (0, .ref 30), (1, .ref ya), (2, .int 1), (3, .int 0), (4, .int yx), (5, .int yc), (6, .int 2)]) (st' := [.ref 30]) (by rfl) ?_
  refine Pa.gfR (by rfl) (by rfl) (.inl rfl) (by rfl) ?_
  show Pa N 39 42 [(8, .int 11), (7, .int 0), (0, .ref 30), (1, .ref ya), (2, .int 1), (3, .int 0), (4, .int yx), (5, .int yc), (6, .int 2)] [.ref 33] (uI (uI (uI (uI (uI yA 30 6 0) 33 0 12) 30 6 1) 33 1 20) 30 6 2) _
  refine Pa.mp 1 (pc' := 43) (l' := [(8, .int 11), (7, .int 0), (0, .ref 30), (1, .ref ya), (2, .int 1), (3, .int 0), (4, .int yx), (5, .int yc), (6, .int 2)]) (st' := [.ref 30, .ref 33]) (by rfl) ?_
  refine Pa.gfI (v := 2) (by rfl) (by rfl) (.inl rfl) (by rfl) (by show (uI (uI (uI (uI (uI yA 30 6 0) 33 0 12) 30 6 1) 33 1 20) 30 6 2).1 30 6 = 2; rw [uI_h]) ?_
  refine Pa.mp 1 (pc' := 48) (l' := [(8, .int 11), (7, .int 0), (0, .ref 30), (1, .ref ya), (2, .int 1), (3, .int 0), (4, .int yx), (5, .int yc), (6, .int 2)]) (st' := [.int 11, .int 2, .ref 33]) (by rfl) ?_
  refine Pa.asts (j' := 2) (by rfl) (by rfl) (by rfl) (fun h5 h6 => ?_)
  show Pa N 39 49 [(8, .int 11), (7, .int 0), (0, .ref 30), (1, .ref ya), (2, .int 1), (3, .int 0), (4, .int yx), (5, .int yc), (6, .int 2)] [] (uI (uI (uI (uI (uI (uI yA 30 6 0) 33 0 12) 30 6 1) 33 1 20) 30 6 2) 33 2 11) _
  refine Pa.mp 2 (pc' := 51) (l' := [(8, .int 11), (7, .int 0), (0, .ref 30), (1, .ref ya), (2, .int 1), (3, .int 0), (4, .int yx), (5, .int yc), (6, .int 2)]) (st' := [.ref 30, .ref 30]) (by rfl) ?_
  refine Pa.gfI (v := 2) (by rfl) (by rfl) (.inl rfl) (by rfl) (by show (uI (uI (uI (uI (uI (uI yA 30 6 0) 33 0 12) 30 6 1) 33 1 20) 30 6 2) 33 2 11).1 30 6 = 2; rw [uI_c (by decide), uI_h]) ?_
  refine Pa.ic (x := 1) (pc' := 55) (by rfl) (by rfl) (by decide) ?_
  refine Pa.mp 1 (pc' := 56) (l' := [(8, .int 11), (7, .int 0), (0, .ref 30), (1, .ref ya), (2, .int 1), (3, .int 0), (4, .int yx), (5, .int yc), (6, .int 2)]) (st' := [.int 3, .ref 30]) (by rfl) ?_
  refine Pa.pfI (by rfl) (by rfl) (.inl rfl) (by rfl) ?_
  show Pa N 39 59 [(8, .int 11), (7, .int 0), (0, .ref 30), (1, .ref ya), (2, .int 1), (3, .int 0), (4, .int yx), (5, .int yc), (6, .int 2)] [] (uI (uI (uI (uI (uI (uI (uI yA 30 6 0) 33 0 12) 30 6 1) 33 1 20) 30 6 2) 33 2 11) 30 6 3) _
  refine Pa.mp 1 (pc' := 61) (l' := [(8, .int 11), (7, .int 0), (0, .ref 30), (1, .ref ya), (2, .int 1), (3, .int 0), (4, .int yx), (5, .int yc), (6, .int 2)]) (st' := [.int 0]) (by rfl) ?_
  refine Pa.ist (by rfl) (by rfl) (.inl rfl) (by rfl) (by rfl) ?_
  refine Pa.mono (c_abv0 N (uI (uI (uI (uI (uI (uI (uI yA 30 6 0) 33 0 12) 30 6 1) 33 1 20) 30 6 2) 33 2 11) 30 6 3)) (fun yu A1 hu => ?_)
  obtain ⟨rfl, hu⟩ := hu
  rw [hu]
  show Pa N 39 64 [(8, .int 11), (7, .int 0), (0, .ref 30), (1, .ref ya), (2, .int 1), (3, .int 0), (4, .int yx), (5, .int yc), (6, .int 2)] [.int (-1)] (uI (uI (uI (uI (uI (uI (uI yA 30 6 0) 33 0 12) 30 6 1) 33 1 20) 30 6 2) 33 2 11) 30 6 3) _
  refine Pa.mp 2 (pc' := 68) (l' := [(9, .int (-1)), (8, .int 11), (7, .int 0), (0, .ref 30), (1, .ref ya), (2, .int 1), (3, .int 0), (4, .int yx), (5, .int yc), (6, .int 2)]) (st' := [.int 2]) (by rfl) ?_
  refine Pa.ic (x := 1) (pc' := 69) (by rfl) (by rfl) (by decide) ?_
  refine Pa.mp 3 (pc' := 74) (l' := [(10, .int 3), (9, .int (-1)), (8, .int 11), (7, .int 0), (0, .ref 30), (1, .ref ya), (2, .int 1), (3, .int 0), (4, .int yx), (5, .int yc), (6, .int 2)]) (st' := [.int 11]) (by rfl) ?_
  refine Pa.mp 1 (pc' := 170) (l' := [(10, .int 3), (9, .int (-1)), (8, .int 11), (7, .int 0), (0, .ref 30), (1, .ref ya), (2, .int 1), (3, .int 0), (4, .int yx), (5, .int yc), (6, .int 2)]) (st' := []) (by rfl) ?_
  refine Pa.mp 2 (pc' := 172) (l' := [(10, .int 3), (9, .int (-1)), (8, .int 11), (7, .int 0), (0, .ref 30), (1, .ref ya), (2, .int 1), (3, .int 0), (4, .int yx), (5, .int yc), (6, .int 2)]) (st' := [.ref ya, .ref 30]) (by rfl) ?_
  refine Pa.ic (x := 0) (pc' := 173) (by rfl) (by rfl) (by decide) ?_
  refine Pa.mp 1 (pc' := 174) (l' := [(10, .int 3), (9, .int (-1)), (8, .int 11), (7, .int 0), (0, .ref 30), (1, .ref ya), (2, .int 1), (3, .int 0), (4, .int yx), (5, .int yc), (6, .int 2)]) (st' := [.ref ya, .int 0, .ref ya, .ref 30]) (by rfl) ?_
  refine Pa.gfI (v := 1) (by rfl) (by rfl) (.inr rfl) (by rfl) (by show (uI (uI (uI (uI (uI (uI (uI yA 30 6 0) 33 0 12) 30 6 1) 33 1 20) 30 6 2) 33 2 11) 30 6 3).1 ya 1 = 1; rw [uI_c (by omega), uI_c (by omega), uI_c (by omega), uI_c (by omega), uI_c (by omega), uI_c (by omega), uI_c (by omega), hk]) ?_
  refine Pa.mp 3 (pc' := 183) (l' := [(10, .int 3), (9, .int (-1)), (8, .int 11), (7, .int 0), (0, .ref 30), (1, .ref ya), (2, .int 1), (3, .int 0), (4, .int yx), (5, .int yc), (6, .int 2)]) (st' := [.int 3, .int yc, .int yx, .int 1, .int 0, .ref ya, .ref 30]) (by rfl) ?_
  refine Pa.inv (by rfl) (by rfl) (.inl rfl) (by rfl) ?_
  show Pa N 39 0 [(0, .ref 30), (1, .ref ya), (2, .int 0), (3, .int 1), (4, .int yx), (5, .int yc), (6, .int 3)] [] (uI (uI (uI (uI (uI (uI (uI yA 30 6 0) 33 0 12) 30 6 1) 33 1 20) 30 6 2) 33 2 11) 30 6 3) _
  refine Pa.mp 2 (pc' := 2) (l' := [(0, .ref 30), (1, .ref ya), (2, .int 0), (3, .int 1), (4, .int yx), (5, .int yc), (6, .int 3)]) (st' := [.int 1, .int 0]) (by rfl) ?_
  refine Pa.ist (by rfl) (by rfl) (.inl rfl) (by rfl) (by rfl) ?_
  refine Pa.mono (c_kwb0_1 N (uI (uI (uI (uI (uI (uI (uI yA 30 6 0) 33 0 12) 30 6 1) 33 1 20) 30 6 2) 33 2 11) 30 6 3)) (fun yu A1 hu => ?_)
  obtain ⟨rfl, hu⟩ := hu
  rw [hu]
  show Pa N 39 5 [(0, .ref 30), (1, .ref ya), (2, .int 0), (3, .int 1), (4, .int yx), (5, .int yc), (6, .int 3)] [.int 0] (uI (uI (uI (uI (uI (uI (uI yA 30 6 0) 33 0 12) 30 6 1) 33 1 20) 30 6 2) 33 2 11) 30 6 3) _
  refine Pa.mp 2 (pc' := 9) (l' := [(7, .int 0), (0, .ref 30), (1, .ref ya), (2, .int 0), (3, .int 1), (4, .int yx), (5, .int yc), (6, .int 3)]) (st' := [.int 0]) (by rfl) ?_
  refine Pa.if1k false (by rfl) (by rfl) (by decide) ?_
  show Pa N 39 12 [(7, .int 0), (0, .ref 30), (1, .ref ya), (2, .int 0), (3, .int 1), (4, .int yx), (5, .int yc), (6, .int 3)] [] (uI (uI (uI (uI (uI (uI (uI yA 30 6 0) 33 0 12) 30 6 1) 33 1 20) 30 6 2) 33 2 11) 30 6 3) _
  refine Pa.mp 1 (pc' := 14) (l' := [(7, .int 0), (0, .ref 30), (1, .ref ya), (2, .int 0), (3, .int 1), (4, .int yx), (5, .int yc), (6, .int 3)]) (st' := [.int 3]) (by rfl) ?_
  refine Pa.ic (x := 30) (pc' := 16) (by rfl) (by rfl) (by decide) ?_
  refine Pa.if2k true (by rfl) (by rfl) (by decide) ?_
  show Pa N 39 21 [(7, .int 0), (0, .ref 30), (1, .ref ya), (2, .int 0), (3, .int 1), (4, .int yx), (5, .int yc), (6, .int 3)] [] (uI (uI (uI (uI (uI (uI (uI yA 30 6 0) 33 0 12) 30 6 1) 33 1 20) 30 6 2) 33 2 11) 30 6 3) _
  refine Pa.mp 2 (pc' := 24) (l' := [(7, .int 0), (0, .ref 30), (1, .ref ya), (2, .int 0), (3, .int 1), (4, .int yx), (5, .int yc), (6, .int 3)]) (st' := [.int 0, .int 0]) (by rfl) ?_
  refine Pa.ist (by rfl) (by rfl) (.inl rfl) (by rfl) (by rfl) ?_
  refine Pa.mono (c_bod0_0 N (uI (uI (uI (uI (uI (uI (uI yA 30 6 0) 33 0 12) 30 6 1) 33 1 20) 30 6 2) 33 2 11) 30 6 3)) (fun yu A1 hu => ?_)
  obtain ⟨rfl, hu⟩ := hu
  rw [hu]
  show Pa N 39 27 [(7, .int 0), (0, .ref 30), (1, .ref ya), (2, .int 0), (3, .int 1), (4, .int yx), (5, .int yc), (6, .int 3)] [.int 10] (uI (uI (uI (uI (uI (uI (uI yA 30 6 0) 33 0 12) 30 6 1) 33 1 20) 30 6 2) 33 2 11) 30 6 3) _
  refine Pa.mp 2 (pc' := 30) (l' := [(8, .int 10), (7, .int 0), (0, .ref 30), (1, .ref ya), (2, .int 0), (3, .int 1), (4, .int yx), (5, .int yc), (6, .int 3)]) (st' := [.ref 30]) (by rfl) ?_
  refine Pa.gfI (v := 3) (by rfl) (by rfl) (.inl rfl) (by rfl) (by show (uI (uI (uI (uI (uI (uI (uI yA 30 6 0) 33 0 12) 30 6 1) 33 1 20) 30 6 2) 33 2 11) 30 6 3).1 30 6 = 3; rw [uI_h]) ?_
  refine Pa.ic (x := 24) (pc' := 35) (by rfl) (by rfl) (by decide) ?_
  refine Pa.if2k false (by rfl) (by rfl) (by decide) ?_
  show Pa N 39 38 [(8, .int 10), (7, .int 0), (0, .ref 30), (1, .ref ya), (2, .int 0), (3, .int 1), (4, .int yx), (5, .int yc), (6, .int 3)] [] (uI (uI (uI (uI (uI (uI (uI yA 30 6 0) 33 0 12) 30 6 1) 33 1 20) 30 6 2) 33 2 11) 30 6 3) _
  refine Pa.mp 1 (pc' := 39) (l' := [(8, .int 10), (7, .int 0), (0, .ref 30), (1, .ref ya), (2, .int 0), (3, .int 1), (4, .int yx), (5, .int yc), (6, .int 3)]) (st' := [.ref 30]) (by rfl) ?_
  refine Pa.gfR (by rfl) (by rfl) (.inl rfl) (by rfl) ?_
  show Pa N 39 42 [(8, .int 10), (7, .int 0), (0, .ref 30), (1, .ref ya), (2, .int 0), (3, .int 1), (4, .int yx), (5, .int yc), (6, .int 3)] [.ref 33] (uI (uI (uI (uI (uI (uI (uI yA 30 6 0) 33 0 12) 30 6 1) 33 1 20) 30 6 2) 33 2 11) 30 6 3) _
  refine Pa.mp 1 (pc' := 43) (l' := [(8, .int 10), (7, .int 0), (0, .ref 30), (1, .ref ya), (2, .int 0), (3, .int 1), (4, .int yx), (5, .int yc), (6, .int 3)]) (st' := [.ref 30, .ref 33]) (by rfl) ?_
  refine Pa.gfI (v := 3) (by rfl) (by rfl) (.inl rfl) (by rfl) (by show (uI (uI (uI (uI (uI (uI (uI yA 30 6 0) 33 0 12) 30 6 1) 33 1 20) 30 6 2) 33 2 11) 30 6 3).1 30 6 = 3; rw [uI_h]) ?_
  refine Pa.mp 1 (pc' := 48) (l' := [(8, .int 10), (7, .int 0), (0, .ref 30), (1, .ref ya), (2, .int 0), (3, .int 1), (4, .int yx), (5, .int yc), (6, .int 3)]) (st' := [.int 10, .int 3, .ref 33]) (by rfl) ?_
  refine Pa.asts (j' := 3) (by rfl) (by rfl) (by rfl) (fun h7 h8 => ?_)
  show Pa N 39 49 [(8, .int 10), (7, .int 0), (0, .ref 30), (1, .ref ya), (2, .int 0), (3, .int 1), (4, .int yx), (5, .int yc), (6, .int 3)] [] (uI (uI (uI (uI (uI (uI (uI (uI yA 30 6 0) 33 0 12) 30 6 1) 33 1 20) 30 6 2) 33 2 11) 30 6 3) 33 3 10) _
  refine Pa.mp 2 (pc' := 51) (l' := [(8, .int 10), (7, .int 0), (0, .ref 30), (1, .ref ya), (2, .int 0), (3, .int 1), (4, .int yx), (5, .int yc), (6, .int 3)]) (st' := [.ref 30, .ref 30]) (by rfl) ?_
  refine Pa.gfI (v := 3) (by rfl) (by rfl) (.inl rfl) (by rfl) (by show (uI (uI (uI (uI (uI (uI (uI (uI yA 30 6 0) 33 0 12) 30 6 1) 33 1 20) 30 6 2) 33 2 11) 30 6 3) 33 3 10).1 30 6 = 3; rw [uI_c (by decide), uI_h]) ?_
  refine Pa.ic (x := 1) (pc' := 55) (by rfl) (by rfl) (by decide) ?_
  refine Pa.mp 1 (pc' := 56) (l' := [(8, .int 10), (7, .int 0), (0, .ref 30), (1, .ref ya), (2, .int 0), (3, .int 1), (4, .int yx), (5, .int yc), (6, .int 3)]) (st' := [.int 4, .ref 30]) (by rfl) ?_
  refine Pa.pfI (by rfl) (by rfl) (.inl rfl) (by rfl) ?_
  show Pa N 39 59 [(8, .int 10), (7, .int 0), (0, .ref 30), (1, .ref ya), (2, .int 0), (3, .int 1), (4, .int yx), (5, .int yc), (6, .int 3)] [] (uI (uI (uI (uI (uI (uI (uI (uI (uI yA 30 6 0) 33 0 12) 30 6 1) 33 1 20) 30 6 2) 33 2 11) 30 6 3) 33 3 10) 30 6 4) _
  refine Pa.mp 1 (pc' := 61) (l' := [(8, .int 10), (7, .int 0), (0, .ref 30), (1, .ref ya), (2, .int 0), (3, .int 1), (4, .int yx), (5, .int yc), (6, .int 3)]) (st' := [.int 0]) (by rfl) ?_
  refine Pa.ist (by rfl) (by rfl) (.inl rfl) (by rfl) (by rfl) ?_
  refine Pa.mono (c_abv0 N (uI (uI (uI (uI (uI (uI (uI (uI (uI yA 30 6 0) 33 0 12) 30 6 1) 33 1 20) 30 6 2) 33 2 11) 30 6 3) 33 3 10) 30 6 4)) (fun yu A1 hu => ?_)
  obtain ⟨rfl, hu⟩ := hu
  rw [hu]
  show Pa N 39 64 [(8, .int 10), (7, .int 0), (0, .ref 30), (1, .ref ya), (2, .int 0), (3, .int 1), (4, .int yx), (5, .int yc), (6, .int 3)] [.int (-1)] (uI (uI (uI (uI (uI (uI (uI (uI (uI yA 30 6 0) 33 0 12) 30 6 1) 33 1 20) 30 6 2) 33 2 11) 30 6 3) 33 3 10) 30 6 4) _
  refine Pa.mp 2 (pc' := 68) (l' := [(9, .int (-1)), (8, .int 10), (7, .int 0), (0, .ref 30), (1, .ref ya), (2, .int 0), (3, .int 1), (4, .int yx), (5, .int yc), (6, .int 3)]) (st' := [.int 3]) (by rfl) ?_
  refine Pa.ic (x := 1) (pc' := 69) (by rfl) (by rfl) (by decide) ?_
  refine Pa.mp 3 (pc' := 74) (l' := [(10, .int 4), (9, .int (-1)), (8, .int 10), (7, .int 0), (0, .ref 30), (1, .ref ya), (2, .int 0), (3, .int 1), (4, .int yx), (5, .int yc), (6, .int 3)]) (st' := [.int 10]) (by rfl) ?_
  refine Pa.mp 1 (pc' := 164) (l' := [(10, .int 4), (9, .int (-1)), (8, .int 10), (7, .int 0), (0, .ref 30), (1, .ref ya), (2, .int 0), (3, .int 1), (4, .int yx), (5, .int yc), (6, .int 3)]) (st' := []) (by rfl) ?_
  refine Pa.mp 3 (pc' := 169) (l' := [(10, .int 4), (9, .int (-1)), (8, .int 10), (7, .int 0), (0, .ref 30), (1, .ref ya), (2, .int 0), (3, .int 1), (4, .int yx), (5, .int yc), (6, .int 3)]) (st' := [.int (yx + yc)]) (by rfl) ?_
  refine Pa.iret (by rfl) ?_
  show Pa N 39 186 [(10, .int 3), (9, .int (-1)), (8, .int 11), (7, .int 0), (0, .ref 30), (1, .ref ya), (2, .int 1), (3, .int 0), (4, .int yx), (5, .int yc), (6, .int 2)] [.int (yx + yc)] (uI (uI (uI (uI (uI (uI (uI (uI (uI yA 30 6 0) 33 0 12) 30 6 1) 33 1 20) 30 6 2) 33 2 11) 30 6 3) 33 3 10) 30 6 4) _
  refine Pa.ic (x := 2) (pc' := 187) (by rfl) (by rfl) (by decide) ?_
  refine Pa.mp 1 (pc' := 188) (l' := [(10, .int 3), (9, .int (-1)), (8, .int 11), (7, .int 0), (0, .ref 30), (1, .ref ya), (2, .int 1), (3, .int 0), (4, .int yx), (5, .int yc), (6, .int 2)]) (st' := [.int ((yx + yc) * 2)]) (by rfl) ?_
  refine Pa.iret (by rfl) ?_
  show Pa N 39 225 [(10, .int 2), (9, .int 0), (8, .int 20), (7, .int 1), (0, .ref 30), (1, .ref ya), (2, .int 1), (3, .int 1), (4, .int yx), (5, .int yc), (6, .int 1)] [.int ((yx + yc) * 2)] (uI (uI (uI (uI (uI (uI (uI (uI (uI yA 30 6 0) 33 0 12) 30 6 1) 33 1 20) 30 6 2) 33 2 11) 30 6 3) 33 3 10) 30 6 4) _
  refine Pa.ic (x := 9) (pc' := 227) (by rfl) (by rfl) (by decide) ?_
  refine Pa.mp 1 (pc' := 228) (l' := [(10, .int 2), (9, .int 0), (8, .int 20), (7, .int 1), (0, .ref 30), (1, .ref ya), (2, .int 1), (3, .int 1), (4, .int yx), (5, .int yc), (6, .int 1)]) (st' := [.int (((yx + yc) * 2) ^^^ 9)]) (by rfl) ?_
  refine Pa.iret (by rfl) ?_
  show Pa N 39 205 [(10, .int 1), (9, .int (-1)), (8, .int 12), (7, .int 0), (0, .ref 30), (1, .ref ya), (2, .int 2), (3, .int 1), (4, .int yx), (5, .int yc), (6, .int 0)] [.int (((yx + yc) * 2) ^^^ 9)] (uI (uI (uI (uI (uI (uI (uI (uI (uI yA 30 6 0) 33 0 12) 30 6 1) 33 1 20) 30 6 2) 33 2 11) 30 6 3) 33 3 10) 30 6 4) _
  refine Pa.mp 1 (pc' := 206) (l' := [(10, .int 1), (9, .int (-1)), (8, .int 12), (7, .int 0), (0, .ref 30), (1, .ref ya), (2, .int 2), (3, .int 1), (4, .int yx), (5, .int yc), (6, .int 0)]) (st' := [.ref ya, .int (((yx + yc) * 2) ^^^ 9)]) (by rfl) ?_
  refine Pa.gfI (v := yA.1 ya 0) (by rfl) (by rfl) (.inr rfl) (by rfl) (by show (uI (uI (uI (uI (uI (uI (uI (uI (uI yA 30 6 0) 33 0 12) 30 6 1) 33 1 20) 30 6 2) 33 2 11) 30 6 3) 33 3 10) 30 6 4).1 ya 0 = yA.1 ya 0; rw [uI_c (by omega), uI_c (by omega), uI_c (by omega), uI_c (by omega), uI_c (by omega), uI_c (by omega), uI_c (by omega), uI_c (by omega), uI_c (by omega)]) ?_
  refine Pa.mp 1 (pc' := 210) (l' := [(10, .int 1), (9, .int (-1)), (8, .int 12), (7, .int 0), (0, .ref 30), (1, .ref ya), (2, .int 2), (3, .int 1), (4, .int yx), (5, .int yc), (6, .int 0)]) (st' := [.int ((((yx + yc) * 2) ^^^ 9) - (yA.1 ya 0))]) (by rfl) ?_
  refine Pa.iret (by rfl) ?_
  exact l1

theorem bpf2_2 {N : Nat} {yA : AW} {yQ : Option Value → AW → Prop} {ya : Nat} (yx yc : Int32) (yha : 129 ≤ ya) (hk : yA.1 ya 1 = 2)
    (l1 : yQ (some (.int ((((yx + yc) - 4) * 2) - (yA.1 ya 0)))) (uI (uI (uI (uI (uI (uI (uI (uI (uI yA 30 6 0) 33 0 12) 30 6 1) 33 1 11) 30 6 2) 33 2 30) 30 6 3) 33 3 10) 30 6 4)) :
    Pa N 39 0 [(0, .ref 30), (1, .ref ya), (2, .int 2), (3, .int 2), (4, .int yx), (5, .int yc), (6, .int 0)] [] (uI yA 30 6 0) yQ := by
  refine Pa.mp 2 (pc' := 2) (l' := [(0, .ref 30), (1, .ref ya), (2, .int 2), (3, .int 2), (4, .int yx), (5, .int yc), (6, .int 0)]) (st' := [.int 2, .int 2]) (by rfl) ?_
  refine Pa.ist (by rfl) (by rfl) (.inl rfl) (by rfl) (by rfl) ?_
  refine Pa.mono (c_kwb2_2 N (uI yA 30 6 0)) (fun yu A1 hu => ?_)
  obtain ⟨rfl, hu⟩ := hu
  rw [hu]
  show Pa N 39 5 [(0, .ref 30), (1, .ref ya), (2, .int 2), (3, .int 2), (4, .int yx), (5, .int yc), (6, .int 0)] [.int 0] (uI yA 30 6 0) _
  refine Pa.mp 2 (pc' := 9) (l' := [(7, .int 0), (0, .ref 30), (1, .ref ya), (2, .int 2), (3, .int 2), (4, .int yx), (5, .int yc), (6, .int 0)]) (st' := [.int 0]) (by rfl) ?_
  refine Pa.if1k false (by rfl) (by rfl) (by decide) ?_
  show Pa N 39 12 [(7, .int 0), (0, .ref 30), (1, .ref ya), (2, .int 2), (3, .int 2), (4, .int yx), (5, .int yc), (6, .int 0)] [] (uI yA 30 6 0) _
  refine Pa.mp 1 (pc' := 14) (l' := [(7, .int 0), (0, .ref 30), (1, .ref ya), (2, .int 2), (3, .int 2), (4, .int yx), (5, .int yc), (6, .int 0)]) (st' := [.int 0]) (by rfl) ?_
  refine Pa.ic (x := 30) (pc' := 16) (by rfl) (by rfl) (by decide) ?_
  refine Pa.if2k true (by rfl) (by rfl) (by decide) ?_
  show Pa N 39 21 [(7, .int 0), (0, .ref 30), (1, .ref ya), (2, .int 2), (3, .int 2), (4, .int yx), (5, .int yc), (6, .int 0)] [] (uI yA 30 6 0) _
  refine Pa.mp 2 (pc' := 24) (l' := [(7, .int 0), (0, .ref 30), (1, .ref ya), (2, .int 2), (3, .int 2), (4, .int yx), (5, .int yc), (6, .int 0)]) (st' := [.int 0, .int 2]) (by rfl) ?_
  refine Pa.ist (by rfl) (by rfl) (.inl rfl) (by rfl) (by rfl) ?_
  refine Pa.mono (c_bod2_0 N (uI yA 30 6 0)) (fun yu A1 hu => ?_)
  obtain ⟨rfl, hu⟩ := hu
  rw [hu]
  show Pa N 39 27 [(7, .int 0), (0, .ref 30), (1, .ref ya), (2, .int 2), (3, .int 2), (4, .int yx), (5, .int yc), (6, .int 0)] [.int 12] (uI yA 30 6 0) _
  refine Pa.mp 2 (pc' := 30) (l' := [(8, .int 12), (7, .int 0), (0, .ref 30), (1, .ref ya), (2, .int 2), (3, .int 2), (4, .int yx), (5, .int yc), (6, .int 0)]) (st' := [.ref 30]) (by rfl) ?_
  refine Pa.gfI (v := 0) (by rfl) (by rfl) (.inl rfl) (by rfl) (by show (uI yA 30 6 0).1 30 6 = 0; rw [uI_h]) ?_
  refine Pa.ic (x := 24) (pc' := 35) (by rfl) (by rfl) (by decide) ?_
  refine Pa.if2k false (by rfl) (by rfl) (by decide) ?_
  show Pa N 39 38 [(8, .int 12), (7, .int 0), (0, .ref 30), (1, .ref ya), (2, .int 2), (3, .int 2), (4, .int yx), (5, .int yc), (6, .int 0)] [] (uI yA 30 6 0) _
  refine Pa.mp 1 (pc' := 39) (l' := [(8, .int 12), (7, .int 0), (0, .ref 30), (1, .ref ya), (2, .int 2), (3, .int 2), (4, .int yx), (5, .int yc), (6, .int 0)]) (st' := [.ref 30]) (by rfl) ?_
  refine Pa.gfR (by rfl) (by rfl) (.inl rfl) (by rfl) ?_
  show Pa N 39 42 [(8, .int 12), (7, .int 0), (0, .ref 30), (1, .ref ya), (2, .int 2), (3, .int 2), (4, .int yx), (5, .int yc), (6, .int 0)] [.ref 33] (uI yA 30 6 0) _
  refine Pa.mp 1 (pc' := 43) (l' := [(8, .int 12), (7, .int 0), (0, .ref 30), (1, .ref ya), (2, .int 2), (3, .int 2), (4, .int yx), (5, .int yc), (6, .int 0)]) (st' := [.ref 30, .ref 33]) (by rfl) ?_
  refine Pa.gfI (v := 0) (by rfl) (by rfl) (.inl rfl) (by rfl) (by show (uI yA 30 6 0).1 30 6 = 0; rw [uI_h]) ?_
  refine Pa.mp 1 (pc' := 48) (l' := [(8, .int 12), (7, .int 0), (0, .ref 30), (1, .ref ya), (2, .int 2), (3, .int 2), (4, .int yx), (5, .int yc), (6, .int 0)]) (st' := [.int 12, .int 0, .ref 33]) (by rfl) ?_
  refine Pa.asts (j' := 0) (by rfl) (by rfl) (by rfl) (fun h1 h2 => ?_)
  show Pa N 39 49 [(8, .int 12), (7, .int 0), (0, .ref 30), (1, .ref ya), (2, .int 2), (3, .int 2), (4, .int yx), (5, .int yc), (6, .int 0)] [] (uI (uI yA 30 6 0) 33 0 12) _
  refine Pa.mp 2 (pc' := 51) (l' := [(8, .int 12), (7, .int 0), (0, .ref 30), (1, .ref ya), (2, .int 2), (3, .int 2), (4, .int yx), (5, .int yc), (6, .int 0)]) (st' := [.ref 30, .ref 30]) (by rfl) ?_
  refine Pa.gfI (v := 0) (by rfl) (by rfl) (.inl rfl) (by rfl) (by show (uI (uI yA 30 6 0) 33 0 12).1 30 6 = 0; rw [uI_c (by decide), uI_h]) ?_
  refine Pa.ic (x := 1) (pc' := 55) (by rfl) (by rfl) (by decide) ?_
  refine Pa.mp 1 (pc' := 56) (l' := [(8, .int 12), (7, .int 0), (0, .ref 30), (1, .ref ya), (2, .int 2), (3, .int 2), (4, .int yx), (5, .int yc), (6, .int 0)]) (st' := [.int 1, .ref 30]) (by rfl) ?_
  refine Pa.pfI (by rfl) (by rfl) (.inl rfl) (by rfl) ?_
  show Pa N 39 59 [(8, .int 12), (7, .int 0), (0, .ref 30), (1, .ref ya), (2, .int 2), (3, .int 2), (4, .int yx), (5, .int yc), (6, .int 0)] [] (uI (uI (uI yA 30 6 0) 33 0 12) 30 6 1) _
  refine Pa.mp 1 (pc' := 61) (l' := [(8, .int 12), (7, .int 0), (0, .ref 30), (1, .ref ya), (2, .int 2), (3, .int 2), (4, .int yx), (5, .int yc), (6, .int 0)]) (st' := [.int 0]) (by rfl) ?_
  refine Pa.ist (by rfl) (by rfl) (.inl rfl) (by rfl) (by rfl) ?_
  refine Pa.mono (c_abv0 N (uI (uI (uI yA 30 6 0) 33 0 12) 30 6 1)) (fun yu A1 hu => ?_)
  obtain ⟨rfl, hu⟩ := hu
  rw [hu]
  show Pa N 39 64 [(8, .int 12), (7, .int 0), (0, .ref 30), (1, .ref ya), (2, .int 2), (3, .int 2), (4, .int yx), (5, .int yc), (6, .int 0)] [.int (-1)] (uI (uI (uI yA 30 6 0) 33 0 12) 30 6 1) _
  refine Pa.mp 2 (pc' := 68) (l' := [(9, .int (-1)), (8, .int 12), (7, .int 0), (0, .ref 30), (1, .ref ya), (2, .int 2), (3, .int 2), (4, .int yx), (5, .int yc), (6, .int 0)]) (st' := [.int 0]) (by rfl) ?_
  refine Pa.ic (x := 1) (pc' := 69) (by rfl) (by rfl) (by decide) ?_
  refine Pa.mp 3 (pc' := 74) (l' := [(10, .int 1), (9, .int (-1)), (8, .int 12), (7, .int 0), (0, .ref 30), (1, .ref ya), (2, .int 2), (3, .int 2), (4, .int yx), (5, .int yc), (6, .int 0)]) (st' := [.int 12]) (by rfl) ?_
  refine Pa.mp 1 (pc' := 189) (l' := [(10, .int 1), (9, .int (-1)), (8, .int 12), (7, .int 0), (0, .ref 30), (1, .ref ya), (2, .int 2), (3, .int 2), (4, .int yx), (5, .int yc), (6, .int 0)]) (st' := []) (by rfl) ?_
  refine Pa.mp 2 (pc' := 191) (l' := [(10, .int 1), (9, .int (-1)), (8, .int 12), (7, .int 0), (0, .ref 30), (1, .ref ya), (2, .int 2), (3, .int 2), (4, .int yx), (5, .int yc), (6, .int 0)]) (st' := [.ref ya, .ref 30]) (by rfl) ?_
  refine Pa.ic (x := 1) (pc' := 192) (by rfl) (by rfl) (by decide) ?_
  refine Pa.mp 1 (pc' := 193) (l' := [(10, .int 1), (9, .int (-1)), (8, .int 12), (7, .int 0), (0, .ref 30), (1, .ref ya), (2, .int 2), (3, .int 2), (4, .int yx), (5, .int yc), (6, .int 0)]) (st' := [.ref ya, .int 1, .ref ya, .ref 30]) (by rfl) ?_
  refine Pa.gfI (v := 2) (by rfl) (by rfl) (.inr rfl) (by rfl) (by show (uI (uI (uI yA 30 6 0) 33 0 12) 30 6 1).1 ya 1 = 2; rw [uI_c (by omega), uI_c (by omega), uI_c (by omega), hk]) ?_
  refine Pa.mp 3 (pc' := 202) (l' := [(10, .int 1), (9, .int (-1)), (8, .int 12), (7, .int 0), (0, .ref 30), (1, .ref ya), (2, .int 2), (3, .int 2), (4, .int yx), (5, .int yc), (6, .int 0)]) (st' := [.int 1, .int yc, .int yx, .int 2, .int 1, .ref ya, .ref 30]) (by rfl) ?_
  refine Pa.inv (by rfl) (by rfl) (.inl rfl) (by rfl) ?_
  show Pa N 39 0 [(0, .ref 30), (1, .ref ya), (2, .int 1), (3, .int 2), (4, .int yx), (5, .int yc), (6, .int 1)] [] (uI (uI (uI yA 30 6 0) 33 0 12) 30 6 1) _
  refine Pa.mp 2 (pc' := 2) (l' := [(0, .ref 30), (1, .ref ya), (2, .int 1), (3, .int 2), (4, .int yx), (5, .int yc), (6, .int 1)]) (st' := [.int 2, .int 1]) (by rfl) ?_
  refine Pa.ist (by rfl) (by rfl) (.inl rfl) (by rfl) (by rfl) ?_
  refine Pa.mono (c_kwb1_2 N (uI (uI (uI yA 30 6 0) 33 0 12) 30 6 1)) (fun yu A1 hu => ?_)
  obtain ⟨rfl, hu⟩ := hu
  rw [hu]
  show Pa N 39 5 [(0, .ref 30), (1, .ref ya), (2, .int 1), (3, .int 2), (4, .int yx), (5, .int yc), (6, .int 1)] [.int 0] (uI (uI (uI yA 30 6 0) 33 0 12) 30 6 1) _
  refine Pa.mp 2 (pc' := 9) (l' := [(7, .int 0), (0, .ref 30), (1, .ref ya), (2, .int 1), (3, .int 2), (4, .int yx), (5, .int yc), (6, .int 1)]) (st' := [.int 0]) (by rfl) ?_
  refine Pa.if1k false (by rfl) (by rfl) (by decide) ?_
  show Pa N 39 12 [(7, .int 0), (0, .ref 30), (1, .ref ya), (2, .int 1), (3, .int 2), (4, .int yx), (5, .int yc), (6, .int 1)] [] (uI (uI (uI yA 30 6 0) 33 0 12) 30 6 1) _
  refine Pa.mp 1 (pc' := 14) (l' := [(7, .int 0), (0, .ref 30), (1, .ref ya), (2, .int 1), (3, .int 2), (4, .int yx), (5, .int yc), (6, .int 1)]) (st' := [.int 1]) (by rfl) ?_
  refine Pa.ic (x := 30) (pc' := 16) (by rfl) (by rfl) (by decide) ?_
  refine Pa.if2k true (by rfl) (by rfl) (by decide) ?_
  show Pa N 39 21 [(7, .int 0), (0, .ref 30), (1, .ref ya), (2, .int 1), (3, .int 2), (4, .int yx), (5, .int yc), (6, .int 1)] [] (uI (uI (uI yA 30 6 0) 33 0 12) 30 6 1) _
  refine Pa.mp 2 (pc' := 24) (l' := [(7, .int 0), (0, .ref 30), (1, .ref ya), (2, .int 1), (3, .int 2), (4, .int yx), (5, .int yc), (6, .int 1)]) (st' := [.int 0, .int 1]) (by rfl) ?_
  refine Pa.ist (by rfl) (by rfl) (.inl rfl) (by rfl) (by rfl) ?_
  refine Pa.mono (c_bod1_0 N (uI (uI (uI yA 30 6 0) 33 0 12) 30 6 1)) (fun yu A1 hu => ?_)
  obtain ⟨rfl, hu⟩ := hu
  rw [hu]
  show Pa N 39 27 [(7, .int 0), (0, .ref 30), (1, .ref ya), (2, .int 1), (3, .int 2), (4, .int yx), (5, .int yc), (6, .int 1)] [.int 11] (uI (uI (uI yA 30 6 0) 33 0 12) 30 6 1) _
  refine Pa.mp 2 (pc' := 30) (l' := [(8, .int 11), (7, .int 0), (0, .ref 30), (1, .ref ya), (2, .int 1), (3, .int 2), (4, .int yx), (5, .int yc), (6, .int 1)]) (st' := [.ref 30]) (by rfl) ?_
  refine Pa.gfI (v := 1) (by rfl) (by rfl) (.inl rfl) (by rfl) (by show (uI (uI (uI yA 30 6 0) 33 0 12) 30 6 1).1 30 6 = 1; rw [uI_h]) ?_
  refine Pa.ic (x := 24) (pc' := 35) (by rfl) (by rfl) (by decide) ?_
  refine Pa.if2k false (by rfl) (by rfl) (by decide) ?_
  show Pa N 39 38 [(8, .int 11), (7, .int 0), (0, .ref 30), (1, .ref ya), (2, .int 1), (3, .int 2), (4, .int yx), (5, .int yc), (6, .int 1)] [] (uI (uI (uI yA 30 6 0) 33 0 12) 30 6 1) _
  refine Pa.mp 1 (pc' := 39) (l' := [(8, .int 11), (7, .int 0), (0, .ref 30), (1, .ref ya), (2, .int 1), (3, .int 2), (4, .int yx), (5, .int yc), (6, .int 1)]) (st' := [.ref 30]) (by rfl) ?_
  refine Pa.gfR (by rfl) (by rfl) (.inl rfl) (by rfl) ?_
  show Pa N 39 42 [(8, .int 11), (7, .int 0), (0, .ref 30), (1, .ref ya), (2, .int 1), (3, .int 2), (4, .int yx), (5, .int yc), (6, .int 1)] [.ref 33] (uI (uI (uI yA 30 6 0) 33 0 12) 30 6 1) _
  refine Pa.mp 1 (pc' := 43) (l' := [(8, .int 11), (7, .int 0), (0, .ref 30), (1, .ref ya), (2, .int 1), (3, .int 2), (4, .int yx), (5, .int yc), (6, .int 1)]) (st' := [.ref 30, .ref 33]) (by rfl) ?_
  refine Pa.gfI (v := 1) (by rfl) (by rfl) (.inl rfl) (by rfl) (by show (uI (uI (uI yA 30 6 0) 33 0 12) 30 6 1).1 30 6 = 1; rw [uI_h]) ?_
  refine Pa.mp 1 (pc' := 48) (l' := [(8, .int 11), (7, .int 0), (0, .ref 30), (1, .ref ya), (2, .int 1), (3, .int 2), (4, .int yx), (5, .int yc), (6, .int 1)]) (st' := [.int 11, .int 1, .ref 33]) (by rfl) ?_
  refine Pa.asts (j' := 1) (by rfl) (by rfl) (by rfl) (fun h3 h4 => ?_)
  show Pa N 39 49 [(8, .int 11), (7, .int 0), (0, .ref 30), (1, .ref ya), (2, .int 1), (3, .int 2), (4, .int yx), (5, .int yc), (6, .int 1)] [] (uI (uI (uI (uI yA 30 6 0) 33 0 12) 30 6 1) 33 1 11) _
  refine Pa.mp 2 (pc' := 51) (l' := [(8, .int 11), (7, .int 0), (0, .ref 30), (1, .ref ya), (2, .int 1), (3, .int 2), (4, .int yx), (5, .int yc), (6, .int 1)]) (st' := [.ref 30, .ref 30]) (by rfl) ?_
  refine Pa.gfI (v := 1) (by rfl) (by rfl) (.inl rfl) (by rfl) (by show (uI (uI (uI (uI yA 30 6 0) 33 0 12) 30 6 1) 33 1 11).1 30 6 = 1; rw [uI_c (by decide), uI_h]) ?_
  refine Pa.ic (x := 1) (pc' := 55) (by rfl) (by rfl) (by decide) ?_
  refine Pa.mp 1 (pc' := 56) (l' := [(8, .int 11), (7, .int 0), (0, .ref 30), (1, .ref ya), (2, .int 1), (3, .int 2), (4, .int yx), (5, .int yc), (6, .int 1)]) (st' := [.int 2, .ref 30]) (by rfl) ?_
  refine Pa.pfI (by rfl) (by rfl) (.inl rfl) (by rfl) ?_
  show Pa N 39 59 [(8, .int 11), (7, .int 0), (0, .ref 30), (1, .ref ya), (2, .int 1), (3, .int 2), (4, .int yx), (5, .int yc), (6, .int 1)] [] (uI (uI (uI (uI (uI yA 30 6 0) 33 0 12) 30 6 1) 33 1 11) 30 6 2) _
  refine Pa.mp 1 (pc' := 61) (l' := [(8, .int 11), (7, .int 0), (0, .ref 30), (1, .ref ya), (2, .int 1), (3, .int 2), (4, .int yx), (5, .int yc), (6, .int 1)]) (st' := [.int 0]) (by rfl) ?_
  refine Pa.ist (by rfl) (by rfl) (.inl rfl) (by rfl) (by rfl) ?_
  refine Pa.mono (c_abv0 N (uI (uI (uI (uI (uI yA 30 6 0) 33 0 12) 30 6 1) 33 1 11) 30 6 2)) (fun yu A1 hu => ?_)
  obtain ⟨rfl, hu⟩ := hu
  rw [hu]
  show Pa N 39 64 [(8, .int 11), (7, .int 0), (0, .ref 30), (1, .ref ya), (2, .int 1), (3, .int 2), (4, .int yx), (5, .int yc), (6, .int 1)] [.int (-1)] (uI (uI (uI (uI (uI yA 30 6 0) 33 0 12) 30 6 1) 33 1 11) 30 6 2) _
  refine Pa.mp 2 (pc' := 68) (l' := [(9, .int (-1)), (8, .int 11), (7, .int 0), (0, .ref 30), (1, .ref ya), (2, .int 1), (3, .int 2), (4, .int yx), (5, .int yc), (6, .int 1)]) (st' := [.int 1]) (by rfl) ?_
  refine Pa.ic (x := 1) (pc' := 69) (by rfl) (by rfl) (by decide) ?_
  refine Pa.mp 3 (pc' := 74) (l' := [(10, .int 2), (9, .int (-1)), (8, .int 11), (7, .int 0), (0, .ref 30), (1, .ref ya), (2, .int 1), (3, .int 2), (4, .int yx), (5, .int yc), (6, .int 1)]) (st' := [.int 11]) (by rfl) ?_
  refine Pa.mp 1 (pc' := 170) (l' := [(10, .int 2), (9, .int (-1)), (8, .int 11), (7, .int 0), (0, .ref 30), (1, .ref ya), (2, .int 1), (3, .int 2), (4, .int yx), (5, .int yc), (6, .int 1)]) (st' := []) (by rfl) ?_
  refine Pa.mp 2 (pc' := 172) (l' := [(10, .int 2), (9, .int (-1)), (8, .int 11), (7, .int 0), (0, .ref 30), (1, .ref ya), (2, .int 1), (3, .int 2), (4, .int yx), (5, .int yc), (6, .int 1)]) (st' := [.ref ya, .ref 30]) (by rfl) ?_
  refine Pa.ic (x := 0) (pc' := 173) (by rfl) (by rfl) (by decide) ?_
  refine Pa.mp 1 (pc' := 174) (l' := [(10, .int 2), (9, .int (-1)), (8, .int 11), (7, .int 0), (0, .ref 30), (1, .ref ya), (2, .int 1), (3, .int 2), (4, .int yx), (5, .int yc), (6, .int 1)]) (st' := [.ref ya, .int 0, .ref ya, .ref 30]) (by rfl) ?_
  refine Pa.gfI (v := 2) (by rfl) (by rfl) (.inr rfl) (by rfl) (by show (uI (uI (uI (uI (uI yA 30 6 0) 33 0 12) 30 6 1) 33 1 11) 30 6 2).1 ya 1 = 2; rw [uI_c (by omega), uI_c (by omega), uI_c (by omega), uI_c (by omega), uI_c (by omega), hk]) ?_
  refine Pa.mp 3 (pc' := 183) (l' := [(10, .int 2), (9, .int (-1)), (8, .int 11), (7, .int 0), (0, .ref 30), (1, .ref ya), (2, .int 1), (3, .int 2), (4, .int yx), (5, .int yc), (6, .int 1)]) (st' := [.int 2, .int yc, .int yx, .int 2, .int 0, .ref ya, .ref 30]) (by rfl) ?_
  refine Pa.inv (by rfl) (by rfl) (.inl rfl) (by rfl) ?_
  show Pa N 39 0 [(0, .ref 30), (1, .ref ya), (2, .int 0), (3, .int 2), (4, .int yx), (5, .int yc), (6, .int 2)] [] (uI (uI (uI (uI (uI yA 30 6 0) 33 0 12) 30 6 1) 33 1 11) 30 6 2) _
  refine Pa.mp 2 (pc' := 2) (l' := [(0, .ref 30), (1, .ref ya), (2, .int 0), (3, .int 2), (4, .int yx), (5, .int yc), (6, .int 2)]) (st' := [.int 2, .int 0]) (by rfl) ?_
  refine Pa.ist (by rfl) (by rfl) (.inl rfl) (by rfl) (by rfl) ?_
  refine Pa.mono (c_kwb0_2 N (uI (uI (uI (uI (uI yA 30 6 0) 33 0 12) 30 6 1) 33 1 11) 30 6 2)) (fun yu A1 hu => ?_)
  obtain ⟨rfl, hu⟩ := hu
  rw [hu]
  show Pa N 39 5 [(0, .ref 30), (1, .ref ya), (2, .int 0), (3, .int 2), (4, .int yx), (5, .int yc), (6, .int 2)] [.int 2] (uI (uI (uI (uI (uI yA 30 6 0) 33 0 12) 30 6 1) 33 1 11) 30 6 2) _
  refine Pa.mp 2 (pc' := 9) (l' := [(7, .int 2), (0, .ref 30), (1, .ref ya), (2, .int 0), (3, .int 2), (4, .int yx), (5, .int yc), (6, .int 2)]) (st' := [.int 2]) (by rfl) ?_
  refine Pa.if1k false (by rfl) (by rfl) (by decide) ?_
  show Pa N 39 12 [(7, .int 2), (0, .ref 30), (1, .ref ya), (2, .int 0), (3, .int 2), (4, .int yx), (5, .int yc), (6, .int 2)] [] (uI (uI (uI (uI (uI yA 30 6 0) 33 0 12) 30 6 1) 33 1 11) 30 6 2) _
  refine Pa.mp 1 (pc' := 14) (l' := [(7, .int 2), (0, .ref 30), (1, .ref ya), (2, .int 0), (3, .int 2), (4, .int yx), (5, .int yc), (6, .int 2)]) (st' := [.int 2]) (by rfl) ?_
  refine Pa.ic (x := 30) (pc' := 16) (by rfl) (by rfl) (by decide) ?_
  refine Pa.if2k true (by rfl) (by rfl) (by decide) ?_
  show Pa N 39 21 [(7, .int 2), (0, .ref 30), (1, .ref ya), (2, .int 0), (3, .int 2), (4, .int yx), (5, .int yc), (6, .int 2)] [] (uI (uI (uI (uI (uI yA 30 6 0) 33 0 12) 30 6 1) 33 1 11) 30 6 2) _
  refine Pa.mp 2 (pc' := 24) (l' := [(7, .int 2), (0, .ref 30), (1, .ref ya), (2, .int 0), (3, .int 2), (4, .int yx), (5, .int yc), (6, .int 2)]) (st' := [.int 2, .int 0]) (by rfl) ?_
  refine Pa.ist (by rfl) (by rfl) (.inl rfl) (by rfl) (by rfl) ?_
  refine Pa.mono (c_bod0_2 N (uI (uI (uI (uI (uI yA 30 6 0) 33 0 12) 30 6 1) 33 1 11) 30 6 2)) (fun yu A1 hu => ?_)
  obtain ⟨rfl, hu⟩ := hu
  rw [hu]
  show Pa N 39 27 [(7, .int 2), (0, .ref 30), (1, .ref ya), (2, .int 0), (3, .int 2), (4, .int yx), (5, .int yc), (6, .int 2)] [.int 30] (uI (uI (uI (uI (uI yA 30 6 0) 33 0 12) 30 6 1) 33 1 11) 30 6 2) _
  refine Pa.mp 2 (pc' := 30) (l' := [(8, .int 30), (7, .int 2), (0, .ref 30), (1, .ref ya), (2, .int 0), (3, .int 2), (4, .int yx), (5, .int yc), (6, .int 2)]) (st' := [.ref 30]) (by rfl) ?_
  refine Pa.gfI (v := 2) (by rfl) (by rfl) (.inl rfl) (by rfl) (by show (uI (uI (uI (uI (uI yA 30 6 0) 33 0 12) 30 6 1) 33 1 11) 30 6 2).1 30 6 = 2; rw [uI_h]) ?_
  refine Pa.ic (x := 24) (pc' := 35) (by rfl) (by rfl) (by decide) ?_
  refine Pa.if2k false (by rfl) (by rfl) (by decide) ?_
  show Pa N 39 38 [(8, .int 30), (7, .int 2), (0, .ref 30), (1, .ref ya), (2, .int 0), (3, .int 2), (4, .int yx), (5, .int yc), (6, .int 2)] [] (uI (uI (uI (uI (uI yA 30 6 0) 33 0 12) 30 6 1) 33 1 11) 30 6 2) _
  refine Pa.mp 1 (pc' := 39) (l' := [(8, .int 30), (7, .int 2), (0, .ref 30), (1, .ref ya), (2, .int 0), (3, .int 2), (4, .int yx), (5, .int yc), (6, .int 2)]) (st' := [.ref 30]) (by rfl) ?_
  refine Pa.gfR (by rfl) (by rfl) (.inl rfl) (by rfl) ?_
  show Pa N 39 42 [(8, .int 30), (7, .int 2), (0, .ref 30), (1, .ref ya), (2, .int 0), (3, .int 2), (4, .int yx), (5, .int yc), (6, .int 2)] [.ref 33] (uI (uI (uI (uI (uI yA 30 6 0) 33 0 12) 30 6 1) 33 1 11) 30 6 2) _
  refine Pa.mp 1 (pc' := 43) (l' := [(8, .int 30), (7, .int 2), (0, .ref 30), (1, .ref ya), (2, .int 0), (3, .int 2), (4, .int yx), (5, .int yc), (6, .int 2)]) (st' := [.ref 30, .ref 33]) (by rfl) ?_
  refine Pa.gfI (v := 2) (by rfl) (by rfl) (.inl rfl) (by rfl) (by show (uI (uI (uI (uI (uI yA 30 6 0) 33 0 12) 30 6 1) 33 1 11) 30 6 2).1 30 6 = 2; rw [uI_h]) ?_
  refine Pa.mp 1 (pc' := 48) (l' := [(8, .int 30), (7, .int 2), (0, .ref 30), (1, .ref ya), (2, .int 0), (3, .int 2), (4, .int yx), (5, .int yc), (6, .int 2)]) (st' := [.int 30, .int 2, .ref 33]) (by rfl) ?_
  refine Pa.asts (j' := 2) (by rfl) (by rfl) (by rfl) (fun h5 h6 => ?_)
  show Pa N 39 49 [(8, .int 30), (7, .int 2), (0, .ref 30), (1, .ref ya), (2, .int 0), (3, .int 2), (4, .int yx), (5, .int yc), (6, .int 2)] [] (uI (uI (uI (uI (uI (uI yA 30 6 0) 33 0 12) 30 6 1) 33 1 11) 30 6 2) 33 2 30) _
  refine Pa.mp 2 (pc' := 51) (l' := [(8, .int 30), (7, .int 2), (0, .ref 30), (1, .ref ya), (2, .int 0), (3, .int 2), (4, .int yx), (5, .int yc), (6, .int 2)]) (st' := [.ref 30, .ref 30]) (by rfl) ?_
  refine Pa.gfI (v := 2) (by rfl) (by rfl) (.inl rfl) (by rfl) (by show (uI (uI (uI (uI (uI (uI yA 30 6 0) 33 0 12) 30 6 1) 33 1 11) 30 6 2) 33 2 30).1 30 6 = 2; rw [uI_c (by decide), uI_h]) ?_
  refine Pa.ic (x := 1) (pc' := 55) (by rfl) (by rfl) (by decide) ?_
  refine Pa.mp 1 (pc' := 56) (l' := [(8, .int 30), (7, .int 2), (0, .ref 30), (1, .ref ya), (2, .int 0), (3, .int 2), (4, .int yx), (5, .int yc), (6, .int 2)]) (st' := [.int 3, .ref 30]) (by rfl) ?_
  refine Pa.pfI (by rfl) (by rfl) (.inl rfl) (by rfl) ?_
  show Pa N 39 59 [(8, .int 30), (7, .int 2), (0, .ref 30), (1, .ref ya), (2, .int 0), (3, .int 2), (4, .int yx), (5, .int yc), (6, .int 2)] [] (uI (uI (uI (uI (uI (uI (uI yA 30 6 0) 33 0 12) 30 6 1) 33 1 11) 30 6 2) 33 2 30) 30 6 3) _
  refine Pa.mp 1 (pc' := 61) (l' := [(8, .int 30), (7, .int 2), (0, .ref 30), (1, .ref ya), (2, .int 0), (3, .int 2), (4, .int yx), (5, .int yc), (6, .int 2)]) (st' := [.int 2]) (by rfl) ?_
  refine Pa.ist (by rfl) (by rfl) (.inl rfl) (by rfl) (by rfl) ?_
  refine Pa.mono (c_abv2 N (uI (uI (uI (uI (uI (uI (uI yA 30 6 0) 33 0 12) 30 6 1) 33 1 11) 30 6 2) 33 2 30) 30 6 3)) (fun yu A1 hu => ?_)
  obtain ⟨rfl, hu⟩ := hu
  rw [hu]
  show Pa N 39 64 [(8, .int 30), (7, .int 2), (0, .ref 30), (1, .ref ya), (2, .int 0), (3, .int 2), (4, .int yx), (5, .int yc), (6, .int 2)] [.int 0] (uI (uI (uI (uI (uI (uI (uI yA 30 6 0) 33 0 12) 30 6 1) 33 1 11) 30 6 2) 33 2 30) 30 6 3) _
  refine Pa.mp 2 (pc' := 68) (l' := [(9, .int 0), (8, .int 30), (7, .int 2), (0, .ref 30), (1, .ref ya), (2, .int 0), (3, .int 2), (4, .int yx), (5, .int yc), (6, .int 2)]) (st' := [.int 2]) (by rfl) ?_
  refine Pa.ic (x := 1) (pc' := 69) (by rfl) (by rfl) (by decide) ?_
  refine Pa.mp 3 (pc' := 74) (l' := [(10, .int 3), (9, .int 0), (8, .int 30), (7, .int 2), (0, .ref 30), (1, .ref ya), (2, .int 0), (3, .int 2), (4, .int yx), (5, .int yc), (6, .int 2)]) (st' := [.int 30]) (by rfl) ?_
  refine Pa.mp 1 (pc' := 229) (l' := [(10, .int 3), (9, .int 0), (8, .int 30), (7, .int 2), (0, .ref 30), (1, .ref ya), (2, .int 0), (3, .int 2), (4, .int yx), (5, .int yc), (6, .int 2)]) (st' := []) (by rfl) ?_
  refine Pa.mp 2 (pc' := 231) (l' := [(10, .int 3), (9, .int 0), (8, .int 30), (7, .int 2), (0, .ref 30), (1, .ref ya), (2, .int 0), (3, .int 2), (4, .int yx), (5, .int yc), (6, .int 2)]) (st' := [.ref ya, .ref 30]) (by rfl) ?_
  refine Pa.ic (x := 0) (pc' := 232) (by rfl) (by rfl) (by decide) ?_
  refine Pa.mp 4 (pc' := 240) (l' := [(10, .int 3), (9, .int 0), (8, .int 30), (7, .int 2), (0, .ref 30), (1, .ref ya), (2, .int 0), (3, .int 2), (4, .int yx), (5, .int yc), (6, .int 2)]) (st' := [.int 3, .int yc, .int yx, .int 0, .int 0, .ref ya, .ref 30]) (by rfl) ?_
  refine Pa.inv (by rfl) (by rfl) (.inl rfl) (by rfl) ?_
  show Pa N 39 0 [(0, .ref 30), (1, .ref ya), (2, .int 0), (3, .int 0), (4, .int yx), (5, .int yc), (6, .int 3)] [] (uI (uI (uI (uI (uI (uI (uI yA 30 6 0) 33 0 12) 30 6 1) 33 1 11) 30 6 2) 33 2 30) 30 6 3) _
  refine Pa.mp 2 (pc' := 2) (l' := [(0, .ref 30), (1, .ref ya), (2, .int 0), (3, .int 0), (4, .int yx), (5, .int yc), (6, .int 3)]) (st' := [.int 0, .int 0]) (by rfl) ?_
  refine Pa.ist (by rfl) (by rfl) (.inl rfl) (by rfl) (by rfl) ?_
  refine Pa.mono (c_kwb0_0 N (uI (uI (uI (uI (uI (uI (uI yA 30 6 0) 33 0 12) 30 6 1) 33 1 11) 30 6 2) 33 2 30) 30 6 3)) (fun yu A1 hu => ?_)
  obtain ⟨rfl, hu⟩ := hu
  rw [hu]
  show Pa N 39 5 [(0, .ref 30), (1, .ref ya), (2, .int 0), (3, .int 0), (4, .int yx), (5, .int yc), (6, .int 3)] [.int 0] (uI (uI (uI (uI (uI (uI (uI yA 30 6 0) 33 0 12) 30 6 1) 33 1 11) 30 6 2) 33 2 30) 30 6 3) _
  refine Pa.mp 2 (pc' := 9) (l' := [(7, .int 0), (0, .ref 30), (1, .ref ya), (2, .int 0), (3, .int 0), (4, .int yx), (5, .int yc), (6, .int 3)]) (st' := [.int 0]) (by rfl) ?_
  refine Pa.if1k false (by rfl) (by rfl) (by decide) ?_
  show Pa N 39 12 [(7, .int 0), (0, .ref 30), (1, .ref ya), (2, .int 0), (3, .int 0), (4, .int yx), (5, .int yc), (6, .int 3)] [] (uI (uI (uI (uI (uI (uI (uI yA 30 6 0) 33 0 12) 30 6 1) 33 1 11) 30 6 2) 33 2 30) 30 6 3) _
  refine Pa.mp 1 (pc' := 14) (l' := [(7, .int 0), (0, .ref 30), (1, .ref ya), (2, .int 0), (3, .int 0), (4, .int yx), (5, .int yc), (6, .int 3)]) (st' := [.int 3]) (by rfl) ?_
  refine Pa.ic (x := 30) (pc' := 16) (by rfl) (by rfl) (by decide) ?_
  refine Pa.if2k true (by rfl) (by rfl) (by decide) ?_
  show Pa N 39 21 [(7, .int 0), (0, .ref 30), (1, .ref ya), (2, .int 0), (3, .int 0), (4, .int yx), (5, .int yc), (6, .int 3)] [] (uI (uI (uI (uI (uI (uI (uI yA 30 6 0) 33 0 12) 30 6 1) 33 1 11) 30 6 2) 33 2 30) 30 6 3) _
  refine Pa.mp 2 (pc' := 24) (l' := [(7, .int 0), (0, .ref 30), (1, .ref ya), (2, .int 0), (3, .int 0), (4, .int yx), (5, .int yc), (6, .int 3)]) (st' := [.int 0, .int 0]) (by rfl) ?_
  refine Pa.ist (by rfl) (by rfl) (.inl rfl) (by rfl) (by rfl) ?_
  refine Pa.mono (c_bod0_0 N (uI (uI (uI (uI (uI (uI (uI yA 30 6 0) 33 0 12) 30 6 1) 33 1 11) 30 6 2) 33 2 30) 30 6 3)) (fun yu A1 hu => ?_)
  obtain ⟨rfl, hu⟩ := hu
  rw [hu]
  show Pa N 39 27 [(7, .int 0), (0, .ref 30), (1, .ref ya), (2, .int 0), (3, .int 0), (4, .int yx), (5, .int yc), (6, .int 3)] [.int 10] (uI (uI (uI (uI (uI (uI (uI yA 30 6 0) 33 0 12) 30 6 1) 33 1 11) 30 6 2) 33 2 30) 30 6 3) _
  refine Pa.mp 2 (pc' := 30) (l' := [(8, .int 10), (7, .int 0), (0, .ref 30), (1, .ref ya), (2, .int 0), (3, .int 0), (4, .int yx), (5, .int yc), (6, .int 3)]) (st' := [.ref 30]) (by rfl) ?_
  refine Pa.gfI (v := 3) (by rfl) (by rfl) (.inl rfl) (by rfl) (by show (uI (uI (uI (uI (uI (uI (uI yA 30 6 0) 33 0 12) 30 6 1) 33 1 11) 30 6 2) 33 2 30) 30 6 3).1 30 6 = 3; rw [uI_h]) ?_
  refine Pa.ic (x := 24) (pc' := 35) (by rfl) (by rfl) (by decide) ?_
  refine Pa.if2k false (by rfl) (by rfl) (by decide) ?_
  show Pa N 39 38 [(8, .int 10), (7, .int 0), (0, .ref 30), (1, .ref ya), (2, .int 0), (3, .int 0), (4, .int yx), (5, .int yc), (6, .int 3)] [] (uI (uI (uI (uI (uI (uI (uI yA 30 6 0) 33 0 12) 30 6 1) 33 1 11) 30 6 2) 33 2 30) 30 6 3) _
  refine Pa.mp 1 (pc' := 39) (l' := [(8, .int 10), (7, .int 0), (0, .ref 30), (1, .ref ya), (2, .int 0), (3, .int 0), (4, .int yx), (5, .int yc), (6, .int 3)]) (st' := [.ref 30]) (by rfl) ?_
  refine Pa.gfR (by rfl) (by rfl) (.inl rfl) (by rfl) ?_
  show Pa N 39 42 [(8, .int 10), (7, .int 0), (0, .ref 30), (1, .ref ya), (2, .int 0), (3, .int 0), (4, .int yx), (5, .int yc), (6, .int 3)] [.ref 33] (uI (uI (uI (uI (uI (uI (uI yA 30 6 0) 33 0 12) 30 6 1) 33 1 11) 30 6 2) 33 2 30) 30 6 3) _
  refine Pa.mp 1 (pc' := 43) (l' := [(8, .int 10), (7, .int 0), (0, .ref 30), (1, .ref ya), (2, .int 0), (3, .int 0), (4, .int yx), (5, .int yc), (6, .int 3)]) (st' := [.ref 30, .ref 33]) (by rfl) ?_
  refine Pa.gfI (v := 3) (by rfl) (by rfl) (.inl rfl) (by rfl) (by show (uI (uI (uI (uI (uI (uI (uI yA 30 6 0) 33 0 12) 30 6 1) 33 1 11) 30 6 2) 33 2 30) 30 6 3).1 30 6 = 3; rw [uI_h]) ?_
  refine Pa.mp 1 (pc' := 48) (l' := [(8, .int 10), (7, .int 0), (0, .ref 30), (1, .ref ya), (2, .int 0), (3, .int 0), (4, .int yx), (5, .int yc), (6, .int 3)]) (st' := [.int 10, .int 3, .ref 33]) (by rfl) ?_
  refine Pa.asts (j' := 3) (by rfl) (by rfl) (by rfl) (fun h7 h8 => ?_)
  show Pa N 39 49 [(8, .int 10), (7, .int 0), (0, .ref 30), (1, .ref ya), (2, .int 0), (3, .int 0), (4, .int yx), (5, .int yc), (6, .int 3)] [] (uI (uI (uI (uI (uI (uI (uI (uI yA 30 6 0) 33 0 12) 30 6 1) 33 1 11) 30 6 2) 33 2 30) 30 6 3) 33 3 10) _
  refine Pa.mp 2 (pc' := 51) (l' := [(8, .int 10), (7, .int 0), (0, .ref 30), (1, .ref ya), (2, .int 0), (3, .int 0), (4, .int yx), (5, .int yc), (6, .int 3)]) (st' := [.ref 30, .ref 30]) (by rfl) ?_
  refine Pa.gfI (v := 3) (by rfl) (by rfl) (.inl rfl) (by rfl) (by show (uI (uI (uI (uI (uI (uI (uI (uI yA 30 6 0) 33 0 12) 30 6 1) 33 1 11) 30 6 2) 33 2 30) 30 6 3) 33 3 10).1 30 6 = 3; rw [uI_c (by decide), uI_h]) ?_
  refine Pa.ic (x := 1) (pc' := 55) (by rfl) (by rfl) (by decide) ?_
  refine Pa.mp 1 (pc' := 56) (l' := [(8, .int 10), (7, .int 0), (0, .ref 30), (1, .ref ya), (2, .int 0), (3, .int 0), (4, .int yx), (5, .int yc), (6, .int 3)]) (st' := [.int 4, .ref 30]) (by rfl) ?_
  refine Pa.pfI (by rfl) (by rfl) (.inl rfl) (by rfl) ?_
  show Pa N 39 59 [(8, .int 10), (7, .int 0), (0, .ref 30), (1, .ref ya), (2, .int 0), (3, .int 0), (4, .int yx), (5, .int yc), (6, .int 3)] [] (uI (uI (uI (uI (uI (uI (uI (uI (uI yA 30 6 0) 33 0 12) 30 6 1) 33 1 11) 30 6 2) 33 2 30) 30 6 3) 33 3 10) 30 6 4) _
  refine Pa.mp 1 (pc' := 61) (l' := [(8, .int 10), (7, .int 0), (0, .ref 30), (1, .ref ya), (2, .int 0), (3, .int 0), (4, .int yx), (5, .int yc), (6, .int 3)]) (st' := [.int 0]) (by rfl) ?_
  refine Pa.ist (by rfl) (by rfl) (.inl rfl) (by rfl) (by rfl) ?_
  refine Pa.mono (c_abv0 N (uI (uI (uI (uI (uI (uI (uI (uI (uI yA 30 6 0) 33 0 12) 30 6 1) 33 1 11) 30 6 2) 33 2 30) 30 6 3) 33 3 10) 30 6 4)) (fun yu A1 hu => ?_)
  obtain ⟨rfl, hu⟩ := hu
  rw [hu]
  show Pa N 39 64 [(8, .int 10), (7, .int 0), (0, .ref 30), (1, .ref ya), (2, .int 0), (3, .int 0), (4, .int yx), (5, .int yc), (6, .int 3)] [.int (-1)] (uI (uI (uI (uI (uI (uI (uI (uI (uI yA 30 6 0) 33 0 12) 30 6 1) 33 1 11) 30 6 2) 33 2 30) 30 6 3) 33 3 10) 30 6 4) _
  refine Pa.mp 2 (pc' := 68) (l' := [(9, .int (-1)), (8, .int 10), (7, .int 0), (0, .ref 30), (1, .ref ya), (2, .int 0), (3, .int 0), (4, .int yx), (5, .int yc), (6, .int 3)]) (st' := [.int 3]) (by rfl) ?_
  refine Pa.ic (x := 1) (pc' := 69) (by rfl) (by rfl) (by decide) ?_
  refine Pa.mp 3 (pc' := 74) (l' := [(10, .int 4), (9, .int (-1)), (8, .int 10), (7, .int 0), (0, .ref 30), (1, .ref ya), (2, .int 0), (3, .int 0), (4, .int yx), (5, .int yc), (6, .int 3)]) (st' := [.int 10]) (by rfl) ?_
  refine Pa.mp 1 (pc' := 164) (l' := [(10, .int 4), (9, .int (-1)), (8, .int 10), (7, .int 0), (0, .ref 30), (1, .ref ya), (2, .int 0), (3, .int 0), (4, .int yx), (5, .int yc), (6, .int 3)]) (st' := []) (by rfl) ?_
  refine Pa.mp 3 (pc' := 169) (l' := [(10, .int 4), (9, .int (-1)), (8, .int 10), (7, .int 0), (0, .ref 30), (1, .ref ya), (2, .int 0), (3, .int 0), (4, .int yx), (5, .int yc), (6, .int 3)]) (st' := [.int (yx + yc)]) (by rfl) ?_
  refine Pa.iret (by rfl) ?_
  show Pa N 39 243 [(10, .int 3), (9, .int 0), (8, .int 30), (7, .int 2), (0, .ref 30), (1, .ref ya), (2, .int 0), (3, .int 2), (4, .int yx), (5, .int yc), (6, .int 2)] [.int (yx + yc)] (uI (uI (uI (uI (uI (uI (uI (uI (uI yA 30 6 0) 33 0 12) 30 6 1) 33 1 11) 30 6 2) 33 2 30) 30 6 3) 33 3 10) 30 6 4) _
  refine Pa.ic (x := 4) (pc' := 244) (by rfl) (by rfl) (by decide) ?_
  refine Pa.mp 1 (pc' := 245) (l' := [(10, .int 3), (9, .int 0), (8, .int 30), (7, .int 2), (0, .ref 30), (1, .ref ya), (2, .int 0), (3, .int 2), (4, .int yx), (5, .int yc), (6, .int 2)]) (st' := [.int ((yx + yc) - 4)]) (by rfl) ?_
  refine Pa.iret (by rfl) ?_
  show Pa N 39 186 [(10, .int 2), (9, .int (-1)), (8, .int 11), (7, .int 0), (0, .ref 30), (1, .ref ya), (2, .int 1), (3, .int 2), (4, .int yx), (5, .int yc), (6, .int 1)] [.int ((yx + yc) - 4)] (uI (uI (uI (uI (uI (uI (uI (uI (uI yA 30 6 0) 33 0 12) 30 6 1) 33 1 11) 30 6 2) 33 2 30) 30 6 3) 33 3 10) 30 6 4) _
  refine Pa.ic (x := 2) (pc' := 187) (by rfl) (by rfl) (by decide) ?_
  refine Pa.mp 1 (pc' := 188) (l' := [(10, .int 2), (9, .int (-1)), (8, .int 11), (7, .int 0), (0, .ref 30), (1, .ref ya), (2, .int 1), (3, .int 2), (4, .int yx), (5, .int yc), (6, .int 1)]) (st' := [.int (((yx + yc) - 4) * 2)]) (by rfl) ?_
  refine Pa.iret (by rfl) ?_
  show Pa N 39 205 [(10, .int 1), (9, .int (-1)), (8, .int 12), (7, .int 0), (0, .ref 30), (1, .ref ya), (2, .int 2), (3, .int 2), (4, .int yx), (5, .int yc), (6, .int 0)] [.int (((yx + yc) - 4) * 2)] (uI (uI (uI (uI (uI (uI (uI (uI (uI yA 30 6 0) 33 0 12) 30 6 1) 33 1 11) 30 6 2) 33 2 30) 30 6 3) 33 3 10) 30 6 4) _
  refine Pa.mp 1 (pc' := 206) (l' := [(10, .int 1), (9, .int (-1)), (8, .int 12), (7, .int 0), (0, .ref 30), (1, .ref ya), (2, .int 2), (3, .int 2), (4, .int yx), (5, .int yc), (6, .int 0)]) (st' := [.ref ya, .int (((yx + yc) - 4) * 2)]) (by rfl) ?_
  refine Pa.gfI (v := yA.1 ya 0) (by rfl) (by rfl) (.inr rfl) (by rfl) (by show (uI (uI (uI (uI (uI (uI (uI (uI (uI yA 30 6 0) 33 0 12) 30 6 1) 33 1 11) 30 6 2) 33 2 30) 30 6 3) 33 3 10) 30 6 4).1 ya 0 = yA.1 ya 0; rw [uI_c (by omega), uI_c (by omega), uI_c (by omega), uI_c (by omega), uI_c (by omega), uI_c (by omega), uI_c (by omega), uI_c (by omega), uI_c (by omega)]) ?_
  refine Pa.mp 1 (pc' := 210) (l' := [(10, .int 1), (9, .int (-1)), (8, .int 12), (7, .int 0), (0, .ref 30), (1, .ref ya), (2, .int 2), (3, .int 2), (4, .int yx), (5, .int yc), (6, .int 0)]) (st' := [.int ((((yx + yc) - 4) * 2) - (yA.1 ya 0))]) (by rfl) ?_
  refine Pa.iret (by rfl) ?_
  exact l1

theorem bpf2_3 {N : Nat} {yA : AW} {yQ : Option Value → AW → Prop} {ya : Nat} (yx yc : Int32) (yha : 129 ≤ ya) (hk : yA.1 ya 1 = 3)
    (l1 : yQ (some (.int (((((yx + yc) - 4) * 2) - (yA.1 ya 0)) + (((1 + yc) - 4) * 2)))) (uI (uI (uI (uI (uI (uI (uI (uI (uI (uI (uI (uI (uI (uI (uI (uI (uI yA 30 6 0) 33 0 40) 30 6 1) 33 1 12) 30 6 2) 33 2 11) 30 6 3) 33 3 30) 30 6 4) 33 4 10) 30 6 5) 33 5 11) 30 6 6) 33 6 30) 30 6 7) 33 7 10) 30 6 8)) :
    Pa N 39 0 [(0, .ref 30), (1, .ref ya), (2, .int 2), (3, .int 3), (4, .int yx), (5, .int yc), (6, .int 0)] [] (uI yA 30 6 0) yQ := by
  refine Pa.mp 2 (pc' := 2) (l' := [(0, .ref 30), (1, .ref ya), (2, .int 2), (3, .int 3), (4, .int yx), (5, .int yc), (6, .int 0)]) (st' := [.int 3, .int 2]) (by rfl) ?_
  refine Pa.ist (by rfl) (by rfl) (.inl rfl) (by rfl) (by rfl) ?_
  refine Pa.mono (c_kwb2_3 N (uI yA 30 6 0)) (fun yu A1 hu => ?_)
  obtain ⟨rfl, hu⟩ := hu
  rw [hu]
  show Pa N 39 5 [(0, .ref 30), (1, .ref ya), (2, .int 2), (3, .int 3), (4, .int yx), (5, .int yc), (6, .int 0)] [.int 3] (uI yA 30 6 0) _
  refine Pa.mp 2 (pc' := 9) (l' := [(7, .int 3), (0, .ref 30), (1, .ref ya), (2, .int 2), (3, .int 3), (4, .int yx), (5, .int yc), (6, .int 0)]) (st' := [.int 3]) (by rfl) ?_
  refine Pa.if1k false (by rfl) (by rfl) (by decide) ?_
  show Pa N 39 12 [(7, .int 3), (0, .ref 30), (1, .ref ya), (2, .int 2), (3, .int 3), (4, .int yx), (5, .int yc), (6, .int 0)] [] (uI yA 30 6 0) _
  refine Pa.mp 1 (pc' := 14) (l' := [(7, .int 3), (0, .ref 30), (1, .ref ya), (2, .int 2), (3, .int 3), (4, .int yx), (5, .int yc), (6, .int 0)]) (st' := [.int 0]) (by rfl) ?_
  refine Pa.ic (x := 30) (pc' := 16) (by rfl) (by rfl) (by decide) ?_
  refine Pa.if2k true (by rfl) (by rfl) (by decide) ?_
  show Pa N 39 21 [(7, .int 3), (0, .ref 30), (1, .ref ya), (2, .int 2), (3, .int 3), (4, .int yx), (5, .int yc), (6, .int 0)] [] (uI yA 30 6 0) _
  refine Pa.mp 2 (pc' := 24) (l' := [(7, .int 3), (0, .ref 30), (1, .ref ya), (2, .int 2), (3, .int 3), (4, .int yx), (5, .int yc), (6, .int 0)]) (st' := [.int 3, .int 2]) (by rfl) ?_
  refine Pa.ist (by rfl) (by rfl) (.inl rfl) (by rfl) (by rfl) ?_
  refine Pa.mono (c_bod2_3 N (uI yA 30 6 0)) (fun yu A1 hu => ?_)
  obtain ⟨rfl, hu⟩ := hu
  rw [hu]
  show Pa N 39 27 [(7, .int 3), (0, .ref 30), (1, .ref ya), (2, .int 2), (3, .int 3), (4, .int yx), (5, .int yc), (6, .int 0)] [.int 40] (uI yA 30 6 0) _
  refine Pa.mp 2 (pc' := 30) (l' := [(8, .int 40), (7, .int 3), (0, .ref 30), (1, .ref ya), (2, .int 2), (3, .int 3), (4, .int yx), (5, .int yc), (6, .int 0)]) (st' := [.ref 30]) (by rfl) ?_
  refine Pa.gfI (v := 0) (by rfl) (by rfl) (.inl rfl) (by rfl) (by show (uI yA 30 6 0).1 30 6 = 0; rw [uI_h]) ?_
  refine Pa.ic (x := 24) (pc' := 35) (by rfl) (by rfl) (by decide) ?_
  refine Pa.if2k false (by rfl) (by rfl) (by decide) ?_
  show Pa N 39 38 [(8, .int 40), (7, .int 3), (0, .ref 30), (1, .ref ya), (2, .int 2), (3, .int 3), (4, .int yx), (5, .int yc), (6, .int 0)] [] (uI yA 30 6 0) _
  refine Pa.mp 1 (pc' := 39) (l' := [(8, .int 40), (7, .int 3), (0, .ref 30), (1, .ref ya), (2, .int 2), (3, .int 3), (4, .int yx), (5, .int yc), (6, .int 0)]) (st' := [.ref 30]) (by rfl) ?_
  refine Pa.gfR (by rfl) (by rfl) (.inl rfl) (by rfl) ?_
  show Pa N 39 42 [(8, .int 40), (7, .int 3), (0, .ref 30), (1, .ref ya), (2, .int 2), (3, .int 3), (4, .int yx), (5, .int yc), (6, .int 0)] [.ref 33] (uI yA 30 6 0) _
  refine Pa.mp 1 (pc' := 43) (l' := [(8, .int 40), (7, .int 3), (0, .ref 30), (1, .ref ya), (2, .int 2), (3, .int 3), (4, .int yx), (5, .int yc), (6, .int 0)]) (st' := [.ref 30, .ref 33]) (by rfl) ?_
  refine Pa.gfI (v := 0) (by rfl) (by rfl) (.inl rfl) (by rfl) (by show (uI yA 30 6 0).1 30 6 = 0; rw [uI_h]) ?_
  refine Pa.mp 1 (pc' := 48) (l' := [(8, .int 40), (7, .int 3), (0, .ref 30), (1, .ref ya), (2, .int 2), (3, .int 3), (4, .int yx), (5, .int yc), (6, .int 0)]) (st' := [.int 40, .int 0, .ref 33]) (by rfl) ?_
  refine Pa.asts (j' := 0) (by rfl) (by rfl) (by rfl) (fun h1 h2 => ?_)
  show Pa N 39 49 [(8, .int 40), (7, .int 3), (0, .ref 30), (1, .ref ya), (2, .int 2), (3, .int 3), (4, .int yx), (5, .int yc), (6, .int 0)] [] (uI (uI yA 30 6 0) 33 0 40) _
  refine Pa.mp 2 (pc' := 51) (l' := [(8, .int 40), (7, .int 3), (0, .ref 30), (1, .ref ya), (2, .int 2), (3, .int 3), (4, .int yx), (5, .int yc), (6, .int 0)]) (st' := [.ref 30, .ref 30]) (by rfl) ?_
  refine Pa.gfI (v := 0) (by rfl) (by rfl) (.inl rfl) (by rfl) (by show (uI (uI yA 30 6 0) 33 0 40).1 30 6 = 0; rw [uI_c (by decide), uI_h]) ?_
  refine Pa.ic (x := 1) (pc' := 55) (by rfl) (by rfl) (by decide) ?_
  refine Pa.mp 1 (pc' := 56) (l' := [(8, .int 40), (7, .int 3), (0, .ref 30), (1, .ref ya), (2, .int 2), (3, .int 3), (4, .int yx), (5, .int yc), (6, .int 0)]) (st' := [.int 1, .ref 30]) (by rfl) ?_
  refine Pa.pfI (by rfl) (by rfl) (.inl rfl) (by rfl) ?_
  show Pa N 39 59 [(8, .int 40), (7, .int 3), (0, .ref 30), (1, .ref ya), (2, .int 2), (3, .int 3), (4, .int yx), (5, .int yc), (6, .int 0)] [] (uI (uI (uI yA 30 6 0) 33 0 40) 30 6 1) _
  refine Pa.mp 1 (pc' := 61) (l' := [(8, .int 40), (7, .int 3), (0, .ref 30), (1, .ref ya), (2, .int 2), (3, .int 3), (4, .int yx), (5, .int yc), (6, .int 0)]) (st' := [.int 3]) (by rfl) ?_
  refine Pa.ist (by rfl) (by rfl) (.inl rfl) (by rfl) (by rfl) ?_
  refine Pa.mono (c_abv3 N (uI (uI (uI yA 30 6 0) 33 0 40) 30 6 1)) (fun yu A1 hu => ?_)
  obtain ⟨rfl, hu⟩ := hu
  rw [hu]
  show Pa N 39 64 [(8, .int 40), (7, .int 3), (0, .ref 30), (1, .ref ya), (2, .int 2), (3, .int 3), (4, .int yx), (5, .int yc), (6, .int 0)] [.int 2] (uI (uI (uI yA 30 6 0) 33 0 40) 30 6 1) _
  refine Pa.mp 2 (pc' := 68) (l' := [(9, .int 2), (8, .int 40), (7, .int 3), (0, .ref 30), (1, .ref ya), (2, .int 2), (3, .int 3), (4, .int yx), (5, .int yc), (6, .int 0)]) (st' := [.int 0]) (by rfl) ?_
  refine Pa.ic (x := 1) (pc' := 69) (by rfl) (by rfl) (by decide) ?_
  refine Pa.mp 3 (pc' := 74) (l' := [(10, .int 1), (9, .int 2), (8, .int 40), (7, .int 3), (0, .ref 30), (1, .ref ya), (2, .int 2), (3, .int 3), (4, .int yx), (5, .int yc), (6, .int 0)]) (st' := [.int 40]) (by rfl) ?_
  refine Pa.mp 1 (pc' := 246) (l' := [(10, .int 1), (9, .int 2), (8, .int 40), (7, .int 3), (0, .ref 30), (1, .ref ya), (2, .int 2), (3, .int 3), (4, .int yx), (5, .int yc), (6, .int 0)]) (st' := []) (by rfl) ?_
  refine Pa.mp 2 (pc' := 248) (l' := [(10, .int 1), (9, .int 2), (8, .int 40), (7, .int 3), (0, .ref 30), (1, .ref ya), (2, .int 2), (3, .int 3), (4, .int yx), (5, .int yc), (6, .int 0)]) (st' := [.ref ya, .ref 30]) (by rfl) ?_
  refine Pa.ic (x := 2) (pc' := 249) (by rfl) (by rfl) (by decide) ?_
  refine Pa.mp 4 (pc' := 257) (l' := [(10, .int 1), (9, .int 2), (8, .int 40), (7, .int 3), (0, .ref 30), (1, .ref ya), (2, .int 2), (3, .int 3), (4, .int yx), (5, .int yc), (6, .int 0)]) (st' := [.int 1, .int yc, .int yx, .int 2, .int 2, .ref ya, .ref 30]) (by rfl) ?_
  refine Pa.inv (by rfl) (by rfl) (.inl rfl) (by rfl) ?_
  show Pa N 39 0 [(0, .ref 30), (1, .ref ya), (2, .int 2), (3, .int 2), (4, .int yx), (5, .int yc), (6, .int 1)] [] (uI (uI (uI yA 30 6 0) 33 0 40) 30 6 1) _
  refine Pa.mp 2 (pc' := 2) (l' := [(0, .ref 30), (1, .ref ya), (2, .int 2), (3, .int 2), (4, .int yx), (5, .int yc), (6, .int 1)]) (st' := [.int 2, .int 2]) (by rfl) ?_
  refine Pa.ist (by rfl) (by rfl) (.inl rfl) (by rfl) (by rfl) ?_
  refine Pa.mono (c_kwb2_2 N (uI (uI (uI yA 30 6 0) 33 0 40) 30 6 1)) (fun yu A1 hu => ?_)
  obtain ⟨rfl, hu⟩ := hu
  rw [hu]
  show Pa N 39 5 [(0, .ref 30), (1, .ref ya), (2, .int 2), (3, .int 2), (4, .int yx), (5, .int yc), (6, .int 1)] [.int 0] (uI (uI (uI yA 30 6 0) 33 0 40) 30 6 1) _
  refine Pa.mp 2 (pc' := 9) (l' := [(7, .int 0), (0, .ref 30), (1, .ref ya), (2, .int 2), (3, .int 2), (4, .int yx), (5, .int yc), (6, .int 1)]) (st' := [.int 0]) (by rfl) ?_
  refine Pa.if1k false (by rfl) (by rfl) (by decide) ?_
  show Pa N 39 12 [(7, .int 0), (0, .ref 30), (1, .ref ya), (2, .int 2), (3, .int 2), (4, .int yx), (5, .int yc), (6, .int 1)] [] (uI (uI (uI yA 30 6 0) 33 0 40) 30 6 1) _
  refine Pa.mp 1 (pc' := 14) (l' := [(7, .int 0), (0, .ref 30), (1, .ref ya), (2, .int 2), (3, .int 2), (4, .int yx), (5, .int yc), (6, .int 1)]) (st' := [.int 1]) (by rfl) ?_
  refine Pa.ic (x := 30) (pc' := 16) (by rfl) (by rfl) (by decide) ?_
  refine Pa.if2k true (by rfl) (by rfl) (by decide) ?_
  show Pa N 39 21 [(7, .int 0), (0, .ref 30), (1, .ref ya), (2, .int 2), (3, .int 2), (4, .int yx), (5, .int yc), (6, .int 1)] [] (uI (uI (uI yA 30 6 0) 33 0 40) 30 6 1) _
  refine Pa.mp 2 (pc' := 24) (l' := [(7, .int 0), (0, .ref 30), (1, .ref ya), (2, .int 2), (3, .int 2), (4, .int yx), (5, .int yc), (6, .int 1)]) (st' := [.int 0, .int 2]) (by rfl) ?_
  refine Pa.ist (by rfl) (by rfl) (.inl rfl) (by rfl) (by rfl) ?_
  refine Pa.mono (c_bod2_0 N (uI (uI (uI yA 30 6 0) 33 0 40) 30 6 1)) (fun yu A1 hu => ?_)
  obtain ⟨rfl, hu⟩ := hu
  rw [hu]
  show Pa N 39 27 [(7, .int 0), (0, .ref 30), (1, .ref ya), (2, .int 2), (3, .int 2), (4, .int yx), (5, .int yc), (6, .int 1)] [.int 12] (uI (uI (uI yA 30 6 0) 33 0 40) 30 6 1) _
  refine Pa.mp 2 (pc' := 30) (l' := [(8, .int 12), (7, .int 0), (0, .ref 30), (1, .ref ya), (2, .int 2), (3, .int 2), (4, .int yx), (5, .int yc), (6, .int 1)]) (st' := [.ref 30]) (by rfl) ?_
  refine Pa.gfI (v := 1) (by rfl) (by rfl) (.inl rfl) (by rfl) (by show (uI (uI (uI yA 30 6 0) 33 0 40) 30 6 1).1 30 6 = 1; rw [uI_h]) ?_
  refine Pa.ic (x := 24) (pc' := 35) (by rfl) (by rfl) (by decide) ?_
  refine Pa.if2k false (by rfl) (by rfl) (by decide) ?_
  show Pa N 39 38 [(8, .int 12), (7, .int 0), (0, .ref 30), (1, .ref ya), (2, .int 2), (3, .int 2), (4, .int yx), (5, .int yc), (6, .int 1)] [] (uI (uI (uI yA 30 6 0) 33 0 40) 30 6 1) _
  refine Pa.mp 1 (pc' := 39) (l' := [(8, .int 12), (7, .int 0), (0, .ref 30), (1, .ref ya), (2, .int 2), (3, .int 2), (4, .int yx), (5, .int yc), (6, .int 1)]) (st' := [.ref 30]) (by rfl) ?_
  refine Pa.gfR (by rfl) (by rfl) (.inl rfl) (by rfl) ?_
  show Pa N 39 42 [(8, .int 12), (7, .int 0), (0, .ref 30), (1, .ref ya), (2, .int 2), (3, .int 2), (4, .int yx), (5, .int yc), (6, .int 1)] [.ref 33] (uI (uI (uI yA 30 6 0) 33 0 40) 30 6 1) _
  refine Pa.mp 1 (pc' := 43) (l' := [(8, .int 12), (7, .int 0), (0, .ref 30), (1, .ref ya), (2, .int 2), (3, .int 2), (4, .int yx), (5, .int yc), (6, .int 1)]) (st' := [.ref 30, .ref 33]) (by rfl) ?_
  refine Pa.gfI (v := 1) (by rfl) (by rfl) (.inl rfl) (by rfl) (by show (uI (uI (uI yA 30 6 0) 33 0 40) 30 6 1).1 30 6 = 1; rw [uI_h]) ?_
  refine Pa.mp 1 (pc' := 48) (l' := [(8, .int 12), (7, .int 0), (0, .ref 30), (1, .ref ya), (2, .int 2), (3, .int 2), (4, .int yx), (5, .int yc), (6, .int 1)]) (st' := [.int 12, .int 1, .ref 33]) (by rfl) ?_
  refine Pa.asts (j' := 1) (by rfl) (by rfl) (by rfl) (fun h3 h4 => ?_)
  show Pa N 39 49 [(8, .int 12), (7, .int 0), (0, .ref 30), (1, .ref ya), (2, .int 2), (3, .int 2), (4, .int yx), (5, .int yc), (6, .int 1)] [] (uI (uI (uI (uI yA 30 6 0) 33 0 40) 30 6 1) 33 1 12) _
  refine Pa.mp 2 (pc' := 51) (l' := [(8, .int 12), (7, .int 0), (0, .ref 30), (1, .ref ya), (2, .int 2), (3, .int 2), (4, .int yx), (5, .int yc), (6, .int 1)]) (st' := [.ref 30, .ref 30]) (by rfl) ?_
  refine Pa.gfI (v := 1) (by rfl) (by rfl) (.inl rfl) (by rfl) (by show (uI (uI (uI (uI yA 30 6 0) 33 0 40) 30 6 1) 33 1 12).1 30 6 = 1; rw [uI_c (by decide), uI_h]) ?_
  refine Pa.ic (x := 1) (pc' := 55) (by rfl) (by rfl) (by decide) ?_
  refine Pa.mp 1 (pc' := 56) (l' := [(8, .int 12), (7, .int 0), (0, .ref 30), (1, .ref ya), (2, .int 2), (3, .int 2), (4, .int yx), (5, .int yc), (6, .int 1)]) (st' := [.int 2, .ref 30]) (by rfl) ?_
  refine Pa.pfI (by rfl) (by rfl) (.inl rfl) (by rfl) ?_
  show Pa N 39 59 [(8, .int 12), (7, .int 0), (0, .ref 30), (1, .ref ya), (2, .int 2), (3, .int 2), (4, .int yx), (5, .int yc), (6, .int 1)] [] (uI (uI (uI (uI (uI yA 30 6 0) 33 0 40) 30 6 1) 33 1 12) 30 6 2) _
  refine Pa.mp 1 (pc' := 61) (l' := [(8, .int 12), (7, .int 0), (0, .ref 30), (1, .ref ya), (2, .int 2), (3, .int 2), (4, .int yx), (5, .int yc), (6, .int 1)]) (st' := [.int 0]) (by rfl) ?_
  refine Pa.ist (by rfl) (by rfl) (.inl rfl) (by rfl) (by rfl) ?_
  refine Pa.mono (c_abv0 N (uI (uI (uI (uI (uI yA 30 6 0) 33 0 40) 30 6 1) 33 1 12) 30 6 2)) (fun yu A1 hu => ?_)
  obtain ⟨rfl, hu⟩ := hu
  rw [hu]
  show Pa N 39 64 [(8, .int 12), (7, .int 0), (0, .ref 30), (1, .ref ya), (2, .int 2), (3, .int 2), (4, .int yx), (5, .int yc), (6, .int 1)] [.int (-1)] (uI (uI (uI (uI (uI yA 30 6 0) 33 0 40) 30 6 1) 33 1 12) 30 6 2) _
  refine Pa.mp 2 (pc' := 68) (l' := [(9, .int (-1)), (8, .int 12), (7, .int 0), (0, .ref 30), (1, .ref ya), (2, .int 2), (3, .int 2), (4, .int yx), (5, .int yc), (6, .int 1)]) (st' := [.int 1]) (by rfl) ?_
  refine Pa.ic (x := 1) (pc' := 69) (by rfl) (by rfl) (by decide) ?_
  refine Pa.mp 3 (pc' := 74) (l' := [(10, .int 2), (9, .int (-1)), (8, .int 12), (7, .int 0), (0, .ref 30), (1, .ref ya), (2, .int 2), (3, .int 2), (4, .int yx), (5, .int yc), (6, .int 1)]) (st' := [.int 12]) (by rfl) ?_
  refine Pa.mp 1 (pc' := 189) (l' := [(10, .int 2), (9, .int (-1)), (8, .int 12), (7, .int 0), (0, .ref 30), (1, .ref ya), (2, .int 2), (3, .int 2), (4, .int yx), (5, .int yc), (6, .int 1)]) (st' := []) (by rfl) ?_
  refine Pa.mp 2 (pc' := 191) (l' := [(10, .int 2), (9, .int (-1)), (8, .int 12), (7, .int 0), (0, .ref 30), (1, .ref ya), (2, .int 2), (3, .int 2), (4, .int yx), (5, .int yc), (6, .int 1)]) (st' := [.ref ya, .ref 30]) (by rfl) ?_
  refine Pa.ic (x := 1) (pc' := 192) (by rfl) (by rfl) (by decide) ?_
  refine Pa.mp 1 (pc' := 193) (l' := [(10, .int 2), (9, .int (-1)), (8, .int 12), (7, .int 0), (0, .ref 30), (1, .ref ya), (2, .int 2), (3, .int 2), (4, .int yx), (5, .int yc), (6, .int 1)]) (st' := [.ref ya, .int 1, .ref ya, .ref 30]) (by rfl) ?_
  refine Pa.gfI (v := 3) (by rfl) (by rfl) (.inr rfl) (by rfl) (by show (uI (uI (uI (uI (uI yA 30 6 0) 33 0 40) 30 6 1) 33 1 12) 30 6 2).1 ya 1 = 3; rw [uI_c (by omega), uI_c (by omega), uI_c (by omega), uI_c (by omega), uI_c (by omega), hk]) ?_
  refine Pa.mp 3 (pc' := 202) (l' := [(10, .int 2), (9, .int (-1)), (8, .int 12), (7, .int 0), (0, .ref 30), (1, .ref ya), (2, .int 2), (3, .int 2), (4, .int yx), (5, .int yc), (6, .int 1)]) (st' := [.int 2, .int yc, .int yx, .int 3, .int 1, .ref ya, .ref 30]) (by rfl) ?_
  refine Pa.inv (by rfl) (by rfl) (.inl rfl) (by rfl) ?_
  show Pa N 39 0 [(0, .ref 30), (1, .ref ya), (2, .int 1), (3, .int 3), (4, .int yx), (5, .int yc), (6, .int 2)] [] (uI (uI (uI (uI (uI yA 30 6 0) 33 0 40) 30 6 1) 33 1 12) 30 6 2) _
  refine Pa.mp 2 (pc' := 2) (l' := [(0, .ref 30), (1, .ref ya), (2, .int 1), (3, .int 3), (4, .int yx), (5, .int yc), (6, .int 2)]) (st' := [.int 3, .int 1]) (by rfl) ?_
  refine Pa.ist (by rfl) (by rfl) (.inl rfl) (by rfl) (by rfl) ?_
  refine Pa.mono (c_kwb1_3 N (uI (uI (uI (uI (uI yA 30 6 0) 33 0 40) 30 6 1) 33 1 12) 30 6 2)) (fun yu A1 hu => ?_)
  obtain ⟨rfl, hu⟩ := hu
  rw [hu]
  show Pa N 39 5 [(0, .ref 30), (1, .ref ya), (2, .int 1), (3, .int 3), (4, .int yx), (5, .int yc), (6, .int 2)] [.int 0] (uI (uI (uI (uI (uI yA 30 6 0) 33 0 40) 30 6 1) 33 1 12) 30 6 2) _
  refine Pa.mp 2 (pc' := 9) (l' := [(7, .int 0), (0, .ref 30), (1, .ref ya), (2, .int 1), (3, .int 3), (4, .int yx), (5, .int yc), (6, .int 2)]) (st' := [.int 0]) (by rfl) ?_
  refine Pa.if1k false (by rfl) (by rfl) (by decide) ?_
  show Pa N 39 12 [(7, .int 0), (0, .ref 30), (1, .ref ya), (2, .int 1), (3, .int 3), (4, .int yx), (5, .int yc), (6, .int 2)] [] (uI (uI (uI (uI (uI yA 30 6 0) 33 0 40) 30 6 1) 33 1 12) 30 6 2) _
  refine Pa.mp 1 (pc' := 14) (l' := [(7, .int 0), (0, .ref 30), (1, .ref ya), (2, .int 1), (3, .int 3), (4, .int yx), (5, .int yc), (6, .int 2)]) (st' := [.int 2]) (by rfl) ?_
  refine Pa.ic (x := 30) (pc' := 16) (by rfl) (by rfl) (by decide) ?_
  refine Pa.if2k true (by rfl) (by rfl) (by decide) ?_
  show Pa N 39 21 [(7, .int 0), (0, .ref 30), (1, .ref ya), (2, .int 1), (3, .int 3), (4, .int yx), (5, .int yc), (6, .int 2)] [] (uI (uI (uI (uI (uI yA 30 6 0) 33 0 40) 30 6 1) 33 1 12) 30 6 2) _
  refine Pa.mp 2 (pc' := 24) (l' := [(7, .int 0), (0, .ref 30), (1, .ref ya), (2, .int 1), (3, .int 3), (4, .int yx), (5, .int yc), (6, .int 2)]) (st' := [.int 0, .int 1]) (by rfl) ?_
  refine Pa.ist (by rfl) (by rfl) (.inl rfl) (by rfl) (by rfl) ?_
  refine Pa.mono (c_bod1_0 N (uI (uI (uI (uI (uI yA 30 6 0) 33 0 40) 30 6 1) 33 1 12) 30 6 2)) (fun yu A1 hu => ?_)
  obtain ⟨rfl, hu⟩ := hu
  rw [hu]
  show Pa N 39 27 [(7, .int 0), (0, .ref 30), (1, .ref ya), (2, .int 1), (3, .int 3), (4, .int yx), (5, .int yc), (6, .int 2)] [.int 11] (uI (uI (uI (uI (uI yA 30 6 0) 33 0 40) 30 6 1) 33 1 12) 30 6 2) _
  refine Pa.mp 2 (pc' := 30) (l' := [(8, .int 11), (7, .int 0), (0, .ref 30), (1, .ref ya), (2, .int 1), (3, .int 3), (4, .int yx), (5, .int yc), (6, .int 2)]) (st' := [.ref 30]) (by rfl) ?_
  refine Pa.gfI (v := 2) (by rfl) (by rfl) (.inl rfl) (by rfl) (by show (uI (uI (uI (uI (uI yA 30 6 0) 33 0 40) 30 6 1) 33 1 12) 30 6 2).1 30 6 = 2; rw [uI_h]) ?_
  refine Pa.ic (x := 24) (pc' := 35) (by rfl) (by rfl) (by decide) ?_
  refine Pa.if2k false (by rfl) (by rfl) (by decide) ?_
  show Pa N 39 38 [(8, .int 11), (7, .int 0), (0, .ref 30), (1, .ref ya), (2, .int 1), (3, .int 3), (4, .int yx), (5, .int yc), (6, .int 2)] [] (uI (uI (uI (uI (uI yA 30 6 0) 33 0 40) 30 6 1) 33 1 12) 30 6 2) _
  refine Pa.mp 1 (pc' := 39) (l' := [(8, .int 11), (7, .int 0), (0, .ref 30), (1, .ref ya), (2, .int 1), (3, .int 3), (4, .int yx), (5, .int yc), (6, .int 2)]) (st' := [.ref 30]) (by rfl) ?_
  refine Pa.gfR (by rfl) (by rfl) (.inl rfl) (by rfl) ?_
  show Pa N 39 42 [(8, .int 11), (7, .int 0), (0, .ref 30), (1, .ref ya), (2, .int 1), (3, .int 3), (4, .int yx), (5, .int yc), (6, .int 2)] [.ref 33] (uI (uI (uI (uI (uI yA 30 6 0) 33 0 40) 30 6 1) 33 1 12) 30 6 2) _
  refine Pa.mp 1 (pc' := 43) (l' := [(8, .int 11), (7, .int 0), (0, .ref 30), (1, .ref ya), (2, .int 1), (3, .int 3), (4, .int yx), (5, .int yc), (6, .int 2)]) (st' := [.ref 30, .ref 33]) (by rfl) ?_
  refine Pa.gfI (v := 2) (by rfl) (by rfl) (.inl rfl) (by rfl) (by show (uI (uI (uI (uI (uI yA 30 6 0) 33 0 40) 30 6 1) 33 1 12) 30 6 2).1 30 6 = 2; rw [uI_h]) ?_
  refine Pa.mp 1 (pc' := 48) (l' := [(8, .int 11), (7, .int 0), (0, .ref 30), (1, .ref ya), (2, .int 1), (3, .int 3), (4, .int yx), (5, .int yc), (6, .int 2)]) (st' := [.int 11, .int 2, .ref 33]) (by rfl) ?_
  refine Pa.asts (j' := 2) (by rfl) (by rfl) (by rfl) (fun h5 h6 => ?_)
  show Pa N 39 49 [(8, .int 11), (7, .int 0), (0, .ref 30), (1, .ref ya), (2, .int 1), (3, .int 3), (4, .int yx), (5, .int yc), (6, .int 2)] [] (uI (uI (uI (uI (uI (uI yA 30 6 0) 33 0 40) 30 6 1) 33 1 12) 30 6 2) 33 2 11) _
  refine Pa.mp 2 (pc' := 51) (l' := [(8, .int 11), (7, .int 0), (0, .ref 30), (1, .ref ya), (2, .int 1), (3, .int 3), (4, .int yx), (5, .int yc), (6, .int 2)]) (st' := [.ref 30, .ref 30]) (by rfl) ?_
  refine Pa.gfI (v := 2) (by rfl) (by rfl) (.inl rfl) (by rfl) (by show (uI (uI (uI (uI (uI (uI yA 30 6 0) 33 0 40) 30 6 1) 33 1 12) 30 6 2) 33 2 11).1 30 6 = 2; rw [uI_c (by decide), uI_h]) ?_
  refine Pa.ic (x := 1) (pc' := 55) (by rfl) (by rfl) (by decide) ?_
  refine Pa.mp 1 (pc' := 56) (l' := [(8, .int 11), (7, .int 0), (0, .ref 30), (1, .ref ya), (2, .int 1), (3, .int 3), (4, .int yx), (5, .int yc), (6, .int 2)]) (st' := [.int 3, .ref 30]) (by rfl) ?_
  refine Pa.pfI (by rfl) (by rfl) (.inl rfl) (by rfl) ?_
  show Pa N 39 59 [(8, .int 11), (7, .int 0), (0, .ref 30), (1, .ref ya), (2, .int 1), (3, .int 3), (4, .int yx), (5, .int yc), (6, .int 2)] [] (uI (uI (uI (uI (uI (uI (uI yA 30 6 0) 33 0 40) 30 6 1) 33 1 12) 30 6 2) 33 2 11) 30 6 3) _
  refine Pa.mp 1 (pc' := 61) (l' := [(8, .int 11), (7, .int 0), (0, .ref 30), (1, .ref ya), (2, .int 1), (3, .int 3), (4, .int yx), (5, .int yc), (6, .int 2)]) (st' := [.int 0]) (by rfl) ?_
  refine Pa.ist (by rfl) (by rfl) (.inl rfl) (by rfl) (by rfl) ?_
  refine Pa.mono (c_abv0 N (uI (uI (uI (uI (uI (uI (uI yA 30 6 0) 33 0 40) 30 6 1) 33 1 12) 30 6 2) 33 2 11) 30 6 3)) (fun yu A1 hu => ?_)
  obtain ⟨rfl, hu⟩ := hu
  rw [hu]
  show Pa N 39 64 [(8, .int 11), (7, .int 0), (0, .ref 30), (1, .ref ya), (2, .int 1), (3, .int 3), (4, .int yx), (5, .int yc), (6, .int 2)] [.int (-1)] (uI (uI (uI (uI (uI (uI (uI yA 30 6 0) 33 0 40) 30 6 1) 33 1 12) 30 6 2) 33 2 11) 30 6 3) _
  refine Pa.mp 2 (pc' := 68) (l' := [(9, .int (-1)), (8, .int 11), (7, .int 0), (0, .ref 30), (1, .ref ya), (2, .int 1), (3, .int 3), (4, .int yx), (5, .int yc), (6, .int 2)]) (st' := [.int 2]) (by rfl) ?_
  refine Pa.ic (x := 1) (pc' := 69) (by rfl) (by rfl) (by decide) ?_
  refine Pa.mp 3 (pc' := 74) (l' := [(10, .int 3), (9, .int (-1)), (8, .int 11), (7, .int 0), (0, .ref 30), (1, .ref ya), (2, .int 1), (3, .int 3), (4, .int yx), (5, .int yc), (6, .int 2)]) (st' := [.int 11]) (by rfl) ?_
  refine Pa.mp 1 (pc' := 170) (l' := [(10, .int 3), (9, .int (-1)), (8, .int 11), (7, .int 0), (0, .ref 30), (1, .ref ya), (2, .int 1), (3, .int 3), (4, .int yx), (5, .int yc), (6, .int 2)]) (st' := []) (by rfl) ?_
  refine Pa.mp 2 (pc' := 172) (l' := [(10, .int 3), (9, .int (-1)), (8, .int 11), (7, .int 0), (0, .ref 30), (1, .ref ya), (2, .int 1), (3, .int 3), (4, .int yx), (5, .int yc), (6, .int 2)]) (st' := [.ref ya, .ref 30]) (by rfl) ?_
  refine Pa.ic (x := 0) (pc' := 173) (by rfl) (by rfl) (by decide) ?_
  refine Pa.mp 1 (pc' := 174) (l' := [(10, .int 3), (9, .int (-1)), (8, .int 11), (7, .int 0), (0, .ref 30), (1, .ref ya), (2, .int 1), (3, .int 3), (4, .int yx), (5, .int yc), (6, .int 2)]) (st' := [.ref ya, .int 0, .ref ya, .ref 30]) (by rfl) ?_
  refine Pa.gfI (v := 3) (by rfl) (by rfl) (.inr rfl) (by rfl) (by show (uI (uI (uI (uI (uI (uI (uI yA 30 6 0) 33 0 40) 30 6 1) 33 1 12) 30 6 2) 33 2 11) 30 6 3).1 ya 1 = 3; rw [uI_c (by omega), uI_c (by omega), uI_c (by omega), uI_c (by omega), uI_c (by omega), uI_c (by omega), uI_c (by omega), hk]) ?_
  refine Pa.mp 3 (pc' := 183) (l' := [(10, .int 3), (9, .int (-1)), (8, .int 11), (7, .int 0), (0, .ref 30), (1, .ref ya), (2, .int 1), (3, .int 3), (4, .int yx), (5, .int yc), (6, .int 2)]) (st' := [.int 3, .int yc, .int yx, .int 3, .int 0, .ref ya, .ref 30]) (by rfl) ?_
  refine Pa.inv (by rfl) (by rfl) (.inl rfl) (by rfl) ?_
  show Pa N 39 0 [(0, .ref 30), (1, .ref ya), (2, .int 0), (3, .int 3), (4, .int yx), (5, .int yc), (6, .int 3)] [] (uI (uI (uI (uI (uI (uI (uI yA 30 6 0) 33 0 40) 30 6 1) 33 1 12) 30 6 2) 33 2 11) 30 6 3) _
  refine Pa.mp 2 (pc' := 2) (l' := [(0, .ref 30), (1, .ref ya), (2, .int 0), (3, .int 3), (4, .int yx), (5, .int yc), (6, .int 3)]) (st' := [.int 3, .int 0]) (by rfl) ?_
  refine Pa.ist (by rfl) (by rfl) (.inl rfl) (by rfl) (by rfl) ?_
  refine Pa.mono (c_kwb0_3 N (uI (uI (uI (uI (uI (uI (uI yA 30 6 0) 33 0 40) 30 6 1) 33 1 12) 30 6 2) 33 2 11) 30 6 3)) (fun yu A1 hu => ?_)
  obtain ⟨rfl, hu⟩ := hu
  rw [hu]
  show Pa N 39 5 [(0, .ref 30), (1, .ref ya), (2, .int 0), (3, .int 3), (4, .int yx), (5, .int yc), (6, .int 3)] [.int 2] (uI (uI (uI (uI (uI (uI (uI yA 30 6 0) 33 0 40) 30 6 1) 33 1 12) 30 6 2) 33 2 11) 30 6 3) _
  refine Pa.mp 2 (pc' := 9) (l' := [(7, .int 2), (0, .ref 30), (1, .ref ya), (2, .int 0), (3, .int 3), (4, .int yx), (5, .int yc), (6, .int 3)]) (st' := [.int 2]) (by rfl) ?_
  refine Pa.if1k false (by rfl) (by rfl) (by decide) ?_
  show Pa N 39 12 [(7, .int 2), (0, .ref 30), (1, .ref ya), (2, .int 0), (3, .int 3), (4, .int yx), (5, .int yc), (6, .int 3)] [] (uI (uI (uI (uI (uI (uI (uI yA 30 6 0) 33 0 40) 30 6 1) 33 1 12) 30 6 2) 33 2 11) 30 6 3) _
  refine Pa.mp 1 (pc' := 14) (l' := [(7, .int 2), (0, .ref 30), (1, .ref ya), (2, .int 0), (3, .int 3), (4, .int yx), (5, .int yc), (6, .int 3)]) (st' := [.int 3]) (by rfl) ?_
  refine Pa.ic (x := 30) (pc' := 16) (by rfl) (by rfl) (by decide) ?_
  refine Pa.if2k true (by rfl) (by rfl) (by decide) ?_
  show Pa N 39 21 [(7, .int 2), (0, .ref 30), (1, .ref ya), (2, .int 0), (3, .int 3), (4, .int yx), (5, .int yc), (6, .int 3)] [] (uI (uI (uI (uI (uI (uI (uI yA 30 6 0) 33 0 40) 30 6 1) 33 1 12) 30 6 2) 33 2 11) 30 6 3) _
  refine Pa.mp 2 (pc' := 24) (l' := [(7, .int 2), (0, .ref 30), (1, .ref ya), (2, .int 0), (3, .int 3), (4, .int yx), (5, .int yc), (6, .int 3)]) (st' := [.int 2, .int 0]) (by rfl) ?_
  refine Pa.ist (by rfl) (by rfl) (.inl rfl) (by rfl) (by rfl) ?_
  refine Pa.mono (c_bod0_2 N (uI (uI (uI (uI (uI (uI (uI yA 30 6 0) 33 0 40) 30 6 1) 33 1 12) 30 6 2) 33 2 11) 30 6 3)) (fun yu A1 hu => ?_)
  obtain ⟨rfl, hu⟩ := hu
  rw [hu]
  show Pa N 39 27 [(7, .int 2), (0, .ref 30), (1, .ref ya), (2, .int 0), (3, .int 3), (4, .int yx), (5, .int yc), (6, .int 3)] [.int 30] (uI (uI (uI (uI (uI (uI (uI yA 30 6 0) 33 0 40) 30 6 1) 33 1 12) 30 6 2) 33 2 11) 30 6 3) _
  refine Pa.mp 2 (pc' := 30) (l' := [(8, .int 30), (7, .int 2), (0, .ref 30), (1, .ref ya), (2, .int 0), (3, .int 3), (4, .int yx), (5, .int yc), (6, .int 3)]) (st' := [.ref 30]) (by rfl) ?_
  refine Pa.gfI (v := 3) (by rfl) (by rfl) (.inl rfl) (by rfl) (by show (uI (uI (uI (uI (uI (uI (uI yA 30 6 0) 33 0 40) 30 6 1) 33 1 12) 30 6 2) 33 2 11) 30 6 3).1 30 6 = 3; rw [uI_h]) ?_
  refine Pa.ic (x := 24) (pc' := 35) (by rfl) (by rfl) (by decide) ?_
  refine Pa.if2k false (by rfl) (by rfl) (by decide) ?_
  show Pa N 39 38 [(8, .int 30), (7, .int 2), (0, .ref 30), (1, .ref ya), (2, .int 0), (3, .int 3), (4, .int yx), (5, .int yc), (6, .int 3)] [] (uI (uI (uI (uI (uI (uI (uI yA 30 6 0) 33 0 40) 30 6 1) 33 1 12) 30 6 2) 33 2 11) 30 6 3) _
  refine Pa.mp 1 (pc' := 39) (l' := [(8, .int 30), (7, .int 2), (0, .ref 30), (1, .ref ya), (2, .int 0), (3, .int 3), (4, .int yx), (5, .int yc), (6, .int 3)]) (st' := [.ref 30]) (by rfl) ?_
  refine Pa.gfR (by rfl) (by rfl) (.inl rfl) (by rfl) ?_
  show Pa N 39 42 [(8, .int 30), (7, .int 2), (0, .ref 30), (1, .ref ya), (2, .int 0), (3, .int 3), (4, .int yx), (5, .int yc), (6, .int 3)] [.ref 33] (uI (uI (uI (uI (uI (uI (uI yA 30 6 0) 33 0 40) 30 6 1) 33 1 12) 30 6 2) 33 2 11) 30 6 3) _
  refine Pa.mp 1 (pc' := 43) (l' := [(8, .int 30), (7, .int 2), (0, .ref 30), (1, .ref ya), (2, .int 0), (3, .int 3), (4, .int yx), (5, .int yc), (6, .int 3)]) (st' := [.ref 30, .ref 33]) (by rfl) ?_
  refine Pa.gfI (v := 3) (by rfl) (by rfl) (.inl rfl) (by rfl) (by show (uI (uI (uI (uI (uI (uI (uI yA 30 6 0) 33 0 40) 30 6 1) 33 1 12) 30 6 2) 33 2 11) 30 6 3).1 30 6 = 3; rw [uI_h]) ?_
  refine Pa.mp 1 (pc' := 48) (l' := [(8, .int 30), (7, .int 2), (0, .ref 30), (1, .ref ya), (2, .int 0), (3, .int 3), (4, .int yx), (5, .int yc), (6, .int 3)]) (st' := [.int 30, .int 3, .ref 33]) (by rfl) ?_
  refine Pa.asts (j' := 3) (by rfl) (by rfl) (by rfl) (fun h7 h8 => ?_)
  show Pa N 39 49 [(8, .int 30), (7, .int 2), (0, .ref 30), (1, .ref ya), (2, .int 0), (3, .int 3), (4, .int yx), (5, .int yc), (6, .int 3)] [] (uI (uI (uI (uI (uI (uI (uI (uI yA 30 6 0) 33 0 40) 30 6 1) 33 1 12) 30 6 2) 33 2 11) 30 6 3) 33 3 30) _
  refine Pa.mp 2 (pc' := 51) (l' := [(8, .int 30), (7, .int 2), (0, .ref 30), (1, .ref ya), (2, .int 0), (3, .int 3), (4, .int yx), (5, .int yc), (6, .int 3)]) (st' := [.ref 30, .ref 30]) (by rfl) ?_
  refine Pa.gfI (v := 3) (by rfl) (by rfl) (.inl rfl) (by rfl) (by show (uI (uI (uI (uI (uI (uI (uI (uI yA 30 6 0) 33 0 40) 30 6 1) 33 1 12) 30 6 2) 33 2 11) 30 6 3) 33 3 30).1 30 6 = 3; rw [uI_c (by decide), uI_h]) ?_
  refine Pa.ic (x := 1) (pc' := 55) (by rfl) (by rfl) (by decide) ?_
  refine Pa.mp 1 (pc' := 56) (l' := [(8, .int 30), (7, .int 2), (0, .ref 30), (1, .ref ya), (2, .int 0), (3, .int 3), (4, .int yx), (5, .int yc), (6, .int 3)]) (st' := [.int 4, .ref 30]) (by rfl) ?_
  refine Pa.pfI (by rfl) (by rfl) (.inl rfl) (by rfl) ?_
  show Pa N 39 59 [(8, .int 30), (7, .int 2), (0, .ref 30), (1, .ref ya), (2, .int 0), (3, .int 3), (4, .int yx), (5, .int yc), (6, .int 3)] [] (uI (uI (uI (uI (uI (uI (uI (uI (uI yA 30 6 0) 33 0 40) 30 6 1) 33 1 12) 30 6 2) 33 2 11) 30 6 3) 33 3 30) 30 6 4) _
  refine Pa.mp 1 (pc' := 61) (l' := [(8, .int 30), (7, .int 2), (0, .ref 30), (1, .ref ya), (2, .int 0), (3, .int 3), (4, .int yx), (5, .int yc), (6, .int 3)]) (st' := [.int 2]) (by rfl) ?_
  refine Pa.ist (by rfl) (by rfl) (.inl rfl) (by rfl) (by rfl) ?_
  refine Pa.mono (c_abv2 N (uI (uI (uI (uI (uI (uI (uI (uI (uI yA 30 6 0) 33 0 40) 30 6 1) 33 1 12) 30 6 2) 33 2 11) 30 6 3) 33 3 30) 30 6 4)) (fun yu A1 hu => ?_)
  obtain ⟨rfl, hu⟩ := hu
  rw [hu]
  show Pa N 39 64 [(8, .int 30), (7, .int 2), (0, .ref 30), (1, .ref ya), (2, .int 0), (3, .int 3), (4, .int yx), (5, .int yc), (6, .int 3)] [.int 0] (uI (uI (uI (uI (uI (uI (uI (uI (uI yA 30 6 0) 33 0 40) 30 6 1) 33 1 12) 30 6 2) 33 2 11) 30 6 3) 33 3 30) 30 6 4) _
  refine Pa.mp 2 (pc' := 68) (l' := [(9, .int 0), (8, .int 30), (7, .int 2), (0, .ref 30), (1, .ref ya), (2, .int 0), (3, .int 3), (4, .int yx), (5, .int yc), (6, .int 3)]) (st' := [.int 3]) (by rfl) ?_
  refine Pa.ic (x := 1) (pc' := 69) (by rfl) (by rfl) (by decide) ?_
  refine Pa.mp 3 (pc' := 74) (l' := [(10, .int 4), (9, .int 0), (8, .int 30), (7, .int 2), (0, .ref 30), (1, .ref ya), (2, .int 0), (3, .int 3), (4, .int yx), (5, .int yc), (6, .int 3)]) (st' := [.int 30]) (by rfl) ?_
  refine Pa.mp 1 (pc' := 229) (l' := [(10, .int 4), (9, .int 0), (8, .int 30), (7, .int 2), (0, .ref 30), (1, .ref ya), (2, .int 0), (3, .int 3), (4, .int yx), (5, .int yc), (6, .int 3)]) (st' := []) (by rfl) ?_
  refine Pa.mp 2 (pc' := 231) (l' := [(10, .int 4), (9, .int 0), (8, .int 30), (7, .int 2), (0, .ref 30), (1, .ref ya), (2, .int 0), (3, .int 3), (4, .int yx), (5, .int yc), (6, .int 3)]) (st' := [.ref ya, .ref 30]) (by rfl) ?_
  refine Pa.ic (x := 0) (pc' := 232) (by rfl) (by rfl) (by decide) ?_
  refine Pa.mp 4 (pc' := 240) (l' := [(10, .int 4), (9, .int 0), (8, .int 30), (7, .int 2), (0, .ref 30), (1, .ref ya), (2, .int 0), (3, .int 3), (4, .int yx), (5, .int yc), (6, .int 3)]) (st' := [.int 4, .int yc, .int yx, .int 0, .int 0, .ref ya, .ref 30]) (by rfl) ?_
  refine Pa.inv (by rfl) (by rfl) (.inl rfl) (by rfl) ?_
  show Pa N 39 0 [(0, .ref 30), (1, .ref ya), (2, .int 0), (3, .int 0), (4, .int yx), (5, .int yc), (6, .int 4)] [] (uI (uI (uI (uI (uI (uI (uI (uI (uI yA 30 6 0) 33 0 40) 30 6 1) 33 1 12) 30 6 2) 33 2 11) 30 6 3) 33 3 30) 30 6 4) _
  refine Pa.mp 2 (pc' := 2) (l' := [(0, .ref 30), (1, .ref ya), (2, .int 0), (3, .int 0), (4, .int yx), (5, .int yc), (6, .int 4)]) (st' := [.int 0, .int 0]) (by rfl) ?_
  refine Pa.ist (by rfl) (by rfl) (.inl rfl) (by rfl) (by rfl) ?_
  refine Pa.mono (c_kwb0_0 N (uI (uI (uI (uI (uI (uI (uI (uI (uI yA 30 6 0) 33 0 40) 30 6 1) 33 1 12) 30 6 2) 33 2 11) 30 6 3) 33 3 30) 30 6 4)) (fun yu A1 hu => ?_)
  obtain ⟨rfl, hu⟩ := hu
  rw [hu]
  show Pa N 39 5 [(0, .ref 30), (1, .ref ya), (2, .int 0), (3, .int 0), (4, .int yx), (5, .int yc), (6, .int 4)] [.int 0] (uI (uI (uI (uI (uI (uI (uI (uI (uI yA 30 6 0) 33 0 40) 30 6 1) 33 1 12) 30 6 2) 33 2 11) 30 6 3) 33 3 30) 30 6 4) _
  refine Pa.mp 2 (pc' := 9) (l' := [(7, .int 0), (0, .ref 30), (1, .ref ya), (2, .int 0), (3, .int 0), (4, .int yx), (5, .int yc), (6, .int 4)]) (st' := [.int 0]) (by rfl) ?_
  refine Pa.if1k false (by rfl) (by rfl) (by decide) ?_
  show Pa N 39 12 [(7, .int 0), (0, .ref 30), (1, .ref ya), (2, .int 0), (3, .int 0), (4, .int yx), (5, .int yc), (6, .int 4)] [] (uI (uI (uI (uI (uI (uI (uI (uI (uI yA 30 6 0) 33 0 40) 30 6 1) 33 1 12) 30 6 2) 33 2 11) 30 6 3) 33 3 30) 30 6 4) _
  refine Pa.mp 1 (pc' := 14) (l' := [(7, .int 0), (0, .ref 30), (1, .ref ya), (2, .int 0), (3, .int 0), (4, .int yx), (5, .int yc), (6, .int 4)]) (st' := [.int 4]) (by rfl) ?_
  refine Pa.ic (x := 30) (pc' := 16) (by rfl) (by rfl) (by decide) ?_
  refine Pa.if2k true (by rfl) (by rfl) (by decide) ?_
  show Pa N 39 21 [(7, .int 0), (0, .ref 30), (1, .ref ya), (2, .int 0), (3, .int 0), (4, .int yx), (5, .int yc), (6, .int 4)] [] (uI (uI (uI (uI (uI (uI (uI (uI (uI yA 30 6 0) 33 0 40) 30 6 1) 33 1 12) 30 6 2) 33 2 11) 30 6 3) 33 3 30) 30 6 4) _
  refine Pa.mp 2 (pc' := 24) (l' := [(7, .int 0), (0, .ref 30), (1, .ref ya), (2, .int 0), (3, .int 0), (4, .int yx), (5, .int yc), (6, .int 4)]) (st' := [.int 0, .int 0]) (by rfl) ?_
  refine Pa.ist (by rfl) (by rfl) (.inl rfl) (by rfl) (by rfl) ?_
  refine Pa.mono (c_bod0_0 N (uI (uI (uI (uI (uI (uI (uI (uI (uI yA 30 6 0) 33 0 40) 30 6 1) 33 1 12) 30 6 2) 33 2 11) 30 6 3) 33 3 30) 30 6 4)) (fun yu A1 hu => ?_)
  obtain ⟨rfl, hu⟩ := hu
  rw [hu]
  show Pa N 39 27 [(7, .int 0), (0, .ref 30), (1, .ref ya), (2, .int 0), (3, .int 0), (4, .int yx), (5, .int yc), (6, .int 4)] [.int 10] (uI (uI (uI (uI (uI (uI (uI (uI (uI yA 30 6 0) 33 0 40) 30 6 1) 33 1 12) 30 6 2) 33 2 11) 30 6 3) 33 3 30) 30 6 4) _
  refine Pa.mp 2 (pc' := 30) (l' := [(8, .int 10), (7, .int 0), (0, .ref 30), (1, .ref ya), (2, .int 0), (3, .int 0), (4, .int yx), (5, .int yc), (6, .int 4)]) (st' := [.ref 30]) (by rfl) ?_
  refine Pa.gfI (v := 4) (by rfl) (by rfl) (.inl rfl) (by rfl) (by show (uI (uI (uI (uI (uI (uI (uI (uI (uI yA 30 6 0) 33 0 40) 30 6 1) 33 1 12) 30 6 2) 33 2 11) 30 6 3) 33 3 30) 30 6 4).1 30 6 = 4; rw [uI_h]) ?_
  refine Pa.ic (x := 24) (pc' := 35) (by rfl) (by rfl) (by decide) ?_
  refine Pa.if2k false (by rfl) (by rfl) (by decide) ?_
  show Pa N 39 38 [(8, .int 10), (7, .int 0), (0, .ref 30), (1, .ref ya), (2, .int 0), (3, .int 0), (4, .int yx), (5, .int yc), (6, .int 4)] [] (uI (uI (uI (uI (uI (uI (uI (uI (uI yA 30 6 0) 33 0 40) 30 6 1) 33 1 12) 30 6 2) 33 2 11) 30 6 3) 33 3 30) 30 6 4) _
  refine Pa.mp 1 (pc' := 39) (l' := [(8, .int 10), (7, .int 0), (0, .ref 30), (1, .ref ya), (2, .int 0), (3, .int 0), (4, .int yx), (5, .int yc), (6, .int 4)]) (st' := [.ref 30]) (by rfl) ?_
  refine Pa.gfR (by rfl) (by rfl) (.inl rfl) (by rfl) ?_
  show Pa N 39 42 [(8, .int 10), (7, .int 0), (0, .ref 30), (1, .ref ya), (2, .int 0), (3, .int 0), (4, .int yx), (5, .int yc), (6, .int 4)] [.ref 33] (uI (uI (uI (uI (uI (uI (uI (uI (uI yA 30 6 0) 33 0 40) 30 6 1) 33 1 12) 30 6 2) 33 2 11) 30 6 3) 33 3 30) 30 6 4) _
  refine Pa.mp 1 (pc' := 43) (l' := [(8, .int 10), (7, .int 0), (0, .ref 30), (1, .ref ya), (2, .int 0), (3, .int 0), (4, .int yx), (5, .int yc), (6, .int 4)]) (st' := [.ref 30, .ref 33]) (by rfl) ?_
  refine Pa.gfI (v := 4) (by rfl) (by rfl) (.inl rfl) (by rfl) (by show (uI (uI (uI (uI (uI (uI (uI (uI (uI yA 30 6 0) 33 0 40) 30 6 1) 33 1 12) 30 6 2) 33 2 11) 30 6 3) 33 3 30) 30 6 4).1 30 6 = 4; rw [uI_h]) ?_
  refine Pa.mp 1 (pc' := 48) (l' := [(8, .int 10), (7, .int 0), (0, .ref 30), (1, .ref ya), (2, .int 0), (3, .int 0), (4, .int yx), (5, .int yc), (6, .int 4)]) (st' := [.int 10, .int 4, .ref 33]) (by rfl) ?_
  refine Pa.asts (j' := 4) (by rfl) (by rfl) (by rfl) (fun h9 h10 => ?_)
  show Pa N 39 49 [(8, .int 10), (7, .int 0), (0, .ref 30), (1, .ref ya), (2, .int 0), (3, .int 0), (4, .int yx), (5, .int yc), (6, .int 4)] [] (uI (uI (uI (uI (uI (uI (uI (uI (uI (uI yA 30 6 0) 33 0 40) 30 6 1) 33 1 12) 30 6 2) 33 2 11) 30 6 3) 33 3 30) 30 6 4) 33 4 10) _
  refine Pa.mp 2 (pc' := 51) (l' := [(8, .int 10), (7, .int 0), (0, .ref 30), (1, .ref ya), (2, .int 0), (3, .int 0), (4, .int yx), (5, .int yc), (6, .int 4)]) (st' := [.ref 30, .ref 30]) (by rfl) ?_
  refine Pa.gfI (v := 4) (by rfl) (by rfl) (.inl rfl) (by rfl) (by show (uI (uI (uI (uI (uI (uI (uI (uI (uI (uI yA 30 6 0) 33 0 40) 30 6 1) 33 1 12) 30 6 2) 33 2 11) 30 6 3) 33 3 30) 30 6 4) 33 4 10).1 30 6 = 4; rw [uI_c (by decide), uI_h]) ?_
  refine Pa.ic (x := 1) (pc' := 55) (by rfl) (by rfl) (by decide) ?_
  refine Pa.mp 1 (pc' := 56) (l' := [(8, .int 10), (7, .int 0), (0, .ref 30), (1, .ref ya), (2, .int 0), (3, .int 0), (4, .int yx), (5, .int yc), (6, .int 4)]) (st' := [.int 5, .ref 30]) (by rfl) ?_
  refine Pa.pfI (by rfl) (by rfl) (.inl rfl) (by rfl) ?_
  show Pa N 39 59 [(8, .int 10), (7, .int 0), (0, .ref 30), (1, .ref ya), (2, .int 0), (3, .int 0), (4, .int yx), (5, .int yc), (6, .int 4)] [] (uI (uI (uI (uI (uI (uI (uI (uI (uI (uI (uI yA 30 6 0) 33 0 40) 30 6 1) 33 1 12) 30 6 2) 33 2 11) 30 6 3) 33 3 30) 30 6 4) 33 4 10) 30 6 5) _
  refine Pa.mp 1 (pc' := 61) (l' := [(8, .int 10), (7, .int 0), (0, .ref 30), (1, .ref ya), (2, .int 0), (3, .int 0), (4, .int yx), (5, .int yc), (6, .int 4)]) (st' := [.int 0]) (by rfl) ?_
  refine Pa.ist (by rfl) (by rfl) (.inl rfl) (by rfl) (by rfl) ?_
  refine Pa.mono (c_abv0 N (uI (uI (uI (uI (uI (uI (uI (uI (uI (uI (uI yA 30 6 0) 33 0 40) 30 6 1) 33 1 12) 30 6 2) 33 2 11) 30 6 3) 33 3 30) 30 6 4) 33 4 10) 30 6 5)) (fun yu A1 hu => ?_)
  obtain ⟨rfl, hu⟩ := hu
  rw [hu]
  show Pa N 39 64 [(8, .int 10), (7, .int 0), (0, .ref 30), (1, .ref ya), (2, .int 0), (3, .int 0), (4, .int yx), (5, .int yc), (6, .int 4)] [.int (-1)] (uI (uI (uI (uI (uI (uI (uI (uI (uI (uI (uI yA 30 6 0) 33 0 40) 30 6 1) 33 1 12) 30 6 2) 33 2 11) 30 6 3) 33 3 30) 30 6 4) 33 4 10) 30 6 5) _
  refine Pa.mp 2 (pc' := 68) (l' := [(9, .int (-1)), (8, .int 10), (7, .int 0), (0, .ref 30), (1, .ref ya), (2, .int 0), (3, .int 0), (4, .int yx), (5, .int yc), (6, .int 4)]) (st' := [.int 4]) (by rfl) ?_
  refine Pa.ic (x := 1) (pc' := 69) (by rfl) (by rfl) (by decide) ?_
  refine Pa.mp 3 (pc' := 74) (l' := [(10, .int 5), (9, .int (-1)), (8, .int 10), (7, .int 0), (0, .ref 30), (1, .ref ya), (2, .int 0), (3, .int 0), (4, .int yx), (5, .int yc), (6, .int 4)]) (st' := [.int 10]) (by rfl) ?_
  refine Pa.mp 1 (pc' := 164) (l' := [(10, .int 5), (9, .int (-1)), (8, .int 10), (7, .int 0), (0, .ref 30), (1, .ref ya), (2, .int 0), (3, .int 0), (4, .int yx), (5, .int yc), (6, .int 4)]) (st' := []) (by rfl) ?_
  refine Pa.mp 3 (pc' := 169) (l' := [(10, .int 5), (9, .int (-1)), (8, .int 10), (7, .int 0), (0, .ref 30), (1, .ref ya), (2, .int 0), (3, .int 0), (4, .int yx), (5, .int yc), (6, .int 4)]) (st' := [.int (yx + yc)]) (by rfl) ?_
  refine Pa.iret (by rfl) ?_
  show Pa N 39 243 [(10, .int 4), (9, .int 0), (8, .int 30), (7, .int 2), (0, .ref 30), (1, .ref ya), (2, .int 0), (3, .int 3), (4, .int yx), (5, .int yc), (6, .int 3)] [.int (yx + yc)] (uI (uI (uI (uI (uI (uI (uI (uI (uI (uI (uI yA 30 6 0) 33 0 40) 30 6 1) 33 1 12) 30 6 2) 33 2 11) 30 6 3) 33 3 30) 30 6 4) 33 4 10) 30 6 5) _
  refine Pa.ic (x := 4) (pc' := 244) (by rfl) (by rfl) (by decide) ?_
  refine Pa.mp 1 (pc' := 245) (l' := [(10, .int 4), (9, .int 0), (8, .int 30), (7, .int 2), (0, .ref 30), (1, .ref ya), (2, .int 0), (3, .int 3), (4, .int yx), (5, .int yc), (6, .int 3)]) (st' := [.int ((yx + yc) - 4)]) (by rfl) ?_
  refine Pa.iret (by rfl) ?_
  show Pa N 39 186 [(10, .int 3), (9, .int (-1)), (8, .int 11), (7, .int 0), (0, .ref 30), (1, .ref ya), (2, .int 1), (3, .int 3), (4, .int yx), (5, .int yc), (6, .int 2)] [.int ((yx + yc) - 4)] (uI (uI (uI (uI (uI (uI (uI (uI (uI (uI (uI yA 30 6 0) 33 0 40) 30 6 1) 33 1 12) 30 6 2) 33 2 11) 30 6 3) 33 3 30) 30 6 4) 33 4 10) 30 6 5) _
  refine Pa.ic (x := 2) (pc' := 187) (by rfl) (by rfl) (by decide) ?_
  refine Pa.mp 1 (pc' := 188) (l' := [(10, .int 3), (9, .int (-1)), (8, .int 11), (7, .int 0), (0, .ref 30), (1, .ref ya), (2, .int 1), (3, .int 3), (4, .int yx), (5, .int yc), (6, .int 2)]) (st' := [.int (((yx + yc) - 4) * 2)]) (by rfl) ?_
  refine Pa.iret (by rfl) ?_
  show Pa N 39 205 [(10, .int 2), (9, .int (-1)), (8, .int 12), (7, .int 0), (0, .ref 30), (1, .ref ya), (2, .int 2), (3, .int 2), (4, .int yx), (5, .int yc), (6, .int 1)] [.int (((yx + yc) - 4) * 2)] (uI (uI (uI (uI (uI (uI (uI (uI (uI (uI (uI yA 30 6 0) 33 0 40) 30 6 1) 33 1 12) 30 6 2) 33 2 11) 30 6 3) 33 3 30) 30 6 4) 33 4 10) 30 6 5) _
  refine Pa.mp 1 (pc' := 206) (l' := [(10, .int 2), (9, .int (-1)), (8, .int 12), (7, .int 0), (0, .ref 30), (1, .ref ya), (2, .int 2), (3, .int 2), (4, .int yx), (5, .int yc), (6, .int 1)]) (st' := [.ref ya, .int (((yx + yc) - 4) * 2)]) (by rfl) ?_
  refine Pa.gfI (v := yA.1 ya 0) (by rfl) (by rfl) (.inr rfl) (by rfl) (by show (uI (uI (uI (uI (uI (uI (uI (uI (uI (uI (uI yA 30 6 0) 33 0 40) 30 6 1) 33 1 12) 30 6 2) 33 2 11) 30 6 3) 33 3 30) 30 6 4) 33 4 10) 30 6 5).1 ya 0 = yA.1 ya 0; rw [uI_c (by omega), uI_c (by omega), uI_c (by omega), uI_c (by omega), uI_c (by omega), uI_c (by omega), uI_c (by omega), uI_c (by omega), uI_c (by omega), uI_c (by omega), uI_c (by omega)]) ?_
  refine Pa.mp 1 (pc' := 210) (l' := [(10, .int 2), (9, .int (-1)), (8, .int 12), (7, .int 0), (0, .ref 30), (1, .ref ya), (2, .int 2), (3, .int 2), (4, .int yx), (5, .int yc), (6, .int 1)]) (st' := [.int ((((yx + yc) - 4) * 2) - (yA.1 ya 0))]) (by rfl) ?_
  refine Pa.iret (by rfl) ?_
  show Pa N 39 260 [(10, .int 1), (9, .int 2), (8, .int 40), (7, .int 3), (0, .ref 30), (1, .ref ya), (2, .int 2), (3, .int 3), (4, .int yx), (5, .int yc), (6, .int 0)] [.int ((((yx + yc) - 4) * 2) - (yA.1 ya 0))] (uI (uI (uI (uI (uI (uI (uI (uI (uI (uI (uI yA 30 6 0) 33 0 40) 30 6 1) 33 1 12) 30 6 2) 33 2 11) 30 6 3) 33 3 30) 30 6 4) 33 4 10) 30 6 5) _
  refine Pa.mp 4 (pc' := 266) (l' := [(11, .int ((((yx + yc) - 4) * 2) - (yA.1 ya 0))), (10, .int 1), (9, .int 2), (8, .int 40), (7, .int 3), (0, .ref 30), (1, .ref ya), (2, .int 2), (3, .int 3), (4, .int yx), (5, .int yc), (6, .int 0)]) (st' := [.ref ya, .ref 30, .int ((((yx + yc) - 4) * 2) - (yA.1 ya 0))]) (by rfl) ?_
  refine Pa.ic (x := 1) (pc' := 267) (by rfl) (by rfl) (by decide) ?_
  refine Pa.mp 1 (pc' := 268) (l' := [(11, .int ((((yx + yc) - 4) * 2) - (yA.1 ya 0))), (10, .int 1), (9, .int 2), (8, .int 40), (7, .int 3), (0, .ref 30), (1, .ref ya), (2, .int 2), (3, .int 3), (4, .int yx), (5, .int yc), (6, .int 0)]) (st' := [.ref ya, .int 1, .ref ya, .ref 30, .int ((((yx + yc) - 4) * 2) - (yA.1 ya 0))]) (by rfl) ?_
  refine Pa.gfI (v := 3) (by rfl) (by rfl) (.inr rfl) (by rfl) (by show (uI (uI (uI (uI (uI (uI (uI (uI (uI (uI (uI yA 30 6 0) 33 0 40) 30 6 1) 33 1 12) 30 6 2) 33 2 11) 30 6 3) 33 3 30) 30 6 4) 33 4 10) 30 6 5).1 ya 1 = 3; rw [uI_c (by omega), uI_c (by omega), uI_c (by omega), uI_c (by omega), uI_c (by omega), uI_c (by omega), uI_c (by omega), uI_c (by omega), uI_c (by omega), uI_c (by omega), uI_c (by omega), hk]) ?_
  refine Pa.ic (x := 1) (pc' := 272) (by rfl) (by rfl) (by decide) ?_
  refine Pa.mp 2 (pc' := 276) (l' := [(11, .int ((((yx + yc) - 4) * 2) - (yA.1 ya 0))), (10, .int 1), (9, .int 2), (8, .int 40), (7, .int 3), (0, .ref 30), (1, .ref ya), (2, .int 2), (3, .int 3), (4, .int yx), (5, .int yc), (6, .int 0)]) (st' := [.int 1, .int yc, .int 1, .int 3, .int 1, .ref ya, .ref 30, .int ((((yx + yc) - 4) * 2) - (yA.1 ya 0))]) (by rfl) ?_
  refine Pa.inv (by rfl) (by rfl) (.inl rfl) (by rfl) ?_
  show Pa N 39 0 [(0, .ref 30), (1, .ref ya), (2, .int 1), (3, .int 3), (4, .int 1), (5, .int yc), (6, .int 1)] [] (uI (uI (uI (uI (uI (uI (uI (uI (uI (uI (uI yA 30 6 0) 33 0 40) 30 6 1) 33 1 12) 30 6 2) 33 2 11) 30 6 3) 33 3 30) 30 6 4) 33 4 10) 30 6 5) _
  refine Pa.mp 2 (pc' := 2) (l' := [(0, .ref 30), (1, .ref ya), (2, .int 1), (3, .int 3), (4, .int 1), (5, .int yc), (6, .int 1)]) (st' := [.int 3, .int 1]) (by rfl) ?_
  refine Pa.ist (by rfl) (by rfl) (.inl rfl) (by rfl) (by rfl) ?_
  refine Pa.mono (c_kwb1_3 N (uI (uI (uI (uI (uI (uI (uI (uI (uI (uI (uI yA 30 6 0) 33 0 40) 30 6 1) 33 1 12) 30 6 2) 33 2 11) 30 6 3) 33 3 30) 30 6 4) 33 4 10) 30 6 5)) (fun yu A1 hu => ?_)
  obtain ⟨rfl, hu⟩ := hu
  rw [hu]
  show Pa N 39 5 [(0, .ref 30), (1, .ref ya), (2, .int 1), (3, .int 3), (4, .int 1), (5, .int yc), (6, .int 1)] [.int 0] (uI (uI (uI (uI (uI (uI (uI (uI (uI (uI (uI yA 30 6 0) 33 0 40) 30 6 1) 33 1 12) 30 6 2) 33 2 11) 30 6 3) 33 3 30) 30 6 4) 33 4 10) 30 6 5) _
  refine Pa.mp 2 (pc' := 9) (l' := [(7, .int 0), (0, .ref 30), (1, .ref ya), (2, .int 1), (3, .int 3), (4, .int 1), (5, .int yc), (6, .int 1)]) (st' := [.int 0]) (by rfl) ?_
  refine Pa.if1k false (by rfl) (by rfl) (by decide) ?_
  show Pa N 39 12 [(7, .int 0), (0, .ref 30), (1, .ref ya), (2, .int 1), (3, .int 3), (4, .int 1), (5, .int yc), (6, .int 1)] [] (uI (uI (uI (uI (uI (uI (uI (uI (uI (uI (uI yA 30 6 0) 33 0 40) 30 6 1) 33 1 12) 30 6 2) 33 2 11) 30 6 3) 33 3 30) 30 6 4) 33 4 10) 30 6 5) _
  refine Pa.mp 1 (pc' := 14) (l' := [(7, .int 0), (0, .ref 30), (1, .ref ya), (2, .int 1), (3, .int 3), (4, .int 1), (5, .int yc), (6, .int 1)]) (st' := [.int 1]) (by rfl) ?_
  refine Pa.ic (x := 30) (pc' := 16) (by rfl) (by rfl) (by decide) ?_
  refine Pa.if2k true (by rfl) (by rfl) (by decide) ?_
  show Pa N 39 21 [(7, .int 0), (0, .ref 30), (1, .ref ya), (2, .int 1), (3, .int 3), (4, .int 1), (5, .int yc), (6, .int 1)] [] (uI (uI (uI (uI (uI (uI (uI (uI (uI (uI (uI yA 30 6 0) 33 0 40) 30 6 1) 33 1 12) 30 6 2) 33 2 11) 30 6 3) 33 3 30) 30 6 4) 33 4 10) 30 6 5) _
  refine Pa.mp 2 (pc' := 24) (l' := [(7, .int 0), (0, .ref 30), (1, .ref ya), (2, .int 1), (3, .int 3), (4, .int 1), (5, .int yc), (6, .int 1)]) (st' := [.int 0, .int 1]) (by rfl) ?_
  refine Pa.ist (by rfl) (by rfl) (.inl rfl) (by rfl) (by rfl) ?_
  refine Pa.mono (c_bod1_0 N (uI (uI (uI (uI (uI (uI (uI (uI (uI (uI (uI yA 30 6 0) 33 0 40) 30 6 1) 33 1 12) 30 6 2) 33 2 11) 30 6 3) 33 3 30) 30 6 4) 33 4 10) 30 6 5)) (fun yu A1 hu => ?_)
  obtain ⟨rfl, hu⟩ := hu
  rw [hu]
  show Pa N 39 27 [(7, .int 0), (0, .ref 30), (1, .ref ya), (2, .int 1), (3, .int 3), (4, .int 1), (5, .int yc), (6, .int 1)] [.int 11] (uI (uI (uI (uI (uI (uI (uI (uI (uI (uI (uI yA 30 6 0) 33 0 40) 30 6 1) 33 1 12) 30 6 2) 33 2 11) 30 6 3) 33 3 30) 30 6 4) 33 4 10) 30 6 5) _
  refine Pa.mp 2 (pc' := 30) (l' := [(8, .int 11), (7, .int 0), (0, .ref 30), (1, .ref ya), (2, .int 1), (3, .int 3), (4, .int 1), (5, .int yc), (6, .int 1)]) (st' := [.ref 30]) (by rfl) ?_
  refine Pa.gfI (v := 5) (by rfl) (by rfl) (.inl rfl) (by rfl) (by show (uI (uI (uI (uI (uI (uI (uI (uI (uI (uI (uI yA 30 6 0) 33 0 40) 30 6 1) 33 1 12) 30 6 2) 33 2 11) 30 6 3) 33 3 30) 30 6 4) 33 4 10) 30 6 5).1 30 6 = 5; rw [uI_h]) ?_
  refine Pa.ic (x := 24) (pc' := 35) (by rfl) (by rfl) (by decide) ?_
  refine Pa.if2k false (by rfl) (by rfl) (by decide) ?_
  show Pa N 39 38 [(8, .int 11), (7, .int 0), (0, .ref 30), (1, .ref ya), (2, .int 1), (3, .int 3), (4, .int 1), (5, .int yc), (6, .int 1)] [] (uI (uI (uI (uI (uI (uI (uI (uI (uI (uI (uI yA 30 6 0) 33 0 40) 30 6 1) 33 1 12) 30 6 2) 33 2 11) 30 6 3) 33 3 30) 30 6 4) 33 4 10) 30 6 5) _
  refine Pa.mp 1 (pc' := 39) (l' := [(8, .int 11), (7, .int 0), (0, .ref 30), (1, .ref ya), (2, .int 1), (3, .int 3), (4, .int 1), (5, .int yc), (6, .int 1)]) (st' := [.ref 30]) (by rfl) ?_
  refine Pa.gfR (by rfl) (by rfl) (.inl rfl) (by rfl) ?_
  show Pa N 39 42 [(8, .int 11), (7, .int 0), (0, .ref 30), (1, .ref ya), (2, .int 1), (3, .int 3), (4, .int 1), (5, .int yc), (6, .int 1)] [.ref 33] (uI (uI (uI (uI (uI (uI (uI (uI (uI (uI (uI yA 30 6 0) 33 0 40) 30 6 1) 33 1 12) 30 6 2) 33 2 11) 30 6 3) 33 3 30) 30 6 4) 33 4 10) 30 6 5) _
  refine Pa.mp 1 (pc' := 43) (l' := [(8, .int 11), (7, .int 0), (0, .ref 30), (1, .ref ya), (2, .int 1), (3, .int 3), (4, .int 1), (5, .int yc), (6, .int 1)]) (st' := [.ref 30, .ref 33]) (by rfl) ?_
  refine Pa.gfI (v := 5) (by rfl) (by rfl) (.inl rfl) (by rfl) (by show (uI (uI (uI (uI (uI (uI (uI (uI (uI (uI (uI yA 30 6 0) 33 0 40) 30 6 1) 33 1 12) 30 6 2) 33 2 11) 30 6 3) 33 3 30) 30 6 4) 33 4 10) 30 6 5).1 30 6 = 5; rw [uI_h]) ?_
  refine Pa.mp 1 (pc' := 48) (l' := [(8, .int 11), (7, .int 0), (0, .ref 30), (1, .ref ya), (2, .int 1), (3, .int 3), (4, .int 1), (5, .int yc), (6, .int 1)]) (st' := [.int 11, .int 5, .ref 33]) (by rfl) ?_
  refine Pa.asts (j' := 5) (by rfl) (by rfl) (by rfl) (fun h11 h12 => ?_)
  show Pa N 39 49 [(8, .int 11), (7, .int 0), (0, .ref 30), (1, .ref ya), (2, .int 1), (3, .int 3), (4, .int 1), (5, .int yc), (6, .int 1)] [] (uI (uI (uI (uI (uI (uI (uI (uI (uI (uI (uI (uI yA 30 6 0) 33 0 40) 30 6 1) 33 1 12) 30 6 2) 33 2 11) 30 6 3) 33 3 30) 30 6 4) 33 4 10) 30 6 5) 33 5 11) _
  refine Pa.mp 2 (pc' := 51) (l' := [(8, .int 11), (7, .int 0), (0, .ref 30), (1, .ref ya), (2, .int 1), (3, .int 3), (4, .int 1), (5, .int yc), (6, .int 1)]) (st' := [.ref 30, .ref 30]) (by rfl) ?_
  refine Pa.gfI (v := 5) (by rfl) (by rfl) (.inl rfl) (by rfl) (by show (uI (uI (uI (uI (uI (uI (uI (uI (uI (uI (uI (uI yA 30 6 0) 33 0 40) 30 6 1) 33 1 12) 30 6 2) 33 2 11) 30 6 3) 33 3 30) 30 6 4) 33 4 10) 30 6 5) 33 5 11).1 30 6 = 5; rw [uI_c (by decide), uI_h]) ?_
  refine Pa.ic (x := 1) (pc' := 55) (by rfl) (by rfl) (by decide) ?_
  refine Pa.mp 1 (pc' := 56) (l' := [(8, .int 11), (7, .int 0), (0, .ref 30), (1, .ref ya), (2, .int 1), (3, .int 3), (4, .int 1), (5, .int yc), (6, .int 1)]) (st' := [.int 6, .ref 30]) (by rfl) ?_
  refine Pa.pfI (by rfl) (by rfl) (.inl rfl) (by rfl) ?_
  show Pa N 39 59 [(8, .int 11), (7, .int 0), (0, .ref 30), (1, .ref ya), (2, .int 1), (3, .int 3), (4, .int 1), (5, .int yc), (6, .int 1)] [] (uI (uI (uI (uI (uI (uI (uI (uI (uI (uI (uI (uI (uI yA 30 6 0) 33 0 40) 30 6 1) 33 1 12) 30 6 2) 33 2 11) 30 6 3) 33 3 30) 30 6 4) 33 4 10) 30 6 5) 33 5 11) 30 6 6) _
  refine Pa.mp 1 (pc' := 61) (l' := [(8, .int 11), (7, .int 0), (0, .ref 30), (1, .ref ya), (2, .int 1), (3, .int 3), (4, .int 1), (5, .int yc), (6, .int 1)]) (st' := [.int 0]) (by rfl) ?_
  refine Pa.ist (by rfl) (by rfl) (.inl rfl) (by rfl) (by rfl) ?_
  refine Pa.mono (c_abv0 N (uI (uI (uI (uI (uI (uI (uI (uI (uI (uI (uI (uI (uI yA 30 6 0) 33 0 40) 30 6 1) 33 1 12) 30 6 2) 33 2 11) 30 6 3) 33 3 30) 30 6 4) 33 4 10) 30 6 5) 33 5 11) 30 6 6)) (fun yu A1 hu => ?_)
  obtain ⟨rfl, hu⟩ := hu
  rw [hu]
  show Pa N 39 64 [(8, .int 11), (7, .int 0), (0, .ref 30), (1, .ref ya), (2, .int 1), (3, .int 3), (4, .int 1), (5, .int yc), (6, .int 1)] [.int (-1)] (uI (uI (uI (uI (uI (uI (uI (uI (uI (uI (uI (uI (uI yA 30 6 0) 33 0 40) 30 6 1) 33 1 12) 30 6 2) 33 2 11) 30 6 3) 33 3 30) 30 6 4) 33 4 10) 30 6 5) 33 5 11) 30 6 6) _
  refine Pa.mp 2 (pc' := 68) (l' := [(9, .int (-1)), (8, .int 11), (7, .int 0), (0, .ref 30), (1, .ref ya), (2, .int 1), (3, .int 3), (4, .int 1), (5, .int yc), (6, .int 1)]) (st' := [.int 1]) (by rfl) ?_
  refine Pa.ic (x := 1) (pc' := 69) (by rfl) (by rfl) (by decide) ?_
  refine Pa.mp 3 (pc' := 74) (l' := [(10, .int 2), (9, .int (-1)), (8, .int 11), (7, .int 0), (0, .ref 30), (1, .ref ya), (2, .int 1), (3, .int 3), (4, .int 1), (5, .int yc), (6, .int 1)]) (st' := [.int 11]) (by rfl) ?_
  refine Pa.mp 1 (pc' := 170) (l' := [(10, .int 2), (9, .int (-1)), (8, .int 11), (7, .int 0), (0, .ref 30), (1, .ref ya), (2, .int 1), (3, .int 3), (4, .int 1), (5, .int yc), (6, .int 1)]) (st' := []) (by rfl) ?_
  refine Pa.mp 2 (pc' := 172) (l' := [(10, .int 2), (9, .int (-1)), (8, .int 11), (7, .int 0), (0, .ref 30), (1, .ref ya), (2, .int 1), (3, .int 3), (4, .int 1), (5, .int yc), (6, .int 1)]) (st' := [.ref ya, .ref 30]) (by rfl) ?_
  refine Pa.ic (x := 0) (pc' := 173) (by rfl) (by rfl) (by decide) ?_
  refine Pa.mp 1 (pc' := 174) (l' := [(10, .int 2), (9, .int (-1)), (8, .int 11), (7, .int 0), (0, .ref 30), (1, .ref ya), (2, .int 1), (3, .int 3), (4, .int 1), (5, .int yc), (6, .int 1)]) (st' := [.ref ya, .int 0, .ref ya, .ref 30]) (by rfl) ?_
  refine Pa.gfI (v := 3) (by rfl) (by rfl) (.inr rfl) (by rfl) (by show (uI (uI (uI (uI (uI (uI (uI (uI (uI (uI (uI (uI (uI yA 30 6 0) 33 0 40) 30 6 1) 33 1 12) 30 6 2) 33 2 11) 30 6 3) 33 3 30) 30 6 4) 33 4 10) 30 6 5) 33 5 11) 30 6 6).1 ya 1 = 3; rw [uI_c (by omega), uI_c (by omega), uI_c (by omega), uI_c (by omega), uI_c (by omega), uI_c (by omega), uI_c (by omega), uI_c (by omega), uI_c (by omega), uI_c (by omega), uI_c (by omega), uI_c (by omega), uI_c (by omega), hk]) ?_
  refine Pa.mp 3 (pc' := 183) (l' := [(10, .int 2), (9, .int (-1)), (8, .int 11), (7, .int 0), (0, .ref 30), (1, .ref ya), (2, .int 1), (3, .int 3), (4, .int 1), (5, .int yc), (6, .int 1)]) (st' := [.int 2, .int yc, .int 1, .int 3, .int 0, .ref ya, .ref 30]) (by rfl) ?_
  refine Pa.inv (by rfl) (by rfl) (.inl rfl) (by rfl) ?_
  show Pa N 39 0 [(0, .ref 30), (1, .ref ya), (2, .int 0), (3, .int 3), (4, .int 1), (5, .int yc), (6, .int 2)] [] (uI (uI (uI (uI (uI (uI (uI (uI (uI (uI (uI (uI (uI yA 30 6 0) 33 0 40) 30 6 1) 33 1 12) 30 6 2) 33 2 11) 30 6 3) 33 3 30) 30 6 4) 33 4 10) 30 6 5) 33 5 11) 30 6 6) _
  refine Pa.mp 2 (pc' := 2) (l' := [(0, .ref 30), (1, .ref ya), (2, .int 0), (3, .int 3), (4, .int 1), (5, .int yc), (6, .int 2)]) (st' := [.int 3, .int 0]) (by rfl) ?_
  refine Pa.ist (by rfl) (by rfl) (.inl rfl) (by rfl) (by rfl) ?_
  refine Pa.mono (c_kwb0_3 N (uI (uI (uI (uI (uI (uI (uI (uI (uI (uI (uI (uI (uI yA 30 6 0) 33 0 40) 30 6 1) 33 1 12) 30 6 2) 33 2 11) 30 6 3) 33 3 30) 30 6 4) 33 4 10) 30 6 5) 33 5 11) 30 6 6)) (fun yu A1 hu => ?_)
  obtain ⟨rfl, hu⟩ := hu
  rw [hu]
  show Pa N 39 5 [(0, .ref 30), (1, .ref ya), (2, .int 0), (3, .int 3), (4, .int 1), (5, .int yc), (6, .int 2)] [.int 2] (uI (uI (uI (uI (uI (uI (uI (uI (uI (uI (uI (uI (uI yA 30 6 0) 33 0 40) 30 6 1) 33 1 12) 30 6 2) 33 2 11) 30 6 3) 33 3 30) 30 6 4) 33 4 10) 30 6 5) 33 5 11) 30 6 6) _
  refine Pa.mp 2 (pc' := 9) (l' := [(7, .int 2), (0, .ref 30), (1, .ref ya), (2, .int 0), (3, .int 3), (4, .int 1), (5, .int yc), (6, .int 2)]) (st' := [.int 2]) (by rfl) ?_
  refine Pa.if1k false (by rfl) (by rfl) (by decide) ?_
  show Pa N 39 12 [(7, .int 2), (0, .ref 30), (1, .ref ya), (2, .int 0), (3, .int 3), (4, .int 1), (5, .int yc), (6, .int 2)] [] (uI (uI (uI (uI (uI (uI (uI (uI (uI (uI (uI (uI (uI yA 30 6 0) 33 0 40) 30 6 1) 33 1 12) 30 6 2) 33 2 11) 30 6 3) 33 3 30) 30 6 4) 33 4 10) 30 6 5) 33 5 11) 30 6 6) _
  refine Pa.mp 1 (pc' := 14) (l' := [(7, .int 2), (0, .ref 30), (1, .ref ya), (2, .int 0), (3, .int 3), (4, .int 1), (5, .int yc), (6, .int 2)]) (st' := [.int 2]) (by rfl) ?_
  refine Pa.ic (x := 30) (pc' := 16) (by rfl) (by rfl) (by decide) ?_
  refine Pa.if2k true (by rfl) (by rfl) (by decide) ?_
  show Pa N 39 21 [(7, .int 2), (0, .ref 30), (1, .ref ya), (2, .int 0), (3, .int 3), (4, .int 1), (5, .int yc), (6, .int 2)] [] (uI (uI (uI (uI (uI (uI (uI (uI (uI (uI (uI (uI (uI yA 30 6 0) 33 0 40) 30 6 1) 33 1 12) 30 6 2) 33 2 11) 30 6 3) 33 3 30) 30 6 4) 33 4 10) 30 6 5) 33 5 11) 30 6 6) _
  refine Pa.mp 2 (pc' := 24) (l' := [(7, .int 2), (0, .ref 30), (1, .ref ya), (2, .int 0), (3, .int 3), (4, .int 1), (5, .int yc), (6, .int 2)]) (st' := [.int 2, .int 0]) (by rfl) ?_
  refine Pa.ist (by rfl) (by rfl) (.inl rfl) (by rfl) (by rfl) ?_
  refine Pa.mono (c_bod0_2 N (uI (uI (uI (uI (uI (uI (uI (uI (uI (uI (uI (uI (uI yA 30 6 0) 33 0 40) 30 6 1) 33 1 12) 30 6 2) 33 2 11) 30 6 3) 33 3 30) 30 6 4) 33 4 10) 30 6 5) 33 5 11) 30 6 6)) (fun yu A1 hu => ?_)
  obtain ⟨rfl, hu⟩ := hu
  rw [hu]
  show Pa N 39 27 [(7, .int 2), (0, .ref 30), (1, .ref ya), (2, .int 0), (3, .int 3), (4, .int 1), (5, .int yc), (6, .int 2)] [.int 30] (uI (uI (uI (uI (uI (uI (uI (uI (uI (uI (uI (uI (uI yA 30 6 0) 33 0 40) 30 6 1) 33 1 12) 30 6 2) 33 2 11) 30 6 3) 33 3 30) 30 6 4) 33 4 10) 30 6 5) 33 5 11) 30 6 6) _
  refine Pa.mp 2 (pc' := 30) (l' := [(8, .int 30), (7, .int 2), (0, .ref 30), (1, .ref ya), (2, .int 0), (3, .int 3), (4, .int 1), (5, .int yc), (6, .int 2)]) (st' := [.ref 30]) (by rfl) ?_
  refine Pa.gfI (v := 6) (by rfl) (by rfl) (.inl rfl) (by rfl) (by show (uI (uI (uI (uI (uI (uI (uI (uI (uI (uI (uI (uI (uI yA 30 6 0) 33 0 40) 30 6 1) 33 1 12) 30 6 2) 33 2 11) 30 6 3) 33 3 30) 30 6 4) 33 4 10) 30 6 5) 33 5 11) 30 6 6).1 30 6 = 6; rw [uI_h]) ?_
  refine Pa.ic (x := 24) (pc' := 35) (by rfl) (by rfl) (by decide) ?_
  refine Pa.if2k false (by rfl) (by rfl) (by decide) ?_
  show Pa N 39 38 [(8, .int 30), (7, .int 2), (0, .ref 30), (1, .ref ya), (2, .int 0), (3, .int 3), (4, .int 1), (5, .int yc), (6, .int 2)] [] (uI (uI (uI (uI (uI (uI (uI (uI (uI (uI (uI (uI (uI yA 30 6 0) 33 0 40) 30 6 1) 33 1 12) 30 6 2) 33 2 11) 30 6 3) 33 3 30) 30 6 4) 33 4 10) 30 6 5) 33 5 11) 30 6 6) _
  refine Pa.mp 1 (pc' := 39) (l' := [(8, .int 30), (7, .int 2), (0, .ref 30), (1, .ref ya), (2, .int 0), (3, .int 3), (4, .int 1), (5, .int yc), (6, .int 2)]) (st' := [.ref 30]) (by rfl) ?_
  refine Pa.gfR (by rfl) (by rfl) (.inl rfl) (by rfl) ?_
  show Pa N 39 42 [(8, .int 30), (7, .int 2), (0, .ref 30), (1, .ref ya), (2, .int 0), (3, .int 3), (4, .int 1), (5, .int yc), (6, .int 2)] [.ref 33] (uI (uI (uI (uI (uI (uI (uI (uI (uI (uI (uI (uI (uI yA 30 6 0) 33 0 40) 30 6 1) 33 1 12) 30 6 2) 33 2 11) 30 6 3) 33 3 30) 30 6 4) 33 4 10) 30 6 5) 33 5 11) 30 6 6) _
  refine Pa.mp 1 (pc' := 43) (l' := [(8, .int 30), (7, .int 2), (0, .ref 30), (1, .ref ya), (2, .int 0), (3, .int 3), (4, .int 1), (5, .int yc), (6, .int 2)]) (st' := [.ref 30, .ref 33]) (by rfl) ?_
  refine Pa.gfI (v := 6) (by rfl) (by rfl) (.inl rfl) (by rfl) (by show (uI (uI (uI (uI (uI (uI (uI (uI (uI (uI (uI (uI (uI yA 30 6 0) 33 0 40) 30 6 1) 33 1 12) 30 6 2) 33 2 11) 30 6 3) 33 3 30) 30 6 4) 33 4 10) 30 6 5) 33 5 11) 30 6 6).1 30 6 = 6; rw [uI_h]) ?_
  refine Pa.mp 1 (pc' := 48) (l' := [(8, .int 30), (7, .int 2), (0, .ref 30), (1, .ref ya), (2, .int 0), (3, .int 3), (4, .int 1), (5, .int yc), (6, .int 2)]) (st' := [.int 30, .int 6, .ref 33]) (by rfl) ?_
  refine Pa.asts (j' := 6) (by rfl) (by rfl) (by rfl) (fun h13 h14 => ?_)
  show Pa N 39 49 [(8, .int 30), (7, .int 2), (0, .ref 30), (1, .ref ya), (2, .int 0), (3, .int 3), (4, .int 1), (5, .int yc), (6, .int 2)] [] (uI (uI (uI (uI (uI (uI (uI (uI (uI (uI (uI (uI (uI (uI yA 30 6 0) 33 0 40) 30 6 1) 33 1 12) 30 6 2) 33 2 11) 30 6 3) 33 3 30) 30 6 4) 33 4 10) 30 6 5) 33 5 11) 30 6 6) 33 6 30) _
  refine Pa.mp 2 (pc' := 51) (l' := [(8, .int 30), (7, .int 2), (0, .ref 30), (1, .ref ya), (2, .int 0), (3, .int 3), (4, .int 1), (5, .int yc), (6, .int 2)]) (st' := [.ref 30, .ref 30]) (by rfl) ?_
  refine Pa.gfI (v := 6) (by rfl) (by rfl) (.inl rfl) (by rfl) (by show (uI (uI (uI (uI (uI (uI (uI (uI (uI (uI (uI (uI (uI (uI yA 30 6 0) 33 0 40) 30 6 1) 33 1 12) 30 6 2) 33 2 11) 30 6 3) 33 3 30) 30 6 4) 33 4 10) 30 6 5) 33 5 11) 30 6 6) 33 6 30).1 30 6 = 6; rw [uI_c (by decide), uI_h]) ?_
  refine Pa.ic (x := 1) (pc' := 55) (by rfl) (by rfl) (by decide) ?_
  refine Pa.mp 1 (pc' := 56) (l' := [(8, .int 30), (7, .int 2), (0, .ref 30), (1, .ref ya), (2, .int 0), (3, .int 3), (4, .int 1), (5, .int yc), (6, .int 2)]) (st' := [.int 7, .ref 30]) (by rfl) ?_
  refine Pa.pfI (by rfl) (by rfl) (.inl rfl) (by rfl) ?_
  show Pa N 39 59 [(8, .int 30), (7, .int 2), (0, .ref 30), (1, .ref ya), (2, .int 0), (3, .int 3), (4, .int 1), (5, .int yc), (6, .int 2)] [] (uI (uI (uI (uI (uI (uI (uI (uI (uI (uI (uI (uI (uI (uI (uI yA 30 6 0) 33 0 40) 30 6 1) 33 1 12) 30 6 2) 33 2 11) 30 6 3) 33 3 30) 30 6 4) 33 4 10) 30 6 5) 33 5 11) 30 6 6) 33 6 30) 30 6 7) _
  refine Pa.mp 1 (pc' := 61) (l' := [(8, .int 30), (7, .int 2), (0, .ref 30), (1, .ref ya), (2, .int 0), (3, .int 3), (4, .int 1), (5, .int yc), (6, .int 2)]) (st' := [.int 2]) (by rfl) ?_
  refine Pa.ist (by rfl) (by rfl) (.inl rfl) (by rfl) (by rfl) ?_
  refine Pa.mono (c_abv2 N (uI (uI (uI (uI (uI (uI (uI (uI (uI (uI (uI (uI (uI (uI (uI yA 30 6 0) 33 0 40) 30 6 1) 33 1 12) 30 6 2) 33 2 11) 30 6 3) 33 3 30) 30 6 4) 33 4 10) 30 6 5) 33 5 11) 30 6 6) 33 6 30) 30 6 7)) (fun yu A1 hu => ?_)
  obtain ⟨rfl, hu⟩ := hu
  rw [hu]
  show Pa N 39 64 [(8, .int 30), (7, .int 2), (0, .ref 30), (1, .ref ya), (2, .int 0), (3, .int 3), (4, .int 1), (5, .int yc), (6, .int 2)] [.int 0] (uI (uI (uI (uI (uI (uI (uI (uI (uI (uI (uI (uI (uI (uI (uI yA 30 6 0) 33 0 40) 30 6 1) 33 1 12) 30 6 2) 33 2 11) 30 6 3) 33 3 30) 30 6 4) 33 4 10) 30 6 5) 33 5 11) 30 6 6) 33 6 30) 30 6 7) _
  refine Pa.mp 2 (pc' := 68) (l' := [(9, .int 0), (8, .int 30), (7, .int 2), (0, .ref 30), (1, .ref ya), (2, .int 0), (3, .int 3), (4, .int 1), (5, .int yc), (6, .int 2)]) (st' := [.int 2]) (by rfl) ?_
  refine Pa.ic (x := 1) (pc' := 69) (by rfl) (by rfl) (by decide) ?_
  refine Pa.mp 3 (pc' := 74) (l' := [(10, .int 3), (9, .int 0), (8, .int 30), (7, .int 2), (0, .ref 30), (1, .ref ya), (2, .int 0), (3, .int 3), (4, .int 1), (5, .int yc), (6, .int 2)]) (st' := [.int 30]) (by rfl) ?_
  refine Pa.mp 1 (pc' := 229) (l' := [(10, .int 3), (9, .int 0), (8, .int 30), (7, .int 2), (0, .ref 30), (1, .ref ya), (2, .int 0), (3, .int 3), (4, .int 1), (5, .int yc), (6, .int 2)]) (st' := []) (by rfl) ?_
  refine Pa.mp 2 (pc' := 231) (l' := [(10, .int 3), (9, .int 0), (8, .int 30), (7, .int 2), (0, .ref 30), (1, .ref ya), (2, .int 0), (3, .int 3), (4, .int 1), (5, .int yc), (6, .int 2)]) (st' := [.ref ya, .ref 30]) (by rfl) ?_
  refine Pa.ic (x := 0) (pc' := 232) (by rfl) (by rfl) (by decide) ?_
  refine Pa.mp 4 (pc' := 240) (l' := [(10, .int 3), (9, .int 0), (8, .int 30), (7, .int 2), (0, .ref 30), (1, .ref ya), (2, .int 0), (3, .int 3), (4, .int 1), (5, .int yc), (6, .int 2)]) (st' := [.int 3, .int yc, .int 1, .int 0, .int 0, .ref ya, .ref 30]) (by rfl) ?_
  refine Pa.inv (by rfl) (by rfl) (.inl rfl) (by rfl) ?_
  show Pa N 39 0 [(0, .ref 30), (1, .ref ya), (2, .int 0), (3, .int 0), (4, .int 1), (5, .int yc), (6, .int 3)] [] (uI (uI (uI (uI (uI (uI (uI (uI (uI (uI (uI (uI (uI (uI (uI yA 30 6 0) 33 0 40) 30 6 1) 33 1 12) 30 6 2) 33 2 11) 30 6 3) 33 3 30) 30 6 4) 33 4 10) 30 6 5) 33 5 11) 30 6 6) 33 6 30) 30 6 7) _
  refine Pa.mp 2 (pc' := 2) (l' := [(0, .ref 30), (1, .ref ya), (2, .int 0), (3, .int 0), (4, .int 1), (5, .int yc), (6, .int 3)]) (st' := [.int 0, .int 0]) (by rfl) ?_
  refine Pa.ist (by rfl) (by rfl) (.inl rfl) (by rfl) (by rfl) ?_
  refine Pa.mono (c_kwb0_0 N (uI (uI (uI (uI (uI (uI (uI (uI (uI (uI (uI (uI (uI (uI (uI yA 30 6 0) 33 0 40) 30 6 1) 33 1 12) 30 6 2) 33 2 11) 30 6 3) 33 3 30) 30 6 4) 33 4 10) 30 6 5) 33 5 11) 30 6 6) 33 6 30) 30 6 7)) (fun yu A1 hu => ?_)
  obtain ⟨rfl, hu⟩ := hu
  rw [hu]
  show Pa N 39 5 [(0, .ref 30), (1, .ref ya), (2, .int 0), (3, .int 0), (4, .int 1), (5, .int yc), (6, .int 3)] [.int 0] (uI (uI (uI (uI (uI (uI (uI (uI (uI (uI (uI (uI (uI (uI (uI yA 30 6 0) 33 0 40) 30 6 1) 33 1 12) 30 6 2) 33 2 11) 30 6 3) 33 3 30) 30 6 4) 33 4 10) 30 6 5) 33 5 11) 30 6 6) 33 6 30) 30 6 7) _
  refine Pa.mp 2 (pc' := 9) (l' := [(7, .int 0), (0, .ref 30), (1, .ref ya), (2, .int 0), (3, .int 0), (4, .int 1), (5, .int yc), (6, .int 3)]) (st' := [.int 0]) (by rfl) ?_
  refine Pa.if1k false (by rfl) (by rfl) (by decide) ?_
  show Pa N 39 12 [(7, .int 0), (0, .ref 30), (1, .ref ya), (2, .int 0), (3, .int 0), (4, .int 1), (5, .int yc), (6, .int 3)] [] (uI (uI (uI (uI (uI (uI (uI (uI (uI (uI (uI (uI (uI (uI (uI yA 30 6 0) 33 0 40) 30 6 1) 33 1 12) 30 6 2) 33 2 11) 30 6 3) 33 3 30) 30 6 4) 33 4 10) 30 6 5) 33 5 11) 30 6 6) 33 6 30) 30 6 7) _
  refine Pa.mp 1 (pc' := 14) (l' := [(7, .int 0), (0, .ref 30), (1, .ref ya), (2, .int 0), (3, .int 0), (4, .int 1), (5, .int yc), (6, .int 3)]) (st' := [.int 3]) (by rfl) ?_
  refine Pa.ic (x := 30) (pc' := 16) (by rfl) (by rfl) (by decide) ?_
  refine Pa.if2k true (by rfl) (by rfl) (by decide) ?_
  show Pa N 39 21 [(7, .int 0), (0, .ref 30), (1, .ref ya), (2, .int 0), (3, .int 0), (4, .int 1), (5, .int yc), (6, .int 3)] [] (uI (uI (uI (uI (uI (uI (uI (uI (uI (uI (uI (uI (uI (uI (uI yA 30 6 0) 33 0 40) 30 6 1) 33 1 12) 30 6 2) 33 2 11) 30 6 3) 33 3 30) 30 6 4) 33 4 10) 30 6 5) 33 5 11) 30 6 6) 33 6 30) 30 6 7) _
  refine Pa.mp 2 (pc' := 24) (l' := [(7, .int 0), (0, .ref 30), (1, .ref ya), (2, .int 0), (3, .int 0), (4, .int 1), (5, .int yc), (6, .int 3)]) (st' := [.int 0, .int 0]) (by rfl) ?_
  refine Pa.ist (by rfl) (by rfl) (.inl rfl) (by rfl) (by rfl) ?_
  refine Pa.mono (c_bod0_0 N (uI (uI (uI (uI (uI (uI (uI (uI (uI (uI (uI (uI (uI (uI (uI yA 30 6 0) 33 0 40) 30 6 1) 33 1 12) 30 6 2) 33 2 11) 30 6 3) 33 3 30) 30 6 4) 33 4 10) 30 6 5) 33 5 11) 30 6 6) 33 6 30) 30 6 7)) (fun yu A1 hu => ?_)
  obtain ⟨rfl, hu⟩ := hu
  rw [hu]
  show Pa N 39 27 [(7, .int 0), (0, .ref 30), (1, .ref ya), (2, .int 0), (3, .int 0), (4, .int 1), (5, .int yc), (6, .int 3)] [.int 10] (uI (uI (uI (uI (uI (uI (uI (uI (uI (uI (uI (uI (uI (uI (uI yA 30 6 0) 33 0 40) 30 6 1) 33 1 12) 30 6 2) 33 2 11) 30 6 3) 33 3 30) 30 6 4) 33 4 10) 30 6 5) 33 5 11) 30 6 6) 33 6 30) 30 6 7) _
  refine Pa.mp 2 (pc' := 30) (l' := [(8, .int 10), (7, .int 0), (0, .ref 30), (1, .ref ya), (2, .int 0), (3, .int 0), (4, .int 1), (5, .int yc), (6, .int 3)]) (st' := [.ref 30]) (by rfl) ?_
  refine Pa.gfI (v := 7) (by rfl) (by rfl) (.inl rfl) (by rfl) (by show (uI (uI (uI (uI (uI (uI (uI (uI (uI (uI (uI (uI (uI (uI (uI yA 30 6 0) 33 0 40) 30 6 1) 33 1 12) 30 6 2) 33 2 11) 30 6 3) 33 3 30) 30 6 4) 33 4 10) 30 6 5) 33 5 11) 30 6 6) 33 6 30) 30 6 7).1 30 6 = 7; rw [uI_h]) ?_
  refine Pa.ic (x := 24) (pc' := 35) (by rfl) (by rfl) (by decide) ?_
  refine Pa.if2k false (by rfl) (by rfl) (by decide) ?_
  show Pa N 39 38 [(8, .int 10), (7, .int 0), (0, .ref 30), (1, .ref ya), (2, .int 0), (3, .int 0), (4, .int 1), (5, .int yc), (6, .int 3)] [] (uI (uI (uI (uI (uI (uI (uI (uI (uI (uI (uI (uI (uI (uI (uI yA 30 6 0) 33 0 40) 30 6 1) 33 1 12) 30 6 2) 33 2 11) 30 6 3) 33 3 30) 30 6 4) 33 4 10) 30 6 5) 33 5 11) 30 6 6) 33 6 30) 30 6 7) _
  refine Pa.mp 1 (pc' := 39) (l' := [(8, .int 10), (7, .int 0), (0, .ref 30), (1, .ref ya), (2, .int 0), (3, .int 0), (4, .int 1), (5, .int yc), (6, .int 3)]) (st' := [.ref 30]) (by rfl) ?_
  refine Pa.gfR (by rfl) (by rfl) (.inl rfl) (by rfl) ?_
  show Pa N 39 42 [(8, .int 10), (7, .int 0), (0, .ref 30), (1, .ref ya), (2, .int 0), (3, .int 0), (4, .int 1), (5, .int yc), (6, .int 3)] [.ref 33] (uI (uI (uI (uI (uI (uI (uI (uI (uI (uI (uI (uI (uI (uI (uI yA 30 6 0) 33 0 40) 30 6 1) 33 1 12) 30 6 2) 33 2 11) 30 6 3) 33 3 30) 30 6 4) 33 4 10) 30 6 5) 33 5 11) 30 6 6) 33 6 30) 30 6 7) _
  refine Pa.mp 1 (pc' := 43) (l' := [(8, .int 10), (7, .int 0), (0, .ref 30), (1, .ref ya), (2, .int 0), (3, .int 0), (4, .int 1), (5, .int yc), (6, .int 3)]) (st' := [.ref 30, .ref 33]) (by rfl) ?_
  refine Pa.gfI (v := 7) (by rfl) (by rfl) (.inl rfl) (by rfl) (by show (uI (uI (uI (uI (uI (uI (uI (uI (uI (uI (uI (uI (uI (uI (uI yA 30 6 0) 33 0 40) 30 6 1) 33 1 12) 30 6 2) 33 2 11) 30 6 3) 33 3 30) 30 6 4) 33 4 10) 30 6 5) 33 5 11) 30 6 6) 33 6 30) 30 6 7).1 30 6 = 7; rw [uI_h]) ?_
  refine Pa.mp 1 (pc' := 48) (l' := [(8, .int 10), (7, .int 0), (0, .ref 30), (1, .ref ya), (2, .int 0), (3, .int 0), (4, .int 1), (5, .int yc), (6, .int 3)]) (st' := [.int 10, .int 7, .ref 33]) (by rfl) ?_
  refine Pa.asts (j' := 7) (by rfl) (by rfl) (by rfl) (fun h15 yh16 => ?_)
  show Pa N 39 49 [(8, .int 10), (7, .int 0), (0, .ref 30), (1, .ref ya), (2, .int 0), (3, .int 0), (4, .int 1), (5, .int yc), (6, .int 3)] [] (uI (uI (uI (uI (uI (uI (uI (uI (uI (uI (uI (uI (uI (uI (uI (uI yA 30 6 0) 33 0 40) 30 6 1) 33 1 12) 30 6 2) 33 2 11) 30 6 3) 33 3 30) 30 6 4) 33 4 10) 30 6 5) 33 5 11) 30 6 6) 33 6 30) 30 6 7) 33 7 10) _
  refine Pa.mp 2 (pc' := 51) (l' := [(8, .int 10), (7, .int 0), (0, .ref 30), (1, .ref ya), (2, .int 0), (3, .int 0), (4, .int 1), (5, .int yc), (6, .int 3)]) (st' := [.ref 30, .ref 30]) (by rfl) ?_
  refine Pa.gfI (v := 7) (by rfl) (by rfl) (.inl rfl) (by rfl) (by show (uI (uI (uI (uI (uI (uI (uI (uI (uI (uI (uI (uI (uI (uI (uI (uI yA 30 6 0) 33 0 40) 30 6 1) 33 1 12) 30 6 2) 33 2 11) 30 6 3) 33 3 30) 30 6 4) 33 4 10) 30 6 5) 33 5 11) 30 6 6) 33 6 30) 30 6 7) 33 7 10).1 30 6 = 7; rw [uI_c (by decide), uI_h]) ?_
  refine Pa.ic (x := 1) (pc' := 55) (by rfl) (by rfl) (by decide) ?_
  refine Pa.mp 1 (pc' := 56) (l' := [(8, .int 10), (7, .int 0), (0, .ref 30), (1, .ref ya), (2, .int 0), (3, .int 0), (4, .int 1), (5, .int yc), (6, .int 3)]) (st' := [.int 8, .ref 30]) (by rfl) ?_
  refine Pa.pfI (by rfl) (by rfl) (.inl rfl) (by rfl) ?_
  show Pa N 39 59 [(8, .int 10), (7, .int 0), (0, .ref 30), (1, .ref ya), (2, .int 0), (3, .int 0), (4, .int 1), (5, .int yc), (6, .int 3)] [] (uI (uI (uI (uI (uI (uI (uI (uI (uI (uI (uI (uI (uI (uI (uI (uI (uI yA 30 6 0) 33 0 40) 30 6 1) 33 1 12) 30 6 2) 33 2 11) 30 6 3) 33 3 30) 30 6 4) 33 4 10) 30 6 5) 33 5 11) 30 6 6) 33 6 30) 30 6 7) 33 7 10) 30 6 8) _
  refine Pa.mp 1 (pc' := 61) (l' := [(8, .int 10), (7, .int 0), (0, .ref 30), (1, .ref ya), (2, .int 0), (3, .int 0), (4, .int 1), (5, .int yc), (6, .int 3)]) (st' := [.int 0]) (by rfl) ?_
  refine Pa.ist (by rfl) (by rfl) (.inl rfl) (by rfl) (by rfl) ?_
  refine Pa.mono (c_abv0 N (uI (uI (uI (uI (uI (uI (uI (uI (uI (uI (uI (uI (uI (uI (uI (uI (uI yA 30 6 0) 33 0 40) 30 6 1) 33 1 12) 30 6 2) 33 2 11) 30 6 3) 33 3 30) 30 6 4) 33 4 10) 30 6 5) 33 5 11) 30 6 6) 33 6 30) 30 6 7) 33 7 10) 30 6 8)) (fun yu A1 hu => ?_)
  obtain ⟨rfl, hu⟩ := hu
  rw [hu]
  show Pa N 39 64 [(8, .int 10), (7, .int 0), (0, .ref 30), (1, .ref ya), (2, .int 0), (3, .int 0), (4, .int 1), (5, .int yc), (6, .int 3)] [.int (-1)] (uI (uI (uI (uI (uI (uI (uI (uI (uI (uI (uI (uI (uI (uI (uI (uI (uI yA 30 6 0) 33 0 40) 30 6 1) 33 1 12) 30 6 2) 33 2 11) 30 6 3) 33 3 30) 30 6 4) 33 4 10) 30 6 5) 33 5 11) 30 6 6) 33 6 30) 30 6 7) 33 7 10) 30 6 8) _
  refine Pa.mp 2 (pc' := 68) (l' := [(9, .int (-1)), (8, .int 10), (7, .int 0), (0, .ref 30), (1, .ref ya), (2, .int 0), (3, .int 0), (4, .int 1), (5, .int yc), (6, .int 3)]) (st' := [.int 3]) (by rfl) ?_
  refine Pa.ic (x := 1) (pc' := 69) (by rfl) (by rfl) (by decide) ?_
  refine Pa.mp 3 (pc' := 74) (l' := [(10, .int 4), (9, .int (-1)), (8, .int 10), (7, .int 0), (0, .ref 30), (1, .ref ya), (2, .int 0), (3, .int 0), (4, .int 1), (5, .int yc), (6, .int 3)]) (st' := [.int 10]) (by rfl) ?_
  refine Pa.mp 1 (pc' := 164) (l' := [(10, .int 4), (9, .int (-1)), (8, .int 10), (7, .int 0), (0, .ref 30), (1, .ref ya), (2, .int 0), (3, .int 0), (4, .int 1), (5, .int yc), (6, .int 3)]) (st' := []) (by rfl) ?_
  refine Pa.mp 3 (pc' := 169) (l' := [(10, .int 4), (9, .int (-1)), (8, .int 10), (7, .int 0), (0, .ref 30), (1, .ref ya), (2, .int 0), (3, .int 0), (4, .int 1), (5, .int yc), (6, .int 3)]) (st' := [.int (1 + yc)]) (by rfl) ?_
  refine Pa.iret (by rfl) ?_
  show Pa N 39 243 [(10, .int 3), (9, .int 0), (8, .int 30), (7, .int 2), (0, .ref 30), (1, .ref ya), (2, .int 0), (3, .int 3), (4, .int 1), (5, .int yc), (6, .int 2)] [.int (1 + yc)] (uI (uI (uI (uI (uI (uI (uI (uI (uI (uI (uI (uI (uI (uI (uI (uI (uI yA 30 6 0) 33 0 40) 30 6 1) 33 1 12) 30 6 2) 33 2 11) 30 6 3) 33 3 30) 30 6 4) 33 4 10) 30 6 5) 33 5 11) 30 6 6) 33 6 30) 30 6 7) 33 7 10) 30 6 8) _
  refine Pa.ic (x := 4) (pc' := 244) (by rfl) (by rfl) (by decide) ?_
  refine Pa.mp 1 (pc' := 245) (l' := [(10, .int 3), (9, .int 0), (8, .int 30), (7, .int 2), (0, .ref 30), (1, .ref ya), (2, .int 0), (3, .int 3), (4, .int 1), (5, .int yc), (6, .int 2)]) (st' := [.int ((1 + yc) - 4)]) (by rfl) ?_
  refine Pa.iret (by rfl) ?_
  show Pa N 39 186 [(10, .int 2), (9, .int (-1)), (8, .int 11), (7, .int 0), (0, .ref 30), (1, .ref ya), (2, .int 1), (3, .int 3), (4, .int 1), (5, .int yc), (6, .int 1)] [.int ((1 + yc) - 4)] (uI (uI (uI (uI (uI (uI (uI (uI (uI (uI (uI (uI (uI (uI (uI (uI (uI yA 30 6 0) 33 0 40) 30 6 1) 33 1 12) 30 6 2) 33 2 11) 30 6 3) 33 3 30) 30 6 4) 33 4 10) 30 6 5) 33 5 11) 30 6 6) 33 6 30) 30 6 7) 33 7 10) 30 6 8) _
  refine Pa.ic (x := 2) (pc' := 187) (by rfl) (by rfl) (by decide) ?_
  refine Pa.mp 1 (pc' := 188) (l' := [(10, .int 2), (9, .int (-1)), (8, .int 11), (7, .int 0), (0, .ref 30), (1, .ref ya), (2, .int 1), (3, .int 3), (4, .int 1), (5, .int yc), (6, .int 1)]) (st' := [.int (((1 + yc) - 4) * 2)]) (by rfl) ?_
  refine Pa.iret (by rfl) ?_
  show Pa N 39 279 [(11, .int ((((yx + yc) - 4) * 2) - (yA.1 ya 0))), (10, .int 1), (9, .int 2), (8, .int 40), (7, .int 3), (0, .ref 30), (1, .ref ya), (2, .int 2), (3, .int 3), (4, .int yx), (5, .int yc), (6, .int 0)] [.int (((1 + yc) - 4) * 2), .int ((((yx + yc) - 4) * 2) - (yA.1 ya 0))] (uI (uI (uI (uI (uI (uI (uI (uI (uI (uI (uI (uI (uI (uI (uI (uI (uI yA 30 6 0) 33 0 40) 30 6 1) 33 1 12) 30 6 2) 33 2 11) 30 6 3) 33 3 30) 30 6 4) 33 4 10) 30 6 5) 33 5 11) 30 6 6) 33 6 30) 30 6 7) 33 7 10) 30 6 8) _
  refine Pa.mp 1 (pc' := 280) (l' := [(11, .int ((((yx + yc) - 4) * 2) - (yA.1 ya 0))), (10, .int 1), (9, .int 2), (8, .int 40), (7, .int 3), (0, .ref 30), (1, .ref ya), (2, .int 2), (3, .int 3), (4, .int yx), (5, .int yc), (6, .int 0)]) (st' := [.int (((((yx + yc) - 4) * 2) - (yA.1 ya 0)) + (((1 + yc) - 4) * 2))]) (by rfl) ?_
  refine Pa.iret (by rfl) ?_
  exact l1

theorem bpf2_4 {N : Nat} {yA : AW} {yQ : Option Value → AW → Prop} {ya : Nat} (yx yc : Int32) (yha : 129 ≤ ya) (hk : yA.1 ya 1 = 4)
    (l1 : yQ (some (.int ((-((yx + yc) * 2)) - (yA.1 ya 0)))) (uI (uI (uI (uI (uI (uI (uI (uI (uI yA 30 6 0) 33 0 12) 30 6 1) 33 1 50) 30 6 2) 33 2 11) 30 6 3) 33 3 10) 30 6 4)) :
    Pa N 39 0 [(0, .ref 30), (1, .ref ya), (2, .int 2), (3, .int 4), (4, .int yx), (5, .int yc), (6, .int 0)] [] (uI yA 30 6 0) yQ := by
  refine Pa.mp 2 (pc' := 2) (l' := [(0, .ref 30), (1, .ref ya), (2, .int 2), (3, .int 4), (4, .int yx), (5, .int yc), (6, .int 0)]) (st' := [.int 4, .int 2]) (by rfl) ?_
  refine Pa.ist (by rfl) (by rfl) (.inl rfl) (by rfl) (by rfl) ?_
  refine Pa.mono (c_kwb2_4 N (uI yA 30 6 0)) (fun yu A1 hu => ?_)
  obtain ⟨rfl, hu⟩ := hu
  rw [hu]
  show Pa N 39 5 [(0, .ref 30), (1, .ref ya), (2, .int 2), (3, .int 4), (4, .int yx), (5, .int yc), (6, .int 0)] [.int 0] (uI yA 30 6 0) _
  refine Pa.mp 2 (pc' := 9) (l' := [(7, .int 0), (0, .ref 30), (1, .ref ya), (2, .int 2), (3, .int 4), (4, .int yx), (5, .int yc), (6, .int 0)]) (st' := [.int 0]) (by rfl) ?_
  refine Pa.if1k false (by rfl) (by rfl) (by decide) ?_
  show Pa N 39 12 [(7, .int 0), (0, .ref 30), (1, .ref ya), (2, .int 2), (3, .int 4), (4, .int yx), (5, .int yc), (6, .int 0)] [] (uI yA 30 6 0) _
  refine Pa.mp 1 (pc' := 14) (l' := [(7, .int 0), (0, .ref 30), (1, .ref ya), (2, .int 2), (3, .int 4), (4, .int yx), (5, .int yc), (6, .int 0)]) (st' := [.int 0]) (by rfl) ?_
  refine Pa.ic (x := 30) (pc' := 16) (by rfl) (by rfl) (by decide) ?_
  refine Pa.if2k true (by rfl) (by rfl) (by decide) ?_
  show Pa N 39 21 [(7, .int 0), (0, .ref 30), (1, .ref ya), (2, .int 2), (3, .int 4), (4, .int yx), (5, .int yc), (6, .int 0)] [] (uI yA 30 6 0) _
  refine Pa.mp 2 (pc' := 24) (l' := [(7, .int 0), (0, .ref 30), (1, .ref ya), (2, .int 2), (3, .int 4), (4, .int yx), (5, .int yc), (6, .int 0)]) (st' := [.int 0, .int 2]) (by rfl) ?_
  refine Pa.ist (by rfl) (by rfl) (.inl rfl) (by rfl) (by rfl) ?_
  refine Pa.mono (c_bod2_0 N (uI yA 30 6 0)) (fun yu A1 hu => ?_)
  obtain ⟨rfl, hu⟩ := hu
  rw [hu]
  show Pa N 39 27 [(7, .int 0), (0, .ref 30), (1, .ref ya), (2, .int 2), (3, .int 4), (4, .int yx), (5, .int yc), (6, .int 0)] [.int 12] (uI yA 30 6 0) _
  refine Pa.mp 2 (pc' := 30) (l' := [(8, .int 12), (7, .int 0), (0, .ref 30), (1, .ref ya), (2, .int 2), (3, .int 4), (4, .int yx), (5, .int yc), (6, .int 0)]) (st' := [.ref 30]) (by rfl) ?_
  refine Pa.gfI (v := 0) (by rfl) (by rfl) (.inl rfl) (by rfl) (by show (uI yA 30 6 0).1 30 6 = 0; rw [uI_h]) ?_
  refine Pa.ic (x := 24) (pc' := 35) (by rfl) (by rfl) (by decide) ?_
  refine Pa.if2k false (by rfl) (by rfl) (by decide) ?_
  show Pa N 39 38 [(8, .int 12), (7, .int 0), (0, .ref 30), (1, .ref ya), (2, .int 2), (3, .int 4), (4, .int yx), (5, .int yc), (6, .int 0)] [] (uI yA 30 6 0) _
  refine Pa.mp 1 (pc' := 39) (l' := [(8, .int 12), (7, .int 0), (0, .ref 30), (1, .ref ya), (2, .int 2), (3, .int 4), (4, .int yx), (5, .int yc), (6, .int 0)]) (st' := [.ref 30]) (by rfl) ?_
  refine Pa.gfR (by rfl) (by rfl) (.inl rfl) (by rfl) ?_
  show Pa N 39 42 [(8, .int 12), (7, .int 0), (0, .ref 30), (1, .ref ya), (2, .int 2), (3, .int 4), (4, .int yx), (5, .int yc), (6, .int 0)] [.ref 33] (uI yA 30 6 0) _
  refine Pa.mp 1 (pc' := 43) (l' := [(8, .int 12), (7, .int 0), (0, .ref 30), (1, .ref ya), (2, .int 2), (3, .int 4), (4, .int yx), (5, .int yc), (6, .int 0)]) (st' := [.ref 30, .ref 33]) (by rfl) ?_
  refine Pa.gfI (v := 0) (by rfl) (by rfl) (.inl rfl) (by rfl) (by show (uI yA 30 6 0).1 30 6 = 0; rw [uI_h]) ?_
  refine Pa.mp 1 (pc' := 48) (l' := [(8, .int 12), (7, .int 0), (0, .ref 30), (1, .ref ya), (2, .int 2), (3, .int 4), (4, .int yx), (5, .int yc), (6, .int 0)]) (st' := [.int 12, .int 0, .ref 33]) (by rfl) ?_
  refine Pa.asts (j' := 0) (by rfl) (by rfl) (by rfl) (fun h1 h2 => ?_)
  show Pa N 39 49 [(8, .int 12), (7, .int 0), (0, .ref 30), (1, .ref ya), (2, .int 2), (3, .int 4), (4, .int yx), (5, .int yc), (6, .int 0)] [] (uI (uI yA 30 6 0) 33 0 12) _
  refine Pa.mp 2 (pc' := 51) (l' := [(8, .int 12), (7, .int 0), (0, .ref 30), (1, .ref ya), (2, .int 2), (3, .int 4), (4, .int yx), (5, .int yc), (6, .int 0)]) (st' := [.ref 30, .ref 30]) (by rfl) ?_
  refine Pa.gfI (v := 0) (by rfl) (by rfl) (.inl rfl) (by rfl) (by show (uI (uI yA 30 6 0) 33 0 12).1 30 6 = 0; rw [uI_c (by decide), uI_h]) ?_
  refine Pa.ic (x := 1) (pc' := 55) (by rfl) (by rfl) (by decide) ?_
  refine Pa.mp 1 (pc' := 56) (l' := [(8, .int 12), (7, .int 0), (0, .ref 30), (1, .ref ya), (2, .int 2), (3, .int 4), (4, .int yx), (5, .int yc), (6, .int 0)]) (st' := [.int 1, .ref 30]) (by rfl) ?_
  refine Pa.pfI (by rfl) (by rfl) (.inl rfl) (by rfl) ?_
  show Pa N 39 59 [(8, .int 12), (7, .int 0), (0, .ref 30), (1, .ref ya), (2, .int 2), (3, .int 4), (4, .int yx), (5, .int yc), (6, .int 0)] [] (uI (uI (uI yA 30 6 0) 33 0 12) 30 6 1) _
  refine Pa.mp 1 (pc' := 61) (l' := [(8, .int 12), (7, .int 0), (0, .ref 30), (1, .ref ya), (2, .int 2), (3, .int 4), (4, .int yx), (5, .int yc), (6, .int 0)]) (st' := [.int 0]) (by rfl) ?_
  refine Pa.ist (by rfl) (by rfl) (.inl rfl) (by rfl) (by rfl) ?_
  refine Pa.mono (c_abv0 N (uI (uI (uI yA 30 6 0) 33 0 12) 30 6 1)) (fun yu A1 hu => ?_)
  obtain ⟨rfl, hu⟩ := hu
  rw [hu]
  show Pa N 39 64 [(8, .int 12), (7, .int 0), (0, .ref 30), (1, .ref ya), (2, .int 2), (3, .int 4), (4, .int yx), (5, .int yc), (6, .int 0)] [.int (-1)] (uI (uI (uI yA 30 6 0) 33 0 12) 30 6 1) _
  refine Pa.mp 2 (pc' := 68) (l' := [(9, .int (-1)), (8, .int 12), (7, .int 0), (0, .ref 30), (1, .ref ya), (2, .int 2), (3, .int 4), (4, .int yx), (5, .int yc), (6, .int 0)]) (st' := [.int 0]) (by rfl) ?_
  refine Pa.ic (x := 1) (pc' := 69) (by rfl) (by rfl) (by decide) ?_
  refine Pa.mp 3 (pc' := 74) (l' := [(10, .int 1), (9, .int (-1)), (8, .int 12), (7, .int 0), (0, .ref 30), (1, .ref ya), (2, .int 2), (3, .int 4), (4, .int yx), (5, .int yc), (6, .int 0)]) (st' := [.int 12]) (by rfl) ?_
  refine Pa.mp 1 (pc' := 189) (l' := [(10, .int 1), (9, .int (-1)), (8, .int 12), (7, .int 0), (0, .ref 30), (1, .ref ya), (2, .int 2), (3, .int 4), (4, .int yx), (5, .int yc), (6, .int 0)]) (st' := []) (by rfl) ?_
  refine Pa.mp 2 (pc' := 191) (l' := [(10, .int 1), (9, .int (-1)), (8, .int 12), (7, .int 0), (0, .ref 30), (1, .ref ya), (2, .int 2), (3, .int 4), (4, .int yx), (5, .int yc), (6, .int 0)]) (st' := [.ref ya, .ref 30]) (by rfl) ?_
  refine Pa.ic (x := 1) (pc' := 192) (by rfl) (by rfl) (by decide) ?_
  refine Pa.mp 1 (pc' := 193) (l' := [(10, .int 1), (9, .int (-1)), (8, .int 12), (7, .int 0), (0, .ref 30), (1, .ref ya), (2, .int 2), (3, .int 4), (4, .int yx), (5, .int yc), (6, .int 0)]) (st' := [.ref ya, .int 1, .ref ya, .ref 30]) (by rfl) ?_
  refine Pa.gfI (v := 4) (by rfl) (by rfl) (.inr rfl) (by rfl) (by show (uI (uI (uI yA 30 6 0) 33 0 12) 30 6 1).1 ya 1 = 4; rw [uI_c (by omega), uI_c (by omega), uI_c (by omega), hk]) ?_
  refine Pa.mp 3 (pc' := 202) (l' := [(10, .int 1), (9, .int (-1)), (8, .int 12), (7, .int 0), (0, .ref 30), (1, .ref ya), (2, .int 2), (3, .int 4), (4, .int yx), (5, .int yc), (6, .int 0)]) (st' := [.int 1, .int yc, .int yx, .int 4, .int 1, .ref ya, .ref 30]) (by rfl) ?_
  refine Pa.inv (by rfl) (by rfl) (.inl rfl) (by rfl) ?_
  show Pa N 39 0 [(0, .ref 30), (1, .ref ya), (2, .int 1), (3, .int 4), (4, .int yx), (5, .int yc), (6, .int 1)] [] (uI (uI (uI yA 30 6 0) 33 0 12) 30 6 1) _
  refine Pa.mp 2 (pc' := 2) (l' := [(0, .ref 30), (1, .ref ya), (2, .int 1), (3, .int 4), (4, .int yx), (5, .int yc), (6, .int 1)]) (st' := [.int 4, .int 1]) (by rfl) ?_
  refine Pa.ist (by rfl) (by rfl) (.inl rfl) (by rfl) (by rfl) ?_
  refine Pa.mono (c_kwb1_4 N (uI (uI (uI yA 30 6 0) 33 0 12) 30 6 1)) (fun yu A1 hu => ?_)
  obtain ⟨rfl, hu⟩ := hu
  rw [hu]
  show Pa N 39 5 [(0, .ref 30), (1, .ref ya), (2, .int 1), (3, .int 4), (4, .int yx), (5, .int yc), (6, .int 1)] [.int 4] (uI (uI (uI yA 30 6 0) 33 0 12) 30 6 1) _
  refine Pa.mp 2 (pc' := 9) (l' := [(7, .int 4), (0, .ref 30), (1, .ref ya), (2, .int 1), (3, .int 4), (4, .int yx), (5, .int yc), (6, .int 1)]) (st' := [.int 4]) (by rfl) ?_
  refine Pa.if1k false (by rfl) (by rfl) (by decide) ?_
  show Pa N 39 12 [(7, .int 4), (0, .ref 30), (1, .ref ya), (2, .int 1), (3, .int 4), (4, .int yx), (5, .int yc), (6, .int 1)] [] (uI (uI (uI yA 30 6 0) 33 0 12) 30 6 1) _
  refine Pa.mp 1 (pc' := 14) (l' := [(7, .int 4), (0, .ref 30), (1, .ref ya), (2, .int 1), (3, .int 4), (4, .int yx), (5, .int yc), (6, .int 1)]) (st' := [.int 1]) (by rfl) ?_
  refine Pa.ic (x := 30) (pc' := 16) (by rfl) (by rfl) (by decide) ?_
  refine Pa.if2k true (by rfl) (by rfl) (by decide) ?_
  show Pa N 39 21 [(7, .int 4), (0, .ref 30), (1, .ref ya), (2, .int 1), (3, .int 4), (4, .int yx), (5, .int yc), (6, .int 1)] [] (uI (uI (uI yA 30 6 0) 33 0 12) 30 6 1) _
  refine Pa.mp 2 (pc' := 24) (l' := [(7, .int 4), (0, .ref 30), (1, .ref ya), (2, .int 1), (3, .int 4), (4, .int yx), (5, .int yc), (6, .int 1)]) (st' := [.int 4, .int 1]) (by rfl) ?_
  refine Pa.ist (by rfl) (by rfl) (.inl rfl) (by rfl) (by rfl) ?_
  refine Pa.mono (c_bod1_4 N (uI (uI (uI yA 30 6 0) 33 0 12) 30 6 1)) (fun yu A1 hu => ?_)
  obtain ⟨rfl, hu⟩ := hu
  rw [hu]
  show Pa N 39 27 [(7, .int 4), (0, .ref 30), (1, .ref ya), (2, .int 1), (3, .int 4), (4, .int yx), (5, .int yc), (6, .int 1)] [.int 50] (uI (uI (uI yA 30 6 0) 33 0 12) 30 6 1) _
  refine Pa.mp 2 (pc' := 30) (l' := [(8, .int 50), (7, .int 4), (0, .ref 30), (1, .ref ya), (2, .int 1), (3, .int 4), (4, .int yx), (5, .int yc), (6, .int 1)]) (st' := [.ref 30]) (by rfl) ?_
  refine Pa.gfI (v := 1) (by rfl) (by rfl) (.inl rfl) (by rfl) (by show (uI (uI (uI yA 30 6 0) 33 0 12) 30 6 1).1 30 6 = 1; rw [uI_h]) ?_
  refine Pa.ic (x := 24) (pc' := 35) (by rfl) (by rfl) (by decide) ?_
  refine Pa.if2k false (by rfl) (by rfl) (by decide) ?_
  show Pa N 39 38 [(8, .int 50), (7, .int 4), (0, .ref 30), (1, .ref ya), (2, .int 1), (3, .int 4), (4, .int yx), (5, .int yc), (6, .int 1)] [] (uI (uI (uI yA 30 6 0) 33 0 12) 30 6 1) _
  refine Pa.mp 1 (pc' := 39) (l' := [(8, .int 50), (7, .int 4), (0, .ref 30), (1, .ref ya), (2, .int 1), (3, .int 4), (4, .int yx), (5, .int yc), (6, .int 1)]) (st' := [.ref 30]) (by rfl) ?_
  refine Pa.gfR (by rfl) (by rfl) (.inl rfl) (by rfl) ?_
  show Pa N 39 42 [(8, .int 50), (7, .int 4), (0, .ref 30), (1, .ref ya), (2, .int 1), (3, .int 4), (4, .int yx), (5, .int yc), (6, .int 1)] [.ref 33] (uI (uI (uI yA 30 6 0) 33 0 12) 30 6 1) _
  refine Pa.mp 1 (pc' := 43) (l' := [(8, .int 50), (7, .int 4), (0, .ref 30), (1, .ref ya), (2, .int 1), (3, .int 4), (4, .int yx), (5, .int yc), (6, .int 1)]) (st' := [.ref 30, .ref 33]) (by rfl) ?_
  refine Pa.gfI (v := 1) (by rfl) (by rfl) (.inl rfl) (by rfl) (by show (uI (uI (uI yA 30 6 0) 33 0 12) 30 6 1).1 30 6 = 1; rw [uI_h]) ?_
  refine Pa.mp 1 (pc' := 48) (l' := [(8, .int 50), (7, .int 4), (0, .ref 30), (1, .ref ya), (2, .int 1), (3, .int 4), (4, .int yx), (5, .int yc), (6, .int 1)]) (st' := [.int 50, .int 1, .ref 33]) (by rfl) ?_
  refine Pa.asts (j' := 1) (by rfl) (by rfl) (by rfl) (fun h3 h4 => ?_)
  show Pa N 39 49 [(8, .int 50), (7, .int 4), (0, .ref 30), (1, .ref ya), (2, .int 1), (3, .int 4), (4, .int yx), (5, .int yc), (6, .int 1)] [] (uI (uI (uI (uI yA 30 6 0) 33 0 12) 30 6 1) 33 1 50) _
  refine Pa.mp 2 (pc' := 51) (l' := [(8, .int 50), (7, .int 4), (0, .ref 30), (1, .ref ya), (2, .int 1), (3, .int 4), (4, .int yx), (5, .int yc), (6, .int 1)]) (st' := [.ref 30, .ref 30]) (by rfl) ?_
  refine Pa.gfI (v := 1) (by rfl) (by rfl) (.inl rfl) (by rfl) (by show (uI (uI (uI (uI yA 30 6 0) 33 0 12) 30 6 1) 33 1 50).1 30 6 = 1; rw [uI_c (by decide), uI_h]) ?_
  refine Pa.ic (x := 1) (pc' := 55) (by rfl) (by rfl) (by decide) ?_
  refine Pa.mp 1 (pc' := 56) (l' := [(8, .int 50), (7, .int 4), (0, .ref 30), (1, .ref ya), (2, .int 1), (3, .int 4), (4, .int yx), (5, .int yc), (6, .int 1)]) (st' := [.int 2, .ref 30]) (by rfl) ?_
  refine Pa.pfI (by rfl) (by rfl) (.inl rfl) (by rfl) ?_
  show Pa N 39 59 [(8, .int 50), (7, .int 4), (0, .ref 30), (1, .ref ya), (2, .int 1), (3, .int 4), (4, .int yx), (5, .int yc), (6, .int 1)] [] (uI (uI (uI (uI (uI yA 30 6 0) 33 0 12) 30 6 1) 33 1 50) 30 6 2) _
  refine Pa.mp 1 (pc' := 61) (l' := [(8, .int 50), (7, .int 4), (0, .ref 30), (1, .ref ya), (2, .int 1), (3, .int 4), (4, .int yx), (5, .int yc), (6, .int 1)]) (st' := [.int 4]) (by rfl) ?_
  refine Pa.ist (by rfl) (by rfl) (.inl rfl) (by rfl) (by rfl) ?_
  refine Pa.mono (c_abv4 N (uI (uI (uI (uI (uI yA 30 6 0) 33 0 12) 30 6 1) 33 1 50) 30 6 2)) (fun yu A1 hu => ?_)
  obtain ⟨rfl, hu⟩ := hu
  rw [hu]
  show Pa N 39 64 [(8, .int 50), (7, .int 4), (0, .ref 30), (1, .ref ya), (2, .int 1), (3, .int 4), (4, .int yx), (5, .int yc), (6, .int 1)] [.int 0] (uI (uI (uI (uI (uI yA 30 6 0) 33 0 12) 30 6 1) 33 1 50) 30 6 2) _
  refine Pa.mp 2 (pc' := 68) (l' := [(9, .int 0), (8, .int 50), (7, .int 4), (0, .ref 30), (1, .ref ya), (2, .int 1), (3, .int 4), (4, .int yx), (5, .int yc), (6, .int 1)]) (st' := [.int 1]) (by rfl) ?_
  refine Pa.ic (x := 1) (pc' := 69) (by rfl) (by rfl) (by decide) ?_
  refine Pa.mp 3 (pc' := 74) (l' := [(10, .int 2), (9, .int 0), (8, .int 50), (7, .int 4), (0, .ref 30), (1, .ref ya), (2, .int 1), (3, .int 4), (4, .int yx), (5, .int yc), (6, .int 1)]) (st' := [.int 50]) (by rfl) ?_
  refine Pa.mp 1 (pc' := 281) (l' := [(10, .int 2), (9, .int 0), (8, .int 50), (7, .int 4), (0, .ref 30), (1, .ref ya), (2, .int 1), (3, .int 4), (4, .int yx), (5, .int yc), (6, .int 1)]) (st' := []) (by rfl) ?_
  refine Pa.mp 2 (pc' := 283) (l' := [(10, .int 2), (9, .int 0), (8, .int 50), (7, .int 4), (0, .ref 30), (1, .ref ya), (2, .int 1), (3, .int 4), (4, .int yx), (5, .int yc), (6, .int 1)]) (st' := [.ref ya, .ref 30]) (by rfl) ?_
  refine Pa.ic (x := 1) (pc' := 284) (by rfl) (by rfl) (by decide) ?_
  refine Pa.mp 4 (pc' := 292) (l' := [(10, .int 2), (9, .int 0), (8, .int 50), (7, .int 4), (0, .ref 30), (1, .ref ya), (2, .int 1), (3, .int 4), (4, .int yx), (5, .int yc), (6, .int 1)]) (st' := [.int 2, .int yc, .int yx, .int 0, .int 1, .ref ya, .ref 30]) (by rfl) ?_
  refine Pa.inv (by rfl) (by rfl) (.inl rfl) (by rfl) ?_
  show Pa N 39 0 [(0, .ref 30), (1, .ref ya), (2, .int 1), (3, .int 0), (4, .int yx), (5, .int yc), (6, .int 2)] [] (uI (uI (uI (uI (uI yA 30 6 0) 33 0 12) 30 6 1) 33 1 50) 30 6 2) _
  refine Pa.mp 2 (pc' := 2) (l' := [(0, .ref 30), (1, .ref ya), (2, .int 1), (3, .int 0), (4, .int yx), (5, .int yc), (6, .int 2)]) (st' := [.int 0, .int 1]) (by rfl) ?_
  refine Pa.ist (by rfl) (by rfl) (.inl rfl) (by rfl) (by rfl) ?_
  refine Pa.mono (c_kwb1_0 N (uI (uI (uI (uI (uI yA 30 6 0) 33 0 12) 30 6 1) 33 1 50) 30 6 2)) (fun yu A1 hu => ?_)
  obtain ⟨rfl, hu⟩ := hu
  rw [hu]
  show Pa N 39 5 [(0, .ref 30), (1, .ref ya), (2, .int 1), (3, .int 0), (4, .int yx), (5, .int yc), (6, .int 2)] [.int 0] (uI (uI (uI (uI (uI yA 30 6 0) 33 0 12) 30 6 1) 33 1 50) 30 6 2) _
  refine Pa.mp 2 (pc' := 9) (l' := [(7, .int 0), (0, .ref 30), (1, .ref ya), (2, .int 1), (3, .int 0), (4, .int yx), (5, .int yc), (6, .int 2)]) (st' := [.int 0]) (by rfl) ?_
  refine Pa.if1k false (by rfl) (by rfl) (by decide) ?_
  show Pa N 39 12 [(7, .int 0), (0, .ref 30), (1, .ref ya), (2, .int 1), (3, .int 0), (4, .int yx), (5, .int yc), (6, .int 2)] [] (uI (uI (uI (uI (uI yA 30 6 0) 33 0 12) 30 6 1) 33 1 50) 30 6 2) _
  refine Pa.mp 1 (pc' := 14) (l' := [(7, .int 0), (0, .ref 30), (1, .ref ya), (2, .int 1), (3, .int 0), (4, .int yx), (5, .int yc), (6, .int 2)]) (st' := [.int 2]) (by rfl) ?_
  refine Pa.ic (x := 30) (pc' := 16) (by rfl) (by rfl) (by decide) ?_
  refine Pa.if2k true (by rfl) (by rfl) (by decide) ?_
  show Pa N 39 21 [(7, .int 0), (0, .ref 30), (1, .ref ya), (2, .int 1), (3, .int 0), (4, .int yx), (5, .int yc), (6, .int 2)] [] (uI (uI (uI (uI (uI yA 30 6 0) 33 0 12) 30 6 1) 33 1 50) 30 6 2) _
  refine Pa.mp 2 (pc' := 24) (l' := [(7, .int 0), (0, .ref 30), (1, .ref ya), (2, .int 1), (3, .int 0), (4, .int yx), (5, .int yc), (6, .int 2)]) (st' := [.int 0, .int 1]) (by rfl) ?_
  refine Pa.ist (by rfl) (by rfl) (.inl rfl) (by rfl) (by rfl) ?_
  refine Pa.mono (c_bod1_0 N (uI (uI (uI (uI (uI yA 30 6 0) 33 0 12) 30 6 1) 33 1 50) 30 6 2)) (fun yu A1 hu => ?_)
  obtain ⟨rfl, hu⟩ := hu
  rw [hu]
  show Pa N 39 27 [(7, .int 0), (0, .ref 30), (1, .ref ya), (2, .int 1), (3, .int 0), (4, .int yx), (5, .int yc), (6, .int 2)] [.int 11] (uI (uI (uI (uI (uI yA 30 6 0) 33 0 12) 30 6 1) 33 1 50) 30 6 2) _
  refine Pa.mp 2 (pc' := 30) (l' := [(8, .int 11), (7, .int 0), (0, .ref 30), (1, .ref ya), (2, .int 1), (3, .int 0), (4, .int yx), (5, .int yc), (6, .int 2)]) (st' := [.ref 30]) (by rfl) ?_
  refine Pa.gfI (v := 2) (by rfl) (by rfl) (.inl rfl) (by rfl) (by show (uI (uI (uI (uI (uI yA 30 6 0) 33 0 12) 30 6 1) 33 1 50) 30 6 2).1 30 6 = 2; rw [uI_h]) ?_
  refine Pa.ic (x := 24) (pc' := 35) (by rfl) (by rfl) (by decide) ?_
  refine Pa.if2k false (by rfl) (by rfl) (by decide) ?_
  show Pa N 39 38 [(8, .int 11), (7, .int 0), (0, .ref 30), (1, .ref ya), (2, .int 1), (3, .int 0), (4, .int yx), (5, .int yc), (6, .int 2)] [] (uI (uI (uI (uI (uI yA 30 6 0) 33 0 12) 30 6 1) 33 1 50) 30 6 2) _
  refine Pa.mp 1 (pc' := 39) (l' := [(8, .int 11), (7, .int 0), (0, .ref 30), (1, .ref ya), (2, .int 1), (3, .int 0), (4, .int yx), (5, .int yc), (6, .int 2)]) (st' := [.ref 30]) (by rfl) ?_
  refine Pa.gfR (by rfl) (by rfl) (.inl rfl) (by rfl) ?_
  show Pa N 39 42 [(8, .int 11), (7, .int 0), (0, .ref 30), (1, .ref ya), (2, .int 1), (3, .int 0), (4, .int yx), (5, .int yc), (6, .int 2)] [.ref 33] (uI (uI (uI (uI (uI yA 30 6 0) 33 0 12) 30 6 1) 33 1 50) 30 6 2) _
  refine Pa.mp 1 (pc' := 43) (l' := [(8, .int 11), (7, .int 0), (0, .ref 30), (1, .ref ya), (2, .int 1), (3, .int 0), (4, .int yx), (5, .int yc), (6, .int 2)]) (st' := [.ref 30, .ref 33]) (by rfl) ?_
  refine Pa.gfI (v := 2) (by rfl) (by rfl) (.inl rfl) (by rfl) (by show (uI (uI (uI (uI (uI yA 30 6 0) 33 0 12) 30 6 1) 33 1 50) 30 6 2).1 30 6 = 2; rw [uI_h]) ?_
  refine Pa.mp 1 (pc' := 48) (l' := [(8, .int 11), (7, .int 0), (0, .ref 30), (1, .ref ya), (2, .int 1), (3, .int 0), (4, .int yx), (5, .int yc), (6, .int 2)]) (st' := [.int 11, .int 2, .ref 33]) (by rfl) ?_
  refine Pa.asts (j' := 2) (by rfl) (by rfl) (by rfl) (fun h5 h6 => ?_)
  show Pa N 39 49 [(8, .int 11), (7, .int 0), (0, .ref 30), (1, .ref ya), (2, .int 1), (3, .int 0), (4, .int yx), (5, .int yc), (6, .int 2)] [] (uI (uI (uI (uI (uI (uI yA 30 6 0) 33 0 12) 30 6 1) 33 1 50) 30 6 2) 33 2 11) _
  refine Pa.mp 2 (pc' := 51) (l' := [(8, .int 11), (7, .int 0), (0, .ref 30), (1, .ref ya), (2, .int 1), (3, .int 0), (4, .int yx), (5, .int yc), (6, .int 2)]) (st' := [.ref 30, .ref 30]) (by rfl) ?_
  refine Pa.gfI (v := 2) (by rfl) (by rfl) (.inl rfl) (by rfl) (by show (uI (uI (uI (uI (uI (uI yA 30 6 0) 33 0 12) 30 6 1) 33 1 50) 30 6 2) 33 2 11).1 30 6 = 2; rw [uI_c (by decide), uI_h]) ?_
  refine Pa.ic (x := 1) (pc' := 55) (by rfl) (by rfl) (by decide) ?_
  refine Pa.mp 1 (pc' := 56) (l' := [(8, .int 11), (7, .int 0), (0, .ref 30), (1, .ref ya), (2, .int 1), (3, .int 0), (4, .int yx), (5, .int yc), (6, .int 2)]) (st' := [.int 3, .ref 30]) (by rfl) ?_
  refine Pa.pfI (by rfl) (by rfl) (.inl rfl) (by rfl) ?_
  show Pa N 39 59 [(8, .int 11), (7, .int 0), (0, .ref 30), (1, .ref ya), (2, .int 1), (3, .int 0), (4, .int yx), (5, .int yc), (6, .int 2)] [] (uI (uI (uI (uI (uI (uI (uI yA 30 6 0) 33 0 12) 30 6 1) 33 1 50) 30 6 2) 33 2 11) 30 6 3) _
  refine Pa.mp 1 (pc' := 61) (l' := [(8, .int 11), (7, .int 0), (0, .ref 30), (1, .ref ya), (2, .int 1), (3, .int 0), (4, .int yx), (5, .int yc), (6, .int 2)]) (st' := [.int 0]) (by rfl) ?_
  refine Pa.ist (by rfl) (by rfl) (.inl rfl) (by rfl) (by rfl) ?_
  refine Pa.mono (c_abv0 N (uI (uI (uI (uI (uI (uI (uI yA 30 6 0) 33 0 12) 30 6 1) 33 1 50) 30 6 2) 33 2 11) 30 6 3)) (fun yu A1 hu => ?_)
  obtain ⟨rfl, hu⟩ := hu
  rw [hu]
  show Pa N 39 64 [(8, .int 11), (7, .int 0), (0, .ref 30), (1, .ref ya), (2, .int 1), (3, .int 0), (4, .int yx), (5, .int yc), (6, .int 2)] [.int (-1)] (uI (uI (uI (uI (uI (uI (uI yA 30 6 0) 33 0 12) 30 6 1) 33 1 50) 30 6 2) 33 2 11) 30 6 3) _
  refine Pa.mp 2 (pc' := 68) (l' := [(9, .int (-1)), (8, .int 11), (7, .int 0), (0, .ref 30), (1, .ref ya), (2, .int 1), (3, .int 0), (4, .int yx), (5, .int yc), (6, .int 2)]) (st' := [.int 2]) (by rfl) ?_
  refine Pa.ic (x := 1) (pc' := 69) (by rfl) (by rfl) (by decide) ?_
  refine Pa.mp 3 (pc' := 74) (l' := [(10, .int 3), (9, .int (-1)), (8, .int 11), (7, .int 0), (0, .ref 30), (1, .ref ya), (2, .int 1), (3, .int 0), (4, .int yx), (5, .int yc), (6, .int 2)]) (st' := [.int 11]) (by rfl) ?_
  refine Pa.mp 1 (pc' := 170) (l' := [(10, .int 3), (9, .int (-1)), (8, .int 11), (7, .int 0), (0, .ref 30), (1, .ref ya), (2, .int 1), (3, .int 0), (4, .int yx), (5, .int yc), (6, .int 2)]) (st' := []) (by rfl) ?_
  refine Pa.mp 2 (pc' := 172) (l' := [(10, .int 3), (9, .int (-1)), (8, .int 11), (7, .int 0), (0, .ref 30), (1, .ref ya), (2, .int 1), (3, .int 0), (4, .int yx), (5, .int yc), (6, .int 2)]) (st' := [.ref ya, .ref 30]) (by rfl) ?_
  refine Pa.ic (x := 0) (pc' := 173) (by rfl) (by rfl) (by decide) ?_
  refine Pa.mp 1 (pc' := 174) (l' := [(10, .int 3), (9, .int (-1)), (8, .int 11), (7, .int 0), (0, .ref 30), (1, .ref ya), (2, .int 1), (3, .int 0), (4, .int yx), (5, .int yc), (6, .int 2)]) (st' := [.ref ya, .int 0, .ref ya, .ref 30]) (by rfl) ?_
  refine Pa.gfI (v := 4) (by rfl) (by rfl) (.inr rfl) (by rfl) (by show (uI (uI (uI (uI (uI (uI (uI yA 30 6 0) 33 0 12) 30 6 1) 33 1 50) 30 6 2) 33 2 11) 30 6 3).1 ya 1 = 4; rw [uI_c (by omega), uI_c (by omega), uI_c (by omega), uI_c (by omega), uI_c (by omega), uI_c (by omega), uI_c (by omega), hk]) ?_
  refine Pa.mp 3 (pc' := 183) (l' := [(10, .int 3), (9, .int (-1)), (8, .int 11), (7, .int 0), (0, .ref 30), (1, .ref ya), (2, .int 1), (3, .int 0), (4, .int yx), (5, .int yc), (6, .int 2)]) (st' := [.int 3, .int yc, .int yx, .int 4, .int 0, .ref ya, .ref 30]) (by rfl) ?_
  refine Pa.inv (by rfl) (by rfl) (.inl rfl) (by rfl) ?_
  show Pa N 39 0 [(0, .ref 30), (1, .ref ya), (2, .int 0), (3, .int 4), (4, .int yx), (5, .int yc), (6, .int 3)] [] (uI (uI (uI (uI (uI (uI (uI yA 30 6 0) 33 0 12) 30 6 1) 33 1 50) 30 6 2) 33 2 11) 30 6 3) _
  refine Pa.mp 2 (pc' := 2) (l' := [(0, .ref 30), (1, .ref ya), (2, .int 0), (3, .int 4), (4, .int yx), (5, .int yc), (6, .int 3)]) (st' := [.int 4, .int 0]) (by rfl) ?_
  refine Pa.ist (by rfl) (by rfl) (.inl rfl) (by rfl) (by rfl) ?_
  refine Pa.mono (c_kwb0_4 N (uI (uI (uI (uI (uI (uI (uI yA 30 6 0) 33 0 12) 30 6 1) 33 1 50) 30 6 2) 33 2 11) 30 6 3)) (fun yu A1 hu => ?_)
  obtain ⟨rfl, hu⟩ := hu
  rw [hu]
  show Pa N 39 5 [(0, .ref 30), (1, .ref ya), (2, .int 0), (3, .int 4), (4, .int yx), (5, .int yc), (6, .int 3)] [.int 0] (uI (uI (uI (uI (uI (uI (uI yA 30 6 0) 33 0 12) 30 6 1) 33 1 50) 30 6 2) 33 2 11) 30 6 3) _
  refine Pa.mp 2 (pc' := 9) (l' := [(7, .int 0), (0, .ref 30), (1, .ref ya), (2, .int 0), (3, .int 4), (4, .int yx), (5, .int yc), (6, .int 3)]) (st' := [.int 0]) (by rfl) ?_
  refine Pa.if1k false (by rfl) (by rfl) (by decide) ?_
  show Pa N 39 12 [(7, .int 0), (0, .ref 30), (1, .ref ya), (2, .int 0), (3, .int 4), (4, .int yx), (5, .int yc), (6, .int 3)] [] (uI (uI (uI (uI (uI (uI (uI yA 30 6 0) 33 0 12) 30 6 1) 33 1 50) 30 6 2) 33 2 11) 30 6 3) _
  refine Pa.mp 1 (pc' := 14) (l' := [(7, .int 0), (0, .ref 30), (1, .ref ya), (2, .int 0), (3, .int 4), (4, .int yx), (5, .int yc), (6, .int 3)]) (st' := [.int 3]) (by rfl) ?_
  refine Pa.ic (x := 30) (pc' := 16) (by rfl) (by rfl) (by decide) ?_
  refine Pa.if2k true (by rfl) (by rfl) (by decide) ?_
  show Pa N 39 21 [(7, .int 0), (0, .ref 30), (1, .ref ya), (2, .int 0), (3, .int 4), (4, .int yx), (5, .int yc), (6, .int 3)] [] (uI (uI (uI (uI (uI (uI (uI yA 30 6 0) 33 0 12) 30 6 1) 33 1 50) 30 6 2) 33 2 11) 30 6 3) _
  refine Pa.mp 2 (pc' := 24) (l' := [(7, .int 0), (0, .ref 30), (1, .ref ya), (2, .int 0), (3, .int 4), (4, .int yx), (5, .int yc), (6, .int 3)]) (st' := [.int 0, .int 0]) (by rfl) ?_
  refine Pa.ist (by rfl) (by rfl) (.inl rfl) (by rfl) (by rfl) ?_
  refine Pa.mono (c_bod0_0 N (uI (uI (uI (uI (uI (uI (uI yA 30 6 0) 33 0 12) 30 6 1) 33 1 50) 30 6 2) 33 2 11) 30 6 3)) (fun yu A1 hu => ?_)
  obtain ⟨rfl, hu⟩ := hu
  rw [hu]
  show Pa N 39 27 [(7, .int 0), (0, .ref 30), (1, .ref ya), (2, .int 0), (3, .int 4), (4, .int yx), (5, .int yc), (6, .int 3)] [.int 10] (uI (uI (uI (uI (uI (uI (uI yA 30 6 0) 33 0 12) 30 6 1) 33 1 50) 30 6 2) 33 2 11) 30 6 3) _
  refine Pa.mp 2 (pc' := 30) (l' := [(8, .int 10), (7, .int 0), (0, .ref 30), (1, .ref ya), (2, .int 0), (3, .int 4), (4, .int yx), (5, .int yc), (6, .int 3)]) (st' := [.ref 30]) (by rfl) ?_
  refine Pa.gfI (v := 3) (by rfl) (by rfl) (.inl rfl) (by rfl) (by show (uI (uI (uI (uI (uI (uI (uI yA 30 6 0) 33 0 12) 30 6 1) 33 1 50) 30 6 2) 33 2 11) 30 6 3).1 30 6 = 3; rw [uI_h]) ?_
  refine Pa.ic (x := 24) (pc' := 35) (by rfl) (by rfl) (by decide) ?_
  refine Pa.if2k false (by rfl) (by rfl) (by decide) ?_
  show Pa N 39 38 [(8, .int 10), (7, .int 0), (0, .ref 30), (1, .ref ya), (2, .int 0), (3, .int 4), (4, .int yx), (5, .int yc), (6, .int 3)] [] (uI (uI (uI (uI (uI (uI (uI yA 30 6 0) 33 0 12) 30 6 1) 33 1 50) 30 6 2) 33 2 11) 30 6 3) _
  refine Pa.mp 1 (pc' := 39) (l' := [(8, .int 10), (7, .int 0), (0, .ref 30), (1, .ref ya), (2, .int 0), (3, .int 4), (4, .int yx), (5, .int yc), (6, .int 3)]) (st' := [.ref 30]) (by rfl) ?_
  refine Pa.gfR (by rfl) (by rfl) (.inl rfl) (by rfl) ?_
  show Pa N 39 42 [(8, .int 10), (7, .int 0), (0, .ref 30), (1, .ref ya), (2, .int 0), (3, .int 4), (4, .int yx), (5, .int yc), (6, .int 3)] [.ref 33] (uI (uI (uI (uI (uI (uI (uI yA 30 6 0) 33 0 12) 30 6 1) 33 1 50) 30 6 2) 33 2 11) 30 6 3) _
  refine Pa.mp 1 (pc' := 43) (l' := [(8, .int 10), (7, .int 0), (0, .ref 30), (1, .ref ya), (2, .int 0), (3, .int 4), (4, .int yx), (5, .int yc), (6, .int 3)]) (st' := [.ref 30, .ref 33]) (by rfl) ?_
  refine Pa.gfI (v := 3) (by rfl) (by rfl) (.inl rfl) (by rfl) (by show (uI (uI (uI (uI (uI (uI (uI yA 30 6 0) 33 0 12) 30 6 1) 33 1 50) 30 6 2) 33 2 11) 30 6 3).1 30 6 = 3; rw [uI_h]) ?_
  refine Pa.mp 1 (pc' := 48) (l' := [(8, .int 10), (7, .int 0), (0, .ref 30), (1, .ref ya), (2, .int 0), (3, .int 4), (4, .int yx), (5, .int yc), (6, .int 3)]) (st' := [.int 10, .int 3, .ref 33]) (by rfl) ?_
  refine Pa.asts (j' := 3) (by rfl) (by rfl) (by rfl) (fun h7 h8 => ?_)
  show Pa N 39 49 [(8, .int 10), (7, .int 0), (0, .ref 30), (1, .ref ya), (2, .int 0), (3, .int 4), (4, .int yx), (5, .int yc), (6, .int 3)] [] (uI (uI (uI (uI (uI (uI (uI (uI yA 30 6 0) 33 0 12) 30 6 1) 33 1 50) 30 6 2) 33 2 11) 30 6 3) 33 3 10) _
  refine Pa.mp 2 (pc' := 51) (l' := [(8, .int 10), (7, .int 0), (0, .ref 30), (1, .ref ya), (2, .int 0), (3, .int 4), (4, .int yx), (5, .int yc), (6, .int 3)]) (st' := [.ref 30, .ref 30]) (by rfl) ?_
  refine Pa.gfI (v := 3) (by rfl) (by rfl) (.inl rfl) (by rfl) (by show (uI (uI (uI (uI (uI (uI (uI (uI yA 30 6 0) 33 0 12) 30 6 1) 33 1 50) 30 6 2) 33 2 11) 30 6 3) 33 3 10).1 30 6 = 3; rw [uI_c (by decide), uI_h]) ?_
  refine Pa.ic (x := 1) (pc' := 55) (by rfl) (by rfl) (by decide) ?_
  refine Pa.mp 1 (pc' := 56) (l' := [(8, .int 10), (7, .int 0), (0, .ref 30), (1, .ref ya), (2, .int 0), (3, .int 4), (4, .int yx), (5, .int yc), (6, .int 3)]) (st' := [.int 4, .ref 30]) (by rfl) ?_
  refine Pa.pfI (by rfl) (by rfl) (.inl rfl) (by rfl) ?_
  show Pa N 39 59 [(8, .int 10), (7, .int 0), (0, .ref 30), (1, .ref ya), (2, .int 0), (3, .int 4), (4, .int yx), (5, .int yc), (6, .int 3)] [] (uI (uI (uI (uI (uI (uI (uI (uI (uI yA 30 6 0) 33 0 12) 30 6 1) 33 1 50) 30 6 2) 33 2 11) 30 6 3) 33 3 10) 30 6 4) _
  refine Pa.mp 1 (pc' := 61) (l' := [(8, .int 10), (7, .int 0), (0, .ref 30), (1, .ref ya), (2, .int 0), (3, .int 4), (4, .int yx), (5, .int yc), (6, .int 3)]) (st' := [.int 0]) (by rfl) ?_
  refine Pa.ist (by rfl) (by rfl) (.inl rfl) (by rfl) (by rfl) ?_
  refine Pa.mono (c_abv0 N (uI (uI (uI (uI (uI (uI (uI (uI (uI yA 30 6 0) 33 0 12) 30 6 1) 33 1 50) 30 6 2) 33 2 11) 30 6 3) 33 3 10) 30 6 4)) (fun yu A1 hu => ?_)
  obtain ⟨rfl, hu⟩ := hu
  rw [hu]
  show Pa N 39 64 [(8, .int 10), (7, .int 0), (0, .ref 30), (1, .ref ya), (2, .int 0), (3, .int 4), (4, .int yx), (5, .int yc), (6, .int 3)] [.int (-1)] (uI (uI (uI (uI (uI (uI (uI (uI (uI yA 30 6 0) 33 0 12) 30 6 1) 33 1 50) 30 6 2) 33 2 11) 30 6 3) 33 3 10) 30 6 4) _
  refine Pa.mp 2 (pc' := 68) (l' := [(9, .int (-1)), (8, .int 10), (7, .int 0), (0, .ref 30), (1, .ref ya), (2, .int 0), (3, .int 4), (4, .int yx), (5, .int yc), (6, .int 3)]) (st' := [.int 3]) (by rfl) ?_
  refine Pa.ic (x := 1) (pc' := 69) (by rfl) (by rfl) (by decide) ?_
  refine Pa.mp 3 (pc' := 74) (l' := [(10, .int 4), (9, .int (-1)), (8, .int 10), (7, .int 0), (0, .ref 30), (1, .ref ya), (2, .int 0), (3, .int 4), (4, .int yx), (5, .int yc), (6, .int 3)]) (st' := [.int 10]) (by rfl) ?_
  refine Pa.mp 1 (pc' := 164) (l' := [(10, .int 4), (9, .int (-1)), (8, .int 10), (7, .int 0), (0, .ref 30), (1, .ref ya), (2, .int 0), (3, .int 4), (4, .int yx), (5, .int yc), (6, .int 3)]) (st' := []) (by rfl) ?_
  refine Pa.mp 3 (pc' := 169) (l' := [(10, .int 4), (9, .int (-1)), (8, .int 10), (7, .int 0), (0, .ref 30), (1, .ref ya), (2, .int 0), (3, .int 4), (4, .int yx), (5, .int yc), (6, .int 3)]) (st' := [.int (yx + yc)]) (by rfl) ?_
  refine Pa.iret (by rfl) ?_
  show Pa N 39 186 [(10, .int 3), (9, .int (-1)), (8, .int 11), (7, .int 0), (0, .ref 30), (1, .ref ya), (2, .int 1), (3, .int 0), (4, .int yx), (5, .int yc), (6, .int 2)] [.int (yx + yc)] (uI (uI (uI (uI (uI (uI (uI (uI (uI yA 30 6 0) 33 0 12) 30 6 1) 33 1 50) 30 6 2) 33 2 11) 30 6 3) 33 3 10) 30 6 4) _
  refine Pa.ic (x := 2) (pc' := 187) (by rfl) (by rfl) (by decide) ?_
  refine Pa.mp 1 (pc' := 188) (l' := [(10, .int 3), (9, .int (-1)), (8, .int 11), (7, .int 0), (0, .ref 30), (1, .ref ya), (2, .int 1), (3, .int 0), (4, .int yx), (5, .int yc), (6, .int 2)]) (st' := [.int ((yx + yc) * 2)]) (by rfl) ?_
  refine Pa.iret (by rfl) ?_
  show Pa N 39 295 [(10, .int 2), (9, .int 0), (8, .int 50), (7, .int 4), (0, .ref 30), (1, .ref ya), (2, .int 1), (3, .int 4), (4, .int yx), (5, .int yc), (6, .int 1)] [.int ((yx + yc) * 2)] (uI (uI (uI (uI (uI (uI (uI (uI (uI yA 30 6 0) 33 0 12) 30 6 1) 33 1 50) 30 6 2) 33 2 11) 30 6 3) 33 3 10) 30 6 4) _
  refine Pa.mp 1 (pc' := 296) (l' := [(10, .int 2), (9, .int 0), (8, .int 50), (7, .int 4), (0, .ref 30), (1, .ref ya), (2, .int 1), (3, .int 4), (4, .int yx), (5, .int yc), (6, .int 1)]) (st' := [.int (-((yx + yc) * 2))]) (by rfl) ?_
  refine Pa.iret (by rfl) ?_
  show Pa N 39 205 [(10, .int 1), (9, .int (-1)), (8, .int 12), (7, .int 0), (0, .ref 30), (1, .ref ya), (2, .int 2), (3, .int 4), (4, .int yx), (5, .int yc), (6, .int 0)] [.int (-((yx + yc) * 2))] (uI (uI (uI (uI (uI (uI (uI (uI (uI yA 30 6 0) 33 0 12) 30 6 1) 33 1 50) 30 6 2) 33 2 11) 30 6 3) 33 3 10) 30 6 4) _
  refine Pa.mp 1 (pc' := 206) (l' := [(10, .int 1), (9, .int (-1)), (8, .int 12), (7, .int 0), (0, .ref 30), (1, .ref ya), (2, .int 2), (3, .int 4), (4, .int yx), (5, .int yc), (6, .int 0)]) (st' := [.ref ya, .int (-((yx + yc) * 2))]) (by rfl) ?_
  refine Pa.gfI (v := yA.1 ya 0) (by rfl) (by rfl) (.inr rfl) (by rfl) (by show (uI (uI (uI (uI (uI (uI (uI (uI (uI yA 30 6 0) 33 0 12) 30 6 1) 33 1 50) 30 6 2) 33 2 11) 30 6 3) 33 3 10) 30 6 4).1 ya 0 = yA.1 ya 0; rw [uI_c (by omega), uI_c (by omega), uI_c (by omega), uI_c (by omega), uI_c (by omega), uI_c (by omega), uI_c (by omega), uI_c (by omega), uI_c (by omega)]) ?_
  refine Pa.mp 1 (pc' := 210) (l' := [(10, .int 1), (9, .int (-1)), (8, .int 12), (7, .int 0), (0, .ref 30), (1, .ref ya), (2, .int 2), (3, .int 4), (4, .int yx), (5, .int yc), (6, .int 0)]) (st' := [.int ((-((yx + yc) * 2)) - (yA.1 ya 0))]) (by rfl) ?_
  refine Pa.iret (by rfl) ?_
  exact l1

theorem bpf2_5 {N : Nat} {yA : AW} {yQ : Option Value → AW → Prop} {ya : Nat} (yx yc : Int32) (yha : 129 ≤ ya) (hk : yA.1 ya 1 = 5)
    (l1 : yQ (some (.int ((((((yx + 1) + yc) - 4) * 2) - (yA.1 ya 0)) * 3))) (uI (uI (uI (uI (uI (uI (uI (uI (uI (uI (uI (uI (uI yA 30 6 0) 33 0 61) 30 6 1) 33 1 12) 30 6 2) 33 2 11) 30 6 3) 33 3 60) 30 6 4) 33 4 30) 30 6 5) 33 5 10) 30 6 6)) :
    Pa N 39 0 [(0, .ref 30), (1, .ref ya), (2, .int 2), (3, .int 5), (4, .int yx), (5, .int yc), (6, .int 0)] [] (uI yA 30 6 0) yQ := by
  refine Pa.mp 2 (pc' := 2) (l' := [(0, .ref 30), (1, .ref ya), (2, .int 2), (3, .int 5), (4, .int yx), (5, .int yc), (6, .int 0)]) (st' := [.int 5, .int 2]) (by rfl) ?_
  refine Pa.ist (by rfl) (by rfl) (.inl rfl) (by rfl) (by rfl) ?_
  refine Pa.mono (c_kwb2_5 N (uI yA 30 6 0)) (fun yu A1 hu => ?_)
  obtain ⟨rfl, hu⟩ := hu
  rw [hu]
  show Pa N 39 5 [(0, .ref 30), (1, .ref ya), (2, .int 2), (3, .int 5), (4, .int yx), (5, .int yc), (6, .int 0)] [.int 5] (uI yA 30 6 0) _
  refine Pa.mp 2 (pc' := 9) (l' := [(7, .int 5), (0, .ref 30), (1, .ref ya), (2, .int 2), (3, .int 5), (4, .int yx), (5, .int yc), (6, .int 0)]) (st' := [.int 5]) (by rfl) ?_
  refine Pa.if1k false (by rfl) (by rfl) (by decide) ?_
  show Pa N 39 12 [(7, .int 5), (0, .ref 30), (1, .ref ya), (2, .int 2), (3, .int 5), (4, .int yx), (5, .int yc), (6, .int 0)] [] (uI yA 30 6 0) _
  refine Pa.mp 1 (pc' := 14) (l' := [(7, .int 5), (0, .ref 30), (1, .ref ya), (2, .int 2), (3, .int 5), (4, .int yx), (5, .int yc), (6, .int 0)]) (st' := [.int 0]) (by rfl) ?_
  refine Pa.ic (x := 30) (pc' := 16) (by rfl) (by rfl) (by decide) ?_
  refine Pa.if2k true (by rfl) (by rfl) (by decide) ?_
  show Pa N 39 21 [(7, .int 5), (0, .ref 30), (1, .ref ya), (2, .int 2), (3, .int 5), (4, .int yx), (5, .int yc), (6, .int 0)] [] (uI yA 30 6 0) _
  refine Pa.mp 2 (pc' := 24) (l' := [(7, .int 5), (0, .ref 30), (1, .ref ya), (2, .int 2), (3, .int 5), (4, .int yx), (5, .int yc), (6, .int 0)]) (st' := [.int 5, .int 2]) (by rfl) ?_
  refine Pa.ist (by rfl) (by rfl) (.inl rfl) (by rfl) (by rfl) ?_
  refine Pa.mono (c_bod2_5 N (uI yA 30 6 0)) (fun yu A1 hu => ?_)
  obtain ⟨rfl, hu⟩ := hu
  rw [hu]
  show Pa N 39 27 [(7, .int 5), (0, .ref 30), (1, .ref ya), (2, .int 2), (3, .int 5), (4, .int yx), (5, .int yc), (6, .int 0)] [.int 61] (uI yA 30 6 0) _
  refine Pa.mp 2 (pc' := 30) (l' := [(8, .int 61), (7, .int 5), (0, .ref 30), (1, .ref ya), (2, .int 2), (3, .int 5), (4, .int yx), (5, .int yc), (6, .int 0)]) (st' := [.ref 30]) (by rfl) ?_
  refine Pa.gfI (v := 0) (by rfl) (by rfl) (.inl rfl) (by rfl) (by show (uI yA 30 6 0).1 30 6 = 0; rw [uI_h]) ?_
  refine Pa.ic (x := 24) (pc' := 35) (by rfl) (by rfl) (by decide) ?_
  refine Pa.if2k false (by rfl) (by rfl) (by decide) ?_
  show Pa N 39 38 [(8, .int 61), (7, .int 5), (0, .ref 30), (1, .ref ya), (2, .int 2), (3, .int 5), (4, .int yx), (5, .int yc), (6, .int 0)] [] (uI yA 30 6 0) _
  refine Pa.mp 1 (pc' := 39) (l' := [(8, .int 61), (7, .int 5), (0, .ref 30), (1, .ref ya), (2, .int 2), (3, .int 5), (4, .int yx), (5, .int yc), (6, .int 0)]) (st' := [.ref 30]) (by rfl) ?_
  refine Pa.gfR (by rfl) (by rfl) (.inl rfl) (by rfl) ?_
  show Pa N 39 42 [(8, .int 61), (7, .int 5), (0, .ref 30), (1, .ref ya), (2, .int 2), (3, .int 5), (4, .int yx), (5, .int yc), (6, .int 0)] [.ref 33] (uI yA 30 6 0) _
  refine Pa.mp 1 (pc' := 43) (l' := [(8, .int 61), (7, .int 5), (0, .ref 30), (1, .ref ya), (2, .int 2), (3, .int 5), (4, .int yx), (5, .int yc), (6, .int 0)]) (st' := [.ref 30, .ref 33]) (by rfl) ?_
  refine Pa.gfI (v := 0) (by rfl) (by rfl) (.inl rfl) (by rfl) (by show (uI yA 30 6 0).1 30 6 = 0; rw [uI_h]) ?_
  refine Pa.mp 1 (pc' := 48) (l' := [(8, .int 61), (7, .int 5), (0, .ref 30), (1, .ref ya), (2, .int 2), (3, .int 5), (4, .int yx), (5, .int yc), (6, .int 0)]) (st' := [.int 61, .int 0, .ref 33]) (by rfl) ?_
  refine Pa.asts (j' := 0) (by rfl) (by rfl) (by rfl) (fun h1 h2 => ?_)
  show Pa N 39 49 [(8, .int 61), (7, .int 5), (0, .ref 30), (1, .ref ya), (2, .int 2), (3, .int 5), (4, .int yx), (5, .int yc), (6, .int 0)] [] (uI (uI yA 30 6 0) 33 0 61) _
  refine Pa.mp 2 (pc' := 51) (l' := [(8, .int 61), (7, .int 5), (0, .ref 30), (1, .ref ya), (2, .int 2), (3, .int 5), (4, .int yx), (5, .int yc), (6, .int 0)]) (st' := [.ref 30, .ref 30]) (by rfl) ?_
  refine Pa.gfI (v := 0) (by rfl) (by rfl) (.inl rfl) (by rfl) (by show (uI (uI yA 30 6 0) 33 0 61).1 30 6 = 0; rw [uI_c (by decide), uI_h]) ?_
  refine Pa.ic (x := 1) (pc' := 55) (by rfl) (by rfl) (by decide) ?_
  refine Pa.mp 1 (pc' := 56) (l' := [(8, .int 61), (7, .int 5), (0, .ref 30), (1, .ref ya), (2, .int 2), (3, .int 5), (4, .int yx), (5, .int yc), (6, .int 0)]) (st' := [.int 1, .ref 30]) (by rfl) ?_
  refine Pa.pfI (by rfl) (by rfl) (.inl rfl) (by rfl) ?_
  show Pa N 39 59 [(8, .int 61), (7, .int 5), (0, .ref 30), (1, .ref ya), (2, .int 2), (3, .int 5), (4, .int yx), (5, .int yc), (6, .int 0)] [] (uI (uI (uI yA 30 6 0) 33 0 61) 30 6 1) _
  refine Pa.mp 1 (pc' := 61) (l' := [(8, .int 61), (7, .int 5), (0, .ref 30), (1, .ref ya), (2, .int 2), (3, .int 5), (4, .int yx), (5, .int yc), (6, .int 0)]) (st' := [.int 5]) (by rfl) ?_
  refine Pa.ist (by rfl) (by rfl) (.inl rfl) (by rfl) (by rfl) ?_
  refine Pa.mono (c_abv5 N (uI (uI (uI yA 30 6 0) 33 0 61) 30 6 1)) (fun yu A1 hu => ?_)
  obtain ⟨rfl, hu⟩ := hu
  rw [hu]
  show Pa N 39 64 [(8, .int 61), (7, .int 5), (0, .ref 30), (1, .ref ya), (2, .int 2), (3, .int 5), (4, .int yx), (5, .int yc), (6, .int 0)] [.int 2] (uI (uI (uI yA 30 6 0) 33 0 61) 30 6 1) _
  refine Pa.mp 2 (pc' := 68) (l' := [(9, .int 2), (8, .int 61), (7, .int 5), (0, .ref 30), (1, .ref ya), (2, .int 2), (3, .int 5), (4, .int yx), (5, .int yc), (6, .int 0)]) (st' := [.int 0]) (by rfl) ?_
  refine Pa.ic (x := 1) (pc' := 69) (by rfl) (by rfl) (by decide) ?_
  refine Pa.mp 3 (pc' := 74) (l' := [(10, .int 1), (9, .int 2), (8, .int 61), (7, .int 5), (0, .ref 30), (1, .ref ya), (2, .int 2), (3, .int 5), (4, .int yx), (5, .int yc), (6, .int 0)]) (st' := [.int 61]) (by rfl) ?_
  refine Pa.mp 1 (pc' := 314) (l' := [(10, .int 1), (9, .int 2), (8, .int 61), (7, .int 5), (0, .ref 30), (1, .ref ya), (2, .int 2), (3, .int 5), (4, .int yx), (5, .int yc), (6, .int 0)]) (st' := []) (by rfl) ?_
  refine Pa.mp 2 (pc' := 316) (l' := [(10, .int 1), (9, .int 2), (8, .int 61), (7, .int 5), (0, .ref 30), (1, .ref ya), (2, .int 2), (3, .int 5), (4, .int yx), (5, .int yc), (6, .int 0)]) (st' := [.ref ya, .ref 30]) (by rfl) ?_
  refine Pa.ic (x := 2) (pc' := 317) (by rfl) (by rfl) (by decide) ?_
  refine Pa.mp 4 (pc' := 325) (l' := [(10, .int 1), (9, .int 2), (8, .int 61), (7, .int 5), (0, .ref 30), (1, .ref ya), (2, .int 2), (3, .int 5), (4, .int yx), (5, .int yc), (6, .int 0)]) (st' := [.int 1, .int yc, .int yx, .int 2, .int 2, .ref ya, .ref 30]) (by rfl) ?_
  refine Pa.inv (by rfl) (by rfl) (.inl rfl) (by rfl) ?_
  show Pa N 39 0 [(0, .ref 30), (1, .ref ya), (2, .int 2), (3, .int 2), (4, .int yx), (5, .int yc), (6, .int 1)] [] (uI (uI (uI yA 30 6 0) 33 0 61) 30 6 1) _
  refine Pa.mp 2 (pc' := 2) (l' := [(0, .ref 30), (1, .ref ya), (2, .int 2), (3, .int 2), (4, .int yx), (5, .int yc), (6, .int 1)]) (st' := [.int 2, .int 2]) (by rfl) ?_
  refine Pa.ist (by rfl) (by rfl) (.inl rfl) (by rfl) (by rfl) ?_
  refine Pa.mono (c_kwb2_2 N (uI (uI (uI yA 30 6 0) 33 0 61) 30 6 1)) (fun yu A1 hu => ?_)
  obtain ⟨rfl, hu⟩ := hu
  rw [hu]
  show Pa N 39 5 [(0, .ref 30), (1, .ref ya), (2, .int 2), (3, .int 2), (4, .int yx), (5, .int yc), (6, .int 1)] [.int 0] (uI (uI (uI yA 30 6 0) 33 0 61) 30 6 1) _
  refine Pa.mp 2 (pc' := 9) (l' := [(7, .int 0), (0, .ref 30), (1, .ref ya), (2, .int 2), (3, .int 2), (4, .int yx), (5, .int yc), (6, .int 1)]) (st' := [.int 0]) (by rfl) ?_
  refine Pa.if1k false (by rfl) (by rfl) (by decide) ?_
  show Pa N 39 12 [(7, .int 0), (0, .ref 30), (1, .ref ya), (2, .int 2), (3, .int 2), (4, .int yx), (5, .int yc), (6, .int 1)] [] (uI (uI (uI yA 30 6 0) 33 0 61) 30 6 1) _
  refine Pa.mp 1 (pc' := 14) (l' := [(7, .int 0), (0, .ref 30), (1, .ref ya), (2, .int 2), (3, .int 2), (4, .int yx), (5, .int yc), (6, .int 1)]) (st' := [.int 1]) (by rfl) ?_
  refine Pa.ic (x := 30) (pc' := 16) (by rfl) (by rfl) (by decide) ?_
  refine Pa.if2k true (by rfl) (by rfl) (by decide) ?_
  show Pa N 39 21 [(7, .int 0), (0, .ref 30), (1, .ref ya), (2, .int 2), (3, .int 2), (4, .int yx), (5, .int yc), (6, .int 1)] [] (uI (uI (uI yA 30 6 0) 33 0 61) 30 6 1) _
  refine Pa.mp 2 (pc' := 24) (l' := [(7, .int 0), (0, .ref 30), (1, .ref ya), (2, .int 2), (3, .int 2), (4, .int yx), (5, .int yc), (6, .int 1)]) (st' := [.int 0, .int 2]) (by rfl) ?_
  refine Pa.ist (by rfl) (by rfl) (.inl rfl) (by rfl) (by rfl) ?_
  refine Pa.mono (c_bod2_0 N (uI (uI (uI yA 30 6 0) 33 0 61) 30 6 1)) (fun yu A1 hu => ?_)
  obtain ⟨rfl, hu⟩ := hu
  rw [hu]
  show Pa N 39 27 [(7, .int 0), (0, .ref 30), (1, .ref ya), (2, .int 2), (3, .int 2), (4, .int yx), (5, .int yc), (6, .int 1)] [.int 12] (uI (uI (uI yA 30 6 0) 33 0 61) 30 6 1) _
  refine Pa.mp 2 (pc' := 30) (l' := [(8, .int 12), (7, .int 0), (0, .ref 30), (1, .ref ya), (2, .int 2), (3, .int 2), (4, .int yx), (5, .int yc), (6, .int 1)]) (st' := [.ref 30]) (by rfl) ?_
  refine Pa.gfI (v := 1) (by rfl) (by rfl) (.inl rfl) (by rfl) (by show (uI (uI (uI yA 30 6 0) 33 0 61) 30 6 1).1 30 6 = 1; rw [uI_h]) ?_
  refine Pa.ic (x := 24) (pc' := 35) (by rfl) (by rfl) (by decide) ?_
  refine Pa.if2k false (by rfl) (by rfl) (by decide) ?_
  show Pa N 39 38 [(8, .int 12), (7, .int 0), (0, .ref 30), (1, .ref ya), (2, .int 2), (3, .int 2), (4, .int yx), (5, .int yc), (6, .int 1)] [] (uI (uI (uI yA 30 6 0) 33 0 61) 30 6 1) _
  refine Pa.mp 1 (pc' := 39) (l' := [(8, .int 12), (7, .int 0), (0, .ref 30), (1, .ref ya), (2, .int 2), (3, .int 2), (4, .int yx), (5, .int yc), (6, .int 1)]) (st' := [.ref 30]) (by rfl) ?_
  refine Pa.gfR (by rfl) (by rfl) (.inl rfl) (by rfl) ?_
  show Pa N 39 42 [(8, .int 12), (7, .int 0), (0, .ref 30), (1, .ref ya), (2, .int 2), (3, .int 2), (4, .int yx), (5, .int yc), (6, .int 1)] [.ref 33] (uI (uI (uI yA 30 6 0) 33 0 61) 30 6 1) _
  refine Pa.mp 1 (pc' := 43) (l' := [(8, .int 12), (7, .int 0), (0, .ref 30), (1, .ref ya), (2, .int 2), (3, .int 2), (4, .int yx), (5, .int yc), (6, .int 1)]) (st' := [.ref 30, .ref 33]) (by rfl) ?_
  refine Pa.gfI (v := 1) (by rfl) (by rfl) (.inl rfl) (by rfl) (by show (uI (uI (uI yA 30 6 0) 33 0 61) 30 6 1).1 30 6 = 1; rw [uI_h]) ?_
  refine Pa.mp 1 (pc' := 48) (l' := [(8, .int 12), (7, .int 0), (0, .ref 30), (1, .ref ya), (2, .int 2), (3, .int 2), (4, .int yx), (5, .int yc), (6, .int 1)]) (st' := [.int 12, .int 1, .ref 33]) (by rfl) ?_
  refine Pa.asts (j' := 1) (by rfl) (by rfl) (by rfl) (fun h3 h4 => ?_)
  show Pa N 39 49 [(8, .int 12), (7, .int 0), (0, .ref 30), (1, .ref ya), (2, .int 2), (3, .int 2), (4, .int yx), (5, .int yc), (6, .int 1)] [] (uI (uI (uI (uI yA 30 6 0) 33 0 61) 30 6 1) 33 1 12) _
  refine Pa.mp 2 (pc' := 51) (l' := [(8, .int 12), (7, .int 0), (0, .ref 30), (1, .ref ya), (2, .int 2), (3, .int 2), (4, .int yx), (5, .int yc), (6, .int 1)]) (st' := [.ref 30, .ref 30]) (by rfl) ?_
  refine Pa.gfI (v := 1) (by rfl) (by rfl) (.inl rfl) (by rfl) (by show (uI (uI (uI (uI yA 30 6 0) 33 0 61) 30 6 1) 33 1 12).1 30 6 = 1; rw [uI_c (by decide), uI_h]) ?_
  refine Pa.ic (x := 1) (pc' := 55) (by rfl) (by rfl) (by decide) ?_
  refine Pa.mp 1 (pc' := 56) (l' := [(8, .int 12), (7, .int 0), (0, .ref 30), (1, .ref ya), (2, .int 2), (3, .int 2), (4, .int yx), (5, .int yc), (6, .int 1)]) (st' := [.int 2, .ref 30]) (by rfl) ?_
  refine Pa.pfI (by rfl) (by rfl) (.inl rfl) (by rfl) ?_
  show Pa N 39 59 [(8, .int 12), (7, .int 0), (0, .ref 30), (1, .ref ya), (2, .int 2), (3, .int 2), (4, .int yx), (5, .int yc), (6, .int 1)] [] (uI (uI (uI (uI (uI yA 30 6 0) 33 0 61) 30 6 1) 33 1 12) 30 6 2) _
  refine Pa.mp 1 (pc' := 61) (l' := [(8, .int 12), (7, .int 0), (0, .ref 30), (1, .ref ya), (2, .int 2), (3, .int 2), (4, .int yx), (5, .int yc), (6, .int 1)]) (st' := [.int 0]) (by rfl) ?_
  refine Pa.ist (by rfl) (by rfl) (.inl rfl) (by rfl) (by rfl) ?_
  refine Pa.mono (c_abv0 N (uI (uI (uI (uI (uI yA 30 6 0) 33 0 61) 30 6 1) 33 1 12) 30 6 2)) (fun yu A1 hu => ?_)
  obtain ⟨rfl, hu⟩ := hu
  rw [hu]
  show Pa N 39 64 [(8, .int 12), (7, .int 0), (0, .ref 30), (1, .ref ya), (2, .int 2), (3, .int 2), (4, .int yx), (5, .int yc), (6, .int 1)] [.int (-1)] (uI (uI (uI (uI (uI yA 30 6 0) 33 0 61) 30 6 1) 33 1 12) 30 6 2) _
  refine Pa.mp 2 (pc' := 68) (l' := [(9, .int (-1)), (8, .int 12), (7, .int 0), (0, .ref 30), (1, .ref ya), (2, .int 2), (3, .int 2), (4, .int yx), (5, .int yc), (6, .int 1)]) (st' := [.int 1]) (by rfl) ?_
  refine Pa.ic (x := 1) (pc' := 69) (by rfl) (by rfl) (by decide) ?_
  refine Pa.mp 3 (pc' := 74) (l' := [(10, .int 2), (9, .int (-1)), (8, .int 12), (7, .int 0), (0, .ref 30), (1, .ref ya), (2, .int 2), (3, .int 2), (4, .int yx), (5, .int yc), (6, .int 1)]) (st' := [.int 12]) (by rfl) ?_
  refine Pa.mp 1 (pc' := 189) (l' := [(10, .int 2), (9, .int (-1)), (8, .int 12), (7, .int 0), (0, .ref 30), (1, .ref ya), (2, .int 2), (3, .int 2), (4, .int yx), (5, .int yc), (6, .int 1)]) (st' := []) (by rfl) ?_
  refine Pa.mp 2 (pc' := 191) (l' := [(10, .int 2), (9, .int (-1)), (8, .int 12), (7, .int 0), (0, .ref 30), (1, .ref ya), (2, .int 2), (3, .int 2), (4, .int yx), (5, .int yc), (6, .int 1)]) (st' := [.ref ya, .ref 30]) (by rfl) ?_
  refine Pa.ic (x := 1) (pc' := 192) (by rfl) (by rfl) (by decide) ?_
  refine Pa.mp 1 (pc' := 193) (l' := [(10, .int 2), (9, .int (-1)), (8, .int 12), (7, .int 0), (0, .ref 30), (1, .ref ya), (2, .int 2), (3, .int 2), (4, .int yx), (5, .int yc), (6, .int 1)]) (st' := [.ref ya, .int 1, .ref ya, .ref 30]) (by rfl) ?_
  refine Pa.gfI (v := 5) (by rfl) (by rfl) (.inr rfl) (by rfl) (by show (uI (uI (uI (uI (uI yA 30 6 0) 33 0 61) 30 6 1) 33 1 12) 30 6 2).1 ya 1 = 5; rw [uI_c (by omega), uI_c (by omega), uI_c (by omega), uI_c (by omega), uI_c (by omega), hk]) ?_
  refine Pa.mp 3 (pc' := 202) (l' := [(10, .int 2), (9, .int (-1)), (8, .int 12), (7, .int 0), (0, .ref 30), (1, .ref ya), (2, .int 2), (3, .int 2), (4, .int yx), (5, .int yc), (6, .int 1)]) (st' := [.int 2, .int yc, .int yx, .int 5, .int 1, .ref ya, .ref 30]) (by rfl) ?_
  refine Pa.inv (by rfl) (by rfl) (.inl rfl) (by rfl) ?_
  show Pa N 39 0 [(0, .ref 30), (1, .ref ya), (2, .int 1), (3, .int 5), (4, .int yx), (5, .int yc), (6, .int 2)] [] (uI (uI (uI (uI (uI yA 30 6 0) 33 0 61) 30 6 1) 33 1 12) 30 6 2) _
  refine Pa.mp 2 (pc' := 2) (l' := [(0, .ref 30), (1, .ref ya), (2, .int 1), (3, .int 5), (4, .int yx), (5, .int yc), (6, .int 2)]) (st' := [.int 5, .int 1]) (by rfl) ?_
  refine Pa.ist (by rfl) (by rfl) (.inl rfl) (by rfl) (by rfl) ?_
  refine Pa.mono (c_kwb1_5 N (uI (uI (uI (uI (uI yA 30 6 0) 33 0 61) 30 6 1) 33 1 12) 30 6 2)) (fun yu A1 hu => ?_)
  obtain ⟨rfl, hu⟩ := hu
  rw [hu]
  show Pa N 39 5 [(0, .ref 30), (1, .ref ya), (2, .int 1), (3, .int 5), (4, .int yx), (5, .int yc), (6, .int 2)] [.int 0] (uI (uI (uI (uI (uI yA 30 6 0) 33 0 61) 30 6 1) 33 1 12) 30 6 2) _
  refine Pa.mp 2 (pc' := 9) (l' := [(7, .int 0), (0, .ref 30), (1, .ref ya), (2, .int 1), (3, .int 5), (4, .int yx), (5, .int yc), (6, .int 2)]) (st' := [.int 0]) (by rfl) ?_
  refine Pa.if1k false (by rfl) (by rfl) (by decide) ?_
  show Pa N 39 12 [(7, .int 0), (0, .ref 30), (1, .ref ya), (2, .int 1), (3, .int 5), (4, .int yx), (5, .int yc), (6, .int 2)] [] (uI (uI (uI (uI (uI yA 30 6 0) 33 0 61) 30 6 1) 33 1 12) 30 6 2) _
  refine Pa.mp 1 (pc' := 14) (l' := [(7, .int 0), (0, .ref 30), (1, .ref ya), (2, .int 1), (3, .int 5), (4, .int yx), (5, .int yc), (6, .int 2)]) (st' := [.int 2]) (by rfl) ?_
  refine Pa.ic (x := 30) (pc' := 16) (by rfl) (by rfl) (by decide) ?_
  refine Pa.if2k true (by rfl) (by rfl) (by decide) ?_
  show Pa N 39 21 [(7, .int 0), (0, .ref 30), (1, .ref ya), (2, .int 1), (3, .int 5), (4, .int yx), (5, .int yc), (6, .int 2)] [] (uI (uI (uI (uI (uI yA 30 6 0) 33 0 61) 30 6 1) 33 1 12) 30 6 2) _
  refine Pa.mp 2 (pc' := 24) (l' := [(7, .int 0), (0, .ref 30), (1, .ref ya), (2, .int 1), (3, .int 5), (4, .int yx), (5, .int yc), (6, .int 2)]) (st' := [.int 0, .int 1]) (by rfl) ?_
  refine Pa.ist (by rfl) (by rfl) (.inl rfl) (by rfl) (by rfl) ?_
  refine Pa.mono (c_bod1_0 N (uI (uI (uI (uI (uI yA 30 6 0) 33 0 61) 30 6 1) 33 1 12) 30 6 2)) (fun yu A1 hu => ?_)
  obtain ⟨rfl, hu⟩ := hu
  rw [hu]
  show Pa N 39 27 [(7, .int 0), (0, .ref 30), (1, .ref ya), (2, .int 1), (3, .int 5), (4, .int yx), (5, .int yc), (6, .int 2)] [.int 11] (uI (uI (uI (uI (uI yA 30 6 0) 33 0 61) 30 6 1) 33 1 12) 30 6 2) _
  refine Pa.mp 2 (pc' := 30) (l' := [(8, .int 11), (7, .int 0), (0, .ref 30), (1, .ref ya), (2, .int 1), (3, .int 5), (4, .int yx), (5, .int yc), (6, .int 2)]) (st' := [.ref 30]) (by rfl) ?_
  refine Pa.gfI (v := 2) (by rfl) (by rfl) (.inl rfl) (by rfl) (by show (uI (uI (uI (uI (uI yA 30 6 0) 33 0 61) 30 6 1) 33 1 12) 30 6 2).1 30 6 = 2; rw [uI_h]) ?_
  refine Pa.ic (x := 24) (pc' := 35) (by rfl) (by rfl) (by decide) ?_
  refine Pa.if2k false (by rfl) (by rfl) (by decide) ?_
  show Pa N 39 38 [(8, .int 11), (7, .int 0), (0, .ref 30), (1, .ref ya), (2, .int 1), (3, .int 5), (4, .int yx), (5, .int yc), (6, .int 2)] [] (uI (uI (uI (uI (uI yA 30 6 0) 33 0 61) 30 6 1) 33 1 12) 30 6 2) _
  refine Pa.mp 1 (pc' := 39) (l' := [(8, .int 11), (7, .int 0), (0, .ref 30), (1, .ref ya), (2, .int 1), (3, .int 5), (4, .int yx), (5, .int yc), (6, .int 2)]) (st' := [.ref 30]) (by rfl) ?_
  refine Pa.gfR (by rfl) (by rfl) (.inl rfl) (by rfl) ?_
  show Pa N 39 42 [(8, .int 11), (7, .int 0), (0, .ref 30), (1, .ref ya), (2, .int 1), (3, .int 5), (4, .int yx), (5, .int yc), (6, .int 2)] [.ref 33] (uI (uI (uI (uI (uI yA 30 6 0) 33 0 61) 30 6 1) 33 1 12) 30 6 2) _
  refine Pa.mp 1 (pc' := 43) (l' := [(8, .int 11), (7, .int 0), (0, .ref 30), (1, .ref ya), (2, .int 1), (3, .int 5), (4, .int yx), (5, .int yc), (6, .int 2)]) (st' := [.ref 30, .ref 33]) (by rfl) ?_
  refine Pa.gfI (v := 2) (by rfl) (by rfl) (.inl rfl) (by rfl) (by show (uI (uI (uI (uI (uI yA 30 6 0) 33 0 61) 30 6 1) 33 1 12) 30 6 2).1 30 6 = 2; rw [uI_h]) ?_
  refine Pa.mp 1 (pc' := 48) (l' := [(8, .int 11), (7, .int 0), (0, .ref 30), (1, .ref ya), (2, .int 1), (3, .int 5), (4, .int yx), (5, .int yc), (6, .int 2)]) (st' := [.int 11, .int 2, .ref 33]) (by rfl) ?_
  refine Pa.asts (j' := 2) (by rfl) (by rfl) (by rfl) (fun h5 h6 => ?_)
  show Pa N 39 49 [(8, .int 11), (7, .int 0), (0, .ref 30), (1, .ref ya), (2, .int 1), (3, .int 5), (4, .int yx), (5, .int yc), (6, .int 2)] [] (uI (uI (uI (uI (uI (uI yA 30 6 0) 33 0 61) 30 6 1) 33 1 12) 30 6 2) 33 2 11) _
  refine Pa.mp 2 (pc' := 51) (l' := [(8, .int 11), (7, .int 0), (0, .ref 30), (1, .ref ya), (2, .int 1), (3, .int 5), (4, .int yx), (5, .int yc), (6, .int 2)]) (st' := [.ref 30, .ref 30]) (by rfl) ?_
  refine Pa.gfI (v := 2) (by rfl) (by rfl) (.inl rfl) (by rfl) (by show (uI (uI (uI (uI (uI (uI yA 30 6 0) 33 0 61) 30 6 1) 33 1 12) 30 6 2) 33 2 11).1 30 6 = 2; rw [uI_c (by decide), uI_h]) ?_
  refine Pa.ic (x := 1) (pc' := 55) (by rfl) (by rfl) (by decide) ?_
  refine Pa.mp 1 (pc' := 56) (l' := [(8, .int 11), (7, .int 0), (0, .ref 30), (1, .ref ya), (2, .int 1), (3, .int 5), (4, .int yx), (5, .int yc), (6, .int 2)]) (st' := [.int 3, .ref 30]) (by rfl) ?_
  refine Pa.pfI (by rfl) (by rfl) (.inl rfl) (by rfl) ?_
  show Pa N 39 59 [(8, .int 11), (7, .int 0), (0, .ref 30), (1, .ref ya), (2, .int 1), (3, .int 5), (4, .int yx), (5, .int yc), (6, .int 2)] [] (uI (uI (uI (uI (uI (uI (uI yA 30 6 0) 33 0 61) 30 6 1) 33 1 12) 30 6 2) 33 2 11) 30 6 3) _
  refine Pa.mp 1 (pc' := 61) (l' := [(8, .int 11), (7, .int 0), (0, .ref 30), (1, .ref ya), (2, .int 1), (3, .int 5), (4, .int yx), (5, .int yc), (6, .int 2)]) (st' := [.int 0]) (by rfl) ?_
  refine Pa.ist (by rfl) (by rfl) (.inl rfl) (by rfl) (by rfl) ?_
  refine Pa.mono (c_abv0 N (uI (uI (uI (uI (uI (uI (uI yA 30 6 0) 33 0 61) 30 6 1) 33 1 12) 30 6 2) 33 2 11) 30 6 3)) (fun yu A1 hu => ?_)
  obtain ⟨rfl, hu⟩ := hu
  rw [hu]
  show Pa N 39 64 [(8, .int 11), (7, .int 0), (0, .ref 30), (1, .ref ya), (2, .int 1), (3, .int 5), (4, .int yx), (5, .int yc), (6, .int 2)] [.int (-1)] (uI (uI (uI (uI (uI (uI (uI yA 30 6 0) 33 0 61) 30 6 1) 33 1 12) 30 6 2) 33 2 11) 30 6 3) _
  refine Pa.mp 2 (pc' := 68) (l' := [(9, .int (-1)), (8, .int 11), (7, .int 0), (0, .ref 30), (1, .ref ya), (2, .int 1), (3, .int 5), (4, .int yx), (5, .int yc), (6, .int 2)]) (st' := [.int 2]) (by rfl) ?_
  refine Pa.ic (x := 1) (pc' := 69) (by rfl) (by rfl) (by decide) ?_
  refine Pa.mp 3 (pc' := 74) (l' := [(10, .int 3), (9, .int (-1)), (8, .int 11), (7, .int 0), (0, .ref 30), (1, .ref ya), (2, .int 1), (3, .int 5), (4, .int yx), (5, .int yc), (6, .int 2)]) (st' := [.int 11]) (by rfl) ?_
  refine Pa.mp 1 (pc' := 170) (l' := [(10, .int 3), (9, .int (-1)), (8, .int 11), (7, .int 0), (0, .ref 30), (1, .ref ya), (2, .int 1), (3, .int 5), (4, .int yx), (5, .int yc), (6, .int 2)]) (st' := []) (by rfl) ?_
  refine Pa.mp 2 (pc' := 172) (l' := [(10, .int 3), (9, .int (-1)), (8, .int 11), (7, .int 0), (0, .ref 30), (1, .ref ya), (2, .int 1), (3, .int 5), (4, .int yx), (5, .int yc), (6, .int 2)]) (st' := [.ref ya, .ref 30]) (by rfl) ?_
  refine Pa.ic (x := 0) (pc' := 173) (by rfl) (by rfl) (by decide) ?_
  refine Pa.mp 1 (pc' := 174) (l' := [(10, .int 3), (9, .int (-1)), (8, .int 11), (7, .int 0), (0, .ref 30), (1, .ref ya), (2, .int 1), (3, .int 5), (4, .int yx), (5, .int yc), (6, .int 2)]) (st' := [.ref ya, .int 0, .ref ya, .ref 30]) (by rfl) ?_
  refine Pa.gfI (v := 5) (by rfl) (by rfl) (.inr rfl) (by rfl) (by show (uI (uI (uI (uI (uI (uI (uI yA 30 6 0) 33 0 61) 30 6 1) 33 1 12) 30 6 2) 33 2 11) 30 6 3).1 ya 1 = 5; rw [uI_c (by omega), uI_c (by omega), uI_c (by omega), uI_c (by omega), uI_c (by omega), uI_c (by omega), uI_c (by omega), hk]) ?_
  refine Pa.mp 3 (pc' := 183) (l' := [(10, .int 3), (9, .int (-1)), (8, .int 11), (7, .int 0), (0, .ref 30), (1, .ref ya), (2, .int 1), (3, .int 5), (4, .int yx), (5, .int yc), (6, .int 2)]) (st' := [.int 3, .int yc, .int yx, .int 5, .int 0, .ref ya, .ref 30]) (by rfl) ?_
  refine Pa.inv (by rfl) (by rfl) (.inl rfl) (by rfl) ?_
  show Pa N 39 0 [(0, .ref 30), (1, .ref ya), (2, .int 0), (3, .int 5), (4, .int yx), (5, .int yc), (6, .int 3)] [] (uI (uI (uI (uI (uI (uI (uI yA 30 6 0) 33 0 61) 30 6 1) 33 1 12) 30 6 2) 33 2 11) 30 6 3) _
  refine Pa.mp 2 (pc' := 2) (l' := [(0, .ref 30), (1, .ref ya), (2, .int 0), (3, .int 5), (4, .int yx), (5, .int yc), (6, .int 3)]) (st' := [.int 5, .int 0]) (by rfl) ?_
  refine Pa.ist (by rfl) (by rfl) (.inl rfl) (by rfl) (by rfl) ?_
  refine Pa.mono (c_kwb0_5 N (uI (uI (uI (uI (uI (uI (uI yA 30 6 0) 33 0 61) 30 6 1) 33 1 12) 30 6 2) 33 2 11) 30 6 3)) (fun yu A1 hu => ?_)
  obtain ⟨rfl, hu⟩ := hu
  rw [hu]
  show Pa N 39 5 [(0, .ref 30), (1, .ref ya), (2, .int 0), (3, .int 5), (4, .int yx), (5, .int yc), (6, .int 3)] [.int 5] (uI (uI (uI (uI (uI (uI (uI yA 30 6 0) 33 0 61) 30 6 1) 33 1 12) 30 6 2) 33 2 11) 30 6 3) _
  refine Pa.mp 2 (pc' := 9) (l' := [(7, .int 5), (0, .ref 30), (1, .ref ya), (2, .int 0), (3, .int 5), (4, .int yx), (5, .int yc), (6, .int 3)]) (st' := [.int 5]) (by rfl) ?_
  refine Pa.if1k false (by rfl) (by rfl) (by decide) ?_
  show Pa N 39 12 [(7, .int 5), (0, .ref 30), (1, .ref ya), (2, .int 0), (3, .int 5), (4, .int yx), (5, .int yc), (6, .int 3)] [] (uI (uI (uI (uI (uI (uI (uI yA 30 6 0) 33 0 61) 30 6 1) 33 1 12) 30 6 2) 33 2 11) 30 6 3) _
  refine Pa.mp 1 (pc' := 14) (l' := [(7, .int 5), (0, .ref 30), (1, .ref ya), (2, .int 0), (3, .int 5), (4, .int yx), (5, .int yc), (6, .int 3)]) (st' := [.int 3]) (by rfl) ?_
  refine Pa.ic (x := 30) (pc' := 16) (by rfl) (by rfl) (by decide) ?_
  refine Pa.if2k true (by rfl) (by rfl) (by decide) ?_
  show Pa N 39 21 [(7, .int 5), (0, .ref 30), (1, .ref ya), (2, .int 0), (3, .int 5), (4, .int yx), (5, .int yc), (6, .int 3)] [] (uI (uI (uI (uI (uI (uI (uI yA 30 6 0) 33 0 61) 30 6 1) 33 1 12) 30 6 2) 33 2 11) 30 6 3) _
  refine Pa.mp 2 (pc' := 24) (l' := [(7, .int 5), (0, .ref 30), (1, .ref ya), (2, .int 0), (3, .int 5), (4, .int yx), (5, .int yc), (6, .int 3)]) (st' := [.int 5, .int 0]) (by rfl) ?_
  refine Pa.ist (by rfl) (by rfl) (.inl rfl) (by rfl) (by rfl) ?_
  refine Pa.mono (c_bod0_5 N (uI (uI (uI (uI (uI (uI (uI yA 30 6 0) 33 0 61) 30 6 1) 33 1 12) 30 6 2) 33 2 11) 30 6 3)) (fun yu A1 hu => ?_)
  obtain ⟨rfl, hu⟩ := hu
  rw [hu]
  show Pa N 39 27 [(7, .int 5), (0, .ref 30), (1, .ref ya), (2, .int 0), (3, .int 5), (4, .int yx), (5, .int yc), (6, .int 3)] [.int 60] (uI (uI (uI (uI (uI (uI (uI yA 30 6 0) 33 0 61) 30 6 1) 33 1 12) 30 6 2) 33 2 11) 30 6 3) _
  refine Pa.mp 2 (pc' := 30) (l' := [(8, .int 60), (7, .int 5), (0, .ref 30), (1, .ref ya), (2, .int 0), (3, .int 5), (4, .int yx), (5, .int yc), (6, .int 3)]) (st' := [.ref 30]) (by rfl) ?_
  refine Pa.gfI (v := 3) (by rfl) (by rfl) (.inl rfl) (by rfl) (by show (uI (uI (uI (uI (uI (uI (uI yA 30 6 0) 33 0 61) 30 6 1) 33 1 12) 30 6 2) 33 2 11) 30 6 3).1 30 6 = 3; rw [uI_h]) ?_
  refine Pa.ic (x := 24) (pc' := 35) (by rfl) (by rfl) (by decide) ?_
  refine Pa.if2k false (by rfl) (by rfl) (by decide) ?_
  show Pa N 39 38 [(8, .int 60), (7, .int 5), (0, .ref 30), (1, .ref ya), (2, .int 0), (3, .int 5), (4, .int yx), (5, .int yc), (6, .int 3)] [] (uI (uI (uI (uI (uI (uI (uI yA 30 6 0) 33 0 61) 30 6 1) 33 1 12) 30 6 2) 33 2 11) 30 6 3) _
  refine Pa.mp 1 (pc' := 39) (l' := [(8, .int 60), (7, .int 5), (0, .ref 30), (1, .ref ya), (2, .int 0), (3, .int 5), (4, .int yx), (5, .int yc), (6, .int 3)]) (st' := [.ref 30]) (by rfl) ?_
  refine Pa.gfR (by rfl) (by rfl) (.inl rfl) (by rfl) ?_
  show Pa N 39 42 [(8, .int 60), (7, .int 5), (0, .ref 30), (1, .ref ya), (2, .int 0), (3, .int 5), (4, .int yx), (5, .int yc), (6, .int 3)] [.ref 33] (uI (uI (uI (uI (uI (uI (uI yA 30 6 0) 33 0 61) 30 6 1) 33 1 12) 30 6 2) 33 2 11) 30 6 3) _
  refine Pa.mp 1 (pc' := 43) (l' := [(8, .int 60), (7, .int 5), (0, .ref 30), (1, .ref ya), (2, .int 0), (3, .int 5), (4, .int yx), (5, .int yc), (6, .int 3)]) (st' := [.ref 30, .ref 33]) (by rfl) ?_
  refine Pa.gfI (v := 3) (by rfl) (by rfl) (.inl rfl) (by rfl) (by show (uI (uI (uI (uI (uI (uI (uI yA 30 6 0) 33 0 61) 30 6 1) 33 1 12) 30 6 2) 33 2 11) 30 6 3).1 30 6 = 3; rw [uI_h]) ?_
  refine Pa.mp 1 (pc' := 48) (l' := [(8, .int 60), (7, .int 5), (0, .ref 30), (1, .ref ya), (2, .int 0), (3, .int 5), (4, .int yx), (5, .int yc), (6, .int 3)]) (st' := [.int 60, .int 3, .ref 33]) (by rfl) ?_
  refine Pa.asts (j' := 3) (by rfl) (by rfl) (by rfl) (fun h7 h8 => ?_)
  show Pa N 39 49 [(8, .int 60), (7, .int 5), (0, .ref 30), (1, .ref ya), (2, .int 0), (3, .int 5), (4, .int yx), (5, .int yc), (6, .int 3)] [] (uI (uI (uI (uI (uI (uI (uI (uI yA 30 6 0) 33 0 61) 30 6 1) 33 1 12) 30 6 2) 33 2 11) 30 6 3) 33 3 60) _
  refine Pa.mp 2 (pc' := 51) (l' := [(8, .int 60), (7, .int 5), (0, .ref 30), (1, .ref ya), (2, .int 0), (3, .int 5), (4, .int yx), (5, .int yc), (6, .int 3)]) (st' := [.ref 30, .ref 30]) (by rfl) ?_
  refine Pa.gfI (v := 3) (by rfl) (by rfl) (.inl rfl) (by rfl) (by show (uI (uI (uI (uI (uI (uI (uI (uI yA 30 6 0) 33 0 61) 30 6 1) 33 1 12) 30 6 2) 33 2 11) 30 6 3) 33 3 60).1 30 6 = 3; rw [uI_c (by decide), uI_h]) ?_
  refine Pa.ic (x := 1) (pc' := 55) (by rfl) (by rfl) (by decide) ?_
  refine Pa.mp 1 (pc' := 56) (l' := [(8, .int 60), (7, .int 5), (0, .ref 30), (1, .ref ya), (2, .int 0), (3, .int 5), (4, .int yx), (5, .int yc), (6, .int 3)]) (st' := [.int 4, .ref 30]) (by rfl) ?_
  refine Pa.pfI (by rfl) (by rfl) (.inl rfl) (by rfl) ?_
  show Pa N 39 59 [(8, .int 60), (7, .int 5), (0, .ref 30), (1, .ref ya), (2, .int 0), (3, .int 5), (4, .int yx), (5, .int yc), (6, .int 3)] [] (uI (uI (uI (uI (uI (uI (uI (uI (uI yA 30 6 0) 33 0 61) 30 6 1) 33 1 12) 30 6 2) 33 2 11) 30 6 3) 33 3 60) 30 6 4) _
  refine Pa.mp 1 (pc' := 61) (l' := [(8, .int 60), (7, .int 5), (0, .ref 30), (1, .ref ya), (2, .int 0), (3, .int 5), (4, .int yx), (5, .int yc), (6, .int 3)]) (st' := [.int 5]) (by rfl) ?_
  refine Pa.ist (by rfl) (by rfl) (.inl rfl) (by rfl) (by rfl) ?_
  refine Pa.mono (c_abv5 N (uI (uI (uI (uI (uI (uI (uI (uI (uI yA 30 6 0) 33 0 61) 30 6 1) 33 1 12) 30 6 2) 33 2 11) 30 6 3) 33 3 60) 30 6 4)) (fun yu A1 hu => ?_)
  obtain ⟨rfl, hu⟩ := hu
  rw [hu]
  show Pa N 39 64 [(8, .int 60), (7, .int 5), (0, .ref 30), (1, .ref ya), (2, .int 0), (3, .int 5), (4, .int yx), (5, .int yc), (6, .int 3)] [.int 2] (uI (uI (uI (uI (uI (uI (uI (uI (uI yA 30 6 0) 33 0 61) 30 6 1) 33 1 12) 30 6 2) 33 2 11) 30 6 3) 33 3 60) 30 6 4) _
  refine Pa.mp 2 (pc' := 68) (l' := [(9, .int 2), (8, .int 60), (7, .int 5), (0, .ref 30), (1, .ref ya), (2, .int 0), (3, .int 5), (4, .int yx), (5, .int yc), (6, .int 3)]) (st' := [.int 3]) (by rfl) ?_
  refine Pa.ic (x := 1) (pc' := 69) (by rfl) (by rfl) (by decide) ?_
  refine Pa.mp 3 (pc' := 74) (l' := [(10, .int 4), (9, .int 2), (8, .int 60), (7, .int 5), (0, .ref 30), (1, .ref ya), (2, .int 0), (3, .int 5), (4, .int yx), (5, .int yc), (6, .int 3)]) (st' := [.int 60]) (by rfl) ?_
  refine Pa.mp 1 (pc' := 297) (l' := [(10, .int 4), (9, .int 2), (8, .int 60), (7, .int 5), (0, .ref 30), (1, .ref ya), (2, .int 0), (3, .int 5), (4, .int yx), (5, .int yc), (6, .int 3)]) (st' := []) (by rfl) ?_
  refine Pa.mp 2 (pc' := 299) (l' := [(10, .int 4), (9, .int 2), (8, .int 60), (7, .int 5), (0, .ref 30), (1, .ref ya), (2, .int 0), (3, .int 5), (4, .int yx), (5, .int yc), (6, .int 3)]) (st' := [.ref ya, .ref 30]) (by rfl) ?_
  refine Pa.ic (x := 0) (pc' := 300) (by rfl) (by rfl) (by decide) ?_
  refine Pa.mp 2 (pc' := 304) (l' := [(10, .int 4), (9, .int 2), (8, .int 60), (7, .int 5), (0, .ref 30), (1, .ref ya), (2, .int 0), (3, .int 5), (4, .int yx), (5, .int yc), (6, .int 3)]) (st' := [.int yx, .int 2, .int 0, .ref ya, .ref 30]) (by rfl) ?_
  refine Pa.ic (x := 1) (pc' := 305) (by rfl) (by rfl) (by decide) ?_
  refine Pa.mp 3 (pc' := 310) (l' := [(10, .int 4), (9, .int 2), (8, .int 60), (7, .int 5), (0, .ref 30), (1, .ref ya), (2, .int 0), (3, .int 5), (4, .int yx), (5, .int yc), (6, .int 3)]) (st' := [.int 4, .int yc, .int (yx + 1), .int 2, .int 0, .ref ya, .ref 30]) (by rfl) ?_
  refine Pa.inv (by rfl) (by rfl) (.inl rfl) (by rfl) ?_
  show Pa N 39 0 [(0, .ref 30), (1, .ref ya), (2, .int 0), (3, .int 2), (4, .int (yx + 1)), (5, .int yc), (6, .int 4)] [] (uI (uI (uI (uI (uI (uI (uI (uI (uI yA 30 6 0) 33 0 61) 30 6 1) 33 1 12) 30 6 2) 33 2 11) 30 6 3) 33 3 60) 30 6 4) _
  refine Pa.mp 2 (pc' := 2) (l' := [(0, .ref 30), (1, .ref ya), (2, .int 0), (3, .int 2), (4, .int (yx + 1)), (5, .int yc), (6, .int 4)]) (st' := [.int 2, .int 0]) (by rfl) ?_
  refine Pa.ist (by rfl) (by rfl) (.inl rfl) (by rfl) (by rfl) ?_
  refine Pa.mono (c_kwb0_2 N (uI (uI (uI (uI (uI (uI (uI (uI (uI yA 30 6 0) 33 0 61) 30 6 1) 33 1 12) 30 6 2) 33 2 11) 30 6 3) 33 3 60) 30 6 4)) (fun yu A1 hu => ?_)
  obtain ⟨rfl, hu⟩ := hu
  rw [hu]
  show Pa N 39 5 [(0, .ref 30), (1, .ref ya), (2, .int 0), (3, .int 2), (4, .int (yx + 1)), (5, .int yc), (6, .int 4)] [.int 2] (uI (uI (uI (uI (uI (uI (uI (uI (uI yA 30 6 0) 33 0 61) 30 6 1) 33 1 12) 30 6 2) 33 2 11) 30 6 3) 33 3 60) 30 6 4) _
  refine Pa.mp 2 (pc' := 9) (l' := [(7, .int 2), (0, .ref 30), (1, .ref ya), (2, .int 0), (3, .int 2), (4, .int (yx + 1)), (5, .int yc), (6, .int 4)]) (st' := [.int 2]) (by rfl) ?_
  refine Pa.if1k false (by rfl) (by rfl) (by decide) ?_
  show Pa N 39 12 [(7, .int 2), (0, .ref 30), (1, .ref ya), (2, .int 0), (3, .int 2), (4, .int (yx + 1)), (5, .int yc), (6, .int 4)] [] (uI (uI (uI (uI (uI (uI (uI (uI (uI yA 30 6 0) 33 0 61) 30 6 1) 33 1 12) 30 6 2) 33 2 11) 30 6 3) 33 3 60) 30 6 4) _
  refine Pa.mp 1 (pc' := 14) (l' := [(7, .int 2), (0, .ref 30), (1, .ref ya), (2, .int 0), (3, .int 2), (4, .int (yx + 1)), (5, .int yc), (6, .int 4)]) (st' := [.int 4]) (by rfl) ?_
  refine Pa.ic (x := 30) (pc' := 16) (by rfl) (by rfl) (by decide) ?_
  refine Pa.if2k true (by rfl) (by rfl) (by decide) ?_
  show Pa N 39 21 [(7, .int 2), (0, .ref 30), (1, .ref ya), (2, .int 0), (3, .int 2), (4, .int (yx + 1)), (5, .int yc), (6, .int 4)] [] (uI (uI (uI (uI (uI (uI (uI (uI (uI yA 30 6 0) 33 0 61) 30 6 1) 33 1 12) 30 6 2) 33 2 11) 30 6 3) 33 3 60) 30 6 4) _
  refine Pa.mp 2 (pc' := 24) (l' := [(7, .int 2), (0, .ref 30), (1, .ref ya), (2, .int 0), (3, .int 2), (4, .int (yx + 1)), (5, .int yc), (6, .int 4)]) (st' := [.int 2, .int 0]) (by rfl) ?_
  refine Pa.ist (by rfl) (by rfl) (.inl rfl) (by rfl) (by rfl) ?_
  refine Pa.mono (c_bod0_2 N (uI (uI (uI (uI (uI (uI (uI (uI (uI yA 30 6 0) 33 0 61) 30 6 1) 33 1 12) 30 6 2) 33 2 11) 30 6 3) 33 3 60) 30 6 4)) (fun yu A1 hu => ?_)
  obtain ⟨rfl, hu⟩ := hu
  rw [hu]
  show Pa N 39 27 [(7, .int 2), (0, .ref 30), (1, .ref ya), (2, .int 0), (3, .int 2), (4, .int (yx + 1)), (5, .int yc), (6, .int 4)] [.int 30] (uI (uI (uI (uI (uI (uI (uI (uI (uI yA 30 6 0) 33 0 61) 30 6 1) 33 1 12) 30 6 2) 33 2 11) 30 6 3) 33 3 60) 30 6 4) _
  refine Pa.mp 2 (pc' := 30) (l' := [(8, .int 30), (7, .int 2), (0, .ref 30), (1, .ref ya), (2, .int 0), (3, .int 2), (4, .int (yx + 1)), (5, .int yc), (6, .int 4)]) (st' := [.ref 30]) (by rfl) ?_
  refine Pa.gfI (v := 4) (by rfl) (by rfl) (.inl rfl) (by rfl) (by show (uI (uI (uI (uI (uI (uI (uI (uI (uI yA 30 6 0) 33 0 61) 30 6 1) 33 1 12) 30 6 2) 33 2 11) 30 6 3) 33 3 60) 30 6 4).1 30 6 = 4; rw [uI_h]) ?_
  refine Pa.ic (x := 24) (pc' := 35) (by rfl) (by rfl) (by decide) ?_
  refine Pa.if2k false (by rfl) (by rfl) (by decide) ?_
  show Pa N 39 38 [(8, .int 30), (7, .int 2), (0, .ref 30), (1, .ref ya), (2, .int 0), (3, .int 2), (4, .int (yx + 1)), (5, .int yc), (6, .int 4)] [] (uI (uI (uI (uI (uI (uI (uI (uI (uI yA 30 6 0) 33 0 61) 30 6 1) 33 1 12) 30 6 2) 33 2 11) 30 6 3) 33 3 60) 30 6 4) _
  refine Pa.mp 1 (pc' := 39) (l' := [(8, .int 30), (7, .int 2), (0, .ref 30), (1, .ref ya), (2, .int 0), (3, .int 2), (4, .int (yx + 1)), (5, .int yc), (6, .int 4)]) (st' := [.ref 30]) (by rfl) ?_
  refine Pa.gfR (by rfl) (by rfl) (.inl rfl) (by rfl) ?_
  show Pa N 39 42 [(8, .int 30), (7, .int 2), (0, .ref 30), (1, .ref ya), (2, .int 0), (3, .int 2), (4, .int (yx + 1)), (5, .int yc), (6, .int 4)] [.ref 33] (uI (uI (uI (uI (uI (uI (uI (uI (uI yA 30 6 0) 33 0 61) 30 6 1) 33 1 12) 30 6 2) 33 2 11) 30 6 3) 33 3 60) 30 6 4) _
  refine Pa.mp 1 (pc' := 43) (l' := [(8, .int 30), (7, .int 2), (0, .ref 30), (1, .ref ya), (2, .int 0), (3, .int 2), (4, .int (yx + 1)), (5, .int yc), (6, .int 4)]) (st' := [.ref 30, .ref 33]) (by rfl) ?_
  refine Pa.gfI (v := 4) (by rfl) (by rfl) (.inl rfl) (by rfl) (by show (uI (uI (uI (uI (uI (uI (uI (uI (uI yA 30 6 0) 33 0 61) 30 6 1) 33 1 12) 30 6 2) 33 2 11) 30 6 3) 33 3 60) 30 6 4).1 30 6 = 4; rw [uI_h]) ?_
  refine Pa.mp 1 (pc' := 48) (l' := [(8, .int 30), (7, .int 2), (0, .ref 30), (1, .ref ya), (2, .int 0), (3, .int 2), (4, .int (yx + 1)), (5, .int yc), (6, .int 4)]) (st' := [.int 30, .int 4, .ref 33]) (by rfl) ?_
  refine Pa.asts (j' := 4) (by rfl) (by rfl) (by rfl) (fun h9 h10 => ?_)
  show Pa N 39 49 [(8, .int 30), (7, .int 2), (0, .ref 30), (1, .ref ya), (2, .int 0), (3, .int 2), (4, .int (yx + 1)), (5, .int yc), (6, .int 4)] [] (uI (uI (uI (uI (uI (uI (uI (uI (uI (uI yA 30 6 0) 33 0 61) 30 6 1) 33 1 12) 30 6 2) 33 2 11) 30 6 3) 33 3 60) 30 6 4) 33 4 30) _
  refine Pa.mp 2 (pc' := 51) (l' := [(8, .int 30), (7, .int 2), (0, .ref 30), (1, .ref ya), (2, .int 0), (3, .int 2), (4, .int (yx + 1)), (5, .int yc), (6, .int 4)]) (st' := [.ref 30, .ref 30]) (by rfl) ?_
  refine Pa.gfI (v := 4) (by rfl) (by rfl) (.inl rfl) (by rfl) (by show (uI (uI (uI (uI (uI (uI (uI (uI (uI (uI yA 30 6 0) 33 0 61) 30 6 1) 33 1 12) 30 6 2) 33 2 11) 30 6 3) 33 3 60) 30 6 4) 33 4 30).1 30 6 = 4; rw [uI_c (by decide), uI_h]) ?_
  refine Pa.ic (x := 1) (pc' := 55) (by rfl) (by rfl) (by decide) ?_
  refine Pa.mp 1 (pc' := 56) (l' := [(8, .int 30), (7, .int 2), (0, .ref 30), (1, .ref ya), (2, .int 0), (3, .int 2), (4, .int (yx + 1)), (5, .int yc), (6, .int 4)]) (st' := [.int 5, .ref 30]) (by rfl) ?_
  refine Pa.pfI (by rfl) (by rfl) (.inl rfl) (by rfl) ?_
  show Pa N 39 59 [(8, .int 30), (7, .int 2), (0, .ref 30), (1, .ref ya), (2, .int 0), (3, .int 2), (4, .int (yx + 1)), (5, .int yc), (6, .int 4)] [] (uI (uI (uI (uI (uI (uI (uI (uI (uI (uI (uI yA 30 6 0) 33 0 61) 30 6 1) 33 1 12) 30 6 2) 33 2 11) 30 6 3) 33 3 60) 30 6 4) 33 4 30) 30 6 5) _
  refine Pa.mp 1 (pc' := 61) (l' := [(8, .int 30), (7, .int 2), (0, .ref 30), (1, .ref ya), (2, .int 0), (3, .int 2), (4, .int (yx + 1)), (5, .int yc), (6, .int 4)]) (st' := [.int 2]) (by rfl) ?_
  refine Pa.ist (by rfl) (by rfl) (.inl rfl) (by rfl) (by rfl) ?_
  refine Pa.mono (c_abv2 N (uI (uI (uI (uI (uI (uI (uI (uI (uI (uI (uI yA 30 6 0) 33 0 61) 30 6 1) 33 1 12) 30 6 2) 33 2 11) 30 6 3) 33 3 60) 30 6 4) 33 4 30) 30 6 5)) (fun yu A1 hu => ?_)
  obtain ⟨rfl, hu⟩ := hu
  rw [hu]
  show Pa N 39 64 [(8, .int 30), (7, .int 2), (0, .ref 30), (1, .ref ya), (2, .int 0), (3, .int 2), (4, .int (yx + 1)), (5, .int yc), (6, .int 4)] [.int 0] (uI (uI (uI (uI (uI (uI (uI (uI (uI (uI (uI yA 30 6 0) 33 0 61) 30 6 1) 33 1 12) 30 6 2) 33 2 11) 30 6 3) 33 3 60) 30 6 4) 33 4 30) 30 6 5) _
  refine Pa.mp 2 (pc' := 68) (l' := [(9, .int 0), (8, .int 30), (7, .int 2), (0, .ref 30), (1, .ref ya), (2, .int 0), (3, .int 2), (4, .int (yx + 1)), (5, .int yc), (6, .int 4)]) (st' := [.int 4]) (by rfl) ?_
  refine Pa.ic (x := 1) (pc' := 69) (by rfl) (by rfl) (by decide) ?_
  refine Pa.mp 3 (pc' := 74) (l' := [(10, .int 5), (9, .int 0), (8, .int 30), (7, .int 2), (0, .ref 30), (1, .ref ya), (2, .int 0), (3, .int 2), (4, .int (yx + 1)), (5, .int yc), (6, .int 4)]) (st' := [.int 30]) (by rfl) ?_
  refine Pa.mp 1 (pc' := 229) (l' := [(10, .int 5), (9, .int 0), (8, .int 30), (7, .int 2), (0, .ref 30), (1, .ref ya), (2, .int 0), (3, .int 2), (4, .int (yx + 1)), (5, .int yc), (6, .int 4)]) (st' := []) (by rfl) ?_
  refine Pa.mp 2 (pc' := 231) (l' := [(10, .int 5), (9, .int 0), (8, .int 30), (7, .int 2), (0, .ref 30), (1, .ref ya), (2, .int 0), (3, .int 2), (4, .int (yx + 1)), (5, .int yc), (6, .int 4)]) (st' := [.ref ya, .ref 30]) (by rfl) ?_
  refine Pa.ic (x := 0) (pc' := 232) (by rfl) (by rfl) (by decide) ?_
  refine Pa.mp 4 (pc' := 240) (l' := [(10, .int 5), (9, .int 0), (8, .int 30), (7, .int 2), (0, .ref 30), (1, .ref ya), (2, .int 0), (3, .int 2), (4, .int (yx + 1)), (5, .int yc), (6, .int 4)]) (st' := [.int 5, .int yc, .int (yx + 1), .int 0, .int 0, .ref ya, .ref 30]) (by rfl) ?_
  refine Pa.inv (by rfl) (by rfl) (.inl rfl) (by rfl) ?_
  show Pa N 39 0 [(0, .ref 30), (1, .ref ya), (2, .int 0), (3, .int 0), (4, .int (yx + 1)), (5, .int yc), (6, .int 5)] [] (uI (uI (uI (uI (uI (uI (uI (uI (uI (uI (uI yA 30 6 0) 33 0 61) 30 6 1) 33 1 12) 30 6 2) 33 2 11) 30 6 3) 33 3 60) 30 6 4) 33 4 30) 30 6 5) _
  refine Pa.mp 2 (pc' := 2) (l' := [(0, .ref 30), (1, .ref ya), (2, .int 0), (3, .int 0), (4, .int (yx + 1)), (5, .int yc), (6, .int 5)]) (st' := [.int 0, .int 0]) (by rfl) ?_
  refine Pa.ist (by rfl) (by rfl) (.inl rfl) (by rfl) (by rfl) ?_
  refine Pa.mono (c_kwb0_0 N (uI (uI (uI (uI (uI (uI (uI (uI (uI (uI (uI yA 30 6 0) 33 0 61) 30 6 1) 33 1 12) 30 6 2) 33 2 11) 30 6 3) 33 3 60) 30 6 4) 33 4 30) 30 6 5)) (fun yu A1 hu => ?_)
  obtain ⟨rfl, hu⟩ := hu
  rw [hu]
  show Pa N 39 5 [(0, .ref 30), (1, .ref ya), (2, .int 0), (3, .int 0), (4, .int (yx + 1)), (5, .int yc), (6, .int 5)] [.int 0] (uI (uI (uI (uI (uI (uI (uI (uI (uI (uI (uI yA 30 6 0) 33 0 61) 30 6 1) 33 1 12) 30 6 2) 33 2 11) 30 6 3) 33 3 60) 30 6 4) 33 4 30) 30 6 5) _
  refine Pa.mp 2 (pc' := 9) (l' := [(7, .int 0), (0, .ref 30), (1, .ref ya), (2, .int 0), (3, .int 0), (4, .int (yx + 1)), (5, .int yc), (6, .int 5)]) (st' := [.int 0]) (by rfl) ?_
  refine Pa.if1k false (by rfl) (by rfl) (by decide) ?_
  show Pa N 39 12 [(7, .int 0), (0, .ref 30), (1, .ref ya), (2, .int 0), (3, .int 0), (4, .int (yx + 1)), (5, .int yc), (6, .int 5)] [] (uI (uI (uI (uI (uI (uI (uI (uI (uI (uI (uI yA 30 6 0) 33 0 61) 30 6 1) 33 1 12) 30 6 2) 33 2 11) 30 6 3) 33 3 60) 30 6 4) 33 4 30) 30 6 5) _
  refine Pa.mp 1 (pc' := 14) (l' := [(7, .int 0), (0, .ref 30), (1, .ref ya), (2, .int 0), (3, .int 0), (4, .int (yx + 1)), (5, .int yc), (6, .int 5)]) (st' := [.int 5]) (by rfl) ?_
  refine Pa.ic (x := 30) (pc' := 16) (by rfl) (by rfl) (by decide) ?_
  refine Pa.if2k true (by rfl) (by rfl) (by decide) ?_
  show Pa N 39 21 [(7, .int 0), (0, .ref 30), (1, .ref ya), (2, .int 0), (3, .int 0), (4, .int (yx + 1)), (5, .int yc), (6, .int 5)] [] (uI (uI (uI (uI (uI (uI (uI (uI (uI (uI (uI yA 30 6 0) 33 0 61) 30 6 1) 33 1 12) 30 6 2) 33 2 11) 30 6 3) 33 3 60) 30 6 4) 33 4 30) 30 6 5) _
  refine Pa.mp 2 (pc' := 24) (l' := [(7, .int 0), (0, .ref 30), (1, .ref ya), (2, .int 0), (3, .int 0), (4, .int (yx + 1)), (5, .int yc), (6, .int 5)]) (st' := [.int 0, .int 0]) (by rfl) ?_
  refine Pa.ist (by rfl) (by rfl) (.inl rfl) (by rfl) (by rfl) ?_
  refine Pa.mono (c_bod0_0 N (uI (uI (uI (uI (uI (uI (uI (uI (uI (uI (uI yA 30 6 0) 33 0 61) 30 6 1) 33 1 12) 30 6 2) 33 2 11) 30 6 3) 33 3 60) 30 6 4) 33 4 30) 30 6 5)) (fun yu A1 hu => ?_)
  obtain ⟨rfl, hu⟩ := hu
  rw [hu]
  show Pa N 39 27 [(7, .int 0), (0, .ref 30), (1, .ref ya), (2, .int 0), (3, .int 0), (4, .int (yx + 1)), (5, .int yc), (6, .int 5)] [.int 10] (uI (uI (uI (uI (uI (uI (uI (uI (uI (uI (uI yA 30 6 0) 33 0 61) 30 6 1) 33 1 12) 30 6 2) 33 2 11) 30 6 3) 33 3 60) 30 6 4) 33 4 30) 30 6 5) _
  refine Pa.mp 2 (pc' := 30) (l' := [(8, .int 10), (7, .int 0), (0, .ref 30), (1, .ref ya), (2, .int 0), (3, .int 0), (4, .int (yx + 1)), (5, .int yc), (6, .int 5)]) (st' := [.ref 30]) (by rfl) ?_
  refine Pa.gfI (v := 5) (by rfl) (by rfl) (.inl rfl) (by rfl) (by show (uI (uI (uI (uI (uI (uI (uI (uI (uI (uI (uI yA 30 6 0) 33 0 61) 30 6 1) 33 1 12) 30 6 2) 33 2 11) 30 6 3) 33 3 60) 30 6 4) 33 4 30) 30 6 5).1 30 6 = 5; rw [uI_h]) ?_
  refine Pa.ic (x := 24) (pc' := 35) (by rfl) (by rfl) (by decide) ?_
  refine Pa.if2k false (by rfl) (by rfl) (by decide) ?_
  show Pa N 39 38 [(8, .int 10), (7, .int 0), (0, .ref 30), (1, .ref ya), (2, .int 0), (3, .int 0), (4, .int (yx + 1)), (5, .int yc), (6, .int 5)] [] (uI (uI (uI (uI (uI (uI (uI (uI (uI (uI (uI yA 30 6 0) 33 0 61) 30 6 1) 33 1 12) 30 6 2) 33 2 11) 30 6 3) 33 3 60) 30 6 4) 33 4 30) 30 6 5) _
  refine Pa.mp 1 (pc' := 39) (l' := [(8, .int 10), (7, .int 0), (0, .ref 30), (1, .ref ya), (2, .int 0), (3, .int 0), (4, .int (yx + 1)), (5, .int yc), (6, .int 5)]) (st' := [.ref 30]) (by rfl) ?_
  refine Pa.gfR (by rfl) (by rfl) (.inl rfl) (by rfl) ?_
  show Pa N 39 42 [(8, .int 10), (7, .int 0), (0, .ref 30), (1, .ref ya), (2, .int 0), (3, .int 0), (4, .int (yx + 1)), (5, .int yc), (6, .int 5)] [.ref 33] (uI (uI (uI (uI (uI (uI (uI (uI (uI (uI (uI yA 30 6 0) 33 0 61) 30 6 1) 33 1 12) 30 6 2) 33 2 11) 30 6 3) 33 3 60) 30 6 4) 33 4 30) 30 6 5) _
  refine Pa.mp 1 (pc' := 43) (l' := [(8, .int 10), (7, .int 0), (0, .ref 30), (1, .ref ya), (2, .int 0), (3, .int 0), (4, .int (yx + 1)), (5, .int yc), (6, .int 5)]) (st' := [.ref 30, .ref 33]) (by rfl) ?_
  refine Pa.gfI (v := 5) (by rfl) (by rfl) (.inl rfl) (by rfl) (by show (uI (uI (uI (uI (uI (uI (uI (uI (uI (uI (uI yA 30 6 0) 33 0 61) 30 6 1) 33 1 12) 30 6 2) 33 2 11) 30 6 3) 33 3 60) 30 6 4) 33 4 30) 30 6 5).1 30 6 = 5; rw [uI_h]) ?_
  refine Pa.mp 1 (pc' := 48) (l' := [(8, .int 10), (7, .int 0), (0, .ref 30), (1, .ref ya), (2, .int 0), (3, .int 0), (4, .int (yx + 1)), (5, .int yc), (6, .int 5)]) (st' := [.int 10, .int 5, .ref 33]) (by rfl) ?_
  refine Pa.asts (j' := 5) (by rfl) (by rfl) (by rfl) (fun h11 h12 => ?_)
  show Pa N 39 49 [(8, .int 10), (7, .int 0), (0, .ref 30), (1, .ref ya), (2, .int 0), (3, .int 0), (4, .int (yx + 1)), (5, .int yc), (6, .int 5)] [] (uI (uI (uI (uI (uI (uI (uI (uI (uI (uI (uI (uI yA 30 6 0) 33 0 61) 30 6 1) 33 1 12) 30 6 2) 33 2 11) 30 6 3) 33 3 60) 30 6 4) 33 4 30) 30 6 5) 33 5 10) _
  refine Pa.mp 2 (pc' := 51) (l' := [(8, .int 10), (7, .int 0), (0, .ref 30), (1, .ref ya), (2, .int 0), (3, .int 0), (4, .int (yx + 1)), (5, .int yc), (6, .int 5)]) (st' := [.ref 30, .ref 30]) (by rfl) ?_
  refine Pa.gfI (v := 5) (by rfl) (by rfl) (.inl rfl) (by rfl) (by show (uI (uI (uI (uI (uI (uI (uI (uI (uI (uI (uI (uI yA 30 6 0) 33 0 61) 30 6 1) 33 1 12) 30 6 2) 33 2 11) 30 6 3) 33 3 60) 30 6 4) 33 4 30) 30 6 5) 33 5 10).1 30 6 = 5; rw [uI_c (by decide), uI_h]) ?_
  refine Pa.ic (x := 1) (pc' := 55) (by rfl) (by rfl) (by decide) ?_
  refine Pa.mp 1 (pc' := 56) (l' := [(8, .int 10), (7, .int 0), (0, .ref 30), (1, .ref ya), (2, .int 0), (3, .int 0), (4, .int (yx + 1)), (5, .int yc), (6, .int 5)]) (st' := [.int 6, .ref 30]) (by rfl) ?_
  refine Pa.pfI (by rfl) (by rfl) (.inl rfl) (by rfl) ?_
  show Pa N 39 59 [(8, .int 10), (7, .int 0), (0, .ref 30), (1, .ref ya), (2, .int 0), (3, .int 0), (4, .int (yx + 1)), (5, .int yc), (6, .int 5)] [] (uI (uI (uI (uI (uI (uI (uI (uI (uI (uI (uI (uI (uI yA 30 6 0) 33 0 61) 30 6 1) 33 1 12) 30 6 2) 33 2 11) 30 6 3) 33 3 60) 30 6 4) 33 4 30) 30 6 5) 33 5 10) 30 6 6) _
  refine Pa.mp 1 (pc' := 61) (l' := [(8, .int 10), (7, .int 0), (0, .ref 30), (1, .ref ya), (2, .int 0), (3, .int 0), (4, .int (yx + 1)), (5, .int yc), (6, .int 5)]) (st' := [.int 0]) (by rfl) ?_
  refine Pa.ist (by rfl) (by rfl) (.inl rfl) (by rfl) (by rfl) ?_
  refine Pa.mono (c_abv0 N (uI (uI (uI (uI (uI (uI (uI (uI (uI (uI (uI (uI (uI yA 30 6 0) 33 0 61) 30 6 1) 33 1 12) 30 6 2) 33 2 11) 30 6 3) 33 3 60) 30 6 4) 33 4 30) 30 6 5) 33 5 10) 30 6 6)) (fun yu A1 hu => ?_)
  obtain ⟨rfl, hu⟩ := hu
  rw [hu]
  show Pa N 39 64 [(8, .int 10), (7, .int 0), (0, .ref 30), (1, .ref ya), (2, .int 0), (3, .int 0), (4, .int (yx + 1)), (5, .int yc), (6, .int 5)] [.int (-1)] (uI (uI (uI (uI (uI (uI (uI (uI (uI (uI (uI (uI (uI yA 30 6 0) 33 0 61) 30 6 1) 33 1 12) 30 6 2) 33 2 11) 30 6 3) 33 3 60) 30 6 4) 33 4 30) 30 6 5) 33 5 10) 30 6 6) _
  refine Pa.mp 2 (pc' := 68) (l' := [(9, .int (-1)), (8, .int 10), (7, .int 0), (0, .ref 30), (1, .ref ya), (2, .int 0), (3, .int 0), (4, .int (yx + 1)), (5, .int yc), (6, .int 5)]) (st' := [.int 5]) (by rfl) ?_
  refine Pa.ic (x := 1) (pc' := 69) (by rfl) (by rfl) (by decide) ?_
  refine Pa.mp 3 (pc' := 74) (l' := [(10, .int 6), (9, .int (-1)), (8, .int 10), (7, .int 0), (0, .ref 30), (1, .ref ya), (2, .int 0), (3, .int 0), (4, .int (yx + 1)), (5, .int yc), (6, .int 5)]) (st' := [.int 10]) (by rfl) ?_
  refine Pa.mp 1 (pc' := 164) (l' := [(10, .int 6), (9, .int (-1)), (8, .int 10), (7, .int 0), (0, .ref 30), (1, .ref ya), (2, .int 0), (3, .int 0), (4, .int (yx + 1)), (5, .int yc), (6, .int 5)]) (st' := []) (by rfl) ?_
  refine Pa.mp 3 (pc' := 169) (l' := [(10, .int 6), (9, .int (-1)), (8, .int 10), (7, .int 0), (0, .ref 30), (1, .ref ya), (2, .int 0), (3, .int 0), (4, .int (yx + 1)), (5, .int yc), (6, .int 5)]) (st' := [.int ((yx + 1) + yc)]) (by rfl) ?_
  refine Pa.iret (by rfl) ?_
  show Pa N 39 243 [(10, .int 5), (9, .int 0), (8, .int 30), (7, .int 2), (0, .ref 30), (1, .ref ya), (2, .int 0), (3, .int 2), (4, .int (yx + 1)), (5, .int yc), (6, .int 4)] [.int ((yx + 1) + yc)] (uI (uI (uI (uI (uI (uI (uI (uI (uI (uI (uI (uI (uI yA 30 6 0) 33 0 61) 30 6 1) 33 1 12) 30 6 2) 33 2 11) 30 6 3) 33 3 60) 30 6 4) 33 4 30) 30 6 5) 33 5 10) 30 6 6) _
  refine Pa.ic (x := 4) (pc' := 244) (by rfl) (by rfl) (by decide) ?_
  refine Pa.mp 1 (pc' := 245) (l' := [(10, .int 5), (9, .int 0), (8, .int 30), (7, .int 2), (0, .ref 30), (1, .ref ya), (2, .int 0), (3, .int 2), (4, .int (yx + 1)), (5, .int yc), (6, .int 4)]) (st' := [.int (((yx + 1) + yc) - 4)]) (by rfl) ?_
  refine Pa.iret (by rfl) ?_
  show Pa N 39 313 [(10, .int 4), (9, .int 2), (8, .int 60), (7, .int 5), (0, .ref 30), (1, .ref ya), (2, .int 0), (3, .int 5), (4, .int yx), (5, .int yc), (6, .int 3)] [.int (((yx + 1) + yc) - 4)] (uI (uI (uI (uI (uI (uI (uI (uI (uI (uI (uI (uI (uI yA 30 6 0) 33 0 61) 30 6 1) 33 1 12) 30 6 2) 33 2 11) 30 6 3) 33 3 60) 30 6 4) 33 4 30) 30 6 5) 33 5 10) 30 6 6) _
  refine Pa.iret (by rfl) ?_
  show Pa N 39 186 [(10, .int 3), (9, .int (-1)), (8, .int 11), (7, .int 0), (0, .ref 30), (1, .ref ya), (2, .int 1), (3, .int 5), (4, .int yx), (5, .int yc), (6, .int 2)] [.int (((yx + 1) + yc) - 4)] (uI (uI (uI (uI (uI (uI (uI (uI (uI (uI (uI (uI (uI yA 30 6 0) 33 0 61) 30 6 1) 33 1 12) 30 6 2) 33 2 11) 30 6 3) 33 3 60) 30 6 4) 33 4 30) 30 6 5) 33 5 10) 30 6 6) _
  refine Pa.ic (x := 2) (pc' := 187) (by rfl) (by rfl) (by decide) ?_
  refine Pa.mp 1 (pc' := 188) (l' := [(10, .int 3), (9, .int (-1)), (8, .int 11), (7, .int 0), (0, .ref 30), (1, .ref ya), (2, .int 1), (3, .int 5), (4, .int yx), (5, .int yc), (6, .int 2)]) (st' := [.int ((((yx + 1) + yc) - 4) * 2)]) (by rfl) ?_
  refine Pa.iret (by rfl) ?_
  show Pa N 39 205 [(10, .int 2), (9, .int (-1)), (8, .int 12), (7, .int 0), (0, .ref 30), (1, .ref ya), (2, .int 2), (3, .int 2), (4, .int yx), (5, .int yc), (6, .int 1)] [.int ((((yx + 1) + yc) - 4) * 2)] (uI (uI (uI (uI (uI (uI (uI (uI (uI (uI (uI (uI (uI yA 30 6 0) 33 0 61) 30 6 1) 33 1 12) 30 6 2) 33 2 11) 30 6 3) 33 3 60) 30 6 4) 33 4 30) 30 6 5) 33 5 10) 30 6 6) _
  refine Pa.mp 1 (pc' := 206) (l' := [(10, .int 2), (9, .int (-1)), (8, .int 12), (7, .int 0), (0, .ref 30), (1, .ref ya), (2, .int 2), (3, .int 2), (4, .int yx), (5, .int yc), (6, .int 1)]) (st' := [.ref ya, .int ((((yx + 1) + yc) - 4) * 2)]) (by rfl) ?_
  refine Pa.gfI (v := yA.1 ya 0) (by rfl) (by rfl) (.inr rfl) (by rfl) (by show (uI (uI (uI (uI (uI (uI (uI (uI (uI (uI (uI (uI (uI yA 30 6 0) 33 0 61) 30 6 1) 33 1 12) 30 6 2) 33 2 11) 30 6 3) 33 3 60) 30 6 4) 33 4 30) 30 6 5) 33 5 10) 30 6 6).1 ya 0 = yA.1 ya 0; rw [uI_c (by omega), uI_c (by omega), uI_c (by omega), uI_c (by omega), uI_c (by omega), uI_c (by omega), uI_c (by omega), uI_c (by omega), uI_c (by omega), uI_c (by omega), uI_c (by omega), uI_c (by omega), uI_c (by omega)]) ?_
  refine Pa.mp 1 (pc' := 210) (l' := [(10, .int 2), (9, .int (-1)), (8, .int 12), (7, .int 0), (0, .ref 30), (1, .ref ya), (2, .int 2), (3, .int 2), (4, .int yx), (5, .int yc), (6, .int 1)]) (st' := [.int (((((yx + 1) + yc) - 4) * 2) - (yA.1 ya 0))]) (by rfl) ?_
  refine Pa.iret (by rfl) ?_
  show Pa N 39 328 [(10, .int 1), (9, .int 2), (8, .int 61), (7, .int 5), (0, .ref 30), (1, .ref ya), (2, .int 2), (3, .int 5), (4, .int yx), (5, .int yc), (6, .int 0)] [.int (((((yx + 1) + yc) - 4) * 2) - (yA.1 ya 0))] (uI (uI (uI (uI (uI (uI (uI (uI (uI (uI (uI (uI (uI yA 30 6 0) 33 0 61) 30 6 1) 33 1 12) 30 6 2) 33 2 11) 30 6 3) 33 3 60) 30 6 4) 33 4 30) 30 6 5) 33 5 10) 30 6 6) _
  refine Pa.ic (x := 3) (pc' := 329) (by rfl) (by rfl) (by decide) ?_
  refine Pa.mp 1 (pc' := 330) (l' := [(10, .int 1), (9, .int 2), (8, .int 61), (7, .int 5), (0, .ref 30), (1, .ref ya), (2, .int 2), (3, .int 5), (4, .int yx), (5, .int yc), (6, .int 0)]) (st' := [.int ((((((yx + 1) + yc) - 4) * 2) - (yA.1 ya 0)) * 3)]) (by rfl) ?_
  refine Pa.iret (by rfl) ?_
  exact l1

theorem bpf2_6 {N : Nat} {yA : AW} {yQ : Option Value → AW → Prop} {ya : Nat} (yx yc : Int32) (yha : 129 ≤ ya) (hk : yA.1 ya 1 = 6)
    (l1 : yQ (some (.int (((-((yx + yc) * 2)) - (2 + yc)) - (yA.1 ya 0)))) (uI (uI (uI (uI (uI (uI (uI (uI (uI (uI (uI (uI (uI yA 30 6 0) 33 0 12) 30 6 1) 33 1 70) 30 6 2) 33 2 50) 30 6 3) 33 3 11) 30 6 4) 33 4 10) 30 6 5) 33 5 10) 30 6 6)) :
    Pa N 39 0 [(0, .ref 30), (1, .ref ya), (2, .int 2), (3, .int 6), (4, .int yx), (5, .int yc), (6, .int 0)] [] (uI yA 30 6 0) yQ := by
  refine Pa.mp 2 (pc' := 2) (l' := [(0, .ref 30), (1, .ref ya), (2, .int 2), (3, .int 6), (4, .int yx), (5, .int yc), (6, .int 0)]) (st' := [.int 6, .int 2]) (by rfl) ?_
  refine Pa.ist (by rfl) (by rfl) (.inl rfl) (by rfl) (by rfl) ?_
  refine Pa.mono (c_kwb2_6 N (uI yA 30 6 0)) (fun yu A1 hu => ?_)
  obtain ⟨rfl, hu⟩ := hu
  rw [hu]
  show Pa N 39 5 [(0, .ref 30), (1, .ref ya), (2, .int 2), (3, .int 6), (4, .int yx), (5, .int yc), (6, .int 0)] [.int 0] (uI yA 30 6 0) _
  refine Pa.mp 2 (pc' := 9) (l' := [(7, .int 0), (0, .ref 30), (1, .ref ya), (2, .int 2), (3, .int 6), (4, .int yx), (5, .int yc), (6, .int 0)]) (st' := [.int 0]) (by rfl) ?_
  refine Pa.if1k false (by rfl) (by rfl) (by decide) ?_
  show Pa N 39 12 [(7, .int 0), (0, .ref 30), (1, .ref ya), (2, .int 2), (3, .int 6), (4, .int yx), (5, .int yc), (6, .int 0)] [] (uI yA 30 6 0) _
  refine Pa.mp 1 (pc' := 14) (l' := [(7, .int 0), (0, .ref 30), (1, .ref ya), (2, .int 2), (3, .int 6), (4, .int yx), (5, .int yc), (6, .int 0)]) (st' := [.int 0]) (by rfl) ?_
  refine Pa.ic (x := 30) (pc' := 16) (by rfl) (by rfl) (by decide) ?_
  refine Pa.if2k true (by rfl) (by rfl) (by decide) ?_
  show Pa N 39 21 [(7, .int 0), (0, .ref 30), (1, .ref ya), (2, .int 2), (3, .int 6), (4, .int yx), (5, .int yc), (6, .int 0)] [] (uI yA 30 6 0) _
  refine Pa.mp 2 (pc' := 24) (l' := [(7, .int 0), (0, .ref 30), (1, .ref ya), (2, .int 2), (3, .int 6), (4, .int yx), (5, .int yc), (6, .int 0)]) (st' := [.int 0, .int 2]) (by rfl) ?_
  refine Pa.ist (by rfl) (by rfl) (.inl rfl) (by rfl) (by rfl) ?_
  refine Pa.mono (c_bod2_0 N (uI yA 30 6 0)) (fun yu A1 hu => ?_)
  obtain ⟨rfl, hu⟩ := hu
  rw [hu]
  show Pa N 39 27 [(7, .int 0), (0, .ref 30), (1, .ref ya), (2, .int 2), (3, .int 6), (4, .int yx), (5, .int yc), (6, .int 0)] [.int 12] (uI yA 30 6 0) _
  refine Pa.mp 2 (pc' := 30) (l' := [(8, .int 12), (7, .int 0), (0, .ref 30), (1, .ref ya), (2, .int 2), (3, .int 6), (4, .int yx), (5, .int yc), (6, .int 0)]) (st' := [.ref 30]) (by rfl) ?_
  refine Pa.gfI (v := 0) (by rfl) (by rfl) (.inl rfl) (by rfl) (by show (uI yA 30 6 0).1 30 6 = 0; rw [uI_h]) ?_
  refine Pa.ic (x := 24) (pc' := 35) (by rfl) (by rfl) (by decide) ?_
  refine Pa.if2k false (by rfl) (by rfl) (by decide) ?_
  show Pa N 39 38 [(8, .int 12), (7, .int 0), (0, .ref 30), (1, .ref ya), (2, .int 2), (3, .int 6), (4, .int yx), (5, .int yc), (6, .int 0)] [] (uI yA 30 6 0) _
  refine Pa.mp 1 (pc' := 39) (l' := [(8, .int 12), (7, .int 0), (0, .ref 30), (1, .ref ya), (2, .int 2), (3, .int 6), (4, .int yx), (5, .int yc), (6, .int 0)]) (st' := [.ref 30]) (by rfl) ?_
  refine Pa.gfR (by rfl) (by rfl) (.inl rfl) (by rfl) ?_
  show Pa N 39 42 [(8, .int 12), (7, .int 0), (0, .ref 30), (1, .ref ya), (2, .int 2), (3, .int 6), (4, .int yx), (5, .int yc), (6, .int 0)] [.ref 33] (uI yA 30 6 0) _
  refine Pa.mp 1 (pc' := 43) (l' := [(8, .int 12), (7, .int 0), (0, .ref 30), (1, .ref ya), (2, .int 2), (3, .int 6), (4, .int yx), (5, .int yc), (6, .int 0)]) (st' := [.ref 30, .ref 33]) (by rfl) ?_
  refine Pa.gfI (v := 0) (by rfl) (by rfl) (.inl rfl) (by rfl) (by show (uI yA 30 6 0).1 30 6 = 0; rw [uI_h]) ?_
  refine Pa.mp 1 (pc' := 48) (l' := [(8, .int 12), (7, .int 0), (0, .ref 30), (1, .ref ya), (2, .int 2), (3, .int 6), (4, .int yx), (5, .int yc), (6, .int 0)]) (st' := [.int 12, .int 0, .ref 33]) (by rfl) ?_
  refine Pa.asts (j' := 0) (by rfl) (by rfl) (by rfl) (fun h1 h2 => ?_)
  show Pa N 39 49 [(8, .int 12), (7, .int 0), (0, .ref 30), (1, .ref ya), (2, .int 2), (3, .int 6), (4, .int yx), (5, .int yc), (6, .int 0)] [] (uI (uI yA 30 6 0) 33 0 12) _
  refine Pa.mp 2 (pc' := 51) (l' := [(8, .int 12), (7, .int 0), (0, .ref 30), (1, .ref ya), (2, .int 2), (3, .int 6), (4, .int yx), (5, .int yc), (6, .int 0)]) (st' := [.ref 30, .ref 30]) (by rfl) ?_
  refine Pa.gfI (v := 0) (by rfl) (by rfl) (.inl rfl) (by rfl) (by show (uI (uI yA 30 6 0) 33 0 12).1 30 6 = 0; rw [uI_c (by decide), uI_h]) ?_
  refine Pa.ic (x := 1) (pc' := 55) (by rfl) (by rfl) (by decide) ?_
  refine Pa.mp 1 (pc' := 56) (l' := [(8, .int 12), (7, .int 0), (0, .ref 30), (1, .ref ya), (2, .int 2), (3, .int 6), (4, .int yx), (5, .int yc), (6, .int 0)]) (st' := [.int 1, .ref 30]) (by rfl) ?_
  refine Pa.pfI (by rfl) (by rfl) (.inl rfl) (by rfl) ?_
  show Pa N 39 59 [(8, .int 12), (7, .int 0), (0, .ref 30), (1, .ref ya), (2, .int 2), (3, .int 6), (4, .int yx), (5, .int yc), (6, .int 0)] [] (uI (uI (uI yA 30 6 0) 33 0 12) 30 6 1) _
  refine Pa.mp 1 (pc' := 61) (l' := [(8, .int 12), (7, .int 0), (0, .ref 30), (1, .ref ya), (2, .int 2), (3, .int 6), (4, .int yx), (5, .int yc), (6, .int 0)]) (st' := [.int 0]) (by rfl) ?_
  refine Pa.ist (by rfl) (by rfl) (.inl rfl) (by rfl) (by rfl) ?_
  refine Pa.mono (c_abv0 N (uI (uI (uI yA 30 6 0) 33 0 12) 30 6 1)) (fun yu A1 hu => ?_)
  obtain ⟨rfl, hu⟩ := hu
  rw [hu]
  show Pa N 39 64 [(8, .int 12), (7, .int 0), (0, .ref 30), (1, .ref ya), (2, .int 2), (3, .int 6), (4, .int yx), (5, .int yc), (6, .int 0)] [.int (-1)] (uI (uI (uI yA 30 6 0) 33 0 12) 30 6 1) _
  refine Pa.mp 2 (pc' := 68) (l' := [(9, .int (-1)), (8, .int 12), (7, .int 0), (0, .ref 30), (1, .ref ya), (2, .int 2), (3, .int 6), (4, .int yx), (5, .int yc), (6, .int 0)]) (st' := [.int 0]) (by rfl) ?_
  refine Pa.ic (x := 1) (pc' := 69) (by rfl) (by rfl) (by decide) ?_
  refine Pa.mp 3 (pc' := 74) (l' := [(10, .int 1), (9, .int (-1)), (8, .int 12), (7, .int 0), (0, .ref 30), (1, .ref ya), (2, .int 2), (3, .int 6), (4, .int yx), (5, .int yc), (6, .int 0)]) (st' := [.int 12]) (by rfl) ?_
  refine Pa.mp 1 (pc' := 189) (l' := [(10, .int 1), (9, .int (-1)), (8, .int 12), (7, .int 0), (0, .ref 30), (1, .ref ya), (2, .int 2), (3, .int 6), (4, .int yx), (5, .int yc), (6, .int 0)]) (st' := []) (by rfl) ?_
  refine Pa.mp 2 (pc' := 191) (l' := [(10, .int 1), (9, .int (-1)), (8, .int 12), (7, .int 0), (0, .ref 30), (1, .ref ya), (2, .int 2), (3, .int 6), (4, .int yx), (5, .int yc), (6, .int 0)]) (st' := [.ref ya, .ref 30]) (by rfl) ?_
  refine Pa.ic (x := 1) (pc' := 192) (by rfl) (by rfl) (by decide) ?_
  refine Pa.mp 1 (pc' := 193) (l' := [(10, .int 1), (9, .int (-1)), (8, .int 12), (7, .int 0), (0, .ref 30), (1, .ref ya), (2, .int 2), (3, .int 6), (4, .int yx), (5, .int yc), (6, .int 0)]) (st' := [.ref ya, .int 1, .ref ya, .ref 30]) (by rfl) ?_
  refine Pa.gfI (v := 6) (by rfl) (by rfl) (.inr rfl) (by rfl) (by show (uI (uI (uI yA 30 6 0) 33 0 12) 30 6 1).1 ya 1 = 6; rw [uI_c (by omega), uI_c (by omega), uI_c (by omega), hk]) ?_
  refine Pa.mp 3 (pc' := 202) (l' := [(10, .int 1), (9, .int (-1)), (8, .int 12), (7, .int 0), (0, .ref 30), (1, .ref ya), (2, .int 2), (3, .int 6), (4, .int yx), (5, .int yc), (6, .int 0)]) (st' := [.int 1, .int yc, .int yx, .int 6, .int 1, .ref ya, .ref 30]) (by rfl) ?_
  refine Pa.inv (by rfl) (by rfl) (.inl rfl) (by rfl) ?_
  show Pa N 39 0 [(0, .ref 30), (1, .ref ya), (2, .int 1), (3, .int 6), (4, .int yx), (5, .int yc), (6, .int 1)] [] (uI (uI (uI yA 30 6 0) 33 0 12) 30 6 1) _
  refine Pa.mp 2 (pc' := 2) (l' := [(0, .ref 30), (1, .ref ya), (2, .int 1), (3, .int 6), (4, .int yx), (5, .int yc), (6, .int 1)]) (st' := [.int 6, .int 1]) (by rfl) ?_
  refine Pa.ist (by rfl) (by rfl) (.inl rfl) (by rfl) (by rfl) ?_
  refine Pa.mono (c_kwb1_6 N (uI (uI (uI yA 30 6 0) 33 0 12) 30 6 1)) (fun yu A1 hu => ?_)
  obtain ⟨rfl, hu⟩ := hu
  rw [hu]
  show Pa N 39 5 [(0, .ref 30), (1, .ref ya), (2, .int 1), (3, .int 6), (4, .int yx), (5, .int yc), (6, .int 1)] [.int 6] (uI (uI (uI yA 30 6 0) 33 0 12) 30 6 1) _
  refine Pa.mp 2 (pc' := 9) (l' := [(7, .int 6), (0, .ref 30), (1, .ref ya), (2, .int 1), (3, .int 6), (4, .int yx), (5, .int yc), (6, .int 1)]) (st' := [.int 6]) (by rfl) ?_
  refine Pa.if1k false (by rfl) (by rfl) (by decide) ?_
  show Pa N 39 12 [(7, .int 6), (0, .ref 30), (1, .ref ya), (2, .int 1), (3, .int 6), (4, .int yx), (5, .int yc), (6, .int 1)] [] (uI (uI (uI yA 30 6 0) 33 0 12) 30 6 1) _
  refine Pa.mp 1 (pc' := 14) (l' := [(7, .int 6), (0, .ref 30), (1, .ref ya), (2, .int 1), (3, .int 6), (4, .int yx), (5, .int yc), (6, .int 1)]) (st' := [.int 1]) (by rfl) ?_
  refine Pa.ic (x := 30) (pc' := 16) (by rfl) (by rfl) (by decide) ?_
  refine Pa.if2k true (by rfl) (by rfl) (by decide) ?_
  show Pa N 39 21 [(7, .int 6), (0, .ref 30), (1, .ref ya), (2, .int 1), (3, .int 6), (4, .int yx), (5, .int yc), (6, .int 1)] [] (uI (uI (uI yA 30 6 0) 33 0 12) 30 6 1) _
  refine Pa.mp 2 (pc' := 24) (l' := [(7, .int 6), (0, .ref 30), (1, .ref ya), (2, .int 1), (3, .int 6), (4, .int yx), (5, .int yc), (6, .int 1)]) (st' := [.int 6, .int 1]) (by rfl) ?_
  refine Pa.ist (by rfl) (by rfl) (.inl rfl) (by rfl) (by rfl) ?_
  refine Pa.mono (c_bod1_6 N (uI (uI (uI yA 30 6 0) 33 0 12) 30 6 1)) (fun yu A1 hu => ?_)
  obtain ⟨rfl, hu⟩ := hu
  rw [hu]
  show Pa N 39 27 [(7, .int 6), (0, .ref 30), (1, .ref ya), (2, .int 1), (3, .int 6), (4, .int yx), (5, .int yc), (6, .int 1)] [.int 70] (uI (uI (uI yA 30 6 0) 33 0 12) 30 6 1) _
  refine Pa.mp 2 (pc' := 30) (l' := [(8, .int 70), (7, .int 6), (0, .ref 30), (1, .ref ya), (2, .int 1), (3, .int 6), (4, .int yx), (5, .int yc), (6, .int 1)]) (st' := [.ref 30]) (by rfl) ?_
  refine Pa.gfI (v := 1) (by rfl) (by rfl) (.inl rfl) (by rfl) (by show (uI (uI (uI yA 30 6 0) 33 0 12) 30 6 1).1 30 6 = 1; rw [uI_h]) ?_
  refine Pa.ic (x := 24) (pc' := 35) (by rfl) (by rfl) (by decide) ?_
  refine Pa.if2k false (by rfl) (by rfl) (by decide) ?_
  show Pa N 39 38 [(8, .int 70), (7, .int 6), (0, .ref 30), (1, .ref ya), (2, .int 1), (3, .int 6), (4, .int yx), (5, .int yc), (6, .int 1)] [] (uI (uI (uI yA 30 6 0) 33 0 12) 30 6 1) _
  refine Pa.mp 1 (pc' := 39) (l' := [(8, .int 70), (7, .int 6), (0, .ref 30), (1, .ref ya), (2, .int 1), (3, .int 6), (4, .int yx), (5, .int yc), (6, .int 1)]) (st' := [.ref 30]) (by rfl) ?_
  refine Pa.gfR (by rfl) (by rfl) (.inl rfl) (by rfl) ?_
  show Pa N 39 42 [(8, .int 70), (7, .int 6), (0, .ref 30), (1, .ref ya), (2, .int 1), (3, .int 6), (4, .int yx), (5, .int yc), (6, .int 1)] [.ref 33] (uI (uI (uI yA 30 6 0) 33 0 12) 30 6 1) _
  refine Pa.mp 1 (pc' := 43) (l' := [(8, .int 70), (7, .int 6), (0, .ref 30), (1, .ref ya), (2, .int 1), (3, .int 6), (4, .int yx), (5, .int yc), (6, .int 1)]) (st' := [.ref 30, .ref 33]) (by rfl) ?_
  refine Pa.gfI (v := 1) (by rfl) (by rfl) (.inl rfl) (by rfl) (by show (uI (uI (uI yA 30 6 0) 33 0 12) 30 6 1).1 30 6 = 1; rw [uI_h]) ?_
  refine Pa.mp 1 (pc' := 48) (l' := [(8, .int 70), (7, .int 6), (0, .ref 30), (1, .ref ya), (2, .int 1), (3, .int 6), (4, .int yx), (5, .int yc), (6, .int 1)]) (st' := [.int 70, .int 1, .ref 33]) (by rfl) ?_
  refine Pa.asts (j' := 1) (by rfl) (by rfl) (by rfl) (fun h3 h4 => ?_)
  show Pa N 39 49 [(8, .int 70), (7, .int 6), (0, .ref 30), (1, .ref ya), (2, .int 1), (3, .int 6), (4, .int yx), (5, .int yc), (6, .int 1)] [] (uI (uI (uI (uI yA 30 6 0) 33 0 12) 30 6 1) 33 1 70) _
  refine Pa.mp 2 (pc' := 51) (l' := [(8, .int 70), (7, .int 6), (0, .ref 30), (1, .ref ya), (2, .int 1), (3, .int 6), (4, .int yx), (5, .int yc), (6, .int 1)]) (st' := [.ref 30, .ref 30]) (by rfl) ?_
  refine Pa.gfI (v := 1) (by rfl) (by rfl) (.inl rfl) (by rfl) (by show (uI (uI (uI (uI yA 30 6 0) 33 0 12) 30 6 1) 33 1 70).1 30 6 = 1; rw [uI_c (by decide), uI_h]) ?_
  refine Pa.ic (x := 1) (pc' := 55) (by rfl) (by rfl) (by decide) ?_
  refine Pa.mp 1 (pc' := 56) (l' := [(8, .int 70), (7, .int 6), (0, .ref 30), (1, .ref ya), (2, .int 1), (3, .int 6), (4, .int yx), (5, .int yc), (6, .int 1)]) (st' := [.int 2, .ref 30]) (by rfl) ?_
  refine Pa.pfI (by rfl) (by rfl) (.inl rfl) (by rfl) ?_
  show Pa N 39 59 [(8, .int 70), (7, .int 6), (0, .ref 30), (1, .ref ya), (2, .int 1), (3, .int 6), (4, .int yx), (5, .int yc), (6, .int 1)] [] (uI (uI (uI (uI (uI yA 30 6 0) 33 0 12) 30 6 1) 33 1 70) 30 6 2) _
  refine Pa.mp 1 (pc' := 61) (l' := [(8, .int 70), (7, .int 6), (0, .ref 30), (1, .ref ya), (2, .int 1), (3, .int 6), (4, .int yx), (5, .int yc), (6, .int 1)]) (st' := [.int 6]) (by rfl) ?_
  refine Pa.ist (by rfl) (by rfl) (.inl rfl) (by rfl) (by rfl) ?_
  refine Pa.mono (c_abv6 N (uI (uI (uI (uI (uI yA 30 6 0) 33 0 12) 30 6 1) 33 1 70) 30 6 2)) (fun yu A1 hu => ?_)
  obtain ⟨rfl, hu⟩ := hu
  rw [hu]
  show Pa N 39 64 [(8, .int 70), (7, .int 6), (0, .ref 30), (1, .ref ya), (2, .int 1), (3, .int 6), (4, .int yx), (5, .int yc), (6, .int 1)] [.int 4] (uI (uI (uI (uI (uI yA 30 6 0) 33 0 12) 30 6 1) 33 1 70) 30 6 2) _
  refine Pa.mp 2 (pc' := 68) (l' := [(9, .int 4), (8, .int 70), (7, .int 6), (0, .ref 30), (1, .ref ya), (2, .int 1), (3, .int 6), (4, .int yx), (5, .int yc), (6, .int 1)]) (st' := [.int 1]) (by rfl) ?_
  refine Pa.ic (x := 1) (pc' := 69) (by rfl) (by rfl) (by decide) ?_
  refine Pa.mp 3 (pc' := 74) (l' := [(10, .int 2), (9, .int 4), (8, .int 70), (7, .int 6), (0, .ref 30), (1, .ref ya), (2, .int 1), (3, .int 6), (4, .int yx), (5, .int yc), (6, .int 1)]) (st' := [.int 70]) (by rfl) ?_
  refine Pa.mp 1 (pc' := 331) (l' := [(10, .int 2), (9, .int 4), (8, .int 70), (7, .int 6), (0, .ref 30), (1, .ref ya), (2, .int 1), (3, .int 6), (4, .int yx), (5, .int yc), (6, .int 1)]) (st' := []) (by rfl) ?_
  refine Pa.mp 2 (pc' := 333) (l' := [(10, .int 2), (9, .int 4), (8, .int 70), (7, .int 6), (0, .ref 30), (1, .ref ya), (2, .int 1), (3, .int 6), (4, .int yx), (5, .int yc), (6, .int 1)]) (st' := [.ref ya, .ref 30]) (by rfl) ?_
  refine Pa.ic (x := 1) (pc' := 334) (by rfl) (by rfl) (by decide) ?_
  refine Pa.mp 4 (pc' := 342) (l' := [(10, .int 2), (9, .int 4), (8, .int 70), (7, .int 6), (0, .ref 30), (1, .ref ya), (2, .int 1), (3, .int 6), (4, .int yx), (5, .int yc), (6, .int 1)]) (st' := [.int 2, .int yc, .int yx, .int 4, .int 1, .ref ya, .ref 30]) (by rfl) ?_
  refine Pa.inv (by rfl) (by rfl) (.inl rfl) (by rfl) ?_
  show Pa N 39 0 [(0, .ref 30), (1, .ref ya), (2, .int 1), (3, .int 4), (4, .int yx), (5, .int yc), (6, .int 2)] [] (uI (uI (uI (uI (uI yA 30 6 0) 33 0 12) 30 6 1) 33 1 70) 30 6 2) _
  refine Pa.mp 2 (pc' := 2) (l' := [(0, .ref 30), (1, .ref ya), (2, .int 1), (3, .int 4), (4, .int yx), (5, .int yc), (6, .int 2)]) (st' := [.int 4, .int 1]) (by rfl) ?_
  refine Pa.ist (by rfl) (by rfl) (.inl rfl) (by rfl) (by rfl) ?_
  refine Pa.mono (c_kwb1_4 N (uI (uI (uI (uI (uI yA 30 6 0) 33 0 12) 30 6 1) 33 1 70) 30 6 2)) (fun yu A1 hu => ?_)
  obtain ⟨rfl, hu⟩ := hu
  rw [hu]
  show Pa N 39 5 [(0, .ref 30), (1, .ref ya), (2, .int 1), (3, .int 4), (4, .int yx), (5, .int yc), (6, .int 2)] [.int 4] (uI (uI (uI (uI (uI yA 30 6 0) 33 0 12) 30 6 1) 33 1 70) 30 6 2) _
  refine Pa.mp 2 (pc' := 9) (l' := [(7, .int 4), (0, .ref 30), (1, .ref ya), (2, .int 1), (3, .int 4), (4, .int yx), (5, .int yc), (6, .int 2)]) (st' := [.int 4]) (by rfl) ?_
  refine Pa.if1k false (by rfl) (by rfl) (by decide) ?_
  show Pa N 39 12 [(7, .int 4), (0, .ref 30), (1, .ref ya), (2, .int 1), (3, .int 4), (4, .int yx), (5, .int yc), (6, .int 2)] [] (uI (uI (uI (uI (uI yA 30 6 0) 33 0 12) 30 6 1) 33 1 70) 30 6 2) _
  refine Pa.mp 1 (pc' := 14) (l' := [(7, .int 4), (0, .ref 30), (1, .ref ya), (2, .int 1), (3, .int 4), (4, .int yx), (5, .int yc), (6, .int 2)]) (st' := [.int 2]) (by rfl) ?_
  refine Pa.ic (x := 30) (pc' := 16) (by rfl) (by rfl) (by decide) ?_
  refine Pa.if2k true (by rfl) (by rfl) (by decide) ?_
  show Pa N 39 21 [(7, .int 4), (0, .ref 30), (1, .ref ya), (2, .int 1), (3, .int 4), (4, .int yx), (5, .int yc), (6, .int 2)] [] (uI (uI (uI (uI (uI yA 30 6 0) 33 0 12) 30 6 1) 33 1 70) 30 6 2) _
  refine Pa.mp 2 (pc' := 24) (l' := [(7, .int 4), (0, .ref 30), (1, .ref ya), (2, .int 1), (3, .int 4), (4, .int yx), (5, .int yc), (6, .int 2)]) (st' := [.int 4, .int 1]) (by rfl) ?_
  refine Pa.ist (by rfl) (by rfl) (.inl rfl) (by rfl) (by rfl) ?_
  refine Pa.mono (c_bod1_4 N (uI (uI (uI (uI (uI yA 30 6 0) 33 0 12) 30 6 1) 33 1 70) 30 6 2)) (fun yu A1 hu => ?_)
  obtain ⟨rfl, hu⟩ := hu
  rw [hu]
  show Pa N 39 27 [(7, .int 4), (0, .ref 30), (1, .ref ya), (2, .int 1), (3, .int 4), (4, .int yx), (5, .int yc), (6, .int 2)] [.int 50] (uI (uI (uI (uI (uI yA 30 6 0) 33 0 12) 30 6 1) 33 1 70) 30 6 2) _
  refine Pa.mp 2 (pc' := 30) (l' := [(8, .int 50), (7, .int 4), (0, .ref 30), (1, .ref ya), (2, .int 1), (3, .int 4), (4, .int yx), (5, .int yc), (6, .int 2)]) (st' := [.ref 30]) (by rfl) ?_
  refine Pa.gfI (v := 2) (by rfl) (by rfl) (.inl rfl) (by rfl) (by show (uI (uI (uI (uI (uI yA 30 6 0) 33 0 12) 30 6 1) 33 1 70) 30 6 2).1 30 6 = 2; rw [uI_h]) ?_
  refine Pa.ic (x := 24) (pc' := 35) (by rfl) (by rfl) (by decide) ?_
  refine Pa.if2k false (by rfl) (by rfl) (by decide) ?_
  show Pa N 39 38 [(8, .int 50), (7, .int 4), (0, .ref 30), (1, .ref ya), (2, .int 1), (3, .int 4), (4, .int yx), (5, .int yc), (6, .int 2)] [] (uI (uI (uI (uI (uI yA 30 6 0) 33 0 12) 30 6 1) 33 1 70) 30 6 2) _
  refine Pa.mp 1 (pc' := 39) (l' := [(8, .int 50), (7, .int 4), (0, .ref 30), (1, .ref ya), (2, .int 1), (3, .int 4), (4, .int yx), (5, .int yc), (6, .int 2)]) (st' := [.ref 30]) (by rfl) ?_
  refine Pa.gfR (by rfl) (by rfl) (.inl rfl) (by rfl) ?_
  show Pa N 39 42 [(8, .int 50), (7, .int 4), (0, .ref 30), (1, .ref ya), (2, .int 1), (3, .int 4), (4, .int yx), (5, .int yc), (6, .int 2)] [.ref 33] (uI (uI (uI (uI (uI yA 30 6 0) 33 0 12) 30 6 1) 33 1 70) 30 6 2) _
  refine Pa.mp 1 (pc' := 43) (l' := [(8, .int 50), (7, .int 4), (0, .ref 30), (1, .ref ya), (2, .int 1), (3, .int 4), (4, .int yx), (5, .int yc), (6, .int 2)]) (st' := [.ref 30, .ref 33]) (by rfl) ?_
  refine Pa.gfI (v := 2) (by rfl) (by rfl) (.inl rfl) (by rfl) (by show (uI (uI (uI (uI (uI yA 30 6 0) 33 0 12) 30 6 1) 33 1 70) 30 6 2).1 30 6 = 2; rw [uI_h]) ?_
  refine Pa.mp 1 (pc' := 48) (l' := [(8, .int 50), (7, .int 4), (0, .ref 30), (1, .ref ya), (2, .int 1), (3, .int 4), (4, .int yx), (5, .int yc), (6, .int 2)]) (st' := [.int 50, .int 2, .ref 33]) (by rfl) ?_
  refine Pa.asts (j' := 2) (by rfl) (by rfl) (by rfl) (fun h5 h6 => ?_)
  show Pa N 39 49 [(8, .int 50), (7, .int 4), (0, .ref 30), (1, .ref ya), (2, .int 1), (3, .int 4), (4, .int yx), (5, .int yc), (6, .int 2)] [] (uI (uI (uI (uI (uI (uI yA 30 6 0) 33 0 12) 30 6 1) 33 1 70) 30 6 2) 33 2 50) _
  refine Pa.mp 2 (pc' := 51) (l' := [(8, .int 50), (7, .int 4), (0, .ref 30), (1, .ref ya), (2, .int 1), (3, .int 4), (4, .int yx), (5, .int yc), (6, .int 2)]) (st' := [.ref 30, .ref 30]) (by rfl) ?_
  refine Pa.gfI (v := 2) (by rfl) (by rfl) (.inl rfl) (by rfl) (by show (uI (uI (uI (uI (uI (uI yA 30 6 0) 33 0 12) 30 6 1) 33 1 70) 30 6 2) 33 2 50).1 30 6 = 2; rw [uI_c (by decide), uI_h]) ?_
  refine Pa.ic (x := 1) (pc' := 55) (by rfl) (by rfl) (by decide) ?_
  refine Pa.mp 1 (pc' := 56) (l' := [(8, .int 50), (7, .int 4), (0, .ref 30), (1, .ref ya), (2, .int 1), (3, .int 4), (4, .int yx), (5, .int yc), (6, .int 2)]) (st' := [.int 3, .ref 30]) (by rfl) ?_
  refine Pa.pfI (by rfl) (by rfl) (.inl rfl) (by rfl) ?_
  show Pa N 39 59 [(8, .int 50), (7, .int 4), (0, .ref 30), (1, .ref ya), (2, .int 1), (3, .int 4), (4, .int yx), (5, .int yc), (6, .int 2)] [] (uI (uI (uI (uI (uI (uI (uI yA 30 6 0) 33 0 12) 30 6 1) 33 1 70) 30 6 2) 33 2 50) 30 6 3) _
  refine Pa.mp 1 (pc' := 61) (l' := [(8, .int 50), (7, .int 4), (0, .ref 30), (1, .ref ya), (2, .int 1), (3, .int 4), (4, .int yx), (5, .int yc), (6, .int 2)]) (st' := [.int 4]) (by rfl) ?_
  refine Pa.ist (by rfl) (by rfl) (.inl rfl) (by rfl) (by rfl) ?_
  refine Pa.mono (c_abv4 N (uI (uI (uI (uI (uI (uI (uI yA 30 6 0) 33 0 12) 30 6 1) 33 1 70) 30 6 2) 33 2 50) 30 6 3)) (fun yu A1 hu => ?_)
  obtain ⟨rfl, hu⟩ := hu
  rw [hu]
  show Pa N 39 64 [(8, .int 50), (7, .int 4), (0, .ref 30), (1, .ref ya), (2, .int 1), (3, .int 4), (4, .int yx), (5, .int yc), (6, .int 2)] [.int 0] (uI (uI (uI (uI (uI (uI (uI yA 30 6 0) 33 0 12) 30 6 1) 33 1 70) 30 6 2) 33 2 50) 30 6 3) _
  refine Pa.mp 2 (pc' := 68) (l' := [(9, .int 0), (8, .int 50), (7, .int 4), (0, .ref 30), (1, .ref ya), (2, .int 1), (3, .int 4), (4, .int yx), (5, .int yc), (6, .int 2)]) (st' := [.int 2]) (by rfl) ?_
  refine Pa.ic (x := 1) (pc' := 69) (by rfl) (by rfl) (by decide) ?_
  refine Pa.mp 3 (pc' := 74) (l' := [(10, .int 3), (9, .int 0), (8, .int 50), (7, .int 4), (0, .ref 30), (1, .ref ya), (2, .int 1), (3, .int 4), (4, .int yx), (5, .int yc), (6, .int 2)]) (st' := [.int 50]) (by rfl) ?_
  refine Pa.mp 1 (pc' := 281) (l' := [(10, .int 3), (9, .int 0), (8, .int 50), (7, .int 4), (0, .ref 30), (1, .ref ya), (2, .int 1), (3, .int 4), (4, .int yx), (5, .int yc), (6, .int 2)]) (st' := []) (by rfl) ?_
  refine Pa.mp 2 (pc' := 283) (l' := [(10, .int 3), (9, .int 0), (8, .int 50), (7, .int 4), (0, .ref 30), (1, .ref ya), (2, .int 1), (3, .int 4), (4, .int yx), (5, .int yc), (6, .int 2)]) (st' := [.ref ya, .ref 30]) (by rfl) ?_
  refine Pa.ic (x := 1) (pc' := 284) (by rfl) (by rfl) (by decide) ?_
  refine Pa.mp 4 (pc' := 292) (l' := [(10, .int 3), (9, .int 0), (8, .int 50), (7, .int 4), (0, .ref 30), (1, .ref ya), (2, .int 1), (3, .int 4), (4, .int yx), (5, .int yc), (6, .int 2)]) (st' := [.int 3, .int yc, .int yx, .int 0, .int 1, .ref ya, .ref 30]) (by rfl) ?_
  refine Pa.inv (by rfl) (by rfl) (.inl rfl) (by rfl) ?_
  show Pa N 39 0 [(0, .ref 30), (1, .ref ya), (2, .int 1), (3, .int 0), (4, .int yx), (5, .int yc), (6, .int 3)] [] (uI (uI (uI (uI (uI (uI (uI yA 30 6 0) 33 0 12) 30 6 1) 33 1 70) 30 6 2) 33 2 50) 30 6 3) _
  refine Pa.mp 2 (pc' := 2) (l' := [(0, .ref 30), (1, .ref ya), (2, .int 1), (3, .int 0), (4, .int yx), (5, .int yc), (6, .int 3)]) (st' := [.int 0, .int 1]) (by rfl) ?_
  refine Pa.ist (by rfl) (by rfl) (.inl rfl) (by rfl) (by rfl) ?_
  refine Pa.mono (c_kwb1_0 N (uI (uI (uI (uI (uI (uI (uI yA 30 6 0) 33 0 12) 30 6 1) 33 1 70) 30 6 2) 33 2 50) 30 6 3)) (fun yu A1 hu => ?_)
  obtain ⟨rfl, hu⟩ := hu
  rw [hu]
  show Pa N 39 5 [(0, .ref 30), (1, .ref ya), (2, .int 1), (3, .int 0), (4, .int yx), (5, .int yc), (6, .int 3)] [.int 0] (uI (uI (uI (uI (uI (uI (uI yA 30 6 0) 33 0 12) 30 6 1) 33 1 70) 30 6 2) 33 2 50) 30 6 3) _
  refine Pa.mp 2 (pc' := 9) (l' := [(7, .int 0), (0, .ref 30), (1, .ref ya), (2, .int 1), (3, .int 0), (4, .int yx), (5, .int yc), (6, .int 3)]) (st' := [.int 0]) (by rfl) ?_
  refine Pa.if1k false (by rfl) (by rfl) (by decide) ?_
  show Pa N 39 12 [(7, .int 0), (0, .ref 30), (1, .ref ya), (2, .int 1), (3, .int 0), (4, .int yx), (5, .int yc), (6, .int 3)] [] (uI (uI (uI (uI (uI (uI (uI yA 30 6 0) 33 0 12) 30 6 1) 33 1 70) 30 6 2) 33 2 50) 30 6 3) _
  refine Pa.mp 1 (pc' := 14) (l' := [(7, .int 0), (0, .ref 30), (1, .ref ya), (2, .int 1), (3, .int 0), (4, .int yx), (5, .int yc), (6, .int 3)]) (st' := [.int 3]) (by rfl) ?_
  refine Pa.ic (x := 30) (pc' := 16) (by rfl) (by rfl) (by decide) ?_
  refine Pa.if2k true (by rfl) (by rfl) (by decide) ?_
  show Pa N 39 21 [(7, .int 0), (0, .ref 30), (1, .ref ya), (2, .int 1), (3, .int 0), (4, .int yx), (5, .int yc), (6, .int 3)] [] (uI (uI (uI (uI (uI (uI (uI yA 30 6 0) 33 0 12) 30 6 1) 33 1 70) 30 6 2) 33 2 50) 30 6 3) _
  refine Pa.mp 2 (pc' := 24) (l' := [(7, .int 0), (0, .ref 30), (1, .ref ya), (2, .int 1), (3, .int 0), (4, .int yx), (5, .int yc), (6, .int 3)]) (st' := [.int 0, .int 1]) (by rfl) ?_
  refine Pa.ist (by rfl) (by rfl) (.inl rfl) (by rfl) (by rfl) ?_
  refine Pa.mono (c_bod1_0 N (uI (uI (uI (uI (uI (uI (uI yA 30 6 0) 33 0 12) 30 6 1) 33 1 70) 30 6 2) 33 2 50) 30 6 3)) (fun yu A1 hu => ?_)
  obtain ⟨rfl, hu⟩ := hu
  rw [hu]
  show Pa N 39 27 [(7, .int 0), (0, .ref 30), (1, .ref ya), (2, .int 1), (3, .int 0), (4, .int yx), (5, .int yc), (6, .int 3)] [.int 11] (uI (uI (uI (uI (uI (uI (uI yA 30 6 0) 33 0 12) 30 6 1) 33 1 70) 30 6 2) 33 2 50) 30 6 3) _
  refine Pa.mp 2 (pc' := 30) (l' := [(8, .int 11), (7, .int 0), (0, .ref 30), (1, .ref ya), (2, .int 1), (3, .int 0), (4, .int yx), (5, .int yc), (6, .int 3)]) (st' := [.ref 30]) (by rfl) ?_
  refine Pa.gfI (v := 3) (by rfl) (by rfl) (.inl rfl) (by rfl) (by show (uI (uI (uI (uI (uI (uI (uI yA 30 6 0) 33 0 12) 30 6 1) 33 1 70) 30 6 2) 33 2 50) 30 6 3).1 30 6 = 3; rw [uI_h]) ?_
  refine Pa.ic (x := 24) (pc' := 35) (by rfl) (by rfl) (by decide) ?_
  refine Pa.if2k false (by rfl) (by rfl) (by decide) ?_
  show Pa N 39 38 [(8, .int 11), (7, .int 0), (0, .ref 30), (1, .ref ya), (2, .int 1), (3, .int 0), (4, .int yx), (5, .int yc), (6, .int 3)] [] (uI (uI (uI (uI (uI (uI (uI yA 30 6 0) 33 0 12) 30 6 1) 33 1 70) 30 6 2) 33 2 50) 30 6 3) _
  refine Pa.mp 1 (pc' := 39) (l' := [(8, .int 11), (7, .int 0), (0, .ref 30), (1, .ref ya), (2, .int 1), (3, .int 0), (4, .int yx), (5, .int yc), (6, .int 3)]) (st' := [.ref 30]) (by rfl) ?_
  refine Pa.gfR (by rfl) (by rfl) (.inl rfl) (by rfl) ?_
  show Pa N 39 42 [(8, .int 11), (7, .int 0), (0, .ref 30), (1, .ref ya), (2, .int 1), (3, .int 0), (4, .int yx), (5, .int yc), (6, .int 3)] [.ref 33] (uI (uI (uI (uI (uI (uI (uI yA 30 6 0) 33 0 12) 30 6 1) 33 1 70) 30 6 2) 33 2 50) 30 6 3) _
  refine Pa.mp 1 (pc' := 43) (l' := [(8, .int 11), (7, .int 0), (0, .ref 30), (1, .ref ya), (2, .int 1), (3, .int 0), (4, .int yx), (5, .int yc), (6, .int 3)]) (st' := [.ref 30, .ref 33]) (by rfl) ?_
  refine Pa.gfI (v := 3) (by rfl) (by rfl) (.inl rfl) (by rfl) (by show (uI (uI (uI (uI (uI (uI (uI yA 30 6 0) 33 0 12) 30 6 1) 33 1 70) 30 6 2) 33 2 50) 30 6 3).1 30 6 = 3; rw [uI_h]) ?_
  refine Pa.mp 1 (pc' := 48) (l' := [(8, .int 11), (7, .int 0), (0, .ref 30), (1, .ref ya), (2, .int 1), (3, .int 0), (4, .int yx), (5, .int yc), (6, .int 3)]) (st' := [.int 11, .int 3, .ref 33]) (by rfl) ?_
  refine Pa.asts (j' := 3) (by rfl) (by rfl) (by rfl) (fun h7 h8 => ?_)
  show Pa N 39 49 [(8, .int 11), (7, .int 0), (0, .ref 30), (1, .ref ya), (2, .int 1), (3, .int 0), (4, .int yx), (5, .int yc), (6, .int 3)] [] (uI (uI (uI (uI (uI (uI (uI (uI yA 30 6 0) 33 0 12) 30 6 1) 33 1 70) 30 6 2) 33 2 50) 30 6 3) 33 3 11) _
  refine Pa.mp 2 (pc' := 51) (l' := [(8, .int 11), (7, .int 0), (0, .ref 30), (1, .ref ya), (2, .int 1), (3, .int 0), (4, .int yx), (5, .int yc), (6, .int 3)]) (st' := [.ref 30, .ref 30]) (by rfl) ?_
  refine Pa.gfI (v := 3) (by rfl) (by rfl) (.inl rfl) (by rfl) (by show (uI (uI (uI (uI (uI (uI (uI (uI yA 30 6 0) 33 0 12) 30 6 1) 33 1 70) 30 6 2) 33 2 50) 30 6 3) 33 3 11).1 30 6 = 3; rw [uI_c (by decide), uI_h]) ?_
  refine Pa.ic (x := 1) (pc' := 55) (by rfl) (by rfl) (by decide) ?_
  refine Pa.mp 1 (pc' := 56) (l' := [(8, .int 11), (7, .int 0), (0, .ref 30), (1, .ref ya), (2, .int 1), (3, .int 0), (4, .int yx), (5, .int yc), (6, .int 3)]) (st' := [.int 4, .ref 30]) (by rfl) ?_
  refine Pa.pfI (by rfl) (by rfl) (.inl rfl) (by rfl) ?_
  show Pa N 39 59 [(8, .int 11), (7, .int 0), (0, .ref 30), (1, .ref ya), (2, .int 1), (3, .int 0), (4, .int yx), (5, .int yc), (6, .int 3)] [] (uI (uI (uI (uI (uI (uI (uI (uI (uI yA 30 6 0) 33 0 12) 30 6 1) 33 1 70) 30 6 2) 33 2 50) 30 6 3) 33 3 11) 30 6 4) _
  refine Pa.mp 1 (pc' := 61) (l' := [(8, .int 11), (7, .int 0), (0, .ref 30), (1, .ref ya), (2, .int 1), (3, .int 0), (4, .int yx), (5, .int yc), (6, .int 3)]) (st' := [.int 0]) (by rfl) ?_
  refine Pa.ist (by rfl) (by rfl) (.inl rfl) (by rfl) (by rfl) ?_
  refine Pa.mono (c_abv0 N (uI (uI (uI (uI (uI (uI (uI (uI (uI yA 30 6 0) 33 0 12) 30 6 1) 33 1 70) 30 6 2) 33 2 50) 30 6 3) 33 3 11) 30 6 4)) (fun yu A1 hu => ?_)
  obtain ⟨rfl, hu⟩ := hu
  rw [hu]
  show Pa N 39 64 [(8, .int 11), (7, .int 0), (0, .ref 30), (1, .ref ya), (2, .int 1), (3, .int 0), (4, .int yx), (5, .int yc), (6, .int 3)] [.int (-1)] (uI (uI (uI (uI (uI (uI (uI (uI (uI yA 30 6 0) 33 0 12) 30 6 1) 33 1 70) 30 6 2) 33 2 50) 30 6 3) 33 3 11) 30 6 4) _
  refine Pa.mp 2 (pc' := 68) (l' := [(9, .int (-1)), (8, .int 11), (7, .int 0), (0, .ref 30), (1, .ref ya), (2, .int 1), (3, .int 0), (4, .int yx), (5, .int yc), (6, .int 3)]) (st' := [.int 3]) (by rfl) ?_
  refine Pa.ic (x := 1) (pc' := 69) (by rfl) (by rfl) (by decide) ?_
  refine Pa.mp 3 (pc' := 74) (l' := [(10, .int 4), (9, .int (-1)), (8, .int 11), (7, .int 0), (0, .ref 30), (1, .ref ya), (2, .int 1), (3, .int 0), (4, .int yx), (5, .int yc), (6, .int 3)]) (st' := [.int 11]) (by rfl) ?_
  refine Pa.mp 1 (pc' := 170) (l' := [(10, .int 4), (9, .int (-1)), (8, .int 11), (7, .int 0), (0, .ref 30), (1, .ref ya), (2, .int 1), (3, .int 0), (4, .int yx), (5, .int yc), (6, .int 3)]) (st' := []) (by rfl) ?_
  refine Pa.mp 2 (pc' := 172) (l' := [(10, .int 4), (9, .int (-1)), (8, .int 11), (7, .int 0), (0, .ref 30), (1, .ref ya), (2, .int 1), (3, .int 0), (4, .int yx), (5, .int yc), (6, .int 3)]) (st' := [.ref ya, .ref 30]) (by rfl) ?_
  refine Pa.ic (x := 0) (pc' := 173) (by rfl) (by rfl) (by decide) ?_
  refine Pa.mp 1 (pc' := 174) (l' := [(10, .int 4), (9, .int (-1)), (8, .int 11), (7, .int 0), (0, .ref 30), (1, .ref ya), (2, .int 1), (3, .int 0), (4, .int yx), (5, .int yc), (6, .int 3)]) (st' := [.ref ya, .int 0, .ref ya, .ref 30]) (by rfl) ?_
  refine Pa.gfI (v := 6) (by rfl) (by rfl) (.inr rfl) (by rfl) (by show (uI (uI (uI (uI (uI (uI (uI (uI (uI yA 30 6 0) 33 0 12) 30 6 1) 33 1 70) 30 6 2) 33 2 50) 30 6 3) 33 3 11) 30 6 4).1 ya 1 = 6; rw [uI_c (by omega), uI_c (by omega), uI_c (by omega), uI_c (by omega), uI_c (by omega), uI_c (by omega), uI_c (by omega), uI_c (by omega), uI_c (by omega), hk]) ?_
  refine Pa.mp 3 (pc' := 183) (l' := [(10, .int 4), (9, .int (-1)), (8, .int 11), (7, .int 0), (0, .ref 30), (1, .ref ya), (2, .int 1), (3, .int 0), (4, .int yx), (5, .int yc), (6, .int 3)]) (st' := [.int 4, .int yc, .int yx, .int 6, .int 0, .ref ya, .ref 30]) (by rfl) ?_
  refine Pa.inv (by rfl) (by rfl) (.inl rfl) (by rfl) ?_
  show Pa N 39 0 [(0, .ref 30), (1, .ref ya), (2, .int 0), (3, .int 6), (4, .int yx), (5, .int yc), (6, .int 4)] [] (uI (uI (uI (uI (uI (uI (uI (uI (uI yA 30 6 0) 33 0 12) 30 6 1) 33 1 70) 30 6 2) 33 2 50) 30 6 3) 33 3 11) 30 6 4) _
  refine Pa.mp 2 (pc' := 2) (l' := [(0, .ref 30), (1, .ref ya), (2, .int 0), (3, .int 6), (4, .int yx), (5, .int yc), (6, .int 4)]) (st' := [.int 6, .int 0]) (by rfl) ?_
  refine Pa.ist (by rfl) (by rfl) (.inl rfl) (by rfl) (by rfl) ?_
  refine Pa.mono (c_kwb0_6 N (uI (uI (uI (uI (uI (uI (uI (uI (uI yA 30 6 0) 33 0 12) 30 6 1) 33 1 70) 30 6 2) 33 2 50) 30 6 3) 33 3 11) 30 6 4)) (fun yu A1 hu => ?_)
  obtain ⟨rfl, hu⟩ := hu
  rw [hu]
  show Pa N 39 5 [(0, .ref 30), (1, .ref ya), (2, .int 0), (3, .int 6), (4, .int yx), (5, .int yc), (6, .int 4)] [.int 0] (uI (uI (uI (uI (uI (uI (uI (uI (uI yA 30 6 0) 33 0 12) 30 6 1) 33 1 70) 30 6 2) 33 2 50) 30 6 3) 33 3 11) 30 6 4) _
  refine Pa.mp 2 (pc' := 9) (l' := [(7, .int 0), (0, .ref 30), (1, .ref ya), (2, .int 0), (3, .int 6), (4, .int yx), (5, .int yc), (6, .int 4)]) (st' := [.int 0]) (by rfl) ?_
  refine Pa.if1k false (by rfl) (by rfl) (by decide) ?_
  show Pa N 39 12 [(7, .int 0), (0, .ref 30), (1, .ref ya), (2, .int 0), (3, .int 6), (4, .int yx), (5, .int yc), (6, .int 4)] [] (uI (uI (uI (uI (uI (uI (uI (uI (uI yA 30 6 0) 33 0 12) 30 6 1) 33 1 70) 30 6 2) 33 2 50) 30 6 3) 33 3 11) 30 6 4) _
  refine Pa.mp 1 (pc' := 14) (l' := [(7, .int 0), (0, .ref 30), (1, .ref ya), (2, .int 0), (3, .int 6), (4, .int yx), (5, .int yc), (6, .int 4)]) (st' := [.int 4]) (by rfl) ?_
  refine Pa.ic (x := 30) (pc' := 16) (by rfl) (by rfl) (by decide) ?_
  refine Pa.if2k true (by rfl) (by rfl) (by decide) ?_
  show Pa N 39 21 [(7, .int 0), (0, .ref 30), (1, .ref ya), (2, .int 0), (3, .int 6), (4, .int yx), (5, .int yc), (6, .int 4)] [] (uI (uI (uI (uI (uI (uI (uI (uI (uI yA 30 6 0) 33 0 12) 30 6 1) 33 1 70) 30 6 2) 33 2 50) 30 6 3) 33 3 11) 30 6 4) _
  refine Pa.mp 2 (pc' := 24) (l' := [(7, .int 0), (0, .ref 30), (1, .ref ya), (2, .int 0), (3, .int 6), (4, .int yx), (5, .int yc), (6, .int 4)]) (st' := [.int 0, .int 0]) (by rfl) ?_
  refine Pa.ist (by rfl) (by rfl) (.inl rfl) (by rfl) (by rfl) ?_
  refine Pa.mono (c_bod0_0 N (uI (uI (uI (uI (uI (uI (uI (uI (uI yA 30 6 0) 33 0 12) 30 6 1) 33 1 70) 30 6 2) 33 2 50) 30 6 3) 33 3 11) 30 6 4)) (fun yu A1 hu => ?_)
  obtain ⟨rfl, hu⟩ := hu
  rw [hu]
  show Pa N 39 27 [(7, .int 0), (0, .ref 30), (1, .ref ya), (2, .int 0), (3, .int 6), (4, .int yx), (5, .int yc), (6, .int 4)] [.int 10] (uI (uI (uI (uI (uI (uI (uI (uI (uI yA 30 6 0) 33 0 12) 30 6 1) 33 1 70) 30 6 2) 33 2 50) 30 6 3) 33 3 11) 30 6 4) _
  refine Pa.mp 2 (pc' := 30) (l' := [(8, .int 10), (7, .int 0), (0, .ref 30), (1, .ref ya), (2, .int 0), (3, .int 6), (4, .int yx), (5, .int yc), (6, .int 4)]) (st' := [.ref 30]) (by rfl) ?_
  refine Pa.gfI (v := 4) (by rfl) (by rfl) (.inl rfl) (by rfl) (by show (uI (uI (uI (uI (uI (uI (uI (uI (uI yA 30 6 0) 33 0 12) 30 6 1) 33 1 70) 30 6 2) 33 2 50) 30 6 3) 33 3 11) 30 6 4).1 30 6 = 4; rw [uI_h]) ?_
  refine Pa.ic (x := 24) (pc' := 35) (by rfl) (by rfl) (by decide) ?_
  refine Pa.if2k false (by rfl) (by rfl) (by decide) ?_
  show Pa N 39 38 [(8, .int 10), (7, .int 0), (0, .ref 30), (1, .ref ya), (2, .int 0), (3, .int 6), (4, .int yx), (5, .int yc), (6, .int 4)] [] (uI (uI (uI (uI (uI (uI (uI (uI (uI yA 30 6 0) 33 0 12) 30 6 1) 33 1 70) 30 6 2) 33 2 50) 30 6 3) 33 3 11) 30 6 4) _
  refine Pa.mp 1 (pc' := 39) (l' := [(8, .int 10), (7, .int 0), (0, .ref 30), (1, .ref ya), (2, .int 0), (3, .int 6), (4, .int yx), (5, .int yc), (6, .int 4)]) (st' := [.ref 30]) (by rfl) ?_
  refine Pa.gfR (by rfl) (by rfl) (.inl rfl) (by rfl) ?_
  show Pa N 39 42 [(8, .int 10), (7, .int 0), (0, .ref 30), (1, .ref ya), (2, .int 0), (3, .int 6), (4, .int yx), (5, .int yc), (6, .int 4)] [.ref 33] (uI (uI (uI (uI (uI (uI (uI (uI (uI yA 30 6 0) 33 0 12) 30 6 1) 33 1 70) 30 6 2) 33 2 50) 30 6 3) 33 3 11) 30 6 4) _
  refine Pa.mp 1 (pc' := 43) (l' := [(8, .int 10), (7, .int 0), (0, .ref 30), (1, .ref ya), (2, .int 0), (3, .int 6), (4, .int yx), (5, .int yc), (6, .int 4)]) (st' := [.ref 30, .ref 33]) (by rfl) ?_
  refine Pa.gfI (v := 4) (by rfl) (by rfl) (.inl rfl) (by rfl) (by show (uI (uI (uI (uI (uI (uI (uI (uI (uI yA 30 6 0) 33 0 12) 30 6 1) 33 1 70) 30 6 2) 33 2 50) 30 6 3) 33 3 11) 30 6 4).1 30 6 = 4; rw [uI_h]) ?_
  refine Pa.mp 1 (pc' := 48) (l' := [(8, .int 10), (7, .int 0), (0, .ref 30), (1, .ref ya), (2, .int 0), (3, .int 6), (4, .int yx), (5, .int yc), (6, .int 4)]) (st' := [.int 10, .int 4, .ref 33]) (by rfl) ?_
  refine Pa.asts (j' := 4) (by rfl) (by rfl) (by rfl) (fun h9 h10 => ?_)
  show Pa N 39 49 [(8, .int 10), (7, .int 0), (0, .ref 30), (1, .ref ya), (2, .int 0), (3, .int 6), (4, .int yx), (5, .int yc), (6, .int 4)] [] (uI (uI (uI (uI (uI (uI (uI (uI (uI (uI yA 30 6 0) 33 0 12) 30 6 1) 33 1 70) 30 6 2) 33 2 50) 30 6 3) 33 3 11) 30 6 4) 33 4 10) _
  refine Pa.mp 2 (pc' := 51) (l' := [(8, .int 10), (7, .int 0), (0, .ref 30), (1, .ref ya), (2, .int 0), (3, .int 6), (4, .int yx), (5, .int yc), (6, .int 4)]) (st' := [.ref 30, .ref 30]) (by rfl) ?_
  refine Pa.gfI (v := 4) (by rfl) (by rfl) (.inl rfl) (by rfl) (by show (uI (uI (uI (uI (uI (uI (uI (uI (uI (uI yA 30 6 0) 33 0 12) 30 6 1) 33 1 70) 30 6 2) 33 2 50) 30 6 3) 33 3 11) 30 6 4) 33 4 10).1 30 6 = 4; rw [uI_c (by decide), uI_h]) ?_
  refine Pa.ic (x := 1) (pc' := 55) (by rfl) (by rfl) (by decide) ?_
  refine Pa.mp 1 (pc' := 56) (l' := [(8, .int 10), (7, .int 0), (0, .ref 30), (1, .ref ya), (2, .int 0), (3, .int 6), (4, .int yx), (5, .int yc), (6, .int 4)]) (st' := [.int 5, .ref 30]) (by rfl) ?_
  refine Pa.pfI (by rfl) (by rfl) (.inl rfl) (by rfl) ?_
  show Pa N 39 59 [(8, .int 10), (7, .int 0), (0, .ref 30), (1, .ref ya), (2, .int 0), (3, .int 6), (4, .int yx), (5, .int yc), (6, .int 4)] [] (uI (uI (uI (uI (uI (uI (uI (uI (uI (uI (uI yA 30 6 0) 33 0 12) 30 6 1) 33 1 70) 30 6 2) 33 2 50) 30 6 3) 33 3 11) 30 6 4) 33 4 10) 30 6 5) _
  refine Pa.mp 1 (pc' := 61) (l' := [(8, .int 10), (7, .int 0), (0, .ref 30), (1, .ref ya), (2, .int 0), (3, .int 6), (4, .int yx), (5, .int yc), (6, .int 4)]) (st' := [.int 0]) (by rfl) ?_
  refine Pa.ist (by rfl) (by rfl) (.inl rfl) (by rfl) (by rfl) ?_
  refine Pa.mono (c_abv0 N (uI (uI (uI (uI (uI (uI (uI (uI (uI (uI (uI yA 30 6 0) 33 0 12) 30 6 1) 33 1 70) 30 6 2) 33 2 50) 30 6 3) 33 3 11) 30 6 4) 33 4 10) 30 6 5)) (fun yu A1 hu => ?_)
  obtain ⟨rfl, hu⟩ := hu
  rw [hu]
  show Pa N 39 64 [(8, .int 10), (7, .int 0), (0, .ref 30), (1, .ref ya), (2, .int 0), (3, .int 6), (4, .int yx), (5, .int yc), (6, .int 4)] [.int (-1)] (uI (uI (uI (uI (uI (uI (uI (uI (uI (uI (uI yA 30 6 0) 33 0 12) 30 6 1) 33 1 70) 30 6 2) 33 2 50) 30 6 3) 33 3 11) 30 6 4) 33 4 10) 30 6 5) _
  refine Pa.mp 2 (pc' := 68) (l' := [(9, .int (-1)), (8, .int 10), (7, .int 0), (0, .ref 30), (1, .ref ya), (2, .int 0), (3, .int 6), (4, .int yx), (5, .int yc), (6, .int 4)]) (st' := [.int 4]) (by rfl) ?_
  refine Pa.ic (x := 1) (pc' := 69) (by rfl) (by rfl) (by decide) ?_
  refine Pa.mp 3 (pc' := 74) (l' := [(10, .int 5), (9, .int (-1)), (8, .int 10), (7, .int 0), (0, .ref 30), (1, .ref ya), (2, .int 0), (3, .int 6), (4, .int yx), (5, .int yc), (6, .int 4)]) (st' := [.int 10]) (by rfl) ?_
  refine Pa.mp 1 (pc' := 164) (l' := [(10, .int 5), (9, .int (-1)), (8, .int 10), (7, .int 0), (0, .ref 30), (1, .ref ya), (2, .int 0), (3, .int 6), (4, .int yx), (5, .int yc), (6, .int 4)]) (st' := []) (by rfl) ?_
  refine Pa.mp 3 (pc' := 169) (l' := [(10, .int 5), (9, .int (-1)), (8, .int 10), (7, .int 0), (0, .ref 30), (1, .ref ya), (2, .int 0), (3, .int 6), (4, .int yx), (5, .int yc), (6, .int 4)]) (st' := [.int (yx + yc)]) (by rfl) ?_
  refine Pa.iret (by rfl) ?_
  show Pa N 39 186 [(10, .int 4), (9, .int (-1)), (8, .int 11), (7, .int 0), (0, .ref 30), (1, .ref ya), (2, .int 1), (3, .int 0), (4, .int yx), (5, .int yc), (6, .int 3)] [.int (yx + yc)] (uI (uI (uI (uI (uI (uI (uI (uI (uI (uI (uI yA 30 6 0) 33 0 12) 30 6 1) 33 1 70) 30 6 2) 33 2 50) 30 6 3) 33 3 11) 30 6 4) 33 4 10) 30 6 5) _
  refine Pa.ic (x := 2) (pc' := 187) (by rfl) (by rfl) (by decide) ?_
  refine Pa.mp 1 (pc' := 188) (l' := [(10, .int 4), (9, .int (-1)), (8, .int 11), (7, .int 0), (0, .ref 30), (1, .ref ya), (2, .int 1), (3, .int 0), (4, .int yx), (5, .int yc), (6, .int 3)]) (st' := [.int ((yx + yc) * 2)]) (by rfl) ?_
  refine Pa.iret (by rfl) ?_
  show Pa N 39 295 [(10, .int 3), (9, .int 0), (8, .int 50), (7, .int 4), (0, .ref 30), (1, .ref ya), (2, .int 1), (3, .int 4), (4, .int yx), (5, .int yc), (6, .int 2)] [.int ((yx + yc) * 2)] (uI (uI (uI (uI (uI (uI (uI (uI (uI (uI (uI yA 30 6 0) 33 0 12) 30 6 1) 33 1 70) 30 6 2) 33 2 50) 30 6 3) 33 3 11) 30 6 4) 33 4 10) 30 6 5) _
  refine Pa.mp 1 (pc' := 296) (l' := [(10, .int 3), (9, .int 0), (8, .int 50), (7, .int 4), (0, .ref 30), (1, .ref ya), (2, .int 1), (3, .int 4), (4, .int yx), (5, .int yc), (6, .int 2)]) (st' := [.int (-((yx + yc) * 2))]) (by rfl) ?_
  refine Pa.iret (by rfl) ?_
  show Pa N 39 345 [(10, .int 2), (9, .int 4), (8, .int 70), (7, .int 6), (0, .ref 30), (1, .ref ya), (2, .int 1), (3, .int 6), (4, .int yx), (5, .int yc), (6, .int 1)] [.int (-((yx + yc) * 2))] (uI (uI (uI (uI (uI (uI (uI (uI (uI (uI (uI yA 30 6 0) 33 0 12) 30 6 1) 33 1 70) 30 6 2) 33 2 50) 30 6 3) 33 3 11) 30 6 4) 33 4 10) 30 6 5) _
  refine Pa.mp 4 (pc' := 351) (l' := [(12, .int (-((yx + yc) * 2))), (10, .int 2), (9, .int 4), (8, .int 70), (7, .int 6), (0, .ref 30), (1, .ref ya), (2, .int 1), (3, .int 6), (4, .int yx), (5, .int yc), (6, .int 1)]) (st' := [.ref ya, .ref 30, .int (-((yx + yc) * 2))]) (by rfl) ?_
  refine Pa.ic (x := 0) (pc' := 352) (by rfl) (by rfl) (by decide) ?_
  refine Pa.mp 1 (pc' := 353) (l' := [(12, .int (-((yx + yc) * 2))), (10, .int 2), (9, .int 4), (8, .int 70), (7, .int 6), (0, .ref 30), (1, .ref ya), (2, .int 1), (3, .int 6), (4, .int yx), (5, .int yc), (6, .int 1)]) (st' := [.ref ya, .int 0, .ref ya, .ref 30, .int (-((yx + yc) * 2))]) (by rfl) ?_
  refine Pa.gfI (v := 6) (by rfl) (by rfl) (.inr rfl) (by rfl) (by show (uI (uI (uI (uI (uI (uI (uI (uI (uI (uI (uI yA 30 6 0) 33 0 12) 30 6 1) 33 1 70) 30 6 2) 33 2 50) 30 6 3) 33 3 11) 30 6 4) 33 4 10) 30 6 5).1 ya 1 = 6; rw [uI_c (by omega), uI_c (by omega), uI_c (by omega), uI_c (by omega), uI_c (by omega), uI_c (by omega), uI_c (by omega), uI_c (by omega), uI_c (by omega), uI_c (by omega), uI_c (by omega), hk]) ?_
  refine Pa.ic (x := 2) (pc' := 357) (by rfl) (by rfl) (by decide) ?_
  refine Pa.mp 2 (pc' := 361) (l' := [(12, .int (-((yx + yc) * 2))), (10, .int 2), (9, .int 4), (8, .int 70), (7, .int 6), (0, .ref 30), (1, .ref ya), (2, .int 1), (3, .int 6), (4, .int yx), (5, .int yc), (6, .int 1)]) (st' := [.int 2, .int yc, .int 2, .int 6, .int 0, .ref ya, .ref 30, .int (-((yx + yc) * 2))]) (by rfl) ?_
  refine Pa.inv (by rfl) (by rfl) (.inl rfl) (by rfl) ?_
  show Pa N 39 0 [(0, .ref 30), (1, .ref ya), (2, .int 0), (3, .int 6), (4, .int 2), (5, .int yc), (6, .int 2)] [] (uI (uI (uI (uI (uI (uI (uI (uI (uI (uI (uI yA 30 6 0) 33 0 12) 30 6 1) 33 1 70) 30 6 2) 33 2 50) 30 6 3) 33 3 11) 30 6 4) 33 4 10) 30 6 5) _
  refine Pa.mp 2 (pc' := 2) (l' := [(0, .ref 30), (1, .ref ya), (2, .int 0), (3, .int 6), (4, .int 2), (5, .int yc), (6, .int 2)]) (st' := [.int 6, .int 0]) (by rfl) ?_
  refine Pa.ist (by rfl) (by rfl) (.inl rfl) (by rfl) (by rfl) ?_
  refine Pa.mono (c_kwb0_6 N (uI (uI (uI (uI (uI (uI (uI (uI (uI (uI (uI yA 30 6 0) 33 0 12) 30 6 1) 33 1 70) 30 6 2) 33 2 50) 30 6 3) 33 3 11) 30 6 4) 33 4 10) 30 6 5)) (fun yu A1 hu => ?_)
  obtain ⟨rfl, hu⟩ := hu
  rw [hu]
  show Pa N 39 5 [(0, .ref 30), (1, .ref ya), (2, .int 0), (3, .int 6), (4, .int 2), (5, .int yc), (6, .int 2)] [.int 0] (uI (uI (uI (uI (uI (uI (uI (uI (uI (uI (uI yA 30 6 0) 33 0 12) 30 6 1) 33 1 70) 30 6 2) 33 2 50) 30 6 3) 33 3 11) 30 6 4) 33 4 10) 30 6 5) _
  refine Pa.mp 2 (pc' := 9) (l' := [(7, .int 0), (0, .ref 30), (1, .ref ya), (2, .int 0), (3, .int 6), (4, .int 2), (5, .int yc), (6, .int 2)]) (st' := [.int 0]) (by rfl) ?_
  refine Pa.if1k false (by rfl) (by rfl) (by decide) ?_
  show Pa N 39 12 [(7, .int 0), (0, .ref 30), (1, .ref ya), (2, .int 0), (3, .int 6), (4, .int 2), (5, .int yc), (6, .int 2)] [] (uI (uI (uI (uI (uI (uI (uI (uI (uI (uI (uI yA 30 6 0) 33 0 12) 30 6 1) 33 1 70) 30 6 2) 33 2 50) 30 6 3) 33 3 11) 30 6 4) 33 4 10) 30 6 5) _
  refine Pa.mp 1 (pc' := 14) (l' := [(7, .int 0), (0, .ref 30), (1, .ref ya), (2, .int 0), (3, .int 6), (4, .int 2), (5, .int yc), (6, .int 2)]) (st' := [.int 2]) (by rfl) ?_
  refine Pa.ic (x := 30) (pc' := 16) (by rfl) (by rfl) (by decide) ?_
  refine Pa.if2k true (by rfl) (by rfl) (by decide) ?_
  show Pa N 39 21 [(7, .int 0), (0, .ref 30), (1, .ref ya), (2, .int 0), (3, .int 6), (4, .int 2), (5, .int yc), (6, .int 2)] [] (uI (uI (uI (uI (uI (uI (uI (uI (uI (uI (uI yA 30 6 0) 33 0 12) 30 6 1) 33 1 70) 30 6 2) 33 2 50) 30 6 3) 33 3 11) 30 6 4) 33 4 10) 30 6 5) _
  refine Pa.mp 2 (pc' := 24) (l' := [(7, .int 0), (0, .ref 30), (1, .ref ya), (2, .int 0), (3, .int 6), (4, .int 2), (5, .int yc), (6, .int 2)]) (st' := [.int 0, .int 0]) (by rfl) ?_
  refine Pa.ist (by rfl) (by rfl) (.inl rfl) (by rfl) (by rfl) ?_
  refine Pa.mono (c_bod0_0 N (uI (uI (uI (uI (uI (uI (uI (uI (uI (uI (uI yA 30 6 0) 33 0 12) 30 6 1) 33 1 70) 30 6 2) 33 2 50) 30 6 3) 33 3 11) 30 6 4) 33 4 10) 30 6 5)) (fun yu A1 hu => ?_)
  obtain ⟨rfl, hu⟩ := hu
  rw [hu]
  show Pa N 39 27 [(7, .int 0), (0, .ref 30), (1, .ref ya), (2, .int 0), (3, .int 6), (4, .int 2), (5, .int yc), (6, .int 2)] [.int 10] (uI (uI (uI (uI (uI (uI (uI (uI (uI (uI (uI yA 30 6 0) 33 0 12) 30 6 1) 33 1 70) 30 6 2) 33 2 50) 30 6 3) 33 3 11) 30 6 4) 33 4 10) 30 6 5) _
  refine Pa.mp 2 (pc' := 30) (l' := [(8, .int 10), (7, .int 0), (0, .ref 30), (1, .ref ya), (2, .int 0), (3, .int 6), (4, .int 2), (5, .int yc), (6, .int 2)]) (st' := [.ref 30]) (by rfl) ?_
  refine Pa.gfI (v := 5) (by rfl) (by rfl) (.inl rfl) (by rfl) (by show (uI (uI (uI (uI (uI (uI (uI (uI (uI (uI (uI yA 30 6 0) 33 0 12) 30 6 1) 33 1 70) 30 6 2) 33 2 50) 30 6 3) 33 3 11) 30 6 4) 33 4 10) 30 6 5).1 30 6 = 5; rw [uI_h]) ?_
  refine Pa.ic (x := 24) (pc' := 35) (by rfl) (by rfl) (by decide) ?_
  refine Pa.if2k false (by rfl) (by rfl) (by decide) ?_
  show Pa N 39 38 [(8, .int 10), (7, .int 0), (0, .ref 30), (1, .ref ya), (2, .int 0), (3, .int 6), (4, .int 2), (5, .int yc), (6, .int 2)] [] (uI (uI (uI (uI (uI (uI (uI (uI (uI (uI (uI yA 30 6 0) 33 0 12) 30 6 1) 33 1 70) 30 6 2) 33 2 50) 30 6 3) 33 3 11) 30 6 4) 33 4 10) 30 6 5) _
  refine Pa.mp 1 (pc' := 39) (l' := [(8, .int 10), (7, .int 0), (0, .ref 30), (1, .ref ya), (2, .int 0), (3, .int 6), (4, .int 2), (5, .int yc), (6, .int 2)]) (st' := [.ref 30]) (by rfl) ?_
  refine Pa.gfR (by rfl) (by rfl) (.inl rfl) (by rfl) ?_
  show Pa N 39 42 [(8, .int 10), (7, .int 0), (0, .ref 30), (1, .ref ya), (2, .int 0), (3, .int 6), (4, .int 2), (5, .int yc), (6, .int 2)] [.ref 33] (uI (uI (uI (uI (uI (uI (uI (uI (uI (uI (uI yA 30 6 0) 33 0 12) 30 6 1) 33 1 70) 30 6 2) 33 2 50) 30 6 3) 33 3 11) 30 6 4) 33 4 10) 30 6 5) _
  refine Pa.mp 1 (pc' := 43) (l' := [(8, .int 10), (7, .int 0), (0, .ref 30), (1, .ref ya), (2, .int 0), (3, .int 6), (4, .int 2), (5, .int yc), (6, .int 2)]) (st' := [.ref 30, .ref 33]) (by rfl) ?_
  refine Pa.gfI (v := 5) (by rfl) (by rfl) (.inl rfl) (by rfl) (by show (uI (uI (uI (uI (uI (uI (uI (uI (uI (uI (uI yA 30 6 0) 33 0 12) 30 6 1) 33 1 70) 30 6 2) 33 2 50) 30 6 3) 33 3 11) 30 6 4) 33 4 10) 30 6 5).1 30 6 = 5; rw [uI_h]) ?_
  refine Pa.mp 1 (pc' := 48) (l' := [(8, .int 10), (7, .int 0), (0, .ref 30), (1, .ref ya), (2, .int 0), (3, .int 6), (4, .int 2), (5, .int yc), (6, .int 2)]) (st' := [.int 10, .int 5, .ref 33]) (by rfl) ?_
  refine Pa.asts (j' := 5) (by rfl) (by rfl) (by rfl) (fun h11 h12 => ?_)
  show Pa N 39 49 [(8, .int 10), (7, .int 0), (0, .ref 30), (1, .ref ya), (2, .int 0), (3, .int 6), (4, .int 2), (5, .int yc), (6, .int 2)] [] (uI (uI (uI (uI (uI (uI (uI (uI (uI (uI (uI (uI yA 30 6 0) 33 0 12) 30 6 1) 33 1 70) 30 6 2) 33 2 50) 30 6 3) 33 3 11) 30 6 4) 33 4 10) 30 6 5) 33 5 10) _
  refine Pa.mp 2 (pc' := 51) (l' := [(8, .int 10), (7, .int 0), (0, .ref 30), (1, .ref ya), (2, .int 0), (3, .int 6), (4, .int 2), (5, .int yc), (6, .int 2)]) (st' := [.ref 30, .ref 30]) (by rfl) ?_
  refine Pa.gfI (v := 5) (by rfl) (by rfl) (.inl rfl) (by rfl) (by show (uI (uI (uI (uI (uI (uI (uI (uI (uI (uI (uI (uI yA 30 6 0) 33 0 12) 30 6 1) 33 1 70) 30 6 2) 33 2 50) 30 6 3) 33 3 11) 30 6 4) 33 4 10) 30 6 5) 33 5 10).1 30 6 = 5; rw [uI_c (by decide), uI_h]) ?_
  refine Pa.ic (x := 1) (pc' := 55) (by rfl) (by rfl) (by decide) ?_
  refine Pa.mp 1 (pc' := 56) (l' := [(8, .int 10), (7, .int 0), (0, .ref 30), (1, .ref ya), (2, .int 0), (3, .int 6), (4, .int 2), (5, .int yc), (6, .int 2)]) (st' := [.int 6, .ref 30]) (by rfl) ?_
  refine Pa.pfI (by rfl) (by rfl) (.inl rfl) (by rfl) ?_
  show Pa N 39 59 [(8, .int 10), (7, .int 0), (0, .ref 30), (1, .ref ya), (2, .int 0), (3, .int 6), (4, .int 2), (5, .int yc), (6, .int 2)] [] (uI (uI (uI (uI (uI (uI (uI (uI (uI (uI (uI (uI (uI yA 30 6 0) 33 0 12) 30 6 1) 33 1 70) 30 6 2) 33 2 50) 30 6 3) 33 3 11) 30 6 4) 33 4 10) 30 6 5) 33 5 10) 30 6 6) _
  refine Pa.mp 1 (pc' := 61) (l' := [(8, .int 10), (7, .int 0), (0, .ref 30), (1, .ref ya), (2, .int 0), (3, .int 6), (4, .int 2), (5, .int yc), (6, .int 2)]) (st' := [.int 0]) (by rfl) ?_
  refine Pa.ist (by rfl) (by rfl) (.inl rfl) (by rfl) (by rfl) ?_
  refine Pa.mono (c_abv0 N (uI (uI (uI (uI (uI (uI (uI (uI (uI (uI (uI (uI (uI yA 30 6 0) 33 0 12) 30 6 1) 33 1 70) 30 6 2) 33 2 50) 30 6 3) 33 3 11) 30 6 4) 33 4 10) 30 6 5) 33 5 10) 30 6 6)) (fun yu A1 hu => ?_)
  obtain ⟨rfl, hu⟩ := hu
  rw [hu]
  show Pa N 39 64 [(8, .int 10), (7, .int 0), (0, .ref 30), (1, .ref ya), (2, .int 0), (3, .int 6), (4, .int 2), (5, .int yc), (6, .int 2)] [.int (-1)] (uI (uI (uI (uI (uI (uI (uI (uI (uI (uI (uI (uI (uI yA 30 6 0) 33 0 12) 30 6 1) 33 1 70) 30 6 2) 33 2 50) 30 6 3) 33 3 11) 30 6 4) 33 4 10) 30 6 5) 33 5 10) 30 6 6) _
  refine Pa.mp 2 (pc' := 68) (l' := [(9, .int (-1)), (8, .int 10), (7, .int 0), (0, .ref 30), (1, .ref ya), (2, .int 0), (3, .int 6), (4, .int 2), (5, .int yc), (6, .int 2)]) (st' := [.int 2]) (by rfl) ?_
  refine Pa.ic (x := 1) (pc' := 69) (by rfl) (by rfl) (by decide) ?_
  refine Pa.mp 3 (pc' := 74) (l' := [(10, .int 3), (9, .int (-1)), (8, .int 10), (7, .int 0), (0, .ref 30), (1, .ref ya), (2, .int 0), (3, .int 6), (4, .int 2), (5, .int yc), (6, .int 2)]) (st' := [.int 10]) (by rfl) ?_
  refine Pa.mp 1 (pc' := 164) (l' := [(10, .int 3), (9, .int (-1)), (8, .int 10), (7, .int 0), (0, .ref 30), (1, .ref ya), (2, .int 0), (3, .int 6), (4, .int 2), (5, .int yc), (6, .int 2)]) (st' := []) (by rfl) ?_
  refine Pa.mp 3 (pc' := 169) (l' := [(10, .int 3), (9, .int (-1)), (8, .int 10), (7, .int 0), (0, .ref 30), (1, .ref ya), (2, .int 0), (3, .int 6), (4, .int 2), (5, .int yc), (6, .int 2)]) (st' := [.int (2 + yc)]) (by rfl) ?_
  refine Pa.iret (by rfl) ?_
  show Pa N 39 364 [(12, .int (-((yx + yc) * 2))), (10, .int 2), (9, .int 4), (8, .int 70), (7, .int 6), (0, .ref 30), (1, .ref ya), (2, .int 1), (3, .int 6), (4, .int yx), (5, .int yc), (6, .int 1)] [.int (2 + yc), .int (-((yx + yc) * 2))] (uI (uI (uI (uI (uI (uI (uI (uI (uI (uI (uI (uI (uI yA 30 6 0) 33 0 12) 30 6 1) 33 1 70) 30 6 2) 33 2 50) 30 6 3) 33 3 11) 30 6 4) 33 4 10) 30 6 5) 33 5 10) 30 6 6) _
  refine Pa.mp 1 (pc' := 365) (l' := [(12, .int (-((yx + yc) * 2))), (10, .int 2), (9, .int 4), (8, .int 70), (7, .int 6), (0, .ref 30), (1, .ref ya), (2, .int 1), (3, .int 6), (4, .int yx), (5, .int yc), (6, .int 1)]) (st' := [.int ((-((yx + yc) * 2)) - (2 + yc))]) (by rfl) ?_
  refine Pa.iret (by rfl) ?_
  show Pa N 39 205 [(10, .int 1), (9, .int (-1)), (8, .int 12), (7, .int 0), (0, .ref 30), (1, .ref ya), (2, .int 2), (3, .int 6), (4, .int yx), (5, .int yc), (6, .int 0)] [.int ((-((yx + yc) * 2)) - (2 + yc))] (uI (uI (uI (uI (uI (uI (uI (uI (uI (uI (uI (uI (uI yA 30 6 0) 33 0 12) 30 6 1) 33 1 70) 30 6 2) 33 2 50) 30 6 3) 33 3 11) 30 6 4) 33 4 10) 30 6 5) 33 5 10) 30 6 6) _
  refine Pa.mp 1 (pc' := 206) (l' := [(10, .int 1), (9, .int (-1)), (8, .int 12), (7, .int 0), (0, .ref 30), (1, .ref ya), (2, .int 2), (3, .int 6), (4, .int yx), (5, .int yc), (6, .int 0)]) (st' := [.ref ya, .int ((-((yx + yc) * 2)) - (2 + yc))]) (by rfl) ?_
  refine Pa.gfI (v := yA.1 ya 0) (by rfl) (by rfl) (.inr rfl) (by rfl) (by show (uI (uI (uI (uI (uI (uI (uI (uI (uI (uI (uI (uI (uI yA 30 6 0) 33 0 12) 30 6 1) 33 1 70) 30 6 2) 33 2 50) 30 6 3) 33 3 11) 30 6 4) 33 4 10) 30 6 5) 33 5 10) 30 6 6).1 ya 0 = yA.1 ya 0; rw [uI_c (by omega), uI_c (by omega), uI_c (by omega), uI_c (by omega), uI_c (by omega), uI_c (by omega), uI_c (by omega), uI_c (by omega), uI_c (by omega), uI_c (by omega), uI_c (by omega), uI_c (by omega), uI_c (by omega)]) ?_
  refine Pa.mp 1 (pc' := 210) (l' := [(10, .int 1), (9, .int (-1)), (8, .int 12), (7, .int 0), (0, .ref 30), (1, .ref ya), (2, .int 2), (3, .int 6), (4, .int yx), (5, .int yc), (6, .int 0)]) (st' := [.int (((-((yx + yc) * 2)) - (2 + yc)) - (yA.1 ya 0))]) (by rfl) ?_
  refine Pa.iret (by rfl) ?_
  exact l1
