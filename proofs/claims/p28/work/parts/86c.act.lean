/-! ACT and TRACE: the pairs -/
theorem c_pf (N : Nat) (yA : AW) (ya : Nat) (yq yk yx yc : Int32) (yha : 129 ≤ ya) (hk : yA.1 ya 1 = yk) (q0 : 0 ≤ yq.toInt) (yq1 : yq.toInt ≤ 2) (yk0 : 1 ≤ yk.toInt) (yk1 : yk.toInt ≤ 6) : Pa N 39 0 [(0, .ref 30), (1, .ref ya), (2, .int yq), (3, .int yk), (4, .int yx), (5, .int yc), (6, .int 0)] [] (uI yA 30 6 0) (fun yu A1 => yu = some (.int (vA yq.toInt.toNat yk.toInt.toNat yx yc (yA.1 ya 0))) ∧ A1 = pgl 33 30 6 (lA yq.toInt.toNat yk.toInt.toNat) 0 (uI yA 30 6 0)) := by
  have hq : yq = 0 ∨ yq = 1 ∨ yq = 2 := by
    rcases (by omega : yq.toInt = 0 ∨ yq.toInt = 1 ∨ yq.toInt = 2) with yh | yh | yh
    · exact .inl (i32_ext yh)
    · exact .inr (.inl (i32_ext yh))
    · exact .inr (.inr (i32_ext yh))
  clear q0 yq1
  have h6 := k_six yk0 yk1
  clear yk0 yk1
  rcases hq with yh | yh | yh <;> subst yh <;> rcases h6 with yg | yg | yg | yg | yg | yg <;> subst yg
  · rw [show (0 : Int32).toInt.toNat = 0 from by decide, show (1 : Int32).toInt.toNat = 1 from by decide]
    exact bpf0_1 yx yc yha hk ⟨rfl, rfl⟩
  · rw [show (0 : Int32).toInt.toNat = 0 from by decide, show (2 : Int32).toInt.toNat = 2 from by decide]
    exact bpf0_2 yx yc yha hk ⟨rfl, rfl⟩
  · rw [show (0 : Int32).toInt.toNat = 0 from by decide, show (3 : Int32).toInt.toNat = 3 from by decide]
    exact bpf0_3 yx yc yha hk ⟨rfl, rfl⟩
  · rw [show (0 : Int32).toInt.toNat = 0 from by decide, show (4 : Int32).toInt.toNat = 4 from by decide]
    exact bpf0_4 yx yc yha hk ⟨rfl, rfl⟩
  · rw [show (0 : Int32).toInt.toNat = 0 from by decide, show (5 : Int32).toInt.toNat = 5 from by decide]
    exact bpf0_5 yx yc yha hk ⟨rfl, rfl⟩
  · rw [show (0 : Int32).toInt.toNat = 0 from by decide, show (6 : Int32).toInt.toNat = 6 from by decide]
    exact bpf0_6 yx yc yha hk ⟨rfl, rfl⟩
  · rw [show (1 : Int32).toInt.toNat = 1 from by decide]
    exact bpf1_1 yx yc yha hk ⟨rfl, rfl⟩
  · rw [show (1 : Int32).toInt.toNat = 1 from by decide, show (2 : Int32).toInt.toNat = 2 from by decide]
    exact bpf1_2 yx yc yha hk ⟨rfl, rfl⟩
  · rw [show (1 : Int32).toInt.toNat = 1 from by decide, show (3 : Int32).toInt.toNat = 3 from by decide]
    exact bpf1_3 yx yc yha hk ⟨rfl, rfl⟩
  · rw [show (1 : Int32).toInt.toNat = 1 from by decide, show (4 : Int32).toInt.toNat = 4 from by decide]
    exact bpf1_4 yx yc yha hk ⟨rfl, rfl⟩
  · rw [show (1 : Int32).toInt.toNat = 1 from by decide, show (5 : Int32).toInt.toNat = 5 from by decide]
    exact bpf1_5 yx yc yha hk ⟨rfl, rfl⟩
  · rw [show (1 : Int32).toInt.toNat = 1 from by decide, show (6 : Int32).toInt.toNat = 6 from by decide]
    exact bpf1_6 yx yc yha hk ⟨rfl, rfl⟩
  · rw [show (1 : Int32).toInt.toNat = 1 from by decide, show (2 : Int32).toInt.toNat = 2 from by decide]
    exact bpf2_1 yx yc yha hk ⟨rfl, rfl⟩
  · rw [show (2 : Int32).toInt.toNat = 2 from by decide]
    exact bpf2_2 yx yc yha hk ⟨rfl, rfl⟩
  · rw [show (2 : Int32).toInt.toNat = 2 from by decide, show (3 : Int32).toInt.toNat = 3 from by decide]
    exact bpf2_3 yx yc yha hk ⟨rfl, rfl⟩
  · rw [show (2 : Int32).toInt.toNat = 2 from by decide, show (4 : Int32).toInt.toNat = 4 from by decide]
    exact bpf2_4 yx yc yha hk ⟨rfl, rfl⟩
  · rw [show (2 : Int32).toInt.toNat = 2 from by decide, show (5 : Int32).toInt.toNat = 5 from by decide]
    exact bpf2_5 yx yc yha hk ⟨rfl, rfl⟩
  · rw [show (2 : Int32).toInt.toNat = 2 from by decide, show (6 : Int32).toInt.toNat = 6 from by decide]
    exact bpf2_6 yx yc yha hk ⟨rfl, rfl⟩
theorem c_pms (N : Nat) (yA : AW) (yk yx yc : Int32) (hk : yA.1 89 yc.toInt.toNat = yk) (yk0 : 1 ≤ yk.toInt) (yk1 : yk.toInt ≤ 6) : Pa N 252 0 [(0, .ref 69), (1, .int yk), (2, .int yx)] [] (uI (uI yA 69 85 0) 69 86 yc) (fun yu A1 => yu = some (.int (vA 0 yk.toInt.toNat yx (kofM yA yc (yA.1 69 0)) yc)) ∧ A1 = pgl 128 69 85 (lA 0 yk.toInt.toNat) 0 (uI (uI yA 69 85 0) 69 86 yc)) := by
  have h6 := k_six yk0 yk1
  clear yk0 yk1
  rcases h6 with yg | yg | yg | yg | yg | yg <;> subst yg
  · rw [show (1 : Int32).toInt.toNat = 1 from by decide]
    exact bpm0_1 yx yc hk ⟨rfl, rfl⟩
  · rw [show (2 : Int32).toInt.toNat = 2 from by decide]
    exact bpm0_2 yx yc hk ⟨rfl, rfl⟩
  · rw [show (3 : Int32).toInt.toNat = 3 from by decide]
    exact bpm0_3 yx yc hk ⟨rfl, rfl⟩
  · rw [show (4 : Int32).toInt.toNat = 4 from by decide]
    exact bpm0_4 yx yc hk ⟨rfl, rfl⟩
  · rw [show (5 : Int32).toInt.toNat = 5 from by decide]
    exact bpm0_5 yx yc hk ⟨rfl, rfl⟩
  · rw [show (6 : Int32).toInt.toNat = 6 from by decide]
    exact bpm0_6 yx yc hk ⟨rfl, rfl⟩
theorem c_pmc (N : Nat) (yA : AW) (yk yx yc : Int32) (hk : yA.1 89 yc.toInt.toNat = yk) (yk0 : 1 ≤ yk.toInt) (yk1 : yk.toInt ≤ 6) : Pa N 253 0 [(0, .ref 69), (1, .int yk), (2, .int yx)] [] (uI (uI yA 69 85 0) 69 86 yc) (fun yu A1 => yu = some (.int (vA 1 yk.toInt.toNat yx (kofM yA yc (yA.1 69 0)) yc)) ∧ A1 = pgl 128 69 85 (lA 1 yk.toInt.toNat) 0 (uI (uI yA 69 85 0) 69 86 yc)) := by
  have h6 := k_six yk0 yk1
  clear yk0 yk1
  rcases h6 with yg | yg | yg | yg | yg | yg <;> subst yg
  · rw [show (1 : Int32).toInt.toNat = 1 from by decide]
    exact bpm1_1 yx yc hk (fun _ _ => ⟨rfl, rfl⟩)
  · rw [show (2 : Int32).toInt.toNat = 2 from by decide]
    exact bpm1_2 yx yc hk (fun _ _ => ⟨rfl, rfl⟩)
  · rw [show (3 : Int32).toInt.toNat = 3 from by decide]
    exact bpm1_3 yx yc hk (fun _ _ => ⟨rfl, rfl⟩)
  · rw [show (4 : Int32).toInt.toNat = 4 from by decide]
    exact bpm1_4 yx yc hk (fun _ _ => ⟨rfl, rfl⟩)
  · rw [show (5 : Int32).toInt.toNat = 5 from by decide]
    exact bpm1_5 yx yc hk (fun _ _ => ⟨rfl, rfl⟩)
  · rw [show (6 : Int32).toInt.toNat = 6 from by decide]
    exact bpm1_6 yx yc hk (fun _ _ => ⟨rfl, rfl⟩)
theorem c_pmp (N : Nat) (yA : AW) (yk yx yc : Int32) (hk : yA.1 89 yc.toInt.toNat = yk) (yk0 : 1 ≤ yk.toInt) (yk1 : yk.toInt ≤ 6) : Pa N 254 0 [(0, .ref 69), (1, .int yk), (2, .int yx)] [] (uI (uI yA 69 85 0) 69 86 yc) (fun yu A1 => yu = some (.int (vA 2 yk.toInt.toNat yx (kofM yA yc (yA.1 69 0)) yc)) ∧ A1 = pgl 128 69 85 (lA 2 yk.toInt.toNat) 0 (uI (uI yA 69 85 0) 69 86 yc)) := by
  have h6 := k_six yk0 yk1
  clear yk0 yk1
  rcases h6 with yg | yg | yg | yg | yg | yg <;> subst yg
  · rw [show (1 : Int32).toInt.toNat = 1 from by decide]
    exact bpm2_1 yx yc hk (fun _ _ => ⟨rfl, rfl⟩)
  · rw [show (2 : Int32).toInt.toNat = 2 from by decide]
    exact bpm2_2 yx yc hk (fun _ _ => ⟨rfl, rfl⟩)
  · rw [show (3 : Int32).toInt.toNat = 3 from by decide]
    exact bpm2_3 yx yc hk (fun _ _ => ⟨rfl, rfl⟩)
  · rw [show (4 : Int32).toInt.toNat = 4 from by decide]
    exact bpm2_4 yx yc hk (fun _ _ => ⟨rfl, rfl⟩)
  · rw [show (5 : Int32).toInt.toNat = 5 from by decide]
    exact bpm2_5 yx yc hk (fun _ _ => ⟨rfl, rfl⟩)
  · rw [show (6 : Int32).toInt.toNat = 6 from by decide]
    exact bpm2_6 yx yc hk (fun _ _ => ⟨rfl, rfl⟩)
theorem bx_act {N : Nat} {yA : AW} {yQ : Option Value → AW → Prop} (yc ya yx : Int32)
    (l1 : yc.toInt < 0 → yQ (some (.int (-2000000000))) yA)
    (l2 : 0 ≤ yc.toInt → (yA.1 30 4).toInt ≤ yc.toInt → yQ (some (.int (-2000000000))) yA)
    (l3 : 0 ≤ yc.toInt → yc.toInt < (yA.1 30 4).toInt → yc.toInt < 150 → ∀ ya1, yA.2.2.1 31 yc.toInt.toNat = some ya1 → 129 ≤ ya1 → ya1 < yA.2.2.2.2 → ya.toInt < 0 → yQ (some (.int (-2000000000))) yA)
    (l4 : 0 ≤ yc.toInt → yc.toInt < (yA.1 30 4).toInt → yc.toInt < 150 → ∀ ya1, yA.2.2.1 31 yc.toInt.toNat = some ya1 → 129 ≤ ya1 → ya1 < yA.2.2.2.2 → 0 ≤ ya.toInt → 2 < ya.toInt → yQ (some (.int (-2000000000))) yA)
    (l5 : 0 ≤ yc.toInt → yc.toInt < (yA.1 30 4).toInt → yc.toInt < 150 → ∀ ya1, yA.2.2.1 31 yc.toInt.toNat = some ya1 → 129 ≤ ya1 → ya1 < yA.2.2.2.2 → 0 ≤ ya.toInt → ya.toInt ≤ 2 → Pa N 39 0 [(0, .ref 30), (1, .ref ya1), (2, .int ya), (3, .int (yA.1 ya1 1)), (4, .int yx), (5, .int (cbyX yA ya1 (yA.1 0 10))), (6, .int 0)] [] (uI yA 30 6 0) (fun yu A1 => Pa N 142 61 [(0, .ref 0), (1, .int yc), (2, .int ya), (3, .int yx), (4, .ref ya1)] (yu.toList ++ []) A1 yQ))
    (l6 : 0 ≤ yc.toInt → yc.toInt < (yA.1 30 4).toInt → yc.toInt < 150 → yA.2.2.1 31 yc.toInt.toNat = none → yQ (some (.int (-2000000000))) yA) :
    Pa N 142 0 [(0, .ref 0), (1, .int yc), (2, .int ya), (3, .int yx)] [] yA yQ := by
  refine Pa.mp 1 (pc' := 1) (l' := [(0, .ref 0), (1, .int yc), (2, .int ya), (3, .int yx)]) (st' := [.ref 0]) (by rfl) ?_
  refine Pa.gfR (by rfl) (by rfl) (.inl rfl) (by rfl) ?_
  show Pa N 142 4 [(0, .ref 0), (1, .int yc), (2, .int ya), (3, .int yx)] [.ref 30] yA _
  refine Pa.mp 1 (pc' := 5) (l' := [(0, .ref 0), (1, .int yc), (2, .int ya), (3, .int yx)]) (st' := [.int yc, .ref 30]) (by rfl) ?_
  refine Pa.inv (by rfl) (by rfl) (.inr rfl) (by rfl) ?_
  show Pa N 26 0 [(0, .ref 30), (1, .int yc)] [] yA _
  refine Pa.mp 1 (pc' := 1) (l' := [(0, .ref 30), (1, .int yc)]) (st' := [.int yc]) (by rfl) ?_
  refine Pa.if1 (a := yc.toInt) (t := 21) (by rfl) (by rfl) (rfl) (fun h1 => ?_) (fun h2 => ?_)
  · have h1 : yc.toInt < 0 := h1
    refine Pa.mp 1 (pc' := 22) (l' := [(0, .ref 30), (1, .int yc)]) (st' := [.null]) (by rfl) ?_
    refine Pa.nret (by rfl) ?_
    show Pa N 142 8 [(0, .ref 0), (1, .int yc), (2, .int ya), (3, .int yx)] [.null] yA _
    refine Pa.mp 2 (pc' := 12) (l' := [(4, .null), (0, .ref 0), (1, .int yc), (2, .int ya), (3, .int yx)]) (st' := [.null]) (by rfl) ?_
    refine Pa.mp 1 (pc' := 24) (l' := [(4, .null), (0, .ref 0), (1, .int yc), (2, .int ya), (3, .int yx)]) (st' := []) (by rfl) ?_
    refine Pa.icl (x := (-2000000000)) (pc' := 26) (by rfl) (fun _ _ _ => by rfl) (by decide) ?_
    refine Pa.iret (by rfl) ?_
    exact l1 h1
  · have h2 : 0 ≤ yc.toInt := h2
    refine Pa.mp 2 (pc' := 6) (l' := [(0, .ref 30), (1, .int yc)]) (st' := [.ref 30, .int yc]) (by rfl) ?_
    refine Pa.gfI (v := yA.1 30 4) (by rfl) (by rfl) (.inl rfl) (by rfl) (by rfl) ?_
    refine Pa.if2 (a := yc.toInt) (b := (yA.1 30 4).toInt) (t := 21) (by rfl) (by rfl) (rfl) (rfl) (fun h3 => ?_) (fun h4 => ?_)
    · have h3 : (yA.1 30 4).toInt ≤ yc.toInt := h3
      refine Pa.mp 1 (pc' := 22) (l' := [(0, .ref 30), (1, .int yc)]) (st' := [.null]) (by rfl) ?_
      refine Pa.nret (by rfl) ?_
      show Pa N 142 8 [(0, .ref 0), (1, .int yc), (2, .int ya), (3, .int yx)] [.null] yA _
      refine Pa.mp 2 (pc' := 12) (l' := [(4, .null), (0, .ref 0), (1, .int yc), (2, .int ya), (3, .int yx)]) (st' := [.null]) (by rfl) ?_
      refine Pa.mp 1 (pc' := 24) (l' := [(4, .null), (0, .ref 0), (1, .int yc), (2, .int ya), (3, .int yx)]) (st' := []) (by rfl) ?_
      refine Pa.icl (x := (-2000000000)) (pc' := 26) (by rfl) (fun _ _ _ => by rfl) (by decide) ?_
      refine Pa.iret (by rfl) ?_
      exact l2 h2 h3
    · have h4 : yc.toInt < (yA.1 30 4).toInt := h4
      refine Pa.mp 1 (pc' := 13) (l' := [(0, .ref 30), (1, .int yc)]) (st' := [.ref 30]) (by rfl) ?_
      refine Pa.gfR (by rfl) (by rfl) (.inl rfl) (by rfl) ?_
      show Pa N 26 16 [(0, .ref 30), (1, .int yc)] [.ref 31] yA _
      refine Pa.mp 1 (pc' := 17) (l' := [(0, .ref 30), (1, .int yc)]) (st' := [.int yc, .ref 31]) (by rfl) ?_
      refine Pa.olds (o := yA.2.2.1 31 yc.toInt.toNat) (by rfl) (by rfl) (by rfl) (fun h5 h6 ya1 h7 h9 h10 => ?_) (fun h5 h6 h8 => ?_)
      · skip
        refine Pa.mp 1 (pc' := 22) (l' := [(0, .ref 30), (1, .int yc)]) (st' := [.ref ya1]) (by rfl) ?_
        refine Pa.aret (by rfl) ?_
        show Pa N 142 8 [(0, .ref 0), (1, .int yc), (2, .int ya), (3, .int yx)] [.ref ya1] yA _
        refine Pa.mp 2 (pc' := 12) (l' := [(4, .ref ya1), (0, .ref 0), (1, .int yc), (2, .int ya), (3, .int yx)]) (st' := [.ref ya1]) (by rfl) ?_
        refine Pa.mp 1 (pc' := 15) (l' := [(4, .ref ya1), (0, .ref 0), (1, .int yc), (2, .int ya), (3, .int yx)]) (st' := []) (by rfl) ?_
        refine Pa.mp 1 (pc' := 16) (l' := [(4, .ref ya1), (0, .ref 0), (1, .int yc), (2, .int ya), (3, .int yx)]) (st' := [.int ya]) (by rfl) ?_
        refine Pa.ic (x := 0) (pc' := 17) (by rfl) (by rfl) (by decide) ?_
        refine Pa.ic (x := 2) (pc' := 18) (by rfl) (by rfl) (by decide) ?_
        refine Pa.ist (by rfl) (by rfl) (.inl rfl) (by rfl) (by rfl) ?_
        show Pa N 146 0 [(0, .int ya), (1, .int 0), (2, .int 2)] [] yA _
        refine Pa.mp 2 (pc' := 2) (l' := [(0, .int ya), (1, .int 0), (2, .int 2)]) (st' := [.int 0, .int ya]) (by rfl) ?_
        refine Pa.if2 (a := ya.toInt) (b := 0) (t := 14) (by rfl) (by rfl) (rfl) (by decide) (fun h11 => ?_) (fun h12 => ?_)
        · have h11 : ya.toInt < 0 := h11
          refine Pa.ic (x := 0) (pc' := 15) (by rfl) (by rfl) (by decide) ?_
          refine Pa.iret (by rfl) ?_
          show Pa N 142 21 [(4, .ref ya1), (0, .ref 0), (1, .int yc), (2, .int ya), (3, .int yx)] [.int 0] yA _
          refine Pa.if1k false (by rfl) (by rfl) (by decide) ?_
          show Pa N 142 24 [(4, .ref ya1), (0, .ref 0), (1, .int yc), (2, .int ya), (3, .int yx)] [] yA _
          refine Pa.icl (x := (-2000000000)) (pc' := 26) (by rfl) (fun _ _ _ => by rfl) (by decide) ?_
          refine Pa.iret (by rfl) ?_
          exact l3 h2 h4 h6 ya1 h7 h9 h10 h11
        · have h12 : 0 ≤ ya.toInt := h12
          refine Pa.mp 2 (pc' := 7) (l' := [(0, .int ya), (1, .int 0), (2, .int 2)]) (st' := [.int 2, .int ya]) (by rfl) ?_
          refine Pa.if2 (a := ya.toInt) (b := 2) (t := 14) (by rfl) (by rfl) (rfl) (by decide) (fun h13 => ?_) (fun h14 => ?_)
          · have h13 : 2 < ya.toInt := h13
            refine Pa.ic (x := 0) (pc' := 15) (by rfl) (by rfl) (by decide) ?_
            refine Pa.iret (by rfl) ?_
            show Pa N 142 21 [(4, .ref ya1), (0, .ref 0), (1, .int yc), (2, .int ya), (3, .int yx)] [.int 0] yA _
            refine Pa.if1k false (by rfl) (by rfl) (by decide) ?_
            show Pa N 142 24 [(4, .ref ya1), (0, .ref 0), (1, .int yc), (2, .int ya), (3, .int yx)] [] yA _
            refine Pa.icl (x := (-2000000000)) (pc' := 26) (by rfl) (fun _ _ _ => by rfl) (by decide) ?_
            refine Pa.iret (by rfl) ?_
            exact l4 h2 h4 h6 ya1 h7 h9 h10 h12 h13
          · have h14 : ya.toInt ≤ 2 := h14
            refine Pa.ic (x := 1) (pc' := 11) (by rfl) (by rfl) (by decide) ?_
            refine Pa.mp 1 (pc' := 15) (l' := [(0, .int ya), (1, .int 0), (2, .int 2)]) (st' := [.int 1]) (by rfl) ?_
            refine Pa.iret (by rfl) ?_
            show Pa N 142 21 [(4, .ref ya1), (0, .ref 0), (1, .int yc), (2, .int ya), (3, .int yx)] [.int 1] yA _
            refine Pa.if1k true (by rfl) (by rfl) (by decide) ?_
            show Pa N 142 27 [(4, .ref ya1), (0, .ref 0), (1, .int yc), (2, .int ya), (3, .int yx)] [] yA _
            refine Pa.mp 1 (pc' := 28) (l' := [(4, .ref ya1), (0, .ref 0), (1, .int yc), (2, .int ya), (3, .int yx)]) (st' := [.ref 0]) (by rfl) ?_
            refine Pa.gfR (by rfl) (by rfl) (.inl rfl) (by rfl) ?_
            show Pa N 142 31 [(4, .ref ya1), (0, .ref 0), (1, .int yc), (2, .int ya), (3, .int yx)] [.ref 30] yA _
            refine Pa.ic (x := 0) (pc' := 32) (by rfl) (by rfl) (by decide) ?_
            refine Pa.pfI (by rfl) (by rfl) (.inr rfl) (by rfl) ?_
            show Pa N 142 35 [(4, .ref ya1), (0, .ref 0), (1, .int yc), (2, .int ya), (3, .int yx)] [] (uI yA 30 6 0) _
            refine Pa.mp 1 (pc' := 36) (l' := [(4, .ref ya1), (0, .ref 0), (1, .int yc), (2, .int ya), (3, .int yx)]) (st' := [.ref 0]) (by rfl) ?_
            refine Pa.gfR (by rfl) (by rfl) (.inl rfl) (by rfl) ?_
            show Pa N 142 39 [(4, .ref ya1), (0, .ref 0), (1, .int yc), (2, .int ya), (3, .int yx)] [.ref 30] (uI yA 30 6 0) _
            refine Pa.mp 3 (pc' := 44) (l' := [(4, .ref ya1), (0, .ref 0), (1, .int yc), (2, .int ya), (3, .int yx)]) (st' := [.ref ya1, .int ya, .ref ya1, .ref 30]) (by rfl) ?_
            refine Pa.gfI (v := yA.1 ya1 1) (by rfl) (by rfl) (.inr rfl) (by rfl) (by show (uI yA 30 6 0).1 ya1 1 = yA.1 ya1 1; rw [uI_c (by omega)]) ?_
            refine Pa.mp 3 (pc' := 51) (l' := [(4, .ref ya1), (0, .ref 0), (1, .int yc), (2, .int ya), (3, .int yx)]) (st' := [.ref 0, .ref ya1, .int yx, .int (yA.1 ya1 1), .int ya, .ref ya1, .ref 30]) (by rfl) ?_
            refine Pa.gfI (v := yA.1 0 10) (by rfl) (by rfl) (.inl rfl) (by rfl) (by show (uI yA 30 6 0).1 0 10 = yA.1 0 10; rw [uI_c (by decide)]) ?_
            refine Pa.inv (by rfl) (by rfl) (.inr rfl) (by rfl) ?_
            refine Pa.mono (c_cby N yA (uI yA 30 6 0) ya1 (yA.1 0 10) (fun _ => uI_c (by omega))) (fun yu A1 hu => ?_)
            obtain ⟨rfl, hu⟩ := hu
            rw [hu]
            show Pa N 142 57 [(4, .ref ya1), (0, .ref 0), (1, .int yc), (2, .int ya), (3, .int yx)] [.int (cbyX yA ya1 (yA.1 0 10)), .int yx, .int (yA.1 ya1 1), .int ya, .ref ya1, .ref 30] (uI yA 30 6 0) _
            refine Pa.ic (x := 0) (pc' := 58) (by rfl) (by rfl) (by decide) ?_
            refine Pa.lv (l' := [(0, .ref 0), (1, .int yc), (2, .int ya), (3, .int yx), (4, .ref ya1)]) (lvS_c rfl (lvS_c rfl (lvS_c rfl (lvS_c rfl (lvS_c rfl (lvS_nil)))))) rfl ?_
            refine Pa.inv (by rfl) (by rfl) (.inr rfl) (by rfl) ?_
            exact l5 h2 h4 h6 ya1 h7 h9 h10 h12 h14
      · skip
        refine Pa.mp 1 (pc' := 22) (l' := [(0, .ref 30), (1, .int yc)]) (st' := [.null]) (by rfl) ?_
        refine Pa.nret (by rfl) ?_
        show Pa N 142 8 [(0, .ref 0), (1, .int yc), (2, .int ya), (3, .int yx)] [.null] yA _
        refine Pa.mp 2 (pc' := 12) (l' := [(4, .null), (0, .ref 0), (1, .int yc), (2, .int ya), (3, .int yx)]) (st' := [.null]) (by rfl) ?_
        refine Pa.mp 1 (pc' := 24) (l' := [(4, .null), (0, .ref 0), (1, .int yc), (2, .int ya), (3, .int yx)]) (st' := []) (by rfl) ?_
        refine Pa.icl (x := (-2000000000)) (pc' := 26) (by rfl) (fun _ _ _ => by rfl) (by decide) ?_
        refine Pa.iret (by rfl) ?_
        exact l6 h2 h4 h6 h8

theorem bm_act {N : Nat} {yA : AW} {yQ : Option Value → AW → Prop} (yc ya yx : Int32)
    (l1 : yc.toInt < 0 → yQ (some (.int (-2000000000))) yA)
    (l2 : 0 ≤ yc.toInt → (yA.1 69 31).toInt ≤ yc.toInt → yQ (some (.int (-2000000000))) yA)
    (l3 : 0 ≤ yc.toInt → yc.toInt < (yA.1 69 31).toInt → ya.toInt < 0 → yQ (some (.int (-2000000000))) yA)
    (l4 : 0 ≤ yc.toInt → yc.toInt < (yA.1 69 31).toInt → 0 ≤ ya.toInt → 2 < ya.toInt → yQ (some (.int (-2000000000))) yA)
    (l5 : 0 ≤ yc.toInt → yc.toInt < (yA.1 69 31).toInt → 0 ≤ ya.toInt → ya.toInt ≤ 2 → ya.toInt ≠ 0 → ya.toInt ≠ 1 → yc.toInt < 150 → Pa N 254 0 [(0, .ref 69), (1, .int (yA.1 89 yc.toInt.toNat)), (2, .int yx)] [] (uI (uI yA 69 85 0) 69 86 yc) (fun yu A1 => Pa N 255 79 [(0, .ref 69), (1, .int yc), (2, .int ya), (3, .int yx)] (yu.toList ++ []) A1 yQ))
    (l6 : 0 ≤ yc.toInt → yc.toInt < (yA.1 69 31).toInt → 0 ≤ ya.toInt → ya.toInt ≤ 2 → ya.toInt ≠ 0 → ya.toInt = 1 → yc.toInt < 150 → Pa N 253 0 [(0, .ref 69), (1, .int (yA.1 89 yc.toInt.toNat)), (2, .int yx)] [] (uI (uI yA 69 85 0) 69 86 yc) (fun yu A1 => Pa N 255 65 [(0, .ref 69), (1, .int yc), (2, .int ya), (3, .int yx)] (yu.toList ++ []) A1 yQ))
    (l7 : 0 ≤ yc.toInt → yc.toInt < (yA.1 69 31).toInt → 0 ≤ ya.toInt → ya.toInt ≤ 2 → ya.toInt = 0 → yc.toInt < 150 → Pa N 252 0 [(0, .ref 69), (1, .int (yA.1 89 yc.toInt.toNat)), (2, .int yx)] [] (uI (uI yA 69 85 0) 69 86 yc) (fun yu A1 => Pa N 255 46 [(0, .ref 69), (1, .int yc), (2, .int ya), (3, .int yx)] (yu.toList ++ []) A1 yQ)) :
    Pa N 255 0 [(0, .ref 69), (1, .int yc), (2, .int ya), (3, .int yx)] [] yA yQ := by
  refine Pa.mp 2 (pc' := 2) (l' := [(0, .ref 69), (1, .int yc), (2, .int ya), (3, .int yx)]) (st' := [.int yc, .ref 69]) (by rfl) ?_
  refine Pa.inv (by rfl) (by rfl) (.inl rfl) (by rfl) ?_
  show Pa N 159 0 [(0, .ref 69), (1, .int yc)] [] yA _
  refine Pa.mp 1 (pc' := 1) (l' := [(0, .ref 69), (1, .int yc)]) (st' := [.int yc]) (by rfl) ?_
  refine Pa.if1 (a := yc.toInt) (t := 16) (by rfl) (by rfl) (rfl) (fun h1 => ?_) (fun h2 => ?_)
  · have h1 : yc.toInt < 0 := h1
    refine Pa.ic (x := 0) (pc' := 17) (by rfl) (by rfl) (by decide) ?_
    refine Pa.iret (by rfl) ?_
    show Pa N 255 5 [(0, .ref 69), (1, .int yc), (2, .int ya), (3, .int yx)] [.int 0] yA _
    refine Pa.if1k true (by rfl) (by rfl) (by decide) ?_
    show Pa N 255 17 [(0, .ref 69), (1, .int yc), (2, .int ya), (3, .int yx)] [] yA _
    refine Pa.icl (x := (-2000000000)) (pc' := 20) (by rfl) (fun _ _ _ => by rfl) (by decide) ?_
    refine Pa.iret (by rfl) ?_
    exact l1 h1
  · have h2 : 0 ≤ yc.toInt := h2
    refine Pa.mp 2 (pc' := 6) (l' := [(0, .ref 69), (1, .int yc)]) (st' := [.ref 69, .int yc]) (by rfl) ?_
    refine Pa.gfI (v := yA.1 69 31) (by rfl) (by rfl) (.inl rfl) (by rfl) (by rfl) ?_
    refine Pa.if2 (a := yc.toInt) (b := (yA.1 69 31).toInt) (t := 16) (by rfl) (by rfl) (rfl) (rfl) (fun h3 => ?_) (fun h4 => ?_)
    · have h3 : (yA.1 69 31).toInt ≤ yc.toInt := h3
      refine Pa.ic (x := 0) (pc' := 17) (by rfl) (by rfl) (by decide) ?_
      refine Pa.iret (by rfl) ?_
      show Pa N 255 5 [(0, .ref 69), (1, .int yc), (2, .int ya), (3, .int yx)] [.int 0] yA _
      refine Pa.if1k true (by rfl) (by rfl) (by decide) ?_
      show Pa N 255 17 [(0, .ref 69), (1, .int yc), (2, .int ya), (3, .int yx)] [] yA _
      refine Pa.icl (x := (-2000000000)) (pc' := 20) (by rfl) (fun _ _ _ => by rfl) (by decide) ?_
      refine Pa.iret (by rfl) ?_
      exact l2 h2 h3
    · have h4 : yc.toInt < (yA.1 69 31).toInt := h4
      refine Pa.ic (x := 1) (pc' := 13) (by rfl) (by rfl) (by decide) ?_
      refine Pa.mp 1 (pc' := 17) (l' := [(0, .ref 69), (1, .int yc)]) (st' := [.int 1]) (by rfl) ?_
      refine Pa.iret (by rfl) ?_
      show Pa N 255 5 [(0, .ref 69), (1, .int yc), (2, .int ya), (3, .int yx)] [.int 1] yA _
      refine Pa.if1k false (by rfl) (by rfl) (by decide) ?_
      show Pa N 255 8 [(0, .ref 69), (1, .int yc), (2, .int ya), (3, .int yx)] [] yA _
      refine Pa.mp 1 (pc' := 9) (l' := [(0, .ref 69), (1, .int yc), (2, .int ya), (3, .int yx)]) (st' := [.int ya]) (by rfl) ?_
      refine Pa.ic (x := 0) (pc' := 10) (by rfl) (by rfl) (by decide) ?_
      refine Pa.ic (x := 2) (pc' := 11) (by rfl) (by rfl) (by decide) ?_
      refine Pa.ist (by rfl) (by rfl) (.inl rfl) (by rfl) (by rfl) ?_
      show Pa N 152 0 [(0, .int ya), (1, .int 0), (2, .int 2)] [] yA _
      refine Pa.mp 2 (pc' := 2) (l' := [(0, .int ya), (1, .int 0), (2, .int 2)]) (st' := [.int 0, .int ya]) (by rfl) ?_
      refine Pa.if2 (a := ya.toInt) (b := 0) (t := 14) (by rfl) (by rfl) (rfl) (by decide) (fun h5 => ?_) (fun h6 => ?_)
      · have h5 : ya.toInt < 0 := h5
        refine Pa.ic (x := 0) (pc' := 15) (by rfl) (by rfl) (by decide) ?_
        refine Pa.iret (by rfl) ?_
        show Pa N 255 14 [(0, .ref 69), (1, .int yc), (2, .int ya), (3, .int yx)] [.int 0] yA _
        refine Pa.if1k false (by rfl) (by rfl) (by decide) ?_
        show Pa N 255 17 [(0, .ref 69), (1, .int yc), (2, .int ya), (3, .int yx)] [] yA _
        refine Pa.icl (x := (-2000000000)) (pc' := 20) (by rfl) (fun _ _ _ => by rfl) (by decide) ?_
        refine Pa.iret (by rfl) ?_
        exact l3 h2 h4 h5
      · have h6 : 0 ≤ ya.toInt := h6
        refine Pa.mp 2 (pc' := 7) (l' := [(0, .int ya), (1, .int 0), (2, .int 2)]) (st' := [.int 2, .int ya]) (by rfl) ?_
        refine Pa.if2 (a := ya.toInt) (b := 2) (t := 14) (by rfl) (by rfl) (rfl) (by decide) (fun h7 => ?_) (fun h8 => ?_)
        · have h7 : 2 < ya.toInt := h7
          refine Pa.ic (x := 0) (pc' := 15) (by rfl) (by rfl) (by decide) ?_
          refine Pa.iret (by rfl) ?_
          show Pa N 255 14 [(0, .ref 69), (1, .int yc), (2, .int ya), (3, .int yx)] [.int 0] yA _
          refine Pa.if1k false (by rfl) (by rfl) (by decide) ?_
          show Pa N 255 17 [(0, .ref 69), (1, .int yc), (2, .int ya), (3, .int yx)] [] yA _
          refine Pa.icl (x := (-2000000000)) (pc' := 20) (by rfl) (fun _ _ _ => by rfl) (by decide) ?_
          refine Pa.iret (by rfl) ?_
          exact l4 h2 h4 h6 h7
        · have h8 : ya.toInt ≤ 2 := h8
          refine Pa.ic (x := 1) (pc' := 11) (by rfl) (by rfl) (by decide) ?_
          refine Pa.mp 1 (pc' := 15) (l' := [(0, .int ya), (1, .int 0), (2, .int 2)]) (st' := [.int 1]) (by rfl) ?_
          refine Pa.iret (by rfl) ?_
          show Pa N 255 14 [(0, .ref 69), (1, .int yc), (2, .int ya), (3, .int yx)] [.int 1] yA _
          refine Pa.if1k true (by rfl) (by rfl) (by decide) ?_
          show Pa N 255 21 [(0, .ref 69), (1, .int yc), (2, .int ya), (3, .int yx)] [] yA _
          refine Pa.mp 1 (pc' := 22) (l' := [(0, .ref 69), (1, .int yc), (2, .int ya), (3, .int yx)]) (st' := [.ref 69]) (by rfl) ?_
          refine Pa.ic (x := 0) (pc' := 23) (by rfl) (by rfl) (by decide) ?_
          refine Pa.pfI (by rfl) (by rfl) (.inl rfl) (by rfl) ?_
          show Pa N 255 26 [(0, .ref 69), (1, .int yc), (2, .int ya), (3, .int yx)] [] (uI yA 69 85 0) _
          refine Pa.mp 2 (pc' := 28) (l' := [(0, .ref 69), (1, .int yc), (2, .int ya), (3, .int yx)]) (st' := [.int yc, .ref 69]) (by rfl) ?_
          refine Pa.pfI (by rfl) (by rfl) (.inl rfl) (by rfl) ?_
          show Pa N 255 31 [(0, .ref 69), (1, .int yc), (2, .int ya), (3, .int yx)] [] (uI (uI yA 69 85 0) 69 86 yc) _
          refine Pa.mp 1 (pc' := 32) (l' := [(0, .ref 69), (1, .int yc), (2, .int ya), (3, .int yx)]) (st' := [.int ya]) (by rfl) ?_
          refine Pa.if1 (a := ya.toInt) (t := 49) (by rfl) (by rfl) (rfl) (fun h9 => ?_) (fun h10 => ?_)
          · have h9 : ya.toInt ≠ 0 := h9
            refine Pa.mp 1 (pc' := 50) (l' := [(0, .ref 69), (1, .int yc), (2, .int ya), (3, .int yx)]) (st' := [.int ya]) (by rfl) ?_
            refine Pa.ic (x := 1) (pc' := 51) (by rfl) (by rfl) (by decide) ?_
            refine Pa.if2 (a := ya.toInt) (b := 1) (t := 68) (by rfl) (by rfl) (rfl) (by decide) (fun h11 => ?_) (fun h12 => ?_)
            · have h11 : ya.toInt ≠ 1 := h11
              refine Pa.mp 2 (pc' := 70) (l' := [(0, .ref 69), (1, .int yc), (2, .int ya), (3, .int yx)]) (st' := [.ref 69, .ref 69]) (by rfl) ?_
              refine Pa.gfR (by rfl) (by rfl) (.inl rfl) (by rfl) ?_
              show Pa N 255 73 [(0, .ref 69), (1, .int yc), (2, .int ya), (3, .int yx)] [.ref 89, .ref 69] (uI (uI yA 69 85 0) 69 86 yc) _
              refine Pa.mp 1 (pc' := 74) (l' := [(0, .ref 69), (1, .int yc), (2, .int ya), (3, .int yx)]) (st' := [.int yc, .ref 89, .ref 69]) (by rfl) ?_
              refine Pa.alds (v := yA.1 89 yc.toInt.toNat) (by rfl) (by rfl) (by show (uI (uI yA 69 85 0) 69 86 yc).1 89 yc.toInt.toNat = yA.1 89 yc.toInt.toNat; rw [uI_c (by decide), uI_c (by decide)]) (fun h13 h14 => ?_)
              have h13 : 0 ≤ yc.toInt := h13
              have h14 : yc.toInt < 150 := h14
              refine Pa.mp 1 (pc' := 76) (l' := [(0, .ref 69), (1, .int yc), (2, .int ya), (3, .int yx)]) (st' := [.int yx, .int (yA.1 89 yc.toInt.toNat), .ref 69]) (by rfl) ?_
              refine Pa.inv (by rfl) (by rfl) (.inl rfl) (by rfl) ?_
              exact l5 h2 h4 h6 h8 h9 h11 h14
            · have h12 : ya.toInt = 1 := h12
              refine Pa.mp 2 (pc' := 56) (l' := [(0, .ref 69), (1, .int yc), (2, .int ya), (3, .int yx)]) (st' := [.ref 69, .ref 69]) (by rfl) ?_
              refine Pa.gfR (by rfl) (by rfl) (.inl rfl) (by rfl) ?_
              show Pa N 255 59 [(0, .ref 69), (1, .int yc), (2, .int ya), (3, .int yx)] [.ref 89, .ref 69] (uI (uI yA 69 85 0) 69 86 yc) _
              refine Pa.mp 1 (pc' := 60) (l' := [(0, .ref 69), (1, .int yc), (2, .int ya), (3, .int yx)]) (st' := [.int yc, .ref 89, .ref 69]) (by rfl) ?_
              refine Pa.alds (v := yA.1 89 yc.toInt.toNat) (by rfl) (by rfl) (by show (uI (uI yA 69 85 0) 69 86 yc).1 89 yc.toInt.toNat = yA.1 89 yc.toInt.toNat; rw [uI_c (by decide), uI_c (by decide)]) (fun h15 yh16 => ?_)
              have h15 : 0 ≤ yc.toInt := h15
              have yh16 : yc.toInt < 150 := yh16
              refine Pa.mp 1 (pc' := 62) (l' := [(0, .ref 69), (1, .int yc), (2, .int ya), (3, .int yx)]) (st' := [.int yx, .int (yA.1 89 yc.toInt.toNat), .ref 69]) (by rfl) ?_
              refine Pa.inv (by rfl) (by rfl) (.inl rfl) (by rfl) ?_
              exact l6 h2 h4 h6 h8 h9 h12 yh16
          · have h10 : ya.toInt = 0 := h10
            refine Pa.mp 2 (pc' := 37) (l' := [(0, .ref 69), (1, .int yc), (2, .int ya), (3, .int yx)]) (st' := [.ref 69, .ref 69]) (by rfl) ?_
            refine Pa.gfR (by rfl) (by rfl) (.inl rfl) (by rfl) ?_
            show Pa N 255 40 [(0, .ref 69), (1, .int yc), (2, .int ya), (3, .int yx)] [.ref 89, .ref 69] (uI (uI yA 69 85 0) 69 86 yc) _
            refine Pa.mp 1 (pc' := 41) (l' := [(0, .ref 69), (1, .int yc), (2, .int ya), (3, .int yx)]) (st' := [.int yc, .ref 89, .ref 69]) (by rfl) ?_
            refine Pa.alds (v := yA.1 89 yc.toInt.toNat) (by rfl) (by rfl) (by show (uI (uI yA 69 85 0) 69 86 yc).1 89 yc.toInt.toNat = yA.1 89 yc.toInt.toNat; rw [uI_c (by decide), uI_c (by decide)]) (fun h17 h18 => ?_)
            have h17 : 0 ≤ yc.toInt := h17
            have h18 : yc.toInt < 150 := h18
            refine Pa.mp 1 (pc' := 43) (l' := [(0, .ref 69), (1, .int yc), (2, .int ya), (3, .int yx)]) (st' := [.int yx, .int (yA.1 89 yc.toInt.toNat), .ref 69]) (by rfl) ?_
            refine Pa.inv (by rfl) (by rfl) (.inl rfl) (by rfl) ?_
            exact l7 h2 h4 h6 h8 h10 h18

theorem bx_trc {N : Nat} {yA : AW} {yQ : Option Value → AW → Prop} (yi : Int32)
    (l1 : yi.toInt < 0 → yQ (some (.int (-1))) yA)
    (l2 : 0 ≤ yi.toInt → ((yA.1 30 6) - 1).toInt < yi.toInt → yQ (some (.int (-1))) yA)
    (l3 : 0 ≤ yi.toInt → yi.toInt ≤ ((yA.1 30 6) - 1).toInt → yi.toInt < 24 → yQ (some (.int (yA.1 33 yi.toInt.toNat))) yA) :
    Pa N 143 0 [(0, .ref 0), (1, .int yi)] [] yA yQ := by
  refine Pa.mp 1 (pc' := 1) (l' := [(0, .ref 0), (1, .int yi)]) (st' := [.int yi]) (by rfl) ?_
  refine Pa.ic (x := 0) (pc' := 2) (by rfl) (by rfl) (by decide) ?_
  refine Pa.mp 1 (pc' := 3) (l' := [(0, .ref 0), (1, .int yi)]) (st' := [.ref 0, .int 0, .int yi]) (by rfl) ?_
  refine Pa.gfR (by rfl) (by rfl) (.inl rfl) (by rfl) ?_
  show Pa N 143 6 [(0, .ref 0), (1, .int yi)] [.ref 30, .int 0, .int yi] yA _
  refine Pa.gfI (v := yA.1 30 6) (by rfl) (by rfl) (.inr rfl) (by rfl) (by rfl) ?_
  refine Pa.ic (x := 1) (pc' := 10) (by rfl) (by rfl) (by decide) ?_
  refine Pa.mp 1 (pc' := 11) (l' := [(0, .ref 0), (1, .int yi)]) (st' := [.int ((yA.1 30 6) - 1), .int 0, .int yi]) (by rfl) ?_
  refine Pa.ist (by rfl) (by rfl) (.inl rfl) (by rfl) (by rfl) ?_
  show Pa N 146 0 [(0, .int yi), (1, .int 0), (2, .int ((yA.1 30 6) - 1))] [] yA _
  refine Pa.mp 2 (pc' := 2) (l' := [(0, .int yi), (1, .int 0), (2, .int ((yA.1 30 6) - 1))]) (st' := [.int 0, .int yi]) (by rfl) ?_
  refine Pa.if2 (a := yi.toInt) (b := 0) (t := 14) (by rfl) (by rfl) (rfl) (by decide) (fun h1 => ?_) (fun h2 => ?_)
  · have h1 : yi.toInt < 0 := h1
    refine Pa.ic (x := 0) (pc' := 15) (by rfl) (by rfl) (by decide) ?_
    refine Pa.iret (by rfl) ?_
    show Pa N 143 14 [(0, .ref 0), (1, .int yi)] [.int 0] yA _
    refine Pa.if1k false (by rfl) (by rfl) (by decide) ?_
    show Pa N 143 17 [(0, .ref 0), (1, .int yi)] [] yA _
    refine Pa.ic (x := (-1)) (pc' := 18) (by rfl) (by rfl) (by decide) ?_
    refine Pa.iret (by rfl) ?_
    exact l1 h1
  · have h2 : 0 ≤ yi.toInt := h2
    refine Pa.mp 2 (pc' := 7) (l' := [(0, .int yi), (1, .int 0), (2, .int ((yA.1 30 6) - 1))]) (st' := [.int ((yA.1 30 6) - 1), .int yi]) (by rfl) ?_
    refine Pa.if2 (a := yi.toInt) (b := ((yA.1 30 6) - 1).toInt) (t := 14) (by rfl) (by rfl) (rfl) (rfl) (fun h3 => ?_) (fun h4 => ?_)
    · have h3 : ((yA.1 30 6) - 1).toInt < yi.toInt := h3
      refine Pa.ic (x := 0) (pc' := 15) (by rfl) (by rfl) (by decide) ?_
      refine Pa.iret (by rfl) ?_
      show Pa N 143 14 [(0, .ref 0), (1, .int yi)] [.int 0] yA _
      refine Pa.if1k false (by rfl) (by rfl) (by decide) ?_
      show Pa N 143 17 [(0, .ref 0), (1, .int yi)] [] yA _
      refine Pa.ic (x := (-1)) (pc' := 18) (by rfl) (by rfl) (by decide) ?_
      refine Pa.iret (by rfl) ?_
      exact l2 h2 h3
    · have h4 : yi.toInt ≤ ((yA.1 30 6) - 1).toInt := h4
      refine Pa.ic (x := 1) (pc' := 11) (by rfl) (by rfl) (by decide) ?_
      refine Pa.mp 1 (pc' := 15) (l' := [(0, .int yi), (1, .int 0), (2, .int ((yA.1 30 6) - 1))]) (st' := [.int 1]) (by rfl) ?_
      refine Pa.iret (by rfl) ?_
      show Pa N 143 14 [(0, .ref 0), (1, .int yi)] [.int 1] yA _
      refine Pa.if1k true (by rfl) (by rfl) (by decide) ?_
      show Pa N 143 19 [(0, .ref 0), (1, .int yi)] [] yA _
      refine Pa.mp 1 (pc' := 20) (l' := [(0, .ref 0), (1, .int yi)]) (st' := [.ref 0]) (by rfl) ?_
      refine Pa.gfR (by rfl) (by rfl) (.inl rfl) (by rfl) ?_
      show Pa N 143 23 [(0, .ref 0), (1, .int yi)] [.ref 30] yA _
      refine Pa.gfR (by rfl) (by rfl) (.inr rfl) (by rfl) ?_
      show Pa N 143 26 [(0, .ref 0), (1, .int yi)] [.ref 33] yA _
      refine Pa.mp 1 (pc' := 27) (l' := [(0, .ref 0), (1, .int yi)]) (st' := [.int yi, .ref 33]) (by rfl) ?_
      refine Pa.alds (v := yA.1 33 yi.toInt.toNat) (by rfl) (by rfl) (by rfl) (fun h5 h6 => ?_)
      have h5 : 0 ≤ yi.toInt := h5
      have h6 : yi.toInt < 24 := h6
      refine Pa.iret (by rfl) ?_
      exact l3 h2 h4 h6

theorem bm_trc {N : Nat} {yA : AW} {yQ : Option Value → AW → Prop} (yi : Int32)
    (l1 : yi.toInt < 0 → yQ (some (.int (-1))) yA)
    (l2 : 0 ≤ yi.toInt → (yA.1 69 85).toInt ≤ yi.toInt → yQ (some (.int (-1))) yA)
    (l3 : 0 ≤ yi.toInt → yi.toInt < (yA.1 69 85).toInt → 24 ≤ yi.toInt → yQ (some (.int (-1))) yA)
    (l4 : 0 ≤ yi.toInt → yi.toInt < (yA.1 69 85).toInt → yi.toInt < 24 → yQ (some (.int (yA.1 128 yi.toInt.toNat))) yA) :
    Pa N 256 0 [(0, .ref 69), (1, .int yi)] [] yA yQ := by
  refine Pa.mp 1 (pc' := 1) (l' := [(0, .ref 69), (1, .int yi)]) (st' := [.int yi]) (by rfl) ?_
  refine Pa.if1 (a := yi.toInt) (t := 27) (by rfl) (by rfl) (rfl) (fun h1 => ?_) (fun h2 => ?_)
  · have h1 : yi.toInt < 0 := h1
    refine Pa.ic (x := (-1)) (pc' := 28) (by rfl) (by rfl) (by decide) ?_
    refine Pa.iret (by rfl) ?_
    exact l1 h1
  · have h2 : 0 ≤ yi.toInt := h2
    refine Pa.mp 2 (pc' := 6) (l' := [(0, .ref 69), (1, .int yi)]) (st' := [.ref 69, .int yi]) (by rfl) ?_
    refine Pa.gfI (v := yA.1 69 85) (by rfl) (by rfl) (.inl rfl) (by rfl) (by rfl) ?_
    refine Pa.if2 (a := yi.toInt) (b := (yA.1 69 85).toInt) (t := 27) (by rfl) (by rfl) (rfl) (rfl) (fun h3 => ?_) (fun h4 => ?_)
    · have h3 : (yA.1 69 85).toInt ≤ yi.toInt := h3
      refine Pa.ic (x := (-1)) (pc' := 28) (by rfl) (by rfl) (by decide) ?_
      refine Pa.iret (by rfl) ?_
      exact l2 h2 h3
    · have h4 : yi.toInt < (yA.1 69 85).toInt := h4
      refine Pa.mp 1 (pc' := 13) (l' := [(0, .ref 69), (1, .int yi)]) (st' := [.int yi]) (by rfl) ?_
      refine Pa.ic (x := 24) (pc' := 15) (by rfl) (by rfl) (by decide) ?_
      refine Pa.if2 (a := yi.toInt) (b := 24) (t := 27) (by rfl) (by rfl) (rfl) (by decide) (fun h5 => ?_) (fun h6 => ?_)
      · have h5 : 24 ≤ yi.toInt := h5
        refine Pa.ic (x := (-1)) (pc' := 28) (by rfl) (by rfl) (by decide) ?_
        refine Pa.iret (by rfl) ?_
        exact l3 h2 h4 h5
      · have h6 : yi.toInt < 24 := h6
        refine Pa.mp 1 (pc' := 19) (l' := [(0, .ref 69), (1, .int yi)]) (st' := [.ref 69]) (by rfl) ?_
        refine Pa.gfR (by rfl) (by rfl) (.inl rfl) (by rfl) ?_
        show Pa N 256 22 [(0, .ref 69), (1, .int yi)] [.ref 128] yA _
        refine Pa.mp 1 (pc' := 23) (l' := [(0, .ref 69), (1, .int yi)]) (st' := [.int yi, .ref 128]) (by rfl) ?_
        refine Pa.alds (v := yA.1 128 yi.toInt.toNat) (by rfl) (by rfl) (by rfl) (fun h7 h8 => ?_)
        have h7 : 0 ≤ yi.toInt := h7
        have h8 : yi.toInt < 24 := h8
        refine Pa.mp 1 (pc' := 28) (l' := [(0, .ref 69), (1, .int yi)]) (st' := [.int (yA.1 128 yi.toInt.toNat)]) (by rfl) ?_
        refine Pa.iret (by rfl) ?_
        exact l4 h2 h4 h6
def dAct (yc ya yx : Int32) (yA : AW) (yu : Option Value) (A1 : AW) : Prop := (¬ (inC (yA.1 30 4) yc ∧ 0 ≤ ya.toInt ∧ ya.toInt ≤ 2) ∧ yu = some (.int (-2000000000)) ∧ A1 = yA) ∨ (∃ yr, isRow yA yc yr ∧ 0 ≤ ya.toInt ∧ ya.toInt ≤ 2 ∧ yu = some (.int (vA ya.toInt.toNat (yA.1 yr 1).toInt.toNat yx (cbyX yA yr (yA.1 0 10)) (yA.1 yr 0))) ∧ A1 = pgl 33 30 6 (lA ya.toInt.toNat (yA.1 yr 1).toInt.toNat) 0 (uI yA 30 6 0))
def eAct (yc ya yx : Int32) (yA : AW) (yu : Option Value) (A1 : AW) : Prop := (¬ (inC (yA.1 69 31) yc ∧ 0 ≤ ya.toInt ∧ ya.toInt ≤ 2) ∧ yu = some (.int (-2000000000)) ∧ A1 = yA) ∨ (inC (yA.1 69 31) yc ∧ 0 ≤ ya.toInt ∧ ya.toInt ≤ 2 ∧ yu = some (.int (vA ya.toInt.toNat (yA.1 89 yc.toInt.toNat).toInt.toNat yx (kofM yA yc (yA.1 69 0)) yc)) ∧ A1 = pgl 128 69 85 (lA ya.toInt.toNat (yA.1 89 yc.toInt.toNat).toInt.toNat) 0 (uI (uI yA 69 85 0) 69 86 yc))
theorem d_act (N : Nat) (yA : AW) (yc ya yx : Int32) (hX : RZc yA) (yf5 : yA.1 30 4 = yA.1 69 31) : Pa N 142 0 [(0, .ref 0), (1, .int yc), (2, .int ya), (3, .int yx)] [] yA (dAct yc ya yx yA) := by
  refine bx_act yc ya yx (fun h1 => ?_) (fun h1 h2 => ?_) (fun h1 h2 h3 yr h4 h5 h6 h7 => ?_) (fun h1 h2 h3 yr h4 h5 h6 h7 h8 => ?_) (fun h1 h2 h3 yr h4 h5 h6 h7 h8 => ?_) (fun h1 h2 h3 h4 => ?_)
  · exact .inl ⟨fun yq => by have := yq.1; unfold inC at this; omega, rfl, rfl⟩
  · exact .inl ⟨fun yq => by have := yq.1; unfold inC at this; omega, rfl, rfl⟩
  · exact .inl ⟨fun yq => by omega, rfl, rfl⟩
  · exact .inl ⟨fun yq => by omega, rfl, rfl⟩
  · have hr : isRow yA yc yr := ⟨⟨h1, h2⟩, h4, h5⟩
    obtain ⟨yq1, yq2, yq3, yq4⟩ := k_row hX yf5 hr
    obtain ⟨z0, z1, z2, z3, z4, z5, z6, z7, z8, z9, z10, z11, z12, yz13, yz14⟩ := yq3
    refine Pa.mono (c_pf N yA yr ya (yA.1 yr 1) yx (cbyX yA yr (yA.1 0 10)) h5 rfl h7 h8 (by rw [z1]; exact yz13) (by rw [z1]; exact yz14)) (fun yu A1 hu => ?_)
    obtain ⟨rfl, hu⟩ := hu
    refine Pa.iret (by rfl) ?_
    exact .inr ⟨yr, hr, h7, h8, rfl, hu⟩
  · exact (k_some hX yf5 ⟨h1, h2⟩ h4).elim
theorem e_act (N : Nat) (yA : AW) (yc ya yx : Int32) (hX : RZc yA) : Pa N 255 0 [(0, .ref 69), (1, .int yc), (2, .int ya), (3, .int yx)] [] yA (eAct yc ya yx yA) := by
  have hz : inC (yA.1 69 31) yc → 1 ≤ (yA.1 89 yc.toInt.toNat).toInt ∧ (yA.1 89 yc.toInt.toNat).toInt ≤ 6 := fun yh => by
    obtain ⟨yr, -, -, -, yq3⟩ := hX.1 yc.toInt.toNat (by unfold cT; unfold inC at yh; omega)
    obtain ⟨z0, z1, z2, z3, z4, z5, z6, z7, z8, z9, z10, z11, z12, yz13, yz14⟩ := yq3
    exact ⟨yz13, yz14⟩
  refine bm_act yc ya yx (fun h1 => ?_) (fun h1 h2 => ?_) (fun h1 h2 h3 => ?_) (fun h1 h2 h3 h4 => ?_) (fun h1 h2 h3 h4 h5 h6 h7 => ?_) (fun h1 h2 h3 h4 h5 h6 h7 => ?_) (fun h1 h2 h3 h4 h5 h6 => ?_)
  · exact .inl ⟨fun yq => by have := yq.1; unfold inC at this; omega, rfl, rfl⟩
  · exact .inl ⟨fun yq => by have := yq.1; unfold inC at this; omega, rfl, rfl⟩
  · exact .inl ⟨fun yq => by omega, rfl, rfl⟩
  · exact .inl ⟨fun yq => by omega, rfl, rfl⟩
  · obtain ⟨g1, g2⟩ := hz ⟨h1, h2⟩
    refine Pa.mono (c_pmp N yA _ yx yc rfl g1 g2) (fun yu A1 hu => ?_)
    obtain ⟨rfl, hu⟩ := hu
    refine Pa.iret (by rfl) ?_
    refine .inr ⟨⟨h1, h2⟩, h3, h4, ?_⟩
    rw [show ya.toInt.toNat = 2 from by omega]
    exact ⟨rfl, hu⟩
  · obtain ⟨g1, g2⟩ := hz ⟨h1, h2⟩
    refine Pa.mono (c_pmc N yA _ yx yc rfl g1 g2) (fun yu A1 hu => ?_)
    obtain ⟨rfl, hu⟩ := hu
    refine Pa.mp 1 (pc' := 79) (l' := [(0, .ref 69), (1, .int yc), (2, .int ya), (3, .int yx)]) (st' := [.int (vA 1 (yA.1 89 yc.toInt.toNat).toInt.toNat yx (kofM yA yc (yA.1 69 0)) yc)]) (by rfl) ?_
    refine Pa.iret (by rfl) ?_
    refine .inr ⟨⟨h1, h2⟩, h3, h4, ?_⟩
    rw [show ya.toInt.toNat = 1 from by omega]
    exact ⟨rfl, hu⟩
  · obtain ⟨g1, g2⟩ := hz ⟨h1, h2⟩
    refine Pa.mono (c_pms N yA _ yx yc rfl g1 g2) (fun yu A1 hu => ?_)
    obtain ⟨rfl, hu⟩ := hu
    refine Pa.mp 1 (pc' := 79) (l' := [(0, .ref 69), (1, .int yc), (2, .int ya), (3, .int yx)]) (st' := [.int (vA 0 (yA.1 89 yc.toInt.toNat).toInt.toNat yx (kofM yA yc (yA.1 69 0)) yc)]) (by rfl) ?_
    refine Pa.iret (by rfl) ?_
    refine .inr ⟨⟨h1, h2⟩, h3, h4, ?_⟩
    rw [show ya.toInt.toNat = 0 from by omega]
    exact ⟨rfl, hu⟩
def R46 (yA : AW) : Prop := yA.1 30 6 = yA.1 69 85 ∧ 0 ≤ (yA.1 30 6).toInt ∧ (yA.1 30 6).toInt ≤ 24 ∧ ∀ yj, yj < (yA.1 30 6).toInt.toNat → yA.1 33 yj = yA.1 128 yj
def S46 : zSu := ([(30, 6), (69, 85)], [33, 128])
theorem R46_s (yA yB : AW) (yh : AgS S46 yA yB) (hX : R46 yA) : R46 yB := by
  have yf1 := yh.1 (30, 6) (by simp [S46])
  have yf2 := yh.1 (69, 85) (by simp [S46])
  have ya1 := (yh.2 33 (by simp [S46])).1
  have a2 := (yh.2 128 (by simp [S46])).1
  unfold R46 at hX ⊢
  rw [← yf1, ← yf2, ← ya1, ← a2]
  exact hX
def RXa (yA : AW) : Prop := RZc yA ∧ R46 yA
def kRa (ywr : zWr) : Bool := kRc ywr && kpS S46 ywr
theorem keepA : Keeps RXa kRa := Keeps.and RZc_keep (Keeps.of R46_s)
theorem cby_kof {yA yB : AW} {yr : Nat} {yc yk : Int32} (yh : rowR yA yr yc.toInt.toNat) (h1 : ∀ yj, yB.1 91 yj = yA.1 91 yj) (h2 : ∀ yj, yB.1 92 yj = yA.1 92 yj) (h3 : ∀ yj, yB.1 93 yj = yA.1 93 yj) : cbyX yA yr yk = kofM yB yc yk := by
  obtain ⟨z0, z1, z2, z3, z4, z5, z6, z7, z8, z9, z10, z11, z12, yz13, yz14⟩ := yh
  unfold cbyX kofM
  rw [z2, z11, z12, h1, h2, h3]
theorem k_act {yA A1 A2 : AW} {yc ya yx yv yy : Int32} (hF : eqF Fc yA) (hX : RZc yA) (hZ : R46 yA) (ys1 : dAct yc ya yx yA (some (.int yv)) A1) (ys2 : eAct yc ya yx A1 (some (.int yy)) A2) : R46 A2 ∧ yv = yy := by
  have yf4 : yA.1 0 10 = yA.1 69 0 := hF ((0, 10), (69, 0)) (by simp [Fc])
  have yf5 : yA.1 30 4 = yA.1 69 31 := hF ((30, 4), (69, 31)) (by simp [Fc])
  rcases ys1 with ⟨ya1, a2, rfl⟩ | ⟨yr, ya1, a2, a3, a4, rfl⟩
  · rw [yf5] at ya1
    rcases ys2 with ⟨b1, b2, rfl⟩ | ⟨b1, b2, b3, -⟩
    · exact ⟨hZ, by rw [some_int a2, some_int b2]⟩
    · exact absurd ⟨b1, b2, b3⟩ ya1
  · obtain ⟨yq1, yq2, yq3, yq4⟩ := k_row hX yf5 ya1
    have hq3 := yq3
    obtain ⟨z0, z1, z2, z3, z4, z5, z6, z7, z8, z9, z10, z11, z12, yz13, yz14⟩ := yq3
    have ylo : ∀ yd yj, yd ≠ 33 → yd ≠ 30 → (pgl 33 30 6 (lA ya.toInt.toNat (yA.1 yr 1).toInt.toNat) 0 (uI yA 30 6 0)).1 yd yj = yA.1 yd yj := fun yd yj yp1 yp2 => by
      rw [pgl_c yp1 yp2, uI_c yp2]
    have hn : (pgl 33 30 6 (lA ya.toInt.toNat (yA.1 yr 1).toInt.toNat) 0 (uI yA 30 6 0)).1 30 6 = Int32.ofNat (0 + (lA ya.toInt.toNat (yA.1 yr 1).toInt.toNat).length) := pgl_n (by decide) (by rw [uI_h]; rfl)
    have yhb : ∀ yj, yj < 0 + (lA ya.toInt.toNat (yA.1 yr 1).toInt.toNat).length → (pgl 33 30 6 (lA ya.toInt.toNat (yA.1 yr 1).toInt.toNat) 0 (uI yA 30 6 0)).1 33 yj = (lA ya.toInt.toNat (yA.1 yr 1).toInt.toNat).getD (yj - 0) 0 := fun yj hj => pgl_at (by decide) (Nat.zero_le _) hj
    have hl := lA_len ya.toInt.toNat (yA.1 yr 1).toInt.toNat
    have yhc : yA.1 yr 0 = yc := by
      rw [z0]
      exact (ofN ya1.1.1 rfl).symm
    have hv := some_int a4
    rw [yhc] at hv
    rw [z1] at hv ylo hn yhb hl ys2
    generalize pgl 33 30 6 (lA ya.toInt.toNat (yA.1 89 yc.toInt.toNat).toInt.toNat) 0 (uI yA 30 6 0) = yB at *
    rcases ys2 with ⟨b1, b2, -⟩ | ⟨b1, b2, b3, b4, rfl⟩
    · rw [ylo 69 31 (by decide) (by decide)] at b1
      exact absurd ⟨yq4, a2, a3⟩ b1
    · rw [ylo 89 _ (by decide) (by decide)] at b4 ⊢
      rw [ylo 69 0 (by decide) (by decide), ← yf4, ← cby_kof hq3 (fun yj => ylo 91 yj (by decide) (by decide)) (fun yj => ylo 92 yj (by decide) (by decide)) (fun yj => ylo 93 yj (by decide) (by decide))] at b4
      refine ⟨?_, by rw [hv, some_int b4]⟩
      generalize lA ya.toInt.toNat (yA.1 89 yc.toInt.toNat).toInt.toNat = l at *
      have yhm : (pgl 128 69 85 l 0 (uI (uI yB 69 85 0) 69 86 yc)).1 69 85 = Int32.ofNat (0 + l.length) := pgl_n (by decide) (by rw [uI_k (by decide), uI_h]; rfl)
      have yhi : (Int32.ofNat (0 + l.length)).toInt = (l.length : Int) := by rw [i32_nat (by omega)]; omega
      have ye1 : (pgl 128 69 85 l 0 (uI (uI yB 69 85 0) 69 86 yc)).1 30 6 = Int32.ofNat (0 + l.length) := by
        rw [pgl_c (by decide) (by decide), uI_c (by decide), uI_c (by decide), hn]
      refine ⟨by rw [ye1, yhm], by rw [ye1, yhi]; omega, by rw [ye1, yhi]; omega, fun yj hj => ?_⟩
      rw [ye1, yhi] at hj
      rw [pgl_c (by decide) (by decide), uI_c (by decide), uI_c (by decide), yhb yj (by omega), pgl_at (by decide) (Nat.zero_le _) (by omega)]
theorem h_act {yp : zPr} (hp : yp.1 = 142 ∧ yp.2.1 = 255 ∧ yp.2.2.1 = 3) (yhc : c_rm yp = true) (yq1 : (ri_wr zZ Fc Arc (c_get1 yp.1 0 yp.2.2.1).2.2.2 && kRc (c_get1 yp.1 0 yp.2.2.1).2.2.2) = true) (yq2 : (ri_wr zZ Fc Arc (c_get1 yp.2.1 69 yp.2.2.1).2.2.2 && kRc (c_get1 yp.2.1 69 yp.2.2.1).2.2.2) = true) : PairOK (RR Fc Arc RXa) yp := by
  obtain ⟨yp1, yp2, yp3⟩ := hp
  refine pairG (RX := RZc) (R2 := R46) (D := on3 dAct) (E := on3 eAct) (by decide +kernel) (by decide +kernel) yhc RZc_keep yq1 yq2 (fun N yA yas hA hF _ hX hl => ?_) (fun N yA yas hA _ _ hX hl => ?_) (fun yA A1 A2 yas yx yy _ _ _ hF _ hX hZ _ _ _ hl ys1 ys2 => ?_)
  · rw [yp3] at hl
    obtain ⟨ya, yb, yc, rfl⟩ := as3 hl
    rw [yp1]
    exact d_act N yA ya yb yc hX (hF ((30, 4), (69, 31)) (by simp [Fc]))
  · rw [yp3] at hl
    obtain ⟨ya, yb, yc, rfl⟩ := as3 hl
    rw [yp2]
    exact e_act N yA ya yb yc hX
  · rw [yp3] at hl
    obtain ⟨ya, yb, yc, rfl⟩ := as3 hl
    obtain ⟨yr1, r2⟩ := k_act hF hX hZ ys1 ys2
    exact ⟨yr1, fun _ => r2⟩
def dTrc (yi : Int32) (yA : AW) (yu : Option Value) (A1 : AW) : Prop := A1 = yA ∧ (((yi.toInt < 0 ∨ (yA.1 30 6 - 1).toInt < yi.toInt) ∧ yu = some (.int (-1))) ∨ (0 ≤ yi.toInt ∧ yi.toInt ≤ (yA.1 30 6 - 1).toInt ∧ yu = some (.int (yA.1 33 yi.toInt.toNat))))
def eTrc (yi : Int32) (yA : AW) (yu : Option Value) (A1 : AW) : Prop := A1 = yA ∧ (((yi.toInt < 0 ∨ (yA.1 69 85).toInt ≤ yi.toInt ∨ 24 ≤ yi.toInt) ∧ yu = some (.int (-1))) ∨ (0 ≤ yi.toInt ∧ yi.toInt < (yA.1 69 85).toInt ∧ yu = some (.int (yA.1 128 yi.toInt.toNat))))
theorem k_trace {yA A1 A2 : AW} {yi yv yy : Int32} (hZ : R46 yA) (ys1 : dTrc yi yA (some (.int yv)) A1) (ys2 : eTrc yi A1 (some (.int yy)) A2) : R46 A2 ∧ yv = yy := by
  obtain ⟨rfl, ys1⟩ := ys1
  obtain ⟨rfl, ys2⟩ := ys2
  refine ⟨hZ, ?_⟩
  obtain ⟨g1, g2, yg3, g4⟩ := hZ
  have ye : (A2.1 30 6 - 1).toInt = (A2.1 30 6).toInt - 1 := i_subx (by rw [show (1 : Int32).toInt = 1 from by decide]) (by omega) (by omega)
  rw [ye] at ys1
  rw [← g1] at ys2
  rcases ys1 with ⟨ya1, a2⟩ | ⟨ya1, a2, a3⟩
  · rcases ys2 with ⟨b1, b2⟩ | ⟨b1, b2, b3⟩
    · rw [some_int a2, some_int b2]
    · omega
  · rcases ys2 with ⟨b1, b2⟩ | ⟨b1, b2, b3⟩
    · omega
    · rw [some_int a3, some_int b3, g4 yi.toInt.toNat (by omega)]
theorem h_trace {yp : zPr} (hp : yp.1 = 143 ∧ yp.2.1 = 256 ∧ yp.2.2.1 = 1) (yhc : c_rm yp = true) (yq1 : (ri_wr zZ Fc Arc (c_get1 yp.1 0 yp.2.2.1).2.2.2 && kRc (c_get1 yp.1 0 yp.2.2.1).2.2.2) = true) (yq2 : (ri_wr zZ Fc Arc (c_get1 yp.2.1 69 yp.2.2.1).2.2.2 && kRc (c_get1 yp.2.1 69 yp.2.2.1).2.2.2) = true) : PairOK (RR Fc Arc RXa) yp := by
  obtain ⟨yp1, yp2, yp3⟩ := hp
  refine pairG (RX := RZc) (R2 := R46) (D := on1 dTrc) (E := on1 eTrc) (by decide +kernel) (by decide +kernel) yhc RZc_keep yq1 yq2 (fun N yA yas _ _ _ _ hl => ?_) (fun N yA yas _ _ _ _ hl => ?_) (fun yA A1 A2 yas yx yy _ _ _ _ _ _ hZ _ _ _ hl ys1 ys2 => ?_)
  · rw [yp3] at hl
    obtain ⟨ya, rfl⟩ := as1 hl
    rw [yp1]
    exact bx_trc ya (fun h1 => ⟨rfl, .inl ⟨.inl h1, rfl⟩⟩) (fun h1 h2 => ⟨rfl, .inl ⟨.inr h2, rfl⟩⟩) (fun h1 h2 _ => ⟨rfl, .inr ⟨h1, h2, rfl⟩⟩)
  · rw [yp3] at hl
    obtain ⟨ya, rfl⟩ := as1 hl
    rw [yp2]
    exact bm_trc ya (fun h1 => ⟨rfl, .inl ⟨.inl h1, rfl⟩⟩) (fun h1 h2 => ⟨rfl, .inl ⟨.inr (.inl h2), rfl⟩⟩) (fun h1 h2 h3 => ⟨rfl, .inl ⟨.inr (.inr h3), rfl⟩⟩) (fun h1 h2 _ => ⟨rfl, .inr ⟨h1, h2, rfl⟩⟩)
  · rw [yp3] at hl
    obtain ⟨ya, rfl⟩ := as1 hl
    obtain ⟨yr1, r2⟩ := k_trace hZ ys1 ys2
    exact ⟨yr1, fun _ => r2⟩
