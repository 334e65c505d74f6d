/-! ACT: the runs of the reference -/
theorem bpm0_1 {N : Nat} {yA : AW} {yQ : Option Value → AW → Prop} (yx yc : Int32) (hk : yA.1 89 yc.toInt.toNat = 1)
    (l1 : yQ (some (.int (yx + (kofM yA yc (yA.1 69 0))))) (uI (uI (uI (uI yA 69 85 0) 69 86 yc) 128 0 10) 69 85 1)) :
    Pa N 252 0 [(0, .ref 69), (1, .int 1), (2, .int yx)] [] (uI (uI yA 69 85 0) 69 86 yc) yQ := by
  refine Pa.mp 1 (pc' := 1) (l' := [(0, .ref 69), (1, .int 1), (2, .int yx)]) (st' := [.int 1]) (by rfl) ?_
  refine Pa.mp 1 (pc' := 93) (l' := [(0, .ref 69), (1, .int 1), (2, .int yx)]) (st' := []) (by rfl) ?_
  refine Pa.mp 2 (pc' := 95) (l' := [(0, .ref 69), (1, .int 1), (2, .int yx)]) (st' := [.int 1, .ref 69]) (by rfl) ?_
  refine Pa.ist (by rfl) (by rfl) (.inl rfl) (by rfl) (by rfl) ?_
  show Pa N 250 0 [(0, .int 1)] [] (uI (uI yA 69 85 0) 69 86 yc) _
  refine Pa.mp 1 (pc' := 1) (l' := [(0, .int 1)]) (st' := [.int 1]) (by rfl) ?_
  refine Pa.ic (x := 5) (pc' := 2) (by rfl) (by rfl) (by decide) ?_
  refine Pa.if2k false (by rfl) (by rfl) (by decide) ?_
  show Pa N 250 5 [(0, .int 1)] [] (uI (uI yA 69 85 0) 69 86 yc) _
  refine Pa.mp 1 (pc' := 6) (l' := [(0, .int 1)]) (st' := [.int 1]) (by rfl) ?_
  refine Pa.ic (x := 3) (pc' := 7) (by rfl) (by rfl) (by decide) ?_
  refine Pa.if2k true (by rfl) (by rfl) (by decide) ?_
  show Pa N 250 14 [(0, .int 1)] [] (uI (uI yA 69 85 0) 69 86 yc) _
  refine Pa.mp 1 (pc' := 15) (l' := [(0, .int 1)]) (st' := [.int 1]) (by rfl) ?_
  refine Pa.ic (x := 6) (pc' := 17) (by rfl) (by rfl) (by decide) ?_
  refine Pa.if2k true (by rfl) (by rfl) (by decide) ?_
  show Pa N 250 24 [(0, .int 1)] [] (uI (uI yA 69 85 0) 69 86 yc) _
  refine Pa.ic (x := 0) (pc' := 25) (by rfl) (by rfl) (by decide) ?_
  refine Pa.iret (by rfl) ?_
  show Pa N 252 98 [(0, .ref 69), (1, .int 1), (2, .int yx)] [.int 0, .ref 69] (uI (uI yA 69 85 0) 69 86 yc) _
  refine Pa.mp 1 (pc' := 99) (l' := [(0, .ref 69), (1, .int 1), (2, .int yx)]) (st' := [.int yx, .int 0, .ref 69]) (by rfl) ?_
  refine Pa.inv (by rfl) (by rfl) (.inl rfl) (by rfl) ?_
  show Pa N 252 0 [(0, .ref 69), (1, .int 0), (2, .int yx)] [] (uI (uI yA 69 85 0) 69 86 yc) _
  refine Pa.mp 1 (pc' := 1) (l' := [(0, .ref 69), (1, .int 0), (2, .int yx)]) (st' := [.int 0]) (by rfl) ?_
  refine Pa.mp 1 (pc' := 36) (l' := [(0, .ref 69), (1, .int 0), (2, .int yx)]) (st' := []) (by rfl) ?_
  refine Pa.mp 1 (pc' := 37) (l' := [(0, .ref 69), (1, .int 0), (2, .int yx)]) (st' := [.ref 69]) (by rfl) ?_
  refine Pa.ic (x := 10) (pc' := 39) (by rfl) (by rfl) (by decide) ?_
  refine Pa.inv (by rfl) (by rfl) (.inl rfl) (by rfl) ?_
  show Pa N 251 0 [(0, .ref 69), (1, .int 10)] [] (uI (uI yA 69 85 0) 69 86 yc) _
  refine Pa.mp 1 (pc' := 1) (l' := [(0, .ref 69), (1, .int 10)]) (st' := [.ref 69]) (by rfl) ?_
  refine Pa.gfI (v := 0) (by rfl) (by rfl) (.inl rfl) (by rfl) (by show (uI (uI yA 69 85 0) 69 86 yc).1 69 85 = 0; rw [uI_k (by decide), uI_h]) ?_
  refine Pa.ic (x := 24) (pc' := 6) (by rfl) (by rfl) (by decide) ?_
  refine Pa.if2k false (by rfl) (by rfl) (by decide) ?_
  show Pa N 251 9 [(0, .ref 69), (1, .int 10)] [] (uI (uI yA 69 85 0) 69 86 yc) _
  refine Pa.mp 1 (pc' := 10) (l' := [(0, .ref 69), (1, .int 10)]) (st' := [.ref 69]) (by rfl) ?_
  refine Pa.gfR (by rfl) (by rfl) (.inl rfl) (by rfl) ?_
  show Pa N 251 13 [(0, .ref 69), (1, .int 10)] [.ref 128] (uI (uI yA 69 85 0) 69 86 yc) _
  refine Pa.mp 1 (pc' := 14) (l' := [(0, .ref 69), (1, .int 10)]) (st' := [.ref 69, .ref 128]) (by rfl) ?_
  refine Pa.gfI (v := 0) (by rfl) (by rfl) (.inl rfl) (by rfl) (by show (uI (uI yA 69 85 0) 69 86 yc).1 69 85 = 0; rw [uI_k (by decide), uI_h]) ?_
  refine Pa.mp 1 (pc' := 18) (l' := [(0, .ref 69), (1, .int 10)]) (st' := [.int 10, .int 0, .ref 128]) (by rfl) ?_
  refine Pa.asts (j' := 0) (by rfl) (by rfl) (by rfl) (fun h1 h2 => ?_)
  show Pa N 251 19 [(0, .ref 69), (1, .int 10)] [] (uI (uI (uI yA 69 85 0) 69 86 yc) 128 0 10) _
  refine Pa.mp 2 (pc' := 21) (l' := [(0, .ref 69), (1, .int 10)]) (st' := [.ref 69, .ref 69]) (by rfl) ?_
  refine Pa.gfI (v := 0) (by rfl) (by rfl) (.inl rfl) (by rfl) (by show (uI (uI (uI yA 69 85 0) 69 86 yc) 128 0 10).1 69 85 = 0; rw [uI_c (by decide), uI_k (by decide), uI_h]) ?_
  refine Pa.ic (x := 1) (pc' := 25) (by rfl) (by rfl) (by decide) ?_
  refine Pa.mp 1 (pc' := 26) (l' := [(0, .ref 69), (1, .int 10)]) (st' := [.int 1, .ref 69]) (by rfl) ?_
  refine Pa.pfI (by rfl) (by rfl) (.inl rfl) (by rfl) ?_
  show Pa N 251 29 [(0, .ref 69), (1, .int 10)] [] (uI (uI (uI (uI yA 69 85 0) 69 86 yc) 128 0 10) 69 85 1) _
  refine Pa.vret (by rfl) ?_
  show Pa N 252 42 [(0, .ref 69), (1, .int 0), (2, .int yx)] [] (uI (uI (uI (uI yA 69 85 0) 69 86 yc) 128 0 10) 69 85 1) _
  refine Pa.mp 3 (pc' := 45) (l' := [(0, .ref 69), (1, .int 0), (2, .int yx)]) (st' := [.ref 69, .ref 69, .int yx]) (by rfl) ?_
  refine Pa.gfI (v := yc) (by rfl) (by rfl) (.inl rfl) (by rfl) (by show (uI (uI (uI (uI yA 69 85 0) 69 86 yc) 128 0 10) 69 85 1).1 69 86 = yc; rw [uI_k (by decide), uI_c (by decide), uI_h]) ?_
  refine Pa.mp 1 (pc' := 49) (l' := [(0, .ref 69), (1, .int 0), (2, .int yx)]) (st' := [.ref 69, .int yc, .ref 69, .int yx]) (by rfl) ?_
  refine Pa.gfI (v := yA.1 69 0) (by rfl) (by rfl) (.inl rfl) (by rfl) (by show (uI (uI (uI (uI yA 69 85 0) 69 86 yc) 128 0 10) 69 85 1).1 69 0 = yA.1 69 0; rw [uI_k (by decide), uI_c (by decide), uI_k (by decide), uI_k (by decide)]) ?_
  refine Pa.inv (by rfl) (by rfl) (.inl rfl) (by rfl) ?_
  refine Pa.mono (c_kof N yA (uI (uI (uI (uI yA 69 85 0) 69 86 yc) 128 0 10) 69 85 1) yc (yA.1 69 0) (funext fun _ => by repeat rw [uI_c (by decide)]) (funext fun _ => by repeat rw [uI_c (by decide)]) (funext fun _ => by repeat rw [uI_c (by decide)])) (fun yu A1 hu => ?_)
  obtain ⟨rfl, hu⟩ := hu
  rw [hu]
  show Pa N 252 55 [(0, .ref 69), (1, .int 0), (2, .int yx)] [.int (kofM yA yc (yA.1 69 0)), .int yx] (uI (uI (uI (uI yA 69 85 0) 69 86 yc) 128 0 10) 69 85 1) _
  refine Pa.mp 1 (pc' := 56) (l' := [(0, .ref 69), (1, .int 0), (2, .int yx)]) (st' := [.int (yx + (kofM yA yc (yA.1 69 0)))]) (by rfl) ?_
  refine Pa.iret (by rfl) ?_
  show Pa N 252 102 [(0, .ref 69), (1, .int 1), (2, .int yx)] [.int (yx + (kofM yA yc (yA.1 69 0)))] (uI (uI (uI (uI yA 69 85 0) 69 86 yc) 128 0 10) 69 85 1) _
  refine Pa.iret (by rfl) ?_
  exact l1

theorem bpm0_2 {N : Nat} {yA : AW} {yQ : Option Value → AW → Prop} (yx yc : Int32) (hk : yA.1 89 yc.toInt.toNat = 2)
    (l1 : yQ (some (.int ((yx + (kofM yA yc (yA.1 69 0))) - 4))) (uI (uI (uI (uI (uI (uI yA 69 85 0) 69 86 yc) 128 0 30) 69 85 1) 128 1 10) 69 85 2)) :
    Pa N 252 0 [(0, .ref 69), (1, .int 2), (2, .int yx)] [] (uI (uI yA 69 85 0) 69 86 yc) yQ := by
  refine Pa.mp 1 (pc' := 1) (l' := [(0, .ref 69), (1, .int 2), (2, .int yx)]) (st' := [.int 2]) (by rfl) ?_
  refine Pa.mp 1 (pc' := 57) (l' := [(0, .ref 69), (1, .int 2), (2, .int yx)]) (st' := []) (by rfl) ?_
  refine Pa.mp 1 (pc' := 58) (l' := [(0, .ref 69), (1, .int 2), (2, .int yx)]) (st' := [.ref 69]) (by rfl) ?_
  refine Pa.ic (x := 30) (pc' := 60) (by rfl) (by rfl) (by decide) ?_
  refine Pa.inv (by rfl) (by rfl) (.inl rfl) (by rfl) ?_
  show Pa N 251 0 [(0, .ref 69), (1, .int 30)] [] (uI (uI yA 69 85 0) 69 86 yc) _
  refine Pa.mp 1 (pc' := 1) (l' := [(0, .ref 69), (1, .int 30)]) (st' := [.ref 69]) (by rfl) ?_
  refine Pa.gfI (v := 0) (by rfl) (by rfl) (.inl rfl) (by rfl) (by show (uI (uI yA 69 85 0) 69 86 yc).1 69 85 = 0; rw [uI_k (by decide), uI_h]) ?_
  refine Pa.ic (x := 24) (pc' := 6) (by rfl) (by rfl) (by decide) ?_
  refine Pa.if2k false (by rfl) (by rfl) (by decide) ?_
  show Pa N 251 9 [(0, .ref 69), (1, .int 30)] [] (uI (uI yA 69 85 0) 69 86 yc) _
  refine Pa.mp 1 (pc' := 10) (l' := [(0, .ref 69), (1, .int 30)]) (st' := [.ref 69]) (by rfl) ?_
  refine Pa.gfR (by rfl) (by rfl) (.inl rfl) (by rfl) ?_
  show Pa N 251 13 [(0, .ref 69), (1, .int 30)] [.ref 128] (uI (uI yA 69 85 0) 69 86 yc) _
  refine Pa.mp 1 (pc' := 14) (l' := [(0, .ref 69), (1, .int 30)]) (st' := [.ref 69, .ref 128]) (by rfl) ?_
  refine Pa.gfI (v := 0) (by rfl) (by rfl) (.inl rfl) (by rfl) (by show (uI (uI yA 69 85 0) 69 86 yc).1 69 85 = 0; rw [uI_k (by decide), uI_h]) ?_
  refine Pa.mp 1 (pc' := 18) (l' := [(0, .ref 69), (1, .int 30)]) (st' := [.int 30, .int 0, .ref 128]) (by rfl) ?_
  refine Pa.asts (j' := 0) (by rfl) (by rfl) (by rfl) (fun h1 h2 => ?_)
  show Pa N 251 19 [(0, .ref 69), (1, .int 30)] [] (uI (uI (uI yA 69 85 0) 69 86 yc) 128 0 30) _
  refine Pa.mp 2 (pc' := 21) (l' := [(0, .ref 69), (1, .int 30)]) (st' := [.ref 69, .ref 69]) (by rfl) ?_
  refine Pa.gfI (v := 0) (by rfl) (by rfl) (.inl rfl) (by rfl) (by show (uI (uI (uI yA 69 85 0) 69 86 yc) 128 0 30).1 69 85 = 0; rw [uI_c (by decide), uI_k (by decide), uI_h]) ?_
  refine Pa.ic (x := 1) (pc' := 25) (by rfl) (by rfl) (by decide) ?_
  refine Pa.mp 1 (pc' := 26) (l' := [(0, .ref 69), (1, .int 30)]) (st' := [.int 1, .ref 69]) (by rfl) ?_
  refine Pa.pfI (by rfl) (by rfl) (.inl rfl) (by rfl) ?_
  show Pa N 251 29 [(0, .ref 69), (1, .int 30)] [] (uI (uI (uI (uI yA 69 85 0) 69 86 yc) 128 0 30) 69 85 1) _
  refine Pa.vret (by rfl) ?_
  show Pa N 252 63 [(0, .ref 69), (1, .int 2), (2, .int yx)] [] (uI (uI (uI (uI yA 69 85 0) 69 86 yc) 128 0 30) 69 85 1) _
  refine Pa.mp 1 (pc' := 64) (l' := [(0, .ref 69), (1, .int 2), (2, .int yx)]) (st' := [.ref 69]) (by rfl) ?_
  refine Pa.ic (x := 2) (pc' := 65) (by rfl) (by rfl) (by decide) ?_
  refine Pa.ist (by rfl) (by rfl) (.inl rfl) (by rfl) (by rfl) ?_
  show Pa N 250 0 [(0, .int 2)] [] (uI (uI (uI (uI yA 69 85 0) 69 86 yc) 128 0 30) 69 85 1) _
  refine Pa.mp 1 (pc' := 1) (l' := [(0, .int 2)]) (st' := [.int 2]) (by rfl) ?_
  refine Pa.ic (x := 5) (pc' := 2) (by rfl) (by rfl) (by decide) ?_
  refine Pa.if2k false (by rfl) (by rfl) (by decide) ?_
  show Pa N 250 5 [(0, .int 2)] [] (uI (uI (uI (uI yA 69 85 0) 69 86 yc) 128 0 30) 69 85 1) _
  refine Pa.mp 1 (pc' := 6) (l' := [(0, .int 2)]) (st' := [.int 2]) (by rfl) ?_
  refine Pa.ic (x := 3) (pc' := 7) (by rfl) (by rfl) (by decide) ?_
  refine Pa.if2k true (by rfl) (by rfl) (by decide) ?_
  show Pa N 250 14 [(0, .int 2)] [] (uI (uI (uI (uI yA 69 85 0) 69 86 yc) 128 0 30) 69 85 1) _
  refine Pa.mp 1 (pc' := 15) (l' := [(0, .int 2)]) (st' := [.int 2]) (by rfl) ?_
  refine Pa.ic (x := 6) (pc' := 17) (by rfl) (by rfl) (by decide) ?_
  refine Pa.if2k true (by rfl) (by rfl) (by decide) ?_
  show Pa N 250 24 [(0, .int 2)] [] (uI (uI (uI (uI yA 69 85 0) 69 86 yc) 128 0 30) 69 85 1) _
  refine Pa.ic (x := 0) (pc' := 25) (by rfl) (by rfl) (by decide) ?_
  refine Pa.iret (by rfl) ?_
  show Pa N 252 68 [(0, .ref 69), (1, .int 2), (2, .int yx)] [.int 0, .ref 69] (uI (uI (uI (uI yA 69 85 0) 69 86 yc) 128 0 30) 69 85 1) _
  refine Pa.mp 1 (pc' := 69) (l' := [(0, .ref 69), (1, .int 2), (2, .int yx)]) (st' := [.int yx, .int 0, .ref 69]) (by rfl) ?_
  refine Pa.inv (by rfl) (by rfl) (.inl rfl) (by rfl) ?_
  show Pa N 252 0 [(0, .ref 69), (1, .int 0), (2, .int yx)] [] (uI (uI (uI (uI yA 69 85 0) 69 86 yc) 128 0 30) 69 85 1) _
  refine Pa.mp 1 (pc' := 1) (l' := [(0, .ref 69), (1, .int 0), (2, .int yx)]) (st' := [.int 0]) (by rfl) ?_
  refine Pa.mp 1 (pc' := 36) (l' := [(0, .ref 69), (1, .int 0), (2, .int yx)]) (st' := []) (by rfl) ?_
  refine Pa.mp 1 (pc' := 37) (l' := [(0, .ref 69), (1, .int 0), (2, .int yx)]) (st' := [.ref 69]) (by rfl) ?_
  refine Pa.ic (x := 10) (pc' := 39) (by rfl) (by rfl) (by decide) ?_
  refine Pa.inv (by rfl) (by rfl) (.inl rfl) (by rfl) ?_
  show Pa N 251 0 [(0, .ref 69), (1, .int 10)] [] (uI (uI (uI (uI yA 69 85 0) 69 86 yc) 128 0 30) 69 85 1) _
  refine Pa.mp 1 (pc' := 1) (l' := [(0, .ref 69), (1, .int 10)]) (st' := [.ref 69]) (by rfl) ?_
  refine Pa.gfI (v := 1) (by rfl) (by rfl) (.inl rfl) (by rfl) (by show (uI (uI (uI (uI yA 69 85 0) 69 86 yc) 128 0 30) 69 85 1).1 69 85 = 1; rw [uI_h]) ?_
  refine Pa.ic (x := 24) (pc' := 6) (by rfl) (by rfl) (by decide) ?_
  refine Pa.if2k false (by rfl) (by rfl) (by decide) ?_
  show Pa N 251 9 [(0, .ref 69), (1, .int 10)] [] (uI (uI (uI (uI yA 69 85 0) 69 86 yc) 128 0 30) 69 85 1) _
  refine Pa.mp 1 (pc' := 10) (l' := [(0, .ref 69), (1, .int 10)]) (st' := [.ref 69]) (by rfl) ?_
  refine Pa.gfR (by rfl) (by rfl) (.inl rfl) (by rfl) ?_
  show Pa N 251 13 [(0, .ref 69), (1, .int 10)] [.ref 128] (uI (uI (uI (uI yA 69 85 0) 69 86 yc) 128 0 30) 69 85 1) _
  refine Pa.mp 1 (pc' := 14) (l' := [(0, .ref 69), (1, .int 10)]) (st' := [.ref 69, .ref 128]) (by rfl) ?_
  refine Pa.gfI (v := 1) (by rfl) (by rfl) (.inl rfl) (by rfl) (by show (uI (uI (uI (uI yA 69 85 0) 69 86 yc) 128 0 30) 69 85 1).1 69 85 = 1; rw [uI_h]) ?_
  refine Pa.mp 1 (pc' := 18) (l' := [(0, .ref 69), (1, .int 10)]) (st' := [.int 10, .int 1, .ref 128]) (by rfl) ?_
  refine Pa.asts (j' := 1) (by rfl) (by rfl) (by rfl) (fun h3 h4 => ?_)
  show Pa N 251 19 [(0, .ref 69), (1, .int 10)] [] (uI (uI (uI (uI (uI yA 69 85 0) 69 86 yc) 128 0 30) 69 85 1) 128 1 10) _
  refine Pa.mp 2 (pc' := 21) (l' := [(0, .ref 69), (1, .int 10)]) (st' := [.ref 69, .ref 69]) (by rfl) ?_
  refine Pa.gfI (v := 1) (by rfl) (by rfl) (.inl rfl) (by rfl) (by show (uI (uI (uI (uI (uI yA 69 85 0) 69 86 yc) 128 0 30) 69 85 1) 128 1 10).1 69 85 = 1; rw [uI_c (by decide), uI_h]) ?_
  refine Pa.ic (x := 1) (pc' := 25) (by rfl) (by rfl) (by decide) ?_
  refine Pa.mp 1 (pc' := 26) (l' := [(0, .ref 69), (1, .int 10)]) (st' := [.int 2, .ref 69]) (by rfl) ?_
  refine Pa.pfI (by rfl) (by rfl) (.inl rfl) (by rfl) ?_
  show Pa N 251 29 [(0, .ref 69), (1, .int 10)] [] (uI (uI (uI (uI (uI (uI yA 69 85 0) 69 86 yc) 128 0 30) 69 85 1) 128 1 10) 69 85 2) _
  refine Pa.vret (by rfl) ?_
  show Pa N 252 42 [(0, .ref 69), (1, .int 0), (2, .int yx)] [] (uI (uI (uI (uI (uI (uI yA 69 85 0) 69 86 yc) 128 0 30) 69 85 1) 128 1 10) 69 85 2) _
  refine Pa.mp 3 (pc' := 45) (l' := [(0, .ref 69), (1, .int 0), (2, .int yx)]) (st' := [.ref 69, .ref 69, .int yx]) (by rfl) ?_
  refine Pa.gfI (v := yc) (by rfl) (by rfl) (.inl rfl) (by rfl) (by show (uI (uI (uI (uI (uI (uI yA 69 85 0) 69 86 yc) 128 0 30) 69 85 1) 128 1 10) 69 85 2).1 69 86 = yc; rw [uI_k (by decide), uI_c (by decide), uI_k (by decide), uI_c (by decide), uI_h]) ?_
  refine Pa.mp 1 (pc' := 49) (l' := [(0, .ref 69), (1, .int 0), (2, .int yx)]) (st' := [.ref 69, .int yc, .ref 69, .int yx]) (by rfl) ?_
  refine Pa.gfI (v := yA.1 69 0) (by rfl) (by rfl) (.inl rfl) (by rfl) (by show (uI (uI (uI (uI (uI (uI yA 69 85 0) 69 86 yc) 128 0 30) 69 85 1) 128 1 10) 69 85 2).1 69 0 = yA.1 69 0; rw [uI_k (by decide), uI_c (by decide), uI_k (by decide), uI_c (by decide), uI_k (by decide), uI_k (by decide)]) ?_
  refine Pa.inv (by rfl) (by rfl) (.inl rfl) (by rfl) ?_
  refine Pa.mono (c_kof N yA (uI (uI (uI (uI (uI (uI yA 69 85 0) 69 86 yc) 128 0 30) 69 85 1) 128 1 10) 69 85 2) yc (yA.1 69 0) (funext fun _ => by repeat rw [uI_c (by decide)]) (funext fun _ => by repeat rw [uI_c (by decide)]) (funext fun _ => by repeat rw [uI_c (by decide)])) (fun yu A1 hu => ?_)
  obtain ⟨rfl, hu⟩ := hu
  rw [hu]
  show Pa N 252 55 [(0, .ref 69), (1, .int 0), (2, .int yx)] [.int (kofM yA yc (yA.1 69 0)), .int yx] (uI (uI (uI (uI (uI (uI yA 69 85 0) 69 86 yc) 128 0 30) 69 85 1) 128 1 10) 69 85 2) _
  refine Pa.mp 1 (pc' := 56) (l' := [(0, .ref 69), (1, .int 0), (2, .int yx)]) (st' := [.int (yx + (kofM yA yc (yA.1 69 0)))]) (by rfl) ?_
  refine Pa.iret (by rfl) ?_
  show Pa N 252 72 [(0, .ref 69), (1, .int 2), (2, .int yx)] [.int (yx + (kofM yA yc (yA.1 69 0)))] (uI (uI (uI (uI (uI (uI yA 69 85 0) 69 86 yc) 128 0 30) 69 85 1) 128 1 10) 69 85 2) _
  refine Pa.ic (x := 4) (pc' := 73) (by rfl) (by rfl) (by decide) ?_
  refine Pa.mp 1 (pc' := 74) (l' := [(0, .ref 69), (1, .int 2), (2, .int yx)]) (st' := [.int ((yx + (kofM yA yc (yA.1 69 0))) - 4)]) (by rfl) ?_
  refine Pa.iret (by rfl) ?_
  exact l1

theorem bpm0_3 {N : Nat} {yA : AW} {yQ : Option Value → AW → Prop} (yx yc : Int32) (hk : yA.1 89 yc.toInt.toNat = 3)
    (l1 : yQ (some (.int ((yx + (kofM yA yc (yA.1 69 0))) - 4))) (uI (uI (uI (uI (uI (uI yA 69 85 0) 69 86 yc) 128 0 30) 69 85 1) 128 1 10) 69 85 2)) :
    Pa N 252 0 [(0, .ref 69), (1, .int 3), (2, .int yx)] [] (uI (uI yA 69 85 0) 69 86 yc) yQ := by
  refine Pa.mp 1 (pc' := 1) (l' := [(0, .ref 69), (1, .int 3), (2, .int yx)]) (st' := [.int 3]) (by rfl) ?_
  refine Pa.mp 1 (pc' := 93) (l' := [(0, .ref 69), (1, .int 3), (2, .int yx)]) (st' := []) (by rfl) ?_
  refine Pa.mp 2 (pc' := 95) (l' := [(0, .ref 69), (1, .int 3), (2, .int yx)]) (st' := [.int 3, .ref 69]) (by rfl) ?_
  refine Pa.ist (by rfl) (by rfl) (.inl rfl) (by rfl) (by rfl) ?_
  show Pa N 250 0 [(0, .int 3)] [] (uI (uI yA 69 85 0) 69 86 yc) _
  refine Pa.mp 1 (pc' := 1) (l' := [(0, .int 3)]) (st' := [.int 3]) (by rfl) ?_
  refine Pa.ic (x := 5) (pc' := 2) (by rfl) (by rfl) (by decide) ?_
  refine Pa.if2k false (by rfl) (by rfl) (by decide) ?_
  show Pa N 250 5 [(0, .int 3)] [] (uI (uI yA 69 85 0) 69 86 yc) _
  refine Pa.mp 1 (pc' := 6) (l' := [(0, .int 3)]) (st' := [.int 3]) (by rfl) ?_
  refine Pa.ic (x := 3) (pc' := 7) (by rfl) (by rfl) (by decide) ?_
  refine Pa.if2k false (by rfl) (by rfl) (by decide) ?_
  show Pa N 250 10 [(0, .int 3)] [] (uI (uI yA 69 85 0) 69 86 yc) _
  refine Pa.ic (x := 2) (pc' := 11) (by rfl) (by rfl) (by decide) ?_
  refine Pa.mp 1 (pc' := 25) (l' := [(0, .int 3)]) (st' := [.int 2]) (by rfl) ?_
  refine Pa.iret (by rfl) ?_
  show Pa N 252 98 [(0, .ref 69), (1, .int 3), (2, .int yx)] [.int 2, .ref 69] (uI (uI yA 69 85 0) 69 86 yc) _
  refine Pa.mp 1 (pc' := 99) (l' := [(0, .ref 69), (1, .int 3), (2, .int yx)]) (st' := [.int yx, .int 2, .ref 69]) (by rfl) ?_
  refine Pa.inv (by rfl) (by rfl) (.inl rfl) (by rfl) ?_
  show Pa N 252 0 [(0, .ref 69), (1, .int 2), (2, .int yx)] [] (uI (uI yA 69 85 0) 69 86 yc) _
  refine Pa.mp 1 (pc' := 1) (l' := [(0, .ref 69), (1, .int 2), (2, .int yx)]) (st' := [.int 2]) (by rfl) ?_
  refine Pa.mp 1 (pc' := 57) (l' := [(0, .ref 69), (1, .int 2), (2, .int yx)]) (st' := []) (by rfl) ?_
  refine Pa.mp 1 (pc' := 58) (l' := [(0, .ref 69), (1, .int 2), (2, .int yx)]) (st' := [.ref 69]) (by rfl) ?_
  refine Pa.ic (x := 30) (pc' := 60) (by rfl) (by rfl) (by decide) ?_
  refine Pa.inv (by rfl) (by rfl) (.inl rfl) (by rfl) ?_
  show Pa N 251 0 [(0, .ref 69), (1, .int 30)] [] (uI (uI yA 69 85 0) 69 86 yc) _
  refine Pa.mp 1 (pc' := 1) (l' := [(0, .ref 69), (1, .int 30)]) (st' := [.ref 69]) (by rfl) ?_
  refine Pa.gfI (v := 0) (by rfl) (by rfl) (.inl rfl) (by rfl) (by show (uI (uI yA 69 85 0) 69 86 yc).1 69 85 = 0; rw [uI_k (by decide), uI_h]) ?_
  refine Pa.ic (x := 24) (pc' := 6) (by rfl) (by rfl) (by decide) ?_
  refine Pa.if2k false (by rfl) (by rfl) (by decide) ?_
  show Pa N 251 9 [(0, .ref 69), (1, .int 30)] [] (uI (uI yA 69 85 0) 69 86 yc) _
  refine Pa.mp 1 (pc' := 10) (l' := [(0, .ref 69), (1, .int 30)]) (st' := [.ref 69]) (by rfl) ?_
  refine Pa.gfR (by rfl) (by rfl) (.inl rfl) (by rfl) ?_
  show Pa N 251 13 [(0, .ref 69), (1, .int 30)] [.ref 128] (uI (uI yA 69 85 0) 69 86 yc) _
  refine Pa.mp 1 (pc' := 14) (l' := [(0, .ref 69), (1, .int 30)]) (st' := [.ref 69, .ref 128]) (by rfl) ?_
  refine Pa.gfI (v := 0) (by rfl) (by rfl) (.inl rfl) (by rfl) (by show (uI (uI yA 69 85 0) 69 86 yc).1 69 85 = 0; rw [uI_k (by decide), uI_h]) ?_
  refine Pa.mp 1 (pc' := 18) (l' := [(0, .ref 69), (1, .int 30)]) (st' := [.int 30, .int 0, .ref 128]) (by rfl) ?_
  refine Pa.asts (j' := 0) (by rfl) (by rfl) (by rfl) (fun h1 h2 => ?_)
  show Pa N 251 19 [(0, .ref 69), (1, .int 30)] [] (uI (uI (uI yA 69 85 0) 69 86 yc) 128 0 30) _
  refine Pa.mp 2 (pc' := 21) (l' := [(0, .ref 69), (1, .int 30)]) (st' := [.ref 69, .ref 69]) (by rfl) ?_
  refine Pa.gfI (v := 0) (by rfl) (by rfl) (.inl rfl) (by rfl) (by show (uI (uI (uI yA 69 85 0) 69 86 yc) 128 0 30).1 69 85 = 0; rw [uI_c (by decide), uI_k (by decide), uI_h]) ?_
  refine Pa.ic (x := 1) (pc' := 25) (by rfl) (by rfl) (by decide) ?_
  refine Pa.mp 1 (pc' := 26) (l' := [(0, .ref 69), (1, .int 30)]) (st' := [.int 1, .ref 69]) (by rfl) ?_
  refine Pa.pfI (by rfl) (by rfl) (.inl rfl) (by rfl) ?_
  show Pa N 251 29 [(0, .ref 69), (1, .int 30)] [] (uI (uI (uI (uI yA 69 85 0) 69 86 yc) 128 0 30) 69 85 1) _
  refine Pa.vret (by rfl) ?_
  show Pa N 252 63 [(0, .ref 69), (1, .int 2), (2, .int yx)] [] (uI (uI (uI (uI yA 69 85 0) 69 86 yc) 128 0 30) 69 85 1) _
  refine Pa.mp 1 (pc' := 64) (l' := [(0, .ref 69), (1, .int 2), (2, .int yx)]) (st' := [.ref 69]) (by rfl) ?_
  refine Pa.ic (x := 2) (pc' := 65) (by rfl) (by rfl) (by decide) ?_
  refine Pa.ist (by rfl) (by rfl) (.inl rfl) (by rfl) (by rfl) ?_
  show Pa N 250 0 [(0, .int 2)] [] (uI (uI (uI (uI yA 69 85 0) 69 86 yc) 128 0 30) 69 85 1) _
  refine Pa.mp 1 (pc' := 1) (l' := [(0, .int 2)]) (st' := [.int 2]) (by rfl) ?_
  refine Pa.ic (x := 5) (pc' := 2) (by rfl) (by rfl) (by decide) ?_
  refine Pa.if2k false (by rfl) (by rfl) (by decide) ?_
  show Pa N 250 5 [(0, .int 2)] [] (uI (uI (uI (uI yA 69 85 0) 69 86 yc) 128 0 30) 69 85 1) _
  refine Pa.mp 1 (pc' := 6) (l' := [(0, .int 2)]) (st' := [.int 2]) (by rfl) ?_
  refine Pa.ic (x := 3) (pc' := 7) (by rfl) (by rfl) (by decide) ?_
  refine Pa.if2k true (by rfl) (by rfl) (by decide) ?_
  show Pa N 250 14 [(0, .int 2)] [] (uI (uI (uI (uI yA 69 85 0) 69 86 yc) 128 0 30) 69 85 1) _
  refine Pa.mp 1 (pc' := 15) (l' := [(0, .int 2)]) (st' := [.int 2]) (by rfl) ?_
  refine Pa.ic (x := 6) (pc' := 17) (by rfl) (by rfl) (by decide) ?_
  refine Pa.if2k true (by rfl) (by rfl) (by decide) ?_
  show Pa N 250 24 [(0, .int 2)] [] (uI (uI (uI (uI yA 69 85 0) 69 86 yc) 128 0 30) 69 85 1) _
  refine Pa.ic (x := 0) (pc' := 25) (by rfl) (by rfl) (by decide) ?_
  refine Pa.iret (by rfl) ?_
  show Pa N 252 68 [(0, .ref 69), (1, .int 2), (2, .int yx)] [.int 0, .ref 69] (uI (uI (uI (uI yA 69 85 0) 69 86 yc) 128 0 30) 69 85 1) _
  refine Pa.mp 1 (pc' := 69) (l' := [(0, .ref 69), (1, .int 2), (2, .int yx)]) (st' := [.int yx, .int 0, .ref 69]) (by rfl) ?_
  refine Pa.inv (by rfl) (by rfl) (.inl rfl) (by rfl) ?_
  show Pa N 252 0 [(0, .ref 69), (1, .int 0), (2, .int yx)] [] (uI (uI (uI (uI yA 69 85 0) 69 86 yc) 128 0 30) 69 85 1) _
  refine Pa.mp 1 (pc' := 1) (l' := [(0, .ref 69), (1, .int 0), (2, .int yx)]) (st' := [.int 0]) (by rfl) ?_
  refine Pa.mp 1 (pc' := 36) (l' := [(0, .ref 69), (1, .int 0), (2, .int yx)]) (st' := []) (by rfl) ?_
  refine Pa.mp 1 (pc' := 37) (l' := [(0, .ref 69), (1, .int 0), (2, .int yx)]) (st' := [.ref 69]) (by rfl) ?_
  refine Pa.ic (x := 10) (pc' := 39) (by rfl) (by rfl) (by decide) ?_
  refine Pa.inv (by rfl) (by rfl) (.inl rfl) (by rfl) ?_
  show Pa N 251 0 [(0, .ref 69), (1, .int 10)] [] (uI (uI (uI (uI yA 69 85 0) 69 86 yc) 128 0 30) 69 85 1) _
  refine Pa.mp 1 (pc' := 1) (l' := [(0, .ref 69), (1, .int 10)]) (st' := [.ref 69]) (by rfl) ?_
  refine Pa.gfI (v := 1) (by rfl) (by rfl) (.inl rfl) (by rfl) (by show (uI (uI (uI (uI yA 69 85 0) 69 86 yc) 128 0 30) 69 85 1).1 69 85 = 1; rw [uI_h]) ?_
  refine Pa.ic (x := 24) (pc' := 6) (by rfl) (by rfl) (by decide) ?_
  refine Pa.if2k false (by rfl) (by rfl) (by decide) ?_
  show Pa N 251 9 [(0, .ref 69), (1, .int 10)] [] (uI (uI (uI (uI yA 69 85 0) 69 86 yc) 128 0 30) 69 85 1) _
  refine Pa.mp 1 (pc' := 10) (l' := [(0, .ref 69), (1, .int 10)]) (st' := [.ref 69]) (by rfl) ?_
  refine Pa.gfR (by rfl) (by rfl) (.inl rfl) (by rfl) ?_
  show Pa N 251 13 [(0, .ref 69), (1, .int 10)] [.ref 128] (uI (uI (uI (uI yA 69 85 0) 69 86 yc) 128 0 30) 69 85 1) _
  refine Pa.mp 1 (pc' := 14) (l' := [(0, .ref 69), (1, .int 10)]) (st' := [.ref 69, .ref 128]) (by rfl) ?_
  refine Pa.gfI (v := 1) (by rfl) (by rfl) (.inl rfl) (by rfl) (by show (uI (uI (uI (uI yA 69 85 0) 69 86 yc) 128 0 30) 69 85 1).1 69 85 = 1; rw [uI_h]) ?_
  refine Pa.mp 1 (pc' := 18) (l' := [(0, .ref 69), (1, .int 10)]) (st' := [.int 10, .int 1, .ref 128]) (by rfl) ?_
  refine Pa.asts (j' := 1) (by rfl) (by rfl) (by rfl) (fun h3 h4 => ?_)
  show Pa N 251 19 [(0, .ref 69), (1, .int 10)] [] (uI (uI (uI (uI (uI yA 69 85 0) 69 86 yc) 128 0 30) 69 85 1) 128 1 10) _
  refine Pa.mp 2 (pc' := 21) (l' := [(0, .ref 69), (1, .int 10)]) (st' := [.ref 69, .ref 69]) (by rfl) ?_
  refine Pa.gfI (v := 1) (by rfl) (by rfl) (.inl rfl) (by rfl) (by show (uI (uI (uI (uI (uI yA 69 85 0) 69 86 yc) 128 0 30) 69 85 1) 128 1 10).1 69 85 = 1; rw [uI_c (by decide), uI_h]) ?_
  refine Pa.ic (x := 1) (pc' := 25) (by rfl) (by rfl) (by decide) ?_
  refine Pa.mp 1 (pc' := 26) (l' := [(0, .ref 69), (1, .int 10)]) (st' := [.int 2, .ref 69]) (by rfl) ?_
  refine Pa.pfI (by rfl) (by rfl) (.inl rfl) (by rfl) ?_
  show Pa N 251 29 [(0, .ref 69), (1, .int 10)] [] (uI (uI (uI (uI (uI (uI yA 69 85 0) 69 86 yc) 128 0 30) 69 85 1) 128 1 10) 69 85 2) _
  refine Pa.vret (by rfl) ?_
  show Pa N 252 42 [(0, .ref 69), (1, .int 0), (2, .int yx)] [] (uI (uI (uI (uI (uI (uI yA 69 85 0) 69 86 yc) 128 0 30) 69 85 1) 128 1 10) 69 85 2) _
  refine Pa.mp 3 (pc' := 45) (l' := [(0, .ref 69), (1, .int 0), (2, .int yx)]) (st' := [.ref 69, .ref 69, .int yx]) (by rfl) ?_
  refine Pa.gfI (v := yc) (by rfl) (by rfl) (.inl rfl) (by rfl) (by show (uI (uI (uI (uI (uI (uI yA 69 85 0) 69 86 yc) 128 0 30) 69 85 1) 128 1 10) 69 85 2).1 69 86 = yc; rw [uI_k (by decide), uI_c (by decide), uI_k (by decide), uI_c (by decide), uI_h]) ?_
  refine Pa.mp 1 (pc' := 49) (l' := [(0, .ref 69), (1, .int 0), (2, .int yx)]) (st' := [.ref 69, .int yc, .ref 69, .int yx]) (by rfl) ?_
  refine Pa.gfI (v := yA.1 69 0) (by rfl) (by rfl) (.inl rfl) (by rfl) (by show (uI (uI (uI (uI (uI (uI yA 69 85 0) 69 86 yc) 128 0 30) 69 85 1) 128 1 10) 69 85 2).1 69 0 = yA.1 69 0; rw [uI_k (by decide), uI_c (by decide), uI_k (by decide), uI_c (by decide), uI_k (by decide), uI_k (by decide)]) ?_
  refine Pa.inv (by rfl) (by rfl) (.inl rfl) (by rfl) ?_
  refine Pa.mono (c_kof N yA (uI (uI (uI (uI (uI (uI yA 69 85 0) 69 86 yc) 128 0 30) 69 85 1) 128 1 10) 69 85 2) yc (yA.1 69 0) (funext fun _ => by repeat rw [uI_c (by decide)]) (funext fun _ => by repeat rw [uI_c (by decide)]) (funext fun _ => by repeat rw [uI_c (by decide)])) (fun yu A1 hu => ?_)
  obtain ⟨rfl, hu⟩ := hu
  rw [hu]
  show Pa N 252 55 [(0, .ref 69), (1, .int 0), (2, .int yx)] [.int (kofM yA yc (yA.1 69 0)), .int yx] (uI (uI (uI (uI (uI (uI yA 69 85 0) 69 86 yc) 128 0 30) 69 85 1) 128 1 10) 69 85 2) _
  refine Pa.mp 1 (pc' := 56) (l' := [(0, .ref 69), (1, .int 0), (2, .int yx)]) (st' := [.int (yx + (kofM yA yc (yA.1 69 0)))]) (by rfl) ?_
  refine Pa.iret (by rfl) ?_
  show Pa N 252 72 [(0, .ref 69), (1, .int 2), (2, .int yx)] [.int (yx + (kofM yA yc (yA.1 69 0)))] (uI (uI (uI (uI (uI (uI yA 69 85 0) 69 86 yc) 128 0 30) 69 85 1) 128 1 10) 69 85 2) _
  refine Pa.ic (x := 4) (pc' := 73) (by rfl) (by rfl) (by decide) ?_
  refine Pa.mp 1 (pc' := 74) (l' := [(0, .ref 69), (1, .int 2), (2, .int yx)]) (st' := [.int ((yx + (kofM yA yc (yA.1 69 0))) - 4)]) (by rfl) ?_
  refine Pa.iret (by rfl) ?_
  show Pa N 252 102 [(0, .ref 69), (1, .int 3), (2, .int yx)] [.int ((yx + (kofM yA yc (yA.1 69 0))) - 4)] (uI (uI (uI (uI (uI (uI yA 69 85 0) 69 86 yc) 128 0 30) 69 85 1) 128 1 10) 69 85 2) _
  refine Pa.iret (by rfl) ?_
  exact l1

theorem bpm0_4 {N : Nat} {yA : AW} {yQ : Option Value → AW → Prop} (yx yc : Int32) (hk : yA.1 89 yc.toInt.toNat = 4)
    (l1 : yQ (some (.int (yx + (kofM yA yc (yA.1 69 0))))) (uI (uI (uI (uI yA 69 85 0) 69 86 yc) 128 0 10) 69 85 1)) :
    Pa N 252 0 [(0, .ref 69), (1, .int 4), (2, .int yx)] [] (uI (uI yA 69 85 0) 69 86 yc) yQ := by
  refine Pa.mp 1 (pc' := 1) (l' := [(0, .ref 69), (1, .int 4), (2, .int yx)]) (st' := [.int 4]) (by rfl) ?_
  refine Pa.mp 1 (pc' := 93) (l' := [(0, .ref 69), (1, .int 4), (2, .int yx)]) (st' := []) (by rfl) ?_
  refine Pa.mp 2 (pc' := 95) (l' := [(0, .ref 69), (1, .int 4), (2, .int yx)]) (st' := [.int 4, .ref 69]) (by rfl) ?_
  refine Pa.ist (by rfl) (by rfl) (.inl rfl) (by rfl) (by rfl) ?_
  show Pa N 250 0 [(0, .int 4)] [] (uI (uI yA 69 85 0) 69 86 yc) _
  refine Pa.mp 1 (pc' := 1) (l' := [(0, .int 4)]) (st' := [.int 4]) (by rfl) ?_
  refine Pa.ic (x := 5) (pc' := 2) (by rfl) (by rfl) (by decide) ?_
  refine Pa.if2k false (by rfl) (by rfl) (by decide) ?_
  show Pa N 250 5 [(0, .int 4)] [] (uI (uI yA 69 85 0) 69 86 yc) _
  refine Pa.mp 1 (pc' := 6) (l' := [(0, .int 4)]) (st' := [.int 4]) (by rfl) ?_
  refine Pa.ic (x := 3) (pc' := 7) (by rfl) (by rfl) (by decide) ?_
  refine Pa.if2k true (by rfl) (by rfl) (by decide) ?_
  show Pa N 250 14 [(0, .int 4)] [] (uI (uI yA 69 85 0) 69 86 yc) _
  refine Pa.mp 1 (pc' := 15) (l' := [(0, .int 4)]) (st' := [.int 4]) (by rfl) ?_
  refine Pa.ic (x := 6) (pc' := 17) (by rfl) (by rfl) (by decide) ?_
  refine Pa.if2k true (by rfl) (by rfl) (by decide) ?_
  show Pa N 250 24 [(0, .int 4)] [] (uI (uI yA 69 85 0) 69 86 yc) _
  refine Pa.ic (x := 0) (pc' := 25) (by rfl) (by rfl) (by decide) ?_
  refine Pa.iret (by rfl) ?_
  show Pa N 252 98 [(0, .ref 69), (1, .int 4), (2, .int yx)] [.int 0, .ref 69] (uI (uI yA 69 85 0) 69 86 yc) _
  refine Pa.mp 1 (pc' := 99) (l' := [(0, .ref 69), (1, .int 4), (2, .int yx)]) (st' := [.int yx, .int 0, .ref 69]) (by rfl) ?_
  refine Pa.inv (by rfl) (by rfl) (.inl rfl) (by rfl) ?_
  show Pa N 252 0 [(0, .ref 69), (1, .int 0), (2, .int yx)] [] (uI (uI yA 69 85 0) 69 86 yc) _
  refine Pa.mp 1 (pc' := 1) (l' := [(0, .ref 69), (1, .int 0), (2, .int yx)]) (st' := [.int 0]) (by rfl) ?_
  refine Pa.mp 1 (pc' := 36) (l' := [(0, .ref 69), (1, .int 0), (2, .int yx)]) (st' := []) (by rfl) ?_
  refine Pa.mp 1 (pc' := 37) (l' := [(0, .ref 69), (1, .int 0), (2, .int yx)]) (st' := [.ref 69]) (by rfl) ?_
  refine Pa.ic (x := 10) (pc' := 39) (by rfl) (by rfl) (by decide) ?_
  refine Pa.inv (by rfl) (by rfl) (.inl rfl) (by rfl) ?_
  show Pa N 251 0 [(0, .ref 69), (1, .int 10)] [] (uI (uI yA 69 85 0) 69 86 yc) _
  refine Pa.mp 1 (pc' := 1) (l' := [(0, .ref 69), (1, .int 10)]) (st' := [.ref 69]) (by rfl) ?_
  refine Pa.gfI (v := 0) (by rfl) (by rfl) (.inl rfl) (by rfl) (by show (uI (uI yA 69 85 0) 69 86 yc).1 69 85 = 0; rw [uI_k (by decide), uI_h]) ?_
  refine Pa.ic (x := 24) (pc' := 6) (by rfl) (by rfl) (by decide) ?_
  refine Pa.if2k false (by rfl) (by rfl) (by decide) ?_
  show Pa N 251 9 [(0, .ref 69), (1, .int 10)] [] (uI (uI yA 69 85 0) 69 86 yc) _
  refine Pa.mp 1 (pc' := 10) (l' := [(0, .ref 69), (1, .int 10)]) (st' := [.ref 69]) (by rfl) ?_
  refine Pa.gfR (by rfl) (by rfl) (.inl rfl) (by rfl) ?_
  show Pa N 251 13 [(0, .ref 69), (1, .int 10)] [.ref 128] (uI (uI yA 69 85 0) 69 86 yc) _
  refine Pa.mp 1 (pc' := 14) (l' := [(0, .ref 69), (1, .int 10)]) (st' := [.ref 69, .ref 128]) (by rfl) ?_
  refine Pa.gfI (v := 0) (by rfl) (by rfl) (.inl rfl) (by rfl) (by show (uI (uI yA 69 85 0) 69 86 yc).1 69 85 = 0; rw [uI_k (by decide), uI_h]) ?_
  refine Pa.mp 1 (pc' := 18) (l' := [(0, .ref 69), (1, .int 10)]) (st' := [.int 10, .int 0, .ref 128]) (by rfl) ?_
  refine Pa.asts (j' := 0) (by rfl) (by rfl) (by rfl) (fun h1 h2 => ?_)
  show Pa N 251 19 [(0, .ref 69), (1, .int 10)] [] (uI (uI (uI yA 69 85 0) 69 86 yc) 128 0 10) _
  refine Pa.mp 2 (pc' := 21) (l' := [(0, .ref 69), (1, .int 10)]) (st' := [.ref 69, .ref 69]) (by rfl) ?_
  refine Pa.gfI (v := 0) (by rfl) (by rfl) (.inl rfl) (by rfl) (by show (uI (uI (uI yA 69 85 0) 69 86 yc) 128 0 10).1 69 85 = 0; rw [uI_c (by decide), uI_k (by decide), uI_h]) ?_
  refine Pa.ic (x := 1) (pc' := 25) (by rfl) (by rfl) (by decide) ?_
  refine Pa.mp 1 (pc' := 26) (l' := [(0, .ref 69), (1, .int 10)]) (st' := [.int 1, .ref 69]) (by rfl) ?_
  refine Pa.pfI (by rfl) (by rfl) (.inl rfl) (by rfl) ?_
  show Pa N 251 29 [(0, .ref 69), (1, .int 10)] [] (uI (uI (uI (uI yA 69 85 0) 69 86 yc) 128 0 10) 69 85 1) _
  refine Pa.vret (by rfl) ?_
  show Pa N 252 42 [(0, .ref 69), (1, .int 0), (2, .int yx)] [] (uI (uI (uI (uI yA 69 85 0) 69 86 yc) 128 0 10) 69 85 1) _
  refine Pa.mp 3 (pc' := 45) (l' := [(0, .ref 69), (1, .int 0), (2, .int yx)]) (st' := [.ref 69, .ref 69, .int yx]) (by rfl) ?_
  refine Pa.gfI (v := yc) (by rfl) (by rfl) (.inl rfl) (by rfl) (by show (uI (uI (uI (uI yA 69 85 0) 69 86 yc) 128 0 10) 69 85 1).1 69 86 = yc; rw [uI_k (by decide), uI_c (by decide), uI_h]) ?_
  refine Pa.mp 1 (pc' := 49) (l' := [(0, .ref 69), (1, .int 0), (2, .int yx)]) (st' := [.ref 69, .int yc, .ref 69, .int yx]) (by rfl) ?_
  refine Pa.gfI (v := yA.1 69 0) (by rfl) (by rfl) (.inl rfl) (by rfl) (by show (uI (uI (uI (uI yA 69 85 0) 69 86 yc) 128 0 10) 69 85 1).1 69 0 = yA.1 69 0; rw [uI_k (by decide), uI_c (by decide), uI_k (by decide), uI_k (by decide)]) ?_
  refine Pa.inv (by rfl) (by rfl) (.inl rfl) (by rfl) ?_
  refine Pa.mono (c_kof N yA (uI (uI (uI (uI yA 69 85 0) 69 86 yc) 128 0 10) 69 85 1) yc (yA.1 69 0) (funext fun _ => by repeat rw [uI_c (by decide)]) (funext fun _ => by repeat rw [uI_c (by decide)]) (funext fun _ => by repeat rw [uI_c (by decide)])) (fun yu A1 hu => ?_)
  obtain ⟨rfl, hu⟩ := hu
  rw [hu]
  show Pa N 252 55 [(0, .ref 69), (1, .int 0), (2, .int yx)] [.int (kofM yA yc (yA.1 69 0)), .int yx] (uI (uI (uI (uI yA 69 85 0) 69 86 yc) 128 0 10) 69 85 1) _
  refine Pa.mp 1 (pc' := 56) (l' := [(0, .ref 69), (1, .int 0), (2, .int yx)]) (st' := [.int (yx + (kofM yA yc (yA.1 69 0)))]) (by rfl) ?_
  refine Pa.iret (by rfl) ?_
  show Pa N 252 102 [(0, .ref 69), (1, .int 4), (2, .int yx)] [.int (yx + (kofM yA yc (yA.1 69 0)))] (uI (uI (uI (uI yA 69 85 0) 69 86 yc) 128 0 10) 69 85 1) _
  refine Pa.iret (by rfl) ?_
  exact l1

theorem bpm0_5 {N : Nat} {yA : AW} {yQ : Option Value → AW → Prop} (yx yc : Int32) (hk : yA.1 89 yc.toInt.toNat = 5)
    (l1 : yQ (some (.int (((yx + 1) + (kofM yA yc (yA.1 69 0))) - 4))) (uI (uI (uI (uI (uI (uI (uI (uI yA 69 85 0) 69 86 yc) 128 0 60) 69 85 1) 128 1 30) 69 85 2) 128 2 10) 69 85 3)) :
    Pa N 252 0 [(0, .ref 69), (1, .int 5), (2, .int yx)] [] (uI (uI yA 69 85 0) 69 86 yc) yQ := by
  refine Pa.mp 1 (pc' := 1) (l' := [(0, .ref 69), (1, .int 5), (2, .int yx)]) (st' := [.int 5]) (by rfl) ?_
  refine Pa.mp 1 (pc' := 75) (l' := [(0, .ref 69), (1, .int 5), (2, .int yx)]) (st' := []) (by rfl) ?_
  refine Pa.mp 1 (pc' := 76) (l' := [(0, .ref 69), (1, .int 5), (2, .int yx)]) (st' := [.ref 69]) (by rfl) ?_
  refine Pa.ic (x := 60) (pc' := 78) (by rfl) (by rfl) (by decide) ?_
  refine Pa.inv (by rfl) (by rfl) (.inl rfl) (by rfl) ?_
  show Pa N 251 0 [(0, .ref 69), (1, .int 60)] [] (uI (uI yA 69 85 0) 69 86 yc) _
  refine Pa.mp 1 (pc' := 1) (l' := [(0, .ref 69), (1, .int 60)]) (st' := [.ref 69]) (by rfl) ?_
  refine Pa.gfI (v := 0) (by rfl) (by rfl) (.inl rfl) (by rfl) (by show (uI (uI yA 69 85 0) 69 86 yc).1 69 85 = 0; rw [uI_k (by decide), uI_h]) ?_
  refine Pa.ic (x := 24) (pc' := 6) (by rfl) (by rfl) (by decide) ?_
  refine Pa.if2k false (by rfl) (by rfl) (by decide) ?_
  show Pa N 251 9 [(0, .ref 69), (1, .int 60)] [] (uI (uI yA 69 85 0) 69 86 yc) _
  refine Pa.mp 1 (pc' := 10) (l' := [(0, .ref 69), (1, .int 60)]) (st' := [.ref 69]) (by rfl) ?_
  refine Pa.gfR (by rfl) (by rfl) (.inl rfl) (by rfl) ?_
  show Pa N 251 13 [(0, .ref 69), (1, .int 60)] [.ref 128] (uI (uI yA 69 85 0) 69 86 yc) _
  refine Pa.mp 1 (pc' := 14) (l' := [(0, .ref 69), (1, .int 60)]) (st' := [.ref 69, .ref 128]) (by rfl) ?_
  refine Pa.gfI (v := 0) (by rfl) (by rfl) (.inl rfl) (by rfl) (by show (uI (uI yA 69 85 0) 69 86 yc).1 69 85 = 0; rw [uI_k (by decide), uI_h]) ?_
  refine Pa.mp 1 (pc' := 18) (l' := [(0, .ref 69), (1, .int 60)]) (st' := [.int 60, .int 0, .ref 128]) (by rfl) ?_
  refine Pa.asts (j' := 0) (by rfl) (by rfl) (by rfl) (fun h1 h2 => ?_)
  show Pa N 251 19 [(0, .ref 69), (1, .int 60)] [] (uI (uI (uI yA 69 85 0) 69 86 yc) 128 0 60) _
  refine Pa.mp 2 (pc' := 21) (l' := [(0, .ref 69), (1, .int 60)]) (st' := [.ref 69, .ref 69]) (by rfl) ?_
  refine Pa.gfI (v := 0) (by rfl) (by rfl) (.inl rfl) (by rfl) (by show (uI (uI (uI yA 69 85 0) 69 86 yc) 128 0 60).1 69 85 = 0; rw [uI_c (by decide), uI_k (by decide), uI_h]) ?_
  refine Pa.ic (x := 1) (pc' := 25) (by rfl) (by rfl) (by decide) ?_
  refine Pa.mp 1 (pc' := 26) (l' := [(0, .ref 69), (1, .int 60)]) (st' := [.int 1, .ref 69]) (by rfl) ?_
  refine Pa.pfI (by rfl) (by rfl) (.inl rfl) (by rfl) ?_
  show Pa N 251 29 [(0, .ref 69), (1, .int 60)] [] (uI (uI (uI (uI yA 69 85 0) 69 86 yc) 128 0 60) 69 85 1) _
  refine Pa.vret (by rfl) ?_
  show Pa N 252 81 [(0, .ref 69), (1, .int 5), (2, .int yx)] [] (uI (uI (uI (uI yA 69 85 0) 69 86 yc) 128 0 60) 69 85 1) _
  refine Pa.mp 1 (pc' := 82) (l' := [(0, .ref 69), (1, .int 5), (2, .int yx)]) (st' := [.ref 69]) (by rfl) ?_
  refine Pa.ic (x := 5) (pc' := 83) (by rfl) (by rfl) (by decide) ?_
  refine Pa.ist (by rfl) (by rfl) (.inl rfl) (by rfl) (by rfl) ?_
  show Pa N 250 0 [(0, .int 5)] [] (uI (uI (uI (uI yA 69 85 0) 69 86 yc) 128 0 60) 69 85 1) _
  refine Pa.mp 1 (pc' := 1) (l' := [(0, .int 5)]) (st' := [.int 5]) (by rfl) ?_
  refine Pa.ic (x := 5) (pc' := 2) (by rfl) (by rfl) (by decide) ?_
  refine Pa.if2k true (by rfl) (by rfl) (by decide) ?_
  show Pa N 250 10 [(0, .int 5)] [] (uI (uI (uI (uI yA 69 85 0) 69 86 yc) 128 0 60) 69 85 1) _
  refine Pa.ic (x := 2) (pc' := 11) (by rfl) (by rfl) (by decide) ?_
  refine Pa.mp 1 (pc' := 25) (l' := [(0, .int 5)]) (st' := [.int 2]) (by rfl) ?_
  refine Pa.iret (by rfl) ?_
  show Pa N 252 86 [(0, .ref 69), (1, .int 5), (2, .int yx)] [.int 2, .ref 69] (uI (uI (uI (uI yA 69 85 0) 69 86 yc) 128 0 60) 69 85 1) _
  refine Pa.mp 1 (pc' := 87) (l' := [(0, .ref 69), (1, .int 5), (2, .int yx)]) (st' := [.int yx, .int 2, .ref 69]) (by rfl) ?_
  refine Pa.ic (x := 1) (pc' := 88) (by rfl) (by rfl) (by decide) ?_
  refine Pa.mp 1 (pc' := 89) (l' := [(0, .ref 69), (1, .int 5), (2, .int yx)]) (st' := [.int (yx + 1), .int 2, .ref 69]) (by rfl) ?_
  refine Pa.inv (by rfl) (by rfl) (.inl rfl) (by rfl) ?_
  show Pa N 252 0 [(0, .ref 69), (1, .int 2), (2, .int (yx + 1))] [] (uI (uI (uI (uI yA 69 85 0) 69 86 yc) 128 0 60) 69 85 1) _
  refine Pa.mp 1 (pc' := 1) (l' := [(0, .ref 69), (1, .int 2), (2, .int (yx + 1))]) (st' := [.int 2]) (by rfl) ?_
  refine Pa.mp 1 (pc' := 57) (l' := [(0, .ref 69), (1, .int 2), (2, .int (yx + 1))]) (st' := []) (by rfl) ?_
  refine Pa.mp 1 (pc' := 58) (l' := [(0, .ref 69), (1, .int 2), (2, .int (yx + 1))]) (st' := [.ref 69]) (by rfl) ?_
  refine Pa.ic (x := 30) (pc' := 60) (by rfl) (by rfl) (by decide) ?_
  refine Pa.inv (by rfl) (by rfl) (.inl rfl) (by rfl) ?_
  show Pa N 251 0 [(0, .ref 69), (1, .int 30)] [] (uI (uI (uI (uI yA 69 85 0) 69 86 yc) 128 0 60) 69 85 1) _
  refine Pa.mp 1 (pc' := 1) (l' := [(0, .ref 69), (1, .int 30)]) (st' := [.ref 69]) (by rfl) ?_
  refine Pa.gfI (v := 1) (by rfl) (by rfl) (.inl rfl) (by rfl) (by show (uI (uI (uI (uI yA 69 85 0) 69 86 yc) 128 0 60) 69 85 1).1 69 85 = 1; rw [uI_h]) ?_
  refine Pa.ic (x := 24) (pc' := 6) (by rfl) (by rfl) (by decide) ?_
  refine Pa.if2k false (by rfl) (by rfl) (by decide) ?_
  show Pa N 251 9 [(0, .ref 69), (1, .int 30)] [] (uI (uI (uI (uI yA 69 85 0) 69 86 yc) 128 0 60) 69 85 1) _
  refine Pa.mp 1 (pc' := 10) (l' := [(0, .ref 69), (1, .int 30)]) (st' := [.ref 69]) (by rfl) ?_
  refine Pa.gfR (by rfl) (by rfl) (.inl rfl) (by rfl) ?_
  show Pa N 251 13 [(0, .ref 69), (1, .int 30)] [.ref 128] (uI (uI (uI (uI yA 69 85 0) 69 86 yc) 128 0 60) 69 85 1) _
  refine Pa.mp 1 (pc' := 14) (l' := [(0, .ref 69), (1, .int 30)]) (st' := [.ref 69, .ref 128]) (by rfl) ?_
  refine Pa.gfI (v := 1) (by rfl) (by rfl) (.inl rfl) (by rfl) (by show (uI (uI (uI (uI yA 69 85 0) 69 86 yc) 128 0 60) 69 85 1).1 69 85 = 1; rw [uI_h]) ?_
  refine Pa.mp 1 (pc' := 18) (l' := [(0, .ref 69), (1, .int 30)]) (st' := [.int 30, .int 1, .ref 128]) (by rfl) ?_
  refine Pa.asts (j' := 1) (by rfl) (by rfl) (by rfl) (fun h3 h4 => ?_)
  show Pa N 251 19 [(0, .ref 69), (1, .int 30)] [] (uI (uI (uI (uI (uI yA 69 85 0) 69 86 yc) 128 0 60) 69 85 1) 128 1 30) _
  refine Pa.mp 2 (pc' := 21) (l' := [(0, .ref 69), (1, .int 30)]) (st' := [.ref 69, .ref 69]) (by rfl) ?_
  refine Pa.gfI (v := 1) (by rfl) (by rfl) (.inl rfl) (by rfl) (by show (uI (uI (uI (uI (uI yA 69 85 0) 69 86 yc) 128 0 60) 69 85 1) 128 1 30).1 69 85 = 1; rw [uI_c (by decide), uI_h]) ?_
  refine Pa.ic (x := 1) (pc' := 25) (by rfl) (by rfl) (by decide) ?_
  refine Pa.mp 1 (pc' := 26) (l' := [(0, .ref 69), (1, .int 30)]) (st' := [.int 2, .ref 69]) (by rfl) ?_
  refine Pa.pfI (by rfl) (by rfl) (.inl rfl) (by rfl) ?_
  show Pa N 251 29 [(0, .ref 69), (1, .int 30)] [] (uI (uI (uI (uI (uI (uI yA 69 85 0) 69 86 yc) 128 0 60) 69 85 1) 128 1 30) 69 85 2) _
  refine Pa.vret (by rfl) ?_
  show Pa N 252 63 [(0, .ref 69), (1, .int 2), (2, .int (yx + 1))] [] (uI (uI (uI (uI (uI (uI yA 69 85 0) 69 86 yc) 128 0 60) 69 85 1) 128 1 30) 69 85 2) _
  refine Pa.mp 1 (pc' := 64) (l' := [(0, .ref 69), (1, .int 2), (2, .int (yx + 1))]) (st' := [.ref 69]) (by rfl) ?_
  refine Pa.ic (x := 2) (pc' := 65) (by rfl) (by rfl) (by decide) ?_
  refine Pa.ist (by rfl) (by rfl) (.inl rfl) (by rfl) (by rfl) ?_
  show Pa N 250 0 [(0, .int 2)] [] (uI (uI (uI (uI (uI (uI yA 69 85 0) 69 86 yc) 128 0 60) 69 85 1) 128 1 30) 69 85 2) _
  refine Pa.mp 1 (pc' := 1) (l' := [(0, .int 2)]) (st' := [.int 2]) (by rfl) ?_
  refine Pa.ic (x := 5) (pc' := 2) (by rfl) (by rfl) (by decide) ?_
  refine Pa.if2k false (by rfl) (by rfl) (by decide) ?_
  show Pa N 250 5 [(0, .int 2)] [] (uI (uI (uI (uI (uI (uI yA 69 85 0) 69 86 yc) 128 0 60) 69 85 1) 128 1 30) 69 85 2) _
  refine Pa.mp 1 (pc' := 6) (l' := [(0, .int 2)]) (st' := [.int 2]) (by rfl) ?_
  refine Pa.ic (x := 3) (pc' := 7) (by rfl) (by rfl) (by decide) ?_
  refine Pa.if2k true (by rfl) (by rfl) (by decide) ?_
  show Pa N 250 14 [(0, .int 2)] [] (uI (uI (uI (uI (uI (uI yA 69 85 0) 69 86 yc) 128 0 60) 69 85 1) 128 1 30) 69 85 2) _
  refine Pa.mp 1 (pc' := 15) (l' := [(0, .int 2)]) (st' := [.int 2]) (by rfl) ?_
  refine Pa.ic (x := 6) (pc' := 17) (by rfl) (by rfl) (by decide) ?_
  refine Pa.if2k true (by rfl) (by rfl) (by decide) ?_
  show Pa N 250 24 [(0, .int 2)] [] (uI (uI (uI (uI (uI (uI yA 69 85 0) 69 86 yc) 128 0 60) 69 85 1) 128 1 30) 69 85 2) _
  refine Pa.ic (x := 0) (pc' := 25) (by rfl) (by rfl) (by decide) ?_
  refine Pa.iret (by rfl) ?_
  show Pa N 252 68 [(0, .ref 69), (1, .int 2), (2, .int (yx + 1))] [.int 0, .ref 69] (uI (uI (uI (uI (uI (uI yA 69 85 0) 69 86 yc) 128 0 60) 69 85 1) 128 1 30) 69 85 2) _
  refine Pa.mp 1 (pc' := 69) (l' := [(0, .ref 69), (1, .int 2), (2, .int (yx + 1))]) (st' := [.int (yx + 1), .int 0, .ref 69]) (by rfl) ?_
  refine Pa.inv (by rfl) (by rfl) (.inl rfl) (by rfl) ?_
  show Pa N 252 0 [(0, .ref 69), (1, .int 0), (2, .int (yx + 1))] [] (uI (uI (uI (uI (uI (uI yA 69 85 0) 69 86 yc) 128 0 60) 69 85 1) 128 1 30) 69 85 2) _
  refine Pa.mp 1 (pc' := 1) (l' := [(0, .ref 69), (1, .int 0), (2, .int (yx + 1))]) (st' := [.int 0]) (by rfl) ?_
  refine Pa.mp 1 (pc' := 36) (l' := [(0, .ref 69), (1, .int 0), (2, .int (yx + 1))]) (st' := []) (by rfl) ?_
  refine Pa.mp 1 (pc' := 37) (l' := [(0, .ref 69), (1, .int 0), (2, .int (yx + 1))]) (st' := [.ref 69]) (by rfl) ?_
  refine Pa.ic (x := 10) (pc' := 39) (by rfl) (by rfl) (by decide) ?_
  refine Pa.inv (by rfl) (by rfl) (.inl rfl) (by rfl) ?_
  show Pa N 251 0 [(0, .ref 69), (1, .int 10)] [] (uI (uI (uI (uI (uI (uI yA 69 85 0) 69 86 yc) 128 0 60) 69 85 1) 128 1 30) 69 85 2) _
  refine Pa.mp 1 (pc' := 1) (l' := [(0, .ref 69), (1, .int 10)]) (st' := [.ref 69]) (by rfl) ?_
  refine Pa.gfI (v := 2) (by rfl) (by rfl) (.inl rfl) (by rfl) (by show (uI (uI (uI (uI (uI (uI yA 69 85 0) 69 86 yc) 128 0 60) 69 85 1) 128 1 30) 69 85 2).1 69 85 = 2; rw [uI_h]) ?_
  refine Pa.ic (x := 24) (pc' := 6) (by rfl) (by rfl) (by decide) ?_
  refine Pa.if2k false (by rfl) (by rfl) (by decide) ?_
  show Pa N 251 9 [(0, .ref 69), (1, .int 10)] [] (uI (uI (uI (uI (uI (uI yA 69 85 0) 69 86 yc) 128 0 60) 69 85 1) 128 1 30) 69 85 2) _
  refine Pa.mp 1 (pc' := 10) (l' := [(0, .ref 69), (1, .int 10)]) (st' := [.ref 69]) (by rfl) ?_
  refine Pa.gfR (by rfl) (by rfl) (.inl rfl) (by rfl) ?_
  show Pa N 251 13 [(0, .ref 69), (1, .int 10)] [.ref 128] (uI (uI (uI (uI (uI (uI yA 69 85 0) 69 86 yc) 128 0 60) 69 85 1) 128 1 30) 69 85 2) _
  refine Pa.mp 1 (pc' := 14) (l' := [(0, .ref 69), (1, .int 10)]) (st' := [.ref 69, .ref 128]) (by rfl) ?_
  refine Pa.gfI (v := 2) (by rfl) (by rfl) (.inl rfl) (by rfl) (by show (uI (uI (uI (uI (uI (uI yA 69 85 0) 69 86 yc) 128 0 60) 69 85 1) 128 1 30) 69 85 2).1 69 85 = 2; rw [uI_h]) ?_
  refine Pa.mp 1 (pc' := 18) (l' := [(0, .ref 69), (1, .int 10)]) (st' := [.int 10, .int 2, .ref 128]) (by rfl) ?_
  refine Pa.asts (j' := 2) (by rfl) (by rfl) (by rfl) (fun h5 h6 => ?_)
  show Pa N 251 19 [(0, .ref 69), (1, .int 10)] [] (uI (uI (uI (uI (uI (uI (uI yA 69 85 0) 69 86 yc) 128 0 60) 69 85 1) 128 1 30) 69 85 2) 128 2 10) _
  refine Pa.mp 2 (pc' := 21) (l' := [(0, .ref 69), (1, .int 10)]) (st' := [.ref 69, .ref 69]) (by rfl) ?_
  refine Pa.gfI (v := 2) (by rfl) (by rfl) (.inl rfl) (by rfl) (by show (uI (uI (uI (uI (uI (uI (uI yA 69 85 0) 69 86 yc) 128 0 60) 69 85 1) 128 1 30) 69 85 2) 128 2 10).1 69 85 = 2; rw [uI_c (by decide), uI_h]) ?_
  refine Pa.ic (x := 1) (pc' := 25) (by rfl) (by rfl) (by decide) ?_
  refine Pa.mp 1 (pc' := 26) (l' := [(0, .ref 69), (1, .int 10)]) (st' := [.int 3, .ref 69]) (by rfl) ?_
  refine Pa.pfI (by rfl) (by rfl) (.inl rfl) (by rfl) ?_
  show Pa N 251 29 [(0, .ref 69), (1, .int 10)] [] (uI (uI (uI (uI (uI (uI (uI (uI yA 69 85 0) 69 86 yc) 128 0 60) 69 85 1) 128 1 30) 69 85 2) 128 2 10) 69 85 3) _
  refine Pa.vret (by rfl) ?_
  show Pa N 252 42 [(0, .ref 69), (1, .int 0), (2, .int (yx + 1))] [] (uI (uI (uI (uI (uI (uI (uI (uI yA 69 85 0) 69 86 yc) 128 0 60) 69 85 1) 128 1 30) 69 85 2) 128 2 10) 69 85 3) _
  refine Pa.mp 3 (pc' := 45) (l' := [(0, .ref 69), (1, .int 0), (2, .int (yx + 1))]) (st' := [.ref 69, .ref 69, .int (yx + 1)]) (by rfl) ?_
  refine Pa.gfI (v := yc) (by rfl) (by rfl) (.inl rfl) (by rfl) (by show (uI (uI (uI (uI (uI (uI (uI (uI yA 69 85 0) 69 86 yc) 128 0 60) 69 85 1) 128 1 30) 69 85 2) 128 2 10) 69 85 3).1 69 86 = yc; rw [uI_k (by decide), uI_c (by decide), uI_k (by decide), uI_c (by decide), uI_k (by decide), uI_c (by decide), uI_h]) ?_
  refine Pa.mp 1 (pc' := 49) (l' := [(0, .ref 69), (1, .int 0), (2, .int (yx + 1))]) (st' := [.ref 69, .int yc, .ref 69, .int (yx + 1)]) (by rfl) ?_
  refine Pa.gfI (v := yA.1 69 0) (by rfl) (by rfl) (.inl rfl) (by rfl) (by show (uI (uI (uI (uI (uI (uI (uI (uI yA 69 85 0) 69 86 yc) 128 0 60) 69 85 1) 128 1 30) 69 85 2) 128 2 10) 69 85 3).1 69 0 = yA.1 69 0; rw [uI_k (by decide), uI_c (by decide), uI_k (by decide), uI_c (by decide), uI_k (by decide), uI_c (by decide), uI_k (by decide), uI_k (by decide)]) ?_
  refine Pa.inv (by rfl) (by rfl) (.inl rfl) (by rfl) ?_
  refine Pa.mono (c_kof N yA (uI (uI (uI (uI (uI (uI (uI (uI yA 69 85 0) 69 86 yc) 128 0 60) 69 85 1) 128 1 30) 69 85 2) 128 2 10) 69 85 3) yc (yA.1 69 0) (funext fun _ => by repeat rw [uI_c (by decide)]) (funext fun _ => by repeat rw [uI_c (by decide)]) (funext fun _ => by repeat rw [uI_c (by decide)])) (fun yu A1 hu => ?_)
  obtain ⟨rfl, hu⟩ := hu
  rw [hu]
  show Pa N 252 55 [(0, .ref 69), (1, .int 0), (2, .int (yx + 1))] [.int (kofM yA yc (yA.1 69 0)), .int (yx + 1)] (uI (uI (uI (uI (uI (uI (uI (uI yA 69 85 0) 69 86 yc) 128 0 60) 69 85 1) 128 1 30) 69 85 2) 128 2 10) 69 85 3) _
  refine Pa.mp 1 (pc' := 56) (l' := [(0, .ref 69), (1, .int 0), (2, .int (yx + 1))]) (st' := [.int ((yx + 1) + (kofM yA yc (yA.1 69 0)))]) (by rfl) ?_
  refine Pa.iret (by rfl) ?_
  show Pa N 252 72 [(0, .ref 69), (1, .int 2), (2, .int (yx + 1))] [.int ((yx + 1) + (kofM yA yc (yA.1 69 0)))] (uI (uI (uI (uI (uI (uI (uI (uI yA 69 85 0) 69 86 yc) 128 0 60) 69 85 1) 128 1 30) 69 85 2) 128 2 10) 69 85 3) _
  refine Pa.ic (x := 4) (pc' := 73) (by rfl) (by rfl) (by decide) ?_
  refine Pa.mp 1 (pc' := 74) (l' := [(0, .ref 69), (1, .int 2), (2, .int (yx + 1))]) (st' := [.int (((yx + 1) + (kofM yA yc (yA.1 69 0))) - 4)]) (by rfl) ?_
  refine Pa.iret (by rfl) ?_
  show Pa N 252 92 [(0, .ref 69), (1, .int 5), (2, .int yx)] [.int (((yx + 1) + (kofM yA yc (yA.1 69 0))) - 4)] (uI (uI (uI (uI (uI (uI (uI (uI yA 69 85 0) 69 86 yc) 128 0 60) 69 85 1) 128 1 30) 69 85 2) 128 2 10) 69 85 3) _
  refine Pa.iret (by rfl) ?_
  exact l1

theorem bpm0_6 {N : Nat} {yA : AW} {yQ : Option Value → AW → Prop} (yx yc : Int32) (hk : yA.1 89 yc.toInt.toNat = 6)
    (l1 : yQ (some (.int (yx + (kofM yA yc (yA.1 69 0))))) (uI (uI (uI (uI yA 69 85 0) 69 86 yc) 128 0 10) 69 85 1)) :
    Pa N 252 0 [(0, .ref 69), (1, .int 6), (2, .int yx)] [] (uI (uI yA 69 85 0) 69 86 yc) yQ := by
  refine Pa.mp 1 (pc' := 1) (l' := [(0, .ref 69), (1, .int 6), (2, .int yx)]) (st' := [.int 6]) (by rfl) ?_
  refine Pa.mp 1 (pc' := 93) (l' := [(0, .ref 69), (1, .int 6), (2, .int yx)]) (st' := []) (by rfl) ?_
  refine Pa.mp 2 (pc' := 95) (l' := [(0, .ref 69), (1, .int 6), (2, .int yx)]) (st' := [.int 6, .ref 69]) (by rfl) ?_
  refine Pa.ist (by rfl) (by rfl) (.inl rfl) (by rfl) (by rfl) ?_
  show Pa N 250 0 [(0, .int 6)] [] (uI (uI yA 69 85 0) 69 86 yc) _
  refine Pa.mp 1 (pc' := 1) (l' := [(0, .int 6)]) (st' := [.int 6]) (by rfl) ?_
  refine Pa.ic (x := 5) (pc' := 2) (by rfl) (by rfl) (by decide) ?_
  refine Pa.if2k false (by rfl) (by rfl) (by decide) ?_
  show Pa N 250 5 [(0, .int 6)] [] (uI (uI yA 69 85 0) 69 86 yc) _
  refine Pa.mp 1 (pc' := 6) (l' := [(0, .int 6)]) (st' := [.int 6]) (by rfl) ?_
  refine Pa.ic (x := 3) (pc' := 7) (by rfl) (by rfl) (by decide) ?_
  refine Pa.if2k true (by rfl) (by rfl) (by decide) ?_
  show Pa N 250 14 [(0, .int 6)] [] (uI (uI yA 69 85 0) 69 86 yc) _
  refine Pa.mp 1 (pc' := 15) (l' := [(0, .int 6)]) (st' := [.int 6]) (by rfl) ?_
  refine Pa.ic (x := 6) (pc' := 17) (by rfl) (by rfl) (by decide) ?_
  refine Pa.if2k false (by rfl) (by rfl) (by decide) ?_
  show Pa N 250 20 [(0, .int 6)] [] (uI (uI yA 69 85 0) 69 86 yc) _
  refine Pa.ic (x := 4) (pc' := 21) (by rfl) (by rfl) (by decide) ?_
  refine Pa.mp 1 (pc' := 25) (l' := [(0, .int 6)]) (st' := [.int 4]) (by rfl) ?_
  refine Pa.iret (by rfl) ?_
  show Pa N 252 98 [(0, .ref 69), (1, .int 6), (2, .int yx)] [.int 4, .ref 69] (uI (uI yA 69 85 0) 69 86 yc) _
  refine Pa.mp 1 (pc' := 99) (l' := [(0, .ref 69), (1, .int 6), (2, .int yx)]) (st' := [.int yx, .int 4, .ref 69]) (by rfl) ?_
  refine Pa.inv (by rfl) (by rfl) (.inl rfl) (by rfl) ?_
  show Pa N 252 0 [(0, .ref 69), (1, .int 4), (2, .int yx)] [] (uI (uI yA 69 85 0) 69 86 yc) _
  refine Pa.mp 1 (pc' := 1) (l' := [(0, .ref 69), (1, .int 4), (2, .int yx)]) (st' := [.int 4]) (by rfl) ?_
  refine Pa.mp 1 (pc' := 93) (l' := [(0, .ref 69), (1, .int 4), (2, .int yx)]) (st' := []) (by rfl) ?_
  refine Pa.mp 2 (pc' := 95) (l' := [(0, .ref 69), (1, .int 4), (2, .int yx)]) (st' := [.int 4, .ref 69]) (by rfl) ?_
  refine Pa.ist (by rfl) (by rfl) (.inl rfl) (by rfl) (by rfl) ?_
  show Pa N 250 0 [(0, .int 4)] [] (uI (uI yA 69 85 0) 69 86 yc) _
  refine Pa.mp 1 (pc' := 1) (l' := [(0, .int 4)]) (st' := [.int 4]) (by rfl) ?_
  refine Pa.ic (x := 5) (pc' := 2) (by rfl) (by rfl) (by decide) ?_
  refine Pa.if2k false (by rfl) (by rfl) (by decide) ?_
  show Pa N 250 5 [(0, .int 4)] [] (uI (uI yA 69 85 0) 69 86 yc) _
  refine Pa.mp 1 (pc' := 6) (l' := [(0, .int 4)]) (st' := [.int 4]) (by rfl) ?_
  refine Pa.ic (x := 3) (pc' := 7) (by rfl) (by rfl) (by decide) ?_
  refine Pa.if2k true (by rfl) (by rfl) (by decide) ?_
  show Pa N 250 14 [(0, .int 4)] [] (uI (uI yA 69 85 0) 69 86 yc) _
  refine Pa.mp 1 (pc' := 15) (l' := [(0, .int 4)]) (st' := [.int 4]) (by rfl) ?_
  refine Pa.ic (x := 6) (pc' := 17) (by rfl) (by rfl) (by decide) ?_
  refine Pa.if2k true (by rfl) (by rfl) (by decide) ?_
  show Pa N 250 24 [(0, .int 4)] [] (uI (uI yA 69 85 0) 69 86 yc) _
  refine Pa.ic (x := 0) (pc' := 25) (by rfl) (by rfl) (by decide) ?_
  refine Pa.iret (by rfl) ?_
  show Pa N 252 98 [(0, .ref 69), (1, .int 4), (2, .int yx)] [.int 0, .ref 69] (uI (uI yA 69 85 0) 69 86 yc) _
  refine Pa.mp 1 (pc' := 99) (l' := [(0, .ref 69), (1, .int 4), (2, .int yx)]) (st' := [.int yx, .int 0, .ref 69]) (by rfl) ?_
  refine Pa.inv (by rfl) (by rfl) (.inl rfl) (by rfl) ?_
  show Pa N 252 0 [(0, .ref 69), (1, .int 0), (2, .int yx)] [] (uI (uI yA 69 85 0) 69 86 yc) _
  refine Pa.mp 1 (pc' := 1) (l' := [(0, .ref 69), (1, .int 0), (2, .int yx)]) (st' := [.int 0]) (by rfl) ?_
  refine Pa.mp 1 (pc' := 36) (l' := [(0, .ref 69), (1, .int 0), (2, .int yx)]) (st' := []) (by rfl) ?_
  refine Pa.mp 1 (pc' := 37) (l' := [(0, .ref 69), (1, .int 0), (2, .int yx)]) (st' := [.ref 69]) (by rfl) ?_
  refine Pa.ic (x := 10) (pc' := 39) (by rfl) (by rfl) (by decide) ?_
  refine Pa.inv (by rfl) (by rfl) (.inl rfl) (by rfl) ?_
  show Pa N 251 0 [(0, .ref 69), (1, .int 10)] [] (uI (uI yA 69 85 0) 69 86 yc) _
  refine Pa.mp 1 (pc' := 1) (l' := [(0, .ref 69), (1, .int 10)]) (st' := [.ref 69]) (by rfl) ?_
  refine Pa.gfI (v := 0) (by rfl) (by rfl) (.inl rfl) (by rfl) (by show (uI (uI yA 69 85 0) 69 86 yc).1 69 85 = 0; rw [uI_k (by decide), uI_h]) ?_
  refine Pa.ic (x := 24) (pc' := 6) (by rfl) (by rfl) (by decide) ?_
  refine Pa.if2k false (by rfl) (by rfl) (by decide) ?_
  show Pa N 251 9 [(0, .ref 69), (1, .int 10)] [] (uI (uI yA 69 85 0) 69 86 yc) _
  refine Pa.mp 1 (pc' := 10) (l' := [(0, .ref 69), (1, .int 10)]) (st' := [.ref 69]) (by rfl) ?_
  refine Pa.gfR (by rfl) (by rfl) (.inl rfl) (by rfl) ?_
  show Pa N 251 13 [(0, .ref 69), (1, .int 10)] [.ref 128] (uI (uI yA 69 85 0) 69 86 yc) _
  refine Pa.mp 1 (pc' := 14) (l' := [(0, .ref 69), (1, .int 10)]) (st' := [.ref 69, .ref 128]) (by rfl) ?_
  refine Pa.gfI (v := 0) (by rfl) (by rfl) (.inl rfl) (by rfl) (by show (uI (uI yA 69 85 0) 69 86 yc).1 69 85 = 0; rw [uI_k (by decide), uI_h]) ?_
  refine Pa.mp 1 (pc' := 18) (l' := [(0, .ref 69), (1, .int 10)]) (st' := [.int 10, .int 0, .ref 128]) (by rfl) ?_
  refine Pa.asts (j' := 0) (by rfl) (by rfl) (by rfl) (fun h1 h2 => ?_)
  show Pa N 251 19 [(0, .ref 69), (1, .int 10)] [] (uI (uI (uI yA 69 85 0) 69 86 yc) 128 0 10) _
  refine Pa.mp 2 (pc' := 21) (l' := [(0, .ref 69), (1, .int 10)]) (st' := [.ref 69, .ref 69]) (by rfl) ?_
  refine Pa.gfI (v := 0) (by rfl) (by rfl) (.inl rfl) (by rfl) (by show (uI (uI (uI yA 69 85 0) 69 86 yc) 128 0 10).1 69 85 = 0; rw [uI_c (by decide), uI_k (by decide), uI_h]) ?_
  refine Pa.ic (x := 1) (pc' := 25) (by rfl) (by rfl) (by decide) ?_
  refine Pa.mp 1 (pc' := 26) (l' := [(0, .ref 69), (1, .int 10)]) (st' := [.int 1, .ref 69]) (by rfl) ?_
  refine Pa.pfI (by rfl) (by rfl) (.inl rfl) (by rfl) ?_
  show Pa N 251 29 [(0, .ref 69), (1, .int 10)] [] (uI (uI (uI (uI yA 69 85 0) 69 86 yc) 128 0 10) 69 85 1) _
  refine Pa.vret (by rfl) ?_
  show Pa N 252 42 [(0, .ref 69), (1, .int 0), (2, .int yx)] [] (uI (uI (uI (uI yA 69 85 0) 69 86 yc) 128 0 10) 69 85 1) _
  refine Pa.mp 3 (pc' := 45) (l' := [(0, .ref 69), (1, .int 0), (2, .int yx)]) (st' := [.ref 69, .ref 69, .int yx]) (by rfl) ?_
  refine Pa.gfI (v := yc) (by rfl) (by rfl) (.inl rfl) (by rfl) (by show (uI (uI (uI (uI yA 69 85 0) 69 86 yc) 128 0 10) 69 85 1).1 69 86 = yc; rw [uI_k (by decide), uI_c (by decide), uI_h]) ?_
  refine Pa.mp 1 (pc' := 49) (l' := [(0, .ref 69), (1, .int 0), (2, .int yx)]) (st' := [.ref 69, .int yc, .ref 69, .int yx]) (by rfl) ?_
  refine Pa.gfI (v := yA.1 69 0) (by rfl) (by rfl) (.inl rfl) (by rfl) (by show (uI (uI (uI (uI yA 69 85 0) 69 86 yc) 128 0 10) 69 85 1).1 69 0 = yA.1 69 0; rw [uI_k (by decide), uI_c (by decide), uI_k (by decide), uI_k (by decide)]) ?_
  refine Pa.inv (by rfl) (by rfl) (.inl rfl) (by rfl) ?_
  refine Pa.mono (c_kof N yA (uI (uI (uI (uI yA 69 85 0) 69 86 yc) 128 0 10) 69 85 1) yc (yA.1 69 0) (funext fun _ => by repeat rw [uI_c (by decide)]) (funext fun _ => by repeat rw [uI_c (by decide)]) (funext fun _ => by repeat rw [uI_c (by decide)])) (fun yu A1 hu => ?_)
  obtain ⟨rfl, hu⟩ := hu
  rw [hu]
  show Pa N 252 55 [(0, .ref 69), (1, .int 0), (2, .int yx)] [.int (kofM yA yc (yA.1 69 0)), .int yx] (uI (uI (uI (uI yA 69 85 0) 69 86 yc) 128 0 10) 69 85 1) _
  refine Pa.mp 1 (pc' := 56) (l' := [(0, .ref 69), (1, .int 0), (2, .int yx)]) (st' := [.int (yx + (kofM yA yc (yA.1 69 0)))]) (by rfl) ?_
  refine Pa.iret (by rfl) ?_
  show Pa N 252 102 [(0, .ref 69), (1, .int 4), (2, .int yx)] [.int (yx + (kofM yA yc (yA.1 69 0)))] (uI (uI (uI (uI yA 69 85 0) 69 86 yc) 128 0 10) 69 85 1) _
  refine Pa.iret (by rfl) ?_
  show Pa N 252 102 [(0, .ref 69), (1, .int 6), (2, .int yx)] [.int (yx + (kofM yA yc (yA.1 69 0)))] (uI (uI (uI (uI yA 69 85 0) 69 86 yc) 128 0 10) 69 85 1) _
  refine Pa.iret (by rfl) ?_
  exact l1

theorem bpm1_1 {N : Nat} {yA : AW} {yQ : Option Value → AW → Prop} (yx yc : Int32) (hk : yA.1 89 yc.toInt.toNat = 1)
    (l1 : 0 ≤ yc.toInt → yc.toInt < 150 → yQ (some (.int (((yx + (kofM yA yc (yA.1 69 0))) * 2) ^^^ 9))) (uI (uI (uI (uI (uI (uI (uI (uI yA 69 85 0) 69 86 yc) 128 0 20) 69 85 1) 128 1 11) 69 85 2) 128 2 10) 69 85 3)) :
    Pa N 253 0 [(0, .ref 69), (1, .int 1), (2, .int yx)] [] (uI (uI yA 69 85 0) 69 86 yc) yQ := by
  refine Pa.mp 1 (pc' := 1) (l' := [(0, .ref 69), (1, .int 1), (2, .int yx)]) (st' := [.int 1]) (by rfl) ?_
  refine Pa.mp 1 (pc' := 67) (l' := [(0, .ref 69), (1, .int 1), (2, .int yx)]) (st' := []) (by rfl) ?_
  refine Pa.mp 1 (pc' := 68) (l' := [(0, .ref 69), (1, .int 1), (2, .int yx)]) (st' := [.ref 69]) (by rfl) ?_
  refine Pa.ic (x := 20) (pc' := 70) (by rfl) (by rfl) (by decide) ?_
  refine Pa.inv (by rfl) (by rfl) (.inl rfl) (by rfl) ?_
  show Pa N 251 0 [(0, .ref 69), (1, .int 20)] [] (uI (uI yA 69 85 0) 69 86 yc) _
  refine Pa.mp 1 (pc' := 1) (l' := [(0, .ref 69), (1, .int 20)]) (st' := [.ref 69]) (by rfl) ?_
  refine Pa.gfI (v := 0) (by rfl) (by rfl) (.inl rfl) (by rfl) (by show (uI (uI yA 69 85 0) 69 86 yc).1 69 85 = 0; rw [uI_k (by decide), uI_h]) ?_
  refine Pa.ic (x := 24) (pc' := 6) (by rfl) (by rfl) (by decide) ?_
  refine Pa.if2k false (by rfl) (by rfl) (by decide) ?_
  show Pa N 251 9 [(0, .ref 69), (1, .int 20)] [] (uI (uI yA 69 85 0) 69 86 yc) _
  refine Pa.mp 1 (pc' := 10) (l' := [(0, .ref 69), (1, .int 20)]) (st' := [.ref 69]) (by rfl) ?_
  refine Pa.gfR (by rfl) (by rfl) (.inl rfl) (by rfl) ?_
  show Pa N 251 13 [(0, .ref 69), (1, .int 20)] [.ref 128] (uI (uI yA 69 85 0) 69 86 yc) _
  refine Pa.mp 1 (pc' := 14) (l' := [(0, .ref 69), (1, .int 20)]) (st' := [.ref 69, .ref 128]) (by rfl) ?_
  refine Pa.gfI (v := 0) (by rfl) (by rfl) (.inl rfl) (by rfl) (by show (uI (uI yA 69 85 0) 69 86 yc).1 69 85 = 0; rw [uI_k (by decide), uI_h]) ?_
  refine Pa.mp 1 (pc' := 18) (l' := [(0, .ref 69), (1, .int 20)]) (st' := [.int 20, .int 0, .ref 128]) (by rfl) ?_
  refine Pa.asts (j' := 0) (by rfl) (by rfl) (by rfl) (fun h1 h2 => ?_)
  show Pa N 251 19 [(0, .ref 69), (1, .int 20)] [] (uI (uI (uI yA 69 85 0) 69 86 yc) 128 0 20) _
  refine Pa.mp 2 (pc' := 21) (l' := [(0, .ref 69), (1, .int 20)]) (st' := [.ref 69, .ref 69]) (by rfl) ?_
  refine Pa.gfI (v := 0) (by rfl) (by rfl) (.inl rfl) (by rfl) (by show (uI (uI (uI yA 69 85 0) 69 86 yc) 128 0 20).1 69 85 = 0; rw [uI_c (by decide), uI_k (by decide), uI_h]) ?_
  refine Pa.ic (x := 1) (pc' := 25) (by rfl) (by rfl) (by decide) ?_
  refine Pa.mp 1 (pc' := 26) (l' := [(0, .ref 69), (1, .int 20)]) (st' := [.int 1, .ref 69]) (by rfl) ?_
  refine Pa.pfI (by rfl) (by rfl) (.inl rfl) (by rfl) ?_
  show Pa N 251 29 [(0, .ref 69), (1, .int 20)] [] (uI (uI (uI (uI yA 69 85 0) 69 86 yc) 128 0 20) 69 85 1) _
  refine Pa.vret (by rfl) ?_
  show Pa N 253 73 [(0, .ref 69), (1, .int 1), (2, .int yx)] [] (uI (uI (uI (uI yA 69 85 0) 69 86 yc) 128 0 20) 69 85 1) _
  refine Pa.mp 1 (pc' := 74) (l' := [(0, .ref 69), (1, .int 1), (2, .int yx)]) (st' := [.ref 69]) (by rfl) ?_
  refine Pa.ic (x := 1) (pc' := 75) (by rfl) (by rfl) (by decide) ?_
  refine Pa.ist (by rfl) (by rfl) (.inl rfl) (by rfl) (by rfl) ?_
  show Pa N 250 0 [(0, .int 1)] [] (uI (uI (uI (uI yA 69 85 0) 69 86 yc) 128 0 20) 69 85 1) _
  refine Pa.mp 1 (pc' := 1) (l' := [(0, .int 1)]) (st' := [.int 1]) (by rfl) ?_
  refine Pa.ic (x := 5) (pc' := 2) (by rfl) (by rfl) (by decide) ?_
  refine Pa.if2k false (by rfl) (by rfl) (by decide) ?_
  show Pa N 250 5 [(0, .int 1)] [] (uI (uI (uI (uI yA 69 85 0) 69 86 yc) 128 0 20) 69 85 1) _
  refine Pa.mp 1 (pc' := 6) (l' := [(0, .int 1)]) (st' := [.int 1]) (by rfl) ?_
  refine Pa.ic (x := 3) (pc' := 7) (by rfl) (by rfl) (by decide) ?_
  refine Pa.if2k true (by rfl) (by rfl) (by decide) ?_
  show Pa N 250 14 [(0, .int 1)] [] (uI (uI (uI (uI yA 69 85 0) 69 86 yc) 128 0 20) 69 85 1) _
  refine Pa.mp 1 (pc' := 15) (l' := [(0, .int 1)]) (st' := [.int 1]) (by rfl) ?_
  refine Pa.ic (x := 6) (pc' := 17) (by rfl) (by rfl) (by decide) ?_
  refine Pa.if2k true (by rfl) (by rfl) (by decide) ?_
  show Pa N 250 24 [(0, .int 1)] [] (uI (uI (uI (uI yA 69 85 0) 69 86 yc) 128 0 20) 69 85 1) _
  refine Pa.ic (x := 0) (pc' := 25) (by rfl) (by rfl) (by decide) ?_
  refine Pa.iret (by rfl) ?_
  show Pa N 253 78 [(0, .ref 69), (1, .int 1), (2, .int yx)] [.int 0, .ref 69] (uI (uI (uI (uI yA 69 85 0) 69 86 yc) 128 0 20) 69 85 1) _
  refine Pa.mp 1 (pc' := 79) (l' := [(0, .ref 69), (1, .int 1), (2, .int yx)]) (st' := [.int yx, .int 0, .ref 69]) (by rfl) ?_
  refine Pa.inv (by rfl) (by rfl) (.inl rfl) (by rfl) ?_
  show Pa N 253 0 [(0, .ref 69), (1, .int 0), (2, .int yx)] [] (uI (uI (uI (uI yA 69 85 0) 69 86 yc) 128 0 20) 69 85 1) _
  refine Pa.mp 1 (pc' := 1) (l' := [(0, .ref 69), (1, .int 0), (2, .int yx)]) (st' := [.int 0]) (by rfl) ?_
  refine Pa.mp 1 (pc' := 44) (l' := [(0, .ref 69), (1, .int 0), (2, .int yx)]) (st' := []) (by rfl) ?_
  refine Pa.mp 1 (pc' := 45) (l' := [(0, .ref 69), (1, .int 0), (2, .int yx)]) (st' := [.ref 69]) (by rfl) ?_
  refine Pa.ic (x := 11) (pc' := 47) (by rfl) (by rfl) (by decide) ?_
  refine Pa.inv (by rfl) (by rfl) (.inl rfl) (by rfl) ?_
  show Pa N 251 0 [(0, .ref 69), (1, .int 11)] [] (uI (uI (uI (uI yA 69 85 0) 69 86 yc) 128 0 20) 69 85 1) _
  refine Pa.mp 1 (pc' := 1) (l' := [(0, .ref 69), (1, .int 11)]) (st' := [.ref 69]) (by rfl) ?_
  refine Pa.gfI (v := 1) (by rfl) (by rfl) (.inl rfl) (by rfl) (by show (uI (uI (uI (uI yA 69 85 0) 69 86 yc) 128 0 20) 69 85 1).1 69 85 = 1; rw [uI_h]) ?_
  refine Pa.ic (x := 24) (pc' := 6) (by rfl) (by rfl) (by decide) ?_
  refine Pa.if2k false (by rfl) (by rfl) (by decide) ?_
  show Pa N 251 9 [(0, .ref 69), (1, .int 11)] [] (uI (uI (uI (uI yA 69 85 0) 69 86 yc) 128 0 20) 69 85 1) _
  refine Pa.mp 1 (pc' := 10) (l' := [(0, .ref 69), (1, .int 11)]) (st' := [.ref 69]) (by rfl) ?_
  refine Pa.gfR (by rfl) (by rfl) (.inl rfl) (by rfl) ?_
  show Pa N 251 13 [(0, .ref 69), (1, .int 11)] [.ref 128] (uI (uI (uI (uI yA 69 85 0) 69 86 yc) 128 0 20) 69 85 1) _
  refine Pa.mp 1 (pc' := 14) (l' := [(0, .ref 69), (1, .int 11)]) (st' := [.ref 69, .ref 128]) (by rfl) ?_
  refine Pa.gfI (v := 1) (by rfl) (by rfl) (.inl rfl) (by rfl) (by show (uI (uI (uI (uI yA 69 85 0) 69 86 yc) 128 0 20) 69 85 1).1 69 85 = 1; rw [uI_h]) ?_
  refine Pa.mp 1 (pc' := 18) (l' := [(0, .ref 69), (1, .int 11)]) (st' := [.int 11, .int 1, .ref 128]) (by rfl) ?_
  refine Pa.asts (j' := 1) (by rfl) (by rfl) (by rfl) (fun h3 h4 => ?_)
  show Pa N 251 19 [(0, .ref 69), (1, .int 11)] [] (uI (uI (uI (uI (uI yA 69 85 0) 69 86 yc) 128 0 20) 69 85 1) 128 1 11) _
  refine Pa.mp 2 (pc' := 21) (l' := [(0, .ref 69), (1, .int 11)]) (st' := [.ref 69, .ref 69]) (by rfl) ?_
  refine Pa.gfI (v := 1) (by rfl) (by rfl) (.inl rfl) (by rfl) (by show (uI (uI (uI (uI (uI yA 69 85 0) 69 86 yc) 128 0 20) 69 85 1) 128 1 11).1 69 85 = 1; rw [uI_c (by decide), uI_h]) ?_
  refine Pa.ic (x := 1) (pc' := 25) (by rfl) (by rfl) (by decide) ?_
  refine Pa.mp 1 (pc' := 26) (l' := [(0, .ref 69), (1, .int 11)]) (st' := [.int 2, .ref 69]) (by rfl) ?_
  refine Pa.pfI (by rfl) (by rfl) (.inl rfl) (by rfl) ?_
  show Pa N 251 29 [(0, .ref 69), (1, .int 11)] [] (uI (uI (uI (uI (uI (uI yA 69 85 0) 69 86 yc) 128 0 20) 69 85 1) 128 1 11) 69 85 2) _
  refine Pa.vret (by rfl) ?_
  show Pa N 253 50 [(0, .ref 69), (1, .int 0), (2, .int yx)] [] (uI (uI (uI (uI (uI (uI yA 69 85 0) 69 86 yc) 128 0 20) 69 85 1) 128 1 11) 69 85 2) _
  refine Pa.mp 2 (pc' := 52) (l' := [(0, .ref 69), (1, .int 0), (2, .int yx)]) (st' := [.ref 69, .ref 69]) (by rfl) ?_
  refine Pa.gfR (by rfl) (by rfl) (.inl rfl) (by rfl) ?_
  show Pa N 253 55 [(0, .ref 69), (1, .int 0), (2, .int yx)] [.ref 89, .ref 69] (uI (uI (uI (uI (uI (uI yA 69 85 0) 69 86 yc) 128 0 20) 69 85 1) 128 1 11) 69 85 2) _
  refine Pa.mp 1 (pc' := 56) (l' := [(0, .ref 69), (1, .int 0), (2, .int yx)]) (st' := [.ref 69, .ref 89, .ref 69]) (by rfl) ?_
  refine Pa.gfI (v := yc) (by rfl) (by rfl) (.inl rfl) (by rfl) (by show (uI (uI (uI (uI (uI (uI yA 69 85 0) 69 86 yc) 128 0 20) 69 85 1) 128 1 11) 69 85 2).1 69 86 = yc; rw [uI_k (by decide), uI_c (by decide), uI_k (by decide), uI_c (by decide), uI_h]) ?_
  refine Pa.alds (v := 1) (by rfl) (by rfl) (by show (uI (uI (uI (uI (uI (uI yA 69 85 0) 69 86 yc) 128 0 20) 69 85 1) 128 1 11) 69 85 2).1 89 yc.toInt.toNat = 1; rw [uI_c (by decide), uI_c (by decide), uI_c (by decide), uI_c (by decide), uI_c (by decide), uI_c (by decide), hk]) (fun h5 h6 => ?_)
  have h5 : 0 ≤ yc.toInt := h5
  have h6 : yc.toInt < 150 := h6
  refine Pa.mp 1 (pc' := 61) (l' := [(0, .ref 69), (1, .int 0), (2, .int yx)]) (st' := [.int yx, .int 1, .ref 69]) (by rfl) ?_
  refine Pa.inv (by rfl) (by rfl) (.inl rfl) (by rfl) ?_
  show Pa N 252 0 [(0, .ref 69), (1, .int 1), (2, .int yx)] [] (uI (uI (uI (uI (uI (uI yA 69 85 0) 69 86 yc) 128 0 20) 69 85 1) 128 1 11) 69 85 2) _
  refine Pa.mp 1 (pc' := 1) (l' := [(0, .ref 69), (1, .int 1), (2, .int yx)]) (st' := [.int 1]) (by rfl) ?_
  refine Pa.mp 1 (pc' := 93) (l' := [(0, .ref 69), (1, .int 1), (2, .int yx)]) (st' := []) (by rfl) ?_
  refine Pa.mp 2 (pc' := 95) (l' := [(0, .ref 69), (1, .int 1), (2, .int yx)]) (st' := [.int 1, .ref 69]) (by rfl) ?_
  refine Pa.ist (by rfl) (by rfl) (.inl rfl) (by rfl) (by rfl) ?_
  show Pa N 250 0 [(0, .int 1)] [] (uI (uI (uI (uI (uI (uI yA 69 85 0) 69 86 yc) 128 0 20) 69 85 1) 128 1 11) 69 85 2) _
  refine Pa.mp 1 (pc' := 1) (l' := [(0, .int 1)]) (st' := [.int 1]) (by rfl) ?_
  refine Pa.ic (x := 5) (pc' := 2) (by rfl) (by rfl) (by decide) ?_
  refine Pa.if2k false (by rfl) (by rfl) (by decide) ?_
  show Pa N 250 5 [(0, .int 1)] [] (uI (uI (uI (uI (uI (uI yA 69 85 0) 69 86 yc) 128 0 20) 69 85 1) 128 1 11) 69 85 2) _
  refine Pa.mp 1 (pc' := 6) (l' := [(0, .int 1)]) (st' := [.int 1]) (by rfl) ?_
  refine Pa.ic (x := 3) (pc' := 7) (by rfl) (by rfl) (by decide) ?_
  refine Pa.if2k true (by rfl) (by rfl) (by decide) ?_
  show Pa N 250 14 [(0, .int 1)] [] (uI (uI (uI (uI (uI (uI yA 69 85 0) 69 86 yc) 128 0 20) 69 85 1) 128 1 11) 69 85 2) _
  refine Pa.mp 1 (pc' := 15) (l' := [(0, .int 1)]) (st' := [.int 1]) (by rfl) ?_
  refine Pa.ic (x := 6) (pc' := 17) (by rfl) (by rfl) (by decide) ?_
  refine Pa.if2k true (by rfl) (by rfl) (by decide) ?_
  show Pa N 250 24 [(0, .int 1)] [] (uI (uI (uI (uI (uI (uI yA 69 85 0) 69 86 yc) 128 0 20) 69 85 1) 128 1 11) 69 85 2) _
  refine Pa.ic (x := 0) (pc' := 25) (by rfl) (by rfl) (by decide) ?_
  refine Pa.iret (by rfl) ?_
  show Pa N 252 98 [(0, .ref 69), (1, .int 1), (2, .int yx)] [.int 0, .ref 69] (uI (uI (uI (uI (uI (uI yA 69 85 0) 69 86 yc) 128 0 20) 69 85 1) 128 1 11) 69 85 2) _
  refine Pa.mp 1 (pc' := 99) (l' := [(0, .ref 69), (1, .int 1), (2, .int yx)]) (st' := [.int yx, .int 0, .ref 69]) (by rfl) ?_
  refine Pa.inv (by rfl) (by rfl) (.inl rfl) (by rfl) ?_
  show Pa N 252 0 [(0, .ref 69), (1, .int 0), (2, .int yx)] [] (uI (uI (uI (uI (uI (uI yA 69 85 0) 69 86 yc) 128 0 20) 69 85 1) 128 1 11) 69 85 2) _
  refine Pa.mp 1 (pc' := 1) (l' := [(0, .ref 69), (1, .int 0), (2, .int yx)]) (st' := [.int 0]) (by rfl) ?_
  refine Pa.mp 1 (pc' := 36) (l' := [(0, .ref 69), (1, .int 0), (2, .int yx)]) (st' := []) (by rfl) ?_
  refine Pa.mp 1 (pc' := 37) (l' := [(0, .ref 69), (1, .int 0), (2, .int yx)]) (st' := [.ref 69]) (by rfl) ?_
  refine Pa.ic (x := 10) (pc' := 39) (by rfl) (by rfl) (by decide) ?_
  refine Pa.inv (by rfl) (by rfl) (.inl rfl) (by rfl) ?_
  show Pa N 251 0 [(0, .ref 69), (1, .int 10)] [] (uI (uI (uI (uI (uI (uI yA 69 85 0) 69 86 yc) 128 0 20) 69 85 1) 128 1 11) 69 85 2) _
  refine Pa.mp 1 (pc' := 1) (l' := [(0, .ref 69), (1, .int 10)]) (st' := [.ref 69]) (by rfl) ?_
  refine Pa.gfI (v := 2) (by rfl) (by rfl) (.inl rfl) (by rfl) (by show (uI (uI (uI (uI (uI (uI yA 69 85 0) 69 86 yc) 128 0 20) 69 85 1) 128 1 11) 69 85 2).1 69 85 = 2; rw [uI_h]) ?_
  refine Pa.ic (x := 24) (pc' := 6) (by rfl) (by rfl) (by decide) ?_
  refine Pa.if2k false (by rfl) (by rfl) (by decide) ?_
  show Pa N 251 9 [(0, .ref 69), (1, .int 10)] [] (uI (uI (uI (uI (uI (uI yA 69 85 0) 69 86 yc) 128 0 20) 69 85 1) 128 1 11) 69 85 2) _
  refine Pa.mp 1 (pc' := 10) (l' := [(0, .ref 69), (1, .int 10)]) (st' := [.ref 69]) (by rfl) ?_
  refine Pa.gfR (by rfl) (by rfl) (.inl rfl) (by rfl) ?_
  show Pa N 251 13 [(0, .ref 69), (1, .int 10)] [.ref 128] (uI (uI (uI (uI (uI (uI yA 69 85 0) 69 86 yc) 128 0 20) 69 85 1) 128 1 11) 69 85 2) _
  refine Pa.mp 1 (pc' := 14) (l' := [(0, .ref 69), (1, .int 10)]) (st' := [.ref 69, .ref 128]) (by rfl) ?_
  refine Pa.gfI (v := 2) (by rfl) (by rfl) (.inl rfl) (by rfl) (by show (uI (uI (uI (uI (uI (uI yA 69 85 0) 69 86 yc) 128 0 20) 69 85 1) 128 1 11) 69 85 2).1 69 85 = 2; rw [uI_h]) ?_
  refine Pa.mp 1 (pc' := 18) (l' := [(0, .ref 69), (1, .int 10)]) (st' := [.int 10, .int 2, .ref 128]) (by rfl) ?_
  refine Pa.asts (j' := 2) (by rfl) (by rfl) (by rfl) (fun h7 h8 => ?_)
  show Pa N 251 19 [(0, .ref 69), (1, .int 10)] [] (uI (uI (uI (uI (uI (uI (uI yA 69 85 0) 69 86 yc) 128 0 20) 69 85 1) 128 1 11) 69 85 2) 128 2 10) _
  refine Pa.mp 2 (pc' := 21) (l' := [(0, .ref 69), (1, .int 10)]) (st' := [.ref 69, .ref 69]) (by rfl) ?_
  refine Pa.gfI (v := 2) (by rfl) (by rfl) (.inl rfl) (by rfl) (by show (uI (uI (uI (uI (uI (uI (uI yA 69 85 0) 69 86 yc) 128 0 20) 69 85 1) 128 1 11) 69 85 2) 128 2 10).1 69 85 = 2; rw [uI_c (by decide), uI_h]) ?_
  refine Pa.ic (x := 1) (pc' := 25) (by rfl) (by rfl) (by decide) ?_
  refine Pa.mp 1 (pc' := 26) (l' := [(0, .ref 69), (1, .int 10)]) (st' := [.int 3, .ref 69]) (by rfl) ?_
  refine Pa.pfI (by rfl) (by rfl) (.inl rfl) (by rfl) ?_
  show Pa N 251 29 [(0, .ref 69), (1, .int 10)] [] (uI (uI (uI (uI (uI (uI (uI (uI yA 69 85 0) 69 86 yc) 128 0 20) 69 85 1) 128 1 11) 69 85 2) 128 2 10) 69 85 3) _
  refine Pa.vret (by rfl) ?_
  show Pa N 252 42 [(0, .ref 69), (1, .int 0), (2, .int yx)] [] (uI (uI (uI (uI (uI (uI (uI (uI yA 69 85 0) 69 86 yc) 128 0 20) 69 85 1) 128 1 11) 69 85 2) 128 2 10) 69 85 3) _
  refine Pa.mp 3 (pc' := 45) (l' := [(0, .ref 69), (1, .int 0), (2, .int yx)]) (st' := [.ref 69, .ref 69, .int yx]) (by rfl) ?_
  refine Pa.gfI (v := yc) (by rfl) (by rfl) (.inl rfl) (by rfl) (by show (uI (uI (uI (uI (uI (uI (uI (uI yA 69 85 0) 69 86 yc) 128 0 20) 69 85 1) 128 1 11) 69 85 2) 128 2 10) 69 85 3).1 69 86 = yc; rw [uI_k (by decide), uI_c (by decide), uI_k (by decide), uI_c (by decide), uI_k (by decide), uI_c (by decide), uI_h]) ?_
  refine Pa.mp 1 (pc' := 49) (l' := [(0, .ref 69), (1, .int 0), (2, .int yx)]) (st' := [.ref 69, .int yc, .ref 69, .int yx]) (by rfl) ?_
  refine Pa.gfI (v := yA.1 69 0) (by rfl) (by rfl) (.inl rfl) (by rfl) (by show (uI (uI (uI (uI (uI (uI (uI (uI yA 69 85 0) 69 86 yc) 128 0 20) 69 85 1) 128 1 11) 69 85 2) 128 2 10) 69 85 3).1 69 0 = yA.1 69 0; rw [uI_k (by decide), uI_c (by decide), uI_k (by decide), uI_c (by decide), uI_k (by decide), uI_c (by decide), uI_k (by decide), uI_k (by decide)]) ?_
  refine Pa.inv (by rfl) (by rfl) (.inl rfl) (by rfl) ?_
  refine Pa.mono (c_kof N yA (uI (uI (uI (uI (uI (uI (uI (uI yA 69 85 0) 69 86 yc) 128 0 20) 69 85 1) 128 1 11) 69 85 2) 128 2 10) 69 85 3) yc (yA.1 69 0) (funext fun _ => by repeat rw [uI_c (by decide)]) (funext fun _ => by repeat rw [uI_c (by decide)]) (funext fun _ => by repeat rw [uI_c (by decide)])) (fun yu A1 hu => ?_)
  obtain ⟨rfl, hu⟩ := hu
  rw [hu]
  show Pa N 252 55 [(0, .ref 69), (1, .int 0), (2, .int yx)] [.int (kofM yA yc (yA.1 69 0)), .int yx] (uI (uI (uI (uI (uI (uI (uI (uI yA 69 85 0) 69 86 yc) 128 0 20) 69 85 1) 128 1 11) 69 85 2) 128 2 10) 69 85 3) _
  refine Pa.mp 1 (pc' := 56) (l' := [(0, .ref 69), (1, .int 0), (2, .int yx)]) (st' := [.int (yx + (kofM yA yc (yA.1 69 0)))]) (by rfl) ?_
  refine Pa.iret (by rfl) ?_
  show Pa N 252 102 [(0, .ref 69), (1, .int 1), (2, .int yx)] [.int (yx + (kofM yA yc (yA.1 69 0)))] (uI (uI (uI (uI (uI (uI (uI (uI yA 69 85 0) 69 86 yc) 128 0 20) 69 85 1) 128 1 11) 69 85 2) 128 2 10) 69 85 3) _
  refine Pa.iret (by rfl) ?_
  show Pa N 253 64 [(0, .ref 69), (1, .int 0), (2, .int yx)] [.int (yx + (kofM yA yc (yA.1 69 0)))] (uI (uI (uI (uI (uI (uI (uI (uI yA 69 85 0) 69 86 yc) 128 0 20) 69 85 1) 128 1 11) 69 85 2) 128 2 10) 69 85 3) _
  refine Pa.ic (x := 2) (pc' := 65) (by rfl) (by rfl) (by decide) ?_
  refine Pa.mp 1 (pc' := 66) (l' := [(0, .ref 69), (1, .int 0), (2, .int yx)]) (st' := [.int ((yx + (kofM yA yc (yA.1 69 0))) * 2)]) (by rfl) ?_
  refine Pa.iret (by rfl) ?_
  show Pa N 253 82 [(0, .ref 69), (1, .int 1), (2, .int yx)] [.int ((yx + (kofM yA yc (yA.1 69 0))) * 2)] (uI (uI (uI (uI (uI (uI (uI (uI yA 69 85 0) 69 86 yc) 128 0 20) 69 85 1) 128 1 11) 69 85 2) 128 2 10) 69 85 3) _
  refine Pa.ic (x := 9) (pc' := 84) (by rfl) (by rfl) (by decide) ?_
  refine Pa.mp 1 (pc' := 85) (l' := [(0, .ref 69), (1, .int 1), (2, .int yx)]) (st' := [.int (((yx + (kofM yA yc (yA.1 69 0))) * 2) ^^^ 9)]) (by rfl) ?_
  refine Pa.iret (by rfl) ?_
  exact l1 h5 h6

theorem bpm1_2 {N : Nat} {yA : AW} {yQ : Option Value → AW → Prop} (yx yc : Int32) (hk : yA.1 89 yc.toInt.toNat = 2)
    (l1 : 0 ≤ yc.toInt → yc.toInt < 150 → yQ (some (.int (((yx + (kofM yA yc (yA.1 69 0))) - 4) * 2))) (uI (uI (uI (uI (uI (uI (uI (uI yA 69 85 0) 69 86 yc) 128 0 11) 69 85 1) 128 1 30) 69 85 2) 128 2 10) 69 85 3)) :
    Pa N 253 0 [(0, .ref 69), (1, .int 2), (2, .int yx)] [] (uI (uI yA 69 85 0) 69 86 yc) yQ := by
  refine Pa.mp 1 (pc' := 1) (l' := [(0, .ref 69), (1, .int 2), (2, .int yx)]) (st' := [.int 2]) (by rfl) ?_
  refine Pa.mp 1 (pc' := 137) (l' := [(0, .ref 69), (1, .int 2), (2, .int yx)]) (st' := []) (by rfl) ?_
  refine Pa.mp 2 (pc' := 139) (l' := [(0, .ref 69), (1, .int 2), (2, .int yx)]) (st' := [.int 2, .ref 69]) (by rfl) ?_
  refine Pa.ist (by rfl) (by rfl) (.inl rfl) (by rfl) (by rfl) ?_
  show Pa N 250 0 [(0, .int 2)] [] (uI (uI yA 69 85 0) 69 86 yc) _
  refine Pa.mp 1 (pc' := 1) (l' := [(0, .int 2)]) (st' := [.int 2]) (by rfl) ?_
  refine Pa.ic (x := 5) (pc' := 2) (by rfl) (by rfl) (by decide) ?_
  refine Pa.if2k false (by rfl) (by rfl) (by decide) ?_
  show Pa N 250 5 [(0, .int 2)] [] (uI (uI yA 69 85 0) 69 86 yc) _
  refine Pa.mp 1 (pc' := 6) (l' := [(0, .int 2)]) (st' := [.int 2]) (by rfl) ?_
  refine Pa.ic (x := 3) (pc' := 7) (by rfl) (by rfl) (by decide) ?_
  refine Pa.if2k true (by rfl) (by rfl) (by decide) ?_
  show Pa N 250 14 [(0, .int 2)] [] (uI (uI yA 69 85 0) 69 86 yc) _
  refine Pa.mp 1 (pc' := 15) (l' := [(0, .int 2)]) (st' := [.int 2]) (by rfl) ?_
  refine Pa.ic (x := 6) (pc' := 17) (by rfl) (by rfl) (by decide) ?_
  refine Pa.if2k true (by rfl) (by rfl) (by decide) ?_
  show Pa N 250 24 [(0, .int 2)] [] (uI (uI yA 69 85 0) 69 86 yc) _
  refine Pa.ic (x := 0) (pc' := 25) (by rfl) (by rfl) (by decide) ?_
  refine Pa.iret (by rfl) ?_
  show Pa N 253 142 [(0, .ref 69), (1, .int 2), (2, .int yx)] [.int 0, .ref 69] (uI (uI yA 69 85 0) 69 86 yc) _
  refine Pa.mp 1 (pc' := 143) (l' := [(0, .ref 69), (1, .int 2), (2, .int yx)]) (st' := [.int yx, .int 0, .ref 69]) (by rfl) ?_
  refine Pa.inv (by rfl) (by rfl) (.inl rfl) (by rfl) ?_
  show Pa N 253 0 [(0, .ref 69), (1, .int 0), (2, .int yx)] [] (uI (uI yA 69 85 0) 69 86 yc) _
  refine Pa.mp 1 (pc' := 1) (l' := [(0, .ref 69), (1, .int 0), (2, .int yx)]) (st' := [.int 0]) (by rfl) ?_
  refine Pa.mp 1 (pc' := 44) (l' := [(0, .ref 69), (1, .int 0), (2, .int yx)]) (st' := []) (by rfl) ?_
  refine Pa.mp 1 (pc' := 45) (l' := [(0, .ref 69), (1, .int 0), (2, .int yx)]) (st' := [.ref 69]) (by rfl) ?_
  refine Pa.ic (x := 11) (pc' := 47) (by rfl) (by rfl) (by decide) ?_
  refine Pa.inv (by rfl) (by rfl) (.inl rfl) (by rfl) ?_
  show Pa N 251 0 [(0, .ref 69), (1, .int 11)] [] (uI (uI yA 69 85 0) 69 86 yc) _
  refine Pa.mp 1 (pc' := 1) (l' := [(0, .ref 69), (1, .int 11)]) (st' := [.ref 69]) (by rfl) ?_
  refine Pa.gfI (v := 0) (by rfl) (by rfl) (.inl rfl) (by rfl) (by show (uI (uI yA 69 85 0) 69 86 yc).1 69 85 = 0; rw [uI_k (by decide), uI_h]) ?_
  refine Pa.ic (x := 24) (pc' := 6) (by rfl) (by rfl) (by decide) ?_
  refine Pa.if2k false (by rfl) (by rfl) (by decide) ?_
  show Pa N 251 9 [(0, .ref 69), (1, .int 11)] [] (uI (uI yA 69 85 0) 69 86 yc) _
  refine Pa.mp 1 (pc' := 10) (l' := [(0, .ref 69), (1, .int 11)]) (st' := [.ref 69]) (by rfl) ?_
  refine Pa.gfR (by rfl) (by rfl) (.inl rfl) (by rfl) ?_
  show Pa N 251 13 [(0, .ref 69), (1, .int 11)] [.ref 128] (uI (uI yA 69 85 0) 69 86 yc) _
  refine Pa.mp 1 (pc' := 14) (l' := [(0, .ref 69), (1, .int 11)]) (st' := [.ref 69, .ref 128]) (by rfl) ?_
  refine Pa.gfI (v := 0) (by rfl) (by rfl) (.inl rfl) (by rfl) (by show (uI (uI yA 69 85 0) 69 86 yc).1 69 85 = 0; rw [uI_k (by decide), uI_h]) ?_
  refine Pa.mp 1 (pc' := 18) (l' := [(0, .ref 69), (1, .int 11)]) (st' := [.int 11, .int 0, .ref 128]) (by rfl) ?_
  refine Pa.asts (j' := 0) (by rfl) (by rfl) (by rfl) (fun h1 h2 => ?_)
  show Pa N 251 19 [(0, .ref 69), (1, .int 11)] [] (uI (uI (uI yA 69 85 0) 69 86 yc) 128 0 11) _
  refine Pa.mp 2 (pc' := 21) (l' := [(0, .ref 69), (1, .int 11)]) (st' := [.ref 69, .ref 69]) (by rfl) ?_
  refine Pa.gfI (v := 0) (by rfl) (by rfl) (.inl rfl) (by rfl) (by show (uI (uI (uI yA 69 85 0) 69 86 yc) 128 0 11).1 69 85 = 0; rw [uI_c (by decide), uI_k (by decide), uI_h]) ?_
  refine Pa.ic (x := 1) (pc' := 25) (by rfl) (by rfl) (by decide) ?_
  refine Pa.mp 1 (pc' := 26) (l' := [(0, .ref 69), (1, .int 11)]) (st' := [.int 1, .ref 69]) (by rfl) ?_
  refine Pa.pfI (by rfl) (by rfl) (.inl rfl) (by rfl) ?_
  show Pa N 251 29 [(0, .ref 69), (1, .int 11)] [] (uI (uI (uI (uI yA 69 85 0) 69 86 yc) 128 0 11) 69 85 1) _
  refine Pa.vret (by rfl) ?_
  show Pa N 253 50 [(0, .ref 69), (1, .int 0), (2, .int yx)] [] (uI (uI (uI (uI yA 69 85 0) 69 86 yc) 128 0 11) 69 85 1) _
  refine Pa.mp 2 (pc' := 52) (l' := [(0, .ref 69), (1, .int 0), (2, .int yx)]) (st' := [.ref 69, .ref 69]) (by rfl) ?_
  refine Pa.gfR (by rfl) (by rfl) (.inl rfl) (by rfl) ?_
  show Pa N 253 55 [(0, .ref 69), (1, .int 0), (2, .int yx)] [.ref 89, .ref 69] (uI (uI (uI (uI yA 69 85 0) 69 86 yc) 128 0 11) 69 85 1) _
  refine Pa.mp 1 (pc' := 56) (l' := [(0, .ref 69), (1, .int 0), (2, .int yx)]) (st' := [.ref 69, .ref 89, .ref 69]) (by rfl) ?_
  refine Pa.gfI (v := yc) (by rfl) (by rfl) (.inl rfl) (by rfl) (by show (uI (uI (uI (uI yA 69 85 0) 69 86 yc) 128 0 11) 69 85 1).1 69 86 = yc; rw [uI_k (by decide), uI_c (by decide), uI_h]) ?_
  refine Pa.alds (v := 2) (by rfl) (by rfl) (by show (uI (uI (uI (uI yA 69 85 0) 69 86 yc) 128 0 11) 69 85 1).1 89 yc.toInt.toNat = 2; rw [uI_c (by decide), uI_c (by decide), uI_c (by decide), uI_c (by decide), hk]) (fun h3 h4 => ?_)
  have h3 : 0 ≤ yc.toInt := h3
  have h4 : yc.toInt < 150 := h4
  refine Pa.mp 1 (pc' := 61) (l' := [(0, .ref 69), (1, .int 0), (2, .int yx)]) (st' := [.int yx, .int 2, .ref 69]) (by rfl) ?_
  refine Pa.inv (by rfl) (by rfl) (.inl rfl) (by rfl) ?_
  show Pa N 252 0 [(0, .ref 69), (1, .int 2), (2, .int yx)] [] (uI (uI (uI (uI yA 69 85 0) 69 86 yc) 128 0 11) 69 85 1) _
  refine Pa.mp 1 (pc' := 1) (l' := [(0, .ref 69), (1, .int 2), (2, .int yx)]) (st' := [.int 2]) (by rfl) ?_
  refine Pa.mp 1 (pc' := 57) (l' := [(0, .ref 69), (1, .int 2), (2, .int yx)]) (st' := []) (by rfl) ?_
  refine Pa.mp 1 (pc' := 58) (l' := [(0, .ref 69), (1, .int 2), (2, .int yx)]) (st' := [.ref 69]) (by rfl) ?_
  refine Pa.ic (x := 30) (pc' := 60) (by rfl) (by rfl) (by decide) ?_
  refine Pa.inv (by rfl) (by rfl) (.inl rfl) (by rfl) ?_
  show Pa N 251 0 [(0, .ref 69), (1, .int 30)] [] (uI (uI (uI (uI yA 69 85 0) 69 86 yc) 128 0 11) 69 85 1) _
  refine Pa.mp 1 (pc' := 1) (l' := [(0, .ref 69), (1, .int 30)]) (st' := [.ref 69]) (by rfl) ?_
  refine Pa.gfI (v := 1) (by rfl) (by rfl) (.inl rfl) (by rfl) (by show (uI (uI (uI (uI yA 69 85 0) 69 86 yc) 128 0 11) 69 85 1).1 69 85 = 1; rw [uI_h]) ?_
  refine Pa.ic (x := 24) (pc' := 6) (by rfl) (by rfl) (by decide) ?_
  refine Pa.if2k false (by rfl) (by rfl) (by decide) ?_
  show Pa N 251 9 [(0, .ref 69), (1, .int 30)] [] (uI (uI (uI (uI yA 69 85 0) 69 86 yc) 128 0 11) 69 85 1) _
  refine Pa.mp 1 (pc' := 10) (l' := [(0, .ref 69), (1, .int 30)]) (st' := [.ref 69]) (by rfl) ?_
  refine Pa.gfR (by rfl) (by rfl) (.inl rfl) (by rfl) ?_
  show Pa N 251 13 [(0, .ref 69), (1, .int 30)] [.ref 128] (uI (uI (uI (uI yA 69 85 0) 69 86 yc) 128 0 11) 69 85 1) _
  refine Pa.mp 1 (pc' := 14) (l' := [(0, .ref 69), (1, .int 30)]) (st' := [.ref 69, .ref 128]) (by rfl) ?_
  refine Pa.gfI (v := 1) (by rfl) (by rfl) (.inl rfl) (by rfl) (by show (uI (uI (uI (uI yA 69 85 0) 69 86 yc) 128 0 11) 69 85 1).1 69 85 = 1; rw [uI_h]) ?_
  refine Pa.mp 1 (pc' := 18) (l' := [(0, .ref 69), (1, .int 30)]) (st' := [.int 30, .int 1, .ref 128]) (by rfl) ?_
  refine Pa.asts (j' := 1) (by rfl) (by rfl) (by rfl) (fun h5 h6 => ?_)
  show Pa N 251 19 [(0, .ref 69), (1, .int 30)] [] (uI (uI (uI (uI (uI yA 69 85 0) 69 86 yc) 128 0 11) 69 85 1) 128 1 30) _
  refine Pa.mp 2 (pc' := 21) (l' := [(0, .ref 69), (1, .int 30)]) (st' := [.ref 69, .ref 69]) (by rfl) ?_
  refine Pa.gfI (v := 1) (by rfl) (by rfl) (.inl rfl) (by rfl) (by show (uI (uI (uI (uI (uI yA 69 85 0) 69 86 yc) 128 0 11) 69 85 1) 128 1 30).1 69 85 = 1; rw [uI_c (by decide), uI_h]) ?_
  refine Pa.ic (x := 1) (pc' := 25) (by rfl) (by rfl) (by decide) ?_
  refine Pa.mp 1 (pc' := 26) (l' := [(0, .ref 69), (1, .int 30)]) (st' := [.int 2, .ref 69]) (by rfl) ?_
  refine Pa.pfI (by rfl) (by rfl) (.inl rfl) (by rfl) ?_
  show Pa N 251 29 [(0, .ref 69), (1, .int 30)] [] (uI (uI (uI (uI (uI (uI yA 69 85 0) 69 86 yc) 128 0 11) 69 85 1) 128 1 30) 69 85 2) _
  refine Pa.vret (by rfl) ?_
  show Pa N 252 63 [(0, .ref 69), (1, .int 2), (2, .int yx)] [] (uI (uI (uI (uI (uI (uI yA 69 85 0) 69 86 yc) 128 0 11) 69 85 1) 128 1 30) 69 85 2) _
  refine Pa.mp 1 (pc' := 64) (l' := [(0, .ref 69), (1, .int 2), (2, .int yx)]) (st' := [.ref 69]) (by rfl) ?_
  refine Pa.ic (x := 2) (pc' := 65) (by rfl) (by rfl) (by decide) ?_
  refine Pa.ist (by rfl) (by rfl) (.inl rfl) (by rfl) (by rfl) ?_
  show Pa N 250 0 [(0, .int 2)] [] (uI (uI (uI (uI (uI (uI yA 69 85 0) 69 86 yc) 128 0 11) 69 85 1) 128 1 30) 69 85 2) _
  refine Pa.mp 1 (pc' := 1) (l' := [(0, .int 2)]) (st' := [.int 2]) (by rfl) ?_
  refine Pa.ic (x := 5) (pc' := 2) (by rfl) (by rfl) (by decide) ?_
  refine Pa.if2k false (by rfl) (by rfl) (by decide) ?_
  show Pa N 250 5 [(0, .int 2)] [] (uI (uI (uI (uI (uI (uI yA 69 85 0) 69 86 yc) 128 0 11) 69 85 1) 128 1 30) 69 85 2) _
  refine Pa.mp 1 (pc' := 6) (l' := [(0, .int 2)]) (st' := [.int 2]) (by rfl) ?_
  refine Pa.ic (x := 3) (pc' := 7) (by rfl) (by rfl) (by decide) ?_
  refine Pa.if2k true (by rfl) (by rfl) (by decide) ?_
  show Pa N 250 14 [(0, .int 2)] [] (uI (uI (uI (uI (uI (uI yA 69 85 0) 69 86 yc) 128 0 11) 69 85 1) 128 1 30) 69 85 2) _
  refine Pa.mp 1 (pc' := 15) (l' := [(0, .int 2)]) (st' := [.int 2]) (by rfl) ?_
  refine Pa.ic (x := 6) (pc' := 17) (by rfl) (by rfl) (by decide) ?_
  refine Pa.if2k true (by rfl) (by rfl) (by decide) ?_
  show Pa N 250 24 [(0, .int 2)] [] (uI (uI (uI (uI (uI (uI yA 69 85 0) 69 86 yc) 128 0 11) 69 85 1) 128 1 30) 69 85 2) _
  refine Pa.ic (x := 0) (pc' := 25) (by rfl) (by rfl) (by decide) ?_
  refine Pa.iret (by rfl) ?_
  show Pa N 252 68 [(0, .ref 69), (1, .int 2), (2, .int yx)] [.int 0, .ref 69] (uI (uI (uI (uI (uI (uI yA 69 85 0) 69 86 yc) 128 0 11) 69 85 1) 128 1 30) 69 85 2) _
  refine Pa.mp 1 (pc' := 69) (l' := [(0, .ref 69), (1, .int 2), (2, .int yx)]) (st' := [.int yx, .int 0, .ref 69]) (by rfl) ?_
  refine Pa.inv (by rfl) (by rfl) (.inl rfl) (by rfl) ?_
  show Pa N 252 0 [(0, .ref 69), (1, .int 0), (2, .int yx)] [] (uI (uI (uI (uI (uI (uI yA 69 85 0) 69 86 yc) 128 0 11) 69 85 1) 128 1 30) 69 85 2) _
  refine Pa.mp 1 (pc' := 1) (l' := [(0, .ref 69), (1, .int 0), (2, .int yx)]) (st' := [.int 0]) (by rfl) ?_
  refine Pa.mp 1 (pc' := 36) (l' := [(0, .ref 69), (1, .int 0), (2, .int yx)]) (st' := []) (by rfl) ?_
  refine Pa.mp 1 (pc' := 37) (l' := [(0, .ref 69), (1, .int 0), (2, .int yx)]) (st' := [.ref 69]) (by rfl) ?_
  refine Pa.ic (x := 10) (pc' := 39) (by rfl) (by rfl) (by decide) ?_
  refine Pa.inv (by rfl) (by rfl) (.inl rfl) (by rfl) ?_
  show Pa N 251 0 [(0, .ref 69), (1, .int 10)] [] (uI (uI (uI (uI (uI (uI yA 69 85 0) 69 86 yc) 128 0 11) 69 85 1) 128 1 30) 69 85 2) _
  refine Pa.mp 1 (pc' := 1) (l' := [(0, .ref 69), (1, .int 10)]) (st' := [.ref 69]) (by rfl) ?_
  refine Pa.gfI (v := 2) (by rfl) (by rfl) (.inl rfl) (by rfl) (by show (uI (uI (uI (uI (uI (uI yA 69 85 0) 69 86 yc) 128 0 11) 69 85 1) 128 1 30) 69 85 2).1 69 85 = 2; rw [uI_h]) ?_
  refine Pa.ic (x := 24) (pc' := 6) (by rfl) (by rfl) (by decide) ?_
  refine Pa.if2k false (by rfl) (by rfl) (by decide) ?_
  show Pa N 251 9 [(0, .ref 69), (1, .int 10)] [] (uI (uI (uI (uI (uI (uI yA 69 85 0) 69 86 yc) 128 0 11) 69 85 1) 128 1 30) 69 85 2) _
  refine Pa.mp 1 (pc' := 10) (l' := [(0, .ref 69), (1, .int 10)]) (st' := [.ref 69]) (by rfl) ?_
  refine Pa.gfR (by rfl) (by rfl) (.inl rfl) (by rfl) ?_
  show Pa N 251 13 [(0, .ref 69), (1, .int 10)] [.ref 128] (uI (uI (uI (uI (uI (uI yA 69 85 0) 69 86 yc) 128 0 11) 69 85 1) 128 1 30) 69 85 2) _
  refine Pa.mp 1 (pc' := 14) (l' := [(0, .ref 69), (1, .int 10)]) (st' := [.ref 69, .ref 128]) (by rfl) ?_
  refine Pa.gfI (v := 2) (by rfl) (by rfl) (.inl rfl) (by rfl) (by show (uI (uI (uI (uI (uI (uI yA 69 85 0) 69 86 yc) 128 0 11) 69 85 1) 128 1 30) 69 85 2).1 69 85 = 2; rw [uI_h]) ?_
  refine Pa.mp 1 (pc' := 18) (l' := [(0, .ref 69), (1, .int 10)]) (st' := [.int 10, .int 2, .ref 128]) (by rfl) ?_
  refine Pa.asts (j' := 2) (by rfl) (by rfl) (by rfl) (fun h7 h8 => ?_)
  show Pa N 251 19 [(0, .ref 69), (1, .int 10)] [] (uI (uI (uI (uI (uI (uI (uI yA 69 85 0) 69 86 yc) 128 0 11) 69 85 1) 128 1 30) 69 85 2) 128 2 10) _
  refine Pa.mp 2 (pc' := 21) (l' := [(0, .ref 69), (1, .int 10)]) (st' := [.ref 69, .ref 69]) (by rfl) ?_
  refine Pa.gfI (v := 2) (by rfl) (by rfl) (.inl rfl) (by rfl) (by show (uI (uI (uI (uI (uI (uI (uI yA 69 85 0) 69 86 yc) 128 0 11) 69 85 1) 128 1 30) 69 85 2) 128 2 10).1 69 85 = 2; rw [uI_c (by decide), uI_h]) ?_
  refine Pa.ic (x := 1) (pc' := 25) (by rfl) (by rfl) (by decide) ?_
  refine Pa.mp 1 (pc' := 26) (l' := [(0, .ref 69), (1, .int 10)]) (st' := [.int 3, .ref 69]) (by rfl) ?_
  refine Pa.pfI (by rfl) (by rfl) (.inl rfl) (by rfl) ?_
  show Pa N 251 29 [(0, .ref 69), (1, .int 10)] [] (uI (uI (uI (uI (uI (uI (uI (uI yA 69 85 0) 69 86 yc) 128 0 11) 69 85 1) 128 1 30) 69 85 2) 128 2 10) 69 85 3) _
  refine Pa.vret (by rfl) ?_
  show Pa N 252 42 [(0, .ref 69), (1, .int 0), (2, .int yx)] [] (uI (uI (uI (uI (uI (uI (uI (uI yA 69 85 0) 69 86 yc) 128 0 11) 69 85 1) 128 1 30) 69 85 2) 128 2 10) 69 85 3) _
  refine Pa.mp 3 (pc' := 45) (l' := [(0, .ref 69), (1, .int 0), (2, .int yx)]) (st' := [.ref 69, .ref 69, .int yx]) (by rfl) ?_
  refine Pa.gfI (v := yc) (by rfl) (by rfl) (.inl rfl) (by rfl) (by show (uI (uI (uI (uI (uI (uI (uI (uI yA 69 85 0) 69 86 yc) 128 0 11) 69 85 1) 128 1 30) 69 85 2) 128 2 10) 69 85 3).1 69 86 = yc; rw [uI_k (by decide), uI_c (by decide), uI_k (by decide), uI_c (by decide), uI_k (by decide), uI_c (by decide), uI_h]) ?_
  refine Pa.mp 1 (pc' := 49) (l' := [(0, .ref 69), (1, .int 0), (2, .int yx)]) (st' := [.ref 69, .int yc, .ref 69, .int yx]) (by rfl) ?_
  refine Pa.gfI (v := yA.1 69 0) (by rfl) (by rfl) (.inl rfl) (by rfl) (by show (uI (uI (uI (uI (uI (uI (uI (uI yA 69 85 0) 69 86 yc) 128 0 11) 69 85 1) 128 1 30) 69 85 2) 128 2 10) 69 85 3).1 69 0 = yA.1 69 0; rw [uI_k (by decide), uI_c (by decide), uI_k (by decide), uI_c (by decide), uI_k (by decide), uI_c (by decide), uI_k (by decide), uI_k (by decide)]) ?_
  refine Pa.inv (by rfl) (by rfl) (.inl rfl) (by rfl) ?_
  refine Pa.mono (c_kof N yA (uI (uI (uI (uI (uI (uI (uI (uI yA 69 85 0) 69 86 yc) 128 0 11) 69 85 1) 128 1 30) 69 85 2) 128 2 10) 69 85 3) yc (yA.1 69 0) (funext fun _ => by repeat rw [uI_c (by decide)]) (funext fun _ => by repeat rw [uI_c (by decide)]) (funext fun _ => by repeat rw [uI_c (by decide)])) (fun yu A1 hu => ?_)
  obtain ⟨rfl, hu⟩ := hu
  rw [hu]
  show Pa N 252 55 [(0, .ref 69), (1, .int 0), (2, .int yx)] [.int (kofM yA yc (yA.1 69 0)), .int yx] (uI (uI (uI (uI (uI (uI (uI (uI yA 69 85 0) 69 86 yc) 128 0 11) 69 85 1) 128 1 30) 69 85 2) 128 2 10) 69 85 3) _
  refine Pa.mp 1 (pc' := 56) (l' := [(0, .ref 69), (1, .int 0), (2, .int yx)]) (st' := [.int (yx + (kofM yA yc (yA.1 69 0)))]) (by rfl) ?_
  refine Pa.iret (by rfl) ?_
  show Pa N 252 72 [(0, .ref 69), (1, .int 2), (2, .int yx)] [.int (yx + (kofM yA yc (yA.1 69 0)))] (uI (uI (uI (uI (uI (uI (uI (uI yA 69 85 0) 69 86 yc) 128 0 11) 69 85 1) 128 1 30) 69 85 2) 128 2 10) 69 85 3) _
  refine Pa.ic (x := 4) (pc' := 73) (by rfl) (by rfl) (by decide) ?_
  refine Pa.mp 1 (pc' := 74) (l' := [(0, .ref 69), (1, .int 2), (2, .int yx)]) (st' := [.int ((yx + (kofM yA yc (yA.1 69 0))) - 4)]) (by rfl) ?_
  refine Pa.iret (by rfl) ?_
  show Pa N 253 64 [(0, .ref 69), (1, .int 0), (2, .int yx)] [.int ((yx + (kofM yA yc (yA.1 69 0))) - 4)] (uI (uI (uI (uI (uI (uI (uI (uI yA 69 85 0) 69 86 yc) 128 0 11) 69 85 1) 128 1 30) 69 85 2) 128 2 10) 69 85 3) _
  refine Pa.ic (x := 2) (pc' := 65) (by rfl) (by rfl) (by decide) ?_
  refine Pa.mp 1 (pc' := 66) (l' := [(0, .ref 69), (1, .int 0), (2, .int yx)]) (st' := [.int (((yx + (kofM yA yc (yA.1 69 0))) - 4) * 2)]) (by rfl) ?_
  refine Pa.iret (by rfl) ?_
  show Pa N 253 146 [(0, .ref 69), (1, .int 2), (2, .int yx)] [.int (((yx + (kofM yA yc (yA.1 69 0))) - 4) * 2)] (uI (uI (uI (uI (uI (uI (uI (uI yA 69 85 0) 69 86 yc) 128 0 11) 69 85 1) 128 1 30) 69 85 2) 128 2 10) 69 85 3) _
  refine Pa.iret (by rfl) ?_
  exact l1 h3 h4

theorem bpm1_3 {N : Nat} {yA : AW} {yQ : Option Value → AW → Prop} (yx yc : Int32) (hk : yA.1 89 yc.toInt.toNat = 3)
    (l1 : 0 ≤ yc.toInt → yc.toInt < 150 → yQ (some (.int (((yx + (kofM yA yc (yA.1 69 0))) - 4) * 2))) (uI (uI (uI (uI (uI (uI (uI (uI yA 69 85 0) 69 86 yc) 128 0 11) 69 85 1) 128 1 30) 69 85 2) 128 2 10) 69 85 3)) :
    Pa N 253 0 [(0, .ref 69), (1, .int 3), (2, .int yx)] [] (uI (uI yA 69 85 0) 69 86 yc) yQ := by
  refine Pa.mp 1 (pc' := 1) (l' := [(0, .ref 69), (1, .int 3), (2, .int yx)]) (st' := [.int 3]) (by rfl) ?_
  refine Pa.mp 1 (pc' := 137) (l' := [(0, .ref 69), (1, .int 3), (2, .int yx)]) (st' := []) (by rfl) ?_
  refine Pa.mp 2 (pc' := 139) (l' := [(0, .ref 69), (1, .int 3), (2, .int yx)]) (st' := [.int 3, .ref 69]) (by rfl) ?_
  refine Pa.ist (by rfl) (by rfl) (.inl rfl) (by rfl) (by rfl) ?_
  show Pa N 250 0 [(0, .int 3)] [] (uI (uI yA 69 85 0) 69 86 yc) _
  refine Pa.mp 1 (pc' := 1) (l' := [(0, .int 3)]) (st' := [.int 3]) (by rfl) ?_
  refine Pa.ic (x := 5) (pc' := 2) (by rfl) (by rfl) (by decide) ?_
  refine Pa.if2k false (by rfl) (by rfl) (by decide) ?_
  show Pa N 250 5 [(0, .int 3)] [] (uI (uI yA 69 85 0) 69 86 yc) _
  refine Pa.mp 1 (pc' := 6) (l' := [(0, .int 3)]) (st' := [.int 3]) (by rfl) ?_
  refine Pa.ic (x := 3) (pc' := 7) (by rfl) (by rfl) (by decide) ?_
  refine Pa.if2k false (by rfl) (by rfl) (by decide) ?_
  show Pa N 250 10 [(0, .int 3)] [] (uI (uI yA 69 85 0) 69 86 yc) _
  refine Pa.ic (x := 2) (pc' := 11) (by rfl) (by rfl) (by decide) ?_
  refine Pa.mp 1 (pc' := 25) (l' := [(0, .int 3)]) (st' := [.int 2]) (by rfl) ?_
  refine Pa.iret (by rfl) ?_
  show Pa N 253 142 [(0, .ref 69), (1, .int 3), (2, .int yx)] [.int 2, .ref 69] (uI (uI yA 69 85 0) 69 86 yc) _
  refine Pa.mp 1 (pc' := 143) (l' := [(0, .ref 69), (1, .int 3), (2, .int yx)]) (st' := [.int yx, .int 2, .ref 69]) (by rfl) ?_
  refine Pa.inv (by rfl) (by rfl) (.inl rfl) (by rfl) ?_
  show Pa N 253 0 [(0, .ref 69), (1, .int 2), (2, .int yx)] [] (uI (uI yA 69 85 0) 69 86 yc) _
  refine Pa.mp 1 (pc' := 1) (l' := [(0, .ref 69), (1, .int 2), (2, .int yx)]) (st' := [.int 2]) (by rfl) ?_
  refine Pa.mp 1 (pc' := 137) (l' := [(0, .ref 69), (1, .int 2), (2, .int yx)]) (st' := []) (by rfl) ?_
  refine Pa.mp 2 (pc' := 139) (l' := [(0, .ref 69), (1, .int 2), (2, .int yx)]) (st' := [.int 2, .ref 69]) (by rfl) ?_
  refine Pa.ist (by rfl) (by rfl) (.inl rfl) (by rfl) (by rfl) ?_
  show Pa N 250 0 [(0, .int 2)] [] (uI (uI yA 69 85 0) 69 86 yc) _
  refine Pa.mp 1 (pc' := 1) (l' := [(0, .int 2)]) (st' := [.int 2]) (by rfl) ?_
  refine Pa.ic (x := 5) (pc' := 2) (by rfl) (by rfl) (by decide) ?_
  refine Pa.if2k false (by rfl) (by rfl) (by decide) ?_
  show Pa N 250 5 [(0, .int 2)] [] (uI (uI yA 69 85 0) 69 86 yc) _
  refine Pa.mp 1 (pc' := 6) (l' := [(0, .int 2)]) (st' := [.int 2]) (by rfl) ?_
  refine Pa.ic (x := 3) (pc' := 7) (by rfl) (by rfl) (by decide) ?_
  refine Pa.if2k true (by rfl) (by rfl) (by decide) ?_
  show Pa N 250 14 [(0, .int 2)] [] (uI (uI yA 69 85 0) 69 86 yc) _
  refine Pa.mp 1 (pc' := 15) (l' := [(0, .int 2)]) (st' := [.int 2]) (by rfl) ?_
  refine Pa.ic (x := 6) (pc' := 17) (by rfl) (by rfl) (by decide) ?_
  refine Pa.if2k true (by rfl) (by rfl) (by decide) ?_
  show Pa N 250 24 [(0, .int 2)] [] (uI (uI yA 69 85 0) 69 86 yc) _
  refine Pa.ic (x := 0) (pc' := 25) (by rfl) (by rfl) (by decide) ?_
  refine Pa.iret (by rfl) ?_
  show Pa N 253 142 [(0, .ref 69), (1, .int 2), (2, .int yx)] [.int 0, .ref 69] (uI (uI yA 69 85 0) 69 86 yc) _
  refine Pa.mp 1 (pc' := 143) (l' := [(0, .ref 69), (1, .int 2), (2, .int yx)]) (st' := [.int yx, .int 0, .ref 69]) (by rfl) ?_
  refine Pa.inv (by rfl) (by rfl) (.inl rfl) (by rfl) ?_
  show Pa N 253 0 [(0, .ref 69), (1, .int 0), (2, .int yx)] [] (uI (uI yA 69 85 0) 69 86 yc) _
  refine Pa.mp 1 (pc' := 1) (l' := [(0, .ref 69), (1, .int 0), (2, .int yx)]) (st' := [.int 0]) (by rfl) ?_
  refine Pa.mp 1 (pc' := 44) (l' := [(0, .ref 69), (1, .int 0), (2, .int yx)]) (st' := []) (by rfl) ?_
  refine Pa.mp 1 (pc' := 45) (l' := [(0, .ref 69), (1, .int 0), (2, .int yx)]) (st' := [.ref 69]) (by rfl) ?_
  refine Pa.ic (x := 11) (pc' := 47) (by rfl) (by rfl) (by decide) ?_
  refine Pa.inv (by rfl) (by rfl) (.inl rfl) (by rfl) ?_
  show Pa N 251 0 [(0, .ref 69), (1, .int 11)] [] (uI (uI yA 69 85 0) 69 86 yc) _
  refine Pa.mp 1 (pc' := 1) (l' := [(0, .ref 69), (1, .int 11)]) (st' := [.ref 69]) (by rfl) ?_
  refine Pa.gfI (v := 0) (by rfl) (by rfl) (.inl rfl) (by rfl) (by show (uI (uI yA 69 85 0) 69 86 yc).1 69 85 = 0; rw [uI_k (by decide), uI_h]) ?_
  refine Pa.ic (x := 24) (pc' := 6) (by rfl) (by rfl) (by decide) ?_
  refine Pa.if2k false (by rfl) (by rfl) (by decide) ?_
  show Pa N 251 9 [(0, .ref 69), (1, .int 11)] [] (uI (uI yA 69 85 0) 69 86 yc) _
  refine Pa.mp 1 (pc' := 10) (l' := [(0, .ref 69), (1, .int 11)]) (st' := [.ref 69]) (by rfl) ?_
  refine Pa.gfR (by rfl) (by rfl) (.inl rfl) (by rfl) ?_
  show Pa N 251 13 [(0, .ref 69), (1, .int 11)] [.ref 128] (uI (uI yA 69 85 0) 69 86 yc) _
  refine Pa.mp 1 (pc' := 14) (l' := [(0, .ref 69), (1, .int 11)]) (st' := [.ref 69, .ref 128]) (by rfl) ?_
  refine Pa.gfI (v := 0) (by rfl) (by rfl) (.inl rfl) (by rfl) (by show (uI (uI yA 69 85 0) 69 86 yc).1 69 85 = 0; rw [uI_k (by decide), uI_h]) ?_
  refine Pa.mp 1 (pc' := 18) (l' := [(0, .ref 69), (1, .int 11)]) (st' := [.int 11, .int 0, .ref 128]) (by rfl) ?_
  refine Pa.asts (j' := 0) (by rfl) (by rfl) (by rfl) (fun h1 h2 => ?_)
  show Pa N 251 19 [(0, .ref 69), (1, .int 11)] [] (uI (uI (uI yA 69 85 0) 69 86 yc) 128 0 11) _
  refine Pa.mp 2 (pc' := 21) (l' := [(0, .ref 69), (1, .int 11)]) (st' := [.ref 69, .ref 69]) (by rfl) ?_
  refine Pa.gfI (v := 0) (by rfl) (by rfl) (.inl rfl) (by rfl) (by show (uI (uI (uI yA 69 85 0) 69 86 yc) 128 0 11).1 69 85 = 0; rw [uI_c (by decide), uI_k (by decide), uI_h]) ?_
  refine Pa.ic (x := 1) (pc' := 25) (by rfl) (by rfl) (by decide) ?_
  refine Pa.mp 1 (pc' := 26) (l' := [(0, .ref 69), (1, .int 11)]) (st' := [.int 1, .ref 69]) (by rfl) ?_
  refine Pa.pfI (by rfl) (by rfl) (.inl rfl) (by rfl) ?_
  show Pa N 251 29 [(0, .ref 69), (1, .int 11)] [] (uI (uI (uI (uI yA 69 85 0) 69 86 yc) 128 0 11) 69 85 1) _
  refine Pa.vret (by rfl) ?_
  show Pa N 253 50 [(0, .ref 69), (1, .int 0), (2, .int yx)] [] (uI (uI (uI (uI yA 69 85 0) 69 86 yc) 128 0 11) 69 85 1) _
  refine Pa.mp 2 (pc' := 52) (l' := [(0, .ref 69), (1, .int 0), (2, .int yx)]) (st' := [.ref 69, .ref 69]) (by rfl) ?_
  refine Pa.gfR (by rfl) (by rfl) (.inl rfl) (by rfl) ?_
  show Pa N 253 55 [(0, .ref 69), (1, .int 0), (2, .int yx)] [.ref 89, .ref 69] (uI (uI (uI (uI yA 69 85 0) 69 86 yc) 128 0 11) 69 85 1) _
  refine Pa.mp 1 (pc' := 56) (l' := [(0, .ref 69), (1, .int 0), (2, .int yx)]) (st' := [.ref 69, .ref 89, .ref 69]) (by rfl) ?_
  refine Pa.gfI (v := yc) (by rfl) (by rfl) (.inl rfl) (by rfl) (by show (uI (uI (uI (uI yA 69 85 0) 69 86 yc) 128 0 11) 69 85 1).1 69 86 = yc; rw [uI_k (by decide), uI_c (by decide), uI_h]) ?_
  refine Pa.alds (v := 3) (by rfl) (by rfl) (by show (uI (uI (uI (uI yA 69 85 0) 69 86 yc) 128 0 11) 69 85 1).1 89 yc.toInt.toNat = 3; rw [uI_c (by decide), uI_c (by decide), uI_c (by decide), uI_c (by decide), hk]) (fun h3 h4 => ?_)
  have h3 : 0 ≤ yc.toInt := h3
  have h4 : yc.toInt < 150 := h4
  refine Pa.mp 1 (pc' := 61) (l' := [(0, .ref 69), (1, .int 0), (2, .int yx)]) (st' := [.int yx, .int 3, .ref 69]) (by rfl) ?_
  refine Pa.inv (by rfl) (by rfl) (.inl rfl) (by rfl) ?_
  show Pa N 252 0 [(0, .ref 69), (1, .int 3), (2, .int yx)] [] (uI (uI (uI (uI yA 69 85 0) 69 86 yc) 128 0 11) 69 85 1) _
  refine Pa.mp 1 (pc' := 1) (l' := [(0, .ref 69), (1, .int 3), (2, .int yx)]) (st' := [.int 3]) (by rfl) ?_
  refine Pa.mp 1 (pc' := 93) (l' := [(0, .ref 69), (1, .int 3), (2, .int yx)]) (st' := []) (by rfl) ?_
  refine Pa.mp 2 (pc' := 95) (l' := [(0, .ref 69), (1, .int 3), (2, .int yx)]) (st' := [.int 3, .ref 69]) (by rfl) ?_
  refine Pa.ist (by rfl) (by rfl) (.inl rfl) (by rfl) (by rfl) ?_
  show Pa N 250 0 [(0, .int 3)] [] (uI (uI (uI (uI yA 69 85 0) 69 86 yc) 128 0 11) 69 85 1) _
  refine Pa.mp 1 (pc' := 1) (l' := [(0, .int 3)]) (st' := [.int 3]) (by rfl) ?_
  refine Pa.ic (x := 5) (pc' := 2) (by rfl) (by rfl) (by decide) ?_
  refine Pa.if2k false (by rfl) (by rfl) (by decide) ?_
  show Pa N 250 5 [(0, .int 3)] [] (uI (uI (uI (uI yA 69 85 0) 69 86 yc) 128 0 11) 69 85 1) _
  refine Pa.mp 1 (pc' := 6) (l' := [(0, .int 3)]) (st' := [.int 3]) (by rfl) ?_
  refine Pa.ic (x := 3) (pc' := 7) (by rfl) (by rfl) (by decide) ?_
  refine Pa.if2k false (by rfl) (by rfl) (by decide) ?_
  show Pa N 250 10 [(0, .int 3)] [] (uI (uI (uI (uI yA 69 85 0) 69 86 yc) 128 0 11) 69 85 1) _
  refine Pa.ic (x := 2) (pc' := 11) (by rfl) (by rfl) (by decide) ?_
  refine Pa.mp 1 (pc' := 25) (l' := [(0, .int 3)]) (st' := [.int 2]) (by rfl) ?_
  refine Pa.iret (by rfl) ?_
  show Pa N 252 98 [(0, .ref 69), (1, .int 3), (2, .int yx)] [.int 2, .ref 69] (uI (uI (uI (uI yA 69 85 0) 69 86 yc) 128 0 11) 69 85 1) _
  refine Pa.mp 1 (pc' := 99) (l' := [(0, .ref 69), (1, .int 3), (2, .int yx)]) (st' := [.int yx, .int 2, .ref 69]) (by rfl) ?_
  refine Pa.inv (by rfl) (by rfl) (.inl rfl) (by rfl) ?_
  show Pa N 252 0 [(0, .ref 69), (1, .int 2), (2, .int yx)] [] (uI (uI (uI (uI yA 69 85 0) 69 86 yc) 128 0 11) 69 85 1) _
  refine Pa.mp 1 (pc' := 1) (l' := [(0, .ref 69), (1, .int 2), (2, .int yx)]) (st' := [.int 2]) (by rfl) ?_
  refine Pa.mp 1 (pc' := 57) (l' := [(0, .ref 69), (1, .int 2), (2, .int yx)]) (st' := []) (by rfl) ?_
  refine Pa.mp 1 (pc' := 58) (l' := [(0, .ref 69), (1, .int 2), (2, .int yx)]) (st' := [.ref 69]) (by rfl) ?_
  refine Pa.ic (x := 30) (pc' := 60) (by rfl) (by rfl) (by decide) ?_
  refine Pa.inv (by rfl) (by rfl) (.inl rfl) (by rfl) ?_
  show Pa N 251 0 [(0, .ref 69), (1, .int 30)] [] (uI (uI (uI (uI yA 69 85 0) 69 86 yc) 128 0 11) 69 85 1) _
  refine Pa.mp 1 (pc' := 1) (l' := [(0, .ref 69), (1, .int 30)]) (st' := [.ref 69]) (by rfl) ?_
  refine Pa.gfI (v := 1) (by rfl) (by rfl) (.inl rfl) (by rfl) (by show (uI (uI (uI (uI yA 69 85 0) 69 86 yc) 128 0 11) 69 85 1).1 69 85 = 1; rw [uI_h]) ?_
  refine Pa.ic (x := 24) (pc' := 6) (by rfl) (by rfl) (by decide) ?_
  refine Pa.if2k false (by rfl) (by rfl) (by decide) ?_
  show Pa N 251 9 [(0, .ref 69), (1, .int 30)] [] (uI (uI (uI (uI yA 69 85 0) 69 86 yc) 128 0 11) 69 85 1) _
  refine Pa.mp 1 (pc' := 10) (l' := [(0, .ref 69), (1, .int 30)]) (st' := [.ref 69]) (by rfl) ?_
  refine Pa.gfR (by rfl) (by rfl) (.inl rfl) (by rfl) ?_
  show Pa N 251 13 [(0, .ref 69), (1, .int 30)] [.ref 128] (uI (uI (uI (uI yA 69 85 0) 69 86 yc) 128 0 11) 69 85 1) _
  refine Pa.mp 1 (pc' := 14) (l' := [(0, .ref 69), (1, .int 30)]) (st' := [.ref 69, .ref 128]) (by rfl) ?_
  refine Pa.gfI (v := 1) (by rfl) (by rfl) (.inl rfl) (by rfl) (by show (uI (uI (uI (uI yA 69 85 0) 69 86 yc) 128 0 11) 69 85 1).1 69 85 = 1; rw [uI_h]) ?_
  refine Pa.mp 1 (pc' := 18) (l' := [(0, .ref 69), (1, .int 30)]) (st' := [.int 30, .int 1, .ref 128]) (by rfl) ?_
  refine Pa.asts (j' := 1) (by rfl) (by rfl) (by rfl) (fun h5 h6 => ?_)
  show Pa N 251 19 [(0, .ref 69), (1, .int 30)] [] (uI (uI (uI (uI (uI yA 69 85 0) 69 86 yc) 128 0 11) 69 85 1) 128 1 30) _
  refine Pa.mp 2 (pc' := 21) (l' := [(0, .ref 69), (1, .int 30)]) (st' := [.ref 69, .ref 69]) (by rfl) ?_
  refine Pa.gfI (v := 1) (by rfl) (by rfl) (.inl rfl) (by rfl) (by show (uI (uI (uI (uI (uI yA 69 85 0) 69 86 yc) 128 0 11) 69 85 1) 128 1 30).1 69 85 = 1; rw [uI_c (by decide), uI_h]) ?_
  refine Pa.ic (x := 1) (pc' := 25) (by rfl) (by rfl) (by decide) ?_
  refine Pa.mp 1 (pc' := 26) (l' := [(0, .ref 69), (1, .int 30)]) (st' := [.int 2, .ref 69]) (by rfl) ?_
  refine Pa.pfI (by rfl) (by rfl) (.inl rfl) (by rfl) ?_
  show Pa N 251 29 [(0, .ref 69), (1, .int 30)] [] (uI (uI (uI (uI (uI (uI yA 69 85 0) 69 86 yc) 128 0 11) 69 85 1) 128 1 30) 69 85 2) _
  refine Pa.vret (by rfl) ?_
  show Pa N 252 63 [(0, .ref 69), (1, .int 2), (2, .int yx)] [] (uI (uI (uI (uI (uI (uI yA 69 85 0) 69 86 yc) 128 0 11) 69 85 1) 128 1 30) 69 85 2) _
  refine Pa.mp 1 (pc' := 64) (l' := [(0, .ref 69), (1, .int 2), (2, .int yx)]) (st' := [.ref 69]) (by rfl) ?_
  refine Pa.ic (x := 2) (pc' := 65) (by rfl) (by rfl) (by decide) ?_
  refine Pa.ist (by rfl) (by rfl) (.inl rfl) (by rfl) (by rfl) ?_
  show Pa N 250 0 [(0, .int 2)] [] (uI (uI (uI (uI (uI (uI yA 69 85 0) 69 86 yc) 128 0 11) 69 85 1) 128 1 30) 69 85 2) _
  refine Pa.mp 1 (pc' := 1) (l' := [(0, .int 2)]) (st' := [.int 2]) (by rfl) ?_
  refine Pa.ic (x := 5) (pc' := 2) (by rfl) (by rfl) (by decide) ?_
  refine Pa.if2k false (by rfl) (by rfl) (by decide) ?_
  show Pa N 250 5 [(0, .int 2)] [] (uI (uI (uI (uI (uI (uI yA 69 85 0) 69 86 yc) 128 0 11) 69 85 1) 128 1 30) 69 85 2) _
  refine Pa.mp 1 (pc' := 6) (l' := [(0, .int 2)]) (st' := [.int 2]) (by rfl) ?_
  refine Pa.ic (x := 3) (pc' := 7) (by rfl) (by rfl) (by decide) ?_
  refine Pa.if2k true (by rfl) (by rfl) (by decide) ?_
  show Pa N 250 14 [(0, .int 2)] [] (uI (uI (uI (uI (uI (uI yA 69 85 0) 69 86 yc) 128 0 11) 69 85 1) 128 1 30) 69 85 2) _
  refine Pa.mp 1 (pc' := 15) (l' := [(0, .int 2)]) (st' := [.int 2]) (by rfl) ?_
  refine Pa.ic (x := 6) (pc' := 17) (by rfl) (by rfl) (by decide) ?_
  refine Pa.if2k true (by rfl) (by rfl) (by decide) ?_
  show Pa N 250 24 [(0, .int 2)] [] (uI (uI (uI (uI (uI (uI yA 69 85 0) 69 86 yc) 128 0 11) 69 85 1) 128 1 30) 69 85 2) _
  refine Pa.ic (x := 0) (pc' := 25) (by rfl) (by rfl) (by decide) ?_
  refine Pa.iret (by rfl) ?_
  show Pa N 252 68 [(0, .ref 69), (1, .int 2), (2, .int yx)] [.int 0, .ref 69] (uI (uI (uI (uI (uI (uI yA 69 85 0) 69 86 yc) 128 0 11) 69 85 1) 128 1 30) 69 85 2) _
  refine Pa.mp 1 (pc' := 69) (l' := [(0, .ref 69), (1, .int 2), (2, .int yx)]) (st' := [.int yx, .int 0, .ref 69]) (by rfl) ?_
  refine Pa.inv (by rfl) (by rfl) (.inl rfl) (by rfl) ?_
  show Pa N 252 0 [(0, .ref 69), (1, .int 0), (2, .int yx)] [] (uI (uI (uI (uI (uI (uI yA 69 85 0) 69 86 yc) 128 0 11) 69 85 1) 128 1 30) 69 85 2) _
  refine Pa.mp 1 (pc' := 1) (l' := [(0, .ref 69), (1, .int 0), (2, .int yx)]) (st' := [.int 0]) (by rfl) ?_
  refine Pa.mp 1 (pc' := 36) (l' := [(0, .ref 69), (1, .int 0), (2, .int yx)]) (st' := []) (by rfl) ?_
  refine Pa.mp 1 (pc' := 37) (l' := [(0, .ref 69), (1, .int 0), (2, .int yx)]) (st' := [.ref 69]) (by rfl) ?_
  refine Pa.ic (x := 10) (pc' := 39) (by rfl) (by rfl) (by decide) ?_
  refine Pa.inv (by rfl) (by rfl) (.inl rfl) (by rfl) ?_
  show Pa N 251 0 [(0, .ref 69), (1, .int 10)] [] (uI (uI (uI (uI (uI (uI yA 69 85 0) 69 86 yc) 128 0 11) 69 85 1) 128 1 30) 69 85 2) _
  refine Pa.mp 1 (pc' := 1) (l' := [(0, .ref 69), (1, .int 10)]) (st' := [.ref 69]) (by rfl) ?_
  refine Pa.gfI (v := 2) (by rfl) (by rfl) (.inl rfl) (by rfl) (by show (uI (uI (uI (uI (uI (uI yA 69 85 0) 69 86 yc) 128 0 11) 69 85 1) 128 1 30) 69 85 2).1 69 85 = 2; rw [uI_h]) ?_
  refine Pa.ic (x := 24) (pc' := 6) (by rfl) (by rfl) (by decide) ?_
  refine Pa.if2k false (by rfl) (by rfl) (by decide) ?_
  show Pa N 251 9 [(0, .ref 69), (1, .int 10)] [] (uI (uI (uI (uI (uI (uI yA 69 85 0) 69 86 yc) 128 0 11) 69 85 1) 128 1 30) 69 85 2) _
  refine Pa.mp 1 (pc' := 10) (l' := [(0, .ref 69), (1, .int 10)]) (st' := [.ref 69]) (by rfl) ?_
  refine Pa.gfR (by rfl) (by rfl) (.inl rfl) (by rfl) ?_
  show Pa N 251 13 [(0, .ref 69), (1, .int 10)] [.ref 128] (uI (uI (uI (uI (uI (uI yA 69 85 0) 69 86 yc) 128 0 11) 69 85 1) 128 1 30) 69 85 2) _
  refine Pa.mp 1 (pc' := 14) (l' := [(0, .ref 69), (1, .int 10)]) (st' := [.ref 69, .ref 128]) (by rfl) ?_
  refine Pa.gfI (v := 2) (by rfl) (by rfl) (.inl rfl) (by rfl) (by show (uI (uI (uI (uI (uI (uI yA 69 85 0) 69 86 yc) 128 0 11) 69 85 1) 128 1 30) 69 85 2).1 69 85 = 2; rw [uI_h]) ?_
  refine Pa.mp 1 (pc' := 18) (l' := [(0, .ref 69), (1, .int 10)]) (st' := [.int 10, .int 2, .ref 128]) (by rfl) ?_
  refine Pa.asts (j' := 2) (by rfl) (by rfl) (by rfl) (fun h7 h8 => ?_)
  show Pa N 251 19 [(0, .ref 69), (1, .int 10)] [] (uI (uI (uI (uI (uI (uI (uI yA 69 85 0) 69 86 yc) 128 0 11) 69 85 1) 128 1 30) 69 85 2) 128 2 10) _
  refine Pa.mp 2 (pc' := 21) (l' := [(0, .ref 69), (1, .int 10)]) (st' := [.ref 69, .ref 69]) (by rfl) ?_
  refine Pa.gfI (v := 2) (by rfl) (by rfl) (.inl rfl) (by rfl) (by show (uI (uI (uI (uI (uI (uI (uI yA 69 85 0) 69 86 yc) 128 0 11) 69 85 1) 128 1 30) 69 85 2) 128 2 10).1 69 85 = 2; rw [uI_c (by decide), uI_h]) ?_
  refine Pa.ic (x := 1) (pc' := 25) (by rfl) (by rfl) (by decide) ?_
  refine Pa.mp 1 (pc' := 26) (l' := [(0, .ref 69), (1, .int 10)]) (st' := [.int 3, .ref 69]) (by rfl) ?_
  refine Pa.pfI (by rfl) (by rfl) (.inl rfl) (by rfl) ?_
  show Pa N 251 29 [(0, .ref 69), (1, .int 10)] [] (uI (uI (uI (uI (uI (uI (uI (uI yA 69 85 0) 69 86 yc) 128 0 11) 69 85 1) 128 1 30) 69 85 2) 128 2 10) 69 85 3) _
  refine Pa.vret (by rfl) ?_
  show Pa N 252 42 [(0, .ref 69), (1, .int 0), (2, .int yx)] [] (uI (uI (uI (uI (uI (uI (uI (uI yA 69 85 0) 69 86 yc) 128 0 11) 69 85 1) 128 1 30) 69 85 2) 128 2 10) 69 85 3) _
  refine Pa.mp 3 (pc' := 45) (l' := [(0, .ref 69), (1, .int 0), (2, .int yx)]) (st' := [.ref 69, .ref 69, .int yx]) (by rfl) ?_
  refine Pa.gfI (v := yc) (by rfl) (by rfl) (.inl rfl) (by rfl) (by show (uI (uI (uI (uI (uI (uI (uI (uI yA 69 85 0) 69 86 yc) 128 0 11) 69 85 1) 128 1 30) 69 85 2) 128 2 10) 69 85 3).1 69 86 = yc; rw [uI_k (by decide), uI_c (by decide), uI_k (by decide), uI_c (by decide), uI_k (by decide), uI_c (by decide), uI_h]) ?_
  refine Pa.mp 1 (pc' := 49) (l' := [(0, .ref 69), (1, .int 0), (2, .int yx)]) (st' := [.ref 69, .int yc, .ref 69, .int yx]) (by rfl) ?_
  refine Pa.gfI (v := yA.1 69 0) (by rfl) (by rfl) (.inl rfl) (by rfl) (by show (uI (uI (uI (uI (uI (uI (uI (uI yA 69 85 0) 69 86 yc) 128 0 11) 69 85 1) 128 1 30) 69 85 2) 128 2 10) 69 85 3).1 69 0 = yA.1 69 0; rw [uI_k (by decide), uI_c (by decide), uI_k (by decide), uI_c (by decide), uI_k (by decide), uI_c (by decide), uI_k (by decide), uI_k (by decide)]) ?_
  refine Pa.inv (by rfl) (by rfl) (.inl rfl) (by rfl) ?_
  refine Pa.mono (c_kof N yA (uI (uI (uI (uI (uI (uI (uI (uI yA 69 85 0) 69 86 yc) 128 0 11) 69 85 1) 128 1 30) 69 85 2) 128 2 10) 69 85 3) yc (yA.1 69 0) (funext fun _ => by repeat rw [uI_c (by decide)]) (funext fun _ => by repeat rw [uI_c (by decide)]) (funext fun _ => by repeat rw [uI_c (by decide)])) (fun yu A1 hu => ?_)
  obtain ⟨rfl, hu⟩ := hu
  rw [hu]
  show Pa N 252 55 [(0, .ref 69), (1, .int 0), (2, .int yx)] [.int (kofM yA yc (yA.1 69 0)), .int yx] (uI (uI (uI (uI (uI (uI (uI (uI yA 69 85 0) 69 86 yc) 128 0 11) 69 85 1) 128 1 30) 69 85 2) 128 2 10) 69 85 3) _
  refine Pa.mp 1 (pc' := 56) (l' := [(0, .ref 69), (1, .int 0), (2, .int yx)]) (st' := [.int (yx + (kofM yA yc (yA.1 69 0)))]) (by rfl) ?_
  refine Pa.iret (by rfl) ?_
  show Pa N 252 72 [(0, .ref 69), (1, .int 2), (2, .int yx)] [.int (yx + (kofM yA yc (yA.1 69 0)))] (uI (uI (uI (uI (uI (uI (uI (uI yA 69 85 0) 69 86 yc) 128 0 11) 69 85 1) 128 1 30) 69 85 2) 128 2 10) 69 85 3) _
  refine Pa.ic (x := 4) (pc' := 73) (by rfl) (by rfl) (by decide) ?_
  refine Pa.mp 1 (pc' := 74) (l' := [(0, .ref 69), (1, .int 2), (2, .int yx)]) (st' := [.int ((yx + (kofM yA yc (yA.1 69 0))) - 4)]) (by rfl) ?_
  refine Pa.iret (by rfl) ?_
  show Pa N 252 102 [(0, .ref 69), (1, .int 3), (2, .int yx)] [.int ((yx + (kofM yA yc (yA.1 69 0))) - 4)] (uI (uI (uI (uI (uI (uI (uI (uI yA 69 85 0) 69 86 yc) 128 0 11) 69 85 1) 128 1 30) 69 85 2) 128 2 10) 69 85 3) _
  refine Pa.iret (by rfl) ?_
  show Pa N 253 64 [(0, .ref 69), (1, .int 0), (2, .int yx)] [.int ((yx + (kofM yA yc (yA.1 69 0))) - 4)] (uI (uI (uI (uI (uI (uI (uI (uI yA 69 85 0) 69 86 yc) 128 0 11) 69 85 1) 128 1 30) 69 85 2) 128 2 10) 69 85 3) _
  refine Pa.ic (x := 2) (pc' := 65) (by rfl) (by rfl) (by decide) ?_
  refine Pa.mp 1 (pc' := 66) (l' := [(0, .ref 69), (1, .int 0), (2, .int yx)]) (st' := [.int (((yx + (kofM yA yc (yA.1 69 0))) - 4) * 2)]) (by rfl) ?_
  refine Pa.iret (by rfl) ?_
  show Pa N 253 146 [(0, .ref 69), (1, .int 2), (2, .int yx)] [.int (((yx + (kofM yA yc (yA.1 69 0))) - 4) * 2)] (uI (uI (uI (uI (uI (uI (uI (uI yA 69 85 0) 69 86 yc) 128 0 11) 69 85 1) 128 1 30) 69 85 2) 128 2 10) 69 85 3) _
  refine Pa.iret (by rfl) ?_
  show Pa N 253 146 [(0, .ref 69), (1, .int 3), (2, .int yx)] [.int (((yx + (kofM yA yc (yA.1 69 0))) - 4) * 2)] (uI (uI (uI (uI (uI (uI (uI (uI yA 69 85 0) 69 86 yc) 128 0 11) 69 85 1) 128 1 30) 69 85 2) 128 2 10) 69 85 3) _
  refine Pa.iret (by rfl) ?_
  exact l1 h3 h4

theorem bpm1_4 {N : Nat} {yA : AW} {yQ : Option Value → AW → Prop} (yx yc : Int32) (hk : yA.1 89 yc.toInt.toNat = 4)
    (l1 : 0 ≤ yc.toInt → yc.toInt < 150 → yQ (some (.int (-((yx + (kofM yA yc (yA.1 69 0))) * 2)))) (uI (uI (uI (uI (uI (uI (uI (uI yA 69 85 0) 69 86 yc) 128 0 50) 69 85 1) 128 1 11) 69 85 2) 128 2 10) 69 85 3)) :
    Pa N 253 0 [(0, .ref 69), (1, .int 4), (2, .int yx)] [] (uI (uI yA 69 85 0) 69 86 yc) yQ := by
  refine Pa.mp 1 (pc' := 1) (l' := [(0, .ref 69), (1, .int 4), (2, .int yx)]) (st' := [.int 4]) (by rfl) ?_
  refine Pa.mp 1 (pc' := 86) (l' := [(0, .ref 69), (1, .int 4), (2, .int yx)]) (st' := []) (by rfl) ?_
  refine Pa.mp 1 (pc' := 87) (l' := [(0, .ref 69), (1, .int 4), (2, .int yx)]) (st' := [.ref 69]) (by rfl) ?_
  refine Pa.ic (x := 50) (pc' := 89) (by rfl) (by rfl) (by decide) ?_
  refine Pa.inv (by rfl) (by rfl) (.inl rfl) (by rfl) ?_
  show Pa N 251 0 [(0, .ref 69), (1, .int 50)] [] (uI (uI yA 69 85 0) 69 86 yc) _
  refine Pa.mp 1 (pc' := 1) (l' := [(0, .ref 69), (1, .int 50)]) (st' := [.ref 69]) (by rfl) ?_
  refine Pa.gfI (v := 0) (by rfl) (by rfl) (.inl rfl) (by rfl) (by show (uI (uI yA 69 85 0) 69 86 yc).1 69 85 = 0; rw [uI_k (by decide), uI_h]) ?_
  refine Pa.ic (x := 24) (pc' := 6) (by rfl) (by rfl) (by decide) ?_
  refine Pa.if2k false (by rfl) (by rfl) (by decide) ?_
  show Pa N 251 9 [(0, .ref 69), (1, .int 50)] [] (uI (uI yA 69 85 0) 69 86 yc) _
  refine Pa.mp 1 (pc' := 10) (l' := [(0, .ref 69), (1, .int 50)]) (st' := [.ref 69]) (by rfl) ?_
  refine Pa.gfR (by rfl) (by rfl) (.inl rfl) (by rfl) ?_
  show Pa N 251 13 [(0, .ref 69), (1, .int 50)] [.ref 128] (uI (uI yA 69 85 0) 69 86 yc) _
  refine Pa.mp 1 (pc' := 14) (l' := [(0, .ref 69), (1, .int 50)]) (st' := [.ref 69, .ref 128]) (by rfl) ?_
  refine Pa.gfI (v := 0) (by rfl) (by rfl) (.inl rfl) (by rfl) (by show (uI (uI yA 69 85 0) 69 86 yc).1 69 85 = 0; rw [uI_k (by decide), uI_h]) ?_
  refine Pa.mp 1 (pc' := 18) (l' := [(0, .ref 69), (1, .int 50)]) (st' := [.int 50, .int 0, .ref 128]) (by rfl) ?_
  refine Pa.asts (j' := 0) (by rfl) (by rfl) (by rfl) (fun h1 h2 => ?_)
  show Pa N 251 19 [(0, .ref 69), (1, .int 50)] [] (uI (uI (uI yA 69 85 0) 69 86 yc) 128 0 50) _
  refine Pa.mp 2 (pc' := 21) (l' := [(0, .ref 69), (1, .int 50)]) (st' := [.ref 69, .ref 69]) (by rfl) ?_
  refine Pa.gfI (v := 0) (by rfl) (by rfl) (.inl rfl) (by rfl) (by show (uI (uI (uI yA 69 85 0) 69 86 yc) 128 0 50).1 69 85 = 0; rw [uI_c (by decide), uI_k (by decide), uI_h]) ?_
  refine Pa.ic (x := 1) (pc' := 25) (by rfl) (by rfl) (by decide) ?_
  refine Pa.mp 1 (pc' := 26) (l' := [(0, .ref 69), (1, .int 50)]) (st' := [.int 1, .ref 69]) (by rfl) ?_
  refine Pa.pfI (by rfl) (by rfl) (.inl rfl) (by rfl) ?_
  show Pa N 251 29 [(0, .ref 69), (1, .int 50)] [] (uI (uI (uI (uI yA 69 85 0) 69 86 yc) 128 0 50) 69 85 1) _
  refine Pa.vret (by rfl) ?_
  show Pa N 253 92 [(0, .ref 69), (1, .int 4), (2, .int yx)] [] (uI (uI (uI (uI yA 69 85 0) 69 86 yc) 128 0 50) 69 85 1) _
  refine Pa.mp 1 (pc' := 93) (l' := [(0, .ref 69), (1, .int 4), (2, .int yx)]) (st' := [.ref 69]) (by rfl) ?_
  refine Pa.ic (x := 4) (pc' := 94) (by rfl) (by rfl) (by decide) ?_
  refine Pa.ist (by rfl) (by rfl) (.inl rfl) (by rfl) (by rfl) ?_
  show Pa N 250 0 [(0, .int 4)] [] (uI (uI (uI (uI yA 69 85 0) 69 86 yc) 128 0 50) 69 85 1) _
  refine Pa.mp 1 (pc' := 1) (l' := [(0, .int 4)]) (st' := [.int 4]) (by rfl) ?_
  refine Pa.ic (x := 5) (pc' := 2) (by rfl) (by rfl) (by decide) ?_
  refine Pa.if2k false (by rfl) (by rfl) (by decide) ?_
  show Pa N 250 5 [(0, .int 4)] [] (uI (uI (uI (uI yA 69 85 0) 69 86 yc) 128 0 50) 69 85 1) _
  refine Pa.mp 1 (pc' := 6) (l' := [(0, .int 4)]) (st' := [.int 4]) (by rfl) ?_
  refine Pa.ic (x := 3) (pc' := 7) (by rfl) (by rfl) (by decide) ?_
  refine Pa.if2k true (by rfl) (by rfl) (by decide) ?_
  show Pa N 250 14 [(0, .int 4)] [] (uI (uI (uI (uI yA 69 85 0) 69 86 yc) 128 0 50) 69 85 1) _
  refine Pa.mp 1 (pc' := 15) (l' := [(0, .int 4)]) (st' := [.int 4]) (by rfl) ?_
  refine Pa.ic (x := 6) (pc' := 17) (by rfl) (by rfl) (by decide) ?_
  refine Pa.if2k true (by rfl) (by rfl) (by decide) ?_
  show Pa N 250 24 [(0, .int 4)] [] (uI (uI (uI (uI yA 69 85 0) 69 86 yc) 128 0 50) 69 85 1) _
  refine Pa.ic (x := 0) (pc' := 25) (by rfl) (by rfl) (by decide) ?_
  refine Pa.iret (by rfl) ?_
  show Pa N 253 97 [(0, .ref 69), (1, .int 4), (2, .int yx)] [.int 0, .ref 69] (uI (uI (uI (uI yA 69 85 0) 69 86 yc) 128 0 50) 69 85 1) _
  refine Pa.mp 1 (pc' := 98) (l' := [(0, .ref 69), (1, .int 4), (2, .int yx)]) (st' := [.int yx, .int 0, .ref 69]) (by rfl) ?_
  refine Pa.inv (by rfl) (by rfl) (.inl rfl) (by rfl) ?_
  show Pa N 253 0 [(0, .ref 69), (1, .int 0), (2, .int yx)] [] (uI (uI (uI (uI yA 69 85 0) 69 86 yc) 128 0 50) 69 85 1) _
  refine Pa.mp 1 (pc' := 1) (l' := [(0, .ref 69), (1, .int 0), (2, .int yx)]) (st' := [.int 0]) (by rfl) ?_
  refine Pa.mp 1 (pc' := 44) (l' := [(0, .ref 69), (1, .int 0), (2, .int yx)]) (st' := []) (by rfl) ?_
  refine Pa.mp 1 (pc' := 45) (l' := [(0, .ref 69), (1, .int 0), (2, .int yx)]) (st' := [.ref 69]) (by rfl) ?_
  refine Pa.ic (x := 11) (pc' := 47) (by rfl) (by rfl) (by decide) ?_
  refine Pa.inv (by rfl) (by rfl) (.inl rfl) (by rfl) ?_
  show Pa N 251 0 [(0, .ref 69), (1, .int 11)] [] (uI (uI (uI (uI yA 69 85 0) 69 86 yc) 128 0 50) 69 85 1) _
  refine Pa.mp 1 (pc' := 1) (l' := [(0, .ref 69), (1, .int 11)]) (st' := [.ref 69]) (by rfl) ?_
  refine Pa.gfI (v := 1) (by rfl) (by rfl) (.inl rfl) (by rfl) (by show (uI (uI (uI (uI yA 69 85 0) 69 86 yc) 128 0 50) 69 85 1).1 69 85 = 1; rw [uI_h]) ?_
  refine Pa.ic (x := 24) (pc' := 6) (by rfl) (by rfl) (by decide) ?_
  refine Pa.if2k false (by rfl) (by rfl) (by decide) ?_
  show Pa N 251 9 [(0, .ref 69), (1, .int 11)] [] (uI (uI (uI (uI yA 69 85 0) 69 86 yc) 128 0 50) 69 85 1) _
  refine Pa.mp 1 (pc' := 10) (l' := [(0, .ref 69), (1, .int 11)]) (st' := [.ref 69]) (by rfl) ?_
  refine Pa.gfR (by rfl) (by rfl) (.inl rfl) (by rfl) ?_
  show Pa N 251 13 [(0, .ref 69), (1, .int 11)] [.ref 128] (uI (uI (uI (uI yA 69 85 0) 69 86 yc) 128 0 50) 69 85 1) _
  refine Pa.mp 1 (pc' := 14) (l' := [(0, .ref 69), (1, .int 11)]) (st' := [.ref 69, .ref 128]) (by rfl) ?_
  refine Pa.gfI (v := 1) (by rfl) (by rfl) (.inl rfl) (by rfl) (by show (uI (uI (uI (uI yA 69 85 0) 69 86 yc) 128 0 50) 69 85 1).1 69 85 = 1; rw [uI_h]) ?_
  refine Pa.mp 1 (pc' := 18) (l' := [(0, .ref 69), (1, .int 11)]) (st' := [.int 11, .int 1, .ref 128]) (by rfl) ?_
  refine Pa.asts (j' := 1) (by rfl) (by rfl) (by rfl) (fun h3 h4 => ?_)
  show Pa N 251 19 [(0, .ref 69), (1, .int 11)] [] (uI (uI (uI (uI (uI yA 69 85 0) 69 86 yc) 128 0 50) 69 85 1) 128 1 11) _
  refine Pa.mp 2 (pc' := 21) (l' := [(0, .ref 69), (1, .int 11)]) (st' := [.ref 69, .ref 69]) (by rfl) ?_
  refine Pa.gfI (v := 1) (by rfl) (by rfl) (.inl rfl) (by rfl) (by show (uI (uI (uI (uI (uI yA 69 85 0) 69 86 yc) 128 0 50) 69 85 1) 128 1 11).1 69 85 = 1; rw [uI_c (by decide), uI_h]) ?_
  refine Pa.ic (x := 1) (pc' := 25) (by rfl) (by rfl) (by decide) ?_
  refine Pa.mp 1 (pc' := 26) (l' := [(0, .ref 69), (1, .int 11)]) (st' := [.int 2, .ref 69]) (by rfl) ?_
  refine Pa.pfI (by rfl) (by rfl) (.inl rfl) (by rfl) ?_
  show Pa N 251 29 [(0, .ref 69), (1, .int 11)] [] (uI (uI (uI (uI (uI (uI yA 69 85 0) 69 86 yc) 128 0 50) 69 85 1) 128 1 11) 69 85 2) _
  refine Pa.vret (by rfl) ?_
  show Pa N 253 50 [(0, .ref 69), (1, .int 0), (2, .int yx)] [] (uI (uI (uI (uI (uI (uI yA 69 85 0) 69 86 yc) 128 0 50) 69 85 1) 128 1 11) 69 85 2) _
  refine Pa.mp 2 (pc' := 52) (l' := [(0, .ref 69), (1, .int 0), (2, .int yx)]) (st' := [.ref 69, .ref 69]) (by rfl) ?_
  refine Pa.gfR (by rfl) (by rfl) (.inl rfl) (by rfl) ?_
  show Pa N 253 55 [(0, .ref 69), (1, .int 0), (2, .int yx)] [.ref 89, .ref 69] (uI (uI (uI (uI (uI (uI yA 69 85 0) 69 86 yc) 128 0 50) 69 85 1) 128 1 11) 69 85 2) _
  refine Pa.mp 1 (pc' := 56) (l' := [(0, .ref 69), (1, .int 0), (2, .int yx)]) (st' := [.ref 69, .ref 89, .ref 69]) (by rfl) ?_
  refine Pa.gfI (v := yc) (by rfl) (by rfl) (.inl rfl) (by rfl) (by show (uI (uI (uI (uI (uI (uI yA 69 85 0) 69 86 yc) 128 0 50) 69 85 1) 128 1 11) 69 85 2).1 69 86 = yc; rw [uI_k (by decide), uI_c (by decide), uI_k (by decide), uI_c (by decide), uI_h]) ?_
  refine Pa.alds (v := 4) (by rfl) (by rfl) (by show (uI (uI (uI (uI (uI (uI yA 69 85 0) 69 86 yc) 128 0 50) 69 85 1) 128 1 11) 69 85 2).1 89 yc.toInt.toNat = 4; rw [uI_c (by decide), uI_c (by decide), uI_c (by decide), uI_c (by decide), uI_c (by decide), uI_c (by decide), hk]) (fun h5 h6 => ?_)
  have h5 : 0 ≤ yc.toInt := h5
  have h6 : yc.toInt < 150 := h6
  refine Pa.mp 1 (pc' := 61) (l' := [(0, .ref 69), (1, .int 0), (2, .int yx)]) (st' := [.int yx, .int 4, .ref 69]) (by rfl) ?_
  refine Pa.inv (by rfl) (by rfl) (.inl rfl) (by rfl) ?_
  show Pa N 252 0 [(0, .ref 69), (1, .int 4), (2, .int yx)] [] (uI (uI (uI (uI (uI (uI yA 69 85 0) 69 86 yc) 128 0 50) 69 85 1) 128 1 11) 69 85 2) _
  refine Pa.mp 1 (pc' := 1) (l' := [(0, .ref 69), (1, .int 4), (2, .int yx)]) (st' := [.int 4]) (by rfl) ?_
  refine Pa.mp 1 (pc' := 93) (l' := [(0, .ref 69), (1, .int 4), (2, .int yx)]) (st' := []) (by rfl) ?_
  refine Pa.mp 2 (pc' := 95) (l' := [(0, .ref 69), (1, .int 4), (2, .int yx)]) (st' := [.int 4, .ref 69]) (by rfl) ?_
  refine Pa.ist (by rfl) (by rfl) (.inl rfl) (by rfl) (by rfl) ?_
  show Pa N 250 0 [(0, .int 4)] [] (uI (uI (uI (uI (uI (uI yA 69 85 0) 69 86 yc) 128 0 50) 69 85 1) 128 1 11) 69 85 2) _
  refine Pa.mp 1 (pc' := 1) (l' := [(0, .int 4)]) (st' := [.int 4]) (by rfl) ?_
  refine Pa.ic (x := 5) (pc' := 2) (by rfl) (by rfl) (by decide) ?_
  refine Pa.if2k false (by rfl) (by rfl) (by decide) ?_
  show Pa N 250 5 [(0, .int 4)] [] (uI (uI (uI (uI (uI (uI yA 69 85 0) 69 86 yc) 128 0 50) 69 85 1) 128 1 11) 69 85 2) _
  refine Pa.mp 1 (pc' := 6) (l' := [(0, .int 4)]) (st' := [.int 4]) (by rfl) ?_
  refine Pa.ic (x := 3) (pc' := 7) (by rfl) (by rfl) (by decide) ?_
  refine Pa.if2k true (by rfl) (by rfl) (by decide) ?_
  show Pa N 250 14 [(0, .int 4)] [] (uI (uI (uI (uI (uI (uI yA 69 85 0) 69 86 yc) 128 0 50) 69 85 1) 128 1 11) 69 85 2) _
  refine Pa.mp 1 (pc' := 15) (l' := [(0, .int 4)]) (st' := [.int 4]) (by rfl) ?_
  refine Pa.ic (x := 6) (pc' := 17) (by rfl) (by rfl) (by decide) ?_
  refine Pa.if2k true (by rfl) (by rfl) (by decide) ?_
  show Pa N 250 24 [(0, .int 4)] [] (uI (uI (uI (uI (uI (uI yA 69 85 0) 69 86 yc) 128 0 50) 69 85 1) 128 1 11) 69 85 2) _
  refine Pa.ic (x := 0) (pc' := 25) (by rfl) (by rfl) (by decide) ?_
  refine Pa.iret (by rfl) ?_
  show Pa N 252 98 [(0, .ref 69), (1, .int 4), (2, .int yx)] [.int 0, .ref 69] (uI (uI (uI (uI (uI (uI yA 69 85 0) 69 86 yc) 128 0 50) 69 85 1) 128 1 11) 69 85 2) _
  refine Pa.mp 1 (pc' := 99) (l' := [(0, .ref 69), (1, .int 4), (2, .int yx)]) (st' := [.int yx, .int 0, .ref 69]) (by rfl) ?_
  refine Pa.inv (by rfl) (by rfl) (.inl rfl) (by rfl) ?_
  show Pa N 252 0 [(0, .ref 69), (1, .int 0), (2, .int yx)] [] (uI (uI (uI (uI (uI (uI yA 69 85 0) 69 86 yc) 128 0 50) 69 85 1) 128 1 11) 69 85 2) _
  refine Pa.mp 1 (pc' := 1) (l' := [(0, .ref 69), (1, .int 0), (2, .int yx)]) (st' := [.int 0]) (by rfl) ?_
  refine Pa.mp 1 (pc' := 36) (l' := [(0, .ref 69), (1, .int 0), (2, .int yx)]) (st' := []) (by rfl) ?_
  refine Pa.mp 1 (pc' := 37) (l' := [(0, .ref 69), (1, .int 0), (2, .int yx)]) (st' := [.ref 69]) (by rfl) ?_
  refine Pa.ic (x := 10) (pc' := 39) (by rfl) (by rfl) (by decide) ?_
  refine Pa.inv (by rfl) (by rfl) (.inl rfl) (by rfl) ?_
  show Pa N 251 0 [(0, .ref 69), (1, .int 10)] [] (uI (uI (uI (uI (uI (uI yA 69 85 0) 69 86 yc) 128 0 50) 69 85 1) 128 1 11) 69 85 2) _
  refine Pa.mp 1 (pc' := 1) (l' := [(0, .ref 69), (1, .int 10)]) (st' := [.ref 69]) (by rfl) ?_
  refine Pa.gfI (v := 2) (by rfl) (by rfl) (.inl rfl) (by rfl) (by show (uI (uI (uI (uI (uI (uI yA 69 85 0) 69 86 yc) 128 0 50) 69 85 1) 128 1 11) 69 85 2).1 69 85 = 2; rw [uI_h]) ?_
  refine Pa.ic (x := 24) (pc' := 6) (by rfl) (by rfl) (by decide) ?_
  refine Pa.if2k false (by rfl) (by rfl) (by decide) ?_
  show Pa N 251 9 [(0, .ref 69), (1, .int 10)] [] (uI (uI (uI (uI (uI (uI yA 69 85 0) 69 86 yc) 128 0 50) 69 85 1) 128 1 11) 69 85 2) _
  refine Pa.mp 1 (pc' := 10) (l' := [(0, .ref 69), (1, .int 10)]) (st' := [.ref 69]) (by rfl) ?_
  refine Pa.gfR (by rfl) (by rfl) (.inl rfl) (by rfl) ?_
  show Pa N 251 13 [(0, .ref 69), (1, .int 10)] [.ref 128] (uI (uI (uI (uI (uI (uI yA 69 85 0) 69 86 yc) 128 0 50) 69 85 1) 128 1 11) 69 85 2) _
  refine Pa.mp 1 (pc' := 14) (l' := [(0, .ref 69), (1, .int 10)]) (st' := [.ref 69, .ref 128]) (by rfl) ?_
  refine Pa.gfI (v := 2) (by rfl) (by rfl) (.inl rfl) (by rfl) (by show (uI (uI (uI (uI (uI (uI yA 69 85 0) 69 86 yc) 128 0 50) 69 85 1) 128 1 11) 69 85 2).1 69 85 = 2; rw [uI_h]) ?_
  refine Pa.mp 1 (pc' := 18) (l' := [(0, .ref 69), (1, .int 10)]) (st' := [.int 10, .int 2, .ref 128]) (by rfl) ?_
  refine Pa.asts (j' := 2) (by rfl) (by rfl) (by rfl) (fun h7 h8 => ?_)
  show Pa N 251 19 [(0, .ref 69), (1, .int 10)] [] (uI (uI (uI (uI (uI (uI (uI yA 69 85 0) 69 86 yc) 128 0 50) 69 85 1) 128 1 11) 69 85 2) 128 2 10) _
  refine Pa.mp 2 (pc' := 21) (l' := [(0, .ref 69), (1, .int 10)]) (st' := [.ref 69, .ref 69]) (by rfl) ?_
  refine Pa.gfI (v := 2) (by rfl) (by rfl) (.inl rfl) (by rfl) (by show (uI (uI (uI (uI (uI (uI (uI yA 69 85 0) 69 86 yc) 128 0 50) 69 85 1) 128 1 11) 69 85 2) 128 2 10).1 69 85 = 2; rw [uI_c (by decide), uI_h]) ?_
  refine Pa.ic (x := 1) (pc' := 25) (by rfl) (by rfl) (by decide) ?_
  refine Pa.mp 1 (pc' := 26) (l' := [(0, .ref 69), (1, .int 10)]) (st' := [.int 3, .ref 69]) (by rfl) ?_
  refine Pa.pfI (by rfl) (by rfl) (.inl rfl) (by rfl) ?_
  show Pa N 251 29 [(0, .ref 69), (1, .int 10)] [] (uI (uI (uI (uI (uI (uI (uI (uI yA 69 85 0) 69 86 yc) 128 0 50) 69 85 1) 128 1 11) 69 85 2) 128 2 10) 69 85 3) _
  refine Pa.vret (by rfl) ?_
  show Pa N 252 42 [(0, .ref 69), (1, .int 0), (2, .int yx)] [] (uI (uI (uI (uI (uI (uI (uI (uI yA 69 85 0) 69 86 yc) 128 0 50) 69 85 1) 128 1 11) 69 85 2) 128 2 10) 69 85 3) _
  refine Pa.mp 3 (pc' := 45) (l' := [(0, .ref 69), (1, .int 0), (2, .int yx)]) (st' := [.ref 69, .ref 69, .int yx]) (by rfl) ?_
  refine Pa.gfI (v := yc) (by rfl) (by rfl) (.inl rfl) (by rfl) (by show (uI (uI (uI (uI (uI (uI (uI (uI yA 69 85 0) 69 86 yc) 128 0 50) 69 85 1) 128 1 11) 69 85 2) 128 2 10) 69 85 3).1 69 86 = yc; rw [uI_k (by decide), uI_c (by decide), uI_k (by decide), uI_c (by decide), uI_k (by decide), uI_c (by decide), uI_h]) ?_
  refine Pa.mp 1 (pc' := 49) (l' := [(0, .ref 69), (1, .int 0), (2, .int yx)]) (st' := [.ref 69, .int yc, .ref 69, .int yx]) (by rfl) ?_
  refine Pa.gfI (v := yA.1 69 0) (by rfl) (by rfl) (.inl rfl) (by rfl) (by show (uI (uI (uI (uI (uI (uI (uI (uI yA 69 85 0) 69 86 yc) 128 0 50) 69 85 1) 128 1 11) 69 85 2) 128 2 10) 69 85 3).1 69 0 = yA.1 69 0; rw [uI_k (by decide), uI_c (by decide), uI_k (by decide), uI_c (by decide), uI_k (by decide), uI_c (by decide), uI_k (by decide), uI_k (by decide)]) ?_
  refine Pa.inv (by rfl) (by rfl) (.inl rfl) (by rfl) ?_
  refine Pa.mono (c_kof N yA (uI (uI (uI (uI (uI (uI (uI (uI yA 69 85 0) 69 86 yc) 128 0 50) 69 85 1) 128 1 11) 69 85 2) 128 2 10) 69 85 3) yc (yA.1 69 0) (funext fun _ => by repeat rw [uI_c (by decide)]) (funext fun _ => by repeat rw [uI_c (by decide)]) (funext fun _ => by repeat rw [uI_c (by decide)])) (fun yu A1 hu => ?_)
  obtain ⟨rfl, hu⟩ := hu
  rw [hu]
  show Pa N 252 55 [(0, .ref 69), (1, .int 0), (2, .int yx)] [.int (kofM yA yc (yA.1 69 0)), .int yx] (uI (uI (uI (uI (uI (uI (uI (uI yA 69 85 0) 69 86 yc) 128 0 50) 69 85 1) 128 1 11) 69 85 2) 128 2 10) 69 85 3) _
  refine Pa.mp 1 (pc' := 56) (l' := [(0, .ref 69), (1, .int 0), (2, .int yx)]) (st' := [.int (yx + (kofM yA yc (yA.1 69 0)))]) (by rfl) ?_
  refine Pa.iret (by rfl) ?_
  show Pa N 252 102 [(0, .ref 69), (1, .int 4), (2, .int yx)] [.int (yx + (kofM yA yc (yA.1 69 0)))] (uI (uI (uI (uI (uI (uI (uI (uI yA 69 85 0) 69 86 yc) 128 0 50) 69 85 1) 128 1 11) 69 85 2) 128 2 10) 69 85 3) _
  refine Pa.iret (by rfl) ?_
  show Pa N 253 64 [(0, .ref 69), (1, .int 0), (2, .int yx)] [.int (yx + (kofM yA yc (yA.1 69 0)))] (uI (uI (uI (uI (uI (uI (uI (uI yA 69 85 0) 69 86 yc) 128 0 50) 69 85 1) 128 1 11) 69 85 2) 128 2 10) 69 85 3) _
  refine Pa.ic (x := 2) (pc' := 65) (by rfl) (by rfl) (by decide) ?_
  refine Pa.mp 1 (pc' := 66) (l' := [(0, .ref 69), (1, .int 0), (2, .int yx)]) (st' := [.int ((yx + (kofM yA yc (yA.1 69 0))) * 2)]) (by rfl) ?_
  refine Pa.iret (by rfl) ?_
  show Pa N 253 101 [(0, .ref 69), (1, .int 4), (2, .int yx)] [.int ((yx + (kofM yA yc (yA.1 69 0))) * 2)] (uI (uI (uI (uI (uI (uI (uI (uI yA 69 85 0) 69 86 yc) 128 0 50) 69 85 1) 128 1 11) 69 85 2) 128 2 10) 69 85 3) _
  refine Pa.mp 1 (pc' := 102) (l' := [(0, .ref 69), (1, .int 4), (2, .int yx)]) (st' := [.int (-((yx + (kofM yA yc (yA.1 69 0))) * 2))]) (by rfl) ?_
  refine Pa.iret (by rfl) ?_
  exact l1 h5 h6

theorem bpm1_5 {N : Nat} {yA : AW} {yQ : Option Value → AW → Prop} (yx yc : Int32) (hk : yA.1 89 yc.toInt.toNat = 5)
    (l1 : 0 ≤ yc.toInt → yc.toInt < 150 → yQ (some (.int ((((yx + 1) + (kofM yA yc (yA.1 69 0))) - 4) * 2))) (uI (uI (uI (uI (uI (uI (uI (uI (uI (uI yA 69 85 0) 69 86 yc) 128 0 11) 69 85 1) 128 1 60) 69 85 2) 128 2 30) 69 85 3) 128 3 10) 69 85 4)) :
    Pa N 253 0 [(0, .ref 69), (1, .int 5), (2, .int yx)] [] (uI (uI yA 69 85 0) 69 86 yc) yQ := by
  refine Pa.mp 1 (pc' := 1) (l' := [(0, .ref 69), (1, .int 5), (2, .int yx)]) (st' := [.int 5]) (by rfl) ?_
  refine Pa.mp 1 (pc' := 137) (l' := [(0, .ref 69), (1, .int 5), (2, .int yx)]) (st' := []) (by rfl) ?_
  refine Pa.mp 2 (pc' := 139) (l' := [(0, .ref 69), (1, .int 5), (2, .int yx)]) (st' := [.int 5, .ref 69]) (by rfl) ?_
  refine Pa.ist (by rfl) (by rfl) (.inl rfl) (by rfl) (by rfl) ?_
  show Pa N 250 0 [(0, .int 5)] [] (uI (uI yA 69 85 0) 69 86 yc) _
  refine Pa.mp 1 (pc' := 1) (l' := [(0, .int 5)]) (st' := [.int 5]) (by rfl) ?_
  refine Pa.ic (x := 5) (pc' := 2) (by rfl) (by rfl) (by decide) ?_
  refine Pa.if2k true (by rfl) (by rfl) (by decide) ?_
  show Pa N 250 10 [(0, .int 5)] [] (uI (uI yA 69 85 0) 69 86 yc) _
  refine Pa.ic (x := 2) (pc' := 11) (by rfl) (by rfl) (by decide) ?_
  refine Pa.mp 1 (pc' := 25) (l' := [(0, .int 5)]) (st' := [.int 2]) (by rfl) ?_
  refine Pa.iret (by rfl) ?_
  show Pa N 253 142 [(0, .ref 69), (1, .int 5), (2, .int yx)] [.int 2, .ref 69] (uI (uI yA 69 85 0) 69 86 yc) _
  refine Pa.mp 1 (pc' := 143) (l' := [(0, .ref 69), (1, .int 5), (2, .int yx)]) (st' := [.int yx, .int 2, .ref 69]) (by rfl) ?_
  refine Pa.inv (by rfl) (by rfl) (.inl rfl) (by rfl) ?_
  show Pa N 253 0 [(0, .ref 69), (1, .int 2), (2, .int yx)] [] (uI (uI yA 69 85 0) 69 86 yc) _
  refine Pa.mp 1 (pc' := 1) (l' := [(0, .ref 69), (1, .int 2), (2, .int yx)]) (st' := [.int 2]) (by rfl) ?_
  refine Pa.mp 1 (pc' := 137) (l' := [(0, .ref 69), (1, .int 2), (2, .int yx)]) (st' := []) (by rfl) ?_
  refine Pa.mp 2 (pc' := 139) (l' := [(0, .ref 69), (1, .int 2), (2, .int yx)]) (st' := [.int 2, .ref 69]) (by rfl) ?_
  refine Pa.ist (by rfl) (by rfl) (.inl rfl) (by rfl) (by rfl) ?_
  show Pa N 250 0 [(0, .int 2)] [] (uI (uI yA 69 85 0) 69 86 yc) _
  refine Pa.mp 1 (pc' := 1) (l' := [(0, .int 2)]) (st' := [.int 2]) (by rfl) ?_
  refine Pa.ic (x := 5) (pc' := 2) (by rfl) (by rfl) (by decide) ?_
  refine Pa.if2k false (by rfl) (by rfl) (by decide) ?_
  show Pa N 250 5 [(0, .int 2)] [] (uI (uI yA 69 85 0) 69 86 yc) _
  refine Pa.mp 1 (pc' := 6) (l' := [(0, .int 2)]) (st' := [.int 2]) (by rfl) ?_
  refine Pa.ic (x := 3) (pc' := 7) (by rfl) (by rfl) (by decide) ?_
  refine Pa.if2k true (by rfl) (by rfl) (by decide) ?_
  show Pa N 250 14 [(0, .int 2)] [] (uI (uI yA 69 85 0) 69 86 yc) _
  refine Pa.mp 1 (pc' := 15) (l' := [(0, .int 2)]) (st' := [.int 2]) (by rfl) ?_
  refine Pa.ic (x := 6) (pc' := 17) (by rfl) (by rfl) (by decide) ?_
  refine Pa.if2k true (by rfl) (by rfl) (by decide) ?_
  show Pa N 250 24 [(0, .int 2)] [] (uI (uI yA 69 85 0) 69 86 yc) _
  refine Pa.ic (x := 0) (pc' := 25) (by rfl) (by rfl) (by decide) ?_
  refine Pa.iret (by rfl) ?_
  show Pa N 253 142 [(0, .ref 69), (1, .int 2), (2, .int yx)] [.int 0, .ref 69] (uI (uI yA 69 85 0) 69 86 yc) _
  refine Pa.mp 1 (pc' := 143) (l' := [(0, .ref 69), (1, .int 2), (2, .int yx)]) (st' := [.int yx, .int 0, .ref 69]) (by rfl) ?_
  refine Pa.inv (by rfl) (by rfl) (.inl rfl) (by rfl) ?_
  show Pa N 253 0 [(0, .ref 69), (1, .int 0), (2, .int yx)] [] (uI (uI yA 69 85 0) 69 86 yc) _
  refine Pa.mp 1 (pc' := 1) (l' := [(0, .ref 69), (1, .int 0), (2, .int yx)]) (st' := [.int 0]) (by rfl) ?_
  refine Pa.mp 1 (pc' := 44) (l' := [(0, .ref 69), (1, .int 0), (2, .int yx)]) (st' := []) (by rfl) ?_
  refine Pa.mp 1 (pc' := 45) (l' := [(0, .ref 69), (1, .int 0), (2, .int yx)]) (st' := [.ref 69]) (by rfl) ?_
  refine Pa.ic (x := 11) (pc' := 47) (by rfl) (by rfl) (by decide) ?_
  refine Pa.inv (by rfl) (by rfl) (.inl rfl) (by rfl) ?_
  show Pa N 251 0 [(0, .ref 69), (1, .int 11)] [] (uI (uI yA 69 85 0) 69 86 yc) _
  refine Pa.mp 1 (pc' := 1) (l' := [(0, .ref 69), (1, .int 11)]) (st' := [.ref 69]) (by rfl) ?_
  refine Pa.gfI (v := 0) (by rfl) (by rfl) (.inl rfl) (by rfl) (by show (uI (uI yA 69 85 0) 69 86 yc).1 69 85 = 0; rw [uI_k (by decide), uI_h]) ?_
  refine Pa.ic (x := 24) (pc' := 6) (by rfl) (by rfl) (by decide) ?_
  refine Pa.if2k false (by rfl) (by rfl) (by decide) ?_
  show Pa N 251 9 [(0, .ref 69), (1, .int 11)] [] (uI (uI yA 69 85 0) 69 86 yc) _
  refine Pa.mp 1 (pc' := 10) (l' := [(0, .ref 69), (1, .int 11)]) (st' := [.ref 69]) (by rfl) ?_
  refine Pa.gfR (by rfl) (by rfl) (.inl rfl) (by rfl) ?_
  show Pa N 251 13 [(0, .ref 69), (1, .int 11)] [.ref 128] (uI (uI yA 69 85 0) 69 86 yc) _
  refine Pa.mp 1 (pc' := 14) (l' := [(0, .ref 69), (1, .int 11)]) (st' := [.ref 69, .ref 128]) (by rfl) ?_
  refine Pa.gfI (v := 0) (by rfl) (by rfl) (.inl rfl) (by rfl) (by show (uI (uI yA 69 85 0) 69 86 yc).1 69 85 = 0; rw [uI_k (by decide), uI_h]) ?_
  refine Pa.mp 1 (pc' := 18) (l' := [(0, .ref 69), (1, .int 11)]) (st' := [.int 11, .int 0, .ref 128]) (by rfl) ?_
  refine Pa.asts (j' := 0) (by rfl) (by rfl) (by rfl) (fun h1 h2 => ?_)
  show Pa N 251 19 [(0, .ref 69), (1, .int 11)] [] (uI (uI (uI yA 69 85 0) 69 86 yc) 128 0 11) _
  refine Pa.mp 2 (pc' := 21) (l' := [(0, .ref 69), (1, .int 11)]) (st' := [.ref 69, .ref 69]) (by rfl) ?_
  refine Pa.gfI (v := 0) (by rfl) (by rfl) (.inl rfl) (by rfl) (by show (uI (uI (uI yA 69 85 0) 69 86 yc) 128 0 11).1 69 85 = 0; rw [uI_c (by decide), uI_k (by decide), uI_h]) ?_
  refine Pa.ic (x := 1) (pc' := 25) (by rfl) (by rfl) (by decide) ?_
  refine Pa.mp 1 (pc' := 26) (l' := [(0, .ref 69), (1, .int 11)]) (st' := [.int 1, .ref 69]) (by rfl) ?_
  refine Pa.pfI (by rfl) (by rfl) (.inl rfl) (by rfl) ?_
  show Pa N 251 29 [(0, .ref 69), (1, .int 11)] [] (uI (uI (uI (uI yA 69 85 0) 69 86 yc) 128 0 11) 69 85 1) _
  refine Pa.vret (by rfl) ?_
  show Pa N 253 50 [(0, .ref 69), (1, .int 0), (2, .int yx)] [] (uI (uI (uI (uI yA 69 85 0) 69 86 yc) 128 0 11) 69 85 1) _
  refine Pa.mp 2 (pc' := 52) (l' := [(0, .ref 69), (1, .int 0), (2, .int yx)]) (st' := [.ref 69, .ref 69]) (by rfl) ?_
  refine Pa.gfR (by rfl) (by rfl) (.inl rfl) (by rfl) ?_
  show Pa N 253 55 [(0, .ref 69), (1, .int 0), (2, .int yx)] [.ref 89, .ref 69] (uI (uI (uI (uI yA 69 85 0) 69 86 yc) 128 0 11) 69 85 1) _
  refine Pa.mp 1 (pc' := 56) (l' := [(0, .ref 69), (1, .int 0), (2, .int yx)]) (st' := [.ref 69, .ref 89, .ref 69]) (by rfl) ?_
  refine Pa.gfI (v := yc) (by rfl) (by rfl) (.inl rfl) (by rfl) (by show (uI (uI (uI (uI yA 69 85 0) 69 86 yc) 128 0 11) 69 85 1).1 69 86 = yc; rw [uI_k (by decide), uI_c (by decide), uI_h]) ?_
  refine Pa.alds (v := 5) (by rfl) (by rfl) (by show (uI (uI (uI (uI yA 69 85 0) 69 86 yc) 128 0 11) 69 85 1).1 89 yc.toInt.toNat = 5; rw [uI_c (by decide), uI_c (by decide), uI_c (by decide), uI_c (by decide), hk]) (fun h3 h4 => ?_)
  have h3 : 0 ≤ yc.toInt := h3
  have h4 : yc.toInt < 150 := h4
  refine Pa.mp 1 (pc' := 61) (l' := [(0, .ref 69), (1, .int 0), (2, .int yx)]) (st' := [.int yx, .int 5, .ref 69]) (by rfl) ?_
  refine Pa.inv (by rfl) (by rfl) (.inl rfl) (by rfl) ?_
  show Pa N 252 0 [(0, .ref 69), (1, .int 5), (2, .int yx)] [] (uI (uI (uI (uI yA 69 85 0) 69 86 yc) 128 0 11) 69 85 1) _
  refine Pa.mp 1 (pc' := 1) (l' := [(0, .ref 69), (1, .int 5), (2, .int yx)]) (st' := [.int 5]) (by rfl) ?_
  refine Pa.mp 1 (pc' := 75) (l' := [(0, .ref 69), (1, .int 5), (2, .int yx)]) (st' := []) (by rfl) ?_
  refine Pa.mp 1 (pc' := 76) (l' := [(0, .ref 69), (1, .int 5), (2, .int yx)]) (st' := [.ref 69]) (by rfl) ?_
  refine Pa.ic (x := 60) (pc' := 78) (by rfl) (by rfl) (by decide) ?_
  refine Pa.inv (by rfl) (by rfl) (.inl rfl) (by rfl) ?_
  show Pa N 251 0 [(0, .ref 69), (1, .int 60)] [] (uI (uI (uI (uI yA 69 85 0) 69 86 yc) 128 0 11) 69 85 1) _
  refine Pa.mp 1 (pc' := 1) (l' := [(0, .ref 69), (1, .int 60)]) (st' := [.ref 69]) (by rfl) ?_
  refine Pa.gfI (v := 1) (by rfl) (by rfl) (.inl rfl) (by rfl) (by show (uI (uI (uI (uI yA 69 85 0) 69 86 yc) 128 0 11) 69 85 1).1 69 85 = 1; rw [uI_h]) ?_
  refine Pa.ic (x := 24) (pc' := 6) (by rfl) (by rfl) (by decide) ?_
  refine Pa.if2k false (by rfl) (by rfl) (by decide) ?_
  show Pa N 251 9 [(0, .ref 69), (1, .int 60)] [] (uI (uI (uI (uI yA 69 85 0) 69 86 yc) 128 0 11) 69 85 1) _
  refine Pa.mp 1 (pc' := 10) (l' := [(0, .ref 69), (1, .int 60)]) (st' := [.ref 69]) (by rfl) ?_
  refine Pa.gfR (by rfl) (by rfl) (.inl rfl) (by rfl) ?_
  show Pa N 251 13 [(0, .ref 69), (1, .int 60)] [.ref 128] (uI (uI (uI (uI yA 69 85 0) 69 86 yc) 128 0 11) 69 85 1) _
  refine Pa.mp 1 (pc' := 14) (l' := [(0, .ref 69), (1, .int 60)]) (st' := [.ref 69, .ref 128]) (by rfl) ?_
  refine Pa.gfI (v := 1) (by rfl) (by rfl) (.inl rfl) (by rfl) (by show (uI (uI (uI (uI yA 69 85 0) 69 86 yc) 128 0 11) 69 85 1).1 69 85 = 1; rw [uI_h]) ?_
  refine Pa.mp 1 (pc' := 18) (l' := [(0, .ref 69), (1, .int 60)]) (st' := [.int 60, .int 1, .ref 128]) (by rfl) ?_
  refine Pa.asts (j' := 1) (by rfl) (by rfl) (by rfl) (fun h5 h6 => ?_)
  show Pa N 251 19 [(0, .ref 69), (1, .int 60)] [] (uI (uI (uI (uI (uI yA 69 85 0) 69 86 yc) 128 0 11) 69 85 1) 128 1 60) _
  refine Pa.mp 2 (pc' := 21) (l' := [(0, .ref 69), (1, .int 60)]) (st' := [.ref 69, .ref 69]) (by rfl) ?_
  refine Pa.gfI (v := 1) (by rfl) (by rfl) (.inl rfl) (by rfl) (by show (uI (uI (uI (uI (uI yA 69 85 0) 69 86 yc) 128 0 11) 69 85 1) 128 1 60).1 69 85 = 1; rw [uI_c (by decide), uI_h]) ?_
  refine Pa.ic (x := 1) (pc' := 25) (by rfl) (by rfl) (by decide) ?_
  refine Pa.mp 1 (pc' := 26) (l' := [(0, .ref 69), (1, .int 60)]) (st' := [.int 2, .ref 69]) (by rfl) ?_
  refine Pa.pfI (by rfl) (by rfl) (.inl rfl) (by rfl) ?_
  show Pa N 251 29 [(0, .ref 69), (1, .int 60)] [] (uI (uI (uI (uI (uI (uI yA 69 85 0) 69 86 yc) 128 0 11) 69 85 1) 128 1 60) 69 85 2) _
  refine Pa.vret (by rfl) ?_
  show Pa N 252 81 [(0, .ref 69), (1, .int 5), (2, .int yx)] [] (uI (uI (uI (uI (uI (uI yA 69 85 0) 69 86 yc) 128 0 11) 69 85 1) 128 1 60) 69 85 2) _
  refine Pa.mp 1 (pc' := 82) (l' := [(0, .ref 69), (1, .int 5), (2, .int yx)]) (st' := [.ref 69]) (by rfl) ?_
  refine Pa.ic (x := 5) (pc' := 83) (by rfl) (by rfl) (by decide) ?_
  refine Pa.ist (by rfl) (by rfl) (.inl rfl) (by rfl) (by rfl) ?_
  show Pa N 250 0 [(0, .int 5)] [] (uI (uI (uI (uI (uI (uI yA 69 85 0) 69 86 yc) 128 0 11) 69 85 1) 128 1 60) 69 85 2) _
  refine Pa.mp 1 (pc' := 1) (l' := [(0, .int 5)]) (st' := [.int 5]) (by rfl) ?_
  refine Pa.ic (x := 5) (pc' := 2) (by rfl) (by rfl) (by decide) ?_
  refine Pa.if2k true (by rfl) (by rfl) (by decide) ?_
  show Pa N 250 10 [(0, .int 5)] [] (uI (uI (uI (uI (uI (uI yA 69 85 0) 69 86 yc) 128 0 11) 69 85 1) 128 1 60) 69 85 2) _
  refine Pa.ic (x := 2) (pc' := 11) (by rfl) (by rfl) (by decide) ?_
  refine Pa.mp 1 (pc' := 25) (l' := [(0, .int 5)]) (st' := [.int 2]) (by rfl) ?_
  refine Pa.iret (by rfl) ?_
  show Pa N 252 86 [(0, .ref 69), (1, .int 5), (2, .int yx)] [.int 2, .ref 69] (uI (uI (uI (uI (uI (uI yA 69 85 0) 69 86 yc) 128 0 11) 69 85 1) 128 1 60) 69 85 2) _
  refine Pa.mp 1 (pc' := 87) (l' := [(0, .ref 69), (1, .int 5), (2, .int yx)]) (st' := [.int yx, .int 2, .ref 69]) (by rfl) ?_
  refine Pa.ic (x := 1) (pc' := 88) (by rfl) (by rfl) (by decide) ?_
  refine Pa.mp 1 (pc' := 89) (l' := [(0, .ref 69), (1, .int 5), (2, .int yx)]) (st' := [.int (yx + 1), .int 2, .ref 69]) (by rfl) ?_
  refine Pa.inv (by rfl) (by rfl) (.inl rfl) (by rfl) ?_
  show Pa N 252 0 [(0, .ref 69), (1, .int 2), (2, .int (yx + 1))] [] (uI (uI (uI (uI (uI (uI yA 69 85 0) 69 86 yc) 128 0 11) 69 85 1) 128 1 60) 69 85 2) _
  refine Pa.mp 1 (pc' := 1) (l' := [(0, .ref 69), (1, .int 2), (2, .int (yx + 1))]) (st' := [.int 2]) (by rfl) ?_
  refine Pa.mp 1 (pc' := 57) (l' := [(0, .ref 69), (1, .int 2), (2, .int (yx + 1))]) (st' := []) (by rfl) ?_
  refine Pa.mp 1 (pc' := 58) (l' := [(0, .ref 69), (1, .int 2), (2, .int (yx + 1))]) (st' := [.ref 69]) (by rfl) ?_
  refine Pa.ic (x := 30) (pc' := 60) (by rfl) (by rfl) (by decide) ?_
  refine Pa.inv (by rfl) (by rfl) (.inl rfl) (by rfl) ?_
  show Pa N 251 0 [(0, .ref 69), (1, .int 30)] [] (uI (uI (uI (uI (uI (uI yA 69 85 0) 69 86 yc) 128 0 11) 69 85 1) 128 1 60) 69 85 2) _
  refine Pa.mp 1 (pc' := 1) (l' := [(0, .ref 69), (1, .int 30)]) (st' := [.ref 69]) (by rfl) ?_
  refine Pa.gfI (v := 2) (by rfl) (by rfl) (.inl rfl) (by rfl) (by show (uI (uI (uI (uI (uI (uI yA 69 85 0) 69 86 yc) 128 0 11) 69 85 1) 128 1 60) 69 85 2).1 69 85 = 2; rw [uI_h]) ?_
  refine Pa.ic (x := 24) (pc' := 6) (by rfl) (by rfl) (by decide) ?_
  refine Pa.if2k false (by rfl) (by rfl) (by decide) ?_
  show Pa N 251 9 [(0, .ref 69), (1, .int 30)] [] (uI (uI (uI (uI (uI (uI yA 69 85 0) 69 86 yc) 128 0 11) 69 85 1) 128 1 60) 69 85 2) _
  refine Pa.mp 1 (pc' := 10) (l' := [(0, .ref 69), (1, .int 30)]) (st' := [.ref 69]) (by rfl) ?_
  refine Pa.gfR (by rfl) (by rfl) (.inl rfl) (by rfl) ?_
  show Pa N 251 13 [(0, .ref 69), (1, .int 30)] [.ref 128] (uI (uI (uI (uI (uI (uI yA 69 85 0) 69 86 yc) 128 0 11) 69 85 1) 128 1 60) 69 85 2) _
  refine Pa.mp 1 (pc' := 14) (l' := [(0, .ref 69), (1, .int 30)]) (st' := [.ref 69, .ref 128]) (by rfl) ?_
  refine Pa.gfI (v := 2) (by rfl) (by rfl) (.inl rfl) (by rfl) (by show (uI (uI (uI (uI (uI (uI yA 69 85 0) 69 86 yc) 128 0 11) 69 85 1) 128 1 60) 69 85 2).1 69 85 = 2; rw [uI_h]) ?_
  refine Pa.mp 1 (pc' := 18) (l' := [(0, .ref 69), (1, .int 30)]) (st' := [.int 30, .int 2, .ref 128]) (by rfl) ?_
  refine Pa.asts (j' := 2) (by rfl) (by rfl) (by rfl) (fun h7 h8 => ?_)
  show Pa N 251 19 [(0, .ref 69), (1, .int 30)] [] (uI (uI (uI (uI (uI (uI (uI yA 69 85 0) 69 86 yc) 128 0 11) 69 85 1) 128 1 60) 69 85 2) 128 2 30) _
  refine Pa.mp 2 (pc' := 21) (l' := [(0, .ref 69), (1, .int 30)]) (st' := [.ref 69, .ref 69]) (by rfl) ?_
  refine Pa.gfI (v := 2) (by rfl) (by rfl) (.inl rfl) (by rfl) (by show (uI (uI (uI (uI (uI (uI (uI yA 69 85 0) 69 86 yc) 128 0 11) 69 85 1) 128 1 60) 69 85 2) 128 2 30).1 69 85 = 2; rw [uI_c (by decide), uI_h]) ?_
  refine Pa.ic (x := 1) (pc' := 25) (by rfl) (by rfl) (by decide) ?_
  refine Pa.mp 1 (pc' := 26) (l' := [(0, .ref 69), (1, .int 30)]) (st' := [.int 3, .ref 69]) (by rfl) ?_
  refine Pa.pfI (by rfl) (by rfl) (.inl rfl) (by rfl) ?_
  show Pa N 251 29 [(0, .ref 69), (1, .int 30)] [] (uI (uI (uI (uI (uI (uI (uI (uI yA 69 85 0) 69 86 yc) 128 0 11) 69 85 1) 128 1 60) 69 85 2) 128 2 30) 69 85 3) _
  refine Pa.vret (by rfl) ?_
  show Pa N 252 63 [(0, .ref 69), (1, .int 2), (2, .int (yx + 1))] [] (uI (uI (uI (uI (uI (uI (uI (uI yA 69 85 0) 69 86 yc) 128 0 11) 69 85 1) 128 1 60) 69 85 2) 128 2 30) 69 85 3) _
  refine Pa.mp 1 (pc' := 64) (l' := [(0, .ref 69), (1, .int 2), (2, .int (yx + 1))]) (st' := [.ref 69]) (by rfl) ?_
  refine Pa.ic (x := 2) (pc' := 65) (by rfl) (by rfl) (by decide) ?_
  refine Pa.ist (by rfl) (by rfl) (.inl rfl) (by rfl) (by rfl) ?_
  show Pa N 250 0 [(0, .int 2)] [] (uI (uI (uI (uI (uI (uI (uI (uI yA 69 85 0) 69 86 yc) 128 0 11) 69 85 1) 128 1 60) 69 85 2) 128 2 30) 69 85 3) _
  refine Pa.mp 1 (pc' := 1) (l' := [(0, .int 2)]) (st' := [.int 2]) (by rfl) ?_
  refine Pa.ic (x := 5) (pc' := 2) (by rfl) (by rfl) (by decide) ?_
  refine Pa.if2k false (by rfl) (by rfl) (by decide) ?_
  show Pa N 250 5 [(0, .int 2)] [] (uI (uI (uI (uI (uI (uI (uI (uI yA 69 85 0) 69 86 yc) 128 0 11) 69 85 1) 128 1 60) 69 85 2) 128 2 30) 69 85 3) _
  refine Pa.mp 1 (pc' := 6) (l' := [(0, .int 2)]) (st' := [.int 2]) (by rfl) ?_
  refine Pa.ic (x := 3) (pc' := 7) (by rfl) (by rfl) (by decide) ?_
  refine Pa.if2k true (by rfl) (by rfl) (by decide) ?_
  show Pa N 250 14 [(0, .int 2)] [] (uI (uI (uI (uI (uI (uI (uI (uI yA 69 85 0) 69 86 yc) 128 0 11) 69 85 1) 128 1 60) 69 85 2) 128 2 30) 69 85 3) _
  refine Pa.mp 1 (pc' := 15) (l' := [(0, .int 2)]) (st' := [.int 2]) (by rfl) ?_
  refine Pa.ic (x := 6) (pc' := 17) (by rfl) (by rfl) (by decide) ?_
  refine Pa.if2k true (by rfl) (by rfl) (by decide) ?_
  show Pa N 250 24 [(0, .int 2)] [] (uI (uI (uI (uI (uI (uI (uI (uI yA 69 85 0) 69 86 yc) 128 0 11) 69 85 1) 128 1 60) 69 85 2) 128 2 30) 69 85 3) _
  refine Pa.ic (x := 0) (pc' := 25) (by rfl) (by rfl) (by decide) ?_
  refine Pa.iret (by rfl) ?_
  show Pa N 252 68 [(0, .ref 69), (1, .int 2), (2, .int (yx + 1))] [.int 0, .ref 69] (uI (uI (uI (uI (uI (uI (uI (uI yA 69 85 0) 69 86 yc) 128 0 11) 69 85 1) 128 1 60) 69 85 2) 128 2 30) 69 85 3) _
  refine Pa.mp 1 (pc' := 69) (l' := [(0, .ref 69), (1, .int 2), (2, .int (yx + 1))]) (st' := [.int (yx + 1), .int 0, .ref 69]) (by rfl) ?_
  refine Pa.inv (by rfl) (by rfl) (.inl rfl) (by rfl) ?_
  show Pa N 252 0 [(0, .ref 69), (1, .int 0), (2, .int (yx + 1))] [] (uI (uI (uI (uI (uI (uI (uI (uI yA 69 85 0) 69 86 yc) 128 0 11) 69 85 1) 128 1 60) 69 85 2) 128 2 30) 69 85 3) _
  refine Pa.mp 1 (pc' := 1) (l' := [(0, .ref 69), (1, .int 0), (2, .int (yx + 1))]) (st' := [.int 0]) (by rfl) ?_
  refine Pa.mp 1 (pc' := 36) (l' := [(0, .ref 69), (1, .int 0), (2, .int (yx + 1))]) (st' := []) (by rfl) ?_
  refine Pa.mp 1 (pc' := 37) (l' := [(0, .ref 69), (1, .int 0), (2, .int (yx + 1))]) (st' := [.ref 69]) (by rfl) ?_
  refine Pa.ic (x := 10) (pc' := 39) (by rfl) (by rfl) (by decide) ?_
  refine Pa.inv (by rfl) (by rfl) (.inl rfl) (by rfl) ?_
  show Pa N 251 0 [(0, .ref 69), (1, .int 10)] [] (uI (uI (uI (uI (uI (uI (uI (uI yA 69 85 0) 69 86 yc) 128 0 11) 69 85 1) 128 1 60) 69 85 2) 128 2 30) 69 85 3) _
  refine Pa.mp 1 (pc' := 1) (l' := [(0, .ref 69), (1, .int 10)]) (st' := [.ref 69]) (by rfl) ?_
  refine Pa.gfI (v := 3) (by rfl) (by rfl) (.inl rfl) (by rfl) (by show (uI (uI (uI (uI (uI (uI (uI (uI yA 69 85 0) 69 86 yc) 128 0 11) 69 85 1) 128 1 60) 69 85 2) 128 2 30) 69 85 3).1 69 85 = 3; rw [uI_h]) ?_
  refine Pa.ic (x := 24) (pc' := 6) (by rfl) (by rfl) (by decide) ?_
  refine Pa.if2k false (by rfl) (by rfl) (by decide) ?_
  show Pa N 251 9 [(0, .ref 69), (1, .int 10)] [] (uI (uI (uI (uI (uI (uI (uI (uI yA 69 85 0) 69 86 yc) 128 0 11) 69 85 1) 128 1 60) 69 85 2) 128 2 30) 69 85 3) _
  refine Pa.mp 1 (pc' := 10) (l' := [(0, .ref 69), (1, .int 10)]) (st' := [.ref 69]) (by rfl) ?_
  refine Pa.gfR (by rfl) (by rfl) (.inl rfl) (by rfl) ?_
  show Pa N 251 13 [(0, .ref 69), (1, .int 10)] [.ref 128] (uI (uI (uI (uI (uI (uI (uI (uI yA 69 85 0) 69 86 yc) 128 0 11) 69 85 1) 128 1 60) 69 85 2) 128 2 30) 69 85 3) _
  refine Pa.mp 1 (pc' := 14) (l' := [(0, .ref 69), (1, .int 10)]) (st' := [.ref 69, .ref 128]) (by rfl) ?_
  refine Pa.gfI (v := 3) (by rfl) (by rfl) (.inl rfl) (by rfl) (by show (uI (uI (uI (uI (uI (uI (uI (uI yA 69 85 0) 69 86 yc) 128 0 11) 69 85 1) 128 1 60) 69 85 2) 128 2 30) 69 85 3).1 69 85 = 3; rw [uI_h]) ?_
  refine Pa.mp 1 (pc' := 18) (l' := [(0, .ref 69), (1, .int 10)]) (st' := [.int 10, .int 3, .ref 128]) (by rfl) ?_
  refine Pa.asts (j' := 3) (by rfl) (by rfl) (by rfl) (fun h9 h10 => ?_)
  show Pa N 251 19 [(0, .ref 69), (1, .int 10)] [] (uI (uI (uI (uI (uI (uI (uI (uI (uI yA 69 85 0) 69 86 yc) 128 0 11) 69 85 1) 128 1 60) 69 85 2) 128 2 30) 69 85 3) 128 3 10) _
  refine Pa.mp 2 (pc' := 21) (l' := [(0, .ref 69), (1, .int 10)]) (st' := [.ref 69, .ref 69]) (by rfl) ?_
  refine Pa.gfI (v := 3) (by rfl) (by rfl) (.inl rfl) (by rfl) (by show (uI (uI (uI (uI (uI (uI (uI (uI (uI yA 69 85 0) 69 86 yc) 128 0 11) 69 85 1) 128 1 60) 69 85 2) 128 2 30) 69 85 3) 128 3 10).1 69 85 = 3; rw [uI_c (by decide), uI_h]) ?_
  refine Pa.ic (x := 1) (pc' := 25) (by rfl) (by rfl) (by decide) ?_
  refine Pa.mp 1 (pc' := 26) (l' := [(0, .ref 69), (1, .int 10)]) (st' := [.int 4, .ref 69]) (by rfl) ?_
  refine Pa.pfI (by rfl) (by rfl) (.inl rfl) (by rfl) ?_
  show Pa N 251 29 [(0, .ref 69), (1, .int 10)] [] (uI (uI (uI (uI (uI (uI (uI (uI (uI (uI yA 69 85 0) 69 86 yc) 128 0 11) 69 85 1) 128 1 60) 69 85 2) 128 2 30) 69 85 3) 128 3 10) 69 85 4) _
  refine Pa.vret (by rfl) ?_
  show Pa N 252 42 [(0, .ref 69), (1, .int 0), (2, .int (yx + 1))] [] (uI (uI (uI (uI (uI (uI (uI (uI (uI (uI yA 69 85 0) 69 86 yc) 128 0 11) 69 85 1) 128 1 60) 69 85 2) 128 2 30) 69 85 3) 128 3 10) 69 85 4) _
  refine Pa.mp 3 (pc' := 45) (l' := [(0, .ref 69), (1, .int 0), (2, .int (yx + 1))]) (st' := [.ref 69, .ref 69, .int (yx + 1)]) (by rfl) ?_
  refine Pa.gfI (v := yc) (by rfl) (by rfl) (.inl rfl) (by rfl) (by show (uI (uI (uI (uI (uI (uI (uI (uI (uI (uI yA 69 85 0) 69 86 yc) 128 0 11) 69 85 1) 128 1 60) 69 85 2) 128 2 30) 69 85 3) 128 3 10) 69 85 4).1 69 86 = yc; rw [uI_k (by decide), uI_c (by decide), uI_k (by decide), uI_c (by decide), uI_k (by decide), uI_c (by decide), uI_k (by decide), uI_c (by decide), uI_h]) ?_
  refine Pa.mp 1 (pc' := 49) (l' := [(0, .ref 69), (1, .int 0), (2, .int (yx + 1))]) (st' := [.ref 69, .int yc, .ref 69, .int (yx + 1)]) (by rfl) ?_
  refine Pa.gfI (v := yA.1 69 0) (by rfl) (by rfl) (.inl rfl) (by rfl) (by show (uI (uI (uI (uI (uI (uI (uI (uI (uI (uI yA 69 85 0) 69 86 yc) 128 0 11) 69 85 1) 128 1 60) 69 85 2) 128 2 30) 69 85 3) 128 3 10) 69 85 4).1 69 0 = yA.1 69 0; rw [uI_k (by decide), uI_c (by decide), uI_k (by decide), uI_c (by decide), uI_k (by decide), uI_c (by decide), uI_k (by decide), uI_c (by decide), uI_k (by decide), uI_k (by decide)]) ?_
  refine Pa.inv (by rfl) (by rfl) (.inl rfl) (by rfl) ?_
  refine Pa.mono (c_kof N yA (uI (uI (uI (uI (uI (uI (uI (uI (uI (uI yA 69 85 0) 69 86 yc) 128 0 11) 69 85 1) 128 1 60) 69 85 2) 128 2 30) 69 85 3) 128 3 10) 69 85 4) yc (yA.1 69 0) (funext fun _ => by repeat rw [uI_c (by decide)]) (funext fun _ => by repeat rw [uI_c (by decide)]) (funext fun _ => by repeat rw [uI_c (by decide)])) (fun yu A1 hu => ?_)
  obtain ⟨rfl, hu⟩ := hu
  rw [hu]
  show Pa N 252 55 [(0, .ref 69), (1, .int 0), (2, .int (yx + 1))] [.int (kofM yA yc (yA.1 69 0)), .int (yx + 1)] (uI (uI (uI (uI (uI (uI (uI (uI (uI (uI yA 69 85 0) 69 86 yc) 128 0 11) 69 85 1) 128 1 60) 69 85 2) 128 2 30) 69 85 3) 128 3 10) 69 85 4) _
  refine Pa.mp 1 (pc' := 56) (l' := [(0, .ref 69), (1, .int 0), (2, .int (yx + 1))]) (st' := [.int ((yx + 1) + (kofM yA yc (yA.1 69 0)))]) (by rfl) ?_
  refine Pa.iret (by rfl) ?_
  show Pa N 252 72 [(0, .ref 69), (1, .int 2), (2, .int (yx + 1))] [.int ((yx + 1) + (kofM yA yc (yA.1 69 0)))] (uI (uI (uI (uI (uI (uI (uI (uI (uI (uI yA 69 85 0) 69 86 yc) 128 0 11) 69 85 1) 128 1 60) 69 85 2) 128 2 30) 69 85 3) 128 3 10) 69 85 4) _
  refine Pa.ic (x := 4) (pc' := 73) (by rfl) (by rfl) (by decide) ?_
  refine Pa.mp 1 (pc' := 74) (l' := [(0, .ref 69), (1, .int 2), (2, .int (yx + 1))]) (st' := [.int (((yx + 1) + (kofM yA yc (yA.1 69 0))) - 4)]) (by rfl) ?_
  refine Pa.iret (by rfl) ?_
  show Pa N 252 92 [(0, .ref 69), (1, .int 5), (2, .int yx)] [.int (((yx + 1) + (kofM yA yc (yA.1 69 0))) - 4)] (uI (uI (uI (uI (uI (uI (uI (uI (uI (uI yA 69 85 0) 69 86 yc) 128 0 11) 69 85 1) 128 1 60) 69 85 2) 128 2 30) 69 85 3) 128 3 10) 69 85 4) _
  refine Pa.iret (by rfl) ?_
  show Pa N 253 64 [(0, .ref 69), (1, .int 0), (2, .int yx)] [.int (((yx + 1) + (kofM yA yc (yA.1 69 0))) - 4)] (uI (uI (uI (uI (uI (uI (uI (uI (uI (uI yA 69 85 0) 69 86 yc) 128 0 11) 69 85 1) 128 1 60) 69 85 2) 128 2 30) 69 85 3) 128 3 10) 69 85 4) _
  refine Pa.ic (x := 2) (pc' := 65) (by rfl) (by rfl) (by decide) ?_
  refine Pa.mp 1 (pc' := 66) (l' := [(0, .ref 69), (1, .int 0), (2, .int yx)]) (st' := [.int ((((yx + 1) + (kofM yA yc (yA.1 69 0))) - 4) * 2)]) (by rfl) ?_
  refine Pa.iret (by rfl) ?_
  show Pa N 253 146 [(0, .ref 69), (1, .int 2), (2, .int yx)] [.int ((((yx + 1) + (kofM yA yc (yA.1 69 0))) - 4) * 2)] (uI (uI (uI (uI (uI (uI (uI (uI (uI (uI yA 69 85 0) 69 86 yc) 128 0 11) 69 85 1) 128 1 60) 69 85 2) 128 2 30) 69 85 3) 128 3 10) 69 85 4) _
  refine Pa.iret (by rfl) ?_
  show Pa N 253 146 [(0, .ref 69), (1, .int 5), (2, .int yx)] [.int ((((yx + 1) + (kofM yA yc (yA.1 69 0))) - 4) * 2)] (uI (uI (uI (uI (uI (uI (uI (uI (uI (uI yA 69 85 0) 69 86 yc) 128 0 11) 69 85 1) 128 1 60) 69 85 2) 128 2 30) 69 85 3) 128 3 10) 69 85 4) _
  refine Pa.iret (by rfl) ?_
  exact l1 h3 h4

theorem bpm1_6 {N : Nat} {yA : AW} {yQ : Option Value → AW → Prop} (yx yc : Int32) (hk : yA.1 89 yc.toInt.toNat = 6)
    (l1 : 0 ≤ yc.toInt → yc.toInt < 150 → yQ (some (.int ((-((yx + (kofM yA yc (yA.1 69 0))) * 2)) - (2 + (kofM yA yc (yA.1 69 0)))))) (uI (uI (uI (uI (uI (uI (uI (uI (uI (uI (uI (uI yA 69 85 0) 69 86 yc) 128 0 70) 69 85 1) 128 1 50) 69 85 2) 128 2 11) 69 85 3) 128 3 10) 69 85 4) 128 4 10) 69 85 5)) :
    Pa N 253 0 [(0, .ref 69), (1, .int 6), (2, .int yx)] [] (uI (uI yA 69 85 0) 69 86 yc) yQ := by
  refine Pa.mp 1 (pc' := 1) (l' := [(0, .ref 69), (1, .int 6), (2, .int yx)]) (st' := [.int 6]) (by rfl) ?_
  refine Pa.mp 1 (pc' := 103) (l' := [(0, .ref 69), (1, .int 6), (2, .int yx)]) (st' := []) (by rfl) ?_
  refine Pa.mp 1 (pc' := 104) (l' := [(0, .ref 69), (1, .int 6), (2, .int yx)]) (st' := [.ref 69]) (by rfl) ?_
  refine Pa.ic (x := 70) (pc' := 106) (by rfl) (by rfl) (by decide) ?_
  refine Pa.inv (by rfl) (by rfl) (.inl rfl) (by rfl) ?_
  show Pa N 251 0 [(0, .ref 69), (1, .int 70)] [] (uI (uI yA 69 85 0) 69 86 yc) _
  refine Pa.mp 1 (pc' := 1) (l' := [(0, .ref 69), (1, .int 70)]) (st' := [.ref 69]) (by rfl) ?_
  refine Pa.gfI (v := 0) (by rfl) (by rfl) (.inl rfl) (by rfl) (by show (uI (uI yA 69 85 0) 69 86 yc).1 69 85 = 0; rw [uI_k (by decide), uI_h]) ?_
  refine Pa.ic (x := 24) (pc' := 6) (by rfl) (by rfl) (by decide) ?_
  refine Pa.if2k false (by rfl) (by rfl) (by decide) ?_
  show Pa N 251 9 [(0, .ref 69), (1, .int 70)] [] (uI (uI yA 69 85 0) 69 86 yc) _
  refine Pa.mp 1 (pc' := 10) (l' := [(0, .ref 69), (1, .int 70)]) (st' := [.ref 69]) (by rfl) ?_
  refine Pa.gfR (by rfl) (by rfl) (.inl rfl) (by rfl) ?_
  show Pa N 251 13 [(0, .ref 69), (1, .int 70)] [.ref 128] (uI (uI yA 69 85 0) 69 86 yc) _
  refine Pa.mp 1 (pc' := 14) (l' := [(0, .ref 69), (1, .int 70)]) (st' := [.ref 69, .ref 128]) (by rfl) ?_
  refine Pa.gfI (v := 0) (by rfl) (by rfl) (.inl rfl) (by rfl) (by show (uI (uI yA 69 85 0) 69 86 yc).1 69 85 = 0; rw [uI_k (by decide), uI_h]) ?_
  refine Pa.mp 1 (pc' := 18) (l' := [(0, .ref 69), (1, .int 70)]) (st' := [.int 70, .int 0, .ref 128]) (by rfl) ?_
  refine Pa.asts (j' := 0) (by rfl) (by rfl) (by rfl) (fun h1 h2 => ?_)
  show Pa N 251 19 [(0, .ref 69), (1, .int 70)] [] (uI (uI (uI yA 69 85 0) 69 86 yc) 128 0 70) _
  refine Pa.mp 2 (pc' := 21) (l' := [(0, .ref 69), (1, .int 70)]) (st' := [.ref 69, .ref 69]) (by rfl) ?_
  refine Pa.gfI (v := 0) (by rfl) (by rfl) (.inl rfl) (by rfl) (by show (uI (uI (uI yA 69 85 0) 69 86 yc) 128 0 70).1 69 85 = 0; rw [uI_c (by decide), uI_k (by decide), uI_h]) ?_
  refine Pa.ic (x := 1) (pc' := 25) (by rfl) (by rfl) (by decide) ?_
  refine Pa.mp 1 (pc' := 26) (l' := [(0, .ref 69), (1, .int 70)]) (st' := [.int 1, .ref 69]) (by rfl) ?_
  refine Pa.pfI (by rfl) (by rfl) (.inl rfl) (by rfl) ?_
  show Pa N 251 29 [(0, .ref 69), (1, .int 70)] [] (uI (uI (uI (uI yA 69 85 0) 69 86 yc) 128 0 70) 69 85 1) _
  refine Pa.vret (by rfl) ?_
  show Pa N 253 109 [(0, .ref 69), (1, .int 6), (2, .int yx)] [] (uI (uI (uI (uI yA 69 85 0) 69 86 yc) 128 0 70) 69 85 1) _
  refine Pa.mp 1 (pc' := 110) (l' := [(0, .ref 69), (1, .int 6), (2, .int yx)]) (st' := [.ref 69]) (by rfl) ?_
  refine Pa.ic (x := 6) (pc' := 112) (by rfl) (by rfl) (by decide) ?_
  refine Pa.ist (by rfl) (by rfl) (.inl rfl) (by rfl) (by rfl) ?_
  show Pa N 250 0 [(0, .int 6)] [] (uI (uI (uI (uI yA 69 85 0) 69 86 yc) 128 0 70) 69 85 1) _
  refine Pa.mp 1 (pc' := 1) (l' := [(0, .int 6)]) (st' := [.int 6]) (by rfl) ?_
  refine Pa.ic (x := 5) (pc' := 2) (by rfl) (by rfl) (by decide) ?_
  refine Pa.if2k false (by rfl) (by rfl) (by decide) ?_
  show Pa N 250 5 [(0, .int 6)] [] (uI (uI (uI (uI yA 69 85 0) 69 86 yc) 128 0 70) 69 85 1) _
  refine Pa.mp 1 (pc' := 6) (l' := [(0, .int 6)]) (st' := [.int 6]) (by rfl) ?_
  refine Pa.ic (x := 3) (pc' := 7) (by rfl) (by rfl) (by decide) ?_
  refine Pa.if2k true (by rfl) (by rfl) (by decide) ?_
  show Pa N 250 14 [(0, .int 6)] [] (uI (uI (uI (uI yA 69 85 0) 69 86 yc) 128 0 70) 69 85 1) _
  refine Pa.mp 1 (pc' := 15) (l' := [(0, .int 6)]) (st' := [.int 6]) (by rfl) ?_
  refine Pa.ic (x := 6) (pc' := 17) (by rfl) (by rfl) (by decide) ?_
  refine Pa.if2k false (by rfl) (by rfl) (by decide) ?_
  show Pa N 250 20 [(0, .int 6)] [] (uI (uI (uI (uI yA 69 85 0) 69 86 yc) 128 0 70) 69 85 1) _
  refine Pa.ic (x := 4) (pc' := 21) (by rfl) (by rfl) (by decide) ?_
  refine Pa.mp 1 (pc' := 25) (l' := [(0, .int 6)]) (st' := [.int 4]) (by rfl) ?_
  refine Pa.iret (by rfl) ?_
  show Pa N 253 115 [(0, .ref 69), (1, .int 6), (2, .int yx)] [.int 4, .ref 69] (uI (uI (uI (uI yA 69 85 0) 69 86 yc) 128 0 70) 69 85 1) _
  refine Pa.mp 1 (pc' := 116) (l' := [(0, .ref 69), (1, .int 6), (2, .int yx)]) (st' := [.int yx, .int 4, .ref 69]) (by rfl) ?_
  refine Pa.inv (by rfl) (by rfl) (.inl rfl) (by rfl) ?_
  show Pa N 253 0 [(0, .ref 69), (1, .int 4), (2, .int yx)] [] (uI (uI (uI (uI yA 69 85 0) 69 86 yc) 128 0 70) 69 85 1) _
  refine Pa.mp 1 (pc' := 1) (l' := [(0, .ref 69), (1, .int 4), (2, .int yx)]) (st' := [.int 4]) (by rfl) ?_
  refine Pa.mp 1 (pc' := 86) (l' := [(0, .ref 69), (1, .int 4), (2, .int yx)]) (st' := []) (by rfl) ?_
  refine Pa.mp 1 (pc' := 87) (l' := [(0, .ref 69), (1, .int 4), (2, .int yx)]) (st' := [.ref 69]) (by rfl) ?_
  refine Pa.ic (x := 50) (pc' := 89) (by rfl) (by rfl) (by decide) ?_
  refine Pa.inv (by rfl) (by rfl) (.inl rfl) (by rfl) ?_
  show Pa N 251 0 [(0, .ref 69), (1, .int 50)] [] (uI (uI (uI (uI yA 69 85 0) 69 86 yc) 128 0 70) 69 85 1) _
  refine Pa.mp 1 (pc' := 1) (l' := [(0, .ref 69), (1, .int 50)]) (st' := [.ref 69]) (by rfl) ?_
  refine Pa.gfI (v := 1) (by rfl) (by rfl) (.inl rfl) (by rfl) (by show (uI (uI (uI (uI yA 69 85 0) 69 86 yc) 128 0 70) 69 85 1).1 69 85 = 1; rw [uI_h]) ?_
  refine Pa.ic (x := 24) (pc' := 6) (by rfl) (by rfl) (by decide) ?_
  refine Pa.if2k false (by rfl) (by rfl) (by decide) ?_
  show Pa N 251 9 [(0, .ref 69), (1, .int 50)] [] (uI (uI (uI (uI yA 69 85 0) 69 86 yc) 128 0 70) 69 85 1) _
  refine Pa.mp 1 (pc' := 10) (l' := [(0, .ref 69), (1, .int 50)]) (st' := [.ref 69]) (by rfl) ?_
  refine Pa.gfR (by rfl) (by rfl) (.inl rfl) (by rfl) ?_
  show Pa N 251 13 [(0, .ref 69), (1, .int 50)] [.ref 128] (uI (uI (uI (uI yA 69 85 0) 69 86 yc) 128 0 70) 69 85 1) _
  refine Pa.mp 1 (pc' := 14) (l' := [(0, .ref 69), (1, .int 50)]) (st' := [.ref 69, .ref 128]) (by rfl) ?_
  refine Pa.gfI (v := 1) (by rfl) (by rfl) (.inl rfl) (by rfl) (by show (uI (uI (uI (uI yA 69 85 0) 69 86 yc) 128 0 70) 69 85 1).1 69 85 = 1; rw [uI_h]) ?_
  refine Pa.mp 1 (pc' := 18) (l' := [(0, .ref 69), (1, .int 50)]) (st' := [.int 50, .int 1, .ref 128]) (by rfl) ?_
  refine Pa.asts (j' := 1) (by rfl) (by rfl) (by rfl) (fun h3 h4 => ?_)
  show Pa N 251 19 [(0, .ref 69), (1, .int 50)] [] (uI (uI (uI (uI (uI yA 69 85 0) 69 86 yc) 128 0 70) 69 85 1) 128 1 50) _
  refine Pa.mp 2 (pc' := 21) (l' := [(0, .ref 69), (1, .int 50)]) (st' := [.ref 69, .ref 69]) (by rfl) ?_
  refine Pa.gfI (v := 1) (by rfl) (by rfl) (.inl rfl) (by rfl) (by show (uI (uI (uI (uI (uI yA 69 85 0) 69 86 yc) 128 0 70) 69 85 1) 128 1 50).1 69 85 = 1; rw [uI_c (by decide), uI_h]) ?_
  refine Pa.ic (x := 1) (pc' := 25) (by rfl) (by rfl) (by decide) ?_
  refine Pa.mp 1 (pc' := 26) (l' := [(0, .ref 69), (1, .int 50)]) (st' := [.int 2, .ref 69]) (by rfl) ?_
  refine Pa.pfI (by rfl) (by rfl) (.inl rfl) (by rfl) ?_
  show Pa N 251 29 [(0, .ref 69), (1, .int 50)] [] (uI (uI (uI (uI (uI (uI yA 69 85 0) 69 86 yc) 128 0 70) 69 85 1) 128 1 50) 69 85 2) _
  refine Pa.vret (by rfl) ?_
  show Pa N 253 92 [(0, .ref 69), (1, .int 4), (2, .int yx)] [] (uI (uI (uI (uI (uI (uI yA 69 85 0) 69 86 yc) 128 0 70) 69 85 1) 128 1 50) 69 85 2) _
  refine Pa.mp 1 (pc' := 93) (l' := [(0, .ref 69), (1, .int 4), (2, .int yx)]) (st' := [.ref 69]) (by rfl) ?_
  refine Pa.ic (x := 4) (pc' := 94) (by rfl) (by rfl) (by decide) ?_
  refine Pa.ist (by rfl) (by rfl) (.inl rfl) (by rfl) (by rfl) ?_
  show Pa N 250 0 [(0, .int 4)] [] (uI (uI (uI (uI (uI (uI yA 69 85 0) 69 86 yc) 128 0 70) 69 85 1) 128 1 50) 69 85 2) _
  refine Pa.mp 1 (pc' := 1) (l' := [(0, .int 4)]) (st' := [.int 4]) (by rfl) ?_
  refine Pa.ic (x := 5) (pc' := 2) (by rfl) (by rfl) (by decide) ?_
  refine Pa.if2k false (by rfl) (by rfl) (by decide) ?_
  show Pa N 250 5 [(0, .int 4)] [] (uI (uI (uI (uI (uI (uI yA 69 85 0) 69 86 yc) 128 0 70) 69 85 1) 128 1 50) 69 85 2) _
  refine Pa.mp 1 (pc' := 6) (l' := [(0, .int 4)]) (st' := [.int 4]) (by rfl) ?_
  refine Pa.ic (x := 3) (pc' := 7) (by rfl) (by rfl) (by decide) ?_
  refine Pa.if2k true (by rfl) (by rfl) (by decide) ?_
  show Pa N 250 14 [(0, .int 4)] [] (uI (uI (uI (uI (uI (uI yA 69 85 0) 69 86 yc) 128 0 70) 69 85 1) 128 1 50) 69 85 2) _
  refine Pa.mp 1 (pc' := 15) (l' := [(0, .int 4)]) (st' := [.int 4]) (by rfl) ?_
  refine Pa.ic (x := 6) (pc' := 17) (by rfl) (by rfl) (by decide) ?_
  refine Pa.if2k true (by rfl) (by rfl) (by decide) ?_
  show Pa N 250 24 [(0, .int 4)] [] (uI (uI (uI (uI (uI (uI yA 69 85 0) 69 86 yc) 128 0 70) 69 85 1) 128 1 50) 69 85 2) _
  refine Pa.ic (x := 0) (pc' := 25) (by rfl) (by rfl) (by decide) ?_
  refine Pa.iret (by rfl) ?_
  show Pa N 253 97 [(0, .ref 69), (1, .int 4), (2, .int yx)] [.int 0, .ref 69] (uI (uI (uI (uI (uI (uI yA 69 85 0) 69 86 yc) 128 0 70) 69 85 1) 128 1 50) 69 85 2) _
  refine Pa.mp 1 (pc' := 98) (l' := [(0, .ref 69), (1, .int 4), (2, .int yx)]) (st' := [.int yx, .int 0, .ref 69]) (by rfl) ?_
  refine Pa.inv (by rfl) (by rfl) (.inl rfl) (by rfl) ?_
  show Pa N 253 0 [(0, .ref 69), (1, .int 0), (2, .int yx)] [] (uI (uI (uI (uI (uI (uI yA 69 85 0) 69 86 yc) 128 0 70) 69 85 1) 128 1 50) 69 85 2) _
  refine Pa.mp 1 (pc' := 1) (l' := [(0, .ref 69), (1, .int 0), (2, .int yx)]) (st' := [.int 0]) (by rfl) ?_
  refine Pa.mp 1 (pc' := 44) (l' := [(0, .ref 69), (1, .int 0), (2, .int yx)]) (st' := []) (by rfl) ?_
  refine Pa.mp 1 (pc' := 45) (l' := [(0, .ref 69), (1, .int 0), (2, .int yx)]) (st' := [.ref 69]) (by rfl) ?_
  refine Pa.ic (x := 11) (pc' := 47) (by rfl) (by rfl) (by decide) ?_
  refine Pa.inv (by rfl) (by rfl) (.inl rfl) (by rfl) ?_
  show Pa N 251 0 [(0, .ref 69), (1, .int 11)] [] (uI (uI (uI (uI (uI (uI yA 69 85 0) 69 86 yc) 128 0 70) 69 85 1) 128 1 50) 69 85 2) _
  refine Pa.mp 1 (pc' := 1) (l' := [(0, .ref 69), (1, .int 11)]) (st' := [.ref 69]) (by rfl) ?_
  refine Pa.gfI (v := 2) (by rfl) (by rfl) (.inl rfl) (by rfl) (by show (uI (uI (uI (uI (uI (uI yA 69 85 0) 69 86 yc) 128 0 70) 69 85 1) 128 1 50) 69 85 2).1 69 85 = 2; rw [uI_h]) ?_
  refine Pa.ic (x := 24) (pc' := 6) (by rfl) (by rfl) (by decide) ?_
  refine Pa.if2k false (by rfl) (by rfl) (by decide) ?_
  show Pa N 251 9 [(0, .ref 69), (1, .int 11)] [] (uI (uI (uI (uI (uI (uI yA 69 85 0) 69 86 yc) 128 0 70) 69 85 1) 128 1 50) 69 85 2) _
  refine Pa.mp 1 (pc' := 10) (l' := [(0, .ref 69), (1, .int 11)]) (st' := [.ref 69]) (by rfl) ?_
  refine Pa.gfR (by rfl) (by rfl) (.inl rfl) (by rfl) ?_
  show Pa N 251 13 [(0, .ref 69), (1, .int 11)] [.ref 128] (uI (uI (uI (uI (uI (uI yA 69 85 0) 69 86 yc) 128 0 70) 69 85 1) 128 1 50) 69 85 2) _
  refine Pa.mp 1 (pc' := 14) (l' := [(0, .ref 69), (1, .int 11)]) (st' := [.ref 69, .ref 128]) (by rfl) ?_
  refine Pa.gfI (v := 2) (by rfl) (by rfl) (.inl rfl) (by rfl) (by show (uI (uI (uI (uI (uI (uI yA 69 85 0) 69 86 yc) 128 0 70) 69 85 1) 128 1 50) 69 85 2).1 69 85 = 2; rw [uI_h]) ?_
  refine Pa.mp 1 (pc' := 18) (l' := [(0, .ref 69), (1, .int 11)]) (st' := [.int 11, .int 2, .ref 128]) (by rfl) ?_
  refine Pa.asts (j' := 2) (by rfl) (by rfl) (by rfl) (fun h5 h6 => ?_)
  show Pa N 251 19 [(0, .ref 69), (1, .int 11)] [] (uI (uI (uI (uI (uI (uI (uI yA 69 85 0) 69 86 yc) 128 0 70) 69 85 1) 128 1 50) 69 85 2) 128 2 11) _
  refine Pa.mp 2 (pc' := 21) (l' := [(0, .ref 69), (1, .int 11)]) (st' := [.ref 69, .ref 69]) (by rfl) ?_
  refine Pa.gfI (v := 2) (by rfl) (by rfl) (.inl rfl) (by rfl) (by show (uI (uI (uI (uI (uI (uI (uI yA 69 85 0) 69 86 yc) 128 0 70) 69 85 1) 128 1 50) 69 85 2) 128 2 11).1 69 85 = 2; rw [uI_c (by decide), uI_h]) ?_
  refine Pa.ic (x := 1) (pc' := 25) (by rfl) (by rfl) (by decide) ?_
  refine Pa.mp 1 (pc' := 26) (l' := [(0, .ref 69), (1, .int 11)]) (st' := [.int 3, .ref 69]) (by rfl) ?_
  refine Pa.pfI (by rfl) (by rfl) (.inl rfl) (by rfl) ?_
  show Pa N 251 29 [(0, .ref 69), (1, .int 11)] [] (uI (uI (uI (uI (uI (uI (uI (uI yA 69 85 0) 69 86 yc) 128 0 70) 69 85 1) 128 1 50) 69 85 2) 128 2 11) 69 85 3) _
  refine Pa.vret (by rfl) ?_
  show Pa N 253 50 [(0, .ref 69), (1, .int 0), (2, .int yx)] [] (uI (uI (uI (uI (uI (uI (uI (uI yA 69 85 0) 69 86 yc) 128 0 70) 69 85 1) 128 1 50) 69 85 2) 128 2 11) 69 85 3) _
  refine Pa.mp 2 (pc' := 52) (l' := [(0, .ref 69), (1, .int 0), (2, .int yx)]) (st' := [.ref 69, .ref 69]) (by rfl) ?_
  refine Pa.gfR (by rfl) (by rfl) (.inl rfl) (by rfl) ?_
  show Pa N 253 55 [(0, .ref 69), (1, .int 0), (2, .int yx)] [.ref 89, .ref 69] (uI (uI (uI (uI (uI (uI (uI (uI yA 69 85 0) 69 86 yc) 128 0 70) 69 85 1) 128 1 50) 69 85 2) 128 2 11) 69 85 3) _
  refine Pa.mp 1 (pc' := 56) (l' := [(0, .ref 69), (1, .int 0), (2, .int yx)]) (st' := [.ref 69, .ref 89, .ref 69]) (by rfl) ?_
  refine Pa.gfI (v := yc) (by rfl) (by rfl) (.inl rfl) (by rfl) (by show (uI (uI (uI (uI (uI (uI (uI (uI yA 69 85 0) 69 86 yc) 128 0 70) 69 85 1) 128 1 50) 69 85 2) 128 2 11) 69 85 3).1 69 86 = yc; rw [uI_k (by decide), uI_c (by decide), uI_k (by decide), uI_c (by decide), uI_k (by decide), uI_c (by decide), uI_h]) ?_
  refine Pa.alds (v := 6) (by rfl) (by rfl) (by show (uI (uI (uI (uI (uI (uI (uI (uI yA 69 85 0) 69 86 yc) 128 0 70) 69 85 1) 128 1 50) 69 85 2) 128 2 11) 69 85 3).1 89 yc.toInt.toNat = 6; rw [uI_c (by decide), uI_c (by decide), uI_c (by decide), uI_c (by decide), uI_c (by decide), uI_c (by decide), uI_c (by decide), uI_c (by decide), hk]) (fun h7 h8 => ?_)
  have h7 : 0 ≤ yc.toInt := h7
  have h8 : yc.toInt < 150 := h8
  refine Pa.mp 1 (pc' := 61) (l' := [(0, .ref 69), (1, .int 0), (2, .int yx)]) (st' := [.int yx, .int 6, .ref 69]) (by rfl) ?_
  refine Pa.inv (by rfl) (by rfl) (.inl rfl) (by rfl) ?_
  show Pa N 252 0 [(0, .ref 69), (1, .int 6), (2, .int yx)] [] (uI (uI (uI (uI (uI (uI (uI (uI yA 69 85 0) 69 86 yc) 128 0 70) 69 85 1) 128 1 50) 69 85 2) 128 2 11) 69 85 3) _
  refine Pa.mp 1 (pc' := 1) (l' := [(0, .ref 69), (1, .int 6), (2, .int yx)]) (st' := [.int 6]) (by rfl) ?_
  refine Pa.mp 1 (pc' := 93) (l' := [(0, .ref 69), (1, .int 6), (2, .int yx)]) (st' := []) (by rfl) ?_
  refine Pa.mp 2 (pc' := 95) (l' := [(0, .ref 69), (1, .int 6), (2, .int yx)]) (st' := [.int 6, .ref 69]) (by rfl) ?_
  refine Pa.ist (by rfl) (by rfl) (.inl rfl) (by rfl) (by rfl) ?_
  show Pa N 250 0 [(0, .int 6)] [] (uI (uI (uI (uI (uI (uI (uI (uI yA 69 85 0) 69 86 yc) 128 0 70) 69 85 1) 128 1 50) 69 85 2) 128 2 11) 69 85 3) _
  refine Pa.mp 1 (pc' := 1) (l' := [(0, .int 6)]) (st' := [.int 6]) (by rfl) ?_
  refine Pa.ic (x := 5) (pc' := 2) (by rfl) (by rfl) (by decide) ?_
  refine Pa.if2k false (by rfl) (by rfl) (by decide) ?_
  show Pa N 250 5 [(0, .int 6)] [] (uI (uI (uI (uI (uI (uI (uI (uI yA 69 85 0) 69 86 yc) 128 0 70) 69 85 1) 128 1 50) 69 85 2) 128 2 11) 69 85 3) _
  refine Pa.mp 1 (pc' := 6) (l' := [(0, .int 6)]) (st' := [.int 6]) (by rfl) ?_
  refine Pa.ic (x := 3) (pc' := 7) (by rfl) (by rfl) (by decide) ?_
  refine Pa.if2k true (by rfl) (by rfl) (by decide) ?_
  show Pa N 250 14 [(0, .int 6)] [] (uI (uI (uI (uI (uI (uI (uI (uI yA 69 85 0) 69 86 yc) 128 0 70) 69 85 1) 128 1 50) 69 85 2) 128 2 11) 69 85 3) _
  refine Pa.mp 1 (pc' := 15) (l' := [(0, .int 6)]) (st' := [.int 6]) (by rfl) ?_
  refine Pa.ic (x := 6) (pc' := 17) (by rfl) (by rfl) (by decide) ?_
  refine Pa.if2k false (by rfl) (by rfl) (by decide) ?_
  show Pa N 250 20 [(0, .int 6)] [] (uI (uI (uI (uI (uI (uI (uI (uI yA 69 85 0) 69 86 yc) 128 0 70) 69 85 1) 128 1 50) 69 85 2) 128 2 11) 69 85 3) _
  refine Pa.ic (x := 4) (pc' := 21) (by rfl) (by rfl) (by decide) ?_
  refine Pa.mp 1 (pc' := 25) (l' := [(0, .int 6)]) (st' := [.int 4]) (by rfl) ?_
  refine Pa.iret (by rfl) ?_
  show Pa N 252 98 [(0, .ref 69), (1, .int 6), (2, .int yx)] [.int 4, .ref 69] (uI (uI (uI (uI (uI (uI (uI (uI yA 69 85 0) 69 86 yc) 128 0 70) 69 85 1) 128 1 50) 69 85 2) 128 2 11) 69 85 3) _
  refine Pa.mp 1 (pc' := 99) (l' := [(0, .ref 69), (1, .int 6), (2, .int yx)]) (st' := [.int yx, .int 4, .ref 69]) (by rfl) ?_
  refine Pa.inv (by rfl) (by rfl) (.inl rfl) (by rfl) ?_
  show Pa N 252 0 [(0, .ref 69), (1, .int 4), (2, .int yx)] [] (uI (uI (uI (uI (uI (uI (uI (uI yA 69 85 0) 69 86 yc) 128 0 70) 69 85 1) 128 1 50) 69 85 2) 128 2 11) 69 85 3) _
  refine Pa.mp 1 (pc' := 1) (l' := [(0, .ref 69), (1, .int 4), (2, .int yx)]) (st' := [.int 4]) (by rfl) ?_
  refine Pa.mp 1 (pc' := 93) (l' := [(0, .ref 69), (1, .int 4), (2, .int yx)]) (st' := []) (by rfl) ?_
  refine Pa.mp 2 (pc' := 95) (l' := [(0, .ref 69), (1, .int 4), (2, .int yx)]) (st' := [.int 4, .ref 69]) (by rfl) ?_
  refine Pa.ist (by rfl) (by rfl) (.inl rfl) (by rfl) (by rfl) ?_
  show Pa N 250 0 [(0, .int 4)] [] (uI (uI (uI (uI (uI (uI (uI (uI yA 69 85 0) 69 86 yc) 128 0 70) 69 85 1) 128 1 50) 69 85 2) 128 2 11) 69 85 3) _
  refine Pa.mp 1 (pc' := 1) (l' := [(0, .int 4)]) (st' := [.int 4]) (by rfl) ?_
  refine Pa.ic (x := 5) (pc' := 2) (by rfl) (by rfl) (by decide) ?_
  refine Pa.if2k false (by rfl) (by rfl) (by decide) ?_
  show Pa N 250 5 [(0, .int 4)] [] (uI (uI (uI (uI (uI (uI (uI (uI yA 69 85 0) 69 86 yc) 128 0 70) 69 85 1) 128 1 50) 69 85 2) 128 2 11) 69 85 3) _
  refine Pa.mp 1 (pc' := 6) (l' := [(0, .int 4)]) (st' := [.int 4]) (by rfl) ?_
  refine Pa.ic (x := 3) (pc' := 7) (by rfl) (by rfl) (by decide) ?_
  refine Pa.if2k true (by rfl) (by rfl) (by decide) ?_
  show Pa N 250 14 [(0, .int 4)] [] (uI (uI (uI (uI (uI (uI (uI (uI yA 69 85 0) 69 86 yc) 128 0 70) 69 85 1) 128 1 50) 69 85 2) 128 2 11) 69 85 3) _
  refine Pa.mp 1 (pc' := 15) (l' := [(0, .int 4)]) (st' := [.int 4]) (by rfl) ?_
  refine Pa.ic (x := 6) (pc' := 17) (by rfl) (by rfl) (by decide) ?_
  refine Pa.if2k true (by rfl) (by rfl) (by decide) ?_
  show Pa N 250 24 [(0, .int 4)] [] (uI (uI (uI (uI (uI (uI (uI (uI yA 69 85 0) 69 86 yc) 128 0 70) 69 85 1) 128 1 50) 69 85 2) 128 2 11) 69 85 3) _
  refine Pa.ic (x := 0) (pc' := 25) (by rfl) (by rfl) (by decide) ?_
  refine Pa.iret (by rfl) ?_
  show Pa N 252 98 [(0, .ref 69), (1, .int 4), (2, .int yx)] [.int 0, .ref 69] (uI (uI (uI (uI (uI (uI (uI (uI yA 69 85 0) 69 86 yc) 128 0 70) 69 85 1) 128 1 50) 69 85 2) 128 2 11) 69 85 3) _
  refine Pa.mp 1 (pc' := 99) (l' := [(0, .ref 69), (1, .int 4), (2, .int yx)]) (st' := [.int yx, .int 0, .ref 69]) (by rfl) ?_
  refine Pa.inv (by rfl) (by rfl) (.inl rfl) (by rfl) ?_
  show Pa N 252 0 [(0, .ref 69), (1, .int 0), (2, .int yx)] [] (uI (uI (uI (uI (uI (uI (uI (uI yA 69 85 0) 69 86 yc) 128 0 70) 69 85 1) 128 1 50) 69 85 2) 128 2 11) 69 85 3) _
  refine Pa.mp 1 (pc' := 1) (l' := [(0, .ref 69), (1, .int 0), (2, .int yx)]) (st' := [.int 0]) (by rfl) ?_
  refine Pa.mp 1 (pc' := 36) (l' := [(0, .ref 69), (1, .int 0), (2, .int yx)]) (st' := []) (by rfl) ?_
  refine Pa.mp 1 (pc' := 37) (l' := [(0, .ref 69), (1, .int 0), (2, .int yx)]) (st' := [.ref 69]) (by rfl) ?_
  refine Pa.ic (x := 10) (pc' := 39) (by rfl) (by rfl) (by decide) ?_
  refine Pa.inv (by rfl) (by rfl) (.inl rfl) (by rfl) ?_
  show Pa N 251 0 [(0, .ref 69), (1, .int 10)] [] (uI (uI (uI (uI (uI (uI (uI (uI yA 69 85 0) 69 86 yc) 128 0 70) 69 85 1) 128 1 50) 69 85 2) 128 2 11) 69 85 3) _
  refine Pa.mp 1 (pc' := 1) (l' := [(0, .ref 69), (1, .int 10)]) (st' := [.ref 69]) (by rfl) ?_
  refine Pa.gfI (v := 3) (by rfl) (by rfl) (.inl rfl) (by rfl) (by show (uI (uI (uI (uI (uI (uI (uI (uI yA 69 85 0) 69 86 yc) 128 0 70) 69 85 1) 128 1 50) 69 85 2) 128 2 11) 69 85 3).1 69 85 = 3; rw [uI_h]) ?_
  refine Pa.ic (x := 24) (pc' := 6) (by rfl) (by rfl) (by decide) ?_
  refine Pa.if2k false (by rfl) (by rfl) (by decide) ?_
  show Pa N 251 9 [(0, .ref 69), (1, .int 10)] [] (uI (uI (uI (uI (uI (uI (uI (uI yA 69 85 0) 69 86 yc) 128 0 70) 69 85 1) 128 1 50) 69 85 2) 128 2 11) 69 85 3) _
  refine Pa.mp 1 (pc' := 10) (l' := [(0, .ref 69), (1, .int 10)]) (st' := [.ref 69]) (by rfl) ?_
  refine Pa.gfR (by rfl) (by rfl) (.inl rfl) (by rfl) ?_
  show Pa N 251 13 [(0, .ref 69), (1, .int 10)] [.ref 128] (uI (uI (uI (uI (uI (uI (uI (uI yA 69 85 0) 69 86 yc) 128 0 70) 69 85 1) 128 1 50) 69 85 2) 128 2 11) 69 85 3) _
  refine Pa.mp 1 (pc' := 14) (l' := [(0, .ref 69), (1, .int 10)]) (st' := [.ref 69, .ref 128]) (by rfl) ?_
  refine Pa.gfI (v := 3) (by rfl) (by rfl) (.inl rfl) (by rfl) (by show (uI (uI (uI (uI (uI (uI (uI (uI yA 69 85 0) 69 86 yc) 128 0 70) 69 85 1) 128 1 50) 69 85 2) 128 2 11) 69 85 3).1 69 85 = 3; rw [uI_h]) ?_
  refine Pa.mp 1 (pc' := 18) (l' := [(0, .ref 69), (1, .int 10)]) (st' := [.int 10, .int 3, .ref 128]) (by rfl) ?_
  refine Pa.asts (j' := 3) (by rfl) (by rfl) (by rfl) (fun h9 h10 => ?_)
  show Pa N 251 19 [(0, .ref 69), (1, .int 10)] [] (uI (uI (uI (uI (uI (uI (uI (uI (uI yA 69 85 0) 69 86 yc) 128 0 70) 69 85 1) 128 1 50) 69 85 2) 128 2 11) 69 85 3) 128 3 10) _
  refine Pa.mp 2 (pc' := 21) (l' := [(0, .ref 69), (1, .int 10)]) (st' := [.ref 69, .ref 69]) (by rfl) ?_
  refine Pa.gfI (v := 3) (by rfl) (by rfl) (.inl rfl) (by rfl) (by show (uI (uI (uI (uI (uI (uI (uI (uI (uI yA 69 85 0) 69 86 yc) 128 0 70) 69 85 1) 128 1 50) 69 85 2) 128 2 11) 69 85 3) 128 3 10).1 69 85 = 3; rw [uI_c (by decide), uI_h]) ?_
  refine Pa.ic (x := 1) (pc' := 25) (by rfl) (by rfl) (by decide) ?_
  refine Pa.mp 1 (pc' := 26) (l' := [(0, .ref 69), (1, .int 10)]) (st' := [.int 4, .ref 69]) (by rfl) ?_
  refine Pa.pfI (by rfl) (by rfl) (.inl rfl) (by rfl) ?_
  show Pa N 251 29 [(0, .ref 69), (1, .int 10)] [] (uI (uI (uI (uI (uI (uI (uI (uI (uI (uI yA 69 85 0) 69 86 yc) 128 0 70) 69 85 1) 128 1 50) 69 85 2) 128 2 11) 69 85 3) 128 3 10) 69 85 4) _
  refine Pa.vret (by rfl) ?_
  show Pa N 252 42 [(0, .ref 69), (1, .int 0), (2, .int yx)] [] (uI (uI (uI (uI (uI (uI (uI (uI (uI (uI yA 69 85 0) 69 86 yc) 128 0 70) 69 85 1) 128 1 50) 69 85 2) 128 2 11) 69 85 3) 128 3 10) 69 85 4) _
  refine Pa.mp 3 (pc' := 45) (l' := [(0, .ref 69), (1, .int 0), (2, .int yx)]) (st' := [.ref 69, .ref 69, .int yx]) (by rfl) ?_
  refine Pa.gfI (v := yc) (by rfl) (by rfl) (.inl rfl) (by rfl) (by show (uI (uI (uI (uI (uI (uI (uI (uI (uI (uI yA 69 85 0) 69 86 yc) 128 0 70) 69 85 1) 128 1 50) 69 85 2) 128 2 11) 69 85 3) 128 3 10) 69 85 4).1 69 86 = yc; rw [uI_k (by decide), uI_c (by decide), uI_k (by decide), uI_c (by decide), uI_k (by decide), uI_c (by decide), uI_k (by decide), uI_c (by decide), uI_h]) ?_
  refine Pa.mp 1 (pc' := 49) (l' := [(0, .ref 69), (1, .int 0), (2, .int yx)]) (st' := [.ref 69, .int yc, .ref 69, .int yx]) (by rfl) ?_
  refine Pa.gfI (v := yA.1 69 0) (by rfl) (by rfl) (.inl rfl) (by rfl) (by show (uI (uI (uI (uI (uI (uI (uI (uI (uI (uI yA 69 85 0) 69 86 yc) 128 0 70) 69 85 1) 128 1 50) 69 85 2) 128 2 11) 69 85 3) 128 3 10) 69 85 4).1 69 0 = yA.1 69 0; rw [uI_k (by decide), uI_c (by decide), uI_k (by decide), uI_c (by decide), uI_k (by decide), uI_c (by decide), uI_k (by decide), uI_c (by decide), uI_k (by decide), uI_k (by decide)]) ?_
  refine Pa.inv (by rfl) (by rfl) (.inl rfl) (by rfl) ?_
  refine Pa.mono (c_kof N yA (uI (uI (uI (uI (uI (uI (uI (uI (uI (uI yA 69 85 0) 69 86 yc) 128 0 70) 69 85 1) 128 1 50) 69 85 2) 128 2 11) 69 85 3) 128 3 10) 69 85 4) yc (yA.1 69 0) (funext fun _ => by repeat rw [uI_c (by decide)]) (funext fun _ => by repeat rw [uI_c (by decide)]) (funext fun _ => by repeat rw [uI_c (by decide)])) (fun yu A1 hu => ?_)
  obtain ⟨rfl, hu⟩ := hu
  rw [hu]
  show Pa N 252 55 [(0, .ref 69), (1, .int 0), (2, .int yx)] [.int (kofM yA yc (yA.1 69 0)), .int yx] (uI (uI (uI (uI (uI (uI (uI (uI (uI (uI yA 69 85 0) 69 86 yc) 128 0 70) 69 85 1) 128 1 50) 69 85 2) 128 2 11) 69 85 3) 128 3 10) 69 85 4) _
  refine Pa.mp 1 (pc' := 56) (l' := [(0, .ref 69), (1, .int 0), (2, .int yx)]) (st' := [.int (yx + (kofM yA yc (yA.1 69 0)))]) (by rfl) ?_
  refine Pa.iret (by rfl) ?_
  show Pa N 252 102 [(0, .ref 69), (1, .int 4), (2, .int yx)] [.int (yx + (kofM yA yc (yA.1 69 0)))] (uI (uI (uI (uI (uI (uI (uI (uI (uI (uI yA 69 85 0) 69 86 yc) 128 0 70) 69 85 1) 128 1 50) 69 85 2) 128 2 11) 69 85 3) 128 3 10) 69 85 4) _
  refine Pa.iret (by rfl) ?_
  show Pa N 252 102 [(0, .ref 69), (1, .int 6), (2, .int yx)] [.int (yx + (kofM yA yc (yA.1 69 0)))] (uI (uI (uI (uI (uI (uI (uI (uI (uI (uI yA 69 85 0) 69 86 yc) 128 0 70) 69 85 1) 128 1 50) 69 85 2) 128 2 11) 69 85 3) 128 3 10) 69 85 4) _
  refine Pa.iret (by rfl) ?_
  show Pa N 253 64 [(0, .ref 69), (1, .int 0), (2, .int yx)] [.int (yx + (kofM yA yc (yA.1 69 0)))] (uI (uI (uI (uI (uI (uI (uI (uI (uI (uI yA 69 85 0) 69 86 yc) 128 0 70) 69 85 1) 128 1 50) 69 85 2) 128 2 11) 69 85 3) 128 3 10) 69 85 4) _
  refine Pa.ic (x := 2) (pc' := 65) (by rfl) (by rfl) (by decide) ?_
  refine Pa.mp 1 (pc' := 66) (l' := [(0, .ref 69), (1, .int 0), (2, .int yx)]) (st' := [.int ((yx + (kofM yA yc (yA.1 69 0))) * 2)]) (by rfl) ?_
  refine Pa.iret (by rfl) ?_
  show Pa N 253 101 [(0, .ref 69), (1, .int 4), (2, .int yx)] [.int ((yx + (kofM yA yc (yA.1 69 0))) * 2)] (uI (uI (uI (uI (uI (uI (uI (uI (uI (uI yA 69 85 0) 69 86 yc) 128 0 70) 69 85 1) 128 1 50) 69 85 2) 128 2 11) 69 85 3) 128 3 10) 69 85 4) _
  refine Pa.mp 1 (pc' := 102) (l' := [(0, .ref 69), (1, .int 4), (2, .int yx)]) (st' := [.int (-((yx + (kofM yA yc (yA.1 69 0))) * 2))]) (by rfl) ?_
  refine Pa.iret (by rfl) ?_
  show Pa N 253 119 [(0, .ref 69), (1, .int 6), (2, .int yx)] [.int (-((yx + (kofM yA yc (yA.1 69 0))) * 2))] (uI (uI (uI (uI (uI (uI (uI (uI (uI (uI yA 69 85 0) 69 86 yc) 128 0 70) 69 85 1) 128 1 50) 69 85 2) 128 2 11) 69 85 3) 128 3 10) 69 85 4) _
  refine Pa.mp 4 (pc' := 123) (l' := [(3, .int (-((yx + (kofM yA yc (yA.1 69 0))) * 2))), (0, .ref 69), (1, .int 6), (2, .int yx)]) (st' := [.ref 69, .ref 69, .int (-((yx + (kofM yA yc (yA.1 69 0))) * 2))]) (by rfl) ?_
  refine Pa.gfR (by rfl) (by rfl) (.inl rfl) (by rfl) ?_
  show Pa N 253 126 [(3, .int (-((yx + (kofM yA yc (yA.1 69 0))) * 2))), (0, .ref 69), (1, .int 6), (2, .int yx)] [.ref 89, .ref 69, .int (-((yx + (kofM yA yc (yA.1 69 0))) * 2))] (uI (uI (uI (uI (uI (uI (uI (uI (uI (uI yA 69 85 0) 69 86 yc) 128 0 70) 69 85 1) 128 1 50) 69 85 2) 128 2 11) 69 85 3) 128 3 10) 69 85 4) _
  refine Pa.mp 1 (pc' := 127) (l' := [(3, .int (-((yx + (kofM yA yc (yA.1 69 0))) * 2))), (0, .ref 69), (1, .int 6), (2, .int yx)]) (st' := [.ref 69, .ref 89, .ref 69, .int (-((yx + (kofM yA yc (yA.1 69 0))) * 2))]) (by rfl) ?_
  refine Pa.gfI (v := yc) (by rfl) (by rfl) (.inl rfl) (by rfl) (by show (uI (uI (uI (uI (uI (uI (uI (uI (uI (uI yA 69 85 0) 69 86 yc) 128 0 70) 69 85 1) 128 1 50) 69 85 2) 128 2 11) 69 85 3) 128 3 10) 69 85 4).1 69 86 = yc; rw [uI_k (by decide), uI_c (by decide), uI_k (by decide), uI_c (by decide), uI_k (by decide), uI_c (by decide), uI_k (by decide), uI_c (by decide), uI_h]) ?_
  refine Pa.alds (v := 6) (by rfl) (by rfl) (by show (uI (uI (uI (uI (uI (uI (uI (uI (uI (uI yA 69 85 0) 69 86 yc) 128 0 70) 69 85 1) 128 1 50) 69 85 2) 128 2 11) 69 85 3) 128 3 10) 69 85 4).1 89 yc.toInt.toNat = 6; rw [uI_c (by decide), uI_c (by decide), uI_c (by decide), uI_c (by decide), uI_c (by decide), uI_c (by decide), uI_c (by decide), uI_c (by decide), uI_c (by decide), uI_c (by decide), hk]) (fun h11 h12 => ?_)
  have h11 : 0 ≤ yc.toInt := h11
  have h12 : yc.toInt < 150 := h12
  refine Pa.ic (x := 2) (pc' := 132) (by rfl) (by rfl) (by decide) ?_
  refine Pa.inv (by rfl) (by rfl) (.inl rfl) (by rfl) ?_
  show Pa N 252 0 [(0, .ref 69), (1, .int 6), (2, .int 2)] [] (uI (uI (uI (uI (uI (uI (uI (uI (uI (uI yA 69 85 0) 69 86 yc) 128 0 70) 69 85 1) 128 1 50) 69 85 2) 128 2 11) 69 85 3) 128 3 10) 69 85 4) _
  refine Pa.mp 1 (pc' := 1) (l' := [(0, .ref 69), (1, .int 6), (2, .int 2)]) (st' := [.int 6]) (by rfl) ?_
  refine Pa.mp 1 (pc' := 93) (l' := [(0, .ref 69), (1, .int 6), (2, .int 2)]) (st' := []) (by rfl) ?_
  refine Pa.mp 2 (pc' := 95) (l' := [(0, .ref 69), (1, .int 6), (2, .int 2)]) (st' := [.int 6, .ref 69]) (by rfl) ?_
  refine Pa.ist (by rfl) (by rfl) (.inl rfl) (by rfl) (by rfl) ?_
  show Pa N 250 0 [(0, .int 6)] [] (uI (uI (uI (uI (uI (uI (uI (uI (uI (uI yA 69 85 0) 69 86 yc) 128 0 70) 69 85 1) 128 1 50) 69 85 2) 128 2 11) 69 85 3) 128 3 10) 69 85 4) _
  refine Pa.mp 1 (pc' := 1) (l' := [(0, .int 6)]) (st' := [.int 6]) (by rfl) ?_
  refine Pa.ic (x := 5) (pc' := 2) (by rfl) (by rfl) (by decide) ?_
  refine Pa.if2k false (by rfl) (by rfl) (by decide) ?_
  show Pa N 250 5 [(0, .int 6)] [] (uI (uI (uI (uI (uI (uI (uI (uI (uI (uI yA 69 85 0) 69 86 yc) 128 0 70) 69 85 1) 128 1 50) 69 85 2) 128 2 11) 69 85 3) 128 3 10) 69 85 4) _
  refine Pa.mp 1 (pc' := 6) (l' := [(0, .int 6)]) (st' := [.int 6]) (by rfl) ?_
  refine Pa.ic (x := 3) (pc' := 7) (by rfl) (by rfl) (by decide) ?_
  refine Pa.if2k true (by rfl) (by rfl) (by decide) ?_
  show Pa N 250 14 [(0, .int 6)] [] (uI (uI (uI (uI (uI (uI (uI (uI (uI (uI yA 69 85 0) 69 86 yc) 128 0 70) 69 85 1) 128 1 50) 69 85 2) 128 2 11) 69 85 3) 128 3 10) 69 85 4) _
  refine Pa.mp 1 (pc' := 15) (l' := [(0, .int 6)]) (st' := [.int 6]) (by rfl) ?_
  refine Pa.ic (x := 6) (pc' := 17) (by rfl) (by rfl) (by decide) ?_
  refine Pa.if2k false (by rfl) (by rfl) (by decide) ?_
  show Pa N 250 20 [(0, .int 6)] [] (uI (uI (uI (uI (uI (uI (uI (uI (uI (uI yA 69 85 0) 69 86 yc) 128 0 70) 69 85 1) 128 1 50) 69 85 2) 128 2 11) 69 85 3) 128 3 10) 69 85 4) _
  refine Pa.ic (x := 4) (pc' := 21) (by rfl) (by rfl) (by decide) ?_
  refine Pa.mp 1 (pc' := 25) (l' := [(0, .int 6)]) (st' := [.int 4]) (by rfl) ?_
  refine Pa.iret (by rfl) ?_
  show Pa N 252 98 [(0, .ref 69), (1, .int 6), (2, .int 2)] [.int 4, .ref 69] (uI (uI (uI (uI (uI (uI (uI (uI (uI (uI yA 69 85 0) 69 86 yc) 128 0 70) 69 85 1) 128 1 50) 69 85 2) 128 2 11) 69 85 3) 128 3 10) 69 85 4) _
  refine Pa.mp 1 (pc' := 99) (l' := [(0, .ref 69), (1, .int 6), (2, .int 2)]) (st' := [.int 2, .int 4, .ref 69]) (by rfl) ?_
  refine Pa.inv (by rfl) (by rfl) (.inl rfl) (by rfl) ?_
  show Pa N 252 0 [(0, .ref 69), (1, .int 4), (2, .int 2)] [] (uI (uI (uI (uI (uI (uI (uI (uI (uI (uI yA 69 85 0) 69 86 yc) 128 0 70) 69 85 1) 128 1 50) 69 85 2) 128 2 11) 69 85 3) 128 3 10) 69 85 4) _
  refine Pa.mp 1 (pc' := 1) (l' := [(0, .ref 69), (1, .int 4), (2, .int 2)]) (st' := [.int 4]) (by rfl) ?_
  refine Pa.mp 1 (pc' := 93) (l' := [(0, .ref 69), (1, .int 4), (2, .int 2)]) (st' := []) (by rfl) ?_
  refine Pa.mp 2 (pc' := 95) (l' := [(0, .ref 69), (1, .int 4), (2, .int 2)]) (st' := [.int 4, .ref 69]) (by rfl) ?_
  refine Pa.ist (by rfl) (by rfl) (.inl rfl) (by rfl) (by rfl) ?_
  show Pa N 250 0 [(0, .int 4)] [] (uI (uI (uI (uI (uI (uI (uI (uI (uI (uI yA 69 85 0) 69 86 yc) 128 0 70) 69 85 1) 128 1 50) 69 85 2) 128 2 11) 69 85 3) 128 3 10) 69 85 4) _
  refine Pa.mp 1 (pc' := 1) (l' := [(0, .int 4)]) (st' := [.int 4]) (by rfl) ?_
  refine Pa.ic (x := 5) (pc' := 2) (by rfl) (by rfl) (by decide) ?_
  refine Pa.if2k false (by rfl) (by rfl) (by decide) ?_
  show Pa N 250 5 [(0, .int 4)] [] (uI (uI (uI (uI (uI (uI (uI (uI (uI (uI yA 69 85 0) 69 86 yc) 128 0 70) 69 85 1) 128 1 50) 69 85 2) 128 2 11) 69 85 3) 128 3 10) 69 85 4) _
  refine Pa.mp 1 (pc' := 6) (l' := [(0, .int 4)]) (st' := [.int 4]) (by rfl) ?_
  refine Pa.ic (x := 3) (pc' := 7) (by rfl) (by rfl) (by decide) ?_
  refine Pa.if2k true (by rfl) (by rfl) (by decide) ?_
  show Pa N 250 14 [(0, .int 4)] [] (uI (uI (uI (uI (uI (uI (uI (uI (uI (uI yA 69 85 0) 69 86 yc) 128 0 70) 69 85 1) 128 1 50) 69 85 2) 128 2 11) 69 85 3) 128 3 10) 69 85 4) _
  refine Pa.mp 1 (pc' := 15) (l' := [(0, .int 4)]) (st' := [.int 4]) (by rfl) ?_
  refine Pa.ic (x := 6) (pc' := 17) (by rfl) (by rfl) (by decide) ?_
  refine Pa.if2k true (by rfl) (by rfl) (by decide) ?_
  show Pa N 250 24 [(0, .int 4)] [] (uI (uI (uI (uI (uI (uI (uI (uI (uI (uI yA 69 85 0) 69 86 yc) 128 0 70) 69 85 1) 128 1 50) 69 85 2) 128 2 11) 69 85 3) 128 3 10) 69 85 4) _
  refine Pa.ic (x := 0) (pc' := 25) (by rfl) (by rfl) (by decide) ?_
  refine Pa.iret (by rfl) ?_
  show Pa N 252 98 [(0, .ref 69), (1, .int 4), (2, .int 2)] [.int 0, .ref 69] (uI (uI (uI (uI (uI (uI (uI (uI (uI (uI yA 69 85 0) 69 86 yc) 128 0 70) 69 85 1) 128 1 50) 69 85 2) 128 2 11) 69 85 3) 128 3 10) 69 85 4) _
  refine Pa.mp 1 (pc' := 99) (l' := [(0, .ref 69), (1, .int 4), (2, .int 2)]) (st' := [.int 2, .int 0, .ref 69]) (by rfl) ?_
  refine Pa.inv (by rfl) (by rfl) (.inl rfl) (by rfl) ?_
  show Pa N 252 0 [(0, .ref 69), (1, .int 0), (2, .int 2)] [] (uI (uI (uI (uI (uI (uI (uI (uI (uI (uI yA 69 85 0) 69 86 yc) 128 0 70) 69 85 1) 128 1 50) 69 85 2) 128 2 11) 69 85 3) 128 3 10) 69 85 4) _
  refine Pa.mp 1 (pc' := 1) (l' := [(0, .ref 69), (1, .int 0), (2, .int 2)]) (st' := [.int 0]) (by rfl) ?_
  refine Pa.mp 1 (pc' := 36) (l' := [(0, .ref 69), (1, .int 0), (2, .int 2)]) (st' := []) (by rfl) ?_
  refine Pa.mp 1 (pc' := 37) (l' := [(0, .ref 69), (1, .int 0), (2, .int 2)]) (st' := [.ref 69]) (by rfl) ?_
  refine Pa.ic (x := 10) (pc' := 39) (by rfl) (by rfl) (by decide) ?_
  refine Pa.inv (by rfl) (by rfl) (.inl rfl) (by rfl) ?_
  show Pa N 251 0 [(0, .ref 69), (1, .int 10)] [] (uI (uI (uI (uI (uI (uI (uI (uI (uI (uI yA 69 85 0) 69 86 yc) 128 0 70) 69 85 1) 128 1 50) 69 85 2) 128 2 11) 69 85 3) 128 3 10) 69 85 4) _
  refine Pa.mp 1 (pc' := 1) (l' := [(0, .ref 69), (1, .int 10)]) (st' := [.ref 69]) (by rfl) ?_
  refine Pa.gfI (v := 4) (by rfl) (by rfl) (.inl rfl) (by rfl) (by show (uI (uI (uI (uI (uI (uI (uI (uI (uI (uI yA 69 85 0) 69 86 yc) 128 0 70) 69 85 1) 128 1 50) 69 85 2) 128 2 11) 69 85 3) 128 3 10) 69 85 4).1 69 85 = 4; rw [uI_h]) ?_
  refine Pa.ic (x := 24) (pc' := 6) (by rfl) (by rfl) (by decide) ?_
  refine Pa.if2k false (by rfl) (by rfl) (by decide) ?_
  show Pa N 251 9 [(0, .ref 69), (1, .int 10)] [] (uI (uI (uI (uI (uI (uI (uI (uI (uI (uI yA 69 85 0) 69 86 yc) 128 0 70) 69 85 1) 128 1 50) 69 85 2) 128 2 11) 69 85 3) 128 3 10) 69 85 4) _
  refine Pa.mp 1 (pc' := 10) (l' := [(0, .ref 69), (1, .int 10)]) (st' := [.ref 69]) (by rfl) ?_
  refine Pa.gfR (by rfl) (by rfl) (.inl rfl) (by rfl) ?_
  show Pa N 251 13 [(0, .ref 69), (1, .int 10)] [.ref 128] (uI (uI (uI (uI (uI (uI (uI (uI (uI (uI yA 69 85 0) 69 86 yc) 128 0 70) 69 85 1) 128 1 50) 69 85 2) 128 2 11) 69 85 3) 128 3 10) 69 85 4) _
  refine Pa.mp 1 (pc' := 14) (l' := [(0, .ref 69), (1, .int 10)]) (st' := [.ref 69, .ref 128]) (by rfl) ?_
  refine Pa.gfI (v := 4) (by rfl) (by rfl) (.inl rfl) (by rfl) (by show (uI (uI (uI (uI (uI (uI (uI (uI (uI (uI yA 69 85 0) 69 86 yc) 128 0 70) 69 85 1) 128 1 50) 69 85 2) 128 2 11) 69 85 3) 128 3 10) 69 85 4).1 69 85 = 4; rw [uI_h]) ?_
  refine Pa.mp 1 (pc' := 18) (l' := [(0, .ref 69), (1, .int 10)]) (st' := [.int 10, .int 4, .ref 128]) (by rfl) ?_
  refine Pa.asts (j' := 4) (by rfl) (by rfl) (by rfl) (fun h13 h14 => ?_)
  show Pa N 251 19 [(0, .ref 69), (1, .int 10)] [] (uI (uI (uI (uI (uI (uI (uI (uI (uI (uI (uI yA 69 85 0) 69 86 yc) 128 0 70) 69 85 1) 128 1 50) 69 85 2) 128 2 11) 69 85 3) 128 3 10) 69 85 4) 128 4 10) _
  refine Pa.mp 2 (pc' := 21) (l' := [(0, .ref 69), (1, .int 10)]) (st' := [.ref 69, .ref 69]) (by rfl) ?_
  refine Pa.gfI (v := 4) (by rfl) (by rfl) (.inl rfl) (by rfl) (by show (uI (uI (uI (uI (uI (uI (uI (uI (uI (uI (uI yA 69 85 0) 69 86 yc) 128 0 70) 69 85 1) 128 1 50) 69 85 2) 128 2 11) 69 85 3) 128 3 10) 69 85 4) 128 4 10).1 69 85 = 4; rw [uI_c (by decide), uI_h]) ?_
  refine Pa.ic (x := 1) (pc' := 25) (by rfl) (by rfl) (by decide) ?_
  refine Pa.mp 1 (pc' := 26) (l' := [(0, .ref 69), (1, .int 10)]) (st' := [.int 5, .ref 69]) (by rfl) ?_
  refine Pa.pfI (by rfl) (by rfl) (.inl rfl) (by rfl) ?_
  show Pa N 251 29 [(0, .ref 69), (1, .int 10)] [] (uI (uI (uI (uI (uI (uI (uI (uI (uI (uI (uI (uI yA 69 85 0) 69 86 yc) 128 0 70) 69 85 1) 128 1 50) 69 85 2) 128 2 11) 69 85 3) 128 3 10) 69 85 4) 128 4 10) 69 85 5) _
  refine Pa.vret (by rfl) ?_
  show Pa N 252 42 [(0, .ref 69), (1, .int 0), (2, .int 2)] [] (uI (uI (uI (uI (uI (uI (uI (uI (uI (uI (uI (uI yA 69 85 0) 69 86 yc) 128 0 70) 69 85 1) 128 1 50) 69 85 2) 128 2 11) 69 85 3) 128 3 10) 69 85 4) 128 4 10) 69 85 5) _
  refine Pa.mp 3 (pc' := 45) (l' := [(0, .ref 69), (1, .int 0), (2, .int 2)]) (st' := [.ref 69, .ref 69, .int 2]) (by rfl) ?_
  refine Pa.gfI (v := yc) (by rfl) (by rfl) (.inl rfl) (by rfl) (by show (uI (uI (uI (uI (uI (uI (uI (uI (uI (uI (uI (uI yA 69 85 0) 69 86 yc) 128 0 70) 69 85 1) 128 1 50) 69 85 2) 128 2 11) 69 85 3) 128 3 10) 69 85 4) 128 4 10) 69 85 5).1 69 86 = yc; rw [uI_k (by decide), uI_c (by decide), uI_k (by decide), uI_c (by decide), uI_k (by decide), uI_c (by decide), uI_k (by decide), uI_c (by decide), uI_k (by decide), uI_c (by decide), uI_h]) ?_
  refine Pa.mp 1 (pc' := 49) (l' := [(0, .ref 69), (1, .int 0), (2, .int 2)]) (st' := [.ref 69, .int yc, .ref 69, .int 2]) (by rfl) ?_
  refine Pa.gfI (v := yA.1 69 0) (by rfl) (by rfl) (.inl rfl) (by rfl) (by show (uI (uI (uI (uI (uI (uI (uI (uI (uI (uI (uI (uI yA 69 85 0) 69 86 yc) 128 0 70) 69 85 1) 128 1 50) 69 85 2) 128 2 11) 69 85 3) 128 3 10) 69 85 4) 128 4 10) 69 85 5).1 69 0 = yA.1 69 0; rw [uI_k (by decide), uI_c (by decide), uI_k (by decide), uI_c (by decide), uI_k (by decide), uI_c (by decide), uI_k (by decide), uI_c (by decide), uI_k (by decide), uI_c (by decide), uI_k (by decide), uI_k (by decide)]) ?_
  refine Pa.inv (by rfl) (by rfl) (.inl rfl) (by rfl) ?_
  refine Pa.mono (c_kof N yA (uI (uI (uI (uI (uI (uI (uI (uI (uI (uI (uI (uI yA 69 85 0) 69 86 yc) 128 0 70) 69 85 1) 128 1 50) 69 85 2) 128 2 11) 69 85 3) 128 3 10) 69 85 4) 128 4 10) 69 85 5) yc (yA.1 69 0) (funext fun _ => by repeat rw [uI_c (by decide)]) (funext fun _ => by repeat rw [uI_c (by decide)]) (funext fun _ => by repeat rw [uI_c (by decide)])) (fun yu A1 hu => ?_)
  obtain ⟨rfl, hu⟩ := hu
  rw [hu]
  show Pa N 252 55 [(0, .ref 69), (1, .int 0), (2, .int 2)] [.int (kofM yA yc (yA.1 69 0)), .int 2] (uI (uI (uI (uI (uI (uI (uI (uI (uI (uI (uI (uI yA 69 85 0) 69 86 yc) 128 0 70) 69 85 1) 128 1 50) 69 85 2) 128 2 11) 69 85 3) 128 3 10) 69 85 4) 128 4 10) 69 85 5) _
  refine Pa.mp 1 (pc' := 56) (l' := [(0, .ref 69), (1, .int 0), (2, .int 2)]) (st' := [.int (2 + (kofM yA yc (yA.1 69 0)))]) (by rfl) ?_
  refine Pa.iret (by rfl) ?_
  show Pa N 252 102 [(0, .ref 69), (1, .int 4), (2, .int 2)] [.int (2 + (kofM yA yc (yA.1 69 0)))] (uI (uI (uI (uI (uI (uI (uI (uI (uI (uI (uI (uI yA 69 85 0) 69 86 yc) 128 0 70) 69 85 1) 128 1 50) 69 85 2) 128 2 11) 69 85 3) 128 3 10) 69 85 4) 128 4 10) 69 85 5) _
  refine Pa.iret (by rfl) ?_
  show Pa N 252 102 [(0, .ref 69), (1, .int 6), (2, .int 2)] [.int (2 + (kofM yA yc (yA.1 69 0)))] (uI (uI (uI (uI (uI (uI (uI (uI (uI (uI (uI (uI yA 69 85 0) 69 86 yc) 128 0 70) 69 85 1) 128 1 50) 69 85 2) 128 2 11) 69 85 3) 128 3 10) 69 85 4) 128 4 10) 69 85 5) _
  refine Pa.iret (by rfl) ?_
  show Pa N 253 135 [(3, .int (-((yx + (kofM yA yc (yA.1 69 0))) * 2))), (0, .ref 69), (1, .int 6), (2, .int yx)] [.int (2 + (kofM yA yc (yA.1 69 0))), .int (-((yx + (kofM yA yc (yA.1 69 0))) * 2))] (uI (uI (uI (uI (uI (uI (uI (uI (uI (uI (uI (uI yA 69 85 0) 69 86 yc) 128 0 70) 69 85 1) 128 1 50) 69 85 2) 128 2 11) 69 85 3) 128 3 10) 69 85 4) 128 4 10) 69 85 5) _
  refine Pa.mp 1 (pc' := 136) (l' := [(3, .int (-((yx + (kofM yA yc (yA.1 69 0))) * 2))), (0, .ref 69), (1, .int 6), (2, .int yx)]) (st' := [.int ((-((yx + (kofM yA yc (yA.1 69 0))) * 2)) - (2 + (kofM yA yc (yA.1 69 0))))]) (by rfl) ?_
  refine Pa.iret (by rfl) ?_
  exact l1 h7 h8

theorem bpm2_1 {N : Nat} {yA : AW} {yQ : Option Value → AW → Prop} (yx yc : Int32) (hk : yA.1 89 yc.toInt.toNat = 1)
    (l1 : 0 ≤ yc.toInt → yc.toInt < 150 → yQ (some (.int ((((yx + (kofM yA yc (yA.1 69 0))) * 2) ^^^ 9) - yc))) (uI (uI (uI (uI (uI (uI (uI (uI (uI (uI yA 69 85 0) 69 86 yc) 128 0 12) 69 85 1) 128 1 20) 69 85 2) 128 2 11) 69 85 3) 128 3 10) 69 85 4)) :
    Pa N 254 0 [(0, .ref 69), (1, .int 1), (2, .int yx)] [] (uI (uI yA 69 85 0) 69 86 yc) yQ := by
  refine Pa.mp 1 (pc' := 1) (l' := [(0, .ref 69), (1, .int 1), (2, .int yx)]) (st' := [.int 1]) (by rfl) ?_
  refine Pa.mp 1 (pc' := 113) (l' := [(0, .ref 69), (1, .int 1), (2, .int yx)]) (st' := []) (by rfl) ?_
  refine Pa.mp 2 (pc' := 115) (l' := [(0, .ref 69), (1, .int 1), (2, .int yx)]) (st' := [.int 1, .ref 69]) (by rfl) ?_
  refine Pa.ist (by rfl) (by rfl) (.inl rfl) (by rfl) (by rfl) ?_
  show Pa N 250 0 [(0, .int 1)] [] (uI (uI yA 69 85 0) 69 86 yc) _
  refine Pa.mp 1 (pc' := 1) (l' := [(0, .int 1)]) (st' := [.int 1]) (by rfl) ?_
  refine Pa.ic (x := 5) (pc' := 2) (by rfl) (by rfl) (by decide) ?_
  refine Pa.if2k false (by rfl) (by rfl) (by decide) ?_
  show Pa N 250 5 [(0, .int 1)] [] (uI (uI yA 69 85 0) 69 86 yc) _
  refine Pa.mp 1 (pc' := 6) (l' := [(0, .int 1)]) (st' := [.int 1]) (by rfl) ?_
  refine Pa.ic (x := 3) (pc' := 7) (by rfl) (by rfl) (by decide) ?_
  refine Pa.if2k true (by rfl) (by rfl) (by decide) ?_
  show Pa N 250 14 [(0, .int 1)] [] (uI (uI yA 69 85 0) 69 86 yc) _
  refine Pa.mp 1 (pc' := 15) (l' := [(0, .int 1)]) (st' := [.int 1]) (by rfl) ?_
  refine Pa.ic (x := 6) (pc' := 17) (by rfl) (by rfl) (by decide) ?_
  refine Pa.if2k true (by rfl) (by rfl) (by decide) ?_
  show Pa N 250 24 [(0, .int 1)] [] (uI (uI yA 69 85 0) 69 86 yc) _
  refine Pa.ic (x := 0) (pc' := 25) (by rfl) (by rfl) (by decide) ?_
  refine Pa.iret (by rfl) ?_
  show Pa N 254 118 [(0, .ref 69), (1, .int 1), (2, .int yx)] [.int 0, .ref 69] (uI (uI yA 69 85 0) 69 86 yc) _
  refine Pa.mp 1 (pc' := 119) (l' := [(0, .ref 69), (1, .int 1), (2, .int yx)]) (st' := [.int yx, .int 0, .ref 69]) (by rfl) ?_
  refine Pa.inv (by rfl) (by rfl) (.inl rfl) (by rfl) ?_
  show Pa N 254 0 [(0, .ref 69), (1, .int 0), (2, .int yx)] [] (uI (uI yA 69 85 0) 69 86 yc) _
  refine Pa.mp 1 (pc' := 1) (l' := [(0, .ref 69), (1, .int 0), (2, .int yx)]) (st' := [.int 0]) (by rfl) ?_
  refine Pa.mp 1 (pc' := 36) (l' := [(0, .ref 69), (1, .int 0), (2, .int yx)]) (st' := []) (by rfl) ?_
  refine Pa.mp 1 (pc' := 37) (l' := [(0, .ref 69), (1, .int 0), (2, .int yx)]) (st' := [.ref 69]) (by rfl) ?_
  refine Pa.ic (x := 12) (pc' := 39) (by rfl) (by rfl) (by decide) ?_
  refine Pa.inv (by rfl) (by rfl) (.inl rfl) (by rfl) ?_
  show Pa N 251 0 [(0, .ref 69), (1, .int 12)] [] (uI (uI yA 69 85 0) 69 86 yc) _
  refine Pa.mp 1 (pc' := 1) (l' := [(0, .ref 69), (1, .int 12)]) (st' := [.ref 69]) (by rfl) ?_
  refine Pa.gfI (v := 0) (by rfl) (by rfl) (.inl rfl) (by rfl) (by show (uI (uI yA 69 85 0) 69 86 yc).1 69 85 = 0; rw [uI_k (by decide), uI_h]) ?_
  refine Pa.ic (x := 24) (pc' := 6) (by rfl) (by rfl) (by decide) ?_
  refine Pa.if2k false (by rfl) (by rfl) (by decide) ?_
  show Pa N 251 9 [(0, .ref 69), (1, .int 12)] [] (uI (uI yA 69 85 0) 69 86 yc) _
  refine Pa.mp 1 (pc' := 10) (l' := [(0, .ref 69), (1, .int 12)]) (st' := [.ref 69]) (by rfl) ?_
  refine Pa.gfR (by rfl) (by rfl) (.inl rfl) (by rfl) ?_
  show Pa N 251 13 [(0, .ref 69), (1, .int 12)] [.ref 128] (uI (uI yA 69 85 0) 69 86 yc) _
  refine Pa.mp 1 (pc' := 14) (l' := [(0, .ref 69), (1, .int 12)]) (st' := [.ref 69, .ref 128]) (by rfl) ?_
  refine Pa.gfI (v := 0) (by rfl) (by rfl) (.inl rfl) (by rfl) (by show (uI (uI yA 69 85 0) 69 86 yc).1 69 85 = 0; rw [uI_k (by decide), uI_h]) ?_
  refine Pa.mp 1 (pc' := 18) (l' := [(0, .ref 69), (1, .int 12)]) (st' := [.int 12, .int 0, .ref 128]) (by rfl) ?_
  refine Pa.asts (j' := 0) (by rfl) (by rfl) (by rfl) (fun h1 h2 => ?_)
  show Pa N 251 19 [(0, .ref 69), (1, .int 12)] [] (uI (uI (uI yA 69 85 0) 69 86 yc) 128 0 12) _
  refine Pa.mp 2 (pc' := 21) (l' := [(0, .ref 69), (1, .int 12)]) (st' := [.ref 69, .ref 69]) (by rfl) ?_
  refine Pa.gfI (v := 0) (by rfl) (by rfl) (.inl rfl) (by rfl) (by show (uI (uI (uI yA 69 85 0) 69 86 yc) 128 0 12).1 69 85 = 0; rw [uI_c (by decide), uI_k (by decide), uI_h]) ?_
  refine Pa.ic (x := 1) (pc' := 25) (by rfl) (by rfl) (by decide) ?_
  refine Pa.mp 1 (pc' := 26) (l' := [(0, .ref 69), (1, .int 12)]) (st' := [.int 1, .ref 69]) (by rfl) ?_
  refine Pa.pfI (by rfl) (by rfl) (.inl rfl) (by rfl) ?_
  show Pa N 251 29 [(0, .ref 69), (1, .int 12)] [] (uI (uI (uI (uI yA 69 85 0) 69 86 yc) 128 0 12) 69 85 1) _
  refine Pa.vret (by rfl) ?_
  show Pa N 254 42 [(0, .ref 69), (1, .int 0), (2, .int yx)] [] (uI (uI (uI (uI yA 69 85 0) 69 86 yc) 128 0 12) 69 85 1) _
  refine Pa.mp 2 (pc' := 44) (l' := [(0, .ref 69), (1, .int 0), (2, .int yx)]) (st' := [.ref 69, .ref 69]) (by rfl) ?_
  refine Pa.gfR (by rfl) (by rfl) (.inl rfl) (by rfl) ?_
  show Pa N 254 47 [(0, .ref 69), (1, .int 0), (2, .int yx)] [.ref 89, .ref 69] (uI (uI (uI (uI yA 69 85 0) 69 86 yc) 128 0 12) 69 85 1) _
  refine Pa.mp 1 (pc' := 48) (l' := [(0, .ref 69), (1, .int 0), (2, .int yx)]) (st' := [.ref 69, .ref 89, .ref 69]) (by rfl) ?_
  refine Pa.gfI (v := yc) (by rfl) (by rfl) (.inl rfl) (by rfl) (by show (uI (uI (uI (uI yA 69 85 0) 69 86 yc) 128 0 12) 69 85 1).1 69 86 = yc; rw [uI_k (by decide), uI_c (by decide), uI_h]) ?_
  refine Pa.alds (v := 1) (by rfl) (by rfl) (by show (uI (uI (uI (uI yA 69 85 0) 69 86 yc) 128 0 12) 69 85 1).1 89 yc.toInt.toNat = 1; rw [uI_c (by decide), uI_c (by decide), uI_c (by decide), uI_c (by decide), hk]) (fun h3 h4 => ?_)
  have h3 : 0 ≤ yc.toInt := h3
  have h4 : yc.toInt < 150 := h4
  refine Pa.mp 1 (pc' := 53) (l' := [(0, .ref 69), (1, .int 0), (2, .int yx)]) (st' := [.int yx, .int 1, .ref 69]) (by rfl) ?_
  refine Pa.inv (by rfl) (by rfl) (.inl rfl) (by rfl) ?_
  show Pa N 253 0 [(0, .ref 69), (1, .int 1), (2, .int yx)] [] (uI (uI (uI (uI yA 69 85 0) 69 86 yc) 128 0 12) 69 85 1) _
  refine Pa.mp 1 (pc' := 1) (l' := [(0, .ref 69), (1, .int 1), (2, .int yx)]) (st' := [.int 1]) (by rfl) ?_
  refine Pa.mp 1 (pc' := 67) (l' := [(0, .ref 69), (1, .int 1), (2, .int yx)]) (st' := []) (by rfl) ?_
  refine Pa.mp 1 (pc' := 68) (l' := [(0, .ref 69), (1, .int 1), (2, .int yx)]) (st' := [.ref 69]) (by rfl) ?_
  refine Pa.ic (x := 20) (pc' := 70) (by rfl) (by rfl) (by decide) ?_
  refine Pa.inv (by rfl) (by rfl) (.inl rfl) (by rfl) ?_
  show Pa N 251 0 [(0, .ref 69), (1, .int 20)] [] (uI (uI (uI (uI yA 69 85 0) 69 86 yc) 128 0 12) 69 85 1) _
  refine Pa.mp 1 (pc' := 1) (l' := [(0, .ref 69), (1, .int 20)]) (st' := [.ref 69]) (by rfl) ?_
  refine Pa.gfI (v := 1) (by rfl) (by rfl) (.inl rfl) (by rfl) (by show (uI (uI (uI (uI yA 69 85 0) 69 86 yc) 128 0 12) 69 85 1).1 69 85 = 1; rw [uI_h]) ?_
  refine Pa.ic (x := 24) (pc' := 6) (by rfl) (by rfl) (by decide) ?_
  refine Pa.if2k false (by rfl) (by rfl) (by decide) ?_
  show Pa N 251 9 [(0, .ref 69), (1, .int 20)] [] (uI (uI (uI (uI yA 69 85 0) 69 86 yc) 128 0 12) 69 85 1) _
  refine Pa.mp 1 (pc' := 10) (l' := [(0, .ref 69), (1, .int 20)]) (st' := [.ref 69]) (by rfl) ?_
  refine Pa.gfR (by rfl) (by rfl) (.inl rfl) (by rfl) ?_
  show Pa N 251 13 [(0, .ref 69), (1, .int 20)] [.ref 128] (uI (uI (uI (uI yA 69 85 0) 69 86 yc) 128 0 12) 69 85 1) _
  refine Pa.mp 1 (pc' := 14) (l' := [(0, .ref 69), (1, .int 20)]) (st' := [.ref 69, .ref 128]) (by rfl) ?_
  refine Pa.gfI (v := 1) (by rfl) (by rfl) (.inl rfl) (by rfl) (by show (uI (uI (uI (uI yA 69 85 0) 69 86 yc) 128 0 12) 69 85 1).1 69 85 = 1; rw [uI_h]) ?_
  refine Pa.mp 1 (pc' := 18) (l' := [(0, .ref 69), (1, .int 20)]) (st' := [.int 20, .int 1, .ref 128]) (by rfl) ?_
  refine Pa.asts (j' := 1) (by rfl) (by rfl) (by rfl) (fun h5 h6 => ?_)
  show Pa N 251 19 [(0, .ref 69), (1, .int 20)] [] (uI (uI (uI (uI (uI yA 69 85 0) 69 86 yc) 128 0 12) 69 85 1) 128 1 20) _
  refine Pa.mp 2 (pc' := 21) (l' := [(0, .ref 69), (1, .int 20)]) (st' := [.ref 69, .ref 69]) (by rfl) ?_
  refine Pa.gfI (v := 1) (by rfl) (by rfl) (.inl rfl) (by rfl) (by show (uI (uI (uI (uI (uI yA 69 85 0) 69 86 yc) 128 0 12) 69 85 1) 128 1 20).1 69 85 = 1; rw [uI_c (by decide), uI_h]) ?_
  refine Pa.ic (x := 1) (pc' := 25) (by rfl) (by rfl) (by decide) ?_
  refine Pa.mp 1 (pc' := 26) (l' := [(0, .ref 69), (1, .int 20)]) (st' := [.int 2, .ref 69]) (by rfl) ?_
  refine Pa.pfI (by rfl) (by rfl) (.inl rfl) (by rfl) ?_
  show Pa N 251 29 [(0, .ref 69), (1, .int 20)] [] (uI (uI (uI (uI (uI (uI yA 69 85 0) 69 86 yc) 128 0 12) 69 85 1) 128 1 20) 69 85 2) _
  refine Pa.vret (by rfl) ?_
  show Pa N 253 73 [(0, .ref 69), (1, .int 1), (2, .int yx)] [] (uI (uI (uI (uI (uI (uI yA 69 85 0) 69 86 yc) 128 0 12) 69 85 1) 128 1 20) 69 85 2) _
  refine Pa.mp 1 (pc' := 74) (l' := [(0, .ref 69), (1, .int 1), (2, .int yx)]) (st' := [.ref 69]) (by rfl) ?_
  refine Pa.ic (x := 1) (pc' := 75) (by rfl) (by rfl) (by decide) ?_
  refine Pa.ist (by rfl) (by rfl) (.inl rfl) (by rfl) (by rfl) ?_
  show Pa N 250 0 [(0, .int 1)] [] (uI (uI (uI (uI (uI (uI yA 69 85 0) 69 86 yc) 128 0 12) 69 85 1) 128 1 20) 69 85 2) _
  refine Pa.mp 1 (pc' := 1) (l' := [(0, .int 1)]) (st' := [.int 1]) (by rfl) ?_
  refine Pa.ic (x := 5) (pc' := 2) (by rfl) (by rfl) (by decide) ?_
  refine Pa.if2k false (by rfl) (by rfl) (by decide) ?_
  show Pa N 250 5 [(0, .int 1)] [] (uI (uI (uI (uI (uI (uI yA 69 85 0) 69 86 yc) 128 0 12) 69 85 1) 128 1 20) 69 85 2) _
  refine Pa.mp 1 (pc' := 6) (l' := [(0, .int 1)]) (st' := [.int 1]) (by rfl) ?_
  refine Pa.ic (x := 3) (pc' := 7) (by rfl) (by rfl) (by decide) ?_
  refine Pa.if2k true (by rfl) (by rfl) (by decide) ?_
  show Pa N 250 14 [(0, .int 1)] [] (uI (uI (uI (uI (uI (uI yA 69 85 0) 69 86 yc) 128 0 12) 69 85 1) 128 1 20) 69 85 2) _
  refine Pa.mp 1 (pc' := 15) (l' := [(0, .int 1)]) (st' := [.int 1]) (by rfl) ?_
  refine Pa.ic (x := 6) (pc' := 17) (by rfl) (by rfl) (by decide) ?_
  refine Pa.if2k true (by rfl) (by rfl) (by decide) ?_
  show Pa N 250 24 [(0, .int 1)] [] (uI (uI (uI (uI (uI (uI yA 69 85 0) 69 86 yc) 128 0 12) 69 85 1) 128 1 20) 69 85 2) _
  refine Pa.ic (x := 0) (pc' := 25) (by rfl) (by rfl) (by decide) ?_
  refine Pa.iret (by rfl) ?_
  show Pa N 253 78 [(0, .ref 69), (1, .int 1), (2, .int yx)] [.int 0, .ref 69] (uI (uI (uI (uI (uI (uI yA 69 85 0) 69 86 yc) 128 0 12) 69 85 1) 128 1 20) 69 85 2) _
  refine Pa.mp 1 (pc' := 79) (l' := [(0, .ref 69), (1, .int 1), (2, .int yx)]) (st' := [.int yx, .int 0, .ref 69]) (by rfl) ?_
  refine Pa.inv (by rfl) (by rfl) (.inl rfl) (by rfl) ?_
  show Pa N 253 0 [(0, .ref 69), (1, .int 0), (2, .int yx)] [] (uI (uI (uI (uI (uI (uI yA 69 85 0) 69 86 yc) 128 0 12) 69 85 1) 128 1 20) 69 85 2) _
  refine Pa.mp 1 (pc' := 1) (l' := [(0, .ref 69), (1, .int 0), (2, .int yx)]) (st' := [.int 0]) (by rfl) ?_
  refine Pa.mp 1 (pc' := 44) (l' := [(0, .ref 69), (1, .int 0), (2, .int yx)]) (st' := []) (by rfl) ?_
  refine Pa.mp 1 (pc' := 45) (l' := [(0, .ref 69), (1, .int 0), (2, .int yx)]) (st' := [.ref 69]) (by rfl) ?_
  refine Pa.ic (x := 11) (pc' := 47) (by rfl) (by rfl) (by decide) ?_
  refine Pa.inv (by rfl) (by rfl) (.inl rfl) (by rfl) ?_
  show Pa N 251 0 [(0, .ref 69), (1, .int 11)] [] (uI (uI (uI (uI (uI (uI yA 69 85 0) 69 86 yc) 128 0 12) 69 85 1) 128 1 20) 69 85 2) _
  refine Pa.mp 1 (pc' := 1) (l' := [(0, .ref 69), (1, .int 11)]) (st' := [.ref 69]) (by rfl) ?_
  refine Pa.gfI (v := 2) (by rfl) (by rfl) (.inl rfl) (by rfl) (by show (uI (uI (uI (uI (uI (uI yA 69 85 0) 69 86 yc) 128 0 12) 69 85 1) 128 1 20) 69 85 2).1 69 85 = 2; rw [uI_h]) ?_
  refine Pa.ic (x := 24) (pc' := 6) (by rfl) (by rfl) (by decide) ?_
  refine Pa.if2k false (by rfl) (by rfl) (by decide) ?_
  show Pa N 251 9 [(0, .ref 69), (1, .int 11)] [] (uI (uI (uI (uI (uI (uI yA 69 85 0) 69 86 yc) 128 0 12) 69 85 1) 128 1 20) 69 85 2) _
  refine Pa.mp 1 (pc' := 10) (l' := [(0, .ref 69), (1, .int 11)]) (st' := [.ref 69]) (by rfl) ?_
  refine Pa.gfR (by rfl) (by rfl) (.inl rfl) (by rfl) ?_
  show Pa N 251 13 [(0, .ref 69), (1, .int 11)] [.ref 128] (uI (uI (uI (uI (uI (uI yA 69 85 0) 69 86 yc) 128 0 12) 69 85 1) 128 1 20) 69 85 2) _
  refine Pa.mp 1 (pc' := 14) (l' := [(0, .ref 69), (1, .int 11)]) (st' := [.ref 69, .ref 128]) (by rfl) ?_
  refine Pa.gfI (v := 2) (by rfl) (by rfl) (.inl rfl) (by rfl) (by show (uI (uI (uI (uI (uI (uI yA 69 85 0) 69 86 yc) 128 0 12) 69 85 1) 128 1 20) 69 85 2).1 69 85 = 2; rw [uI_h]) ?_
  refine Pa.mp 1 (pc' := 18) (l' := [(0, .ref 69), (1, .int 11)]) (st' := [.int 11, .int 2, .ref 128]) (by rfl) ?_
  refine Pa.asts (j' := 2) (by rfl) (by rfl) (by rfl) (fun h7 h8 => ?_)
  show Pa N 251 19 [(0, .ref 69), (1, .int 11)] [] (uI (uI (uI (uI (uI (uI (uI yA 69 85 0) 69 86 yc) 128 0 12) 69 85 1) 128 1 20) 69 85 2) 128 2 11) _
  refine Pa.mp 2 (pc' := 21) (l' := [(0, .ref 69), (1, .int 11)]) (st' := [.ref 69, .ref 69]) (by rfl) ?_
  refine Pa.gfI (v := 2) (by rfl) (by rfl) (.inl rfl) (by rfl) (by show (uI (uI (uI (uI (uI (uI (uI yA 69 85 0) 69 86 yc) 128 0 12) 69 85 1) 128 1 20) 69 85 2) 128 2 11).1 69 85 = 2; rw [uI_c (by decide), uI_h]) ?_
  refine Pa.ic (x := 1) (pc' := 25) (by rfl) (by rfl) (by decide) ?_
  refine Pa.mp 1 (pc' := 26) (l' := [(0, .ref 69), (1, .int 11)]) (st' := [.int 3, .ref 69]) (by rfl) ?_
  refine Pa.pfI (by rfl) (by rfl) (.inl rfl) (by rfl) ?_
  show Pa N 251 29 [(0, .ref 69), (1, .int 11)] [] (uI (uI (uI (uI (uI (uI (uI (uI yA 69 85 0) 69 86 yc) 128 0 12) 69 85 1) 128 1 20) 69 85 2) 128 2 11) 69 85 3) _
  refine Pa.vret (by rfl) ?_
  show Pa N 253 50 [(0, .ref 69), (1, .int 0), (2, .int yx)] [] (uI (uI (uI (uI (uI (uI (uI (uI yA 69 85 0) 69 86 yc) 128 0 12) 69 85 1) 128 1 20) 69 85 2) 128 2 11) 69 85 3) _
  refine Pa.mp 2 (pc' := 52) (l' := [(0, .ref 69), (1, .int 0), (2, .int yx)]) (st' := [.ref 69, .ref 69]) (by rfl) ?_
  refine Pa.gfR (by rfl) (by rfl) (.inl rfl) (by rfl) ?_
  show Pa N 253 55 [(0, .ref 69), (1, .int 0), (2, .int yx)] [.ref 89, .ref 69] (uI (uI (uI (uI (uI (uI (uI (uI yA 69 85 0) 69 86 yc) 128 0 12) 69 85 1) 128 1 20) 69 85 2) 128 2 11) 69 85 3) _
  refine Pa.mp 1 (pc' := 56) (l' := [(0, .ref 69), (1, .int 0), (2, .int yx)]) (st' := [.ref 69, .ref 89, .ref 69]) (by rfl) ?_
  refine Pa.gfI (v := yc) (by rfl) (by rfl) (.inl rfl) (by rfl) (by show (uI (uI (uI (uI (uI (uI (uI (uI yA 69 85 0) 69 86 yc) 128 0 12) 69 85 1) 128 1 20) 69 85 2) 128 2 11) 69 85 3).1 69 86 = yc; rw [uI_k (by decide), uI_c (by decide), uI_k (by decide), uI_c (by decide), uI_k (by decide), uI_c (by decide), uI_h]) ?_
  refine Pa.alds (v := 1) (by rfl) (by rfl) (by show (uI (uI (uI (uI (uI (uI (uI (uI yA 69 85 0) 69 86 yc) 128 0 12) 69 85 1) 128 1 20) 69 85 2) 128 2 11) 69 85 3).1 89 yc.toInt.toNat = 1; rw [uI_c (by decide), uI_c (by decide), uI_c (by decide), uI_c (by decide), uI_c (by decide), uI_c (by decide), uI_c (by decide), uI_c (by decide), hk]) (fun h9 h10 => ?_)
  have h9 : 0 ≤ yc.toInt := h9
  have h10 : yc.toInt < 150 := h10
  refine Pa.mp 1 (pc' := 61) (l' := [(0, .ref 69), (1, .int 0), (2, .int yx)]) (st' := [.int yx, .int 1, .ref 69]) (by rfl) ?_
  refine Pa.inv (by rfl) (by rfl) (.inl rfl) (by rfl) ?_
  show Pa N 252 0 [(0, .ref 69), (1, .int 1), (2, .int yx)] [] (uI (uI (uI (uI (uI (uI (uI (uI yA 69 85 0) 69 86 yc) 128 0 12) 69 85 1) 128 1 20) 69 85 2) 128 2 11) 69 85 3) _
  refine Pa.mp 1 (pc' := 1) (l' := [(0, .ref 69), (1, .int 1), (2, .int yx)]) (st' := [.int 1]) (by rfl) ?_
  refine Pa.mp 1 (pc' := 93) (l' := [(0, .ref 69), (1, .int 1), (2, .int yx)]) (st' := []) (by rfl) ?_
  refine Pa.mp 2 (pc' := 95) (l' := [(0, .ref 69), (1, .int 1), (2, .int yx)]) (st' := [.int 1, .ref 69]) (by rfl) ?_
  refine Pa.ist (by rfl) (by rfl) (.inl rfl) (by rfl) (by rfl) ?_
  show Pa N 250 0 [(0, .int 1)] [] (uI (uI (uI (uI (uI (uI (uI (uI yA 69 85 0) 69 86 yc) 128 0 12) 69 85 1) 128 1 20) 69 85 2) 128 2 11) 69 85 3) _
  refine Pa.mp 1 (pc' := 1) (l' := [(0, .int 1)]) (st' := [.int 1]) (by rfl) ?_
  refine Pa.ic (x := 5) (pc' := 2) (by rfl) (by rfl) (by decide) ?_
  refine Pa.if2k false (by rfl) (by rfl) (by decide) ?_
  show Pa N 250 5 [(0, .int 1)] [] (uI (uI (uI (uI (uI (uI (uI (uI yA 69 85 0) 69 86 yc) 128 0 12) 69 85 1) 128 1 20) 69 85 2) 128 2 11) 69 85 3) _
  refine Pa.mp 1 (pc' := 6) (l' := [(0, .int 1)]) (st' := [.int 1]) (by rfl) ?_
  refine Pa.ic (x := 3) (pc' := 7) (by rfl) (by rfl) (by decide) ?_
  refine Pa.if2k true (by rfl) (by rfl) (by decide) ?_
  show Pa N 250 14 [(0, .int 1)] [] (uI (uI (uI (uI (uI (uI (uI (uI yA 69 85 0) 69 86 yc) 128 0 12) 69 85 1) 128 1 20) 69 85 2) 128 2 11) 69 85 3) _
  refine Pa.mp 1 (pc' := 15) (l' := [(0, .int 1)]) (st' := [.int 1]) (by rfl) ?_
  refine Pa.ic (x := 6) (pc' := 17) (by rfl) (by rfl) (by decide) ?_
  refine Pa.if2k true (by rfl) (by rfl) (by decide) ?_
  show Pa N 250 24 [(0, .int 1)] [] (uI (uI (uI (uI (uI (uI (uI (uI yA 69 85 0) 69 86 yc) 128 0 12) 69 85 1) 128 1 20) 69 85 2) 128 2 11) 69 85 3) _
  refine Pa.ic (x := 0) (pc' := 25) (by rfl) (by rfl) (by decide) ?_
  refine Pa.iret (by rfl) ?_
  show Pa N 252 98 [(0, .ref 69), (1, .int 1), (2, .int yx)] [.int 0, .ref 69] (uI (uI (uI (uI (uI (uI (uI (uI yA 69 85 0) 69 86 yc) 128 0 12) 69 85 1) 128 1 20) 69 85 2) 128 2 11) 69 85 3) _
  refine Pa.mp 1 (pc' := 99) (l' := [(0, .ref 69), (1, .int 1), (2, .int yx)]) (st' := [.int yx, .int 0, .ref 69]) (by rfl) ?_
  refine Pa.inv (by rfl) (by rfl) (.inl rfl) (by rfl) ?_
  show Pa N 252 0 [(0, .ref 69), (1, .int 0), (2, .int yx)] [] (uI (uI (uI (uI (uI (uI (uI (uI yA 69 85 0) 69 86 yc) 128 0 12) 69 85 1) 128 1 20) 69 85 2) 128 2 11) 69 85 3) _
  refine Pa.mp 1 (pc' := 1) (l' := [(0, .ref 69), (1, .int 0), (2, .int yx)]) (st' := [.int 0]) (by rfl) ?_
  refine Pa.mp 1 (pc' := 36) (l' := [(0, .ref 69), (1, .int 0), (2, .int yx)]) (st' := []) (by rfl) ?_
  refine Pa.mp 1 (pc' := 37) (l' := [(0, .ref 69), (1, .int 0), (2, .int yx)]) (st' := [.ref 69]) (by rfl) ?_
  refine Pa.ic (x := 10) (pc' := 39) (by rfl) (by rfl) (by decide) ?_
  refine Pa.inv (by rfl) (by rfl) (.inl rfl) (by rfl) ?_
  show Pa N 251 0 [(0, .ref 69), (1, .int 10)] [] (uI (uI (uI (uI (uI (uI (uI (uI yA 69 85 0) 69 86 yc) 128 0 12) 69 85 1) 128 1 20) 69 85 2) 128 2 11) 69 85 3) _
  refine Pa.mp 1 (pc' := 1) (l' := [(0, .ref 69), (1, .int 10)]) (st' := [.ref 69]) (by rfl) ?_
  refine Pa.gfI (v := 3) (by rfl) (by rfl) (.inl rfl) (by rfl) (by show (uI (uI (uI (uI (uI (uI (uI (uI yA 69 85 0) 69 86 yc) 128 0 12) 69 85 1) 128 1 20) 69 85 2) 128 2 11) 69 85 3).1 69 85 = 3; rw [uI_h]) ?_
  refine Pa.ic (x := 24) (pc' := 6) (by rfl) (by rfl) (by decide) ?_
  refine Pa.if2k false (by rfl) (by rfl) (by decide) ?_
  show Pa N 251 9 [(0, .ref 69), (1, .int 10)] [] (uI (uI (uI (uI (uI (uI (uI (uI yA 69 85 0) 69 86 yc) 128 0 12) 69 85 1) 128 1 20) 69 85 2) 128 2 11) 69 85 3) _
  refine Pa.mp 1 (pc' := 10) (l' := [(0, .ref 69), (1, .int 10)]) (st' := [.ref 69]) (by rfl) ?_
  refine Pa.gfR (by rfl) (by rfl) (.inl rfl) (by rfl) ?_
  show Pa N 251 13 [(0, .ref 69), (1, .int 10)] [.ref 128] (uI (uI (uI (uI (uI (uI (uI (uI yA 69 85 0) 69 86 yc) 128 0 12) 69 85 1) 128 1 20) 69 85 2) 128 2 11) 69 85 3) _
  refine Pa.mp 1 (pc' := 14) (l' := [(0, .ref 69), (1, .int 10)]) (st' := [.ref 69, .ref 128]) (by rfl) ?_
  refine Pa.gfI (v := 3) (by rfl) (by rfl) (.inl rfl) (by rfl) (by show (uI (uI (uI (uI (uI (uI (uI (uI yA 69 85 0) 69 86 yc) 128 0 12) 69 85 1) 128 1 20) 69 85 2) 128 2 11) 69 85 3).1 69 85 = 3; rw [uI_h]) ?_
  refine Pa.mp 1 (pc' := 18) (l' := [(0, .ref 69), (1, .int 10)]) (st' := [.int 10, .int 3, .ref 128]) (by rfl) ?_
  refine Pa.asts (j' := 3) (by rfl) (by rfl) (by rfl) (fun h11 h12 => ?_)
  show Pa N 251 19 [(0, .ref 69), (1, .int 10)] [] (uI (uI (uI (uI (uI (uI (uI (uI (uI yA 69 85 0) 69 86 yc) 128 0 12) 69 85 1) 128 1 20) 69 85 2) 128 2 11) 69 85 3) 128 3 10) _
  refine Pa.mp 2 (pc' := 21) (l' := [(0, .ref 69), (1, .int 10)]) (st' := [.ref 69, .ref 69]) (by rfl) ?_
  refine Pa.gfI (v := 3) (by rfl) (by rfl) (.inl rfl) (by rfl) (by show (uI (uI (uI (uI (uI (uI (uI (uI (uI yA 69 85 0) 69 86 yc) 128 0 12) 69 85 1) 128 1 20) 69 85 2) 128 2 11) 69 85 3) 128 3 10).1 69 85 = 3; rw [uI_c (by decide), uI_h]) ?_
  refine Pa.ic (x := 1) (pc' := 25) (by rfl) (by rfl) (by decide) ?_
  refine Pa.mp 1 (pc' := 26) (l' := [(0, .ref 69), (1, .int 10)]) (st' := [.int 4, .ref 69]) (by rfl) ?_
  refine Pa.pfI (by rfl) (by rfl) (.inl rfl) (by rfl) ?_
  show Pa N 251 29 [(0, .ref 69), (1, .int 10)] [] (uI (uI (uI (uI (uI (uI (uI (uI (uI (uI yA 69 85 0) 69 86 yc) 128 0 12) 69 85 1) 128 1 20) 69 85 2) 128 2 11) 69 85 3) 128 3 10) 69 85 4) _
  refine Pa.vret (by rfl) ?_
  show Pa N 252 42 [(0, .ref 69), (1, .int 0), (2, .int yx)] [] (uI (uI (uI (uI (uI (uI (uI (uI (uI (uI yA 69 85 0) 69 86 yc) 128 0 12) 69 85 1) 128 1 20) 69 85 2) 128 2 11) 69 85 3) 128 3 10) 69 85 4) _
  refine Pa.mp 3 (pc' := 45) (l' := [(0, .ref 69), (1, .int 0), (2, .int yx)]) (st' := [.ref 69, .ref 69, .int yx]) (by rfl) ?_
  refine Pa.gfI (v := yc) (by rfl) (by rfl) (.inl rfl) (by rfl) (by show (uI (uI (uI (uI (uI (uI (uI (uI (uI (uI yA 69 85 0) 69 86 yc) 128 0 12) 69 85 1) 128 1 20) 69 85 2) 128 2 11) 69 85 3) 128 3 10) 69 85 4).1 69 86 = yc; rw [uI_k (by decide), uI_c (by decide), uI_k (by decide), uI_c (by decide), uI_k (by decide), uI_c (by decide), uI_k (by decide), uI_c (by decide), uI_h]) ?_
  refine Pa.mp 1 (pc' := 49) (l' := [(0, .ref 69), (1, .int 0), (2, .int yx)]) (st' := [.ref 69, .int yc, .ref 69, .int yx]) (by rfl) ?_
  refine Pa.gfI (v := yA.1 69 0) (by rfl) (by rfl) (.inl rfl) (by rfl) (by show (uI (uI (uI (uI (uI (uI (uI (uI (uI (uI yA 69 85 0) 69 86 yc) 128 0 12) 69 85 1) 128 1 20) 69 85 2) 128 2 11) 69 85 3) 128 3 10) 69 85 4).1 69 0 = yA.1 69 0; rw [uI_k (by decide), uI_c (by decide), uI_k (by decide), uI_c (by decide), uI_k (by decide), uI_c (by decide), uI_k (by decide), uI_c (by decide), uI_k (by decide), uI_k (by decide)]) ?_
  refine Pa.inv (by rfl) (by rfl) (.inl rfl) (by rfl) ?_
  refine Pa.mono (c_kof N yA (uI (uI (uI (uI (uI (uI (uI (uI (uI (uI yA 69 85 0) 69 86 yc) 128 0 12) 69 85 1) 128 1 20) 69 85 2) 128 2 11) 69 85 3) 128 3 10) 69 85 4) yc (yA.1 69 0) (funext fun _ => by repeat rw [uI_c (by decide)]) (funext fun _ => by repeat rw [uI_c (by decide)]) (funext fun _ => by repeat rw [uI_c (by decide)])) (fun yu A1 hu => ?_)
  obtain ⟨rfl, hu⟩ := hu
  rw [hu]
  show Pa N 252 55 [(0, .ref 69), (1, .int 0), (2, .int yx)] [.int (kofM yA yc (yA.1 69 0)), .int yx] (uI (uI (uI (uI (uI (uI (uI (uI (uI (uI yA 69 85 0) 69 86 yc) 128 0 12) 69 85 1) 128 1 20) 69 85 2) 128 2 11) 69 85 3) 128 3 10) 69 85 4) _
  refine Pa.mp 1 (pc' := 56) (l' := [(0, .ref 69), (1, .int 0), (2, .int yx)]) (st' := [.int (yx + (kofM yA yc (yA.1 69 0)))]) (by rfl) ?_
  refine Pa.iret (by rfl) ?_
  show Pa N 252 102 [(0, .ref 69), (1, .int 1), (2, .int yx)] [.int (yx + (kofM yA yc (yA.1 69 0)))] (uI (uI (uI (uI (uI (uI (uI (uI (uI (uI yA 69 85 0) 69 86 yc) 128 0 12) 69 85 1) 128 1 20) 69 85 2) 128 2 11) 69 85 3) 128 3 10) 69 85 4) _
  refine Pa.iret (by rfl) ?_
  show Pa N 253 64 [(0, .ref 69), (1, .int 0), (2, .int yx)] [.int (yx + (kofM yA yc (yA.1 69 0)))] (uI (uI (uI (uI (uI (uI (uI (uI (uI (uI yA 69 85 0) 69 86 yc) 128 0 12) 69 85 1) 128 1 20) 69 85 2) 128 2 11) 69 85 3) 128 3 10) 69 85 4) _
  refine Pa.ic (x := 2) (pc' := 65) (by rfl) (by rfl) (by decide) ?_
  refine Pa.mp 1 (pc' := 66) (l' := [(0, .ref 69), (1, .int 0), (2, .int yx)]) (st' := [.int ((yx + (kofM yA yc (yA.1 69 0))) * 2)]) (by rfl) ?_
  refine Pa.iret (by rfl) ?_
  show Pa N 253 82 [(0, .ref 69), (1, .int 1), (2, .int yx)] [.int ((yx + (kofM yA yc (yA.1 69 0))) * 2)] (uI (uI (uI (uI (uI (uI (uI (uI (uI (uI yA 69 85 0) 69 86 yc) 128 0 12) 69 85 1) 128 1 20) 69 85 2) 128 2 11) 69 85 3) 128 3 10) 69 85 4) _
  refine Pa.ic (x := 9) (pc' := 84) (by rfl) (by rfl) (by decide) ?_
  refine Pa.mp 1 (pc' := 85) (l' := [(0, .ref 69), (1, .int 1), (2, .int yx)]) (st' := [.int (((yx + (kofM yA yc (yA.1 69 0))) * 2) ^^^ 9)]) (by rfl) ?_
  refine Pa.iret (by rfl) ?_
  show Pa N 254 56 [(0, .ref 69), (1, .int 0), (2, .int yx)] [.int (((yx + (kofM yA yc (yA.1 69 0))) * 2) ^^^ 9)] (uI (uI (uI (uI (uI (uI (uI (uI (uI (uI yA 69 85 0) 69 86 yc) 128 0 12) 69 85 1) 128 1 20) 69 85 2) 128 2 11) 69 85 3) 128 3 10) 69 85 4) _
  refine Pa.mp 1 (pc' := 57) (l' := [(0, .ref 69), (1, .int 0), (2, .int yx)]) (st' := [.ref 69, .int (((yx + (kofM yA yc (yA.1 69 0))) * 2) ^^^ 9)]) (by rfl) ?_
  refine Pa.gfI (v := yc) (by rfl) (by rfl) (.inl rfl) (by rfl) (by show (uI (uI (uI (uI (uI (uI (uI (uI (uI (uI yA 69 85 0) 69 86 yc) 128 0 12) 69 85 1) 128 1 20) 69 85 2) 128 2 11) 69 85 3) 128 3 10) 69 85 4).1 69 86 = yc; rw [uI_k (by decide), uI_c (by decide), uI_k (by decide), uI_c (by decide), uI_k (by decide), uI_c (by decide), uI_k (by decide), uI_c (by decide), uI_h]) ?_
  refine Pa.mp 1 (pc' := 61) (l' := [(0, .ref 69), (1, .int 0), (2, .int yx)]) (st' := [.int ((((yx + (kofM yA yc (yA.1 69 0))) * 2) ^^^ 9) - yc)]) (by rfl) ?_
  refine Pa.iret (by rfl) ?_
  show Pa N 254 122 [(0, .ref 69), (1, .int 1), (2, .int yx)] [.int ((((yx + (kofM yA yc (yA.1 69 0))) * 2) ^^^ 9) - yc)] (uI (uI (uI (uI (uI (uI (uI (uI (uI (uI yA 69 85 0) 69 86 yc) 128 0 12) 69 85 1) 128 1 20) 69 85 2) 128 2 11) 69 85 3) 128 3 10) 69 85 4) _
  refine Pa.iret (by rfl) ?_
  exact l1 h3 h4

theorem bpm2_2 {N : Nat} {yA : AW} {yQ : Option Value → AW → Prop} (yx yc : Int32) (hk : yA.1 89 yc.toInt.toNat = 2)
    (l1 : 0 ≤ yc.toInt → yc.toInt < 150 → yQ (some (.int ((((yx + (kofM yA yc (yA.1 69 0))) - 4) * 2) - yc))) (uI (uI (uI (uI (uI (uI (uI (uI (uI (uI yA 69 85 0) 69 86 yc) 128 0 12) 69 85 1) 128 1 11) 69 85 2) 128 2 30) 69 85 3) 128 3 10) 69 85 4)) :
    Pa N 254 0 [(0, .ref 69), (1, .int 2), (2, .int yx)] [] (uI (uI yA 69 85 0) 69 86 yc) yQ := by
  refine Pa.mp 1 (pc' := 1) (l' := [(0, .ref 69), (1, .int 2), (2, .int yx)]) (st' := [.int 2]) (by rfl) ?_
  refine Pa.mp 1 (pc' := 113) (l' := [(0, .ref 69), (1, .int 2), (2, .int yx)]) (st' := []) (by rfl) ?_
  refine Pa.mp 2 (pc' := 115) (l' := [(0, .ref 69), (1, .int 2), (2, .int yx)]) (st' := [.int 2, .ref 69]) (by rfl) ?_
  refine Pa.ist (by rfl) (by rfl) (.inl rfl) (by rfl) (by rfl) ?_
  show Pa N 250 0 [(0, .int 2)] [] (uI (uI yA 69 85 0) 69 86 yc) _
  refine Pa.mp 1 (pc' := 1) (l' := [(0, .int 2)]) (st' := [.int 2]) (by rfl) ?_
  refine Pa.ic (x := 5) (pc' := 2) (by rfl) (by rfl) (by decide) ?_
  refine Pa.if2k false (by rfl) (by rfl) (by decide) ?_
  show Pa N 250 5 [(0, .int 2)] [] (uI (uI yA 69 85 0) 69 86 yc) _
  refine Pa.mp 1 (pc' := 6) (l' := [(0, .int 2)]) (st' := [.int 2]) (by rfl) ?_
  refine Pa.ic (x := 3) (pc' := 7) (by rfl) (by rfl) (by decide) ?_
  refine Pa.if2k true (by rfl) (by rfl) (by decide) ?_
  show Pa N 250 14 [(0, .int 2)] [] (uI (uI yA 69 85 0) 69 86 yc) _
  refine Pa.mp 1 (pc' := 15) (l' := [(0, .int 2)]) (st' := [.int 2]) (by rfl) ?_
  refine Pa.ic (x := 6) (pc' := 17) (by rfl) (by rfl) (by decide) ?_
  refine Pa.if2k true (by rfl) (by rfl) (by decide) ?_
  show Pa N 250 24 [(0, .int 2)] [] (uI (uI yA 69 85 0) 69 86 yc) _
  refine Pa.ic (x := 0) (pc' := 25) (by rfl) (by rfl) (by decide) ?_
  refine Pa.iret (by rfl) ?_
  show Pa N 254 118 [(0, .ref 69), (1, .int 2), (2, .int yx)] [.int 0, .ref 69] (uI (uI yA 69 85 0) 69 86 yc) _
  refine Pa.mp 1 (pc' := 119) (l' := [(0, .ref 69), (1, .int 2), (2, .int yx)]) (st' := [.int yx, .int 0, .ref 69]) (by rfl) ?_
  refine Pa.inv (by rfl) (by rfl) (.inl rfl) (by rfl) ?_
  show Pa N 254 0 [(0, .ref 69), (1, .int 0), (2, .int yx)] [] (uI (uI yA 69 85 0) 69 86 yc) _
  refine Pa.mp 1 (pc' := 1) (l' := [(0, .ref 69), (1, .int 0), (2, .int yx)]) (st' := [.int 0]) (by rfl) ?_
  refine Pa.mp 1 (pc' := 36) (l' := [(0, .ref 69), (1, .int 0), (2, .int yx)]) (st' := []) (by rfl) ?_
  refine Pa.mp 1 (pc' := 37) (l' := [(0, .ref 69), (1, .int 0), (2, .int yx)]) (st' := [.ref 69]) (by rfl) ?_
  refine Pa.ic (x := 12) (pc' := 39) (by rfl) (by rfl) (by decide) ?_
  refine Pa.inv (by rfl) (by rfl) (.inl rfl) (by rfl) ?_
  show Pa N 251 0 [(0, .ref 69), (1, .int 12)] [] (uI (uI yA 69 85 0) 69 86 yc) _
  refine Pa.mp 1 (pc' := 1) (l' := [(0, .ref 69), (1, .int 12)]) (st' := [.ref 69]) (by rfl) ?_
  refine Pa.gfI (v := 0) (by rfl) (by rfl) (.inl rfl) (by rfl) (by show (uI (uI yA 69 85 0) 69 86 yc).1 69 85 = 0; rw [uI_k (by decide), uI_h]) ?_
  refine Pa.ic (x := 24) (pc' := 6) (by rfl) (by rfl) (by decide) ?_
  refine Pa.if2k false (by rfl) (by rfl) (by decide) ?_
  show Pa N 251 9 [(0, .ref 69), (1, .int 12)] [] (uI (uI yA 69 85 0) 69 86 yc) _
  refine Pa.mp 1 (pc' := 10) (l' := [(0, .ref 69), (1, .int 12)]) (st' := [.ref 69]) (by rfl) ?_
  refine Pa.gfR (by rfl) (by rfl) (.inl rfl) (by rfl) ?_
  show Pa N 251 13 [(0, .ref 69), (1, .int 12)] [.ref 128] (uI (uI yA 69 85 0) 69 86 yc) _
  refine Pa.mp 1 (pc' := 14) (l' := [(0, .ref 69), (1, .int 12)]) (st' := [.ref 69, .ref 128]) (by rfl) ?_
  refine Pa.gfI (v := 0) (by rfl) (by rfl) (.inl rfl) (by rfl) (by show (uI (uI yA 69 85 0) 69 86 yc).1 69 85 = 0; rw [uI_k (by decide), uI_h]) ?_
  refine Pa.mp 1 (pc' := 18) (l' := [(0, .ref 69), (1, .int 12)]) (st' := [.int 12, .int 0, .ref 128]) (by rfl) ?_
  refine Pa.asts (j' := 0) (by rfl) (by rfl) (by rfl) (fun h1 h2 => ?_)
  show Pa N 251 19 [(0, .ref 69), (1, .int 12)] [] (uI (uI (uI yA 69 85 0) 69 86 yc) 128 0 12) _
  refine Pa.mp 2 (pc' := 21) (l' := [(0, .ref 69), (1, .int 12)]) (st' := [.ref 69, .ref 69]) (by rfl) ?_
  refine Pa.gfI (v := 0) (by rfl) (by rfl) (.inl rfl) (by rfl) (by show (uI (uI (uI yA 69 85 0) 69 86 yc) 128 0 12).1 69 85 = 0; rw [uI_c (by decide), uI_k (by decide), uI_h]) ?_
  refine Pa.ic (x := 1) (pc' := 25) (by rfl) (by rfl) (by decide) ?_
  refine Pa.mp 1 (pc' := 26) (l' := [(0, .ref 69), (1, .int 12)]) (st' := [.int 1, .ref 69]) (by rfl) ?_
  refine Pa.pfI (by rfl) (by rfl) (.inl rfl) (by rfl) ?_
  show Pa N 251 29 [(0, .ref 69), (1, .int 12)] [] (uI (uI (uI (uI yA 69 85 0) 69 86 yc) 128 0 12) 69 85 1) _
  refine Pa.vret (by rfl) ?_
  show Pa N 254 42 [(0, .ref 69), (1, .int 0), (2, .int yx)] [] (uI (uI (uI (uI yA 69 85 0) 69 86 yc) 128 0 12) 69 85 1) _
  refine Pa.mp 2 (pc' := 44) (l' := [(0, .ref 69), (1, .int 0), (2, .int yx)]) (st' := [.ref 69, .ref 69]) (by rfl) ?_
  refine Pa.gfR (by rfl) (by rfl) (.inl rfl) (by rfl) ?_
  show Pa N 254 47 [(0, .ref 69), (1, .int 0), (2, .int yx)] [.ref 89, .ref 69] (uI (uI (uI (uI yA 69 85 0) 69 86 yc) 128 0 12) 69 85 1) _
  refine Pa.mp 1 (pc' := 48) (l' := [(0, .ref 69), (1, .int 0), (2, .int yx)]) (st' := [.ref 69, .ref 89, .ref 69]) (by rfl) ?_
  refine Pa.gfI (v := yc) (by rfl) (by rfl) (.inl rfl) (by rfl) (by show (uI (uI (uI (uI yA 69 85 0) 69 86 yc) 128 0 12) 69 85 1).1 69 86 = yc; rw [uI_k (by decide), uI_c (by decide), uI_h]) ?_
  refine Pa.alds (v := 2) (by rfl) (by rfl) (by show (uI (uI (uI (uI yA 69 85 0) 69 86 yc) 128 0 12) 69 85 1).1 89 yc.toInt.toNat = 2; rw [uI_c (by decide), uI_c (by decide), uI_c (by decide), uI_c (by decide), hk]) (fun h3 h4 => ?_)
  have h3 : 0 ≤ yc.toInt := h3
  have h4 : yc.toInt < 150 := h4
  refine Pa.mp 1 (pc' := 53) (l' := [(0, .ref 69), (1, .int 0), (2, .int yx)]) (st' := [.int yx, .int 2, .ref 69]) (by rfl) ?_
  refine Pa.inv (by rfl) (by rfl) (.inl rfl) (by rfl) ?_
  show Pa N 253 0 [(0, .ref 69), (1, .int 2), (2, .int yx)] [] (uI (uI (uI (uI yA 69 85 0) 69 86 yc) 128 0 12) 69 85 1) _
  refine Pa.mp 1 (pc' := 1) (l' := [(0, .ref 69), (1, .int 2), (2, .int yx)]) (st' := [.int 2]) (by rfl) ?_
  refine Pa.mp 1 (pc' := 137) (l' := [(0, .ref 69), (1, .int 2), (2, .int yx)]) (st' := []) (by rfl) ?_
  refine Pa.mp 2 (pc' := 139) (l' := [(0, .ref 69), (1, .int 2), (2, .int yx)]) (st' := [.int 2, .ref 69]) (by rfl) ?_
  refine Pa.ist (by rfl) (by rfl) (.inl rfl) (by rfl) (by rfl) ?_
  show Pa N 250 0 [(0, .int 2)] [] (uI (uI (uI (uI yA 69 85 0) 69 86 yc) 128 0 12) 69 85 1) _
  refine Pa.mp 1 (pc' := 1) (l' := [(0, .int 2)]) (st' := [.int 2]) (by rfl) ?_
  refine Pa.ic (x := 5) (pc' := 2) (by rfl) (by rfl) (by decide) ?_
  refine Pa.if2k false (by rfl) (by rfl) (by decide) ?_
  show Pa N 250 5 [(0, .int 2)] [] (uI (uI (uI (uI yA 69 85 0) 69 86 yc) 128 0 12) 69 85 1) _
  refine Pa.mp 1 (pc' := 6) (l' := [(0, .int 2)]) (st' := [.int 2]) (by rfl) ?_
  refine Pa.ic (x := 3) (pc' := 7) (by rfl) (by rfl) (by decide) ?_
  refine Pa.if2k true (by rfl) (by rfl) (by decide) ?_
  show Pa N 250 14 [(0, .int 2)] [] (uI (uI (uI (uI yA 69 85 0) 69 86 yc) 128 0 12) 69 85 1) _
  refine Pa.mp 1 (pc' := 15) (l' := [(0, .int 2)]) (st' := [.int 2]) (by rfl) ?_
  refine Pa.ic (x := 6) (pc' := 17) (by rfl) (by rfl) (by decide) ?_
  refine Pa.if2k true (by rfl) (by rfl) (by decide) ?_
  show Pa N 250 24 [(0, .int 2)] [] (uI (uI (uI (uI yA 69 85 0) 69 86 yc) 128 0 12) 69 85 1) _
  refine Pa.ic (x := 0) (pc' := 25) (by rfl) (by rfl) (by decide) ?_
  refine Pa.iret (by rfl) ?_
  show Pa N 253 142 [(0, .ref 69), (1, .int 2), (2, .int yx)] [.int 0, .ref 69] (uI (uI (uI (uI yA 69 85 0) 69 86 yc) 128 0 12) 69 85 1) _
  refine Pa.mp 1 (pc' := 143) (l' := [(0, .ref 69), (1, .int 2), (2, .int yx)]) (st' := [.int yx, .int 0, .ref 69]) (by rfl) ?_
  refine Pa.inv (by rfl) (by rfl) (.inl rfl) (by rfl) ?_
  show Pa N 253 0 [(0, .ref 69), (1, .int 0), (2, .int yx)] [] (uI (uI (uI (uI yA 69 85 0) 69 86 yc) 128 0 12) 69 85 1) _
  refine Pa.mp 1 (pc' := 1) (l' := [(0, .ref 69), (1, .int 0), (2, .int yx)]) (st' := [.int 0]) (by rfl) ?_
  refine Pa.mp 1 (pc' := 44) (l' := [(0, .ref 69), (1, .int 0), (2, .int yx)]) (st' := []) (by rfl) ?_
  refine Pa.mp 1 (pc' := 45) (l' := [(0, .ref 69), (1, .int 0), (2, .int yx)]) (st' := [.ref 69]) (by rfl) ?_
  refine Pa.ic (x := 11) (pc' := 47) (by rfl) (by rfl) (by decide) ?_
  refine Pa.inv (by rfl) (by rfl) (.inl rfl) (by rfl) ?_
  show Pa N 251 0 [(0, .ref 69), (1, .int 11)] [] (uI (uI (uI (uI yA 69 85 0) 69 86 yc) 128 0 12) 69 85 1) _
  refine Pa.mp 1 (pc' := 1) (l' := [(0, .ref 69), (1, .int 11)]) (st' := [.ref 69]) (by rfl) ?_
  refine Pa.gfI (v := 1) (by rfl) (by rfl) (.inl rfl) (by rfl) (by show (uI (uI (uI (uI yA 69 85 0) 69 86 yc) 128 0 12) 69 85 1).1 69 85 = 1; rw [uI_h]) ?_
  refine Pa.ic (x := 24) (pc' := 6) (by rfl) (by rfl) (by decide) ?_
  refine Pa.if2k false (by rfl) (by rfl) (by decide) ?_
  show Pa N 251 9 [(0, .ref 69), (1, .int 11)] [] (uI (uI (uI (uI yA 69 85 0) 69 86 yc) 128 0 12) 69 85 1) _
  refine Pa.mp 1 (pc' := 10) (l' := [(0, .ref 69), (1, .int 11)]) (st' := [.ref 69]) (by rfl) ?_
  refine Pa.gfR (by rfl) (by rfl) (.inl rfl) (by rfl) ?_
  show Pa N 251 13 [(0, .ref 69), (1, .int 11)] [.ref 128] (uI (uI (uI (uI yA 69 85 0) 69 86 yc) 128 0 12) 69 85 1) _
  refine Pa.mp 1 (pc' := 14) (l' := [(0, .ref 69), (1, .int 11)]) (st' := [.ref 69, .ref 128]) (by rfl) ?_
  refine Pa.gfI (v := 1) (by rfl) (by rfl) (.inl rfl) (by rfl) (by show (uI (uI (uI (uI yA 69 85 0) 69 86 yc) 128 0 12) 69 85 1).1 69 85 = 1; rw [uI_h]) ?_
  refine Pa.mp 1 (pc' := 18) (l' := [(0, .ref 69), (1, .int 11)]) (st' := [.int 11, .int 1, .ref 128]) (by rfl) ?_
  refine Pa.asts (j' := 1) (by rfl) (by rfl) (by rfl) (fun h5 h6 => ?_)
  show Pa N 251 19 [(0, .ref 69), (1, .int 11)] [] (uI (uI (uI (uI (uI yA 69 85 0) 69 86 yc) 128 0 12) 69 85 1) 128 1 11) _
  refine Pa.mp 2 (pc' := 21) (l' := [(0, .ref 69), (1, .int 11)]) (st' := [.ref 69, .ref 69]) (by rfl) ?_
  refine Pa.gfI (v := 1) (by rfl) (by rfl) (.inl rfl) (by rfl) (by show (uI (uI (uI (uI (uI yA 69 85 0) 69 86 yc) 128 0 12) 69 85 1) 128 1 11).1 69 85 = 1; rw [uI_c (by decide), uI_h]) ?_
  refine Pa.ic (x := 1) (pc' := 25) (by rfl) (by rfl) (by decide) ?_
  refine Pa.mp 1 (pc' := 26) (l' := [(0, .ref 69), (1, .int 11)]) (st' := [.int 2, .ref 69]) (by rfl) ?_
  refine Pa.pfI (by rfl) (by rfl) (.inl rfl) (by rfl) ?_
  show Pa N 251 29 [(0, .ref 69), (1, .int 11)] [] (uI (uI (uI (uI (uI (uI yA 69 85 0) 69 86 yc) 128 0 12) 69 85 1) 128 1 11) 69 85 2) _
  refine Pa.vret (by rfl) ?_
  show Pa N 253 50 [(0, .ref 69), (1, .int 0), (2, .int yx)] [] (uI (uI (uI (uI (uI (uI yA 69 85 0) 69 86 yc) 128 0 12) 69 85 1) 128 1 11) 69 85 2) _
  refine Pa.mp 2 (pc' := 52) (l' := [(0, .ref 69), (1, .int 0), (2, .int yx)]) (st' := [.ref 69, .ref 69]) (by rfl) ?_
  refine Pa.gfR (by rfl) (by rfl) (.inl rfl) (by rfl) ?_
  show Pa N 253 55 [(0, .ref 69), (1, .int 0), (2, .int yx)] [.ref 89, .ref 69] (uI (uI (uI (uI (uI (uI yA 69 85 0) 69 86 yc) 128 0 12) 69 85 1) 128 1 11) 69 85 2) _
  refine Pa.mp 1 (pc' := 56) (l' := [(0, .ref 69), (1, .int 0), (2, .int yx)]) (st' := [.ref 69, .ref 89, .ref 69]) (by rfl) ?_
  refine Pa.gfI (v := yc) (by rfl) (by rfl) (.inl rfl) (by rfl) (by show (uI (uI (uI (uI (uI (uI yA 69 85 0) 69 86 yc) 128 0 12) 69 85 1) 128 1 11) 69 85 2).1 69 86 = yc; rw [uI_k (by decide), uI_c (by decide), uI_k (by decide), uI_c (by decide), uI_h]) ?_
  refine Pa.alds (v := 2) (by rfl) (by rfl) (by show (uI (uI (uI (uI (uI (uI yA 69 85 0) 69 86 yc) 128 0 12) 69 85 1) 128 1 11) 69 85 2).1 89 yc.toInt.toNat = 2; rw [uI_c (by decide), uI_c (by decide), uI_c (by decide), uI_c (by decide), uI_c (by decide), uI_c (by decide), hk]) (fun h7 h8 => ?_)
  have h7 : 0 ≤ yc.toInt := h7
  have h8 : yc.toInt < 150 := h8
  refine Pa.mp 1 (pc' := 61) (l' := [(0, .ref 69), (1, .int 0), (2, .int yx)]) (st' := [.int yx, .int 2, .ref 69]) (by rfl) ?_
  refine Pa.inv (by rfl) (by rfl) (.inl rfl) (by rfl) ?_
  show Pa N 252 0 [(0, .ref 69), (1, .int 2), (2, .int yx)] [] (uI (uI (uI (uI (uI (uI yA 69 85 0) 69 86 yc) 128 0 12) 69 85 1) 128 1 11) 69 85 2) _
  refine Pa.mp 1 (pc' := 1) (l' := [(0, .ref 69), (1, .int 2), (2, .int yx)]) (st' := [.int 2]) (by rfl) ?_
  refine Pa.mp 1 (pc' := 57) (l' := [(0, .ref 69), (1, .int 2), (2, .int yx)]) (st' := []) (by rfl) ?_
  refine Pa.mp 1 (pc' := 58) (l' := [(0, .ref 69), (1, .int 2), (2, .int yx)]) (st' := [.ref 69]) (by rfl) ?_
  refine Pa.ic (x := 30) (pc' := 60) (by rfl) (by rfl) (by decide) ?_
  refine Pa.inv (by rfl) (by rfl) (.inl rfl) (by rfl) ?_
  show Pa N 251 0 [(0, .ref 69), (1, .int 30)] [] (uI (uI (uI (uI (uI (uI yA 69 85 0) 69 86 yc) 128 0 12) 69 85 1) 128 1 11) 69 85 2) _
  refine Pa.mp 1 (pc' := 1) (l' := [(0, .ref 69), (1, .int 30)]) (st' := [.ref 69]) (by rfl) ?_
  refine Pa.gfI (v := 2) (by rfl) (by rfl) (.inl rfl) (by rfl) (by show (uI (uI (uI (uI (uI (uI yA 69 85 0) 69 86 yc) 128 0 12) 69 85 1) 128 1 11) 69 85 2).1 69 85 = 2; rw [uI_h]) ?_
  refine Pa.ic (x := 24) (pc' := 6) (by rfl) (by rfl) (by decide) ?_
  refine Pa.if2k false (by rfl) (by rfl) (by decide) ?_
  show Pa N 251 9 [(0, .ref 69), (1, .int 30)] [] (uI (uI (uI (uI (uI (uI yA 69 85 0) 69 86 yc) 128 0 12) 69 85 1) 128 1 11) 69 85 2) _
  refine Pa.mp 1 (pc' := 10) (l' := [(0, .ref 69), (1, .int 30)]) (st' := [.ref 69]) (by rfl) ?_
  refine Pa.gfR (by rfl) (by rfl) (.inl rfl) (by rfl) ?_
  show Pa N 251 13 [(0, .ref 69), (1, .int 30)] [.ref 128] (uI (uI (uI (uI (uI (uI yA 69 85 0) 69 86 yc) 128 0 12) 69 85 1) 128 1 11) 69 85 2) _
  refine Pa.mp 1 (pc' := 14) (l' := [(0, .ref 69), (1, .int 30)]) (st' := [.ref 69, .ref 128]) (by rfl) ?_
  refine Pa.gfI (v := 2) (by rfl) (by rfl) (.inl rfl) (by rfl) (by show (uI (uI (uI (uI (uI (uI yA 69 85 0) 69 86 yc) 128 0 12) 69 85 1) 128 1 11) 69 85 2).1 69 85 = 2; rw [uI_h]) ?_
  refine Pa.mp 1 (pc' := 18) (l' := [(0, .ref 69), (1, .int 30)]) (st' := [.int 30, .int 2, .ref 128]) (by rfl) ?_
  refine Pa.asts (j' := 2) (by rfl) (by rfl) (by rfl) (fun h9 h10 => ?_)
  show Pa N 251 19 [(0, .ref 69), (1, .int 30)] [] (uI (uI (uI (uI (uI (uI (uI yA 69 85 0) 69 86 yc) 128 0 12) 69 85 1) 128 1 11) 69 85 2) 128 2 30) _
  refine Pa.mp 2 (pc' := 21) (l' := [(0, .ref 69), (1, .int 30)]) (st' := [.ref 69, .ref 69]) (by rfl) ?_
  refine Pa.gfI (v := 2) (by rfl) (by rfl) (.inl rfl) (by rfl) (by show (uI (uI (uI (uI (uI (uI (uI yA 69 85 0) 69 86 yc) 128 0 12) 69 85 1) 128 1 11) 69 85 2) 128 2 30).1 69 85 = 2; rw [uI_c (by decide), uI_h]) ?_
  refine Pa.ic (x := 1) (pc' := 25) (by rfl) (by rfl) (by decide) ?_
  refine Pa.mp 1 (pc' := 26) (l' := [(0, .ref 69), (1, .int 30)]) (st' := [.int 3, .ref 69]) (by rfl) ?_
  refine Pa.pfI (by rfl) (by rfl) (.inl rfl) (by rfl) ?_
  show Pa N 251 29 [(0, .ref 69), (1, .int 30)] [] (uI (uI (uI (uI (uI (uI (uI (uI yA 69 85 0) 69 86 yc) 128 0 12) 69 85 1) 128 1 11) 69 85 2) 128 2 30) 69 85 3) _
  refine Pa.vret (by rfl) ?_
  show Pa N 252 63 [(0, .ref 69), (1, .int 2), (2, .int yx)] [] (uI (uI (uI (uI (uI (uI (uI (uI yA 69 85 0) 69 86 yc) 128 0 12) 69 85 1) 128 1 11) 69 85 2) 128 2 30) 69 85 3) _
  refine Pa.mp 1 (pc' := 64) (l' := [(0, .ref 69), (1, .int 2), (2, .int yx)]) (st' := [.ref 69]) (by rfl) ?_
  refine Pa.ic (x := 2) (pc' := 65) (by rfl) (by rfl) (by decide) ?_
  refine Pa.ist (by rfl) (by rfl) (.inl rfl) (by rfl) (by rfl) ?_
  show Pa N 250 0 [(0, .int 2)] [] (uI (uI (uI (uI (uI (uI (uI (uI yA 69 85 0) 69 86 yc) 128 0 12) 69 85 1) 128 1 11) 69 85 2) 128 2 30) 69 85 3) _
  refine Pa.mp 1 (pc' := 1) (l' := [(0, .int 2)]) (st' := [.int 2]) (by rfl) ?_
  refine Pa.ic (x := 5) (pc' := 2) (by rfl) (by rfl) (by decide) ?_
  refine Pa.if2k false (by rfl) (by rfl) (by decide) ?_
  show Pa N 250 5 [(0, .int 2)] [] (uI (uI (uI (uI (uI (uI (uI (uI yA 69 85 0) 69 86 yc) 128 0 12) 69 85 1) 128 1 11) 69 85 2) 128 2 30) 69 85 3) _
  refine Pa.mp 1 (pc' := 6) (l' := [(0, .int 2)]) (st' := [.int 2]) (by rfl) ?_
  refine Pa.ic (x := 3) (pc' := 7) (by rfl) (by rfl) (by decide) ?_
  refine Pa.if2k true (by rfl) (by rfl) (by decide) ?_
  show Pa N 250 14 [(0, .int 2)] [] (uI (uI (uI (uI (uI (uI (uI (uI yA 69 85 0) 69 86 yc) 128 0 12) 69 85 1) 128 1 11) 69 85 2) 128 2 30) 69 85 3) _
  refine Pa.mp 1 (pc' := 15) (l' := [(0, .int 2)]) (st' := [.int 2]) (by rfl) ?_
  refine Pa.ic (x := 6) (pc' := 17) (by rfl) (by rfl) (by decide) ?_
  refine Pa.if2k true (by rfl) (by rfl) (by decide) ?_
  show Pa N 250 24 [(0, .int 2)] [] (uI (uI (uI (uI (uI (uI (uI (uI yA 69 85 0) 69 86 yc) 128 0 12) 69 85 1) 128 1 11) 69 85 2) 128 2 30) 69 85 3) _
  refine Pa.ic (x := 0) (pc' := 25) (by rfl) (by rfl) (by decide) ?_
  refine Pa.iret (by rfl) ?_
  show Pa N 252 68 [(0, .ref 69), (1, .int 2), (2, .int yx)] [.int 0, .ref 69] (uI (uI (uI (uI (uI (uI (uI (uI yA 69 85 0) 69 86 yc) 128 0 12) 69 85 1) 128 1 11) 69 85 2) 128 2 30) 69 85 3) _
  refine Pa.mp 1 (pc' := 69) (l' := [(0, .ref 69), (1, .int 2), (2, .int yx)]) (st' := [.int yx, .int 0, .ref 69]) (by rfl) ?_
  refine Pa.inv (by rfl) (by rfl) (.inl rfl) (by rfl) ?_
  show Pa N 252 0 [(0, .ref 69), (1, .int 0), (2, .int yx)] [] (uI (uI (uI (uI (uI (uI (uI (uI yA 69 85 0) 69 86 yc) 128 0 12) 69 85 1) 128 1 11) 69 85 2) 128 2 30) 69 85 3) _
  refine Pa.mp 1 (pc' := 1) (l' := [(0, .ref 69), (1, .int 0), (2, .int yx)]) (st' := [.int 0]) (by rfl) ?_
  refine Pa.mp 1 (pc' := 36) (l' := [(0, .ref 69), (1, .int 0), (2, .int yx)]) (st' := []) (by rfl) ?_
  refine Pa.mp 1 (pc' := 37) (l' := [(0, .ref 69), (1, .int 0), (2, .int yx)]) (st' := [.ref 69]) (by rfl) ?_
  refine Pa.ic (x := 10) (pc' := 39) (by rfl) (by rfl) (by decide) ?_
  refine Pa.inv (by rfl) (by rfl) (.inl rfl) (by rfl) ?_
  show Pa N 251 0 [(0, .ref 69), (1, .int 10)] [] (uI (uI (uI (uI (uI (uI (uI (uI yA 69 85 0) 69 86 yc) 128 0 12) 69 85 1) 128 1 11) 69 85 2) 128 2 30) 69 85 3) _
  refine Pa.mp 1 (pc' := 1) (l' := [(0, .ref 69), (1, .int 10)]) (st' := [.ref 69]) (by rfl) ?_
  refine Pa.gfI (v := 3) (by rfl) (by rfl) (.inl rfl) (by rfl) (by show (uI (uI (uI (uI (uI (uI (uI (uI yA 69 85 0) 69 86 yc) 128 0 12) 69 85 1) 128 1 11) 69 85 2) 128 2 30) 69 85 3).1 69 85 = 3; rw [uI_h]) ?_
  refine Pa.ic (x := 24) (pc' := 6) (by rfl) (by rfl) (by decide) ?_
  refine Pa.if2k false (by rfl) (by rfl) (by decide) ?_
  show Pa N 251 9 [(0, .ref 69), (1, .int 10)] [] (uI (uI (uI (uI (uI (uI (uI (uI yA 69 85 0) 69 86 yc) 128 0 12) 69 85 1) 128 1 11) 69 85 2) 128 2 30) 69 85 3) _
  refine Pa.mp 1 (pc' := 10) (l' := [(0, .ref 69), (1, .int 10)]) (st' := [.ref 69]) (by rfl) ?_
  refine Pa.gfR (by rfl) (by rfl) (.inl rfl) (by rfl) ?_
  show Pa N 251 13 [(0, .ref 69), (1, .int 10)] [.ref 128] (uI (uI (uI (uI (uI (uI (uI (uI yA 69 85 0) 69 86 yc) 128 0 12) 69 85 1) 128 1 11) 69 85 2) 128 2 30) 69 85 3) _
  refine Pa.mp 1 (pc' := 14) (l' := [(0, .ref 69), (1, .int 10)]) (st' := [.ref 69, .ref 128]) (by rfl) ?_
  refine Pa.gfI (v := 3) (by rfl) (by rfl) (.inl rfl) (by rfl) (by show (uI (uI (uI (uI (uI (uI (uI (uI yA 69 85 0) 69 86 yc) 128 0 12) 69 85 1) 128 1 11) 69 85 2) 128 2 30) 69 85 3).1 69 85 = 3; rw [uI_h]) ?_
  refine Pa.mp 1 (pc' := 18) (l' := [(0, .ref 69), (1, .int 10)]) (st' := [.int 10, .int 3, .ref 128]) (by rfl) ?_
  refine Pa.asts (j' := 3) (by rfl) (by rfl) (by rfl) (fun h11 h12 => ?_)
  show Pa N 251 19 [(0, .ref 69), (1, .int 10)] [] (uI (uI (uI (uI (uI (uI (uI (uI (uI yA 69 85 0) 69 86 yc) 128 0 12) 69 85 1) 128 1 11) 69 85 2) 128 2 30) 69 85 3) 128 3 10) _
  refine Pa.mp 2 (pc' := 21) (l' := [(0, .ref 69), (1, .int 10)]) (st' := [.ref 69, .ref 69]) (by rfl) ?_
  refine Pa.gfI (v := 3) (by rfl) (by rfl) (.inl rfl) (by rfl) (by show (uI (uI (uI (uI (uI (uI (uI (uI (uI yA 69 85 0) 69 86 yc) 128 0 12) 69 85 1) 128 1 11) 69 85 2) 128 2 30) 69 85 3) 128 3 10).1 69 85 = 3; rw [uI_c (by decide), uI_h]) ?_
  refine Pa.ic (x := 1) (pc' := 25) (by rfl) (by rfl) (by decide) ?_
  refine Pa.mp 1 (pc' := 26) (l' := [(0, .ref 69), (1, .int 10)]) (st' := [.int 4, .ref 69]) (by rfl) ?_
  refine Pa.pfI (by rfl) (by rfl) (.inl rfl) (by rfl) ?_
  show Pa N 251 29 [(0, .ref 69), (1, .int 10)] [] (uI (uI (uI (uI (uI (uI (uI (uI (uI (uI yA 69 85 0) 69 86 yc) 128 0 12) 69 85 1) 128 1 11) 69 85 2) 128 2 30) 69 85 3) 128 3 10) 69 85 4) _
  refine Pa.vret (by rfl) ?_
  show Pa N 252 42 [(0, .ref 69), (1, .int 0), (2, .int yx)] [] (uI (uI (uI (uI (uI (uI (uI (uI (uI (uI yA 69 85 0) 69 86 yc) 128 0 12) 69 85 1) 128 1 11) 69 85 2) 128 2 30) 69 85 3) 128 3 10) 69 85 4) _
  refine Pa.mp 3 (pc' := 45) (l' := [(0, .ref 69), (1, .int 0), (2, .int yx)]) (st' := [.ref 69, .ref 69, .int yx]) (by rfl) ?_
  refine Pa.gfI (v := yc) (by rfl) (by rfl) (.inl rfl) (by rfl) (by show (uI (uI (uI (uI (uI (uI (uI (uI (uI (uI yA 69 85 0) 69 86 yc) 128 0 12) 69 85 1) 128 1 11) 69 85 2) 128 2 30) 69 85 3) 128 3 10) 69 85 4).1 69 86 = yc; rw [uI_k (by decide), uI_c (by decide), uI_k (by decide), uI_c (by decide), uI_k (by decide), uI_c (by decide), uI_k (by decide), uI_c (by decide), uI_h]) ?_
  refine Pa.mp 1 (pc' := 49) (l' := [(0, .ref 69), (1, .int 0), (2, .int yx)]) (st' := [.ref 69, .int yc, .ref 69, .int yx]) (by rfl) ?_
  refine Pa.gfI (v := yA.1 69 0) (by rfl) (by rfl) (.inl rfl) (by rfl) (by show (uI (uI (uI (uI (uI (uI (uI (uI (uI (uI yA 69 85 0) 69 86 yc) 128 0 12) 69 85 1) 128 1 11) 69 85 2) 128 2 30) 69 85 3) 128 3 10) 69 85 4).1 69 0 = yA.1 69 0; rw [uI_k (by decide), uI_c (by decide), uI_k (by decide), uI_c (by decide), uI_k (by decide), uI_c (by decide), uI_k (by decide), uI_c (by decide), uI_k (by decide), uI_k (by decide)]) ?_
  refine Pa.inv (by rfl) (by rfl) (.inl rfl) (by rfl) ?_
  refine Pa.mono (c_kof N yA (uI (uI (uI (uI (uI (uI (uI (uI (uI (uI yA 69 85 0) 69 86 yc) 128 0 12) 69 85 1) 128 1 11) 69 85 2) 128 2 30) 69 85 3) 128 3 10) 69 85 4) yc (yA.1 69 0) (funext fun _ => by repeat rw [uI_c (by decide)]) (funext fun _ => by repeat rw [uI_c (by decide)]) (funext fun _ => by repeat rw [uI_c (by decide)])) (fun yu A1 hu => ?_)
  obtain ⟨rfl, hu⟩ := hu
  rw [hu]
  show Pa N 252 55 [(0, .ref 69), (1, .int 0), (2, .int yx)] [.int (kofM yA yc (yA.1 69 0)), .int yx] (uI (uI (uI (uI (uI (uI (uI (uI (uI (uI yA 69 85 0) 69 86 yc) 128 0 12) 69 85 1) 128 1 11) 69 85 2) 128 2 30) 69 85 3) 128 3 10) 69 85 4) _
  refine Pa.mp 1 (pc' := 56) (l' := [(0, .ref 69), (1, .int 0), (2, .int yx)]) (st' := [.int (yx + (kofM yA yc (yA.1 69 0)))]) (by rfl) ?_
  refine Pa.iret (by rfl) ?_
  show Pa N 252 72 [(0, .ref 69), (1, .int 2), (2, .int yx)] [.int (yx + (kofM yA yc (yA.1 69 0)))] (uI (uI (uI (uI (uI (uI (uI (uI (uI (uI yA 69 85 0) 69 86 yc) 128 0 12) 69 85 1) 128 1 11) 69 85 2) 128 2 30) 69 85 3) 128 3 10) 69 85 4) _
  refine Pa.ic (x := 4) (pc' := 73) (by rfl) (by rfl) (by decide) ?_
  refine Pa.mp 1 (pc' := 74) (l' := [(0, .ref 69), (1, .int 2), (2, .int yx)]) (st' := [.int ((yx + (kofM yA yc (yA.1 69 0))) - 4)]) (by rfl) ?_
  refine Pa.iret (by rfl) ?_
  show Pa N 253 64 [(0, .ref 69), (1, .int 0), (2, .int yx)] [.int ((yx + (kofM yA yc (yA.1 69 0))) - 4)] (uI (uI (uI (uI (uI (uI (uI (uI (uI (uI yA 69 85 0) 69 86 yc) 128 0 12) 69 85 1) 128 1 11) 69 85 2) 128 2 30) 69 85 3) 128 3 10) 69 85 4) _
  refine Pa.ic (x := 2) (pc' := 65) (by rfl) (by rfl) (by decide) ?_
  refine Pa.mp 1 (pc' := 66) (l' := [(0, .ref 69), (1, .int 0), (2, .int yx)]) (st' := [.int (((yx + (kofM yA yc (yA.1 69 0))) - 4) * 2)]) (by rfl) ?_
  refine Pa.iret (by rfl) ?_
  show Pa N 253 146 [(0, .ref 69), (1, .int 2), (2, .int yx)] [.int (((yx + (kofM yA yc (yA.1 69 0))) - 4) * 2)] (uI (uI (uI (uI (uI (uI (uI (uI (uI (uI yA 69 85 0) 69 86 yc) 128 0 12) 69 85 1) 128 1 11) 69 85 2) 128 2 30) 69 85 3) 128 3 10) 69 85 4) _
  refine Pa.iret (by rfl) ?_
  show Pa N 254 56 [(0, .ref 69), (1, .int 0), (2, .int yx)] [.int (((yx + (kofM yA yc (yA.1 69 0))) - 4) * 2)] (uI (uI (uI (uI (uI (uI (uI (uI (uI (uI yA 69 85 0) 69 86 yc) 128 0 12) 69 85 1) 128 1 11) 69 85 2) 128 2 30) 69 85 3) 128 3 10) 69 85 4) _
  refine Pa.mp 1 (pc' := 57) (l' := [(0, .ref 69), (1, .int 0), (2, .int yx)]) (st' := [.ref 69, .int (((yx + (kofM yA yc (yA.1 69 0))) - 4) * 2)]) (by rfl) ?_
  refine Pa.gfI (v := yc) (by rfl) (by rfl) (.inl rfl) (by rfl) (by show (uI (uI (uI (uI (uI (uI (uI (uI (uI (uI yA 69 85 0) 69 86 yc) 128 0 12) 69 85 1) 128 1 11) 69 85 2) 128 2 30) 69 85 3) 128 3 10) 69 85 4).1 69 86 = yc; rw [uI_k (by decide), uI_c (by decide), uI_k (by decide), uI_c (by decide), uI_k (by decide), uI_c (by decide), uI_k (by decide), uI_c (by decide), uI_h]) ?_
  refine Pa.mp 1 (pc' := 61) (l' := [(0, .ref 69), (1, .int 0), (2, .int yx)]) (st' := [.int ((((yx + (kofM yA yc (yA.1 69 0))) - 4) * 2) - yc)]) (by rfl) ?_
  refine Pa.iret (by rfl) ?_
  show Pa N 254 122 [(0, .ref 69), (1, .int 2), (2, .int yx)] [.int ((((yx + (kofM yA yc (yA.1 69 0))) - 4) * 2) - yc)] (uI (uI (uI (uI (uI (uI (uI (uI (uI (uI yA 69 85 0) 69 86 yc) 128 0 12) 69 85 1) 128 1 11) 69 85 2) 128 2 30) 69 85 3) 128 3 10) 69 85 4) _
  refine Pa.iret (by rfl) ?_
  exact l1 h3 h4

theorem bpm2_3 {N : Nat} {yA : AW} {yQ : Option Value → AW → Prop} (yx yc : Int32) (hk : yA.1 89 yc.toInt.toNat = 3)
    (l1 : 0 ≤ yc.toInt → yc.toInt < 150 → yQ (some (.int (((((yx + (kofM yA yc (yA.1 69 0))) - 4) * 2) - yc) + (((1 + (kofM yA yc (yA.1 69 0))) - 4) * 2)))) (uI (uI (uI (uI (uI (uI (uI (uI (uI (uI (uI (uI (uI (uI (uI (uI (uI (uI yA 69 85 0) 69 86 yc) 128 0 40) 69 85 1) 128 1 12) 69 85 2) 128 2 11) 69 85 3) 128 3 30) 69 85 4) 128 4 10) 69 85 5) 128 5 11) 69 85 6) 128 6 30) 69 85 7) 128 7 10) 69 85 8)) :
    Pa N 254 0 [(0, .ref 69), (1, .int 3), (2, .int yx)] [] (uI (uI yA 69 85 0) 69 86 yc) yQ := by
  refine Pa.mp 1 (pc' := 1) (l' := [(0, .ref 69), (1, .int 3), (2, .int yx)]) (st' := [.int 3]) (by rfl) ?_
  refine Pa.mp 1 (pc' := 62) (l' := [(0, .ref 69), (1, .int 3), (2, .int yx)]) (st' := []) (by rfl) ?_
  refine Pa.mp 1 (pc' := 63) (l' := [(0, .ref 69), (1, .int 3), (2, .int yx)]) (st' := [.ref 69]) (by rfl) ?_
  refine Pa.ic (x := 40) (pc' := 65) (by rfl) (by rfl) (by decide) ?_
  refine Pa.inv (by rfl) (by rfl) (.inl rfl) (by rfl) ?_
  show Pa N 251 0 [(0, .ref 69), (1, .int 40)] [] (uI (uI yA 69 85 0) 69 86 yc) _
  refine Pa.mp 1 (pc' := 1) (l' := [(0, .ref 69), (1, .int 40)]) (st' := [.ref 69]) (by rfl) ?_
  refine Pa.gfI (v := 0) (by rfl) (by rfl) (.inl rfl) (by rfl) (by show (uI (uI yA 69 85 0) 69 86 yc).1 69 85 = 0; rw [uI_k (by decide), uI_h]) ?_
  refine Pa.ic (x := 24) (pc' := 6) (by rfl) (by rfl) (by decide) ?_
  refine Pa.if2k false (by rfl) (by rfl) (by decide) ?_
  show Pa N 251 9 [(0, .ref 69), (1, .int 40)] [] (uI (uI yA 69 85 0) 69 86 yc) _
  refine Pa.mp 1 (pc' := 10) (l' := [(0, .ref 69), (1, .int 40)]) (st' := [.ref 69]) (by rfl) ?_
  refine Pa.gfR (by rfl) (by rfl) (.inl rfl) (by rfl) ?_
  show Pa N 251 13 [(0, .ref 69), (1, .int 40)] [.ref 128] (uI (uI yA 69 85 0) 69 86 yc) _
  refine Pa.mp 1 (pc' := 14) (l' := [(0, .ref 69), (1, .int 40)]) (st' := [.ref 69, .ref 128]) (by rfl) ?_
  refine Pa.gfI (v := 0) (by rfl) (by rfl) (.inl rfl) (by rfl) (by show (uI (uI yA 69 85 0) 69 86 yc).1 69 85 = 0; rw [uI_k (by decide), uI_h]) ?_
  refine Pa.mp 1 (pc' := 18) (l' := [(0, .ref 69), (1, .int 40)]) (st' := [.int 40, .int 0, .ref 128]) (by rfl) ?_
  refine Pa.asts (j' := 0) (by rfl) (by rfl) (by rfl) (fun h1 h2 => ?_)
  show Pa N 251 19 [(0, .ref 69), (1, .int 40)] [] (uI (uI (uI yA 69 85 0) 69 86 yc) 128 0 40) _
  refine Pa.mp 2 (pc' := 21) (l' := [(0, .ref 69), (1, .int 40)]) (st' := [.ref 69, .ref 69]) (by rfl) ?_
  refine Pa.gfI (v := 0) (by rfl) (by rfl) (.inl rfl) (by rfl) (by show (uI (uI (uI yA 69 85 0) 69 86 yc) 128 0 40).1 69 85 = 0; rw [uI_c (by decide), uI_k (by decide), uI_h]) ?_
  refine Pa.ic (x := 1) (pc' := 25) (by rfl) (by rfl) (by decide) ?_
  refine Pa.mp 1 (pc' := 26) (l' := [(0, .ref 69), (1, .int 40)]) (st' := [.int 1, .ref 69]) (by rfl) ?_
  refine Pa.pfI (by rfl) (by rfl) (.inl rfl) (by rfl) ?_
  show Pa N 251 29 [(0, .ref 69), (1, .int 40)] [] (uI (uI (uI (uI yA 69 85 0) 69 86 yc) 128 0 40) 69 85 1) _
  refine Pa.vret (by rfl) ?_
  show Pa N 254 68 [(0, .ref 69), (1, .int 3), (2, .int yx)] [] (uI (uI (uI (uI yA 69 85 0) 69 86 yc) 128 0 40) 69 85 1) _
  refine Pa.mp 1 (pc' := 69) (l' := [(0, .ref 69), (1, .int 3), (2, .int yx)]) (st' := [.ref 69]) (by rfl) ?_
  refine Pa.ic (x := 3) (pc' := 70) (by rfl) (by rfl) (by decide) ?_
  refine Pa.ist (by rfl) (by rfl) (.inl rfl) (by rfl) (by rfl) ?_
  show Pa N 250 0 [(0, .int 3)] [] (uI (uI (uI (uI yA 69 85 0) 69 86 yc) 128 0 40) 69 85 1) _
  refine Pa.mp 1 (pc' := 1) (l' := [(0, .int 3)]) (st' := [.int 3]) (by rfl) ?_
  refine Pa.ic (x := 5) (pc' := 2) (by rfl) (by rfl) (by decide) ?_
  refine Pa.if2k false (by rfl) (by rfl) (by decide) ?_
  show Pa N 250 5 [(0, .int 3)] [] (uI (uI (uI (uI yA 69 85 0) 69 86 yc) 128 0 40) 69 85 1) _
  refine Pa.mp 1 (pc' := 6) (l' := [(0, .int 3)]) (st' := [.int 3]) (by rfl) ?_
  refine Pa.ic (x := 3) (pc' := 7) (by rfl) (by rfl) (by decide) ?_
  refine Pa.if2k false (by rfl) (by rfl) (by decide) ?_
  show Pa N 250 10 [(0, .int 3)] [] (uI (uI (uI (uI yA 69 85 0) 69 86 yc) 128 0 40) 69 85 1) _
  refine Pa.ic (x := 2) (pc' := 11) (by rfl) (by rfl) (by decide) ?_
  refine Pa.mp 1 (pc' := 25) (l' := [(0, .int 3)]) (st' := [.int 2]) (by rfl) ?_
  refine Pa.iret (by rfl) ?_
  show Pa N 254 73 [(0, .ref 69), (1, .int 3), (2, .int yx)] [.int 2, .ref 69] (uI (uI (uI (uI yA 69 85 0) 69 86 yc) 128 0 40) 69 85 1) _
  refine Pa.mp 1 (pc' := 74) (l' := [(0, .ref 69), (1, .int 3), (2, .int yx)]) (st' := [.int yx, .int 2, .ref 69]) (by rfl) ?_
  refine Pa.inv (by rfl) (by rfl) (.inl rfl) (by rfl) ?_
  show Pa N 254 0 [(0, .ref 69), (1, .int 2), (2, .int yx)] [] (uI (uI (uI (uI yA 69 85 0) 69 86 yc) 128 0 40) 69 85 1) _
  refine Pa.mp 1 (pc' := 1) (l' := [(0, .ref 69), (1, .int 2), (2, .int yx)]) (st' := [.int 2]) (by rfl) ?_
  refine Pa.mp 1 (pc' := 113) (l' := [(0, .ref 69), (1, .int 2), (2, .int yx)]) (st' := []) (by rfl) ?_
  refine Pa.mp 2 (pc' := 115) (l' := [(0, .ref 69), (1, .int 2), (2, .int yx)]) (st' := [.int 2, .ref 69]) (by rfl) ?_
  refine Pa.ist (by rfl) (by rfl) (.inl rfl) (by rfl) (by rfl) ?_
  show Pa N 250 0 [(0, .int 2)] [] (uI (uI (uI (uI yA 69 85 0) 69 86 yc) 128 0 40) 69 85 1) _
  refine Pa.mp 1 (pc' := 1) (l' := [(0, .int 2)]) (st' := [.int 2]) (by rfl) ?_
  refine Pa.ic (x := 5) (pc' := 2) (by rfl) (by rfl) (by decide) ?_
  refine Pa.if2k false (by rfl) (by rfl) (by decide) ?_
  show Pa N 250 5 [(0, .int 2)] [] (uI (uI (uI (uI yA 69 85 0) 69 86 yc) 128 0 40) 69 85 1) _
  refine Pa.mp 1 (pc' := 6) (l' := [(0, .int 2)]) (st' := [.int 2]) (by rfl) ?_
  refine Pa.ic (x := 3) (pc' := 7) (by rfl) (by rfl) (by decide) ?_
  refine Pa.if2k true (by rfl) (by rfl) (by decide) ?_
  show Pa N 250 14 [(0, .int 2)] [] (uI (uI (uI (uI yA 69 85 0) 69 86 yc) 128 0 40) 69 85 1) _
  refine Pa.mp 1 (pc' := 15) (l' := [(0, .int 2)]) (st' := [.int 2]) (by rfl) ?_
  refine Pa.ic (x := 6) (pc' := 17) (by rfl) (by rfl) (by decide) ?_
  refine Pa.if2k true (by rfl) (by rfl) (by decide) ?_
  show Pa N 250 24 [(0, .int 2)] [] (uI (uI (uI (uI yA 69 85 0) 69 86 yc) 128 0 40) 69 85 1) _
  refine Pa.ic (x := 0) (pc' := 25) (by rfl) (by rfl) (by decide) ?_
  refine Pa.iret (by rfl) ?_
  show Pa N 254 118 [(0, .ref 69), (1, .int 2), (2, .int yx)] [.int 0, .ref 69] (uI (uI (uI (uI yA 69 85 0) 69 86 yc) 128 0 40) 69 85 1) _
  refine Pa.mp 1 (pc' := 119) (l' := [(0, .ref 69), (1, .int 2), (2, .int yx)]) (st' := [.int yx, .int 0, .ref 69]) (by rfl) ?_
  refine Pa.inv (by rfl) (by rfl) (.inl rfl) (by rfl) ?_
  show Pa N 254 0 [(0, .ref 69), (1, .int 0), (2, .int yx)] [] (uI (uI (uI (uI yA 69 85 0) 69 86 yc) 128 0 40) 69 85 1) _
  refine Pa.mp 1 (pc' := 1) (l' := [(0, .ref 69), (1, .int 0), (2, .int yx)]) (st' := [.int 0]) (by rfl) ?_
  refine Pa.mp 1 (pc' := 36) (l' := [(0, .ref 69), (1, .int 0), (2, .int yx)]) (st' := []) (by rfl) ?_
  refine Pa.mp 1 (pc' := 37) (l' := [(0, .ref 69), (1, .int 0), (2, .int yx)]) (st' := [.ref 69]) (by rfl) ?_
  refine Pa.ic (x := 12) (pc' := 39) (by rfl) (by rfl) (by decide) ?_
  refine Pa.inv (by rfl) (by rfl) (.inl rfl) (by rfl) ?_
  show Pa N 251 0 [(0, .ref 69), (1, .int 12)] [] (uI (uI (uI (uI yA 69 85 0) 69 86 yc) 128 0 40) 69 85 1) _
  refine Pa.mp 1 (pc' := 1) (l' := [(0, .ref 69), (1, .int 12)]) (st' := [.ref 69]) (by rfl) ?_
  refine Pa.gfI (v := 1) (by rfl) (by rfl) (.inl rfl) (by rfl) (by show (uI (uI (uI (uI yA 69 85 0) 69 86 yc) 128 0 40) 69 85 1).1 69 85 = 1; rw [uI_h]) ?_
  refine Pa.ic (x := 24) (pc' := 6) (by rfl) (by rfl) (by decide) ?_
  refine Pa.if2k false (by rfl) (by rfl) (by decide) ?_
  show Pa N 251 9 [(0, .ref 69), (1, .int 12)] [] (uI (uI (uI (uI yA 69 85 0) 69 86 yc) 128 0 40) 69 85 1) _
  refine Pa.mp 1 (pc' := 10) (l' := [(0, .ref 69), (1, .int 12)]) (st' := [.ref 69]) (by rfl) ?_
  refine Pa.gfR (by rfl) (by rfl) (.inl rfl) (by rfl) ?_
  show Pa N 251 13 [(0, .ref 69), (1, .int 12)] [.ref 128] (uI (uI (uI (uI yA 69 85 0) 69 86 yc) 128 0 40) 69 85 1) _
  refine Pa.mp 1 (pc' := 14) (l' := [(0, .ref 69), (1, .int 12)]) (st' := [.ref 69, .ref 128]) (by rfl) ?_
  refine Pa.gfI (v := 1) (by rfl) (by rfl) (.inl rfl) (by rfl) (by show (uI (uI (uI (uI yA 69 85 0) 69 86 yc) 128 0 40) 69 85 1).1 69 85 = 1; rw [uI_h]) ?_
  refine Pa.mp 1 (pc' := 18) (l' := [(0, .ref 69), (1, .int 12)]) (st' := [.int 12, .int 1, .ref 128]) (by rfl) ?_
  refine Pa.asts (j' := 1) (by rfl) (by rfl) (by rfl) (fun h3 h4 => ?_)
  show Pa N 251 19 [(0, .ref 69), (1, .int 12)] [] (uI (uI (uI (uI (uI yA 69 85 0) 69 86 yc) 128 0 40) 69 85 1) 128 1 12) _
  refine Pa.mp 2 (pc' := 21) (l' := [(0, .ref 69), (1, .int 12)]) (st' := [.ref 69, .ref 69]) (by rfl) ?_
  refine Pa.gfI (v := 1) (by rfl) (by rfl) (.inl rfl) (by rfl) (by show (uI (uI (uI (uI (uI yA 69 85 0) 69 86 yc) 128 0 40) 69 85 1) 128 1 12).1 69 85 = 1; rw [uI_c (by decide), uI_h]) ?_
  refine Pa.ic (x := 1) (pc' := 25) (by rfl) (by rfl) (by decide) ?_
  refine Pa.mp 1 (pc' := 26) (l' := [(0, .ref 69), (1, .int 12)]) (st' := [.int 2, .ref 69]) (by rfl) ?_
  refine Pa.pfI (by rfl) (by rfl) (.inl rfl) (by rfl) ?_
  show Pa N 251 29 [(0, .ref 69), (1, .int 12)] [] (uI (uI (uI (uI (uI (uI yA 69 85 0) 69 86 yc) 128 0 40) 69 85 1) 128 1 12) 69 85 2) _
  refine Pa.vret (by rfl) ?_
  show Pa N 254 42 [(0, .ref 69), (1, .int 0), (2, .int yx)] [] (uI (uI (uI (uI (uI (uI yA 69 85 0) 69 86 yc) 128 0 40) 69 85 1) 128 1 12) 69 85 2) _
  refine Pa.mp 2 (pc' := 44) (l' := [(0, .ref 69), (1, .int 0), (2, .int yx)]) (st' := [.ref 69, .ref 69]) (by rfl) ?_
  refine Pa.gfR (by rfl) (by rfl) (.inl rfl) (by rfl) ?_
  show Pa N 254 47 [(0, .ref 69), (1, .int 0), (2, .int yx)] [.ref 89, .ref 69] (uI (uI (uI (uI (uI (uI yA 69 85 0) 69 86 yc) 128 0 40) 69 85 1) 128 1 12) 69 85 2) _
  refine Pa.mp 1 (pc' := 48) (l' := [(0, .ref 69), (1, .int 0), (2, .int yx)]) (st' := [.ref 69, .ref 89, .ref 69]) (by rfl) ?_
  refine Pa.gfI (v := yc) (by rfl) (by rfl) (.inl rfl) (by rfl) (by show (uI (uI (uI (uI (uI (uI yA 69 85 0) 69 86 yc) 128 0 40) 69 85 1) 128 1 12) 69 85 2).1 69 86 = yc; rw [uI_k (by decide), uI_c (by decide), uI_k (by decide), uI_c (by decide), uI_h]) ?_
  refine Pa.alds (v := 3) (by rfl) (by rfl) (by show (uI (uI (uI (uI (uI (uI yA 69 85 0) 69 86 yc) 128 0 40) 69 85 1) 128 1 12) 69 85 2).1 89 yc.toInt.toNat = 3; rw [uI_c (by decide), uI_c (by decide), uI_c (by decide), uI_c (by decide), uI_c (by decide), uI_c (by decide), hk]) (fun h5 h6 => ?_)
  have h5 : 0 ≤ yc.toInt := h5
  have h6 : yc.toInt < 150 := h6
  refine Pa.mp 1 (pc' := 53) (l' := [(0, .ref 69), (1, .int 0), (2, .int yx)]) (st' := [.int yx, .int 3, .ref 69]) (by rfl) ?_
  refine Pa.inv (by rfl) (by rfl) (.inl rfl) (by rfl) ?_
  show Pa N 253 0 [(0, .ref 69), (1, .int 3), (2, .int yx)] [] (uI (uI (uI (uI (uI (uI yA 69 85 0) 69 86 yc) 128 0 40) 69 85 1) 128 1 12) 69 85 2) _
  refine Pa.mp 1 (pc' := 1) (l' := [(0, .ref 69), (1, .int 3), (2, .int yx)]) (st' := [.int 3]) (by rfl) ?_
  refine Pa.mp 1 (pc' := 137) (l' := [(0, .ref 69), (1, .int 3), (2, .int yx)]) (st' := []) (by rfl) ?_
  refine Pa.mp 2 (pc' := 139) (l' := [(0, .ref 69), (1, .int 3), (2, .int yx)]) (st' := [.int 3, .ref 69]) (by rfl) ?_
  refine Pa.ist (by rfl) (by rfl) (.inl rfl) (by rfl) (by rfl) ?_
  show Pa N 250 0 [(0, .int 3)] [] (uI (uI (uI (uI (uI (uI yA 69 85 0) 69 86 yc) 128 0 40) 69 85 1) 128 1 12) 69 85 2) _
  refine Pa.mp 1 (pc' := 1) (l' := [(0, .int 3)]) (st' := [.int 3]) (by rfl) ?_
  refine Pa.ic (x := 5) (pc' := 2) (by rfl) (by rfl) (by decide) ?_
  refine Pa.if2k false (by rfl) (by rfl) (by decide) ?_
  show Pa N 250 5 [(0, .int 3)] [] (uI (uI (uI (uI (uI (uI yA 69 85 0) 69 86 yc) 128 0 40) 69 85 1) 128 1 12) 69 85 2) _
  refine Pa.mp 1 (pc' := 6) (l' := [(0, .int 3)]) (st' := [.int 3]) (by rfl) ?_
  refine Pa.ic (x := 3) (pc' := 7) (by rfl) (by rfl) (by decide) ?_
  refine Pa.if2k false (by rfl) (by rfl) (by decide) ?_
  show Pa N 250 10 [(0, .int 3)] [] (uI (uI (uI (uI (uI (uI yA 69 85 0) 69 86 yc) 128 0 40) 69 85 1) 128 1 12) 69 85 2) _
  refine Pa.ic (x := 2) (pc' := 11) (by rfl) (by rfl) (by decide) ?_
  refine Pa.mp 1 (pc' := 25) (l' := [(0, .int 3)]) (st' := [.int 2]) (by rfl) ?_
  refine Pa.iret (by rfl) ?_
  show Pa N 253 142 [(0, .ref 69), (1, .int 3), (2, .int yx)] [.int 2, .ref 69] (uI (uI (uI (uI (uI (uI yA 69 85 0) 69 86 yc) 128 0 40) 69 85 1) 128 1 12) 69 85 2) _
  refine Pa.mp 1 (pc' := 143) (l' := [(0, .ref 69), (1, .int 3), (2, .int yx)]) (st' := [.int yx, .int 2, .ref 69]) (by rfl) ?_
  refine Pa.inv (by rfl) (by rfl) (.inl rfl) (by rfl) ?_
  show Pa N 253 0 [(0, .ref 69), (1, .int 2), (2, .int yx)] [] (uI (uI (uI (uI (uI (uI yA 69 85 0) 69 86 yc) 128 0 40) 69 85 1) 128 1 12) 69 85 2) _
  refine Pa.mp 1 (pc' := 1) (l' := [(0, .ref 69), (1, .int 2), (2, .int yx)]) (st' := [.int 2]) (by rfl) ?_
  refine Pa.mp 1 (pc' := 137) (l' := [(0, .ref 69), (1, .int 2), (2, .int yx)]) (st' := []) (by rfl) ?_
  refine Pa.mp 2 (pc' := 139) (l' := [(0, .ref 69), (1, .int 2), (2, .int yx)]) (st' := [.int 2, .ref 69]) (by rfl) ?_
  refine Pa.ist (by rfl) (by rfl) (.inl rfl) (by rfl) (by rfl) ?_
  show Pa N 250 0 [(0, .int 2)] [] (uI (uI (uI (uI (uI (uI yA 69 85 0) 69 86 yc) 128 0 40) 69 85 1) 128 1 12) 69 85 2) _
  refine Pa.mp 1 (pc' := 1) (l' := [(0, .int 2)]) (st' := [.int 2]) (by rfl) ?_
  refine Pa.ic (x := 5) (pc' := 2) (by rfl) (by rfl) (by decide) ?_
  refine Pa.if2k false (by rfl) (by rfl) (by decide) ?_
  show Pa N 250 5 [(0, .int 2)] [] (uI (uI (uI (uI (uI (uI yA 69 85 0) 69 86 yc) 128 0 40) 69 85 1) 128 1 12) 69 85 2) _
  refine Pa.mp 1 (pc' := 6) (l' := [(0, .int 2)]) (st' := [.int 2]) (by rfl) ?_
  refine Pa.ic (x := 3) (pc' := 7) (by rfl) (by rfl) (by decide) ?_
  refine Pa.if2k true (by rfl) (by rfl) (by decide) ?_
  show Pa N 250 14 [(0, .int 2)] [] (uI (uI (uI (uI (uI (uI yA 69 85 0) 69 86 yc) 128 0 40) 69 85 1) 128 1 12) 69 85 2) _
  refine Pa.mp 1 (pc' := 15) (l' := [(0, .int 2)]) (st' := [.int 2]) (by rfl) ?_
  refine Pa.ic (x := 6) (pc' := 17) (by rfl) (by rfl) (by decide) ?_
  refine Pa.if2k true (by rfl) (by rfl) (by decide) ?_
  show Pa N 250 24 [(0, .int 2)] [] (uI (uI (uI (uI (uI (uI yA 69 85 0) 69 86 yc) 128 0 40) 69 85 1) 128 1 12) 69 85 2) _
  refine Pa.ic (x := 0) (pc' := 25) (by rfl) (by rfl) (by decide) ?_
  refine Pa.iret (by rfl) ?_
  show Pa N 253 142 [(0, .ref 69), (1, .int 2), (2, .int yx)] [.int 0, .ref 69] (uI (uI (uI (uI (uI (uI yA 69 85 0) 69 86 yc) 128 0 40) 69 85 1) 128 1 12) 69 85 2) _
  refine Pa.mp 1 (pc' := 143) (l' := [(0, .ref 69), (1, .int 2), (2, .int yx)]) (st' := [.int yx, .int 0, .ref 69]) (by rfl) ?_
  refine Pa.inv (by rfl) (by rfl) (.inl rfl) (by rfl) ?_
  show Pa N 253 0 [(0, .ref 69), (1, .int 0), (2, .int yx)] [] (uI (uI (uI (uI (uI (uI yA 69 85 0) 69 86 yc) 128 0 40) 69 85 1) 128 1 12) 69 85 2) _
  refine Pa.mp 1 (pc' := 1) (l' := [(0, .ref 69), (1, .int 0), (2, .int yx)]) (st' := [.int 0]) (by rfl) ?_
  refine Pa.mp 1 (pc' := 44) (l' := [(0, .ref 69), (1, .int 0), (2, .int yx)]) (st' := []) (by rfl) ?_
  refine Pa.mp 1 (pc' := 45) (l' := [(0, .ref 69), (1, .int 0), (2, .int yx)]) (st' := [.ref 69]) (by rfl) ?_
  refine Pa.ic (x := 11) (pc' := 47) (by rfl) (by rfl) (by decide) ?_
  refine Pa.inv (by rfl) (by rfl) (.inl rfl) (by rfl) ?_
  show Pa N 251 0 [(0, .ref 69), (1, .int 11)] [] (uI (uI (uI (uI (uI (uI yA 69 85 0) 69 86 yc) 128 0 40) 69 85 1) 128 1 12) 69 85 2) _
  refine Pa.mp 1 (pc' := 1) (l' := [(0, .ref 69), (1, .int 11)]) (st' := [.ref 69]) (by rfl) ?_
  refine Pa.gfI (v := 2) (by rfl) (by rfl) (.inl rfl) (by rfl) (by show (uI (uI (uI (uI (uI (uI yA 69 85 0) 69 86 yc) 128 0 40) 69 85 1) 128 1 12) 69 85 2).1 69 85 = 2; rw [uI_h]) ?_
  refine Pa.ic (x := 24) (pc' := 6) (by rfl) (by rfl) (by decide) ?_
  refine Pa.if2k false (by rfl) (by rfl) (by decide) ?_
  show Pa N 251 9 [(0, .ref 69), (1, .int 11)] [] (uI (uI (uI (uI (uI (uI yA 69 85 0) 69 86 yc) 128 0 40) 69 85 1) 128 1 12) 69 85 2) _
  refine Pa.mp 1 (pc' := 10) (l' := [(0, .ref 69), (1, .int 11)]) (st' := [.ref 69]) (by rfl) ?_
  refine Pa.gfR (by rfl) (by rfl) (.inl rfl) (by rfl) ?_
  show Pa N 251 13 [(0, .ref 69), (1, .int 11)] [.ref 128] (uI (uI (uI (uI (uI (uI yA 69 85 0) 69 86 yc) 128 0 40) 69 85 1) 128 1 12) 69 85 2) _
  refine Pa.mp 1 (pc' := 14) (l' := [(0, .ref 69), (1, .int 11)]) (st' := [.ref 69, .ref 128]) (by rfl) ?_
  refine Pa.gfI (v := 2) (by rfl) (by rfl) (.inl rfl) (by rfl) (by show (uI (uI (uI (uI (uI (uI yA 69 85 0) 69 86 yc) 128 0 40) 69 85 1) 128 1 12) 69 85 2).1 69 85 = 2; rw [uI_h]) ?_
  refine Pa.mp 1 (pc' := 18) (l' := [(0, .ref 69), (1, .int 11)]) (st' := [.int 11, .int 2, .ref 128]) (by rfl) ?_
  refine Pa.asts (j' := 2) (by rfl) (by rfl) (by rfl) (fun h7 h8 => ?_)
  show Pa N 251 19 [(0, .ref 69), (1, .int 11)] [] (uI (uI (uI (uI (uI (uI (uI yA 69 85 0) 69 86 yc) 128 0 40) 69 85 1) 128 1 12) 69 85 2) 128 2 11) _
  refine Pa.mp 2 (pc' := 21) (l' := [(0, .ref 69), (1, .int 11)]) (st' := [.ref 69, .ref 69]) (by rfl) ?_
  refine Pa.gfI (v := 2) (by rfl) (by rfl) (.inl rfl) (by rfl) (by show (uI (uI (uI (uI (uI (uI (uI yA 69 85 0) 69 86 yc) 128 0 40) 69 85 1) 128 1 12) 69 85 2) 128 2 11).1 69 85 = 2; rw [uI_c (by decide), uI_h]) ?_
  refine Pa.ic (x := 1) (pc' := 25) (by rfl) (by rfl) (by decide) ?_
  refine Pa.mp 1 (pc' := 26) (l' := [(0, .ref 69), (1, .int 11)]) (st' := [.int 3, .ref 69]) (by rfl) ?_
  refine Pa.pfI (by rfl) (by rfl) (.inl rfl) (by rfl) ?_
  show Pa N 251 29 [(0, .ref 69), (1, .int 11)] [] (uI (uI (uI (uI (uI (uI (uI (uI yA 69 85 0) 69 86 yc) 128 0 40) 69 85 1) 128 1 12) 69 85 2) 128 2 11) 69 85 3) _
  refine Pa.vret (by rfl) ?_
  show Pa N 253 50 [(0, .ref 69), (1, .int 0), (2, .int yx)] [] (uI (uI (uI (uI (uI (uI (uI (uI yA 69 85 0) 69 86 yc) 128 0 40) 69 85 1) 128 1 12) 69 85 2) 128 2 11) 69 85 3) _
  refine Pa.mp 2 (pc' := 52) (l' := [(0, .ref 69), (1, .int 0), (2, .int yx)]) (st' := [.ref 69, .ref 69]) (by rfl) ?_
  refine Pa.gfR (by rfl) (by rfl) (.inl rfl) (by rfl) ?_
  show Pa N 253 55 [(0, .ref 69), (1, .int 0), (2, .int yx)] [.ref 89, .ref 69] (uI (uI (uI (uI (uI (uI (uI (uI yA 69 85 0) 69 86 yc) 128 0 40) 69 85 1) 128 1 12) 69 85 2) 128 2 11) 69 85 3) _
  refine Pa.mp 1 (pc' := 56) (l' := [(0, .ref 69), (1, .int 0), (2, .int yx)]) (st' := [.ref 69, .ref 89, .ref 69]) (by rfl) ?_
  refine Pa.gfI (v := yc) (by rfl) (by rfl) (.inl rfl) (by rfl) (by show (uI (uI (uI (uI (uI (uI (uI (uI yA 69 85 0) 69 86 yc) 128 0 40) 69 85 1) 128 1 12) 69 85 2) 128 2 11) 69 85 3).1 69 86 = yc; rw [uI_k (by decide), uI_c (by decide), uI_k (by decide), uI_c (by decide), uI_k (by decide), uI_c (by decide), uI_h]) ?_
  refine Pa.alds (v := 3) (by rfl) (by rfl) (by show (uI (uI (uI (uI (uI (uI (uI (uI yA 69 85 0) 69 86 yc) 128 0 40) 69 85 1) 128 1 12) 69 85 2) 128 2 11) 69 85 3).1 89 yc.toInt.toNat = 3; rw [uI_c (by decide), uI_c (by decide), uI_c (by decide), uI_c (by decide), uI_c (by decide), uI_c (by decide), uI_c (by decide), uI_c (by decide), hk]) (fun h9 h10 => ?_)
  have h9 : 0 ≤ yc.toInt := h9
  have h10 : yc.toInt < 150 := h10
  refine Pa.mp 1 (pc' := 61) (l' := [(0, .ref 69), (1, .int 0), (2, .int yx)]) (st' := [.int yx, .int 3, .ref 69]) (by rfl) ?_
  refine Pa.inv (by rfl) (by rfl) (.inl rfl) (by rfl) ?_
  show Pa N 252 0 [(0, .ref 69), (1, .int 3), (2, .int yx)] [] (uI (uI (uI (uI (uI (uI (uI (uI yA 69 85 0) 69 86 yc) 128 0 40) 69 85 1) 128 1 12) 69 85 2) 128 2 11) 69 85 3) _
  refine Pa.mp 1 (pc' := 1) (l' := [(0, .ref 69), (1, .int 3), (2, .int yx)]) (st' := [.int 3]) (by rfl) ?_
  refine Pa.mp 1 (pc' := 93) (l' := [(0, .ref 69), (1, .int 3), (2, .int yx)]) (st' := []) (by rfl) ?_
  refine Pa.mp 2 (pc' := 95) (l' := [(0, .ref 69), (1, .int 3), (2, .int yx)]) (st' := [.int 3, .ref 69]) (by rfl) ?_
  refine Pa.ist (by rfl) (by rfl) (.inl rfl) (by rfl) (by rfl) ?_
  show Pa N 250 0 [(0, .int 3)] [] (uI (uI (uI (uI (uI (uI (uI (uI yA 69 85 0) 69 86 yc) 128 0 40) 69 85 1) 128 1 12) 69 85 2) 128 2 11) 69 85 3) _
  refine Pa.mp 1 (pc' := 1) (l' := [(0, .int 3)]) (st' := [.int 3]) (by rfl) ?_
  refine Pa.ic (x := 5) (pc' := 2) (by rfl) (by rfl) (by decide) ?_
  refine Pa.if2k false (by rfl) (by rfl) (by decide) ?_
  show Pa N 250 5 [(0, .int 3)] [] (uI (uI (uI (uI (uI (uI (uI (uI yA 69 85 0) 69 86 yc) 128 0 40) 69 85 1) 128 1 12) 69 85 2) 128 2 11) 69 85 3) _
  refine Pa.mp 1 (pc' := 6) (l' := [(0, .int 3)]) (st' := [.int 3]) (by rfl) ?_
  refine Pa.ic (x := 3) (pc' := 7) (by rfl) (by rfl) (by decide) ?_
  refine Pa.if2k false (by rfl) (by rfl) (by decide) ?_
  show Pa N 250 10 [(0, .int 3)] [] (uI (uI (uI (uI (uI (uI (uI (uI yA 69 85 0) 69 86 yc) 128 0 40) 69 85 1) 128 1 12) 69 85 2) 128 2 11) 69 85 3) _
  refine Pa.ic (x := 2) (pc' := 11) (by rfl) (by rfl) (by decide) ?_
  refine Pa.mp 1 (pc' := 25) (l' := [(0, .int 3)]) (st' := [.int 2]) (by rfl) ?_
  refine Pa.iret (by rfl) ?_
  show Pa N 252 98 [(0, .ref 69), (1, .int 3), (2, .int yx)] [.int 2, .ref 69] (uI (uI (uI (uI (uI (uI (uI (uI yA 69 85 0) 69 86 yc) 128 0 40) 69 85 1) 128 1 12) 69 85 2) 128 2 11) 69 85 3) _
  refine Pa.mp 1 (pc' := 99) (l' := [(0, .ref 69), (1, .int 3), (2, .int yx)]) (st' := [.int yx, .int 2, .ref 69]) (by rfl) ?_
  refine Pa.inv (by rfl) (by rfl) (.inl rfl) (by rfl) ?_
  show Pa N 252 0 [(0, .ref 69), (1, .int 2), (2, .int yx)] [] (uI (uI (uI (uI (uI (uI (uI (uI yA 69 85 0) 69 86 yc) 128 0 40) 69 85 1) 128 1 12) 69 85 2) 128 2 11) 69 85 3) _
  refine Pa.mp 1 (pc' := 1) (l' := [(0, .ref 69), (1, .int 2), (2, .int yx)]) (st' := [.int 2]) (by rfl) ?_
  refine Pa.mp 1 (pc' := 57) (l' := [(0, .ref 69), (1, .int 2), (2, .int yx)]) (st' := []) (by rfl) ?_
  refine Pa.mp 1 (pc' := 58) (l' := [(0, .ref 69), (1, .int 2), (2, .int yx)]) (st' := [.ref 69]) (by rfl) ?_
  refine Pa.ic (x := 30) (pc' := 60) (by rfl) (by rfl) (by decide) ?_
  refine Pa.inv (by rfl) (by rfl) (.inl rfl) (by rfl) ?_
  show Pa N 251 0 [(0, .ref 69), (1, .int 30)] [] (uI (uI (uI (uI (uI (uI (uI (uI yA 69 85 0) 69 86 yc) 128 0 40) 69 85 1) 128 1 12) 69 85 2) 128 2 11) 69 85 3) _
  refine Pa.mp 1 (pc' := 1) (l' := [(0, .ref 69), (1, .int 30)]) (st' := [.ref 69]) (by rfl) ?_
  refine Pa.gfI (v := 3) (by rfl) (by rfl) (.inl rfl) (by rfl) (by show (uI (uI (uI (uI (uI (uI (uI (uI yA 69 85 0) 69 86 yc) 128 0 40) 69 85 1) 128 1 12) 69 85 2) 128 2 11) 69 85 3).1 69 85 = 3; rw [uI_h]) ?_
  refine Pa.ic (x := 24) (pc' := 6) (by rfl) (by rfl) (by decide) ?_
  refine Pa.if2k false (by rfl) (by rfl) (by decide) ?_
  show Pa N 251 9 [(0, .ref 69), (1, .int 30)] [] (uI (uI (uI (uI (uI (uI (uI (uI yA 69 85 0) 69 86 yc) 128 0 40) 69 85 1) 128 1 12) 69 85 2) 128 2 11) 69 85 3) _
  refine Pa.mp 1 (pc' := 10) (l' := [(0, .ref 69), (1, .int 30)]) (st' := [.ref 69]) (by rfl) ?_
  refine Pa.gfR (by rfl) (by rfl) (.inl rfl) (by rfl) ?_
  show Pa N 251 13 [(0, .ref 69), (1, .int 30)] [.ref 128] (uI (uI (uI (uI (uI (uI (uI (uI yA 69 85 0) 69 86 yc) 128 0 40) 69 85 1) 128 1 12) 69 85 2) 128 2 11) 69 85 3) _
  refine Pa.mp 1 (pc' := 14) (l' := [(0, .ref 69), (1, .int 30)]) (st' := [.ref 69, .ref 128]) (by rfl) ?_
  refine Pa.gfI (v := 3) (by rfl) (by rfl) (.inl rfl) (by rfl) (by show (uI (uI (uI (uI (uI (uI (uI (uI yA 69 85 0) 69 86 yc) 128 0 40) 69 85 1) 128 1 12) 69 85 2) 128 2 11) 69 85 3).1 69 85 = 3; rw [uI_h]) ?_
  refine Pa.mp 1 (pc' := 18) (l' := [(0, .ref 69), (1, .int 30)]) (st' := [.int 30, .int 3, .ref 128]) (by rfl) ?_
  refine Pa.asts (j' := 3) (by rfl) (by rfl) (by rfl) (fun h11 h12 => ?_)
  show Pa N 251 19 [(0, .ref 69), (1, .int 30)] [] (uI (uI (uI (uI (uI (uI (uI (uI (uI yA 69 85 0) 69 86 yc) 128 0 40) 69 85 1) 128 1 12) 69 85 2) 128 2 11) 69 85 3) 128 3 30) _
  refine Pa.mp 2 (pc' := 21) (l' := [(0, .ref 69), (1, .int 30)]) (st' := [.ref 69, .ref 69]) (by rfl) ?_
  refine Pa.gfI (v := 3) (by rfl) (by rfl) (.inl rfl) (by rfl) (by show (uI (uI (uI (uI (uI (uI (uI (uI (uI yA 69 85 0) 69 86 yc) 128 0 40) 69 85 1) 128 1 12) 69 85 2) 128 2 11) 69 85 3) 128 3 30).1 69 85 = 3; rw [uI_c (by decide), uI_h]) ?_
  refine Pa.ic (x := 1) (pc' := 25) (by rfl) (by rfl) (by decide) ?_
  refine Pa.mp 1 (pc' := 26) (l' := [(0, .ref 69), (1, .int 30)]) (st' := [.int 4, .ref 69]) (by rfl) ?_
  refine Pa.pfI (by rfl) (by rfl) (.inl rfl) (by rfl) ?_
  show Pa N 251 29 [(0, .ref 69), (1, .int 30)] [] (uI (uI (uI (uI (uI (uI (uI (uI (uI (uI yA 69 85 0) 69 86 yc) 128 0 40) 69 85 1) 128 1 12) 69 85 2) 128 2 11) 69 85 3) 128 3 30) 69 85 4) _
  refine Pa.vret (by rfl) ?_
  show Pa N 252 63 [(0, .ref 69), (1, .int 2), (2, .int yx)] [] (uI (uI (uI (uI (uI (uI (uI (uI (uI (uI yA 69 85 0) 69 86 yc) 128 0 40) 69 85 1) 128 1 12) 69 85 2) 128 2 11) 69 85 3) 128 3 30) 69 85 4) _
  refine Pa.mp 1 (pc' := 64) (l' := [(0, .ref 69), (1, .int 2), (2, .int yx)]) (st' := [.ref 69]) (by rfl) ?_
  refine Pa.ic (x := 2) (pc' := 65) (by rfl) (by rfl) (by decide) ?_
  refine Pa.ist (by rfl) (by rfl) (.inl rfl) (by rfl) (by rfl) ?_
  show Pa N 250 0 [(0, .int 2)] [] (uI (uI (uI (uI (uI (uI (uI (uI (uI (uI yA 69 85 0) 69 86 yc) 128 0 40) 69 85 1) 128 1 12) 69 85 2) 128 2 11) 69 85 3) 128 3 30) 69 85 4) _
  refine Pa.mp 1 (pc' := 1) (l' := [(0, .int 2)]) (st' := [.int 2]) (by rfl) ?_
  refine Pa.ic (x := 5) (pc' := 2) (by rfl) (by rfl) (by decide) ?_
  refine Pa.if2k false (by rfl) (by rfl) (by decide) ?_
  show Pa N 250 5 [(0, .int 2)] [] (uI (uI (uI (uI (uI (uI (uI (uI (uI (uI yA 69 85 0) 69 86 yc) 128 0 40) 69 85 1) 128 1 12) 69 85 2) 128 2 11) 69 85 3) 128 3 30) 69 85 4) _
  refine Pa.mp 1 (pc' := 6) (l' := [(0, .int 2)]) (st' := [.int 2]) (by rfl) ?_
  refine Pa.ic (x := 3) (pc' := 7) (by rfl) (by rfl) (by decide) ?_
  refine Pa.if2k true (by rfl) (by rfl) (by decide) ?_
  show Pa N 250 14 [(0, .int 2)] [] (uI (uI (uI (uI (uI (uI (uI (uI (uI (uI yA 69 85 0) 69 86 yc) 128 0 40) 69 85 1) 128 1 12) 69 85 2) 128 2 11) 69 85 3) 128 3 30) 69 85 4) _
  refine Pa.mp 1 (pc' := 15) (l' := [(0, .int 2)]) (st' := [.int 2]) (by rfl) ?_
  refine Pa.ic (x := 6) (pc' := 17) (by rfl) (by rfl) (by decide) ?_
  refine Pa.if2k true (by rfl) (by rfl) (by decide) ?_
  show Pa N 250 24 [(0, .int 2)] [] (uI (uI (uI (uI (uI (uI (uI (uI (uI (uI yA 69 85 0) 69 86 yc) 128 0 40) 69 85 1) 128 1 12) 69 85 2) 128 2 11) 69 85 3) 128 3 30) 69 85 4) _
  refine Pa.ic (x := 0) (pc' := 25) (by rfl) (by rfl) (by decide) ?_
  refine Pa.iret (by rfl) ?_
  show Pa N 252 68 [(0, .ref 69), (1, .int 2), (2, .int yx)] [.int 0, .ref 69] (uI (uI (uI (uI (uI (uI (uI (uI (uI (uI yA 69 85 0) 69 86 yc) 128 0 40) 69 85 1) 128 1 12) 69 85 2) 128 2 11) 69 85 3) 128 3 30) 69 85 4) _
  refine Pa.mp 1 (pc' := 69) (l' := [(0, .ref 69), (1, .int 2), (2, .int yx)]) (st' := [.int yx, .int 0, .ref 69]) (by rfl) ?_
  refine Pa.inv (by rfl) (by rfl) (.inl rfl) (by rfl) ?_
  show Pa N 252 0 [(0, .ref 69), (1, .int 0), (2, .int yx)] [] (uI (uI (uI (uI (uI (uI (uI (uI (uI (uI yA 69 85 0) 69 86 yc) 128 0 40) 69 85 1) 128 1 12) 69 85 2) 128 2 11) 69 85 3) 128 3 30) 69 85 4) _
  refine Pa.mp 1 (pc' := 1) (l' := [(0, .ref 69), (1, .int 0), (2, .int yx)]) (st' := [.int 0]) (by rfl) ?_
  refine Pa.mp 1 (pc' := 36) (l' := [(0, .ref 69), (1, .int 0), (2, .int yx)]) (st' := []) (by rfl) ?_
  refine Pa.mp 1 (pc' := 37) (l' := [(0, .ref 69), (1, .int 0), (2, .int yx)]) (st' := [.ref 69]) (by rfl) ?_
  refine Pa.ic (x := 10) (pc' := 39) (by rfl) (by rfl) (by decide) ?_
  refine Pa.inv (by rfl) (by rfl) (.inl rfl) (by rfl) ?_
  show Pa N 251 0 [(0, .ref 69), (1, .int 10)] [] (uI (uI (uI (uI (uI (uI (uI (uI (uI (uI yA 69 85 0) 69 86 yc) 128 0 40) 69 85 1) 128 1 12) 69 85 2) 128 2 11) 69 85 3) 128 3 30) 69 85 4) _
  refine Pa.mp 1 (pc' := 1) (l' := [(0, .ref 69), (1, .int 10)]) (st' := [.ref 69]) (by rfl) ?_
  refine Pa.gfI (v := 4) (by rfl) (by rfl) (.inl rfl) (by rfl) (by show (uI (uI (uI (uI (uI (uI (uI (uI (uI (uI yA 69 85 0) 69 86 yc) 128 0 40) 69 85 1) 128 1 12) 69 85 2) 128 2 11) 69 85 3) 128 3 30) 69 85 4).1 69 85 = 4; rw [uI_h]) ?_
  refine Pa.ic (x := 24) (pc' := 6) (by rfl) (by rfl) (by decide) ?_
  refine Pa.if2k false (by rfl) (by rfl) (by decide) ?_
  show Pa N 251 9 [(0, .ref 69), (1, .int 10)] [] (uI (uI (uI (uI (uI (uI (uI (uI (uI (uI yA 69 85 0) 69 86 yc) 128 0 40) 69 85 1) 128 1 12) 69 85 2) 128 2 11) 69 85 3) 128 3 30) 69 85 4) _
  refine Pa.mp 1 (pc' := 10) (l' := [(0, .ref 69), (1, .int 10)]) (st' := [.ref 69]) (by rfl) ?_
  refine Pa.gfR (by rfl) (by rfl) (.inl rfl) (by rfl) ?_
  show Pa N 251 13 [(0, .ref 69), (1, .int 10)] [.ref 128] (uI (uI (uI (uI (uI (uI (uI (uI (uI (uI yA 69 85 0) 69 86 yc) 128 0 40) 69 85 1) 128 1 12) 69 85 2) 128 2 11) 69 85 3) 128 3 30) 69 85 4) _
  refine Pa.mp 1 (pc' := 14) (l' := [(0, .ref 69), (1, .int 10)]) (st' := [.ref 69, .ref 128]) (by rfl) ?_
  refine Pa.gfI (v := 4) (by rfl) (by rfl) (.inl rfl) (by rfl) (by show (uI (uI (uI (uI (uI (uI (uI (uI (uI (uI yA 69 85 0) 69 86 yc) 128 0 40) 69 85 1) 128 1 12) 69 85 2) 128 2 11) 69 85 3) 128 3 30) 69 85 4).1 69 85 = 4; rw [uI_h]) ?_
  refine Pa.mp 1 (pc' := 18) (l' := [(0, .ref 69), (1, .int 10)]) (st' := [.int 10, .int 4, .ref 128]) (by rfl) ?_
  refine Pa.asts (j' := 4) (by rfl) (by rfl) (by rfl) (fun h13 h14 => ?_)
  show Pa N 251 19 [(0, .ref 69), (1, .int 10)] [] (uI (uI (uI (uI (uI (uI (uI (uI (uI (uI (uI yA 69 85 0) 69 86 yc) 128 0 40) 69 85 1) 128 1 12) 69 85 2) 128 2 11) 69 85 3) 128 3 30) 69 85 4) 128 4 10) _
  refine Pa.mp 2 (pc' := 21) (l' := [(0, .ref 69), (1, .int 10)]) (st' := [.ref 69, .ref 69]) (by rfl) ?_
  refine Pa.gfI (v := 4) (by rfl) (by rfl) (.inl rfl) (by rfl) (by show (uI (uI (uI (uI (uI (uI (uI (uI (uI (uI (uI yA 69 85 0) 69 86 yc) 128 0 40) 69 85 1) 128 1 12) 69 85 2) 128 2 11) 69 85 3) 128 3 30) 69 85 4) 128 4 10).1 69 85 = 4; rw [uI_c (by decide), uI_h]) ?_
  refine Pa.ic (x := 1) (pc' := 25) (by rfl) (by rfl) (by decide) ?_
  refine Pa.mp 1 (pc' := 26) (l' := [(0, .ref 69), (1, .int 10)]) (st' := [.int 5, .ref 69]) (by rfl) ?_
  refine Pa.pfI (by rfl) (by rfl) (.inl rfl) (by rfl) ?_
  show Pa N 251 29 [(0, .ref 69), (1, .int 10)] [] (uI (uI (uI (uI (uI (uI (uI (uI (uI (uI (uI (uI yA 69 85 0) 69 86 yc) 128 0 40) 69 85 1) 128 1 12) 69 85 2) 128 2 11) 69 85 3) 128 3 30) 69 85 4) 128 4 10) 69 85 5) _
  refine Pa.vret (by rfl) ?_
  show Pa N 252 42 [(0, .ref 69), (1, .int 0), (2, .int yx)] [] (uI (uI (uI (uI (uI (uI (uI (uI (uI (uI (uI (uI yA 69 85 0) 69 86 yc) 128 0 40) 69 85 1) 128 1 12) 69 85 2) 128 2 11) 69 85 3) 128 3 30) 69 85 4) 128 4 10) 69 85 5) _
  refine Pa.mp 3 (pc' := 45) (l' := [(0, .ref 69), (1, .int 0), (2, .int yx)]) (st' := [.ref 69, .ref 69, .int yx]) (by rfl) ?_
  refine Pa.gfI (v := yc) (by rfl) (by rfl) (.inl rfl) (by rfl) (by show (uI (uI (uI (uI (uI (uI (uI (uI (uI (uI (uI (uI yA 69 85 0) 69 86 yc) 128 0 40) 69 85 1) 128 1 12) 69 85 2) 128 2 11) 69 85 3) 128 3 30) 69 85 4) 128 4 10) 69 85 5).1 69 86 = yc; rw [uI_k (by decide), uI_c (by decide), uI_k (by decide), uI_c (by decide), uI_k (by decide), uI_c (by decide), uI_k (by decide), uI_c (by decide), uI_k (by decide), uI_c (by decide), uI_h]) ?_
  refine Pa.mp 1 (pc' := 49) (l' := [(0, .ref 69), (1, .int 0), (2, .int yx)]) (st' := [.ref 69, .int yc, .ref 69, .int yx]) (by rfl) ?_
  refine Pa.gfI (v := yA.1 69 0) (by rfl) (by rfl) (.inl rfl) (by rfl) (by show (uI (uI (uI (uI (uI (uI (uI (uI (uI (uI (uI (uI yA 69 85 0) 69 86 yc) 128 0 40) 69 85 1) 128 1 12) 69 85 2) 128 2 11) 69 85 3) 128 3 30) 69 85 4) 128 4 10) 69 85 5).1 69 0 = yA.1 69 0; rw [uI_k (by decide), uI_c (by decide), uI_k (by decide), uI_c (by decide), uI_k (by decide), uI_c (by decide), uI_k (by decide), uI_c (by decide), uI_k (by decide), uI_c (by decide), uI_k (by decide), uI_k (by decide)]) ?_
  refine Pa.inv (by rfl) (by rfl) (.inl rfl) (by rfl) ?_
  refine Pa.mono (c_kof N yA (uI (uI (uI (uI (uI (uI (uI (uI (uI (uI (uI (uI yA 69 85 0) 69 86 yc) 128 0 40) 69 85 1) 128 1 12) 69 85 2) 128 2 11) 69 85 3) 128 3 30) 69 85 4) 128 4 10) 69 85 5) yc (yA.1 69 0) (funext fun _ => by repeat rw [uI_c (by decide)]) (funext fun _ => by repeat rw [uI_c (by decide)]) (funext fun _ => by repeat rw [uI_c (by decide)])) (fun yu A1 hu => ?_)
  obtain ⟨rfl, hu⟩ := hu
  rw [hu]
  show Pa N 252 55 [(0, .ref 69), (1, .int 0), (2, .int yx)] [.int (kofM yA yc (yA.1 69 0)), .int yx] (uI (uI (uI (uI (uI (uI (uI (uI (uI (uI (uI (uI yA 69 85 0) 69 86 yc) 128 0 40) 69 85 1) 128 1 12) 69 85 2) 128 2 11) 69 85 3) 128 3 30) 69 85 4) 128 4 10) 69 85 5) _
  refine Pa.mp 1 (pc' := 56) (l' := [(0, .ref 69), (1, .int 0), (2, .int yx)]) (st' := [.int (yx + (kofM yA yc (yA.1 69 0)))]) (by rfl) ?_
  refine Pa.iret (by rfl) ?_
  show Pa N 252 72 [(0, .ref 69), (1, .int 2), (2, .int yx)] [.int (yx + (kofM yA yc (yA.1 69 0)))] (uI (uI (uI (uI (uI (uI (uI (uI (uI (uI (uI (uI yA 69 85 0) 69 86 yc) 128 0 40) 69 85 1) 128 1 12) 69 85 2) 128 2 11) 69 85 3) 128 3 30) 69 85 4) 128 4 10) 69 85 5) _
  refine Pa.ic (x := 4) (pc' := 73) (by rfl) (by rfl) (by decide) ?_
  refine Pa.mp 1 (pc' := 74) (l' := [(0, .ref 69), (1, .int 2), (2, .int yx)]) (st' := [.int ((yx + (kofM yA yc (yA.1 69 0))) - 4)]) (by rfl) ?_
  refine Pa.iret (by rfl) ?_
  show Pa N 252 102 [(0, .ref 69), (1, .int 3), (2, .int yx)] [.int ((yx + (kofM yA yc (yA.1 69 0))) - 4)] (uI (uI (uI (uI (uI (uI (uI (uI (uI (uI (uI (uI yA 69 85 0) 69 86 yc) 128 0 40) 69 85 1) 128 1 12) 69 85 2) 128 2 11) 69 85 3) 128 3 30) 69 85 4) 128 4 10) 69 85 5) _
  refine Pa.iret (by rfl) ?_
  show Pa N 253 64 [(0, .ref 69), (1, .int 0), (2, .int yx)] [.int ((yx + (kofM yA yc (yA.1 69 0))) - 4)] (uI (uI (uI (uI (uI (uI (uI (uI (uI (uI (uI (uI yA 69 85 0) 69 86 yc) 128 0 40) 69 85 1) 128 1 12) 69 85 2) 128 2 11) 69 85 3) 128 3 30) 69 85 4) 128 4 10) 69 85 5) _
  refine Pa.ic (x := 2) (pc' := 65) (by rfl) (by rfl) (by decide) ?_
  refine Pa.mp 1 (pc' := 66) (l' := [(0, .ref 69), (1, .int 0), (2, .int yx)]) (st' := [.int (((yx + (kofM yA yc (yA.1 69 0))) - 4) * 2)]) (by rfl) ?_
  refine Pa.iret (by rfl) ?_
  show Pa N 253 146 [(0, .ref 69), (1, .int 2), (2, .int yx)] [.int (((yx + (kofM yA yc (yA.1 69 0))) - 4) * 2)] (uI (uI (uI (uI (uI (uI (uI (uI (uI (uI (uI (uI yA 69 85 0) 69 86 yc) 128 0 40) 69 85 1) 128 1 12) 69 85 2) 128 2 11) 69 85 3) 128 3 30) 69 85 4) 128 4 10) 69 85 5) _
  refine Pa.iret (by rfl) ?_
  show Pa N 253 146 [(0, .ref 69), (1, .int 3), (2, .int yx)] [.int (((yx + (kofM yA yc (yA.1 69 0))) - 4) * 2)] (uI (uI (uI (uI (uI (uI (uI (uI (uI (uI (uI (uI yA 69 85 0) 69 86 yc) 128 0 40) 69 85 1) 128 1 12) 69 85 2) 128 2 11) 69 85 3) 128 3 30) 69 85 4) 128 4 10) 69 85 5) _
  refine Pa.iret (by rfl) ?_
  show Pa N 254 56 [(0, .ref 69), (1, .int 0), (2, .int yx)] [.int (((yx + (kofM yA yc (yA.1 69 0))) - 4) * 2)] (uI (uI (uI (uI (uI (uI (uI (uI (uI (uI (uI (uI yA 69 85 0) 69 86 yc) 128 0 40) 69 85 1) 128 1 12) 69 85 2) 128 2 11) 69 85 3) 128 3 30) 69 85 4) 128 4 10) 69 85 5) _
  refine Pa.mp 1 (pc' := 57) (l' := [(0, .ref 69), (1, .int 0), (2, .int yx)]) (st' := [.ref 69, .int (((yx + (kofM yA yc (yA.1 69 0))) - 4) * 2)]) (by rfl) ?_
  refine Pa.gfI (v := yc) (by rfl) (by rfl) (.inl rfl) (by rfl) (by show (uI (uI (uI (uI (uI (uI (uI (uI (uI (uI (uI (uI yA 69 85 0) 69 86 yc) 128 0 40) 69 85 1) 128 1 12) 69 85 2) 128 2 11) 69 85 3) 128 3 30) 69 85 4) 128 4 10) 69 85 5).1 69 86 = yc; rw [uI_k (by decide), uI_c (by decide), uI_k (by decide), uI_c (by decide), uI_k (by decide), uI_c (by decide), uI_k (by decide), uI_c (by decide), uI_k (by decide), uI_c (by decide), uI_h]) ?_
  refine Pa.mp 1 (pc' := 61) (l' := [(0, .ref 69), (1, .int 0), (2, .int yx)]) (st' := [.int ((((yx + (kofM yA yc (yA.1 69 0))) - 4) * 2) - yc)]) (by rfl) ?_
  refine Pa.iret (by rfl) ?_
  show Pa N 254 122 [(0, .ref 69), (1, .int 2), (2, .int yx)] [.int ((((yx + (kofM yA yc (yA.1 69 0))) - 4) * 2) - yc)] (uI (uI (uI (uI (uI (uI (uI (uI (uI (uI (uI (uI yA 69 85 0) 69 86 yc) 128 0 40) 69 85 1) 128 1 12) 69 85 2) 128 2 11) 69 85 3) 128 3 30) 69 85 4) 128 4 10) 69 85 5) _
  refine Pa.iret (by rfl) ?_
  show Pa N 254 77 [(0, .ref 69), (1, .int 3), (2, .int yx)] [.int ((((yx + (kofM yA yc (yA.1 69 0))) - 4) * 2) - yc)] (uI (uI (uI (uI (uI (uI (uI (uI (uI (uI (uI (uI yA 69 85 0) 69 86 yc) 128 0 40) 69 85 1) 128 1 12) 69 85 2) 128 2 11) 69 85 3) 128 3 30) 69 85 4) 128 4 10) 69 85 5) _
  refine Pa.mp 4 (pc' := 81) (l' := [(3, .int ((((yx + (kofM yA yc (yA.1 69 0))) - 4) * 2) - yc)), (0, .ref 69), (1, .int 3), (2, .int yx)]) (st' := [.ref 69, .ref 69, .int ((((yx + (kofM yA yc (yA.1 69 0))) - 4) * 2) - yc)]) (by rfl) ?_
  refine Pa.gfR (by rfl) (by rfl) (.inl rfl) (by rfl) ?_
  show Pa N 254 84 [(3, .int ((((yx + (kofM yA yc (yA.1 69 0))) - 4) * 2) - yc)), (0, .ref 69), (1, .int 3), (2, .int yx)] [.ref 89, .ref 69, .int ((((yx + (kofM yA yc (yA.1 69 0))) - 4) * 2) - yc)] (uI (uI (uI (uI (uI (uI (uI (uI (uI (uI (uI (uI yA 69 85 0) 69 86 yc) 128 0 40) 69 85 1) 128 1 12) 69 85 2) 128 2 11) 69 85 3) 128 3 30) 69 85 4) 128 4 10) 69 85 5) _
  refine Pa.mp 1 (pc' := 85) (l' := [(3, .int ((((yx + (kofM yA yc (yA.1 69 0))) - 4) * 2) - yc)), (0, .ref 69), (1, .int 3), (2, .int yx)]) (st' := [.ref 69, .ref 89, .ref 69, .int ((((yx + (kofM yA yc (yA.1 69 0))) - 4) * 2) - yc)]) (by rfl) ?_
  refine Pa.gfI (v := yc) (by rfl) (by rfl) (.inl rfl) (by rfl) (by show (uI (uI (uI (uI (uI (uI (uI (uI (uI (uI (uI (uI yA 69 85 0) 69 86 yc) 128 0 40) 69 85 1) 128 1 12) 69 85 2) 128 2 11) 69 85 3) 128 3 30) 69 85 4) 128 4 10) 69 85 5).1 69 86 = yc; rw [uI_k (by decide), uI_c (by decide), uI_k (by decide), uI_c (by decide), uI_k (by decide), uI_c (by decide), uI_k (by decide), uI_c (by decide), uI_k (by decide), uI_c (by decide), uI_h]) ?_
  refine Pa.alds (v := 3) (by rfl) (by rfl) (by show (uI (uI (uI (uI (uI (uI (uI (uI (uI (uI (uI (uI yA 69 85 0) 69 86 yc) 128 0 40) 69 85 1) 128 1 12) 69 85 2) 128 2 11) 69 85 3) 128 3 30) 69 85 4) 128 4 10) 69 85 5).1 89 yc.toInt.toNat = 3; rw [uI_c (by decide), uI_c (by decide), uI_c (by decide), uI_c (by decide), uI_c (by decide), uI_c (by decide), uI_c (by decide), uI_c (by decide), uI_c (by decide), uI_c (by decide), uI_c (by decide), uI_c (by decide), hk]) (fun h15 yh16 => ?_)
  have h15 : 0 ≤ yc.toInt := h15
  have yh16 : yc.toInt < 150 := yh16
  refine Pa.ic (x := 1) (pc' := 90) (by rfl) (by rfl) (by decide) ?_
  refine Pa.inv (by rfl) (by rfl) (.inl rfl) (by rfl) ?_
  show Pa N 253 0 [(0, .ref 69), (1, .int 3), (2, .int 1)] [] (uI (uI (uI (uI (uI (uI (uI (uI (uI (uI (uI (uI yA 69 85 0) 69 86 yc) 128 0 40) 69 85 1) 128 1 12) 69 85 2) 128 2 11) 69 85 3) 128 3 30) 69 85 4) 128 4 10) 69 85 5) _
  refine Pa.mp 1 (pc' := 1) (l' := [(0, .ref 69), (1, .int 3), (2, .int 1)]) (st' := [.int 3]) (by rfl) ?_
  refine Pa.mp 1 (pc' := 137) (l' := [(0, .ref 69), (1, .int 3), (2, .int 1)]) (st' := []) (by rfl) ?_
  refine Pa.mp 2 (pc' := 139) (l' := [(0, .ref 69), (1, .int 3), (2, .int 1)]) (st' := [.int 3, .ref 69]) (by rfl) ?_
  refine Pa.ist (by rfl) (by rfl) (.inl rfl) (by rfl) (by rfl) ?_
  show Pa N 250 0 [(0, .int 3)] [] (uI (uI (uI (uI (uI (uI (uI (uI (uI (uI (uI (uI yA 69 85 0) 69 86 yc) 128 0 40) 69 85 1) 128 1 12) 69 85 2) 128 2 11) 69 85 3) 128 3 30) 69 85 4) 128 4 10) 69 85 5) _
  refine Pa.mp 1 (pc' := 1) (l' := [(0, .int 3)]) (st' := [.int 3]) (by rfl) ?_
  refine Pa.ic (x := 5) (pc' := 2) (by rfl) (by rfl) (by decide) ?_
  refine Pa.if2k false (by rfl) (by rfl) (by decide) ?_
  show Pa N 250 5 [(0, .int 3)] [] (uI (uI (uI (uI (uI (uI (uI (uI (uI (uI (uI (uI yA 69 85 0) 69 86 yc) 128 0 40) 69 85 1) 128 1 12) 69 85 2) 128 2 11) 69 85 3) 128 3 30) 69 85 4) 128 4 10) 69 85 5) _
  refine Pa.mp 1 (pc' := 6) (l' := [(0, .int 3)]) (st' := [.int 3]) (by rfl) ?_
  refine Pa.ic (x := 3) (pc' := 7) (by rfl) (by rfl) (by decide) ?_
  refine Pa.if2k false (by rfl) (by rfl) (by decide) ?_
  show Pa N 250 10 [(0, .int 3)] [] (uI (uI (uI (uI (uI (uI (uI (uI (uI (uI (uI (uI yA 69 85 0) 69 86 yc) 128 0 40) 69 85 1) 128 1 12) 69 85 2) 128 2 11) 69 85 3) 128 3 30) 69 85 4) 128 4 10) 69 85 5) _
  refine Pa.ic (x := 2) (pc' := 11) (by rfl) (by rfl) (by decide) ?_
  refine Pa.mp 1 (pc' := 25) (l' := [(0, .int 3)]) (st' := [.int 2]) (by rfl) ?_
  refine Pa.iret (by rfl) ?_
  show Pa N 253 142 [(0, .ref 69), (1, .int 3), (2, .int 1)] [.int 2, .ref 69] (uI (uI (uI (uI (uI (uI (uI (uI (uI (uI (uI (uI yA 69 85 0) 69 86 yc) 128 0 40) 69 85 1) 128 1 12) 69 85 2) 128 2 11) 69 85 3) 128 3 30) 69 85 4) 128 4 10) 69 85 5) _
  refine Pa.mp 1 (pc' := 143) (l' := [(0, .ref 69), (1, .int 3), (2, .int 1)]) (st' := [.int 1, .int 2, .ref 69]) (by rfl) ?_
  refine Pa.inv (by rfl) (by rfl) (.inl rfl) (by rfl) ?_
  show Pa N 253 0 [(0, .ref 69), (1, .int 2), (2, .int 1)] [] (uI (uI (uI (uI (uI (uI (uI (uI (uI (uI (uI (uI yA 69 85 0) 69 86 yc) 128 0 40) 69 85 1) 128 1 12) 69 85 2) 128 2 11) 69 85 3) 128 3 30) 69 85 4) 128 4 10) 69 85 5) _
  refine Pa.mp 1 (pc' := 1) (l' := [(0, .ref 69), (1, .int 2), (2, .int 1)]) (st' := [.int 2]) (by rfl) ?_
  refine Pa.mp 1 (pc' := 137) (l' := [(0, .ref 69), (1, .int 2), (2, .int 1)]) (st' := []) (by rfl) ?_
  refine Pa.mp 2 (pc' := 139) (l' := [(0, .ref 69), (1, .int 2), (2, .int 1)]) (st' := [.int 2, .ref 69]) (by rfl) ?_
  refine Pa.ist (by rfl) (by rfl) (.inl rfl) (by rfl) (by rfl) ?_
  show Pa N 250 0 [(0, .int 2)] [] (uI (uI (uI (uI (uI (uI (uI (uI (uI (uI (uI (uI yA 69 85 0) 69 86 yc) 128 0 40) 69 85 1) 128 1 12) 69 85 2) 128 2 11) 69 85 3) 128 3 30) 69 85 4) 128 4 10) 69 85 5) _
  refine Pa.mp 1 (pc' := 1) (l' := [(0, .int 2)]) (st' := [.int 2]) (by rfl) ?_
  refine Pa.ic (x := 5) (pc' := 2) (by rfl) (by rfl) (by decide) ?_
  refine Pa.if2k false (by rfl) (by rfl) (by decide) ?_
  show Pa N 250 5 [(0, .int 2)] [] (uI (uI (uI (uI (uI (uI (uI (uI (uI (uI (uI (uI yA 69 85 0) 69 86 yc) 128 0 40) 69 85 1) 128 1 12) 69 85 2) 128 2 11) 69 85 3) 128 3 30) 69 85 4) 128 4 10) 69 85 5) _
  refine Pa.mp 1 (pc' := 6) (l' := [(0, .int 2)]) (st' := [.int 2]) (by rfl) ?_
  refine Pa.ic (x := 3) (pc' := 7) (by rfl) (by rfl) (by decide) ?_
  refine Pa.if2k true (by rfl) (by rfl) (by decide) ?_
  show Pa N 250 14 [(0, .int 2)] [] (uI (uI (uI (uI (uI (uI (uI (uI (uI (uI (uI (uI yA 69 85 0) 69 86 yc) 128 0 40) 69 85 1) 128 1 12) 69 85 2) 128 2 11) 69 85 3) 128 3 30) 69 85 4) 128 4 10) 69 85 5) _
  refine Pa.mp 1 (pc' := 15) (l' := [(0, .int 2)]) (st' := [.int 2]) (by rfl) ?_
  refine Pa.ic (x := 6) (pc' := 17) (by rfl) (by rfl) (by decide) ?_
  refine Pa.if2k true (by rfl) (by rfl) (by decide) ?_
  show Pa N 250 24 [(0, .int 2)] [] (uI (uI (uI (uI (uI (uI (uI (uI (uI (uI (uI (uI yA 69 85 0) 69 86 yc) 128 0 40) 69 85 1) 128 1 12) 69 85 2) 128 2 11) 69 85 3) 128 3 30) 69 85 4) 128 4 10) 69 85 5) _
  refine Pa.ic (x := 0) (pc' := 25) (by rfl) (by rfl) (by decide) ?_
  refine Pa.iret (by rfl) ?_
  show Pa N 253 142 [(0, .ref 69), (1, .int 2), (2, .int 1)] [.int 0, .ref 69] (uI (uI (uI (uI (uI (uI (uI (uI (uI (uI (uI (uI yA 69 85 0) 69 86 yc) 128 0 40) 69 85 1) 128 1 12) 69 85 2) 128 2 11) 69 85 3) 128 3 30) 69 85 4) 128 4 10) 69 85 5) _
  refine Pa.mp 1 (pc' := 143) (l' := [(0, .ref 69), (1, .int 2), (2, .int 1)]) (st' := [.int 1, .int 0, .ref 69]) (by rfl) ?_
  refine Pa.inv (by rfl) (by rfl) (.inl rfl) (by rfl) ?_
  show Pa N 253 0 [(0, .ref 69), (1, .int 0), (2, .int 1)] [] (uI (uI (uI (uI (uI (uI (uI (uI (uI (uI (uI (uI yA 69 85 0) 69 86 yc) 128 0 40) 69 85 1) 128 1 12) 69 85 2) 128 2 11) 69 85 3) 128 3 30) 69 85 4) 128 4 10) 69 85 5) _
  refine Pa.mp 1 (pc' := 1) (l' := [(0, .ref 69), (1, .int 0), (2, .int 1)]) (st' := [.int 0]) (by rfl) ?_
  refine Pa.mp 1 (pc' := 44) (l' := [(0, .ref 69), (1, .int 0), (2, .int 1)]) (st' := []) (by rfl) ?_
  refine Pa.mp 1 (pc' := 45) (l' := [(0, .ref 69), (1, .int 0), (2, .int 1)]) (st' := [.ref 69]) (by rfl) ?_
  refine Pa.ic (x := 11) (pc' := 47) (by rfl) (by rfl) (by decide) ?_
  refine Pa.inv (by rfl) (by rfl) (.inl rfl) (by rfl) ?_
  show Pa N 251 0 [(0, .ref 69), (1, .int 11)] [] (uI (uI (uI (uI (uI (uI (uI (uI (uI (uI (uI (uI yA 69 85 0) 69 86 yc) 128 0 40) 69 85 1) 128 1 12) 69 85 2) 128 2 11) 69 85 3) 128 3 30) 69 85 4) 128 4 10) 69 85 5) _
  refine Pa.mp 1 (pc' := 1) (l' := [(0, .ref 69), (1, .int 11)]) (st' := [.ref 69]) (by rfl) ?_
  refine Pa.gfI (v := 5) (by rfl) (by rfl) (.inl rfl) (by rfl) (by show (uI (uI (uI (uI (uI (uI (uI (uI (uI (uI (uI (uI yA 69 85 0) 69 86 yc) 128 0 40) 69 85 1) 128 1 12) 69 85 2) 128 2 11) 69 85 3) 128 3 30) 69 85 4) 128 4 10) 69 85 5).1 69 85 = 5; rw [uI_h]) ?_
  refine Pa.ic (x := 24) (pc' := 6) (by rfl) (by rfl) (by decide) ?_
  refine Pa.if2k false (by rfl) (by rfl) (by decide) ?_
  show Pa N 251 9 [(0, .ref 69), (1, .int 11)] [] (uI (uI (uI (uI (uI (uI (uI (uI (uI (uI (uI (uI yA 69 85 0) 69 86 yc) 128 0 40) 69 85 1) 128 1 12) 69 85 2) 128 2 11) 69 85 3) 128 3 30) 69 85 4) 128 4 10) 69 85 5) _
  refine Pa.mp 1 (pc' := 10) (l' := [(0, .ref 69), (1, .int 11)]) (st' := [.ref 69]) (by rfl) ?_
  refine Pa.gfR (by rfl) (by rfl) (.inl rfl) (by rfl) ?_
  show Pa N 251 13 [(0, .ref 69), (1, .int 11)] [.ref 128] (uI (uI (uI (uI (uI (uI (uI (uI (uI (uI (uI (uI yA 69 85 0) 69 86 yc) 128 0 40) 69 85 1) 128 1 12) 69 85 2) 128 2 11) 69 85 3) 128 3 30) 69 85 4) 128 4 10) 69 85 5) _
  refine Pa.mp 1 (pc' := 14) (l' := [(0, .ref 69), (1, .int 11)]) (st' := [.ref 69, .ref 128]) (by rfl) ?_
  refine Pa.gfI (v := 5) (by rfl) (by rfl) (.inl rfl) (by rfl) (by show (uI (uI (uI (uI (uI (uI (uI (uI (uI (uI (uI (uI yA 69 85 0) 69 86 yc) 128 0 40) 69 85 1) 128 1 12) 69 85 2) 128 2 11) 69 85 3) 128 3 30) 69 85 4) 128 4 10) 69 85 5).1 69 85 = 5; rw [uI_h]) ?_
  refine Pa.mp 1 (pc' := 18) (l' := [(0, .ref 69), (1, .int 11)]) (st' := [.int 11, .int 5, .ref 128]) (by rfl) ?_
  refine Pa.asts (j' := 5) (by rfl) (by rfl) (by rfl) (fun h17 h18 => ?_)
  show Pa N 251 19 [(0, .ref 69), (1, .int 11)] [] (uI (uI (uI (uI (uI (uI (uI (uI (uI (uI (uI (uI (uI yA 69 85 0) 69 86 yc) 128 0 40) 69 85 1) 128 1 12) 69 85 2) 128 2 11) 69 85 3) 128 3 30) 69 85 4) 128 4 10) 69 85 5) 128 5 11) _
  refine Pa.mp 2 (pc' := 21) (l' := [(0, .ref 69), (1, .int 11)]) (st' := [.ref 69, .ref 69]) (by rfl) ?_
  refine Pa.gfI (v := 5) (by rfl) (by rfl) (.inl rfl) (by rfl) (by show (uI (uI (uI (uI (uI (uI (uI (uI (uI (uI (uI (uI (uI yA 69 85 0) 69 86 yc) 128 0 40) 69 85 1) 128 1 12) 69 85 2) 128 2 11) 69 85 3) 128 3 30) 69 85 4) 128 4 10) 69 85 5) 128 5 11).1 69 85 = 5; rw [uI_c (by decide), uI_h]) ?_
  refine Pa.ic (x := 1) (pc' := 25) (by rfl) (by rfl) (by decide) ?_
  refine Pa.mp 1 (pc' := 26) (l' := [(0, .ref 69), (1, .int 11)]) (st' := [.int 6, .ref 69]) (by rfl) ?_
  refine Pa.pfI (by rfl) (by rfl) (.inl rfl) (by rfl) ?_
  show Pa N 251 29 [(0, .ref 69), (1, .int 11)] [] (uI (uI (uI (uI (uI (uI (uI (uI (uI (uI (uI (uI (uI (uI yA 69 85 0) 69 86 yc) 128 0 40) 69 85 1) 128 1 12) 69 85 2) 128 2 11) 69 85 3) 128 3 30) 69 85 4) 128 4 10) 69 85 5) 128 5 11) 69 85 6) _
  refine Pa.vret (by rfl) ?_
  show Pa N 253 50 [(0, .ref 69), (1, .int 0), (2, .int 1)] [] (uI (uI (uI (uI (uI (uI (uI (uI (uI (uI (uI (uI (uI (uI yA 69 85 0) 69 86 yc) 128 0 40) 69 85 1) 128 1 12) 69 85 2) 128 2 11) 69 85 3) 128 3 30) 69 85 4) 128 4 10) 69 85 5) 128 5 11) 69 85 6) _
  refine Pa.mp 2 (pc' := 52) (l' := [(0, .ref 69), (1, .int 0), (2, .int 1)]) (st' := [.ref 69, .ref 69]) (by rfl) ?_
  refine Pa.gfR (by rfl) (by rfl) (.inl rfl) (by rfl) ?_
  show Pa N 253 55 [(0, .ref 69), (1, .int 0), (2, .int 1)] [.ref 89, .ref 69] (uI (uI (uI (uI (uI (uI (uI (uI (uI (uI (uI (uI (uI (uI yA 69 85 0) 69 86 yc) 128 0 40) 69 85 1) 128 1 12) 69 85 2) 128 2 11) 69 85 3) 128 3 30) 69 85 4) 128 4 10) 69 85 5) 128 5 11) 69 85 6) _
  refine Pa.mp 1 (pc' := 56) (l' := [(0, .ref 69), (1, .int 0), (2, .int 1)]) (st' := [.ref 69, .ref 89, .ref 69]) (by rfl) ?_
  refine Pa.gfI (v := yc) (by rfl) (by rfl) (.inl rfl) (by rfl) (by show (uI (uI (uI (uI (uI (uI (uI (uI (uI (uI (uI (uI (uI (uI yA 69 85 0) 69 86 yc) 128 0 40) 69 85 1) 128 1 12) 69 85 2) 128 2 11) 69 85 3) 128 3 30) 69 85 4) 128 4 10) 69 85 5) 128 5 11) 69 85 6).1 69 86 = yc; rw [uI_k (by decide), uI_c (by decide), uI_k (by decide), uI_c (by decide), uI_k (by decide), uI_c (by decide), uI_k (by decide), uI_c (by decide), uI_k (by decide), uI_c (by decide), uI_k (by decide), uI_c (by decide), uI_h]) ?_
  refine Pa.alds (v := 3) (by rfl) (by rfl) (by show (uI (uI (uI (uI (uI (uI (uI (uI (uI (uI (uI (uI (uI (uI yA 69 85 0) 69 86 yc) 128 0 40) 69 85 1) 128 1 12) 69 85 2) 128 2 11) 69 85 3) 128 3 30) 69 85 4) 128 4 10) 69 85 5) 128 5 11) 69 85 6).1 89 yc.toInt.toNat = 3; rw [uI_c (by decide), uI_c (by decide), uI_c (by decide), uI_c (by decide), uI_c (by decide), uI_c (by decide), uI_c (by decide), uI_c (by decide), uI_c (by decide), uI_c (by decide), uI_c (by decide), uI_c (by decide), uI_c (by decide), uI_c (by decide), hk]) (fun h19 h20 => ?_)
  have h19 : 0 ≤ yc.toInt := h19
  have h20 : yc.toInt < 150 := h20
  refine Pa.mp 1 (pc' := 61) (l' := [(0, .ref 69), (1, .int 0), (2, .int 1)]) (st' := [.int 1, .int 3, .ref 69]) (by rfl) ?_
  refine Pa.inv (by rfl) (by rfl) (.inl rfl) (by rfl) ?_
  show Pa N 252 0 [(0, .ref 69), (1, .int 3), (2, .int 1)] [] (uI (uI (uI (uI (uI (uI (uI (uI (uI (uI (uI (uI (uI (uI yA 69 85 0) 69 86 yc) 128 0 40) 69 85 1) 128 1 12) 69 85 2) 128 2 11) 69 85 3) 128 3 30) 69 85 4) 128 4 10) 69 85 5) 128 5 11) 69 85 6) _
  refine Pa.mp 1 (pc' := 1) (l' := [(0, .ref 69), (1, .int 3), (2, .int 1)]) (st' := [.int 3]) (by rfl) ?_
  refine Pa.mp 1 (pc' := 93) (l' := [(0, .ref 69), (1, .int 3), (2, .int 1)]) (st' := []) (by rfl) ?_
  refine Pa.mp 2 (pc' := 95) (l' := [(0, .ref 69), (1, .int 3), (2, .int 1)]) (st' := [.int 3, .ref 69]) (by rfl) ?_
  refine Pa.ist (by rfl) (by rfl) (.inl rfl) (by rfl) (by rfl) ?_
  show Pa N 250 0 [(0, .int 3)] [] (uI (uI (uI (uI (uI (uI (uI (uI (uI (uI (uI (uI (uI (uI yA 69 85 0) 69 86 yc) 128 0 40) 69 85 1) 128 1 12) 69 85 2) 128 2 11) 69 85 3) 128 3 30) 69 85 4) 128 4 10) 69 85 5) 128 5 11) 69 85 6) _
  refine Pa.mp 1 (pc' := 1) (l' := [(0, .int 3)]) (st' := [.int 3]) (by rfl) ?_
  refine Pa.ic (x := 5) (pc' := 2) (by rfl) (by rfl) (by decide) ?_
  refine Pa.if2k false (by rfl) (by rfl) (by decide) ?_
  show Pa N 250 5 [(0, .int 3)] [] (uI (uI (uI (uI (uI (uI (uI (uI (uI (uI (uI (uI (uI (uI yA 69 85 0) 69 86 yc) 128 0 40) 69 85 1) 128 1 12) 69 85 2) 128 2 11) 69 85 3) 128 3 30) 69 85 4) 128 4 10) 69 85 5) 128 5 11) 69 85 6) _
  refine Pa.mp 1 (pc' := 6) (l' := [(0, .int 3)]) (st' := [.int 3]) (by rfl) ?_
  refine Pa.ic (x := 3) (pc' := 7) (by rfl) (by rfl) (by decide) ?_
  refine Pa.if2k false (by rfl) (by rfl) (by decide) ?_
  show Pa N 250 10 [(0, .int 3)] [] (uI (uI (uI (uI (uI (uI (uI (uI (uI (uI (uI (uI (uI (uI yA 69 85 0) 69 86 yc) 128 0 40) 69 85 1) 128 1 12) 69 85 2) 128 2 11) 69 85 3) 128 3 30) 69 85 4) 128 4 10) 69 85 5) 128 5 11) 69 85 6) _
  refine Pa.ic (x := 2) (pc' := 11) (by rfl) (by rfl) (by decide) ?_
  refine Pa.mp 1 (pc' := 25) (l' := [(0, .int 3)]) (st' := [.int 2]) (by rfl) ?_
  refine Pa.iret (by rfl) ?_
  show Pa N 252 98 [(0, .ref 69), (1, .int 3), (2, .int 1)] [.int 2, .ref 69] (uI (uI (uI (uI (uI (uI (uI (uI (uI (uI (uI (uI (uI (uI yA 69 85 0) 69 86 yc) 128 0 40) 69 85 1) 128 1 12) 69 85 2) 128 2 11) 69 85 3) 128 3 30) 69 85 4) 128 4 10) 69 85 5) 128 5 11) 69 85 6) _
  refine Pa.mp 1 (pc' := 99) (l' := [(0, .ref 69), (1, .int 3), (2, .int 1)]) (st' := [.int 1, .int 2, .ref 69]) (by rfl) ?_
  refine Pa.inv (by rfl) (by rfl) (.inl rfl) (by rfl) ?_
  show Pa N 252 0 [(0, .ref 69), (1, .int 2), (2, .int 1)] [] (uI (uI (uI (uI (uI (uI (uI (uI (uI (uI (uI (uI (uI (uI yA 69 85 0) 69 86 yc) 128 0 40) 69 85 1) 128 1 12) 69 85 2) 128 2 11) 69 85 3) 128 3 30) 69 85 4) 128 4 10) 69 85 5) 128 5 11) 69 85 6) _
  refine Pa.mp 1 (pc' := 1) (l' := [(0, .ref 69), (1, .int 2), (2, .int 1)]) (st' := [.int 2]) (by rfl) ?_
  refine Pa.mp 1 (pc' := 57) (l' := [(0, .ref 69), (1, .int 2), (2, .int 1)]) (st' := []) (by rfl) ?_
  refine Pa.mp 1 (pc' := 58) (l' := [(0, .ref 69), (1, .int 2), (2, .int 1)]) (st' := [.ref 69]) (by rfl) ?_
  refine Pa.ic (x := 30) (pc' := 60) (by rfl) (by rfl) (by decide) ?_
  refine Pa.inv (by rfl) (by rfl) (.inl rfl) (by rfl) ?_
  show Pa N 251 0 [(0, .ref 69), (1, .int 30)] [] (uI (uI (uI (uI (uI (uI (uI (uI (uI (uI (uI (uI (uI (uI yA 69 85 0) 69 86 yc) 128 0 40) 69 85 1) 128 1 12) 69 85 2) 128 2 11) 69 85 3) 128 3 30) 69 85 4) 128 4 10) 69 85 5) 128 5 11) 69 85 6) _
  refine Pa.mp 1 (pc' := 1) (l' := [(0, .ref 69), (1, .int 30)]) (st' := [.ref 69]) (by rfl) ?_
  refine Pa.gfI (v := 6) (by rfl) (by rfl) (.inl rfl) (by rfl) (by show (uI (uI (uI (uI (uI (uI (uI (uI (uI (uI (uI (uI (uI (uI yA 69 85 0) 69 86 yc) 128 0 40) 69 85 1) 128 1 12) 69 85 2) 128 2 11) 69 85 3) 128 3 30) 69 85 4) 128 4 10) 69 85 5) 128 5 11) 69 85 6).1 69 85 = 6; rw [uI_h]) ?_
  refine Pa.ic (x := 24) (pc' := 6) (by rfl) (by rfl) (by decide) ?_
  refine Pa.if2k false (by rfl) (by rfl) (by decide) ?_
  show Pa N 251 9 [(0, .ref 69), (1, .int 30)] [] (uI (uI (uI (uI (uI (uI (uI (uI (uI (uI (uI (uI (uI (uI yA 69 85 0) 69 86 yc) 128 0 40) 69 85 1) 128 1 12) 69 85 2) 128 2 11) 69 85 3) 128 3 30) 69 85 4) 128 4 10) 69 85 5) 128 5 11) 69 85 6) _
  refine Pa.mp 1 (pc' := 10) (l' := [(0, .ref 69), (1, .int 30)]) (st' := [.ref 69]) (by rfl) ?_
  refine Pa.gfR (by rfl) (by rfl) (.inl rfl) (by rfl) ?_
  show Pa N 251 13 [(0, .ref 69), (1, .int 30)] [.ref 128] (uI (uI (uI (uI (uI (uI (uI (uI (uI (uI (uI (uI (uI (uI yA 69 85 0) 69 86 yc) 128 0 40) 69 85 1) 128 1 12) 69 85 2) 128 2 11) 69 85 3) 128 3 30) 69 85 4) 128 4 10) 69 85 5) 128 5 11) 69 85 6) _
  refine Pa.mp 1 (pc' := 14) (l' := [(0, .ref 69), (1, .int 30)]) (st' := [.ref 69, .ref 128]) (by rfl) ?_
  refine Pa.gfI (v := 6) (by rfl) (by rfl) (.inl rfl) (by rfl) (by show (uI (uI (uI (uI (uI (uI (uI (uI (uI (uI (uI (uI (uI (uI yA 69 85 0) 69 86 yc) 128 0 40) 69 85 1) 128 1 12) 69 85 2) 128 2 11) 69 85 3) 128 3 30) 69 85 4) 128 4 10) 69 85 5) 128 5 11) 69 85 6).1 69 85 = 6; rw [uI_h]) ?_
  refine Pa.mp 1 (pc' := 18) (l' := [(0, .ref 69), (1, .int 30)]) (st' := [.int 30, .int 6, .ref 128]) (by rfl) ?_
  refine Pa.asts (j' := 6) (by rfl) (by rfl) (by rfl) (fun h21 h22 => ?_)
  show Pa N 251 19 [(0, .ref 69), (1, .int 30)] [] (uI (uI (uI (uI (uI (uI (uI (uI (uI (uI (uI (uI (uI (uI (uI yA 69 85 0) 69 86 yc) 128 0 40) 69 85 1) 128 1 12) 69 85 2) 128 2 11) 69 85 3) 128 3 30) 69 85 4) 128 4 10) 69 85 5) 128 5 11) 69 85 6) 128 6 30) _
  refine Pa.mp 2 (pc' := 21) (l' := [(0, .ref 69), (1, .int 30)]) (st' := [.ref 69, .ref 69]) (by rfl) ?_
  refine Pa.gfI (v := 6) (by rfl) (by rfl) (.inl rfl) (by rfl) (by show (uI (uI (uI (uI (uI (uI (uI (uI (uI (uI (uI (uI (uI (uI (uI yA 69 85 0) 69 86 yc) 128 0 40) 69 85 1) 128 1 12) 69 85 2) 128 2 11) 69 85 3) 128 3 30) 69 85 4) 128 4 10) 69 85 5) 128 5 11) 69 85 6) 128 6 30).1 69 85 = 6; rw [uI_c (by decide), uI_h]) ?_
  refine Pa.ic (x := 1) (pc' := 25) (by rfl) (by rfl) (by decide) ?_
  refine Pa.mp 1 (pc' := 26) (l' := [(0, .ref 69), (1, .int 30)]) (st' := [.int 7, .ref 69]) (by rfl) ?_
  refine Pa.pfI (by rfl) (by rfl) (.inl rfl) (by rfl) ?_
  show Pa N 251 29 [(0, .ref 69), (1, .int 30)] [] (uI (uI (uI (uI (uI (uI (uI (uI (uI (uI (uI (uI (uI (uI (uI (uI yA 69 85 0) 69 86 yc) 128 0 40) 69 85 1) 128 1 12) 69 85 2) 128 2 11) 69 85 3) 128 3 30) 69 85 4) 128 4 10) 69 85 5) 128 5 11) 69 85 6) 128 6 30) 69 85 7) _
  refine Pa.vret (by rfl) ?_
  show Pa N 252 63 [(0, .ref 69), (1, .int 2), (2, .int 1)] [] (uI (uI (uI (uI (uI (uI (uI (uI (uI (uI (uI (uI (uI (uI (uI (uI yA 69 85 0) 69 86 yc) 128 0 40) 69 85 1) 128 1 12) 69 85 2) 128 2 11) 69 85 3) 128 3 30) 69 85 4) 128 4 10) 69 85 5) 128 5 11) 69 85 6) 128 6 30) 69 85 7) _
  refine Pa.mp 1 (pc' := 64) (l' := [(0, .ref 69), (1, .int 2), (2, .int 1)]) (st' := [.ref 69]) (by rfl) ?_
  refine Pa.ic (x := 2) (pc' := 65) (by rfl) (by rfl) (by decide) ?_
  refine Pa.ist (by rfl) (by rfl) (.inl rfl) (by rfl) (by rfl) ?_
  show Pa N 250 0 [(0, .int 2)] [] (uI (uI (uI (uI (uI (uI (uI (uI (uI (uI (uI (uI (uI (uI (uI (uI yA 69 85 0) 69 86 yc) 128 0 40) 69 85 1) 128 1 12) 69 85 2) 128 2 11) 69 85 3) 128 3 30) 69 85 4) 128 4 10) 69 85 5) 128 5 11) 69 85 6) 128 6 30) 69 85 7) _
  refine Pa.mp 1 (pc' := 1) (l' := [(0, .int 2)]) (st' := [.int 2]) (by rfl) ?_
  refine Pa.ic (x := 5) (pc' := 2) (by rfl) (by rfl) (by decide) ?_
  refine Pa.if2k false (by rfl) (by rfl) (by decide) ?_
  show Pa N 250 5 [(0, .int 2)] [] (uI (uI (uI (uI (uI (uI (uI (uI (uI (uI (uI (uI (uI (uI (uI (uI yA 69 85 0) 69 86 yc) 128 0 40) 69 85 1) 128 1 12) 69 85 2) 128 2 11) 69 85 3) 128 3 30) 69 85 4) 128 4 10) 69 85 5) 128 5 11) 69 85 6) 128 6 30) 69 85 7) _
  refine Pa.mp 1 (pc' := 6) (l' := [(0, .int 2)]) (st' := [.int 2]) (by rfl) ?_
  refine Pa.ic (x := 3) (pc' := 7) (by rfl) (by rfl) (by decide) ?_
  refine Pa.if2k true (by rfl) (by rfl) (by decide) ?_
  show Pa N 250 14 [(0, .int 2)] [] (uI (uI (uI (uI (uI (uI (uI (uI (uI (uI (uI (uI (uI (uI (uI (uI yA 69 85 0) 69 86 yc) 128 0 40) 69 85 1) 128 1 12) 69 85 2) 128 2 11) 69 85 3) 128 3 30) 69 85 4) 128 4 10) 69 85 5) 128 5 11) 69 85 6) 128 6 30) 69 85 7) _
  refine Pa.mp 1 (pc' := 15) (l' := [(0, .int 2)]) (st' := [.int 2]) (by rfl) ?_
  refine Pa.ic (x := 6) (pc' := 17) (by rfl) (by rfl) (by decide) ?_
  refine Pa.if2k true (by rfl) (by rfl) (by decide) ?_
  show Pa N 250 24 [(0, .int 2)] [] (uI (uI (uI (uI (uI (uI (uI (uI (uI (uI (uI (uI (uI (uI (uI (uI yA 69 85 0) 69 86 yc) 128 0 40) 69 85 1) 128 1 12) 69 85 2) 128 2 11) 69 85 3) 128 3 30) 69 85 4) 128 4 10) 69 85 5) 128 5 11) 69 85 6) 128 6 30) 69 85 7) _
  refine Pa.ic (x := 0) (pc' := 25) (by rfl) (by rfl) (by decide) ?_
  refine Pa.iret (by rfl) ?_
  show Pa N 252 68 [(0, .ref 69), (1, .int 2), (2, .int 1)] [.int 0, .ref 69] (uI (uI (uI (uI (uI (uI (uI (uI (uI (uI (uI (uI (uI (uI (uI (uI yA 69 85 0) 69 86 yc) 128 0 40) 69 85 1) 128 1 12) 69 85 2) 128 2 11) 69 85 3) 128 3 30) 69 85 4) 128 4 10) 69 85 5) 128 5 11) 69 85 6) 128 6 30) 69 85 7) _
  refine Pa.mp 1 (pc' := 69) (l' := [(0, .ref 69), (1, .int 2), (2, .int 1)]) (st' := [.int 1, .int 0, .ref 69]) (by rfl) ?_
  refine Pa.inv (by rfl) (by rfl) (.inl rfl) (by rfl) ?_
  show Pa N 252 0 [(0, .ref 69), (1, .int 0), (2, .int 1)] [] (uI (uI (uI (uI (uI (uI (uI (uI (uI (uI (uI (uI (uI (uI (uI (uI yA 69 85 0) 69 86 yc) 128 0 40) 69 85 1) 128 1 12) 69 85 2) 128 2 11) 69 85 3) 128 3 30) 69 85 4) 128 4 10) 69 85 5) 128 5 11) 69 85 6) 128 6 30) 69 85 7) _
  refine Pa.mp 1 (pc' := 1) (l' := [(0, .ref 69), (1, .int 0), (2, .int 1)]) (st' := [.int 0]) (by rfl) ?_
  refine Pa.mp 1 (pc' := 36) (l' := [(0, .ref 69), (1, .int 0), (2, .int 1)]) (st' := []) (by rfl) ?_
  refine Pa.mp 1 (pc' := 37) (l' := [(0, .ref 69), (1, .int 0), (2, .int 1)]) (st' := [.ref 69]) (by rfl) ?_
  refine Pa.ic (x := 10) (pc' := 39) (by rfl) (by rfl) (by decide) ?_
  refine Pa.inv (by rfl) (by rfl) (.inl rfl) (by rfl) ?_
  show Pa N 251 0 [(0, .ref 69), (1, .int 10)] [] (uI (uI (uI (uI (uI (uI (uI (uI (uI (uI (uI (uI (uI (uI (uI (uI yA 69 85 0) 69 86 yc) 128 0 40) 69 85 1) 128 1 12) 69 85 2) 128 2 11) 69 85 3) 128 3 30) 69 85 4) 128 4 10) 69 85 5) 128 5 11) 69 85 6) 128 6 30) 69 85 7) _
  refine Pa.mp 1 (pc' := 1) (l' := [(0, .ref 69), (1, .int 10)]) (st' := [.ref 69]) (by rfl) ?_
  refine Pa.gfI (v := 7) (by rfl) (by rfl) (.inl rfl) (by rfl) (by show (uI (uI (uI (uI (uI (uI (uI (uI (uI (uI (uI (uI (uI (uI (uI (uI yA 69 85 0) 69 86 yc) 128 0 40) 69 85 1) 128 1 12) 69 85 2) 128 2 11) 69 85 3) 128 3 30) 69 85 4) 128 4 10) 69 85 5) 128 5 11) 69 85 6) 128 6 30) 69 85 7).1 69 85 = 7; rw [uI_h]) ?_
  refine Pa.ic (x := 24) (pc' := 6) (by rfl) (by rfl) (by decide) ?_
  refine Pa.if2k false (by rfl) (by rfl) (by decide) ?_
  show Pa N 251 9 [(0, .ref 69), (1, .int 10)] [] (uI (uI (uI (uI (uI (uI (uI (uI (uI (uI (uI (uI (uI (uI (uI (uI yA 69 85 0) 69 86 yc) 128 0 40) 69 85 1) 128 1 12) 69 85 2) 128 2 11) 69 85 3) 128 3 30) 69 85 4) 128 4 10) 69 85 5) 128 5 11) 69 85 6) 128 6 30) 69 85 7) _
  refine Pa.mp 1 (pc' := 10) (l' := [(0, .ref 69), (1, .int 10)]) (st' := [.ref 69]) (by rfl) ?_
  refine Pa.gfR (by rfl) (by rfl) (.inl rfl) (by rfl) ?_
  show Pa N 251 13 [(0, .ref 69), (1, .int 10)] [.ref 128] (uI (uI (uI (uI (uI (uI (uI (uI (uI (uI (uI (uI (uI (uI (uI (uI yA 69 85 0) 69 86 yc) 128 0 40) 69 85 1) 128 1 12) 69 85 2) 128 2 11) 69 85 3) 128 3 30) 69 85 4) 128 4 10) 69 85 5) 128 5 11) 69 85 6) 128 6 30) 69 85 7) _
  refine Pa.mp 1 (pc' := 14) (l' := [(0, .ref 69), (1, .int 10)]) (st' := [.ref 69, .ref 128]) (by rfl) ?_
  refine Pa.gfI (v := 7) (by rfl) (by rfl) (.inl rfl) (by rfl) (by show (uI (uI (uI (uI (uI (uI (uI (uI (uI (uI (uI (uI (uI (uI (uI (uI yA 69 85 0) 69 86 yc) 128 0 40) 69 85 1) 128 1 12) 69 85 2) 128 2 11) 69 85 3) 128 3 30) 69 85 4) 128 4 10) 69 85 5) 128 5 11) 69 85 6) 128 6 30) 69 85 7).1 69 85 = 7; rw [uI_h]) ?_
  refine Pa.mp 1 (pc' := 18) (l' := [(0, .ref 69), (1, .int 10)]) (st' := [.int 10, .int 7, .ref 128]) (by rfl) ?_
  refine Pa.asts (j' := 7) (by rfl) (by rfl) (by rfl) (fun h23 h24 => ?_)
  show Pa N 251 19 [(0, .ref 69), (1, .int 10)] [] (uI (uI (uI (uI (uI (uI (uI (uI (uI (uI (uI (uI (uI (uI (uI (uI (uI yA 69 85 0) 69 86 yc) 128 0 40) 69 85 1) 128 1 12) 69 85 2) 128 2 11) 69 85 3) 128 3 30) 69 85 4) 128 4 10) 69 85 5) 128 5 11) 69 85 6) 128 6 30) 69 85 7) 128 7 10) _
  refine Pa.mp 2 (pc' := 21) (l' := [(0, .ref 69), (1, .int 10)]) (st' := [.ref 69, .ref 69]) (by rfl) ?_
  refine Pa.gfI (v := 7) (by rfl) (by rfl) (.inl rfl) (by rfl) (by show (uI (uI (uI (uI (uI (uI (uI (uI (uI (uI (uI (uI (uI (uI (uI (uI (uI yA 69 85 0) 69 86 yc) 128 0 40) 69 85 1) 128 1 12) 69 85 2) 128 2 11) 69 85 3) 128 3 30) 69 85 4) 128 4 10) 69 85 5) 128 5 11) 69 85 6) 128 6 30) 69 85 7) 128 7 10).1 69 85 = 7; rw [uI_c (by decide), uI_h]) ?_
  refine Pa.ic (x := 1) (pc' := 25) (by rfl) (by rfl) (by decide) ?_
  refine Pa.mp 1 (pc' := 26) (l' := [(0, .ref 69), (1, .int 10)]) (st' := [.int 8, .ref 69]) (by rfl) ?_
  refine Pa.pfI (by rfl) (by rfl) (.inl rfl) (by rfl) ?_
  show Pa N 251 29 [(0, .ref 69), (1, .int 10)] [] (uI (uI (uI (uI (uI (uI (uI (uI (uI (uI (uI (uI (uI (uI (uI (uI (uI (uI yA 69 85 0) 69 86 yc) 128 0 40) 69 85 1) 128 1 12) 69 85 2) 128 2 11) 69 85 3) 128 3 30) 69 85 4) 128 4 10) 69 85 5) 128 5 11) 69 85 6) 128 6 30) 69 85 7) 128 7 10) 69 85 8) _
  refine Pa.vret (by rfl) ?_
  show Pa N 252 42 [(0, .ref 69), (1, .int 0), (2, .int 1)] [] (uI (uI (uI (uI (uI (uI (uI (uI (uI (uI (uI (uI (uI (uI (uI (uI (uI (uI yA 69 85 0) 69 86 yc) 128 0 40) 69 85 1) 128 1 12) 69 85 2) 128 2 11) 69 85 3) 128 3 30) 69 85 4) 128 4 10) 69 85 5) 128 5 11) 69 85 6) 128 6 30) 69 85 7) 128 7 10) 69 85 8) _
  refine Pa.mp 3 (pc' := 45) (l' := [(0, .ref 69), (1, .int 0), (2, .int 1)]) (st' := [.ref 69, .ref 69, .int 1]) (by rfl) ?_
  refine Pa.gfI (v := yc) (by rfl) (by rfl) (.inl rfl) (by rfl) (by show (uI (uI (uI (uI (uI (uI (uI (uI (uI (uI (uI (uI (uI (uI (uI (uI (uI (uI yA 69 85 0) 69 86 yc) 128 0 40) 69 85 1) 128 1 12) 69 85 2) 128 2 11) 69 85 3) 128 3 30) 69 85 4) 128 4 10) 69 85 5) 128 5 11) 69 85 6) 128 6 30) 69 85 7) 128 7 10) 69 85 8).1 69 86 = yc; rw [uI_k (by decide), uI_c (by decide), uI_k (by decide), uI_c (by decide), uI_k (by decide), uI_c (by decide), uI_k (by decide), uI_c (by decide), uI_k (by decide), uI_c (by decide), uI_k (by decide), uI_c (by decide), uI_k (by decide), uI_c (by decide), uI_k (by decide), uI_c (by decide), uI_h]) ?_
  refine Pa.mp 1 (pc' := 49) (l' := [(0, .ref 69), (1, .int 0), (2, .int 1)]) (st' := [.ref 69, .int yc, .ref 69, .int 1]) (by rfl) ?_
  refine Pa.gfI (v := yA.1 69 0) (by rfl) (by rfl) (.inl rfl) (by rfl) (by show (uI (uI (uI (uI (uI (uI (uI (uI (uI (uI (uI (uI (uI (uI (uI (uI (uI (uI yA 69 85 0) 69 86 yc) 128 0 40) 69 85 1) 128 1 12) 69 85 2) 128 2 11) 69 85 3) 128 3 30) 69 85 4) 128 4 10) 69 85 5) 128 5 11) 69 85 6) 128 6 30) 69 85 7) 128 7 10) 69 85 8).1 69 0 = yA.1 69 0; rw [uI_k (by decide), uI_c (by decide), uI_k (by decide), uI_c (by decide), uI_k (by decide), uI_c (by decide), uI_k (by decide), uI_c (by decide), uI_k (by decide), uI_c (by decide), uI_k (by decide), uI_c (by decide), uI_k (by decide), uI_c (by decide), uI_k (by decide), uI_c (by decide), uI_k (by decide), uI_k (by decide)]) ?_
  refine Pa.inv (by rfl) (by rfl) (.inl rfl) (by rfl) ?_
  refine Pa.mono (c_kof N yA (uI (uI (uI (uI (uI (uI (uI (uI (uI (uI (uI (uI (uI (uI (uI (uI (uI (uI yA 69 85 0) 69 86 yc) 128 0 40) 69 85 1) 128 1 12) 69 85 2) 128 2 11) 69 85 3) 128 3 30) 69 85 4) 128 4 10) 69 85 5) 128 5 11) 69 85 6) 128 6 30) 69 85 7) 128 7 10) 69 85 8) yc (yA.1 69 0) (funext fun _ => by repeat rw [uI_c (by decide)]) (funext fun _ => by repeat rw [uI_c (by decide)]) (funext fun _ => by repeat rw [uI_c (by decide)])) (fun yu A1 hu => ?_)
  obtain ⟨rfl, hu⟩ := hu
  rw [hu]
  show Pa N 252 55 [(0, .ref 69), (1, .int 0), (2, .int 1)] [.int (kofM yA yc (yA.1 69 0)), .int 1] (uI (uI (uI (uI (uI (uI (uI (uI (uI (uI (uI (uI (uI (uI (uI (uI (uI (uI yA 69 85 0) 69 86 yc) 128 0 40) 69 85 1) 128 1 12) 69 85 2) 128 2 11) 69 85 3) 128 3 30) 69 85 4) 128 4 10) 69 85 5) 128 5 11) 69 85 6) 128 6 30) 69 85 7) 128 7 10) 69 85 8) _
  refine Pa.mp 1 (pc' := 56) (l' := [(0, .ref 69), (1, .int 0), (2, .int 1)]) (st' := [.int (1 + (kofM yA yc (yA.1 69 0)))]) (by rfl) ?_
  refine Pa.iret (by rfl) ?_
  show Pa N 252 72 [(0, .ref 69), (1, .int 2), (2, .int 1)] [.int (1 + (kofM yA yc (yA.1 69 0)))] (uI (uI (uI (uI (uI (uI (uI (uI (uI (uI (uI (uI (uI (uI (uI (uI (uI (uI yA 69 85 0) 69 86 yc) 128 0 40) 69 85 1) 128 1 12) 69 85 2) 128 2 11) 69 85 3) 128 3 30) 69 85 4) 128 4 10) 69 85 5) 128 5 11) 69 85 6) 128 6 30) 69 85 7) 128 7 10) 69 85 8) _
  refine Pa.ic (x := 4) (pc' := 73) (by rfl) (by rfl) (by decide) ?_
  refine Pa.mp 1 (pc' := 74) (l' := [(0, .ref 69), (1, .int 2), (2, .int 1)]) (st' := [.int ((1 + (kofM yA yc (yA.1 69 0))) - 4)]) (by rfl) ?_
  refine Pa.iret (by rfl) ?_
  show Pa N 252 102 [(0, .ref 69), (1, .int 3), (2, .int 1)] [.int ((1 + (kofM yA yc (yA.1 69 0))) - 4)] (uI (uI (uI (uI (uI (uI (uI (uI (uI (uI (uI (uI (uI (uI (uI (uI (uI (uI yA 69 85 0) 69 86 yc) 128 0 40) 69 85 1) 128 1 12) 69 85 2) 128 2 11) 69 85 3) 128 3 30) 69 85 4) 128 4 10) 69 85 5) 128 5 11) 69 85 6) 128 6 30) 69 85 7) 128 7 10) 69 85 8) _
  refine Pa.iret (by rfl) ?_
  show Pa N 253 64 [(0, .ref 69), (1, .int 0), (2, .int 1)] [.int ((1 + (kofM yA yc (yA.1 69 0))) - 4)] (uI (uI (uI (uI (uI (uI (uI (uI (uI (uI (uI (uI (uI (uI (uI (uI (uI (uI yA 69 85 0) 69 86 yc) 128 0 40) 69 85 1) 128 1 12) 69 85 2) 128 2 11) 69 85 3) 128 3 30) 69 85 4) 128 4 10) 69 85 5) 128 5 11) 69 85 6) 128 6 30) 69 85 7) 128 7 10) 69 85 8) _
  refine Pa.ic (x := 2) (pc' := 65) (by rfl) (by rfl) (by decide) ?_
  refine Pa.mp 1 (pc' := 66) (l' := [(0, .ref 69), (1, .int 0), (2, .int 1)]) (st' := [.int (((1 + (kofM yA yc (yA.1 69 0))) - 4) * 2)]) (by rfl) ?_
  refine Pa.iret (by rfl) ?_
  show Pa N 253 146 [(0, .ref 69), (1, .int 2), (2, .int 1)] [.int (((1 + (kofM yA yc (yA.1 69 0))) - 4) * 2)] (uI (uI (uI (uI (uI (uI (uI (uI (uI (uI (uI (uI (uI (uI (uI (uI (uI (uI yA 69 85 0) 69 86 yc) 128 0 40) 69 85 1) 128 1 12) 69 85 2) 128 2 11) 69 85 3) 128 3 30) 69 85 4) 128 4 10) 69 85 5) 128 5 11) 69 85 6) 128 6 30) 69 85 7) 128 7 10) 69 85 8) _
  refine Pa.iret (by rfl) ?_
  show Pa N 253 146 [(0, .ref 69), (1, .int 3), (2, .int 1)] [.int (((1 + (kofM yA yc (yA.1 69 0))) - 4) * 2)] (uI (uI (uI (uI (uI (uI (uI (uI (uI (uI (uI (uI (uI (uI (uI (uI (uI (uI yA 69 85 0) 69 86 yc) 128 0 40) 69 85 1) 128 1 12) 69 85 2) 128 2 11) 69 85 3) 128 3 30) 69 85 4) 128 4 10) 69 85 5) 128 5 11) 69 85 6) 128 6 30) 69 85 7) 128 7 10) 69 85 8) _
  refine Pa.iret (by rfl) ?_
  show Pa N 254 93 [(3, .int ((((yx + (kofM yA yc (yA.1 69 0))) - 4) * 2) - yc)), (0, .ref 69), (1, .int 3), (2, .int yx)] [.int (((1 + (kofM yA yc (yA.1 69 0))) - 4) * 2), .int ((((yx + (kofM yA yc (yA.1 69 0))) - 4) * 2) - yc)] (uI (uI (uI (uI (uI (uI (uI (uI (uI (uI (uI (uI (uI (uI (uI (uI (uI (uI yA 69 85 0) 69 86 yc) 128 0 40) 69 85 1) 128 1 12) 69 85 2) 128 2 11) 69 85 3) 128 3 30) 69 85 4) 128 4 10) 69 85 5) 128 5 11) 69 85 6) 128 6 30) 69 85 7) 128 7 10) 69 85 8) _
  refine Pa.mp 1 (pc' := 94) (l' := [(3, .int ((((yx + (kofM yA yc (yA.1 69 0))) - 4) * 2) - yc)), (0, .ref 69), (1, .int 3), (2, .int yx)]) (st' := [.int (((((yx + (kofM yA yc (yA.1 69 0))) - 4) * 2) - yc) + (((1 + (kofM yA yc (yA.1 69 0))) - 4) * 2))]) (by rfl) ?_
  refine Pa.iret (by rfl) ?_
  exact l1 h5 h6

theorem bpm2_4 {N : Nat} {yA : AW} {yQ : Option Value → AW → Prop} (yx yc : Int32) (hk : yA.1 89 yc.toInt.toNat = 4)
    (l1 : 0 ≤ yc.toInt → yc.toInt < 150 → yQ (some (.int ((-((yx + (kofM yA yc (yA.1 69 0))) * 2)) - yc))) (uI (uI (uI (uI (uI (uI (uI (uI (uI (uI yA 69 85 0) 69 86 yc) 128 0 12) 69 85 1) 128 1 50) 69 85 2) 128 2 11) 69 85 3) 128 3 10) 69 85 4)) :
    Pa N 254 0 [(0, .ref 69), (1, .int 4), (2, .int yx)] [] (uI (uI yA 69 85 0) 69 86 yc) yQ := by
  refine Pa.mp 1 (pc' := 1) (l' := [(0, .ref 69), (1, .int 4), (2, .int yx)]) (st' := [.int 4]) (by rfl) ?_
  refine Pa.mp 1 (pc' := 113) (l' := [(0, .ref 69), (1, .int 4), (2, .int yx)]) (st' := []) (by rfl) ?_
  refine Pa.mp 2 (pc' := 115) (l' := [(0, .ref 69), (1, .int 4), (2, .int yx)]) (st' := [.int 4, .ref 69]) (by rfl) ?_
  refine Pa.ist (by rfl) (by rfl) (.inl rfl) (by rfl) (by rfl) ?_
  show Pa N 250 0 [(0, .int 4)] [] (uI (uI yA 69 85 0) 69 86 yc) _
  refine Pa.mp 1 (pc' := 1) (l' := [(0, .int 4)]) (st' := [.int 4]) (by rfl) ?_
  refine Pa.ic (x := 5) (pc' := 2) (by rfl) (by rfl) (by decide) ?_
  refine Pa.if2k false (by rfl) (by rfl) (by decide) ?_
  show Pa N 250 5 [(0, .int 4)] [] (uI (uI yA 69 85 0) 69 86 yc) _
  refine Pa.mp 1 (pc' := 6) (l' := [(0, .int 4)]) (st' := [.int 4]) (by rfl) ?_
  refine Pa.ic (x := 3) (pc' := 7) (by rfl) (by rfl) (by decide) ?_
  refine Pa.if2k true (by rfl) (by rfl) (by decide) ?_
  show Pa N 250 14 [(0, .int 4)] [] (uI (uI yA 69 85 0) 69 86 yc) _
  refine Pa.mp 1 (pc' := 15) (l' := [(0, .int 4)]) (st' := [.int 4]) (by rfl) ?_
  refine Pa.ic (x := 6) (pc' := 17) (by rfl) (by rfl) (by decide) ?_
  refine Pa.if2k true (by rfl) (by rfl) (by decide) ?_
  show Pa N 250 24 [(0, .int 4)] [] (uI (uI yA 69 85 0) 69 86 yc) _
  refine Pa.ic (x := 0) (pc' := 25) (by rfl) (by rfl) (by decide) ?_
  refine Pa.iret (by rfl) ?_
  show Pa N 254 118 [(0, .ref 69), (1, .int 4), (2, .int yx)] [.int 0, .ref 69] (uI (uI yA 69 85 0) 69 86 yc) _
  refine Pa.mp 1 (pc' := 119) (l' := [(0, .ref 69), (1, .int 4), (2, .int yx)]) (st' := [.int yx, .int 0, .ref 69]) (by rfl) ?_
  refine Pa.inv (by rfl) (by rfl) (.inl rfl) (by rfl) ?_
  show Pa N 254 0 [(0, .ref 69), (1, .int 0), (2, .int yx)] [] (uI (uI yA 69 85 0) 69 86 yc) _
  refine Pa.mp 1 (pc' := 1) (l' := [(0, .ref 69), (1, .int 0), (2, .int yx)]) (st' := [.int 0]) (by rfl) ?_
  refine Pa.mp 1 (pc' := 36) (l' := [(0, .ref 69), (1, .int 0), (2, .int yx)]) (st' := []) (by rfl) ?_
  refine Pa.mp 1 (pc' := 37) (l' := [(0, .ref 69), (1, .int 0), (2, .int yx)]) (st' := [.ref 69]) (by rfl) ?_
  refine Pa.ic (x := 12) (pc' := 39) (by rfl) (by rfl) (by decide) ?_
  refine Pa.inv (by rfl) (by rfl) (.inl rfl) (by rfl) ?_
  show Pa N 251 0 [(0, .ref 69), (1, .int 12)] [] (uI (uI yA 69 85 0) 69 86 yc) _
  refine Pa.mp 1 (pc' := 1) (l' := [(0, .ref 69), (1, .int 12)]) (st' := [.ref 69]) (by rfl) ?_
  refine Pa.gfI (v := 0) (by rfl) (by rfl) (.inl rfl) (by rfl) (by show (uI (uI yA 69 85 0) 69 86 yc).1 69 85 = 0; rw [uI_k (by decide), uI_h]) ?_
  refine Pa.ic (x := 24) (pc' := 6) (by rfl) (by rfl) (by decide) ?_
  refine Pa.if2k false (by rfl) (by rfl) (by decide) ?_
  show Pa N 251 9 [(0, .ref 69), (1, .int 12)] [] (uI (uI yA 69 85 0) 69 86 yc) _
  refine Pa.mp 1 (pc' := 10) (l' := [(0, .ref 69), (1, .int 12)]) (st' := [.ref 69]) (by rfl) ?_
  refine Pa.gfR (by rfl) (by rfl) (.inl rfl) (by rfl) ?_
  show Pa N 251 13 [(0, .ref 69), (1, .int 12)] [.ref 128] (uI (uI yA 69 85 0) 69 86 yc) _
  refine Pa.mp 1 (pc' := 14) (l' := [(0, .ref 69), (1, .int 12)]) (st' := [.ref 69, .ref 128]) (by rfl) ?_
  refine Pa.gfI (v := 0) (by rfl) (by rfl) (.inl rfl) (by rfl) (by show (uI (uI yA 69 85 0) 69 86 yc).1 69 85 = 0; rw [uI_k (by decide), uI_h]) ?_
  refine Pa.mp 1 (pc' := 18) (l' := [(0, .ref 69), (1, .int 12)]) (st' := [.int 12, .int 0, .ref 128]) (by rfl) ?_
  refine Pa.asts (j' := 0) (by rfl) (by rfl) (by rfl) (fun h1 h2 => ?_)
  show Pa N 251 19 [(0, .ref 69), (1, .int 12)] [] (uI (uI (uI yA 69 85 0) 69 86 yc) 128 0 12) _
  refine Pa.mp 2 (pc' := 21) (l' := [(0, .ref 69), (1, .int 12)]) (st' := [.ref 69, .ref 69]) (by rfl) ?_
  refine Pa.gfI (v := 0) (by rfl) (by rfl) (.inl rfl) (by rfl) (by show (uI (uI (uI yA 69 85 0) 69 86 yc) 128 0 12).1 69 85 = 0; rw [uI_c (by decide), uI_k (by decide), uI_h]) ?_
  refine Pa.ic (x := 1) (pc' := 25) (by rfl) (by rfl) (by decide) ?_
  refine Pa.mp 1 (pc' := 26) (l' := [(0, .ref 69), (1, .int 12)]) (st' := [.int 1, .ref 69]) (by rfl) ?_
  refine Pa.pfI (by rfl) (by rfl) (.inl rfl) (by rfl) ?_
  show Pa N 251 29 [(0, .ref 69), (1, .int 12)] [] (uI (uI (uI (uI yA 69 85 0) 69 86 yc) 128 0 12) 69 85 1) _
  refine Pa.vret (by rfl) ?_
  show Pa N 254 42 [(0, .ref 69), (1, .int 0), (2, .int yx)] [] (uI (uI (uI (uI yA 69 85 0) 69 86 yc) 128 0 12) 69 85 1) _
  refine Pa.mp 2 (pc' := 44) (l' := [(0, .ref 69), (1, .int 0), (2, .int yx)]) (st' := [.ref 69, .ref 69]) (by rfl) ?_
  refine Pa.gfR (by rfl) (by rfl) (.inl rfl) (by rfl) ?_
  show Pa N 254 47 [(0, .ref 69), (1, .int 0), (2, .int yx)] [.ref 89, .ref 69] (uI (uI (uI (uI yA 69 85 0) 69 86 yc) 128 0 12) 69 85 1) _
  refine Pa.mp 1 (pc' := 48) (l' := [(0, .ref 69), (1, .int 0), (2, .int yx)]) (st' := [.ref 69, .ref 89, .ref 69]) (by rfl) ?_
  refine Pa.gfI (v := yc) (by rfl) (by rfl) (.inl rfl) (by rfl) (by show (uI (uI (uI (uI yA 69 85 0) 69 86 yc) 128 0 12) 69 85 1).1 69 86 = yc; rw [uI_k (by decide), uI_c (by decide), uI_h]) ?_
  refine Pa.alds (v := 4) (by rfl) (by rfl) (by show (uI (uI (uI (uI yA 69 85 0) 69 86 yc) 128 0 12) 69 85 1).1 89 yc.toInt.toNat = 4; rw [uI_c (by decide), uI_c (by decide), uI_c (by decide), uI_c (by decide), hk]) (fun h3 h4 => ?_)
  have h3 : 0 ≤ yc.toInt := h3
  have h4 : yc.toInt < 150 := h4
  refine Pa.mp 1 (pc' := 53) (l' := [(0, .ref 69), (1, .int 0), (2, .int yx)]) (st' := [.int yx, .int 4, .ref 69]) (by rfl) ?_
  refine Pa.inv (by rfl) (by rfl) (.inl rfl) (by rfl) ?_
  show Pa N 253 0 [(0, .ref 69), (1, .int 4), (2, .int yx)] [] (uI (uI (uI (uI yA 69 85 0) 69 86 yc) 128 0 12) 69 85 1) _
  refine Pa.mp 1 (pc' := 1) (l' := [(0, .ref 69), (1, .int 4), (2, .int yx)]) (st' := [.int 4]) (by rfl) ?_
  refine Pa.mp 1 (pc' := 86) (l' := [(0, .ref 69), (1, .int 4), (2, .int yx)]) (st' := []) (by rfl) ?_
  refine Pa.mp 1 (pc' := 87) (l' := [(0, .ref 69), (1, .int 4), (2, .int yx)]) (st' := [.ref 69]) (by rfl) ?_
  refine Pa.ic (x := 50) (pc' := 89) (by rfl) (by rfl) (by decide) ?_
  refine Pa.inv (by rfl) (by rfl) (.inl rfl) (by rfl) ?_
  show Pa N 251 0 [(0, .ref 69), (1, .int 50)] [] (uI (uI (uI (uI yA 69 85 0) 69 86 yc) 128 0 12) 69 85 1) _
  refine Pa.mp 1 (pc' := 1) (l' := [(0, .ref 69), (1, .int 50)]) (st' := [.ref 69]) (by rfl) ?_
  refine Pa.gfI (v := 1) (by rfl) (by rfl) (.inl rfl) (by rfl) (by show (uI (uI (uI (uI yA 69 85 0) 69 86 yc) 128 0 12) 69 85 1).1 69 85 = 1; rw [uI_h]) ?_
  refine Pa.ic (x := 24) (pc' := 6) (by rfl) (by rfl) (by decide) ?_
  refine Pa.if2k false (by rfl) (by rfl) (by decide) ?_
  show Pa N 251 9 [(0, .ref 69), (1, .int 50)] [] (uI (uI (uI (uI yA 69 85 0) 69 86 yc) 128 0 12) 69 85 1) _
  refine Pa.mp 1 (pc' := 10) (l' := [(0, .ref 69), (1, .int 50)]) (st' := [.ref 69]) (by rfl) ?_
  refine Pa.gfR (by rfl) (by rfl) (.inl rfl) (by rfl) ?_
  show Pa N 251 13 [(0, .ref 69), (1, .int 50)] [.ref 128] (uI (uI (uI (uI yA 69 85 0) 69 86 yc) 128 0 12) 69 85 1) _
  refine Pa.mp 1 (pc' := 14) (l' := [(0, .ref 69), (1, .int 50)]) (st' := [.ref 69, .ref 128]) (by rfl) ?_
  refine Pa.gfI (v := 1) (by rfl) (by rfl) (.inl rfl) (by rfl) (by show (uI (uI (uI (uI yA 69 85 0) 69 86 yc) 128 0 12) 69 85 1).1 69 85 = 1; rw [uI_h]) ?_
  refine Pa.mp 1 (pc' := 18) (l' := [(0, .ref 69), (1, .int 50)]) (st' := [.int 50, .int 1, .ref 128]) (by rfl) ?_
  refine Pa.asts (j' := 1) (by rfl) (by rfl) (by rfl) (fun h5 h6 => ?_)
  show Pa N 251 19 [(0, .ref 69), (1, .int 50)] [] (uI (uI (uI (uI (uI yA 69 85 0) 69 86 yc) 128 0 12) 69 85 1) 128 1 50) _
  refine Pa.mp 2 (pc' := 21) (l' := [(0, .ref 69), (1, .int 50)]) (st' := [.ref 69, .ref 69]) (by rfl) ?_
  refine Pa.gfI (v := 1) (by rfl) (by rfl) (.inl rfl) (by rfl) (by show (uI (uI (uI (uI (uI yA 69 85 0) 69 86 yc) 128 0 12) 69 85 1) 128 1 50).1 69 85 = 1; rw [uI_c (by decide), uI_h]) ?_
  refine Pa.ic (x := 1) (pc' := 25) (by rfl) (by rfl) (by decide) ?_
  refine Pa.mp 1 (pc' := 26) (l' := [(0, .ref 69), (1, .int 50)]) (st' := [.int 2, .ref 69]) (by rfl) ?_
  refine Pa.pfI (by rfl) (by rfl) (.inl rfl) (by rfl) ?_
  show Pa N 251 29 [(0, .ref 69), (1, .int 50)] [] (uI (uI (uI (uI (uI (uI yA 69 85 0) 69 86 yc) 128 0 12) 69 85 1) 128 1 50) 69 85 2) _
  refine Pa.vret (by rfl) ?_
  show Pa N 253 92 [(0, .ref 69), (1, .int 4), (2, .int yx)] [] (uI (uI (uI (uI (uI (uI yA 69 85 0) 69 86 yc) 128 0 12) 69 85 1) 128 1 50) 69 85 2) _
  refine Pa.mp 1 (pc' := 93) (l' := [(0, .ref 69), (1, .int 4), (2, .int yx)]) (st' := [.ref 69]) (by rfl) ?_
  refine Pa.ic (x := 4) (pc' := 94) (by rfl) (by rfl) (by decide) ?_
  refine Pa.ist (by rfl) (by rfl) (.inl rfl) (by rfl) (by rfl) ?_
  show Pa N 250 0 [(0, .int 4)] [] (uI (uI (uI (uI (uI (uI yA 69 85 0) 69 86 yc) 128 0 12) 69 85 1) 128 1 50) 69 85 2) _
  refine Pa.mp 1 (pc' := 1) (l' := [(0, .int 4)]) (st' := [.int 4]) (by rfl) ?_
  refine Pa.ic (x := 5) (pc' := 2) (by rfl) (by rfl) (by decide) ?_
  refine Pa.if2k false (by rfl) (by rfl) (by decide) ?_
  show Pa N 250 5 [(0, .int 4)] [] (uI (uI (uI (uI (uI (uI yA 69 85 0) 69 86 yc) 128 0 12) 69 85 1) 128 1 50) 69 85 2) _
  refine Pa.mp 1 (pc' := 6) (l' := [(0, .int 4)]) (st' := [.int 4]) (by rfl) ?_
  refine Pa.ic (x := 3) (pc' := 7) (by rfl) (by rfl) (by decide) ?_
  refine Pa.if2k true (by rfl) (by rfl) (by decide) ?_
  show Pa N 250 14 [(0, .int 4)] [] (uI (uI (uI (uI (uI (uI yA 69 85 0) 69 86 yc) 128 0 12) 69 85 1) 128 1 50) 69 85 2) _
  refine Pa.mp 1 (pc' := 15) (l' := [(0, .int 4)]) (st' := [.int 4]) (by rfl) ?_
  refine Pa.ic (x := 6) (pc' := 17) (by rfl) (by rfl) (by decide) ?_
  refine Pa.if2k true (by rfl) (by rfl) (by decide) ?_
  show Pa N 250 24 [(0, .int 4)] [] (uI (uI (uI (uI (uI (uI yA 69 85 0) 69 86 yc) 128 0 12) 69 85 1) 128 1 50) 69 85 2) _
  refine Pa.ic (x := 0) (pc' := 25) (by rfl) (by rfl) (by decide) ?_
  refine Pa.iret (by rfl) ?_
  show Pa N 253 97 [(0, .ref 69), (1, .int 4), (2, .int yx)] [.int 0, .ref 69] (uI (uI (uI (uI (uI (uI yA 69 85 0) 69 86 yc) 128 0 12) 69 85 1) 128 1 50) 69 85 2) _
  refine Pa.mp 1 (pc' := 98) (l' := [(0, .ref 69), (1, .int 4), (2, .int yx)]) (st' := [.int yx, .int 0, .ref 69]) (by rfl) ?_
  refine Pa.inv (by rfl) (by rfl) (.inl rfl) (by rfl) ?_
  show Pa N 253 0 [(0, .ref 69), (1, .int 0), (2, .int yx)] [] (uI (uI (uI (uI (uI (uI yA 69 85 0) 69 86 yc) 128 0 12) 69 85 1) 128 1 50) 69 85 2) _
  refine Pa.mp 1 (pc' := 1) (l' := [(0, .ref 69), (1, .int 0), (2, .int yx)]) (st' := [.int 0]) (by rfl) ?_
  refine Pa.mp 1 (pc' := 44) (l' := [(0, .ref 69), (1, .int 0), (2, .int yx)]) (st' := []) (by rfl) ?_
  refine Pa.mp 1 (pc' := 45) (l' := [(0, .ref 69), (1, .int 0), (2, .int yx)]) (st' := [.ref 69]) (by rfl) ?_
  refine Pa.ic (x := 11) (pc' := 47) (by rfl) (by rfl) (by decide) ?_
  refine Pa.inv (by rfl) (by rfl) (.inl rfl) (by rfl) ?_
  show Pa N 251 0 [(0, .ref 69), (1, .int 11)] [] (uI (uI (uI (uI (uI (uI yA 69 85 0) 69 86 yc) 128 0 12) 69 85 1) 128 1 50) 69 85 2) _
  refine Pa.mp 1 (pc' := 1) (l' := [(0, .ref 69), (1, .int 11)]) (st' := [.ref 69]) (by rfl) ?_
  refine Pa.gfI (v := 2) (by rfl) (by rfl) (.inl rfl) (by rfl) (by show (uI (uI (uI (uI (uI (uI yA 69 85 0) 69 86 yc) 128 0 12) 69 85 1) 128 1 50) 69 85 2).1 69 85 = 2; rw [uI_h]) ?_
  refine Pa.ic (x := 24) (pc' := 6) (by rfl) (by rfl) (by decide) ?_
  refine Pa.if2k false (by rfl) (by rfl) (by decide) ?_
  show Pa N 251 9 [(0, .ref 69), (1, .int 11)] [] (uI (uI (uI (uI (uI (uI yA 69 85 0) 69 86 yc) 128 0 12) 69 85 1) 128 1 50) 69 85 2) _
  refine Pa.mp 1 (pc' := 10) (l' := [(0, .ref 69), (1, .int 11)]) (st' := [.ref 69]) (by rfl) ?_
  refine Pa.gfR (by rfl) (by rfl) (.inl rfl) (by rfl) ?_
  show Pa N 251 13 [(0, .ref 69), (1, .int 11)] [.ref 128] (uI (uI (uI (uI (uI (uI yA 69 85 0) 69 86 yc) 128 0 12) 69 85 1) 128 1 50) 69 85 2) _
  refine Pa.mp 1 (pc' := 14) (l' := [(0, .ref 69), (1, .int 11)]) (st' := [.ref 69, .ref 128]) (by rfl) ?_
  refine Pa.gfI (v := 2) (by rfl) (by rfl) (.inl rfl) (by rfl) (by show (uI (uI (uI (uI (uI (uI yA 69 85 0) 69 86 yc) 128 0 12) 69 85 1) 128 1 50) 69 85 2).1 69 85 = 2; rw [uI_h]) ?_
  refine Pa.mp 1 (pc' := 18) (l' := [(0, .ref 69), (1, .int 11)]) (st' := [.int 11, .int 2, .ref 128]) (by rfl) ?_
  refine Pa.asts (j' := 2) (by rfl) (by rfl) (by rfl) (fun h7 h8 => ?_)
  show Pa N 251 19 [(0, .ref 69), (1, .int 11)] [] (uI (uI (uI (uI (uI (uI (uI yA 69 85 0) 69 86 yc) 128 0 12) 69 85 1) 128 1 50) 69 85 2) 128 2 11) _
  refine Pa.mp 2 (pc' := 21) (l' := [(0, .ref 69), (1, .int 11)]) (st' := [.ref 69, .ref 69]) (by rfl) ?_
  refine Pa.gfI (v := 2) (by rfl) (by rfl) (.inl rfl) (by rfl) (by show (uI (uI (uI (uI (uI (uI (uI yA 69 85 0) 69 86 yc) 128 0 12) 69 85 1) 128 1 50) 69 85 2) 128 2 11).1 69 85 = 2; rw [uI_c (by decide), uI_h]) ?_
  refine Pa.ic (x := 1) (pc' := 25) (by rfl) (by rfl) (by decide) ?_
  refine Pa.mp 1 (pc' := 26) (l' := [(0, .ref 69), (1, .int 11)]) (st' := [.int 3, .ref 69]) (by rfl) ?_
  refine Pa.pfI (by rfl) (by rfl) (.inl rfl) (by rfl) ?_
  show Pa N 251 29 [(0, .ref 69), (1, .int 11)] [] (uI (uI (uI (uI (uI (uI (uI (uI yA 69 85 0) 69 86 yc) 128 0 12) 69 85 1) 128 1 50) 69 85 2) 128 2 11) 69 85 3) _
  refine Pa.vret (by rfl) ?_
  show Pa N 253 50 [(0, .ref 69), (1, .int 0), (2, .int yx)] [] (uI (uI (uI (uI (uI (uI (uI (uI yA 69 85 0) 69 86 yc) 128 0 12) 69 85 1) 128 1 50) 69 85 2) 128 2 11) 69 85 3) _
  refine Pa.mp 2 (pc' := 52) (l' := [(0, .ref 69), (1, .int 0), (2, .int yx)]) (st' := [.ref 69, .ref 69]) (by rfl) ?_
  refine Pa.gfR (by rfl) (by rfl) (.inl rfl) (by rfl) ?_
  show Pa N 253 55 [(0, .ref 69), (1, .int 0), (2, .int yx)] [.ref 89, .ref 69] (uI (uI (uI (uI (uI (uI (uI (uI yA 69 85 0) 69 86 yc) 128 0 12) 69 85 1) 128 1 50) 69 85 2) 128 2 11) 69 85 3) _
  refine Pa.mp 1 (pc' := 56) (l' := [(0, .ref 69), (1, .int 0), (2, .int yx)]) (st' := [.ref 69, .ref 89, .ref 69]) (by rfl) ?_
  refine Pa.gfI (v := yc) (by rfl) (by rfl) (.inl rfl) (by rfl) (by show (uI (uI (uI (uI (uI (uI (uI (uI yA 69 85 0) 69 86 yc) 128 0 12) 69 85 1) 128 1 50) 69 85 2) 128 2 11) 69 85 3).1 69 86 = yc; rw [uI_k (by decide), uI_c (by decide), uI_k (by decide), uI_c (by decide), uI_k (by decide), uI_c (by decide), uI_h]) ?_
  refine Pa.alds (v := 4) (by rfl) (by rfl) (by show (uI (uI (uI (uI (uI (uI (uI (uI yA 69 85 0) 69 86 yc) 128 0 12) 69 85 1) 128 1 50) 69 85 2) 128 2 11) 69 85 3).1 89 yc.toInt.toNat = 4; rw [uI_c (by decide), uI_c (by decide), uI_c (by decide), uI_c (by decide), uI_c (by decide), uI_c (by decide), uI_c (by decide), uI_c (by decide), hk]) (fun h9 h10 => ?_)
  have h9 : 0 ≤ yc.toInt := h9
  have h10 : yc.toInt < 150 := h10
  refine Pa.mp 1 (pc' := 61) (l' := [(0, .ref 69), (1, .int 0), (2, .int yx)]) (st' := [.int yx, .int 4, .ref 69]) (by rfl) ?_
  refine Pa.inv (by rfl) (by rfl) (.inl rfl) (by rfl) ?_
  show Pa N 252 0 [(0, .ref 69), (1, .int 4), (2, .int yx)] [] (uI (uI (uI (uI (uI (uI (uI (uI yA 69 85 0) 69 86 yc) 128 0 12) 69 85 1) 128 1 50) 69 85 2) 128 2 11) 69 85 3) _
  refine Pa.mp 1 (pc' := 1) (l' := [(0, .ref 69), (1, .int 4), (2, .int yx)]) (st' := [.int 4]) (by rfl) ?_
  refine Pa.mp 1 (pc' := 93) (l' := [(0, .ref 69), (1, .int 4), (2, .int yx)]) (st' := []) (by rfl) ?_
  refine Pa.mp 2 (pc' := 95) (l' := [(0, .ref 69), (1, .int 4), (2, .int yx)]) (st' := [.int 4, .ref 69]) (by rfl) ?_
  refine Pa.ist (by rfl) (by rfl) (.inl rfl) (by rfl) (by rfl) ?_
  show Pa N 250 0 [(0, .int 4)] [] (uI (uI (uI (uI (uI (uI (uI (uI yA 69 85 0) 69 86 yc) 128 0 12) 69 85 1) 128 1 50) 69 85 2) 128 2 11) 69 85 3) _
  refine Pa.mp 1 (pc' := 1) (l' := [(0, .int 4)]) (st' := [.int 4]) (by rfl) ?_
  refine Pa.ic (x := 5) (pc' := 2) (by rfl) (by rfl) (by decide) ?_
  refine Pa.if2k false (by rfl) (by rfl) (by decide) ?_
  show Pa N 250 5 [(0, .int 4)] [] (uI (uI (uI (uI (uI (uI (uI (uI yA 69 85 0) 69 86 yc) 128 0 12) 69 85 1) 128 1 50) 69 85 2) 128 2 11) 69 85 3) _
  refine Pa.mp 1 (pc' := 6) (l' := [(0, .int 4)]) (st' := [.int 4]) (by rfl) ?_
  refine Pa.ic (x := 3) (pc' := 7) (by rfl) (by rfl) (by decide) ?_
  refine Pa.if2k true (by rfl) (by rfl) (by decide) ?_
  show Pa N 250 14 [(0, .int 4)] [] (uI (uI (uI (uI (uI (uI (uI (uI yA 69 85 0) 69 86 yc) 128 0 12) 69 85 1) 128 1 50) 69 85 2) 128 2 11) 69 85 3) _
  refine Pa.mp 1 (pc' := 15) (l' := [(0, .int 4)]) (st' := [.int 4]) (by rfl) ?_
  refine Pa.ic (x := 6) (pc' := 17) (by rfl) (by rfl) (by decide) ?_
  refine Pa.if2k true (by rfl) (by rfl) (by decide) ?_
  show Pa N 250 24 [(0, .int 4)] [] (uI (uI (uI (uI (uI (uI (uI (uI yA 69 85 0) 69 86 yc) 128 0 12) 69 85 1) 128 1 50) 69 85 2) 128 2 11) 69 85 3) _
  refine Pa.ic (x := 0) (pc' := 25) (by rfl) (by rfl) (by decide) ?_
  refine Pa.iret (by rfl) ?_
  show Pa N 252 98 [(0, .ref 69), (1, .int 4), (2, .int yx)] [.int 0, .ref 69] (uI (uI (uI (uI (uI (uI (uI (uI yA 69 85 0) 69 86 yc) 128 0 12) 69 85 1) 128 1 50) 69 85 2) 128 2 11) 69 85 3) _
  refine Pa.mp 1 (pc' := 99) (l' := [(0, .ref 69), (1, .int 4), (2, .int yx)]) (st' := [.int yx, .int 0, .ref 69]) (by rfl) ?_
  refine Pa.inv (by rfl) (by rfl) (.inl rfl) (by rfl) ?_
  show Pa N 252 0 [(0, .ref 69), (1, .int 0), (2, .int yx)] [] (uI (uI (uI (uI (uI (uI (uI (uI yA 69 85 0) 69 86 yc) 128 0 12) 69 85 1) 128 1 50) 69 85 2) 128 2 11) 69 85 3) _
  refine Pa.mp 1 (pc' := 1) (l' := [(0, .ref 69), (1, .int 0), (2, .int yx)]) (st' := [.int 0]) (by rfl) ?_
  refine Pa.mp 1 (pc' := 36) (l' := [(0, .ref 69), (1, .int 0), (2, .int yx)]) (st' := []) (by rfl) ?_
  refine Pa.mp 1 (pc' := 37) (l' := [(0, .ref 69), (1, .int 0), (2, .int yx)]) (st' := [.ref 69]) (by rfl) ?_
  refine Pa.ic (x := 10) (pc' := 39) (by rfl) (by rfl) (by decide) ?_
  refine Pa.inv (by rfl) (by rfl) (.inl rfl) (by rfl) ?_
  show Pa N 251 0 [(0, .ref 69), (1, .int 10)] [] (uI (uI (uI (uI (uI (uI (uI (uI yA 69 85 0) 69 86 yc) 128 0 12) 69 85 1) 128 1 50) 69 85 2) 128 2 11) 69 85 3) _
  refine Pa.mp 1 (pc' := 1) (l' := [(0, .ref 69), (1, .int 10)]) (st' := [.ref 69]) (by rfl) ?_
  refine Pa.gfI (v := 3) (by rfl) (by rfl) (.inl rfl) (by rfl) (by show (uI (uI (uI (uI (uI (uI (uI (uI yA 69 85 0) 69 86 yc) 128 0 12) 69 85 1) 128 1 50) 69 85 2) 128 2 11) 69 85 3).1 69 85 = 3; rw [uI_h]) ?_
  refine Pa.ic (x := 24) (pc' := 6) (by rfl) (by rfl) (by decide) ?_
  refine Pa.if2k false (by rfl) (by rfl) (by decide) ?_
  show Pa N 251 9 [(0, .ref 69), (1, .int 10)] [] (uI (uI (uI (uI (uI (uI (uI (uI yA 69 85 0) 69 86 yc) 128 0 12) 69 85 1) 128 1 50) 69 85 2) 128 2 11) 69 85 3) _
  refine Pa.mp 1 (pc' := 10) (l' := [(0, .ref 69), (1, .int 10)]) (st' := [.ref 69]) (by rfl) ?_
  refine Pa.gfR (by rfl) (by rfl) (.inl rfl) (by rfl) ?_
  show Pa N 251 13 [(0, .ref 69), (1, .int 10)] [.ref 128] (uI (uI (uI (uI (uI (uI (uI (uI yA 69 85 0) 69 86 yc) 128 0 12) 69 85 1) 128 1 50) 69 85 2) 128 2 11) 69 85 3) _
  refine Pa.mp 1 (pc' := 14) (l' := [(0, .ref 69), (1, .int 10)]) (st' := [.ref 69, .ref 128]) (by rfl) ?_
  refine Pa.gfI (v := 3) (by rfl) (by rfl) (.inl rfl) (by rfl) (by show (uI (uI (uI (uI (uI (uI (uI (uI yA 69 85 0) 69 86 yc) 128 0 12) 69 85 1) 128 1 50) 69 85 2) 128 2 11) 69 85 3).1 69 85 = 3; rw [uI_h]) ?_
  refine Pa.mp 1 (pc' := 18) (l' := [(0, .ref 69), (1, .int 10)]) (st' := [.int 10, .int 3, .ref 128]) (by rfl) ?_
  refine Pa.asts (j' := 3) (by rfl) (by rfl) (by rfl) (fun h11 h12 => ?_)
  show Pa N 251 19 [(0, .ref 69), (1, .int 10)] [] (uI (uI (uI (uI (uI (uI (uI (uI (uI yA 69 85 0) 69 86 yc) 128 0 12) 69 85 1) 128 1 50) 69 85 2) 128 2 11) 69 85 3) 128 3 10) _
  refine Pa.mp 2 (pc' := 21) (l' := [(0, .ref 69), (1, .int 10)]) (st' := [.ref 69, .ref 69]) (by rfl) ?_
  refine Pa.gfI (v := 3) (by rfl) (by rfl) (.inl rfl) (by rfl) (by show (uI (uI (uI (uI (uI (uI (uI (uI (uI yA 69 85 0) 69 86 yc) 128 0 12) 69 85 1) 128 1 50) 69 85 2) 128 2 11) 69 85 3) 128 3 10).1 69 85 = 3; rw [uI_c (by decide), uI_h]) ?_
  refine Pa.ic (x := 1) (pc' := 25) (by rfl) (by rfl) (by decide) ?_
  refine Pa.mp 1 (pc' := 26) (l' := [(0, .ref 69), (1, .int 10)]) (st' := [.int 4, .ref 69]) (by rfl) ?_
  refine Pa.pfI (by rfl) (by rfl) (.inl rfl) (by rfl) ?_
  show Pa N 251 29 [(0, .ref 69), (1, .int 10)] [] (uI (uI (uI (uI (uI (uI (uI (uI (uI (uI yA 69 85 0) 69 86 yc) 128 0 12) 69 85 1) 128 1 50) 69 85 2) 128 2 11) 69 85 3) 128 3 10) 69 85 4) _
  refine Pa.vret (by rfl) ?_
  show Pa N 252 42 [(0, .ref 69), (1, .int 0), (2, .int yx)] [] (uI (uI (uI (uI (uI (uI (uI (uI (uI (uI yA 69 85 0) 69 86 yc) 128 0 12) 69 85 1) 128 1 50) 69 85 2) 128 2 11) 69 85 3) 128 3 10) 69 85 4) _
  refine Pa.mp 3 (pc' := 45) (l' := [(0, .ref 69), (1, .int 0), (2, .int yx)]) (st' := [.ref 69, .ref 69, .int yx]) (by rfl) ?_
  refine Pa.gfI (v := yc) (by rfl) (by rfl) (.inl rfl) (by rfl) (by show (uI (uI (uI (uI (uI (uI (uI (uI (uI (uI yA 69 85 0) 69 86 yc) 128 0 12) 69 85 1) 128 1 50) 69 85 2) 128 2 11) 69 85 3) 128 3 10) 69 85 4).1 69 86 = yc; rw [uI_k (by decide), uI_c (by decide), uI_k (by decide), uI_c (by decide), uI_k (by decide), uI_c (by decide), uI_k (by decide), uI_c (by decide), uI_h]) ?_
  refine Pa.mp 1 (pc' := 49) (l' := [(0, .ref 69), (1, .int 0), (2, .int yx)]) (st' := [.ref 69, .int yc, .ref 69, .int yx]) (by rfl) ?_
  refine Pa.gfI (v := yA.1 69 0) (by rfl) (by rfl) (.inl rfl) (by rfl) (by show (uI (uI (uI (uI (uI (uI (uI (uI (uI (uI yA 69 85 0) 69 86 yc) 128 0 12) 69 85 1) 128 1 50) 69 85 2) 128 2 11) 69 85 3) 128 3 10) 69 85 4).1 69 0 = yA.1 69 0; rw [uI_k (by decide), uI_c (by decide), uI_k (by decide), uI_c (by decide), uI_k (by decide), uI_c (by decide), uI_k (by decide), uI_c (by decide), uI_k (by decide), uI_k (by decide)]) ?_
  refine Pa.inv (by rfl) (by rfl) (.inl rfl) (by rfl) ?_
  refine Pa.mono (c_kof N yA (uI (uI (uI (uI (uI (uI (uI (uI (uI (uI yA 69 85 0) 69 86 yc) 128 0 12) 69 85 1) 128 1 50) 69 85 2) 128 2 11) 69 85 3) 128 3 10) 69 85 4) yc (yA.1 69 0) (funext fun _ => by repeat rw [uI_c (by decide)]) (funext fun _ => by repeat rw [uI_c (by decide)]) (funext fun _ => by repeat rw [uI_c (by decide)])) (fun yu A1 hu => ?_)
  obtain ⟨rfl, hu⟩ := hu
  rw [hu]
  show Pa N 252 55 [(0, .ref 69), (1, .int 0), (2, .int yx)] [.int (kofM yA yc (yA.1 69 0)), .int yx] (uI (uI (uI (uI (uI (uI (uI (uI (uI (uI yA 69 85 0) 69 86 yc) 128 0 12) 69 85 1) 128 1 50) 69 85 2) 128 2 11) 69 85 3) 128 3 10) 69 85 4) _
  refine Pa.mp 1 (pc' := 56) (l' := [(0, .ref 69), (1, .int 0), (2, .int yx)]) (st' := [.int (yx + (kofM yA yc (yA.1 69 0)))]) (by rfl) ?_
  refine Pa.iret (by rfl) ?_
  show Pa N 252 102 [(0, .ref 69), (1, .int 4), (2, .int yx)] [.int (yx + (kofM yA yc (yA.1 69 0)))] (uI (uI (uI (uI (uI (uI (uI (uI (uI (uI yA 69 85 0) 69 86 yc) 128 0 12) 69 85 1) 128 1 50) 69 85 2) 128 2 11) 69 85 3) 128 3 10) 69 85 4) _
  refine Pa.iret (by rfl) ?_
  show Pa N 253 64 [(0, .ref 69), (1, .int 0), (2, .int yx)] [.int (yx + (kofM yA yc (yA.1 69 0)))] (uI (uI (uI (uI (uI (uI (uI (uI (uI (uI yA 69 85 0) 69 86 yc) 128 0 12) 69 85 1) 128 1 50) 69 85 2) 128 2 11) 69 85 3) 128 3 10) 69 85 4) _
  refine Pa.ic (x := 2) (pc' := 65) (by rfl) (by rfl) (by decide) ?_
  refine Pa.mp 1 (pc' := 66) (l' := [(0, .ref 69), (1, .int 0), (2, .int yx)]) (st' := [.int ((yx + (kofM yA yc (yA.1 69 0))) * 2)]) (by rfl) ?_
  refine Pa.iret (by rfl) ?_
  show Pa N 253 101 [(0, .ref 69), (1, .int 4), (2, .int yx)] [.int ((yx + (kofM yA yc (yA.1 69 0))) * 2)] (uI (uI (uI (uI (uI (uI (uI (uI (uI (uI yA 69 85 0) 69 86 yc) 128 0 12) 69 85 1) 128 1 50) 69 85 2) 128 2 11) 69 85 3) 128 3 10) 69 85 4) _
  refine Pa.mp 1 (pc' := 102) (l' := [(0, .ref 69), (1, .int 4), (2, .int yx)]) (st' := [.int (-((yx + (kofM yA yc (yA.1 69 0))) * 2))]) (by rfl) ?_
  refine Pa.iret (by rfl) ?_
  show Pa N 254 56 [(0, .ref 69), (1, .int 0), (2, .int yx)] [.int (-((yx + (kofM yA yc (yA.1 69 0))) * 2))] (uI (uI (uI (uI (uI (uI (uI (uI (uI (uI yA 69 85 0) 69 86 yc) 128 0 12) 69 85 1) 128 1 50) 69 85 2) 128 2 11) 69 85 3) 128 3 10) 69 85 4) _
  refine Pa.mp 1 (pc' := 57) (l' := [(0, .ref 69), (1, .int 0), (2, .int yx)]) (st' := [.ref 69, .int (-((yx + (kofM yA yc (yA.1 69 0))) * 2))]) (by rfl) ?_
  refine Pa.gfI (v := yc) (by rfl) (by rfl) (.inl rfl) (by rfl) (by show (uI (uI (uI (uI (uI (uI (uI (uI (uI (uI yA 69 85 0) 69 86 yc) 128 0 12) 69 85 1) 128 1 50) 69 85 2) 128 2 11) 69 85 3) 128 3 10) 69 85 4).1 69 86 = yc; rw [uI_k (by decide), uI_c (by decide), uI_k (by decide), uI_c (by decide), uI_k (by decide), uI_c (by decide), uI_k (by decide), uI_c (by decide), uI_h]) ?_
  refine Pa.mp 1 (pc' := 61) (l' := [(0, .ref 69), (1, .int 0), (2, .int yx)]) (st' := [.int ((-((yx + (kofM yA yc (yA.1 69 0))) * 2)) - yc)]) (by rfl) ?_
  refine Pa.iret (by rfl) ?_
  show Pa N 254 122 [(0, .ref 69), (1, .int 4), (2, .int yx)] [.int ((-((yx + (kofM yA yc (yA.1 69 0))) * 2)) - yc)] (uI (uI (uI (uI (uI (uI (uI (uI (uI (uI yA 69 85 0) 69 86 yc) 128 0 12) 69 85 1) 128 1 50) 69 85 2) 128 2 11) 69 85 3) 128 3 10) 69 85 4) _
  refine Pa.iret (by rfl) ?_
  exact l1 h3 h4

theorem bpm2_5 {N : Nat} {yA : AW} {yQ : Option Value → AW → Prop} (yx yc : Int32) (hk : yA.1 89 yc.toInt.toNat = 5)
    (l1 : 0 ≤ yc.toInt → yc.toInt < 150 → yQ (some (.int ((((((yx + 1) + (kofM yA yc (yA.1 69 0))) - 4) * 2) - yc) * 3))) (uI (uI (uI (uI (uI (uI (uI (uI (uI (uI (uI (uI (uI (uI yA 69 85 0) 69 86 yc) 128 0 61) 69 85 1) 128 1 12) 69 85 2) 128 2 11) 69 85 3) 128 3 60) 69 85 4) 128 4 30) 69 85 5) 128 5 10) 69 85 6)) :
    Pa N 254 0 [(0, .ref 69), (1, .int 5), (2, .int yx)] [] (uI (uI yA 69 85 0) 69 86 yc) yQ := by
  refine Pa.mp 1 (pc' := 1) (l' := [(0, .ref 69), (1, .int 5), (2, .int yx)]) (st' := [.int 5]) (by rfl) ?_
  refine Pa.mp 1 (pc' := 95) (l' := [(0, .ref 69), (1, .int 5), (2, .int yx)]) (st' := []) (by rfl) ?_
  refine Pa.mp 1 (pc' := 96) (l' := [(0, .ref 69), (1, .int 5), (2, .int yx)]) (st' := [.ref 69]) (by rfl) ?_
  refine Pa.ic (x := 61) (pc' := 98) (by rfl) (by rfl) (by decide) ?_
  refine Pa.inv (by rfl) (by rfl) (.inl rfl) (by rfl) ?_
  show Pa N 251 0 [(0, .ref 69), (1, .int 61)] [] (uI (uI yA 69 85 0) 69 86 yc) _
  refine Pa.mp 1 (pc' := 1) (l' := [(0, .ref 69), (1, .int 61)]) (st' := [.ref 69]) (by rfl) ?_
  refine Pa.gfI (v := 0) (by rfl) (by rfl) (.inl rfl) (by rfl) (by show (uI (uI yA 69 85 0) 69 86 yc).1 69 85 = 0; rw [uI_k (by decide), uI_h]) ?_
  refine Pa.ic (x := 24) (pc' := 6) (by rfl) (by rfl) (by decide) ?_
  refine Pa.if2k false (by rfl) (by rfl) (by decide) ?_
  show Pa N 251 9 [(0, .ref 69), (1, .int 61)] [] (uI (uI yA 69 85 0) 69 86 yc) _
  refine Pa.mp 1 (pc' := 10) (l' := [(0, .ref 69), (1, .int 61)]) (st' := [.ref 69]) (by rfl) ?_
  refine Pa.gfR (by rfl) (by rfl) (.inl rfl) (by rfl) ?_
  show Pa N 251 13 [(0, .ref 69), (1, .int 61)] [.ref 128] (uI (uI yA 69 85 0) 69 86 yc) _
  refine Pa.mp 1 (pc' := 14) (l' := [(0, .ref 69), (1, .int 61)]) (st' := [.ref 69, .ref 128]) (by rfl) ?_
  refine Pa.gfI (v := 0) (by rfl) (by rfl) (.inl rfl) (by rfl) (by show (uI (uI yA 69 85 0) 69 86 yc).1 69 85 = 0; rw [uI_k (by decide), uI_h]) ?_
  refine Pa.mp 1 (pc' := 18) (l' := [(0, .ref 69), (1, .int 61)]) (st' := [.int 61, .int 0, .ref 128]) (by rfl) ?_
  refine Pa.asts (j' := 0) (by rfl) (by rfl) (by rfl) (fun h1 h2 => ?_)
  show Pa N 251 19 [(0, .ref 69), (1, .int 61)] [] (uI (uI (uI yA 69 85 0) 69 86 yc) 128 0 61) _
  refine Pa.mp 2 (pc' := 21) (l' := [(0, .ref 69), (1, .int 61)]) (st' := [.ref 69, .ref 69]) (by rfl) ?_
  refine Pa.gfI (v := 0) (by rfl) (by rfl) (.inl rfl) (by rfl) (by show (uI (uI (uI yA 69 85 0) 69 86 yc) 128 0 61).1 69 85 = 0; rw [uI_c (by decide), uI_k (by decide), uI_h]) ?_
  refine Pa.ic (x := 1) (pc' := 25) (by rfl) (by rfl) (by decide) ?_
  refine Pa.mp 1 (pc' := 26) (l' := [(0, .ref 69), (1, .int 61)]) (st' := [.int 1, .ref 69]) (by rfl) ?_
  refine Pa.pfI (by rfl) (by rfl) (.inl rfl) (by rfl) ?_
  show Pa N 251 29 [(0, .ref 69), (1, .int 61)] [] (uI (uI (uI (uI yA 69 85 0) 69 86 yc) 128 0 61) 69 85 1) _
  refine Pa.vret (by rfl) ?_
  show Pa N 254 101 [(0, .ref 69), (1, .int 5), (2, .int yx)] [] (uI (uI (uI (uI yA 69 85 0) 69 86 yc) 128 0 61) 69 85 1) _
  refine Pa.mp 1 (pc' := 102) (l' := [(0, .ref 69), (1, .int 5), (2, .int yx)]) (st' := [.ref 69]) (by rfl) ?_
  refine Pa.ic (x := 5) (pc' := 103) (by rfl) (by rfl) (by decide) ?_
  refine Pa.ist (by rfl) (by rfl) (.inl rfl) (by rfl) (by rfl) ?_
  show Pa N 250 0 [(0, .int 5)] [] (uI (uI (uI (uI yA 69 85 0) 69 86 yc) 128 0 61) 69 85 1) _
  refine Pa.mp 1 (pc' := 1) (l' := [(0, .int 5)]) (st' := [.int 5]) (by rfl) ?_
  refine Pa.ic (x := 5) (pc' := 2) (by rfl) (by rfl) (by decide) ?_
  refine Pa.if2k true (by rfl) (by rfl) (by decide) ?_
  show Pa N 250 10 [(0, .int 5)] [] (uI (uI (uI (uI yA 69 85 0) 69 86 yc) 128 0 61) 69 85 1) _
  refine Pa.ic (x := 2) (pc' := 11) (by rfl) (by rfl) (by decide) ?_
  refine Pa.mp 1 (pc' := 25) (l' := [(0, .int 5)]) (st' := [.int 2]) (by rfl) ?_
  refine Pa.iret (by rfl) ?_
  show Pa N 254 106 [(0, .ref 69), (1, .int 5), (2, .int yx)] [.int 2, .ref 69] (uI (uI (uI (uI yA 69 85 0) 69 86 yc) 128 0 61) 69 85 1) _
  refine Pa.mp 1 (pc' := 107) (l' := [(0, .ref 69), (1, .int 5), (2, .int yx)]) (st' := [.int yx, .int 2, .ref 69]) (by rfl) ?_
  refine Pa.inv (by rfl) (by rfl) (.inl rfl) (by rfl) ?_
  show Pa N 254 0 [(0, .ref 69), (1, .int 2), (2, .int yx)] [] (uI (uI (uI (uI yA 69 85 0) 69 86 yc) 128 0 61) 69 85 1) _
  refine Pa.mp 1 (pc' := 1) (l' := [(0, .ref 69), (1, .int 2), (2, .int yx)]) (st' := [.int 2]) (by rfl) ?_
  refine Pa.mp 1 (pc' := 113) (l' := [(0, .ref 69), (1, .int 2), (2, .int yx)]) (st' := []) (by rfl) ?_
  refine Pa.mp 2 (pc' := 115) (l' := [(0, .ref 69), (1, .int 2), (2, .int yx)]) (st' := [.int 2, .ref 69]) (by rfl) ?_
  refine Pa.ist (by rfl) (by rfl) (.inl rfl) (by rfl) (by rfl) ?_
  show Pa N 250 0 [(0, .int 2)] [] (uI (uI (uI (uI yA 69 85 0) 69 86 yc) 128 0 61) 69 85 1) _
  refine Pa.mp 1 (pc' := 1) (l' := [(0, .int 2)]) (st' := [.int 2]) (by rfl) ?_
  refine Pa.ic (x := 5) (pc' := 2) (by rfl) (by rfl) (by decide) ?_
  refine Pa.if2k false (by rfl) (by rfl) (by decide) ?_
  show Pa N 250 5 [(0, .int 2)] [] (uI (uI (uI (uI yA 69 85 0) 69 86 yc) 128 0 61) 69 85 1) _
  refine Pa.mp 1 (pc' := 6) (l' := [(0, .int 2)]) (st' := [.int 2]) (by rfl) ?_
  refine Pa.ic (x := 3) (pc' := 7) (by rfl) (by rfl) (by decide) ?_
  refine Pa.if2k true (by rfl) (by rfl) (by decide) ?_
  show Pa N 250 14 [(0, .int 2)] [] (uI (uI (uI (uI yA 69 85 0) 69 86 yc) 128 0 61) 69 85 1) _
  refine Pa.mp 1 (pc' := 15) (l' := [(0, .int 2)]) (st' := [.int 2]) (by rfl) ?_
  refine Pa.ic (x := 6) (pc' := 17) (by rfl) (by rfl) (by decide) ?_
  refine Pa.if2k true (by rfl) (by rfl) (by decide) ?_
  show Pa N 250 24 [(0, .int 2)] [] (uI (uI (uI (uI yA 69 85 0) 69 86 yc) 128 0 61) 69 85 1) _
  refine Pa.ic (x := 0) (pc' := 25) (by rfl) (by rfl) (by decide) ?_
  refine Pa.iret (by rfl) ?_
  show Pa N 254 118 [(0, .ref 69), (1, .int 2), (2, .int yx)] [.int 0, .ref 69] (uI (uI (uI (uI yA 69 85 0) 69 86 yc) 128 0 61) 69 85 1) _
  refine Pa.mp 1 (pc' := 119) (l' := [(0, .ref 69), (1, .int 2), (2, .int yx)]) (st' := [.int yx, .int 0, .ref 69]) (by rfl) ?_
  refine Pa.inv (by rfl) (by rfl) (.inl rfl) (by rfl) ?_
  show Pa N 254 0 [(0, .ref 69), (1, .int 0), (2, .int yx)] [] (uI (uI (uI (uI yA 69 85 0) 69 86 yc) 128 0 61) 69 85 1) _
  refine Pa.mp 1 (pc' := 1) (l' := [(0, .ref 69), (1, .int 0), (2, .int yx)]) (st' := [.int 0]) (by rfl) ?_
  refine Pa.mp 1 (pc' := 36) (l' := [(0, .ref 69), (1, .int 0), (2, .int yx)]) (st' := []) (by rfl) ?_
  refine Pa.mp 1 (pc' := 37) (l' := [(0, .ref 69), (1, .int 0), (2, .int yx)]) (st' := [.ref 69]) (by rfl) ?_
  refine Pa.ic (x := 12) (pc' := 39) (by rfl) (by rfl) (by decide) ?_
  refine Pa.inv (by rfl) (by rfl) (.inl rfl) (by rfl) ?_
  show Pa N 251 0 [(0, .ref 69), (1, .int 12)] [] (uI (uI (uI (uI yA 69 85 0) 69 86 yc) 128 0 61) 69 85 1) _
  refine Pa.mp 1 (pc' := 1) (l' := [(0, .ref 69), (1, .int 12)]) (st' := [.ref 69]) (by rfl) ?_
  refine Pa.gfI (v := 1) (by rfl) (by rfl) (.inl rfl) (by rfl) (by show (uI (uI (uI (uI yA 69 85 0) 69 86 yc) 128 0 61) 69 85 1).1 69 85 = 1; rw [uI_h]) ?_
  refine Pa.ic (x := 24) (pc' := 6) (by rfl) (by rfl) (by decide) ?_
  refine Pa.if2k false (by rfl) (by rfl) (by decide) ?_
  show Pa N 251 9 [(0, .ref 69), (1, .int 12)] [] (uI (uI (uI (uI yA 69 85 0) 69 86 yc) 128 0 61) 69 85 1) _
  refine Pa.mp 1 (pc' := 10) (l' := [(0, .ref 69), (1, .int 12)]) (st' := [.ref 69]) (by rfl) ?_
  refine Pa.gfR (by rfl) (by rfl) (.inl rfl) (by rfl) ?_
  show Pa N 251 13 [(0, .ref 69), (1, .int 12)] [.ref 128] (uI (uI (uI (uI yA 69 85 0) 69 86 yc) 128 0 61) 69 85 1) _
  refine Pa.mp 1 (pc' := 14) (l' := [(0, .ref 69), (1, .int 12)]) (st' := [.ref 69, .ref 128]) (by rfl) ?_
  refine Pa.gfI (v := 1) (by rfl) (by rfl) (.inl rfl) (by rfl) (by show (uI (uI (uI (uI yA 69 85 0) 69 86 yc) 128 0 61) 69 85 1).1 69 85 = 1; rw [uI_h]) ?_
  refine Pa.mp 1 (pc' := 18) (l' := [(0, .ref 69), (1, .int 12)]) (st' := [.int 12, .int 1, .ref 128]) (by rfl) ?_
  refine Pa.asts (j' := 1) (by rfl) (by rfl) (by rfl) (fun h3 h4 => ?_)
  show Pa N 251 19 [(0, .ref 69), (1, .int 12)] [] (uI (uI (uI (uI (uI yA 69 85 0) 69 86 yc) 128 0 61) 69 85 1) 128 1 12) _
  refine Pa.mp 2 (pc' := 21) (l' := [(0, .ref 69), (1, .int 12)]) (st' := [.ref 69, .ref 69]) (by rfl) ?_
  refine Pa.gfI (v := 1) (by rfl) (by rfl) (.inl rfl) (by rfl) (by show (uI (uI (uI (uI (uI yA 69 85 0) 69 86 yc) 128 0 61) 69 85 1) 128 1 12).1 69 85 = 1; rw [uI_c (by decide), uI_h]) ?_
  refine Pa.ic (x := 1) (pc' := 25) (by rfl) (by rfl) (by decide) ?_
  refine Pa.mp 1 (pc' := 26) (l' := [(0, .ref 69), (1, .int 12)]) (st' := [.int 2, .ref 69]) (by rfl) ?_
  refine Pa.pfI (by rfl) (by rfl) (.inl rfl) (by rfl) ?_
  show Pa N 251 29 [(0, .ref 69), (1, .int 12)] [] (uI (uI (uI (uI (uI (uI yA 69 85 0) 69 86 yc) 128 0 61) 69 85 1) 128 1 12) 69 85 2) _
  refine Pa.vret (by rfl) ?_
  show Pa N 254 42 [(0, .ref 69), (1, .int 0), (2, .int yx)] [] (uI (uI (uI (uI (uI (uI yA 69 85 0) 69 86 yc) 128 0 61) 69 85 1) 128 1 12) 69 85 2) _
  refine Pa.mp 2 (pc' := 44) (l' := [(0, .ref 69), (1, .int 0), (2, .int yx)]) (st' := [.ref 69, .ref 69]) (by rfl) ?_
  refine Pa.gfR (by rfl) (by rfl) (.inl rfl) (by rfl) ?_
  show Pa N 254 47 [(0, .ref 69), (1, .int 0), (2, .int yx)] [.ref 89, .ref 69] (uI (uI (uI (uI (uI (uI yA 69 85 0) 69 86 yc) 128 0 61) 69 85 1) 128 1 12) 69 85 2) _
  refine Pa.mp 1 (pc' := 48) (l' := [(0, .ref 69), (1, .int 0), (2, .int yx)]) (st' := [.ref 69, .ref 89, .ref 69]) (by rfl) ?_
  refine Pa.gfI (v := yc) (by rfl) (by rfl) (.inl rfl) (by rfl) (by show (uI (uI (uI (uI (uI (uI yA 69 85 0) 69 86 yc) 128 0 61) 69 85 1) 128 1 12) 69 85 2).1 69 86 = yc; rw [uI_k (by decide), uI_c (by decide), uI_k (by decide), uI_c (by decide), uI_h]) ?_
  refine Pa.alds (v := 5) (by rfl) (by rfl) (by show (uI (uI (uI (uI (uI (uI yA 69 85 0) 69 86 yc) 128 0 61) 69 85 1) 128 1 12) 69 85 2).1 89 yc.toInt.toNat = 5; rw [uI_c (by decide), uI_c (by decide), uI_c (by decide), uI_c (by decide), uI_c (by decide), uI_c (by decide), hk]) (fun h5 h6 => ?_)
  have h5 : 0 ≤ yc.toInt := h5
  have h6 : yc.toInt < 150 := h6
  refine Pa.mp 1 (pc' := 53) (l' := [(0, .ref 69), (1, .int 0), (2, .int yx)]) (st' := [.int yx, .int 5, .ref 69]) (by rfl) ?_
  refine Pa.inv (by rfl) (by rfl) (.inl rfl) (by rfl) ?_
  show Pa N 253 0 [(0, .ref 69), (1, .int 5), (2, .int yx)] [] (uI (uI (uI (uI (uI (uI yA 69 85 0) 69 86 yc) 128 0 61) 69 85 1) 128 1 12) 69 85 2) _
  refine Pa.mp 1 (pc' := 1) (l' := [(0, .ref 69), (1, .int 5), (2, .int yx)]) (st' := [.int 5]) (by rfl) ?_
  refine Pa.mp 1 (pc' := 137) (l' := [(0, .ref 69), (1, .int 5), (2, .int yx)]) (st' := []) (by rfl) ?_
  refine Pa.mp 2 (pc' := 139) (l' := [(0, .ref 69), (1, .int 5), (2, .int yx)]) (st' := [.int 5, .ref 69]) (by rfl) ?_
  refine Pa.ist (by rfl) (by rfl) (.inl rfl) (by rfl) (by rfl) ?_
  show Pa N 250 0 [(0, .int 5)] [] (uI (uI (uI (uI (uI (uI yA 69 85 0) 69 86 yc) 128 0 61) 69 85 1) 128 1 12) 69 85 2) _
  refine Pa.mp 1 (pc' := 1) (l' := [(0, .int 5)]) (st' := [.int 5]) (by rfl) ?_
  refine Pa.ic (x := 5) (pc' := 2) (by rfl) (by rfl) (by decide) ?_
  refine Pa.if2k true (by rfl) (by rfl) (by decide) ?_
  show Pa N 250 10 [(0, .int 5)] [] (uI (uI (uI (uI (uI (uI yA 69 85 0) 69 86 yc) 128 0 61) 69 85 1) 128 1 12) 69 85 2) _
  refine Pa.ic (x := 2) (pc' := 11) (by rfl) (by rfl) (by decide) ?_
  refine Pa.mp 1 (pc' := 25) (l' := [(0, .int 5)]) (st' := [.int 2]) (by rfl) ?_
  refine Pa.iret (by rfl) ?_
  show Pa N 253 142 [(0, .ref 69), (1, .int 5), (2, .int yx)] [.int 2, .ref 69] (uI (uI (uI (uI (uI (uI yA 69 85 0) 69 86 yc) 128 0 61) 69 85 1) 128 1 12) 69 85 2) _
  refine Pa.mp 1 (pc' := 143) (l' := [(0, .ref 69), (1, .int 5), (2, .int yx)]) (st' := [.int yx, .int 2, .ref 69]) (by rfl) ?_
  refine Pa.inv (by rfl) (by rfl) (.inl rfl) (by rfl) ?_
  show Pa N 253 0 [(0, .ref 69), (1, .int 2), (2, .int yx)] [] (uI (uI (uI (uI (uI (uI yA 69 85 0) 69 86 yc) 128 0 61) 69 85 1) 128 1 12) 69 85 2) _
  refine Pa.mp 1 (pc' := 1) (l' := [(0, .ref 69), (1, .int 2), (2, .int yx)]) (st' := [.int 2]) (by rfl) ?_
  refine Pa.mp 1 (pc' := 137) (l' := [(0, .ref 69), (1, .int 2), (2, .int yx)]) (st' := []) (by rfl) ?_
  refine Pa.mp 2 (pc' := 139) (l' := [(0, .ref 69), (1, .int 2), (2, .int yx)]) (st' := [.int 2, .ref 69]) (by rfl) ?_
  refine Pa.ist (by rfl) (by rfl) (.inl rfl) (by rfl) (by rfl) ?_
  show Pa N 250 0 [(0, .int 2)] [] (uI (uI (uI (uI (uI (uI yA 69 85 0) 69 86 yc) 128 0 61) 69 85 1) 128 1 12) 69 85 2) _
  refine Pa.mp 1 (pc' := 1) (l' := [(0, .int 2)]) (st' := [.int 2]) (by rfl) ?_
  refine Pa.ic (x := 5) (pc' := 2) (by rfl) (by rfl) (by decide) ?_
  refine Pa.if2k false (by rfl) (by rfl) (by decide) ?_
  show Pa N 250 5 [(0, .int 2)] [] (uI (uI (uI (uI (uI (uI yA 69 85 0) 69 86 yc) 128 0 61) 69 85 1) 128 1 12) 69 85 2) _
  refine Pa.mp 1 (pc' := 6) (l' := [(0, .int 2)]) (st' := [.int 2]) (by rfl) ?_
  refine Pa.ic (x := 3) (pc' := 7) (by rfl) (by rfl) (by decide) ?_
  refine Pa.if2k true (by rfl) (by rfl) (by decide) ?_
  show Pa N 250 14 [(0, .int 2)] [] (uI (uI (uI (uI (uI (uI yA 69 85 0) 69 86 yc) 128 0 61) 69 85 1) 128 1 12) 69 85 2) _
  refine Pa.mp 1 (pc' := 15) (l' := [(0, .int 2)]) (st' := [.int 2]) (by rfl) ?_
  refine Pa.ic (x := 6) (pc' := 17) (by rfl) (by rfl) (by decide) ?_
  refine Pa.if2k true (by rfl) (by rfl) (by decide) ?_
  show Pa N 250 24 [(0, .int 2)] [] (uI (uI (uI (uI (uI (uI yA 69 85 0) 69 86 yc) 128 0 61) 69 85 1) 128 1 12) 69 85 2) _
  refine Pa.ic (x := 0) (pc' := 25) (by rfl) (by rfl) (by decide) ?_
  refine Pa.iret (by rfl) ?_
  show Pa N 253 142 [(0, .ref 69), (1, .int 2), (2, .int yx)] [.int 0, .ref 69] (uI (uI (uI (uI (uI (uI yA 69 85 0) 69 86 yc) 128 0 61) 69 85 1) 128 1 12) 69 85 2) _
  refine Pa.mp 1 (pc' := 143) (l' := [(0, .ref 69), (1, .int 2), (2, .int yx)]) (st' := [.int yx, .int 0, .ref 69]) (by rfl) ?_
  refine Pa.inv (by rfl) (by rfl) (.inl rfl) (by rfl) ?_
  show Pa N 253 0 [(0, .ref 69), (1, .int 0), (2, .int yx)] [] (uI (uI (uI (uI (uI (uI yA 69 85 0) 69 86 yc) 128 0 61) 69 85 1) 128 1 12) 69 85 2) _
  refine Pa.mp 1 (pc' := 1) (l' := [(0, .ref 69), (1, .int 0), (2, .int yx)]) (st' := [.int 0]) (by rfl) ?_
  refine Pa.mp 1 (pc' := 44) (l' := [(0, .ref 69), (1, .int 0), (2, .int yx)]) (st' := []) (by rfl) ?_
  refine Pa.mp 1 (pc' := 45) (l' := [(0, .ref 69), (1, .int 0), (2, .int yx)]) (st' := [.ref 69]) (by rfl) ?_
  refine Pa.ic (x := 11) (pc' := 47) (by rfl) (by rfl) (by decide) ?_
  refine Pa.inv (by rfl) (by rfl) (.inl rfl) (by rfl) ?_
  show Pa N 251 0 [(0, .ref 69), (1, .int 11)] [] (uI (uI (uI (uI (uI (uI yA 69 85 0) 69 86 yc) 128 0 61) 69 85 1) 128 1 12) 69 85 2) _
  refine Pa.mp 1 (pc' := 1) (l' := [(0, .ref 69), (1, .int 11)]) (st' := [.ref 69]) (by rfl) ?_
  refine Pa.gfI (v := 2) (by rfl) (by rfl) (.inl rfl) (by rfl) (by show (uI (uI (uI (uI (uI (uI yA 69 85 0) 69 86 yc) 128 0 61) 69 85 1) 128 1 12) 69 85 2).1 69 85 = 2; rw [uI_h]) ?_
  refine Pa.ic (x := 24) (pc' := 6) (by rfl) (by rfl) (by decide) ?_
  refine Pa.if2k false (by rfl) (by rfl) (by decide) ?_
  show Pa N 251 9 [(0, .ref 69), (1, .int 11)] [] (uI (uI (uI (uI (uI (uI yA 69 85 0) 69 86 yc) 128 0 61) 69 85 1) 128 1 12) 69 85 2) _
  refine Pa.mp 1 (pc' := 10) (l' := [(0, .ref 69), (1, .int 11)]) (st' := [.ref 69]) (by rfl) ?_
  refine Pa.gfR (by rfl) (by rfl) (.inl rfl) (by rfl) ?_
  show Pa N 251 13 [(0, .ref 69), (1, .int 11)] [.ref 128] (uI (uI (uI (uI (uI (uI yA 69 85 0) 69 86 yc) 128 0 61) 69 85 1) 128 1 12) 69 85 2) _
  refine Pa.mp 1 (pc' := 14) (l' := [(0, .ref 69), (1, .int 11)]) (st' := [.ref 69, .ref 128]) (by rfl) ?_
  refine Pa.gfI (v := 2) (by rfl) (by rfl) (.inl rfl) (by rfl) (by show (uI (uI (uI (uI (uI (uI yA 69 85 0) 69 86 yc) 128 0 61) 69 85 1) 128 1 12) 69 85 2).1 69 85 = 2; rw [uI_h]) ?_
  refine Pa.mp 1 (pc' := 18) (l' := [(0, .ref 69), (1, .int 11)]) (st' := [.int 11, .int 2, .ref 128]) (by rfl) ?_
  refine Pa.asts (j' := 2) (by rfl) (by rfl) (by rfl) (fun h7 h8 => ?_)
  show Pa N 251 19 [(0, .ref 69), (1, .int 11)] [] (uI (uI (uI (uI (uI (uI (uI yA 69 85 0) 69 86 yc) 128 0 61) 69 85 1) 128 1 12) 69 85 2) 128 2 11) _
  refine Pa.mp 2 (pc' := 21) (l' := [(0, .ref 69), (1, .int 11)]) (st' := [.ref 69, .ref 69]) (by rfl) ?_
  refine Pa.gfI (v := 2) (by rfl) (by rfl) (.inl rfl) (by rfl) (by show (uI (uI (uI (uI (uI (uI (uI yA 69 85 0) 69 86 yc) 128 0 61) 69 85 1) 128 1 12) 69 85 2) 128 2 11).1 69 85 = 2; rw [uI_c (by decide), uI_h]) ?_
  refine Pa.ic (x := 1) (pc' := 25) (by rfl) (by rfl) (by decide) ?_
  refine Pa.mp 1 (pc' := 26) (l' := [(0, .ref 69), (1, .int 11)]) (st' := [.int 3, .ref 69]) (by rfl) ?_
  refine Pa.pfI (by rfl) (by rfl) (.inl rfl) (by rfl) ?_
  show Pa N 251 29 [(0, .ref 69), (1, .int 11)] [] (uI (uI (uI (uI (uI (uI (uI (uI yA 69 85 0) 69 86 yc) 128 0 61) 69 85 1) 128 1 12) 69 85 2) 128 2 11) 69 85 3) _
  refine Pa.vret (by rfl) ?_
  show Pa N 253 50 [(0, .ref 69), (1, .int 0), (2, .int yx)] [] (uI (uI (uI (uI (uI (uI (uI (uI yA 69 85 0) 69 86 yc) 128 0 61) 69 85 1) 128 1 12) 69 85 2) 128 2 11) 69 85 3) _
  refine Pa.mp 2 (pc' := 52) (l' := [(0, .ref 69), (1, .int 0), (2, .int yx)]) (st' := [.ref 69, .ref 69]) (by rfl) ?_
  refine Pa.gfR (by rfl) (by rfl) (.inl rfl) (by rfl) ?_
  show Pa N 253 55 [(0, .ref 69), (1, .int 0), (2, .int yx)] [.ref 89, .ref 69] (uI (uI (uI (uI (uI (uI (uI (uI yA 69 85 0) 69 86 yc) 128 0 61) 69 85 1) 128 1 12) 69 85 2) 128 2 11) 69 85 3) _
  refine Pa.mp 1 (pc' := 56) (l' := [(0, .ref 69), (1, .int 0), (2, .int yx)]) (st' := [.ref 69, .ref 89, .ref 69]) (by rfl) ?_
  refine Pa.gfI (v := yc) (by rfl) (by rfl) (.inl rfl) (by rfl) (by show (uI (uI (uI (uI (uI (uI (uI (uI yA 69 85 0) 69 86 yc) 128 0 61) 69 85 1) 128 1 12) 69 85 2) 128 2 11) 69 85 3).1 69 86 = yc; rw [uI_k (by decide), uI_c (by decide), uI_k (by decide), uI_c (by decide), uI_k (by decide), uI_c (by decide), uI_h]) ?_
  refine Pa.alds (v := 5) (by rfl) (by rfl) (by show (uI (uI (uI (uI (uI (uI (uI (uI yA 69 85 0) 69 86 yc) 128 0 61) 69 85 1) 128 1 12) 69 85 2) 128 2 11) 69 85 3).1 89 yc.toInt.toNat = 5; rw [uI_c (by decide), uI_c (by decide), uI_c (by decide), uI_c (by decide), uI_c (by decide), uI_c (by decide), uI_c (by decide), uI_c (by decide), hk]) (fun h9 h10 => ?_)
  have h9 : 0 ≤ yc.toInt := h9
  have h10 : yc.toInt < 150 := h10
  refine Pa.mp 1 (pc' := 61) (l' := [(0, .ref 69), (1, .int 0), (2, .int yx)]) (st' := [.int yx, .int 5, .ref 69]) (by rfl) ?_
  refine Pa.inv (by rfl) (by rfl) (.inl rfl) (by rfl) ?_
  show Pa N 252 0 [(0, .ref 69), (1, .int 5), (2, .int yx)] [] (uI (uI (uI (uI (uI (uI (uI (uI yA 69 85 0) 69 86 yc) 128 0 61) 69 85 1) 128 1 12) 69 85 2) 128 2 11) 69 85 3) _
  refine Pa.mp 1 (pc' := 1) (l' := [(0, .ref 69), (1, .int 5), (2, .int yx)]) (st' := [.int 5]) (by rfl) ?_
  refine Pa.mp 1 (pc' := 75) (l' := [(0, .ref 69), (1, .int 5), (2, .int yx)]) (st' := []) (by rfl) ?_
  refine Pa.mp 1 (pc' := 76) (l' := [(0, .ref 69), (1, .int 5), (2, .int yx)]) (st' := [.ref 69]) (by rfl) ?_
  refine Pa.ic (x := 60) (pc' := 78) (by rfl) (by rfl) (by decide) ?_
  refine Pa.inv (by rfl) (by rfl) (.inl rfl) (by rfl) ?_
  show Pa N 251 0 [(0, .ref 69), (1, .int 60)] [] (uI (uI (uI (uI (uI (uI (uI (uI yA 69 85 0) 69 86 yc) 128 0 61) 69 85 1) 128 1 12) 69 85 2) 128 2 11) 69 85 3) _
  refine Pa.mp 1 (pc' := 1) (l' := [(0, .ref 69), (1, .int 60)]) (st' := [.ref 69]) (by rfl) ?_
  refine Pa.gfI (v := 3) (by rfl) (by rfl) (.inl rfl) (by rfl) (by show (uI (uI (uI (uI (uI (uI (uI (uI yA 69 85 0) 69 86 yc) 128 0 61) 69 85 1) 128 1 12) 69 85 2) 128 2 11) 69 85 3).1 69 85 = 3; rw [uI_h]) ?_
  refine Pa.ic (x := 24) (pc' := 6) (by rfl) (by rfl) (by decide) ?_
  refine Pa.if2k false (by rfl) (by rfl) (by decide) ?_
  show Pa N 251 9 [(0, .ref 69), (1, .int 60)] [] (uI (uI (uI (uI (uI (uI (uI (uI yA 69 85 0) 69 86 yc) 128 0 61) 69 85 1) 128 1 12) 69 85 2) 128 2 11) 69 85 3) _
  refine Pa.mp 1 (pc' := 10) (l' := [(0, .ref 69), (1, .int 60)]) (st' := [.ref 69]) (by rfl) ?_
  refine Pa.gfR (by rfl) (by rfl) (.inl rfl) (by rfl) ?_
  show Pa N 251 13 [(0, .ref 69), (1, .int 60)] [.ref 128] (uI (uI (uI (uI (uI (uI (uI (uI yA 69 85 0) 69 86 yc) 128 0 61) 69 85 1) 128 1 12) 69 85 2) 128 2 11) 69 85 3) _
  refine Pa.mp 1 (pc' := 14) (l' := [(0, .ref 69), (1, .int 60)]) (st' := [.ref 69, .ref 128]) (by rfl) ?_
  refine Pa.gfI (v := 3) (by rfl) (by rfl) (.inl rfl) (by rfl) (by show (uI (uI (uI (uI (uI (uI (uI (uI yA 69 85 0) 69 86 yc) 128 0 61) 69 85 1) 128 1 12) 69 85 2) 128 2 11) 69 85 3).1 69 85 = 3; rw [uI_h]) ?_
  refine Pa.mp 1 (pc' := 18) (l' := [(0, .ref 69), (1, .int 60)]) (st' := [.int 60, .int 3, .ref 128]) (by rfl) ?_
  refine Pa.asts (j' := 3) (by rfl) (by rfl) (by rfl) (fun h11 h12 => ?_)
  show Pa N 251 19 [(0, .ref 69), (1, .int 60)] [] (uI (uI (uI (uI (uI (uI (uI (uI (uI yA 69 85 0) 69 86 yc) 128 0 61) 69 85 1) 128 1 12) 69 85 2) 128 2 11) 69 85 3) 128 3 60) _
  refine Pa.mp 2 (pc' := 21) (l' := [(0, .ref 69), (1, .int 60)]) (st' := [.ref 69, .ref 69]) (by rfl) ?_
  refine Pa.gfI (v := 3) (by rfl) (by rfl) (.inl rfl) (by rfl) (by show (uI (uI (uI (uI (uI (uI (uI (uI (uI yA 69 85 0) 69 86 yc) 128 0 61) 69 85 1) 128 1 12) 69 85 2) 128 2 11) 69 85 3) 128 3 60).1 69 85 = 3; rw [uI_c (by decide), uI_h]) ?_
  refine Pa.ic (x := 1) (pc' := 25) (by rfl) (by rfl) (by decide) ?_
  refine Pa.mp 1 (pc' := 26) (l' := [(0, .ref 69), (1, .int 60)]) (st' := [.int 4, .ref 69]) (by rfl) ?_
  refine Pa.pfI (by rfl) (by rfl) (.inl rfl) (by rfl) ?_
  show Pa N 251 29 [(0, .ref 69), (1, .int 60)] [] (uI (uI (uI (uI (uI (uI (uI (uI (uI (uI yA 69 85 0) 69 86 yc) 128 0 61) 69 85 1) 128 1 12) 69 85 2) 128 2 11) 69 85 3) 128 3 60) 69 85 4) _
  refine Pa.vret (by rfl) ?_
  show Pa N 252 81 [(0, .ref 69), (1, .int 5), (2, .int yx)] [] (uI (uI (uI (uI (uI (uI (uI (uI (uI (uI yA 69 85 0) 69 86 yc) 128 0 61) 69 85 1) 128 1 12) 69 85 2) 128 2 11) 69 85 3) 128 3 60) 69 85 4) _
  refine Pa.mp 1 (pc' := 82) (l' := [(0, .ref 69), (1, .int 5), (2, .int yx)]) (st' := [.ref 69]) (by rfl) ?_
  refine Pa.ic (x := 5) (pc' := 83) (by rfl) (by rfl) (by decide) ?_
  refine Pa.ist (by rfl) (by rfl) (.inl rfl) (by rfl) (by rfl) ?_
  show Pa N 250 0 [(0, .int 5)] [] (uI (uI (uI (uI (uI (uI (uI (uI (uI (uI yA 69 85 0) 69 86 yc) 128 0 61) 69 85 1) 128 1 12) 69 85 2) 128 2 11) 69 85 3) 128 3 60) 69 85 4) _
  refine Pa.mp 1 (pc' := 1) (l' := [(0, .int 5)]) (st' := [.int 5]) (by rfl) ?_
  refine Pa.ic (x := 5) (pc' := 2) (by rfl) (by rfl) (by decide) ?_
  refine Pa.if2k true (by rfl) (by rfl) (by decide) ?_
  show Pa N 250 10 [(0, .int 5)] [] (uI (uI (uI (uI (uI (uI (uI (uI (uI (uI yA 69 85 0) 69 86 yc) 128 0 61) 69 85 1) 128 1 12) 69 85 2) 128 2 11) 69 85 3) 128 3 60) 69 85 4) _
  refine Pa.ic (x := 2) (pc' := 11) (by rfl) (by rfl) (by decide) ?_
  refine Pa.mp 1 (pc' := 25) (l' := [(0, .int 5)]) (st' := [.int 2]) (by rfl) ?_
  refine Pa.iret (by rfl) ?_
  show Pa N 252 86 [(0, .ref 69), (1, .int 5), (2, .int yx)] [.int 2, .ref 69] (uI (uI (uI (uI (uI (uI (uI (uI (uI (uI yA 69 85 0) 69 86 yc) 128 0 61) 69 85 1) 128 1 12) 69 85 2) 128 2 11) 69 85 3) 128 3 60) 69 85 4) _
  refine Pa.mp 1 (pc' := 87) (l' := [(0, .ref 69), (1, .int 5), (2, .int yx)]) (st' := [.int yx, .int 2, .ref 69]) (by rfl) ?_
  refine Pa.ic (x := 1) (pc' := 88) (by rfl) (by rfl) (by decide) ?_
  refine Pa.mp 1 (pc' := 89) (l' := [(0, .ref 69), (1, .int 5), (2, .int yx)]) (st' := [.int (yx + 1), .int 2, .ref 69]) (by rfl) ?_
  refine Pa.inv (by rfl) (by rfl) (.inl rfl) (by rfl) ?_
  show Pa N 252 0 [(0, .ref 69), (1, .int 2), (2, .int (yx + 1))] [] (uI (uI (uI (uI (uI (uI (uI (uI (uI (uI yA 69 85 0) 69 86 yc) 128 0 61) 69 85 1) 128 1 12) 69 85 2) 128 2 11) 69 85 3) 128 3 60) 69 85 4) _
  refine Pa.mp 1 (pc' := 1) (l' := [(0, .ref 69), (1, .int 2), (2, .int (yx + 1))]) (st' := [.int 2]) (by rfl) ?_
  refine Pa.mp 1 (pc' := 57) (l' := [(0, .ref 69), (1, .int 2), (2, .int (yx + 1))]) (st' := []) (by rfl) ?_
  refine Pa.mp 1 (pc' := 58) (l' := [(0, .ref 69), (1, .int 2), (2, .int (yx + 1))]) (st' := [.ref 69]) (by rfl) ?_
  refine Pa.ic (x := 30) (pc' := 60) (by rfl) (by rfl) (by decide) ?_
  refine Pa.inv (by rfl) (by rfl) (.inl rfl) (by rfl) ?_
  show Pa N 251 0 [(0, .ref 69), (1, .int 30)] [] (uI (uI (uI (uI (uI (uI (uI (uI (uI (uI yA 69 85 0) 69 86 yc) 128 0 61) 69 85 1) 128 1 12) 69 85 2) 128 2 11) 69 85 3) 128 3 60) 69 85 4) _
  refine Pa.mp 1 (pc' := 1) (l' := [(0, .ref 69), (1, .int 30)]) (st' := [.ref 69]) (by rfl) ?_
  refine Pa.gfI (v := 4) (by rfl) (by rfl) (.inl rfl) (by rfl) (by show (uI (uI (uI (uI (uI (uI (uI (uI (uI (uI yA 69 85 0) 69 86 yc) 128 0 61) 69 85 1) 128 1 12) 69 85 2) 128 2 11) 69 85 3) 128 3 60) 69 85 4).1 69 85 = 4; rw [uI_h]) ?_
  refine Pa.ic (x := 24) (pc' := 6) (by rfl) (by rfl) (by decide) ?_
  refine Pa.if2k false (by rfl) (by rfl) (by decide) ?_
  show Pa N 251 9 [(0, .ref 69), (1, .int 30)] [] (uI (uI (uI (uI (uI (uI (uI (uI (uI (uI yA 69 85 0) 69 86 yc) 128 0 61) 69 85 1) 128 1 12) 69 85 2) 128 2 11) 69 85 3) 128 3 60) 69 85 4) _
  refine Pa.mp 1 (pc' := 10) (l' := [(0, .ref 69), (1, .int 30)]) (st' := [.ref 69]) (by rfl) ?_
  refine Pa.gfR (by rfl) (by rfl) (.inl rfl) (by rfl) ?_
  show Pa N 251 13 [(0, .ref 69), (1, .int 30)] [.ref 128] (uI (uI (uI (uI (uI (uI (uI (uI (uI (uI yA 69 85 0) 69 86 yc) 128 0 61) 69 85 1) 128 1 12) 69 85 2) 128 2 11) 69 85 3) 128 3 60) 69 85 4) _
  refine Pa.mp 1 (pc' := 14) (l' := [(0, .ref 69), (1, .int 30)]) (st' := [.ref 69, .ref 128]) (by rfl) ?_
  refine Pa.gfI (v := 4) (by rfl) (by rfl) (.inl rfl) (by rfl) (by show (uI (uI (uI (uI (uI (uI (uI (uI (uI (uI yA 69 85 0) 69 86 yc) 128 0 61) 69 85 1) 128 1 12) 69 85 2) 128 2 11) 69 85 3) 128 3 60) 69 85 4).1 69 85 = 4; rw [uI_h]) ?_
  refine Pa.mp 1 (pc' := 18) (l' := [(0, .ref 69), (1, .int 30)]) (st' := [.int 30, .int 4, .ref 128]) (by rfl) ?_
  refine Pa.asts (j' := 4) (by rfl) (by rfl) (by rfl) (fun h13 h14 => ?_)
  show Pa N 251 19 [(0, .ref 69), (1, .int 30)] [] (uI (uI (uI (uI (uI (uI (uI (uI (uI (uI (uI yA 69 85 0) 69 86 yc) 128 0 61) 69 85 1) 128 1 12) 69 85 2) 128 2 11) 69 85 3) 128 3 60) 69 85 4) 128 4 30) _
  refine Pa.mp 2 (pc' := 21) (l' := [(0, .ref 69), (1, .int 30)]) (st' := [.ref 69, .ref 69]) (by rfl) ?_
  refine Pa.gfI (v := 4) (by rfl) (by rfl) (.inl rfl) (by rfl) (by show (uI (uI (uI (uI (uI (uI (uI (uI (uI (uI (uI yA 69 85 0) 69 86 yc) 128 0 61) 69 85 1) 128 1 12) 69 85 2) 128 2 11) 69 85 3) 128 3 60) 69 85 4) 128 4 30).1 69 85 = 4; rw [uI_c (by decide), uI_h]) ?_
  refine Pa.ic (x := 1) (pc' := 25) (by rfl) (by rfl) (by decide) ?_
  refine Pa.mp 1 (pc' := 26) (l' := [(0, .ref 69), (1, .int 30)]) (st' := [.int 5, .ref 69]) (by rfl) ?_
  refine Pa.pfI (by rfl) (by rfl) (.inl rfl) (by rfl) ?_
  show Pa N 251 29 [(0, .ref 69), (1, .int 30)] [] (uI (uI (uI (uI (uI (uI (uI (uI (uI (uI (uI (uI yA 69 85 0) 69 86 yc) 128 0 61) 69 85 1) 128 1 12) 69 85 2) 128 2 11) 69 85 3) 128 3 60) 69 85 4) 128 4 30) 69 85 5) _
  refine Pa.vret (by rfl) ?_
  show Pa N 252 63 [(0, .ref 69), (1, .int 2), (2, .int (yx + 1))] [] (uI (uI (uI (uI (uI (uI (uI (uI (uI (uI (uI (uI yA 69 85 0) 69 86 yc) 128 0 61) 69 85 1) 128 1 12) 69 85 2) 128 2 11) 69 85 3) 128 3 60) 69 85 4) 128 4 30) 69 85 5) _
  refine Pa.mp 1 (pc' := 64) (l' := [(0, .ref 69), (1, .int 2), (2, .int (yx + 1))]) (st' := [.ref 69]) (by rfl) ?_
  refine Pa.ic (x := 2) (pc' := 65) (by rfl) (by rfl) (by decide) ?_
  refine Pa.ist (by rfl) (by rfl) (.inl rfl) (by rfl) (by rfl) ?_
  show Pa N 250 0 [(0, .int 2)] [] (uI (uI (uI (uI (uI (uI (uI (uI (uI (uI (uI (uI yA 69 85 0) 69 86 yc) 128 0 61) 69 85 1) 128 1 12) 69 85 2) 128 2 11) 69 85 3) 128 3 60) 69 85 4) 128 4 30) 69 85 5) _
  refine Pa.mp 1 (pc' := 1) (l' := [(0, .int 2)]) (st' := [.int 2]) (by rfl) ?_
  refine Pa.ic (x := 5) (pc' := 2) (by rfl) (by rfl) (by decide) ?_
  refine Pa.if2k false (by rfl) (by rfl) (by decide) ?_
  show Pa N 250 5 [(0, .int 2)] [] (uI (uI (uI (uI (uI (uI (uI (uI (uI (uI (uI (uI yA 69 85 0) 69 86 yc) 128 0 61) 69 85 1) 128 1 12) 69 85 2) 128 2 11) 69 85 3) 128 3 60) 69 85 4) 128 4 30) 69 85 5) _
  refine Pa.mp 1 (pc' := 6) (l' := [(0, .int 2)]) (st' := [.int 2]) (by rfl) ?_
  refine Pa.ic (x := 3) (pc' := 7) (by rfl) (by rfl) (by decide) ?_
  refine Pa.if2k true (by rfl) (by rfl) (by decide) ?_
  show Pa N 250 14 [(0, .int 2)] [] (uI (uI (uI (uI (uI (uI (uI (uI (uI (uI (uI (uI yA 69 85 0) 69 86 yc) 128 0 61) 69 85 1) 128 1 12) 69 85 2) 128 2 11) 69 85 3) 128 3 60) 69 85 4) 128 4 30) 69 85 5) _
  refine Pa.mp 1 (pc' := 15) (l' := [(0, .int 2)]) (st' := [.int 2]) (by rfl) ?_
  refine Pa.ic (x := 6) (pc' := 17) (by rfl) (by rfl) (by decide) ?_
  refine Pa.if2k true (by rfl) (by rfl) (by decide) ?_
  show Pa N 250 24 [(0, .int 2)] [] (uI (uI (uI (uI (uI (uI (uI (uI (uI (uI (uI (uI yA 69 85 0) 69 86 yc) 128 0 61) 69 85 1) 128 1 12) 69 85 2) 128 2 11) 69 85 3) 128 3 60) 69 85 4) 128 4 30) 69 85 5) _
  refine Pa.ic (x := 0) (pc' := 25) (by rfl) (by rfl) (by decide) ?_
  refine Pa.iret (by rfl) ?_
  show Pa N 252 68 [(0, .ref 69), (1, .int 2), (2, .int (yx + 1))] [.int 0, .ref 69] (uI (uI (uI (uI (uI (uI (uI (uI (uI (uI (uI (uI yA 69 85 0) 69 86 yc) 128 0 61) 69 85 1) 128 1 12) 69 85 2) 128 2 11) 69 85 3) 128 3 60) 69 85 4) 128 4 30) 69 85 5) _
  refine Pa.mp 1 (pc' := 69) (l' := [(0, .ref 69), (1, .int 2), (2, .int (yx + 1))]) (st' := [.int (yx + 1), .int 0, .ref 69]) (by rfl) ?_
  refine Pa.inv (by rfl) (by rfl) (.inl rfl) (by rfl) ?_
  show Pa N 252 0 [(0, .ref 69), (1, .int 0), (2, .int (yx + 1))] [] (uI (uI (uI (uI (uI (uI (uI (uI (uI (uI (uI (uI yA 69 85 0) 69 86 yc) 128 0 61) 69 85 1) 128 1 12) 69 85 2) 128 2 11) 69 85 3) 128 3 60) 69 85 4) 128 4 30) 69 85 5) _
  refine Pa.mp 1 (pc' := 1) (l' := [(0, .ref 69), (1, .int 0), (2, .int (yx + 1))]) (st' := [.int 0]) (by rfl) ?_
  refine Pa.mp 1 (pc' := 36) (l' := [(0, .ref 69), (1, .int 0), (2, .int (yx + 1))]) (st' := []) (by rfl) ?_
  refine Pa.mp 1 (pc' := 37) (l' := [(0, .ref 69), (1, .int 0), (2, .int (yx + 1))]) (st' := [.ref 69]) (by rfl) ?_
  refine Pa.ic (x := 10) (pc' := 39) (by rfl) (by rfl) (by decide) ?_
  refine Pa.inv (by rfl) (by rfl) (.inl rfl) (by rfl) ?_
  show Pa N 251 0 [(0, .ref 69), (1, .int 10)] [] (uI (uI (uI (uI (uI (uI (uI (uI (uI (uI (uI (uI yA 69 85 0) 69 86 yc) 128 0 61) 69 85 1) 128 1 12) 69 85 2) 128 2 11) 69 85 3) 128 3 60) 69 85 4) 128 4 30) 69 85 5) _
  refine Pa.mp 1 (pc' := 1) (l' := [(0, .ref 69), (1, .int 10)]) (st' := [.ref 69]) (by rfl) ?_
  refine Pa.gfI (v := 5) (by rfl) (by rfl) (.inl rfl) (by rfl) (by show (uI (uI (uI (uI (uI (uI (uI (uI (uI (uI (uI (uI yA 69 85 0) 69 86 yc) 128 0 61) 69 85 1) 128 1 12) 69 85 2) 128 2 11) 69 85 3) 128 3 60) 69 85 4) 128 4 30) 69 85 5).1 69 85 = 5; rw [uI_h]) ?_
  refine Pa.ic (x := 24) (pc' := 6) (by rfl) (by rfl) (by decide) ?_
  refine Pa.if2k false (by rfl) (by rfl) (by decide) ?_
  show Pa N 251 9 [(0, .ref 69), (1, .int 10)] [] (uI (uI (uI (uI (uI (uI (uI (uI (uI (uI (uI (uI yA 69 85 0) 69 86 yc) 128 0 61) 69 85 1) 128 1 12) 69 85 2) 128 2 11) 69 85 3) 128 3 60) 69 85 4) 128 4 30) 69 85 5) _
  refine Pa.mp 1 (pc' := 10) (l' := [(0, .ref 69), (1, .int 10)]) (st' := [.ref 69]) (by rfl) ?_
  refine Pa.gfR (by rfl) (by rfl) (.inl rfl) (by rfl) ?_
  show Pa N 251 13 [(0, .ref 69), (1, .int 10)] [.ref 128] (uI (uI (uI (uI (uI (uI (uI (uI (uI (uI (uI (uI yA 69 85 0) 69 86 yc) 128 0 61) 69 85 1) 128 1 12) 69 85 2) 128 2 11) 69 85 3) 128 3 60) 69 85 4) 128 4 30) 69 85 5) _
  refine Pa.mp 1 (pc' := 14) (l' := [(0, .ref 69), (1, .int 10)]) (st' := [.ref 69, .ref 128]) (by rfl) ?_
  refine Pa.gfI (v := 5) (by rfl) (by rfl) (.inl rfl) (by rfl) (by show (uI (uI (uI (uI (uI (uI (uI (uI (uI (uI (uI (uI yA 69 85 0) 69 86 yc) 128 0 61) 69 85 1) 128 1 12) 69 85 2) 128 2 11) 69 85 3) 128 3 60) 69 85 4) 128 4 30) 69 85 5).1 69 85 = 5; rw [uI_h]) ?_
  refine Pa.mp 1 (pc' := 18) (l' := [(0, .ref 69), (1, .int 10)]) (st' := [.int 10, .int 5, .ref 128]) (by rfl) ?_
  refine Pa.asts (j' := 5) (by rfl) (by rfl) (by rfl) (fun h15 yh16 => ?_)
  show Pa N 251 19 [(0, .ref 69), (1, .int 10)] [] (uI (uI (uI (uI (uI (uI (uI (uI (uI (uI (uI (uI (uI yA 69 85 0) 69 86 yc) 128 0 61) 69 85 1) 128 1 12) 69 85 2) 128 2 11) 69 85 3) 128 3 60) 69 85 4) 128 4 30) 69 85 5) 128 5 10) _
  refine Pa.mp 2 (pc' := 21) (l' := [(0, .ref 69), (1, .int 10)]) (st' := [.ref 69, .ref 69]) (by rfl) ?_
  refine Pa.gfI (v := 5) (by rfl) (by rfl) (.inl rfl) (by rfl) (by show (uI (uI (uI (uI (uI (uI (uI (uI (uI (uI (uI (uI (uI yA 69 85 0) 69 86 yc) 128 0 61) 69 85 1) 128 1 12) 69 85 2) 128 2 11) 69 85 3) 128 3 60) 69 85 4) 128 4 30) 69 85 5) 128 5 10).1 69 85 = 5; rw [uI_c (by decide), uI_h]) ?_
  refine Pa.ic (x := 1) (pc' := 25) (by rfl) (by rfl) (by decide) ?_
  refine Pa.mp 1 (pc' := 26) (l' := [(0, .ref 69), (1, .int 10)]) (st' := [.int 6, .ref 69]) (by rfl) ?_
  refine Pa.pfI (by rfl) (by rfl) (.inl rfl) (by rfl) ?_
  show Pa N 251 29 [(0, .ref 69), (1, .int 10)] [] (uI (uI (uI (uI (uI (uI (uI (uI (uI (uI (uI (uI (uI (uI yA 69 85 0) 69 86 yc) 128 0 61) 69 85 1) 128 1 12) 69 85 2) 128 2 11) 69 85 3) 128 3 60) 69 85 4) 128 4 30) 69 85 5) 128 5 10) 69 85 6) _
  refine Pa.vret (by rfl) ?_
  show Pa N 252 42 [(0, .ref 69), (1, .int 0), (2, .int (yx + 1))] [] (uI (uI (uI (uI (uI (uI (uI (uI (uI (uI (uI (uI (uI (uI yA 69 85 0) 69 86 yc) 128 0 61) 69 85 1) 128 1 12) 69 85 2) 128 2 11) 69 85 3) 128 3 60) 69 85 4) 128 4 30) 69 85 5) 128 5 10) 69 85 6) _
  refine Pa.mp 3 (pc' := 45) (l' := [(0, .ref 69), (1, .int 0), (2, .int (yx + 1))]) (st' := [.ref 69, .ref 69, .int (yx + 1)]) (by rfl) ?_
  refine Pa.gfI (v := yc) (by rfl) (by rfl) (.inl rfl) (by rfl) (by show (uI (uI (uI (uI (uI (uI (uI (uI (uI (uI (uI (uI (uI (uI yA 69 85 0) 69 86 yc) 128 0 61) 69 85 1) 128 1 12) 69 85 2) 128 2 11) 69 85 3) 128 3 60) 69 85 4) 128 4 30) 69 85 5) 128 5 10) 69 85 6).1 69 86 = yc; rw [uI_k (by decide), uI_c (by decide), uI_k (by decide), uI_c (by decide), uI_k (by decide), uI_c (by decide), uI_k (by decide), uI_c (by decide), uI_k (by decide), uI_c (by decide), uI_k (by decide), uI_c (by decide), uI_h]) ?_
  refine Pa.mp 1 (pc' := 49) (l' := [(0, .ref 69), (1, .int 0), (2, .int (yx + 1))]) (st' := [.ref 69, .int yc, .ref 69, .int (yx + 1)]) (by rfl) ?_
  refine Pa.gfI (v := yA.1 69 0) (by rfl) (by rfl) (.inl rfl) (by rfl) (by show (uI (uI (uI (uI (uI (uI (uI (uI (uI (uI (uI (uI (uI (uI yA 69 85 0) 69 86 yc) 128 0 61) 69 85 1) 128 1 12) 69 85 2) 128 2 11) 69 85 3) 128 3 60) 69 85 4) 128 4 30) 69 85 5) 128 5 10) 69 85 6).1 69 0 = yA.1 69 0; rw [uI_k (by decide), uI_c (by decide), uI_k (by decide), uI_c (by decide), uI_k (by decide), uI_c (by decide), uI_k (by decide), uI_c (by decide), uI_k (by decide), uI_c (by decide), uI_k (by decide), uI_c (by decide), uI_k (by decide), uI_k (by decide)]) ?_
  refine Pa.inv (by rfl) (by rfl) (.inl rfl) (by rfl) ?_
  refine Pa.mono (c_kof N yA (uI (uI (uI (uI (uI (uI (uI (uI (uI (uI (uI (uI (uI (uI yA 69 85 0) 69 86 yc) 128 0 61) 69 85 1) 128 1 12) 69 85 2) 128 2 11) 69 85 3) 128 3 60) 69 85 4) 128 4 30) 69 85 5) 128 5 10) 69 85 6) yc (yA.1 69 0) (funext fun _ => by repeat rw [uI_c (by decide)]) (funext fun _ => by repeat rw [uI_c (by decide)]) (funext fun _ => by repeat rw [uI_c (by decide)])) (fun yu A1 hu => ?_)
  obtain ⟨rfl, hu⟩ := hu
  rw [hu]
  show Pa N 252 55 [(0, .ref 69), (1, .int 0), (2, .int (yx + 1))] [.int (kofM yA yc (yA.1 69 0)), .int (yx + 1)] (uI (uI (uI (uI (uI (uI (uI (uI (uI (uI (uI (uI (uI (uI yA 69 85 0) 69 86 yc) 128 0 61) 69 85 1) 128 1 12) 69 85 2) 128 2 11) 69 85 3) 128 3 60) 69 85 4) 128 4 30) 69 85 5) 128 5 10) 69 85 6) _
  refine Pa.mp 1 (pc' := 56) (l' := [(0, .ref 69), (1, .int 0), (2, .int (yx + 1))]) (st' := [.int ((yx + 1) + (kofM yA yc (yA.1 69 0)))]) (by rfl) ?_
  refine Pa.iret (by rfl) ?_
  show Pa N 252 72 [(0, .ref 69), (1, .int 2), (2, .int (yx + 1))] [.int ((yx + 1) + (kofM yA yc (yA.1 69 0)))] (uI (uI (uI (uI (uI (uI (uI (uI (uI (uI (uI (uI (uI (uI yA 69 85 0) 69 86 yc) 128 0 61) 69 85 1) 128 1 12) 69 85 2) 128 2 11) 69 85 3) 128 3 60) 69 85 4) 128 4 30) 69 85 5) 128 5 10) 69 85 6) _
  refine Pa.ic (x := 4) (pc' := 73) (by rfl) (by rfl) (by decide) ?_
  refine Pa.mp 1 (pc' := 74) (l' := [(0, .ref 69), (1, .int 2), (2, .int (yx + 1))]) (st' := [.int (((yx + 1) + (kofM yA yc (yA.1 69 0))) - 4)]) (by rfl) ?_
  refine Pa.iret (by rfl) ?_
  show Pa N 252 92 [(0, .ref 69), (1, .int 5), (2, .int yx)] [.int (((yx + 1) + (kofM yA yc (yA.1 69 0))) - 4)] (uI (uI (uI (uI (uI (uI (uI (uI (uI (uI (uI (uI (uI (uI yA 69 85 0) 69 86 yc) 128 0 61) 69 85 1) 128 1 12) 69 85 2) 128 2 11) 69 85 3) 128 3 60) 69 85 4) 128 4 30) 69 85 5) 128 5 10) 69 85 6) _
  refine Pa.iret (by rfl) ?_
  show Pa N 253 64 [(0, .ref 69), (1, .int 0), (2, .int yx)] [.int (((yx + 1) + (kofM yA yc (yA.1 69 0))) - 4)] (uI (uI (uI (uI (uI (uI (uI (uI (uI (uI (uI (uI (uI (uI yA 69 85 0) 69 86 yc) 128 0 61) 69 85 1) 128 1 12) 69 85 2) 128 2 11) 69 85 3) 128 3 60) 69 85 4) 128 4 30) 69 85 5) 128 5 10) 69 85 6) _
  refine Pa.ic (x := 2) (pc' := 65) (by rfl) (by rfl) (by decide) ?_
  refine Pa.mp 1 (pc' := 66) (l' := [(0, .ref 69), (1, .int 0), (2, .int yx)]) (st' := [.int ((((yx + 1) + (kofM yA yc (yA.1 69 0))) - 4) * 2)]) (by rfl) ?_
  refine Pa.iret (by rfl) ?_
  show Pa N 253 146 [(0, .ref 69), (1, .int 2), (2, .int yx)] [.int ((((yx + 1) + (kofM yA yc (yA.1 69 0))) - 4) * 2)] (uI (uI (uI (uI (uI (uI (uI (uI (uI (uI (uI (uI (uI (uI yA 69 85 0) 69 86 yc) 128 0 61) 69 85 1) 128 1 12) 69 85 2) 128 2 11) 69 85 3) 128 3 60) 69 85 4) 128 4 30) 69 85 5) 128 5 10) 69 85 6) _
  refine Pa.iret (by rfl) ?_
  show Pa N 253 146 [(0, .ref 69), (1, .int 5), (2, .int yx)] [.int ((((yx + 1) + (kofM yA yc (yA.1 69 0))) - 4) * 2)] (uI (uI (uI (uI (uI (uI (uI (uI (uI (uI (uI (uI (uI (uI yA 69 85 0) 69 86 yc) 128 0 61) 69 85 1) 128 1 12) 69 85 2) 128 2 11) 69 85 3) 128 3 60) 69 85 4) 128 4 30) 69 85 5) 128 5 10) 69 85 6) _
  refine Pa.iret (by rfl) ?_
  show Pa N 254 56 [(0, .ref 69), (1, .int 0), (2, .int yx)] [.int ((((yx + 1) + (kofM yA yc (yA.1 69 0))) - 4) * 2)] (uI (uI (uI (uI (uI (uI (uI (uI (uI (uI (uI (uI (uI (uI yA 69 85 0) 69 86 yc) 128 0 61) 69 85 1) 128 1 12) 69 85 2) 128 2 11) 69 85 3) 128 3 60) 69 85 4) 128 4 30) 69 85 5) 128 5 10) 69 85 6) _
  refine Pa.mp 1 (pc' := 57) (l' := [(0, .ref 69), (1, .int 0), (2, .int yx)]) (st' := [.ref 69, .int ((((yx + 1) + (kofM yA yc (yA.1 69 0))) - 4) * 2)]) (by rfl) ?_
  refine Pa.gfI (v := yc) (by rfl) (by rfl) (.inl rfl) (by rfl) (by show (uI (uI (uI (uI (uI (uI (uI (uI (uI (uI (uI (uI (uI (uI yA 69 85 0) 69 86 yc) 128 0 61) 69 85 1) 128 1 12) 69 85 2) 128 2 11) 69 85 3) 128 3 60) 69 85 4) 128 4 30) 69 85 5) 128 5 10) 69 85 6).1 69 86 = yc; rw [uI_k (by decide), uI_c (by decide), uI_k (by decide), uI_c (by decide), uI_k (by decide), uI_c (by decide), uI_k (by decide), uI_c (by decide), uI_k (by decide), uI_c (by decide), uI_k (by decide), uI_c (by decide), uI_h]) ?_
  refine Pa.mp 1 (pc' := 61) (l' := [(0, .ref 69), (1, .int 0), (2, .int yx)]) (st' := [.int (((((yx + 1) + (kofM yA yc (yA.1 69 0))) - 4) * 2) - yc)]) (by rfl) ?_
  refine Pa.iret (by rfl) ?_
  show Pa N 254 122 [(0, .ref 69), (1, .int 2), (2, .int yx)] [.int (((((yx + 1) + (kofM yA yc (yA.1 69 0))) - 4) * 2) - yc)] (uI (uI (uI (uI (uI (uI (uI (uI (uI (uI (uI (uI (uI (uI yA 69 85 0) 69 86 yc) 128 0 61) 69 85 1) 128 1 12) 69 85 2) 128 2 11) 69 85 3) 128 3 60) 69 85 4) 128 4 30) 69 85 5) 128 5 10) 69 85 6) _
  refine Pa.iret (by rfl) ?_
  show Pa N 254 110 [(0, .ref 69), (1, .int 5), (2, .int yx)] [.int (((((yx + 1) + (kofM yA yc (yA.1 69 0))) - 4) * 2) - yc)] (uI (uI (uI (uI (uI (uI (uI (uI (uI (uI (uI (uI (uI (uI yA 69 85 0) 69 86 yc) 128 0 61) 69 85 1) 128 1 12) 69 85 2) 128 2 11) 69 85 3) 128 3 60) 69 85 4) 128 4 30) 69 85 5) 128 5 10) 69 85 6) _
  refine Pa.ic (x := 3) (pc' := 111) (by rfl) (by rfl) (by decide) ?_
  refine Pa.mp 1 (pc' := 112) (l' := [(0, .ref 69), (1, .int 5), (2, .int yx)]) (st' := [.int ((((((yx + 1) + (kofM yA yc (yA.1 69 0))) - 4) * 2) - yc) * 3)]) (by rfl) ?_
  refine Pa.iret (by rfl) ?_
  exact l1 h5 h6

theorem bpm2_6 {N : Nat} {yA : AW} {yQ : Option Value → AW → Prop} (yx yc : Int32) (hk : yA.1 89 yc.toInt.toNat = 6)
    (l1 : 0 ≤ yc.toInt → yc.toInt < 150 → yQ (some (.int (((-((yx + (kofM yA yc (yA.1 69 0))) * 2)) - (2 + (kofM yA yc (yA.1 69 0)))) - yc))) (uI (uI (uI (uI (uI (uI (uI (uI (uI (uI (uI (uI (uI (uI yA 69 85 0) 69 86 yc) 128 0 12) 69 85 1) 128 1 70) 69 85 2) 128 2 50) 69 85 3) 128 3 11) 69 85 4) 128 4 10) 69 85 5) 128 5 10) 69 85 6)) :
    Pa N 254 0 [(0, .ref 69), (1, .int 6), (2, .int yx)] [] (uI (uI yA 69 85 0) 69 86 yc) yQ := by
  refine Pa.mp 1 (pc' := 1) (l' := [(0, .ref 69), (1, .int 6), (2, .int yx)]) (st' := [.int 6]) (by rfl) ?_
  refine Pa.mp 1 (pc' := 113) (l' := [(0, .ref 69), (1, .int 6), (2, .int yx)]) (st' := []) (by rfl) ?_
  refine Pa.mp 2 (pc' := 115) (l' := [(0, .ref 69), (1, .int 6), (2, .int yx)]) (st' := [.int 6, .ref 69]) (by rfl) ?_
  refine Pa.ist (by rfl) (by rfl) (.inl rfl) (by rfl) (by rfl) ?_
  show Pa N 250 0 [(0, .int 6)] [] (uI (uI yA 69 85 0) 69 86 yc) _
  refine Pa.mp 1 (pc' := 1) (l' := [(0, .int 6)]) (st' := [.int 6]) (by rfl) ?_
  refine Pa.ic (x := 5) (pc' := 2) (by rfl) (by rfl) (by decide) ?_
  refine Pa.if2k false (by rfl) (by rfl) (by decide) ?_
  show Pa N 250 5 [(0, .int 6)] [] (uI (uI yA 69 85 0) 69 86 yc) _
  refine Pa.mp 1 (pc' := 6) (l' := [(0, .int 6)]) (st' := [.int 6]) (by rfl) ?_
  refine Pa.ic (x := 3) (pc' := 7) (by rfl) (by rfl) (by decide) ?_
  refine Pa.if2k true (by rfl) (by rfl) (by decide) ?_
  show Pa N 250 14 [(0, .int 6)] [] (uI (uI yA 69 85 0) 69 86 yc) _
  refine Pa.mp 1 (pc' := 15) (l' := [(0, .int 6)]) (st' := [.int 6]) (by rfl) ?_
  refine Pa.ic (x := 6) (pc' := 17) (by rfl) (by rfl) (by decide) ?_
  refine Pa.if2k false (by rfl) (by rfl) (by decide) ?_
  show Pa N 250 20 [(0, .int 6)] [] (uI (uI yA 69 85 0) 69 86 yc) _
  refine Pa.ic (x := 4) (pc' := 21) (by rfl) (by rfl) (by decide) ?_
  refine Pa.mp 1 (pc' := 25) (l' := [(0, .int 6)]) (st' := [.int 4]) (by rfl) ?_
  refine Pa.iret (by rfl) ?_
  show Pa N 254 118 [(0, .ref 69), (1, .int 6), (2, .int yx)] [.int 4, .ref 69] (uI (uI yA 69 85 0) 69 86 yc) _
  refine Pa.mp 1 (pc' := 119) (l' := [(0, .ref 69), (1, .int 6), (2, .int yx)]) (st' := [.int yx, .int 4, .ref 69]) (by rfl) ?_
  refine Pa.inv (by rfl) (by rfl) (.inl rfl) (by rfl) ?_
  show Pa N 254 0 [(0, .ref 69), (1, .int 4), (2, .int yx)] [] (uI (uI yA 69 85 0) 69 86 yc) _
  refine Pa.mp 1 (pc' := 1) (l' := [(0, .ref 69), (1, .int 4), (2, .int yx)]) (st' := [.int 4]) (by rfl) ?_
  refine Pa.mp 1 (pc' := 113) (l' := [(0, .ref 69), (1, .int 4), (2, .int yx)]) (st' := []) (by rfl) ?_
  refine Pa.mp 2 (pc' := 115) (l' := [(0, .ref 69), (1, .int 4), (2, .int yx)]) (st' := [.int 4, .ref 69]) (by rfl) ?_
  refine Pa.ist (by rfl) (by rfl) (.inl rfl) (by rfl) (by rfl) ?_
  show Pa N 250 0 [(0, .int 4)] [] (uI (uI yA 69 85 0) 69 86 yc) _
  refine Pa.mp 1 (pc' := 1) (l' := [(0, .int 4)]) (st' := [.int 4]) (by rfl) ?_
  refine Pa.ic (x := 5) (pc' := 2) (by rfl) (by rfl) (by decide) ?_
  refine Pa.if2k false (by rfl) (by rfl) (by decide) ?_
  show Pa N 250 5 [(0, .int 4)] [] (uI (uI yA 69 85 0) 69 86 yc) _
  refine Pa.mp 1 (pc' := 6) (l' := [(0, .int 4)]) (st' := [.int 4]) (by rfl) ?_
  refine Pa.ic (x := 3) (pc' := 7) (by rfl) (by rfl) (by decide) ?_
  refine Pa.if2k true (by rfl) (by rfl) (by decide) ?_
  show Pa N 250 14 [(0, .int 4)] [] (uI (uI yA 69 85 0) 69 86 yc) _
  refine Pa.mp 1 (pc' := 15) (l' := [(0, .int 4)]) (st' := [.int 4]) (by rfl) ?_
  refine Pa.ic (x := 6) (pc' := 17) (by rfl) (by rfl) (by decide) ?_
  refine Pa.if2k true (by rfl) (by rfl) (by decide) ?_
  show Pa N 250 24 [(0, .int 4)] [] (uI (uI yA 69 85 0) 69 86 yc) _
  refine Pa.ic (x := 0) (pc' := 25) (by rfl) (by rfl) (by decide) ?_
  refine Pa.iret (by rfl) ?_
  show Pa N 254 118 [(0, .ref 69), (1, .int 4), (2, .int yx)] [.int 0, .ref 69] (uI (uI yA 69 85 0) 69 86 yc) _
  refine Pa.mp 1 (pc' := 119) (l' := [(0, .ref 69), (1, .int 4), (2, .int yx)]) (st' := [.int yx, .int 0, .ref 69]) (by rfl) ?_
  refine Pa.inv (by rfl) (by rfl) (.inl rfl) (by rfl) ?_
  show Pa N 254 0 [(0, .ref 69), (1, .int 0), (2, .int yx)] [] (uI (uI yA 69 85 0) 69 86 yc) _
  refine Pa.mp 1 (pc' := 1) (l' := [(0, .ref 69), (1, .int 0), (2, .int yx)]) (st' := [.int 0]) (by rfl) ?_
  refine Pa.mp 1 (pc' := 36) (l' := [(0, .ref 69), (1, .int 0), (2, .int yx)]) (st' := []) (by rfl) ?_
  refine Pa.mp 1 (pc' := 37) (l' := [(0, .ref 69), (1, .int 0), (2, .int yx)]) (st' := [.ref 69]) (by rfl) ?_
  refine Pa.ic (x := 12) (pc' := 39) (by rfl) (by rfl) (by decide) ?_
  refine Pa.inv (by rfl) (by rfl) (.inl rfl) (by rfl) ?_
  show Pa N 251 0 [(0, .ref 69), (1, .int 12)] [] (uI (uI yA 69 85 0) 69 86 yc) _
  refine Pa.mp 1 (pc' := 1) (l' := [(0, .ref 69), (1, .int 12)]) (st' := [.ref 69]) (by rfl) ?_
  refine Pa.gfI (v := 0) (by rfl) (by rfl) (.inl rfl) (by rfl) (by show (uI (uI yA 69 85 0) 69 86 yc).1 69 85 = 0; rw [uI_k (by decide), uI_h]) ?_
  refine Pa.ic (x := 24) (pc' := 6) (by rfl) (by rfl) (by decide) ?_
  refine Pa.if2k false (by rfl) (by rfl) (by decide) ?_
  show Pa N 251 9 [(0, .ref 69), (1, .int 12)] [] (uI (uI yA 69 85 0) 69 86 yc) _
  refine Pa.mp 1 (pc' := 10) (l' := [(0, .ref 69), (1, .int 12)]) (st' := [.ref 69]) (by rfl) ?_
  refine Pa.gfR (by rfl) (by rfl) (.inl rfl) (by rfl) ?_
  show Pa N 251 13 [(0, .ref 69), (1, .int 12)] [.ref 128] (uI (uI yA 69 85 0) 69 86 yc) _
  refine Pa.mp 1 (pc' := 14) (l' := [(0, .ref 69), (1, .int 12)]) (st' := [.ref 69, .ref 128]) (by rfl) ?_
  refine Pa.gfI (v := 0) (by rfl) (by rfl) (.inl rfl) (by rfl) (by show (uI (uI yA 69 85 0) 69 86 yc).1 69 85 = 0; rw [uI_k (by decide), uI_h]) ?_
  refine Pa.mp 1 (pc' := 18) (l' := [(0, .ref 69), (1, .int 12)]) (st' := [.int 12, .int 0, .ref 128]) (by rfl) ?_
  refine Pa.asts (j' := 0) (by rfl) (by rfl) (by rfl) (fun h1 h2 => ?_)
  show Pa N 251 19 [(0, .ref 69), (1, .int 12)] [] (uI (uI (uI yA 69 85 0) 69 86 yc) 128 0 12) _
  refine Pa.mp 2 (pc' := 21) (l' := [(0, .ref 69), (1, .int 12)]) (st' := [.ref 69, .ref 69]) (by rfl) ?_
  refine Pa.gfI (v := 0) (by rfl) (by rfl) (.inl rfl) (by rfl) (by show (uI (uI (uI yA 69 85 0) 69 86 yc) 128 0 12).1 69 85 = 0; rw [uI_c (by decide), uI_k (by decide), uI_h]) ?_
  refine Pa.ic (x := 1) (pc' := 25) (by rfl) (by rfl) (by decide) ?_
  refine Pa.mp 1 (pc' := 26) (l' := [(0, .ref 69), (1, .int 12)]) (st' := [.int 1, .ref 69]) (by rfl) ?_
  refine Pa.pfI (by rfl) (by rfl) (.inl rfl) (by rfl) ?_
  show Pa N 251 29 [(0, .ref 69), (1, .int 12)] [] (uI (uI (uI (uI yA 69 85 0) 69 86 yc) 128 0 12) 69 85 1) _
  refine Pa.vret (by rfl) ?_
  show Pa N 254 42 [(0, .ref 69), (1, .int 0), (2, .int yx)] [] (uI (uI (uI (uI yA 69 85 0) 69 86 yc) 128 0 12) 69 85 1) _
  refine Pa.mp 2 (pc' := 44) (l' := [(0, .ref 69), (1, .int 0), (2, .int yx)]) (st' := [.ref 69, .ref 69]) (by rfl) ?_
  refine Pa.gfR (by rfl) (by rfl) (.inl rfl) (by rfl) ?_
  show Pa N 254 47 [(0, .ref 69), (1, .int 0), (2, .int yx)] [.ref 89, .ref 69] (uI (uI (uI (uI yA 69 85 0) 69 86 yc) 128 0 12) 69 85 1) _
  refine Pa.mp 1 (pc' := 48) (l' := [(0, .ref 69), (1, .int 0), (2, .int yx)]) (st' := [.ref 69, .ref 89, .ref 69]) (by rfl) ?_
  refine Pa.gfI (v := yc) (by rfl) (by rfl) (.inl rfl) (by rfl) (by show (uI (uI (uI (uI yA 69 85 0) 69 86 yc) 128 0 12) 69 85 1).1 69 86 = yc; rw [uI_k (by decide), uI_c (by decide), uI_h]) ?_
  refine Pa.alds (v := 6) (by rfl) (by rfl) (by show (uI (uI (uI (uI yA 69 85 0) 69 86 yc) 128 0 12) 69 85 1).1 89 yc.toInt.toNat = 6; rw [uI_c (by decide), uI_c (by decide), uI_c (by decide), uI_c (by decide), hk]) (fun h3 h4 => ?_)
  have h3 : 0 ≤ yc.toInt := h3
  have h4 : yc.toInt < 150 := h4
  refine Pa.mp 1 (pc' := 53) (l' := [(0, .ref 69), (1, .int 0), (2, .int yx)]) (st' := [.int yx, .int 6, .ref 69]) (by rfl) ?_
  refine Pa.inv (by rfl) (by rfl) (.inl rfl) (by rfl) ?_
  show Pa N 253 0 [(0, .ref 69), (1, .int 6), (2, .int yx)] [] (uI (uI (uI (uI yA 69 85 0) 69 86 yc) 128 0 12) 69 85 1) _
  refine Pa.mp 1 (pc' := 1) (l' := [(0, .ref 69), (1, .int 6), (2, .int yx)]) (st' := [.int 6]) (by rfl) ?_
  refine Pa.mp 1 (pc' := 103) (l' := [(0, .ref 69), (1, .int 6), (2, .int yx)]) (st' := []) (by rfl) ?_
  refine Pa.mp 1 (pc' := 104) (l' := [(0, .ref 69), (1, .int 6), (2, .int yx)]) (st' := [.ref 69]) (by rfl) ?_
  refine Pa.ic (x := 70) (pc' := 106) (by rfl) (by rfl) (by decide) ?_
  refine Pa.inv (by rfl) (by rfl) (.inl rfl) (by rfl) ?_
  show Pa N 251 0 [(0, .ref 69), (1, .int 70)] [] (uI (uI (uI (uI yA 69 85 0) 69 86 yc) 128 0 12) 69 85 1) _
  refine Pa.mp 1 (pc' := 1) (l' := [(0, .ref 69), (1, .int 70)]) (st' := [.ref 69]) (by rfl) ?_
  refine Pa.gfI (v := 1) (by rfl) (by rfl) (.inl rfl) (by rfl) (by show (uI (uI (uI (uI yA 69 85 0) 69 86 yc) 128 0 12) 69 85 1).1 69 85 = 1; rw [uI_h]) ?_
  refine Pa.ic (x := 24) (pc' := 6) (by rfl) (by rfl) (by decide) ?_
  refine Pa.if2k false (by rfl) (by rfl) (by decide) ?_
  show Pa N 251 9 [(0, .ref 69), (1, .int 70)] [] (uI (uI (uI (uI yA 69 85 0) 69 86 yc) 128 0 12) 69 85 1) _
  refine Pa.mp 1 (pc' := 10) (l' := [(0, .ref 69), (1, .int 70)]) (st' := [.ref 69]) (by rfl) ?_
  refine Pa.gfR (by rfl) (by rfl) (.inl rfl) (by rfl) ?_
  show Pa N 251 13 [(0, .ref 69), (1, .int 70)] [.ref 128] (uI (uI (uI (uI yA 69 85 0) 69 86 yc) 128 0 12) 69 85 1) _
  refine Pa.mp 1 (pc' := 14) (l' := [(0, .ref 69), (1, .int 70)]) (st' := [.ref 69, .ref 128]) (by rfl) ?_
  refine Pa.gfI (v := 1) (by rfl) (by rfl) (.inl rfl) (by rfl) (by show (uI (uI (uI (uI yA 69 85 0) 69 86 yc) 128 0 12) 69 85 1).1 69 85 = 1; rw [uI_h]) ?_
  refine Pa.mp 1 (pc' := 18) (l' := [(0, .ref 69), (1, .int 70)]) (st' := [.int 70, .int 1, .ref 128]) (by rfl) ?_
  refine Pa.asts (j' := 1) (by rfl) (by rfl) (by rfl) (fun h5 h6 => ?_)
  show Pa N 251 19 [(0, .ref 69), (1, .int 70)] [] (uI (uI (uI (uI (uI yA 69 85 0) 69 86 yc) 128 0 12) 69 85 1) 128 1 70) _
  refine Pa.mp 2 (pc' := 21) (l' := [(0, .ref 69), (1, .int 70)]) (st' := [.ref 69, .ref 69]) (by rfl) ?_
  refine Pa.gfI (v := 1) (by rfl) (by rfl) (.inl rfl) (by rfl) (by show (uI (uI (uI (uI (uI yA 69 85 0) 69 86 yc) 128 0 12) 69 85 1) 128 1 70).1 69 85 = 1; rw [uI_c (by decide), uI_h]) ?_
  refine Pa.ic (x := 1) (pc' := 25) (by rfl) (by rfl) (by decide) ?_
  refine Pa.mp 1 (pc' := 26) (l' := [(0, .ref 69), (1, .int 70)]) (st' := [.int 2, .ref 69]) (by rfl) ?_
  refine Pa.pfI (by rfl) (by rfl) (.inl rfl) (by rfl) ?_
  show Pa N 251 29 [(0, .ref 69), (1, .int 70)] [] (uI (uI (uI (uI (uI (uI yA 69 85 0) 69 86 yc) 128 0 12) 69 85 1) 128 1 70) 69 85 2) _
  refine Pa.vret (by rfl) ?_
  show Pa N 253 109 [(0, .ref 69), (1, .int 6), (2, .int yx)] [] (uI (uI (uI (uI (uI (uI yA 69 85 0) 69 86 yc) 128 0 12) 69 85 1) 128 1 70) 69 85 2) _
  refine Pa.mp 1 (pc' := 110) (l' := [(0, .ref 69), (1, .int 6), (2, .int yx)]) (st' := [.ref 69]) (by rfl) ?_
  refine Pa.ic (x := 6) (pc' := 112) (by rfl) (by rfl) (by decide) ?_
  refine Pa.ist (by rfl) (by rfl) (.inl rfl) (by rfl) (by rfl) ?_
  show Pa N 250 0 [(0, .int 6)] [] (uI (uI (uI (uI (uI (uI yA 69 85 0) 69 86 yc) 128 0 12) 69 85 1) 128 1 70) 69 85 2) _
  refine Pa.mp 1 (pc' := 1) (l' := [(0, .int 6)]) (st' := [.int 6]) (by rfl) ?_
  refine Pa.ic (x := 5) (pc' := 2) (by rfl) (by rfl) (by decide) ?_
  refine Pa.if2k false (by rfl) (by rfl) (by decide) ?_
  show Pa N 250 5 [(0, .int 6)] [] (uI (uI (uI (uI (uI (uI yA 69 85 0) 69 86 yc) 128 0 12) 69 85 1) 128 1 70) 69 85 2) _
  refine Pa.mp 1 (pc' := 6) (l' := [(0, .int 6)]) (st' := [.int 6]) (by rfl) ?_
  refine Pa.ic (x := 3) (pc' := 7) (by rfl) (by rfl) (by decide) ?_
  refine Pa.if2k true (by rfl) (by rfl) (by decide) ?_
  show Pa N 250 14 [(0, .int 6)] [] (uI (uI (uI (uI (uI (uI yA 69 85 0) 69 86 yc) 128 0 12) 69 85 1) 128 1 70) 69 85 2) _
  refine Pa.mp 1 (pc' := 15) (l' := [(0, .int 6)]) (st' := [.int 6]) (by rfl) ?_
  refine Pa.ic (x := 6) (pc' := 17) (by rfl) (by rfl) (by decide) ?_
  refine Pa.if2k false (by rfl) (by rfl) (by decide) ?_
  show Pa N 250 20 [(0, .int 6)] [] (uI (uI (uI (uI (uI (uI yA 69 85 0) 69 86 yc) 128 0 12) 69 85 1) 128 1 70) 69 85 2) _
  refine Pa.ic (x := 4) (pc' := 21) (by rfl) (by rfl) (by decide) ?_
  refine Pa.mp 1 (pc' := 25) (l' := [(0, .int 6)]) (st' := [.int 4]) (by rfl) ?_
  refine Pa.iret (by rfl) ?_
  show Pa N 253 115 [(0, .ref 69), (1, .int 6), (2, .int yx)] [.int 4, .ref 69] (uI (uI (uI (uI (uI (uI yA 69 85 0) 69 86 yc) 128 0 12) 69 85 1) 128 1 70) 69 85 2) _
  refine Pa.mp 1 (pc' := 116) (l' := [(0, .ref 69), (1, .int 6), (2, .int yx)]) (st' := [.int yx, .int 4, .ref 69]) (by rfl) ?_
  refine Pa.inv (by rfl) (by rfl) (.inl rfl) (by rfl) ?_
  show Pa N 253 0 [(0, .ref 69), (1, .int 4), (2, .int yx)] [] (uI (uI (uI (uI (uI (uI yA 69 85 0) 69 86 yc) 128 0 12) 69 85 1) 128 1 70) 69 85 2) _
  refine Pa.mp 1 (pc' := 1) (l' := [(0, .ref 69), (1, .int 4), (2, .int yx)]) (st' := [.int 4]) (by rfl) ?_
  refine Pa.mp 1 (pc' := 86) (l' := [(0, .ref 69), (1, .int 4), (2, .int yx)]) (st' := []) (by rfl) ?_
  refine Pa.mp 1 (pc' := 87) (l' := [(0, .ref 69), (1, .int 4), (2, .int yx)]) (st' := [.ref 69]) (by rfl) ?_
  refine Pa.ic (x := 50) (pc' := 89) (by rfl) (by rfl) (by decide) ?_
  refine Pa.inv (by rfl) (by rfl) (.inl rfl) (by rfl) ?_
  show Pa N 251 0 [(0, .ref 69), (1, .int 50)] [] (uI (uI (uI (uI (uI (uI yA 69 85 0) 69 86 yc) 128 0 12) 69 85 1) 128 1 70) 69 85 2) _
  refine Pa.mp 1 (pc' := 1) (l' := [(0, .ref 69), (1, .int 50)]) (st' := [.ref 69]) (by rfl) ?_
  refine Pa.gfI (v := 2) (by rfl) (by rfl) (.inl rfl) (by rfl) (by show (uI (uI (uI (uI (uI (uI yA 69 85 0) 69 86 yc) 128 0 12) 69 85 1) 128 1 70) 69 85 2).1 69 85 = 2; rw [uI_h]) ?_
  refine Pa.ic (x := 24) (pc' := 6) (by rfl) (by rfl) (by decide) ?_
  refine Pa.if2k false (by rfl) (by rfl) (by decide) ?_
  show Pa N 251 9 [(0, .ref 69), (1, .int 50)] [] (uI (uI (uI (uI (uI (uI yA 69 85 0) 69 86 yc) 128 0 12) 69 85 1) 128 1 70) 69 85 2) _
  refine Pa.mp 1 (pc' := 10) (l' := [(0, .ref 69), (1, .int 50)]) (st' := [.ref 69]) (by rfl) ?_
  refine Pa.gfR (by rfl) (by rfl) (.inl rfl) (by rfl) ?_
  show Pa N 251 13 [(0, .ref 69), (1, .int 50)] [.ref 128] (uI (uI (uI (uI (uI (uI yA 69 85 0) 69 86 yc) 128 0 12) 69 85 1) 128 1 70) 69 85 2) _
  refine Pa.mp 1 (pc' := 14) (l' := [(0, .ref 69), (1, .int 50)]) (st' := [.ref 69, .ref 128]) (by rfl) ?_
  refine Pa.gfI (v := 2) (by rfl) (by rfl) (.inl rfl) (by rfl) (by show (uI (uI (uI (uI (uI (uI yA 69 85 0) 69 86 yc) 128 0 12) 69 85 1) 128 1 70) 69 85 2).1 69 85 = 2; rw [uI_h]) ?_
  refine Pa.mp 1 (pc' := 18) (l' := [(0, .ref 69), (1, .int 50)]) (st' := [.int 50, .int 2, .ref 128]) (by rfl) ?_
  refine Pa.asts (j' := 2) (by rfl) (by rfl) (by rfl) (fun h7 h8 => ?_)
  show Pa N 251 19 [(0, .ref 69), (1, .int 50)] [] (uI (uI (uI (uI (uI (uI (uI yA 69 85 0) 69 86 yc) 128 0 12) 69 85 1) 128 1 70) 69 85 2) 128 2 50) _
  refine Pa.mp 2 (pc' := 21) (l' := [(0, .ref 69), (1, .int 50)]) (st' := [.ref 69, .ref 69]) (by rfl) ?_
  refine Pa.gfI (v := 2) (by rfl) (by rfl) (.inl rfl) (by rfl) (by show (uI (uI (uI (uI (uI (uI (uI yA 69 85 0) 69 86 yc) 128 0 12) 69 85 1) 128 1 70) 69 85 2) 128 2 50).1 69 85 = 2; rw [uI_c (by decide), uI_h]) ?_
  refine Pa.ic (x := 1) (pc' := 25) (by rfl) (by rfl) (by decide) ?_
  refine Pa.mp 1 (pc' := 26) (l' := [(0, .ref 69), (1, .int 50)]) (st' := [.int 3, .ref 69]) (by rfl) ?_
  refine Pa.pfI (by rfl) (by rfl) (.inl rfl) (by rfl) ?_
  show Pa N 251 29 [(0, .ref 69), (1, .int 50)] [] (uI (uI (uI (uI (uI (uI (uI (uI yA 69 85 0) 69 86 yc) 128 0 12) 69 85 1) 128 1 70) 69 85 2) 128 2 50) 69 85 3) _
  refine Pa.vret (by rfl) ?_
  show Pa N 253 92 [(0, .ref 69), (1, .int 4), (2, .int yx)] [] (uI (uI (uI (uI (uI (uI (uI (uI yA 69 85 0) 69 86 yc) 128 0 12) 69 85 1) 128 1 70) 69 85 2) 128 2 50) 69 85 3) _
  refine Pa.mp 1 (pc' := 93) (l' := [(0, .ref 69), (1, .int 4), (2, .int yx)]) (st' := [.ref 69]) (by rfl) ?_
  refine Pa.ic (x := 4) (pc' := 94) (by rfl) (by rfl) (by decide) ?_
  refine Pa.ist (by rfl) (by rfl) (.inl rfl) (by rfl) (by rfl) ?_
  show Pa N 250 0 [(0, .int 4)] [] (uI (uI (uI (uI (uI (uI (uI (uI yA 69 85 0) 69 86 yc) 128 0 12) 69 85 1) 128 1 70) 69 85 2) 128 2 50) 69 85 3) _
  refine Pa.mp 1 (pc' := 1) (l' := [(0, .int 4)]) (st' := [.int 4]) (by rfl) ?_
  refine Pa.ic (x := 5) (pc' := 2) (by rfl) (by rfl) (by decide) ?_
  refine Pa.if2k false (by rfl) (by rfl) (by decide) ?_
  show Pa N 250 5 [(0, .int 4)] [] (uI (uI (uI (uI (uI (uI (uI (uI yA 69 85 0) 69 86 yc) 128 0 12) 69 85 1) 128 1 70) 69 85 2) 128 2 50) 69 85 3) _
  refine Pa.mp 1 (pc' := 6) (l' := [(0, .int 4)]) (st' := [.int 4]) (by rfl) ?_
  refine Pa.ic (x := 3) (pc' := 7) (by rfl) (by rfl) (by decide) ?_
  refine Pa.if2k true (by rfl) (by rfl) (by decide) ?_
  show Pa N 250 14 [(0, .int 4)] [] (uI (uI (uI (uI (uI (uI (uI (uI yA 69 85 0) 69 86 yc) 128 0 12) 69 85 1) 128 1 70) 69 85 2) 128 2 50) 69 85 3) _
  refine Pa.mp 1 (pc' := 15) (l' := [(0, .int 4)]) (st' := [.int 4]) (by rfl) ?_
  refine Pa.ic (x := 6) (pc' := 17) (by rfl) (by rfl) (by decide) ?_
  refine Pa.if2k true (by rfl) (by rfl) (by decide) ?_
  show Pa N 250 24 [(0, .int 4)] [] (uI (uI (uI (uI (uI (uI (uI (uI yA 69 85 0) 69 86 yc) 128 0 12) 69 85 1) 128 1 70) 69 85 2) 128 2 50) 69 85 3) _
  refine Pa.ic (x := 0) (pc' := 25) (by rfl) (by rfl) (by decide) ?_
  refine Pa.iret (by rfl) ?_
  show Pa N 253 97 [(0, .ref 69), (1, .int 4), (2, .int yx)] [.int 0, .ref 69] (uI (uI (uI (uI (uI (uI (uI (uI yA 69 85 0) 69 86 yc) 128 0 12) 69 85 1) 128 1 70) 69 85 2) 128 2 50) 69 85 3) _
  refine Pa.mp 1 (pc' := 98) (l' := [(0, .ref 69), (1, .int 4), (2, .int yx)]) (st' := [.int yx, .int 0, .ref 69]) (by rfl) ?_
  refine Pa.inv (by rfl) (by rfl) (.inl rfl) (by rfl) ?_
  show Pa N 253 0 [(0, .ref 69), (1, .int 0), (2, .int yx)] [] (uI (uI (uI (uI (uI (uI (uI (uI yA 69 85 0) 69 86 yc) 128 0 12) 69 85 1) 128 1 70) 69 85 2) 128 2 50) 69 85 3) _
  refine Pa.mp 1 (pc' := 1) (l' := [(0, .ref 69), (1, .int 0), (2, .int yx)]) (st' := [.int 0]) (by rfl) ?_
  refine Pa.mp 1 (pc' := 44) (l' := [(0, .ref 69), (1, .int 0), (2, .int yx)]) (st' := []) (by rfl) ?_
  refine Pa.mp 1 (pc' := 45) (l' := [(0, .ref 69), (1, .int 0), (2, .int yx)]) (st' := [.ref 69]) (by rfl) ?_
  refine Pa.ic (x := 11) (pc' := 47) (by rfl) (by rfl) (by decide) ?_
  refine Pa.inv (by rfl) (by rfl) (.inl rfl) (by rfl) ?_
  show Pa N 251 0 [(0, .ref 69), (1, .int 11)] [] (uI (uI (uI (uI (uI (uI (uI (uI yA 69 85 0) 69 86 yc) 128 0 12) 69 85 1) 128 1 70) 69 85 2) 128 2 50) 69 85 3) _
  refine Pa.mp 1 (pc' := 1) (l' := [(0, .ref 69), (1, .int 11)]) (st' := [.ref 69]) (by rfl) ?_
  refine Pa.gfI (v := 3) (by rfl) (by rfl) (.inl rfl) (by rfl) (by show (uI (uI (uI (uI (uI (uI (uI (uI yA 69 85 0) 69 86 yc) 128 0 12) 69 85 1) 128 1 70) 69 85 2) 128 2 50) 69 85 3).1 69 85 = 3; rw [uI_h]) ?_
  refine Pa.ic (x := 24) (pc' := 6) (by rfl) (by rfl) (by decide) ?_
  refine Pa.if2k false (by rfl) (by rfl) (by decide) ?_
  show Pa N 251 9 [(0, .ref 69), (1, .int 11)] [] (uI (uI (uI (uI (uI (uI (uI (uI yA 69 85 0) 69 86 yc) 128 0 12) 69 85 1) 128 1 70) 69 85 2) 128 2 50) 69 85 3) _
  refine Pa.mp 1 (pc' := 10) (l' := [(0, .ref 69), (1, .int 11)]) (st' := [.ref 69]) (by rfl) ?_
  refine Pa.gfR (by rfl) (by rfl) (.inl rfl) (by rfl) ?_
  show Pa N 251 13 [(0, .ref 69), (1, .int 11)] [.ref 128] (uI (uI (uI (uI (uI (uI (uI (uI yA 69 85 0) 69 86 yc) 128 0 12) 69 85 1) 128 1 70) 69 85 2) 128 2 50) 69 85 3) _
  refine Pa.mp 1 (pc' := 14) (l' := [(0, .ref 69), (1, .int 11)]) (st' := [.ref 69, .ref 128]) (by rfl) ?_
  refine Pa.gfI (v := 3) (by rfl) (by rfl) (.inl rfl) (by rfl) (by show (uI (uI (uI (uI (uI (uI (uI (uI yA 69 85 0) 69 86 yc) 128 0 12) 69 85 1) 128 1 70) 69 85 2) 128 2 50) 69 85 3).1 69 85 = 3; rw [uI_h]) ?_
  refine Pa.mp 1 (pc' := 18) (l' := [(0, .ref 69), (1, .int 11)]) (st' := [.int 11, .int 3, .ref 128]) (by rfl) ?_
  refine Pa.asts (j' := 3) (by rfl) (by rfl) (by rfl) (fun h9 h10 => ?_)
  show Pa N 251 19 [(0, .ref 69), (1, .int 11)] [] (uI (uI (uI (uI (uI (uI (uI (uI (uI yA 69 85 0) 69 86 yc) 128 0 12) 69 85 1) 128 1 70) 69 85 2) 128 2 50) 69 85 3) 128 3 11) _
  refine Pa.mp 2 (pc' := 21) (l' := [(0, .ref 69), (1, .int 11)]) (st' := [.ref 69, .ref 69]) (by rfl) ?_
  refine Pa.gfI (v := 3) (by rfl) (by rfl) (.inl rfl) (by rfl) (by show (uI (uI (uI (uI (uI (uI (uI (uI (uI yA 69 85 0) 69 86 yc) 128 0 12) 69 85 1) 128 1 70) 69 85 2) 128 2 50) 69 85 3) 128 3 11).1 69 85 = 3; rw [uI_c (by decide), uI_h]) ?_
  refine Pa.ic (x := 1) (pc' := 25) (by rfl) (by rfl) (by decide) ?_
  refine Pa.mp 1 (pc' := 26) (l' := [(0, .ref 69), (1, .int 11)]) (st' := [.int 4, .ref 69]) (by rfl) ?_
  refine Pa.pfI (by rfl) (by rfl) (.inl rfl) (by rfl) ?_
  show Pa N 251 29 [(0, .ref 69), (1, .int 11)] [] (uI (uI (uI (uI (uI (uI (uI (uI (uI (uI yA 69 85 0) 69 86 yc) 128 0 12) 69 85 1) 128 1 70) 69 85 2) 128 2 50) 69 85 3) 128 3 11) 69 85 4) _
  refine Pa.vret (by rfl) ?_
  show Pa N 253 50 [(0, .ref 69), (1, .int 0), (2, .int yx)] [] (uI (uI (uI (uI (uI (uI (uI (uI (uI (uI yA 69 85 0) 69 86 yc) 128 0 12) 69 85 1) 128 1 70) 69 85 2) 128 2 50) 69 85 3) 128 3 11) 69 85 4) _
  refine Pa.mp 2 (pc' := 52) (l' := [(0, .ref 69), (1, .int 0), (2, .int yx)]) (st' := [.ref 69, .ref 69]) (by rfl) ?_
  refine Pa.gfR (by rfl) (by rfl) (.inl rfl) (by rfl) ?_
  show Pa N 253 55 [(0, .ref 69), (1, .int 0), (2, .int yx)] [.ref 89, .ref 69] (uI (uI (uI (uI (uI (uI (uI (uI (uI (uI yA 69 85 0) 69 86 yc) 128 0 12) 69 85 1) 128 1 70) 69 85 2) 128 2 50) 69 85 3) 128 3 11) 69 85 4) _
  refine Pa.mp 1 (pc' := 56) (l' := [(0, .ref 69), (1, .int 0), (2, .int yx)]) (st' := [.ref 69, .ref 89, .ref 69]) (by rfl) ?_
  refine Pa.gfI (v := yc) (by rfl) (by rfl) (.inl rfl) (by rfl) (by show (uI (uI (uI (uI (uI (uI (uI (uI (uI (uI yA 69 85 0) 69 86 yc) 128 0 12) 69 85 1) 128 1 70) 69 85 2) 128 2 50) 69 85 3) 128 3 11) 69 85 4).1 69 86 = yc; rw [uI_k (by decide), uI_c (by decide), uI_k (by decide), uI_c (by decide), uI_k (by decide), uI_c (by decide), uI_k (by decide), uI_c (by decide), uI_h]) ?_
  refine Pa.alds (v := 6) (by rfl) (by rfl) (by show (uI (uI (uI (uI (uI (uI (uI (uI (uI (uI yA 69 85 0) 69 86 yc) 128 0 12) 69 85 1) 128 1 70) 69 85 2) 128 2 50) 69 85 3) 128 3 11) 69 85 4).1 89 yc.toInt.toNat = 6; rw [uI_c (by decide), uI_c (by decide), uI_c (by decide), uI_c (by decide), uI_c (by decide), uI_c (by decide), uI_c (by decide), uI_c (by decide), uI_c (by decide), uI_c (by decide), hk]) (fun h11 h12 => ?_)
  have h11 : 0 ≤ yc.toInt := h11
  have h12 : yc.toInt < 150 := h12
  refine Pa.mp 1 (pc' := 61) (l' := [(0, .ref 69), (1, .int 0), (2, .int yx)]) (st' := [.int yx, .int 6, .ref 69]) (by rfl) ?_
  refine Pa.inv (by rfl) (by rfl) (.inl rfl) (by rfl) ?_
  show Pa N 252 0 [(0, .ref 69), (1, .int 6), (2, .int yx)] [] (uI (uI (uI (uI (uI (uI (uI (uI (uI (uI yA 69 85 0) 69 86 yc) 128 0 12) 69 85 1) 128 1 70) 69 85 2) 128 2 50) 69 85 3) 128 3 11) 69 85 4) _
  refine Pa.mp 1 (pc' := 1) (l' := [(0, .ref 69), (1, .int 6), (2, .int yx)]) (st' := [.int 6]) (by rfl) ?_
  refine Pa.mp 1 (pc' := 93) (l' := [(0, .ref 69), (1, .int 6), (2, .int yx)]) (st' := []) (by rfl) ?_
  refine Pa.mp 2 (pc' := 95) (l' := [(0, .ref 69), (1, .int 6), (2, .int yx)]) (st' := [.int 6, .ref 69]) (by rfl) ?_
  refine Pa.ist (by rfl) (by rfl) (.inl rfl) (by rfl) (by rfl) ?_
  show Pa N 250 0 [(0, .int 6)] [] (uI (uI (uI (uI (uI (uI (uI (uI (uI (uI yA 69 85 0) 69 86 yc) 128 0 12) 69 85 1) 128 1 70) 69 85 2) 128 2 50) 69 85 3) 128 3 11) 69 85 4) _
  refine Pa.mp 1 (pc' := 1) (l' := [(0, .int 6)]) (st' := [.int 6]) (by rfl) ?_
  refine Pa.ic (x := 5) (pc' := 2) (by rfl) (by rfl) (by decide) ?_
  refine Pa.if2k false (by rfl) (by rfl) (by decide) ?_
  show Pa N 250 5 [(0, .int 6)] [] (uI (uI (uI (uI (uI (uI (uI (uI (uI (uI yA 69 85 0) 69 86 yc) 128 0 12) 69 85 1) 128 1 70) 69 85 2) 128 2 50) 69 85 3) 128 3 11) 69 85 4) _
  refine Pa.mp 1 (pc' := 6) (l' := [(0, .int 6)]) (st' := [.int 6]) (by rfl) ?_
  refine Pa.ic (x := 3) (pc' := 7) (by rfl) (by rfl) (by decide) ?_
  refine Pa.if2k true (by rfl) (by rfl) (by decide) ?_
  show Pa N 250 14 [(0, .int 6)] [] (uI (uI (uI (uI (uI (uI (uI (uI (uI (uI yA 69 85 0) 69 86 yc) 128 0 12) 69 85 1) 128 1 70) 69 85 2) 128 2 50) 69 85 3) 128 3 11) 69 85 4) _
  refine Pa.mp 1 (pc' := 15) (l' := [(0, .int 6)]) (st' := [.int 6]) (by rfl) ?_
  refine Pa.ic (x := 6) (pc' := 17) (by rfl) (by rfl) (by decide) ?_
  refine Pa.if2k false (by rfl) (by rfl) (by decide) ?_
  show Pa N 250 20 [(0, .int 6)] [] (uI (uI (uI (uI (uI (uI (uI (uI (uI (uI yA 69 85 0) 69 86 yc) 128 0 12) 69 85 1) 128 1 70) 69 85 2) 128 2 50) 69 85 3) 128 3 11) 69 85 4) _
  refine Pa.ic (x := 4) (pc' := 21) (by rfl) (by rfl) (by decide) ?_
  refine Pa.mp 1 (pc' := 25) (l' := [(0, .int 6)]) (st' := [.int 4]) (by rfl) ?_
  refine Pa.iret (by rfl) ?_
  show Pa N 252 98 [(0, .ref 69), (1, .int 6), (2, .int yx)] [.int 4, .ref 69] (uI (uI (uI (uI (uI (uI (uI (uI (uI (uI yA 69 85 0) 69 86 yc) 128 0 12) 69 85 1) 128 1 70) 69 85 2) 128 2 50) 69 85 3) 128 3 11) 69 85 4) _
  refine Pa.mp 1 (pc' := 99) (l' := [(0, .ref 69), (1, .int 6), (2, .int yx)]) (st' := [.int yx, .int 4, .ref 69]) (by rfl) ?_
  refine Pa.inv (by rfl) (by rfl) (.inl rfl) (by rfl) ?_
  show Pa N 252 0 [(0, .ref 69), (1, .int 4), (2, .int yx)] [] (uI (uI (uI (uI (uI (uI (uI (uI (uI (uI yA 69 85 0) 69 86 yc) 128 0 12) 69 85 1) 128 1 70) 69 85 2) 128 2 50) 69 85 3) 128 3 11) 69 85 4) _
  refine Pa.mp 1 (pc' := 1) (l' := [(0, .ref 69), (1, .int 4), (2, .int yx)]) (st' := [.int 4]) (by rfl) ?_
  refine Pa.mp 1 (pc' := 93) (l' := [(0, .ref 69), (1, .int 4), (2, .int yx)]) (st' := []) (by rfl) ?_
  refine Pa.mp 2 (pc' := 95) (l' := [(0, .ref 69), (1, .int 4), (2, .int yx)]) (st' := [.int 4, .ref 69]) (by rfl) ?_
  refine Pa.ist (by rfl) (by rfl) (.inl rfl) (by rfl) (by rfl) ?_
  show Pa N 250 0 [(0, .int 4)] [] (uI (uI (uI (uI (uI (uI (uI (uI (uI (uI yA 69 85 0) 69 86 yc) 128 0 12) 69 85 1) 128 1 70) 69 85 2) 128 2 50) 69 85 3) 128 3 11) 69 85 4) _
  refine Pa.mp 1 (pc' := 1) (l' := [(0, .int 4)]) (st' := [.int 4]) (by rfl) ?_
  refine Pa.ic (x := 5) (pc' := 2) (by rfl) (by rfl) (by decide) ?_
  refine Pa.if2k false (by rfl) (by rfl) (by decide) ?_
  show Pa N 250 5 [(0, .int 4)] [] (uI (uI (uI (uI (uI (uI (uI (uI (uI (uI yA 69 85 0) 69 86 yc) 128 0 12) 69 85 1) 128 1 70) 69 85 2) 128 2 50) 69 85 3) 128 3 11) 69 85 4) _
  refine Pa.mp 1 (pc' := 6) (l' := [(0, .int 4)]) (st' := [.int 4]) (by rfl) ?_
  refine Pa.ic (x := 3) (pc' := 7) (by rfl) (by rfl) (by decide) ?_
  refine Pa.if2k true (by rfl) (by rfl) (by decide) ?_
  show Pa N 250 14 [(0, .int 4)] [] (uI (uI (uI (uI (uI (uI (uI (uI (uI (uI yA 69 85 0) 69 86 yc) 128 0 12) 69 85 1) 128 1 70) 69 85 2) 128 2 50) 69 85 3) 128 3 11) 69 85 4) _
  refine Pa.mp 1 (pc' := 15) (l' := [(0, .int 4)]) (st' := [.int 4]) (by rfl) ?_
  refine Pa.ic (x := 6) (pc' := 17) (by rfl) (by rfl) (by decide) ?_
  refine Pa.if2k true (by rfl) (by rfl) (by decide) ?_
  show Pa N 250 24 [(0, .int 4)] [] (uI (uI (uI (uI (uI (uI (uI (uI (uI (uI yA 69 85 0) 69 86 yc) 128 0 12) 69 85 1) 128 1 70) 69 85 2) 128 2 50) 69 85 3) 128 3 11) 69 85 4) _
  refine Pa.ic (x := 0) (pc' := 25) (by rfl) (by rfl) (by decide) ?_
  refine Pa.iret (by rfl) ?_
  show Pa N 252 98 [(0, .ref 69), (1, .int 4), (2, .int yx)] [.int 0, .ref 69] (uI (uI (uI (uI (uI (uI (uI (uI (uI (uI yA 69 85 0) 69 86 yc) 128 0 12) 69 85 1) 128 1 70) 69 85 2) 128 2 50) 69 85 3) 128 3 11) 69 85 4) _
  refine Pa.mp 1 (pc' := 99) (l' := [(0, .ref 69), (1, .int 4), (2, .int yx)]) (st' := [.int yx, .int 0, .ref 69]) (by rfl) ?_
  refine Pa.inv (by rfl) (by rfl) (.inl rfl) (by rfl) ?_
  show Pa N 252 0 [(0, .ref 69), (1, .int 0), (2, .int yx)] [] (uI (uI (uI (uI (uI (uI (uI (uI (uI (uI yA 69 85 0) 69 86 yc) 128 0 12) 69 85 1) 128 1 70) 69 85 2) 128 2 50) 69 85 3) 128 3 11) 69 85 4) _
  refine Pa.mp 1 (pc' := 1) (l' := [(0, .ref 69), (1, .int 0), (2, .int yx)]) (st' := [.int 0]) (by rfl) ?_
  refine Pa.mp 1 (pc' := 36) (l' := [(0, .ref 69), (1, .int 0), (2, .int yx)]) (st' := []) (by rfl) ?_
  refine Pa.mp 1 (pc' := 37) (l' := [(0, .ref 69), (1, .int 0), (2, .int yx)]) (st' := [.ref 69]) (by rfl) ?_
  refine Pa.ic (x := 10) (pc' := 39) (by rfl) (by rfl) (by decide) ?_
  refine Pa.inv (by rfl) (by rfl) (.inl rfl) (by rfl) ?_
  show Pa N 251 0 [(0, .ref 69), (1, .int 10)] [] (uI (uI (uI (uI (uI (uI (uI (uI (uI (uI yA 69 85 0) 69 86 yc) 128 0 12) 69 85 1) 128 1 70) 69 85 2) 128 2 50) 69 85 3) 128 3 11) 69 85 4) _
  refine Pa.mp 1 (pc' := 1) (l' := [(0, .ref 69), (1, .int 10)]) (st' := [.ref 69]) (by rfl) ?_
  refine Pa.gfI (v := 4) (by rfl) (by rfl) (.inl rfl) (by rfl) (by show (uI (uI (uI (uI (uI (uI (uI (uI (uI (uI yA 69 85 0) 69 86 yc) 128 0 12) 69 85 1) 128 1 70) 69 85 2) 128 2 50) 69 85 3) 128 3 11) 69 85 4).1 69 85 = 4; rw [uI_h]) ?_
  refine Pa.ic (x := 24) (pc' := 6) (by rfl) (by rfl) (by decide) ?_
  refine Pa.if2k false (by rfl) (by rfl) (by decide) ?_
  show Pa N 251 9 [(0, .ref 69), (1, .int 10)] [] (uI (uI (uI (uI (uI (uI (uI (uI (uI (uI yA 69 85 0) 69 86 yc) 128 0 12) 69 85 1) 128 1 70) 69 85 2) 128 2 50) 69 85 3) 128 3 11) 69 85 4) _
  refine Pa.mp 1 (pc' := 10) (l' := [(0, .ref 69), (1, .int 10)]) (st' := [.ref 69]) (by rfl) ?_
  refine Pa.gfR (by rfl) (by rfl) (.inl rfl) (by rfl) ?_
  show Pa N 251 13 [(0, .ref 69), (1, .int 10)] [.ref 128] (uI (uI (uI (uI (uI (uI (uI (uI (uI (uI yA 69 85 0) 69 86 yc) 128 0 12) 69 85 1) 128 1 70) 69 85 2) 128 2 50) 69 85 3) 128 3 11) 69 85 4) _
  refine Pa.mp 1 (pc' := 14) (l' := [(0, .ref 69), (1, .int 10)]) (st' := [.ref 69, .ref 128]) (by rfl) ?_
  refine Pa.gfI (v := 4) (by rfl) (by rfl) (.inl rfl) (by rfl) (by show (uI (uI (uI (uI (uI (uI (uI (uI (uI (uI yA 69 85 0) 69 86 yc) 128 0 12) 69 85 1) 128 1 70) 69 85 2) 128 2 50) 69 85 3) 128 3 11) 69 85 4).1 69 85 = 4; rw [uI_h]) ?_
  refine Pa.mp 1 (pc' := 18) (l' := [(0, .ref 69), (1, .int 10)]) (st' := [.int 10, .int 4, .ref 128]) (by rfl) ?_
  refine Pa.asts (j' := 4) (by rfl) (by rfl) (by rfl) (fun h13 h14 => ?_)
  show Pa N 251 19 [(0, .ref 69), (1, .int 10)] [] (uI (uI (uI (uI (uI (uI (uI (uI (uI (uI (uI yA 69 85 0) 69 86 yc) 128 0 12) 69 85 1) 128 1 70) 69 85 2) 128 2 50) 69 85 3) 128 3 11) 69 85 4) 128 4 10) _
  refine Pa.mp 2 (pc' := 21) (l' := [(0, .ref 69), (1, .int 10)]) (st' := [.ref 69, .ref 69]) (by rfl) ?_
  refine Pa.gfI (v := 4) (by rfl) (by rfl) (.inl rfl) (by rfl) (by show (uI (uI (uI (uI (uI (uI (uI (uI (uI (uI (uI yA 69 85 0) 69 86 yc) 128 0 12) 69 85 1) 128 1 70) 69 85 2) 128 2 50) 69 85 3) 128 3 11) 69 85 4) 128 4 10).1 69 85 = 4; rw [uI_c (by decide), uI_h]) ?_
  refine Pa.ic (x := 1) (pc' := 25) (by rfl) (by rfl) (by decide) ?_
  refine Pa.mp 1 (pc' := 26) (l' := [(0, .ref 69), (1, .int 10)]) (st' := [.int 5, .ref 69]) (by rfl) ?_
  refine Pa.pfI (by rfl) (by rfl) (.inl rfl) (by rfl) ?_
  show Pa N 251 29 [(0, .ref 69), (1, .int 10)] [] (uI (uI (uI (uI (uI (uI (uI (uI (uI (uI (uI (uI yA 69 85 0) 69 86 yc) 128 0 12) 69 85 1) 128 1 70) 69 85 2) 128 2 50) 69 85 3) 128 3 11) 69 85 4) 128 4 10) 69 85 5) _
  refine Pa.vret (by rfl) ?_
  show Pa N 252 42 [(0, .ref 69), (1, .int 0), (2, .int yx)] [] (uI (uI (uI (uI (uI (uI (uI (uI (uI (uI (uI (uI yA 69 85 0) 69 86 yc) 128 0 12) 69 85 1) 128 1 70) 69 85 2) 128 2 50) 69 85 3) 128 3 11) 69 85 4) 128 4 10) 69 85 5) _
  refine Pa.mp 3 (pc' := 45) (l' := [(0, .ref 69), (1, .int 0), (2, .int yx)]) (st' := [.ref 69, .ref 69, .int yx]) (by rfl) ?_
  refine Pa.gfI (v := yc) (by rfl) (by rfl) (.inl rfl) (by rfl) (by show (uI (uI (uI (uI (uI (uI (uI (uI (uI (uI (uI (uI yA 69 85 0) 69 86 yc) 128 0 12) 69 85 1) 128 1 70) 69 85 2) 128 2 50) 69 85 3) 128 3 11) 69 85 4) 128 4 10) 69 85 5).1 69 86 = yc; rw [uI_k (by decide), uI_c (by decide), uI_k (by decide), uI_c (by decide), uI_k (by decide), uI_c (by decide), uI_k (by decide), uI_c (by decide), uI_k (by decide), uI_c (by decide), uI_h]) ?_
  refine Pa.mp 1 (pc' := 49) (l' := [(0, .ref 69), (1, .int 0), (2, .int yx)]) (st' := [.ref 69, .int yc, .ref 69, .int yx]) (by rfl) ?_
  refine Pa.gfI (v := yA.1 69 0) (by rfl) (by rfl) (.inl rfl) (by rfl) (by show (uI (uI (uI (uI (uI (uI (uI (uI (uI (uI (uI (uI yA 69 85 0) 69 86 yc) 128 0 12) 69 85 1) 128 1 70) 69 85 2) 128 2 50) 69 85 3) 128 3 11) 69 85 4) 128 4 10) 69 85 5).1 69 0 = yA.1 69 0; rw [uI_k (by decide), uI_c (by decide), uI_k (by decide), uI_c (by decide), uI_k (by decide), uI_c (by decide), uI_k (by decide), uI_c (by decide), uI_k (by decide), uI_c (by decide), uI_k (by decide), uI_k (by decide)]) ?_
  refine Pa.inv (by rfl) (by rfl) (.inl rfl) (by rfl) ?_
  refine Pa.mono (c_kof N yA (uI (uI (uI (uI (uI (uI (uI (uI (uI (uI (uI (uI yA 69 85 0) 69 86 yc) 128 0 12) 69 85 1) 128 1 70) 69 85 2) 128 2 50) 69 85 3) 128 3 11) 69 85 4) 128 4 10) 69 85 5) yc (yA.1 69 0) (funext fun _ => by repeat rw [uI_c (by decide)]) (funext fun _ => by repeat rw [uI_c (by decide)]) (funext fun _ => by repeat rw [uI_c (by decide)])) (fun yu A1 hu => ?_)
  obtain ⟨rfl, hu⟩ := hu
  rw [hu]
  show Pa N 252 55 [(0, .ref 69), (1, .int 0), (2, .int yx)] [.int (kofM yA yc (yA.1 69 0)), .int yx] (uI (uI (uI (uI (uI (uI (uI (uI (uI (uI (uI (uI yA 69 85 0) 69 86 yc) 128 0 12) 69 85 1) 128 1 70) 69 85 2) 128 2 50) 69 85 3) 128 3 11) 69 85 4) 128 4 10) 69 85 5) _
  refine Pa.mp 1 (pc' := 56) (l' := [(0, .ref 69), (1, .int 0), (2, .int yx)]) (st' := [.int (yx + (kofM yA yc (yA.1 69 0)))]) (by rfl) ?_
  refine Pa.iret (by rfl) ?_
  show Pa N 252 102 [(0, .ref 69), (1, .int 4), (2, .int yx)] [.int (yx + (kofM yA yc (yA.1 69 0)))] (uI (uI (uI (uI (uI (uI (uI (uI (uI (uI (uI (uI yA 69 85 0) 69 86 yc) 128 0 12) 69 85 1) 128 1 70) 69 85 2) 128 2 50) 69 85 3) 128 3 11) 69 85 4) 128 4 10) 69 85 5) _
  refine Pa.iret (by rfl) ?_
  show Pa N 252 102 [(0, .ref 69), (1, .int 6), (2, .int yx)] [.int (yx + (kofM yA yc (yA.1 69 0)))] (uI (uI (uI (uI (uI (uI (uI (uI (uI (uI (uI (uI yA 69 85 0) 69 86 yc) 128 0 12) 69 85 1) 128 1 70) 69 85 2) 128 2 50) 69 85 3) 128 3 11) 69 85 4) 128 4 10) 69 85 5) _
  refine Pa.iret (by rfl) ?_
  show Pa N 253 64 [(0, .ref 69), (1, .int 0), (2, .int yx)] [.int (yx + (kofM yA yc (yA.1 69 0)))] (uI (uI (uI (uI (uI (uI (uI (uI (uI (uI (uI (uI yA 69 85 0) 69 86 yc) 128 0 12) 69 85 1) 128 1 70) 69 85 2) 128 2 50) 69 85 3) 128 3 11) 69 85 4) 128 4 10) 69 85 5) _
  refine Pa.ic (x := 2) (pc' := 65) (by rfl) (by rfl) (by decide) ?_
  refine Pa.mp 1 (pc' := 66) (l' := [(0, .ref 69), (1, .int 0), (2, .int yx)]) (st' := [.int ((yx + (kofM yA yc (yA.1 69 0))) * 2)]) (by rfl) ?_
  refine Pa.iret (by rfl) ?_
  show Pa N 253 101 [(0, .ref 69), (1, .int 4), (2, .int yx)] [.int ((yx + (kofM yA yc (yA.1 69 0))) * 2)] (uI (uI (uI (uI (uI (uI (uI (uI (uI (uI (uI (uI yA 69 85 0) 69 86 yc) 128 0 12) 69 85 1) 128 1 70) 69 85 2) 128 2 50) 69 85 3) 128 3 11) 69 85 4) 128 4 10) 69 85 5) _
  refine Pa.mp 1 (pc' := 102) (l' := [(0, .ref 69), (1, .int 4), (2, .int yx)]) (st' := [.int (-((yx + (kofM yA yc (yA.1 69 0))) * 2))]) (by rfl) ?_
  refine Pa.iret (by rfl) ?_
  show Pa N 253 119 [(0, .ref 69), (1, .int 6), (2, .int yx)] [.int (-((yx + (kofM yA yc (yA.1 69 0))) * 2))] (uI (uI (uI (uI (uI (uI (uI (uI (uI (uI (uI (uI yA 69 85 0) 69 86 yc) 128 0 12) 69 85 1) 128 1 70) 69 85 2) 128 2 50) 69 85 3) 128 3 11) 69 85 4) 128 4 10) 69 85 5) _
  refine Pa.mp 4 (pc' := 123) (l' := [(3, .int (-((yx + (kofM yA yc (yA.1 69 0))) * 2))), (0, .ref 69), (1, .int 6), (2, .int yx)]) (st' := [.ref 69, .ref 69, .int (-((yx + (kofM yA yc (yA.1 69 0))) * 2))]) (by rfl) ?_
  refine Pa.gfR (by rfl) (by rfl) (.inl rfl) (by rfl) ?_
  show Pa N 253 126 [(3, .int (-((yx + (kofM yA yc (yA.1 69 0))) * 2))), (0, .ref 69), (1, .int 6), (2, .int yx)] [.ref 89, .ref 69, .int (-((yx + (kofM yA yc (yA.1 69 0))) * 2))] (uI (uI (uI (uI (uI (uI (uI (uI (uI (uI (uI (uI yA 69 85 0) 69 86 yc) 128 0 12) 69 85 1) 128 1 70) 69 85 2) 128 2 50) 69 85 3) 128 3 11) 69 85 4) 128 4 10) 69 85 5) _
  refine Pa.mp 1 (pc' := 127) (l' := [(3, .int (-((yx + (kofM yA yc (yA.1 69 0))) * 2))), (0, .ref 69), (1, .int 6), (2, .int yx)]) (st' := [.ref 69, .ref 89, .ref 69, .int (-((yx + (kofM yA yc (yA.1 69 0))) * 2))]) (by rfl) ?_
  refine Pa.gfI (v := yc) (by rfl) (by rfl) (.inl rfl) (by rfl) (by show (uI (uI (uI (uI (uI (uI (uI (uI (uI (uI (uI (uI yA 69 85 0) 69 86 yc) 128 0 12) 69 85 1) 128 1 70) 69 85 2) 128 2 50) 69 85 3) 128 3 11) 69 85 4) 128 4 10) 69 85 5).1 69 86 = yc; rw [uI_k (by decide), uI_c (by decide), uI_k (by decide), uI_c (by decide), uI_k (by decide), uI_c (by decide), uI_k (by decide), uI_c (by decide), uI_k (by decide), uI_c (by decide), uI_h]) ?_
  refine Pa.alds (v := 6) (by rfl) (by rfl) (by show (uI (uI (uI (uI (uI (uI (uI (uI (uI (uI (uI (uI yA 69 85 0) 69 86 yc) 128 0 12) 69 85 1) 128 1 70) 69 85 2) 128 2 50) 69 85 3) 128 3 11) 69 85 4) 128 4 10) 69 85 5).1 89 yc.toInt.toNat = 6; rw [uI_c (by decide), uI_c (by decide), uI_c (by decide), uI_c (by decide), uI_c (by decide), uI_c (by decide), uI_c (by decide), uI_c (by decide), uI_c (by decide), uI_c (by decide), uI_c (by decide), uI_c (by decide), hk]) (fun h15 yh16 => ?_)
  have h15 : 0 ≤ yc.toInt := h15
  have yh16 : yc.toInt < 150 := yh16
  refine Pa.ic (x := 2) (pc' := 132) (by rfl) (by rfl) (by decide) ?_
  refine Pa.inv (by rfl) (by rfl) (.inl rfl) (by rfl) ?_
  show Pa N 252 0 [(0, .ref 69), (1, .int 6), (2, .int 2)] [] (uI (uI (uI (uI (uI (uI (uI (uI (uI (uI (uI (uI yA 69 85 0) 69 86 yc) 128 0 12) 69 85 1) 128 1 70) 69 85 2) 128 2 50) 69 85 3) 128 3 11) 69 85 4) 128 4 10) 69 85 5) _
  refine Pa.mp 1 (pc' := 1) (l' := [(0, .ref 69), (1, .int 6), (2, .int 2)]) (st' := [.int 6]) (by rfl) ?_
  refine Pa.mp 1 (pc' := 93) (l' := [(0, .ref 69), (1, .int 6), (2, .int 2)]) (st' := []) (by rfl) ?_
  refine Pa.mp 2 (pc' := 95) (l' := [(0, .ref 69), (1, .int 6), (2, .int 2)]) (st' := [.int 6, .ref 69]) (by rfl) ?_
  refine Pa.ist (by rfl) (by rfl) (.inl rfl) (by rfl) (by rfl) ?_
  show Pa N 250 0 [(0, .int 6)] [] (uI (uI (uI (uI (uI (uI (uI (uI (uI (uI (uI (uI yA 69 85 0) 69 86 yc) 128 0 12) 69 85 1) 128 1 70) 69 85 2) 128 2 50) 69 85 3) 128 3 11) 69 85 4) 128 4 10) 69 85 5) _
  refine Pa.mp 1 (pc' := 1) (l' := [(0, .int 6)]) (st' := [.int 6]) (by rfl) ?_
  refine Pa.ic (x := 5) (pc' := 2) (by rfl) (by rfl) (by decide) ?_
  refine Pa.if2k false (by rfl) (by rfl) (by decide) ?_
  show Pa N 250 5 [(0, .int 6)] [] (uI (uI (uI (uI (uI (uI (uI (uI (uI (uI (uI (uI yA 69 85 0) 69 86 yc) 128 0 12) 69 85 1) 128 1 70) 69 85 2) 128 2 50) 69 85 3) 128 3 11) 69 85 4) 128 4 10) 69 85 5) _
  refine Pa.mp 1 (pc' := 6) (l' := [(0, .int 6)]) (st' := [.int 6]) (by rfl) ?_
  refine Pa.ic (x := 3) (pc' := 7) (by rfl) (by rfl) (by decide) ?_
  refine Pa.if2k true (by rfl) (by rfl) (by decide) ?_
  show Pa N 250 14 [(0, .int 6)] [] (uI (uI (uI (uI (uI (uI (uI (uI (uI (uI (uI (uI yA 69 85 0) 69 86 yc) 128 0 12) 69 85 1) 128 1 70) 69 85 2) 128 2 50) 69 85 3) 128 3 11) 69 85 4) 128 4 10) 69 85 5) _
  refine Pa.mp 1 (pc' := 15) (l' := [(0, .int 6)]) (st' := [.int 6]) (by rfl) ?_
  refine Pa.ic (x := 6) (pc' := 17) (by rfl) (by rfl) (by decide) ?_
  refine Pa.if2k false (by rfl) (by rfl) (by decide) ?_
  show Pa N 250 20 [(0, .int 6)] [] (uI (uI (uI (uI (uI (uI (uI (uI (uI (uI (uI (uI yA 69 85 0) 69 86 yc) 128 0 12) 69 85 1) 128 1 70) 69 85 2) 128 2 50) 69 85 3) 128 3 11) 69 85 4) 128 4 10) 69 85 5) _
  refine Pa.ic (x := 4) (pc' := 21) (by rfl) (by rfl) (by decide) ?_
  refine Pa.mp 1 (pc' := 25) (l' := [(0, .int 6)]) (st' := [.int 4]) (by rfl) ?_
  refine Pa.iret (by rfl) ?_
  show Pa N 252 98 [(0, .ref 69), (1, .int 6), (2, .int 2)] [.int 4, .ref 69] (uI (uI (uI (uI (uI (uI (uI (uI (uI (uI (uI (uI yA 69 85 0) 69 86 yc) 128 0 12) 69 85 1) 128 1 70) 69 85 2) 128 2 50) 69 85 3) 128 3 11) 69 85 4) 128 4 10) 69 85 5) _
  refine Pa.mp 1 (pc' := 99) (l' := [(0, .ref 69), (1, .int 6), (2, .int 2)]) (st' := [.int 2, .int 4, .ref 69]) (by rfl) ?_
  refine Pa.inv (by rfl) (by rfl) (.inl rfl) (by rfl) ?_
  show Pa N 252 0 [(0, .ref 69), (1, .int 4), (2, .int 2)] [] (uI (uI (uI (uI (uI (uI (uI (uI (uI (uI (uI (uI yA 69 85 0) 69 86 yc) 128 0 12) 69 85 1) 128 1 70) 69 85 2) 128 2 50) 69 85 3) 128 3 11) 69 85 4) 128 4 10) 69 85 5) _
  refine Pa.mp 1 (pc' := 1) (l' := [(0, .ref 69), (1, .int 4), (2, .int 2)]) (st' := [.int 4]) (by rfl) ?_
  refine Pa.mp 1 (pc' := 93) (l' := [(0, .ref 69), (1, .int 4), (2, .int 2)]) (st' := []) (by rfl) ?_
  refine Pa.mp 2 (pc' := 95) (l' := [(0, .ref 69), (1, .int 4), (2, .int 2)]) (st' := [.int 4, .ref 69]) (by rfl) ?_
  refine Pa.ist (by rfl) (by rfl) (.inl rfl) (by rfl) (by rfl) ?_
  show Pa N 250 0 [(0, .int 4)] [] (uI (uI (uI (uI (uI (uI (uI (uI (uI (uI (uI (uI yA 69 85 0) 69 86 yc) 128 0 12) 69 85 1) 128 1 70) 69 85 2) 128 2 50) 69 85 3) 128 3 11) 69 85 4) 128 4 10) 69 85 5) _
  refine Pa.mp 1 (pc' := 1) (l' := [(0, .int 4)]) (st' := [.int 4]) (by rfl) ?_
  refine Pa.ic (x := 5) (pc' := 2) (by rfl) (by rfl) (by decide) ?_
  refine Pa.if2k false (by rfl) (by rfl) (by decide) ?_
  show Pa N 250 5 [(0, .int 4)] [] (uI (uI (uI (uI (uI (uI (uI (uI (uI (uI (uI (uI yA 69 85 0) 69 86 yc) 128 0 12) 69 85 1) 128 1 70) 69 85 2) 128 2 50) 69 85 3) 128 3 11) 69 85 4) 128 4 10) 69 85 5) _
  refine Pa.mp 1 (pc' := 6) (l' := [(0, .int 4)]) (st' := [.int 4]) (by rfl) ?_
  refine Pa.ic (x := 3) (pc' := 7) (by rfl) (by rfl) (by decide) ?_
  refine Pa.if2k true (by rfl) (by rfl) (by decide) ?_
  show Pa N 250 14 [(0, .int 4)] [] (uI (uI (uI (uI (uI (uI (uI (uI (uI (uI (uI (uI yA 69 85 0) 69 86 yc) 128 0 12) 69 85 1) 128 1 70) 69 85 2) 128 2 50) 69 85 3) 128 3 11) 69 85 4) 128 4 10) 69 85 5) _
  refine Pa.mp 1 (pc' := 15) (l' := [(0, .int 4)]) (st' := [.int 4]) (by rfl) ?_
  refine Pa.ic (x := 6) (pc' := 17) (by rfl) (by rfl) (by decide) ?_
  refine Pa.if2k true (by rfl) (by rfl) (by decide) ?_
  show Pa N 250 24 [(0, .int 4)] [] (uI (uI (uI (uI (uI (uI (uI (uI (uI (uI (uI (uI yA 69 85 0) 69 86 yc) 128 0 12) 69 85 1) 128 1 70) 69 85 2) 128 2 50) 69 85 3) 128 3 11) 69 85 4) 128 4 10) 69 85 5) _
  refine Pa.ic (x := 0) (pc' := 25) (by rfl) (by rfl) (by decide) ?_
  refine Pa.iret (by rfl) ?_
  show Pa N 252 98 [(0, .ref 69), (1, .int 4), (2, .int 2)] [.int 0, .ref 69] (uI (uI (uI (uI (uI (uI (uI (uI (uI (uI (uI (uI yA 69 85 0) 69 86 yc) 128 0 12) 69 85 1) 128 1 70) 69 85 2) 128 2 50) 69 85 3) 128 3 11) 69 85 4) 128 4 10) 69 85 5) _
  refine Pa.mp 1 (pc' := 99) (l' := [(0, .ref 69), (1, .int 4), (2, .int 2)]) (st' := [.int 2, .int 0, .ref 69]) (by rfl) ?_
  refine Pa.inv (by rfl) (by rfl) (.inl rfl) (by rfl) ?_
  show Pa N 252 0 [(0, .ref 69), (1, .int 0), (2, .int 2)] [] (uI (uI (uI (uI (uI (uI (uI (uI (uI (uI (uI (uI yA 69 85 0) 69 86 yc) 128 0 12) 69 85 1) 128 1 70) 69 85 2) 128 2 50) 69 85 3) 128 3 11) 69 85 4) 128 4 10) 69 85 5) _
  refine Pa.mp 1 (pc' := 1) (l' := [(0, .ref 69), (1, .int 0), (2, .int 2)]) (st' := [.int 0]) (by rfl) ?_
  refine Pa.mp 1 (pc' := 36) (l' := [(0, .ref 69), (1, .int 0), (2, .int 2)]) (st' := []) (by rfl) ?_
  refine Pa.mp 1 (pc' := 37) (l' := [(0, .ref 69), (1, .int 0), (2, .int 2)]) (st' := [.ref 69]) (by rfl) ?_
  refine Pa.ic (x := 10) (pc' := 39) (by rfl) (by rfl) (by decide) ?_
  refine Pa.inv (by rfl) (by rfl) (.inl rfl) (by rfl) ?_
  show Pa N 251 0 [(0, .ref 69), (1, .int 10)] [] (uI (uI (uI (uI (uI (uI (uI (uI (uI (uI (uI (uI yA 69 85 0) 69 86 yc) 128 0 12) 69 85 1) 128 1 70) 69 85 2) 128 2 50) 69 85 3) 128 3 11) 69 85 4) 128 4 10) 69 85 5) _
  refine Pa.mp 1 (pc' := 1) (l' := [(0, .ref 69), (1, .int 10)]) (st' := [.ref 69]) (by rfl) ?_
  refine Pa.gfI (v := 5) (by rfl) (by rfl) (.inl rfl) (by rfl) (by show (uI (uI (uI (uI (uI (uI (uI (uI (uI (uI (uI (uI yA 69 85 0) 69 86 yc) 128 0 12) 69 85 1) 128 1 70) 69 85 2) 128 2 50) 69 85 3) 128 3 11) 69 85 4) 128 4 10) 69 85 5).1 69 85 = 5; rw [uI_h]) ?_
  refine Pa.ic (x := 24) (pc' := 6) (by rfl) (by rfl) (by decide) ?_
  refine Pa.if2k false (by rfl) (by rfl) (by decide) ?_
  show Pa N 251 9 [(0, .ref 69), (1, .int 10)] [] (uI (uI (uI (uI (uI (uI (uI (uI (uI (uI (uI (uI yA 69 85 0) 69 86 yc) 128 0 12) 69 85 1) 128 1 70) 69 85 2) 128 2 50) 69 85 3) 128 3 11) 69 85 4) 128 4 10) 69 85 5) _
  refine Pa.mp 1 (pc' := 10) (l' := [(0, .ref 69), (1, .int 10)]) (st' := [.ref 69]) (by rfl) ?_
  refine Pa.gfR (by rfl) (by rfl) (.inl rfl) (by rfl) ?_
  show Pa N 251 13 [(0, .ref 69), (1, .int 10)] [.ref 128] (uI (uI (uI (uI (uI (uI (uI (uI (uI (uI (uI (uI yA 69 85 0) 69 86 yc) 128 0 12) 69 85 1) 128 1 70) 69 85 2) 128 2 50) 69 85 3) 128 3 11) 69 85 4) 128 4 10) 69 85 5) _
  refine Pa.mp 1 (pc' := 14) (l' := [(0, .ref 69), (1, .int 10)]) (st' := [.ref 69, .ref 128]) (by rfl) ?_
  refine Pa.gfI (v := 5) (by rfl) (by rfl) (.inl rfl) (by rfl) (by show (uI (uI (uI (uI (uI (uI (uI (uI (uI (uI (uI (uI yA 69 85 0) 69 86 yc) 128 0 12) 69 85 1) 128 1 70) 69 85 2) 128 2 50) 69 85 3) 128 3 11) 69 85 4) 128 4 10) 69 85 5).1 69 85 = 5; rw [uI_h]) ?_
  refine Pa.mp 1 (pc' := 18) (l' := [(0, .ref 69), (1, .int 10)]) (st' := [.int 10, .int 5, .ref 128]) (by rfl) ?_
  refine Pa.asts (j' := 5) (by rfl) (by rfl) (by rfl) (fun h17 h18 => ?_)
  show Pa N 251 19 [(0, .ref 69), (1, .int 10)] [] (uI (uI (uI (uI (uI (uI (uI (uI (uI (uI (uI (uI (uI yA 69 85 0) 69 86 yc) 128 0 12) 69 85 1) 128 1 70) 69 85 2) 128 2 50) 69 85 3) 128 3 11) 69 85 4) 128 4 10) 69 85 5) 128 5 10) _
  refine Pa.mp 2 (pc' := 21) (l' := [(0, .ref 69), (1, .int 10)]) (st' := [.ref 69, .ref 69]) (by rfl) ?_
  refine Pa.gfI (v := 5) (by rfl) (by rfl) (.inl rfl) (by rfl) (by show (uI (uI (uI (uI (uI (uI (uI (uI (uI (uI (uI (uI (uI yA 69 85 0) 69 86 yc) 128 0 12) 69 85 1) 128 1 70) 69 85 2) 128 2 50) 69 85 3) 128 3 11) 69 85 4) 128 4 10) 69 85 5) 128 5 10).1 69 85 = 5; rw [uI_c (by decide), uI_h]) ?_
  refine Pa.ic (x := 1) (pc' := 25) (by rfl) (by rfl) (by decide) ?_
  refine Pa.mp 1 (pc' := 26) (l' := [(0, .ref 69), (1, .int 10)]) (st' := [.int 6, .ref 69]) (by rfl) ?_
  refine Pa.pfI (by rfl) (by rfl) (.inl rfl) (by rfl) ?_
  show Pa N 251 29 [(0, .ref 69), (1, .int 10)] [] (uI (uI (uI (uI (uI (uI (uI (uI (uI (uI (uI (uI (uI (uI yA 69 85 0) 69 86 yc) 128 0 12) 69 85 1) 128 1 70) 69 85 2) 128 2 50) 69 85 3) 128 3 11) 69 85 4) 128 4 10) 69 85 5) 128 5 10) 69 85 6) _
  refine Pa.vret (by rfl) ?_
  show Pa N 252 42 [(0, .ref 69), (1, .int 0), (2, .int 2)] [] (uI (uI (uI (uI (uI (uI (uI (uI (uI (uI (uI (uI (uI (uI yA 69 85 0) 69 86 yc) 128 0 12) 69 85 1) 128 1 70) 69 85 2) 128 2 50) 69 85 3) 128 3 11) 69 85 4) 128 4 10) 69 85 5) 128 5 10) 69 85 6) _
  refine Pa.mp 3 (pc' := 45) (l' := [(0, .ref 69), (1, .int 0), (2, .int 2)]) (st' := [.ref 69, .ref 69, .int 2]) (by rfl) ?_
  refine Pa.gfI (v := yc) (by rfl) (by rfl) (.inl rfl) (by rfl) (by show (uI (uI (uI (uI (uI (uI (uI (uI (uI (uI (uI (uI (uI (uI yA 69 85 0) 69 86 yc) 128 0 12) 69 85 1) 128 1 70) 69 85 2) 128 2 50) 69 85 3) 128 3 11) 69 85 4) 128 4 10) 69 85 5) 128 5 10) 69 85 6).1 69 86 = yc; rw [uI_k (by decide), uI_c (by decide), uI_k (by decide), uI_c (by decide), uI_k (by decide), uI_c (by decide), uI_k (by decide), uI_c (by decide), uI_k (by decide), uI_c (by decide), uI_k (by decide), uI_c (by decide), uI_h]) ?_
  refine Pa.mp 1 (pc' := 49) (l' := [(0, .ref 69), (1, .int 0), (2, .int 2)]) (st' := [.ref 69, .int yc, .ref 69, .int 2]) (by rfl) ?_
  refine Pa.gfI (v := yA.1 69 0) (by rfl) (by rfl) (.inl rfl) (by rfl) (by show (uI (uI (uI (uI (uI (uI (uI (uI (uI (uI (uI (uI (uI (uI yA 69 85 0) 69 86 yc) 128 0 12) 69 85 1) 128 1 70) 69 85 2) 128 2 50) 69 85 3) 128 3 11) 69 85 4) 128 4 10) 69 85 5) 128 5 10) 69 85 6).1 69 0 = yA.1 69 0; rw [uI_k (by decide), uI_c (by decide), uI_k (by decide), uI_c (by decide), uI_k (by decide), uI_c (by decide), uI_k (by decide), uI_c (by decide), uI_k (by decide), uI_c (by decide), uI_k (by decide), uI_c (by decide), uI_k (by decide), uI_k (by decide)]) ?_
  refine Pa.inv (by rfl) (by rfl) (.inl rfl) (by rfl) ?_
  refine Pa.mono (c_kof N yA (uI (uI (uI (uI (uI (uI (uI (uI (uI (uI (uI (uI (uI (uI yA 69 85 0) 69 86 yc) 128 0 12) 69 85 1) 128 1 70) 69 85 2) 128 2 50) 69 85 3) 128 3 11) 69 85 4) 128 4 10) 69 85 5) 128 5 10) 69 85 6) yc (yA.1 69 0) (funext fun _ => by repeat rw [uI_c (by decide)]) (funext fun _ => by repeat rw [uI_c (by decide)]) (funext fun _ => by repeat rw [uI_c (by decide)])) (fun yu A1 hu => ?_)
  obtain ⟨rfl, hu⟩ := hu
  rw [hu]
  show Pa N 252 55 [(0, .ref 69), (1, .int 0), (2, .int 2)] [.int (kofM yA yc (yA.1 69 0)), .int 2] (uI (uI (uI (uI (uI (uI (uI (uI (uI (uI (uI (uI (uI (uI yA 69 85 0) 69 86 yc) 128 0 12) 69 85 1) 128 1 70) 69 85 2) 128 2 50) 69 85 3) 128 3 11) 69 85 4) 128 4 10) 69 85 5) 128 5 10) 69 85 6) _
  refine Pa.mp 1 (pc' := 56) (l' := [(0, .ref 69), (1, .int 0), (2, .int 2)]) (st' := [.int (2 + (kofM yA yc (yA.1 69 0)))]) (by rfl) ?_
  refine Pa.iret (by rfl) ?_
  show Pa N 252 102 [(0, .ref 69), (1, .int 4), (2, .int 2)] [.int (2 + (kofM yA yc (yA.1 69 0)))] (uI (uI (uI (uI (uI (uI (uI (uI (uI (uI (uI (uI (uI (uI yA 69 85 0) 69 86 yc) 128 0 12) 69 85 1) 128 1 70) 69 85 2) 128 2 50) 69 85 3) 128 3 11) 69 85 4) 128 4 10) 69 85 5) 128 5 10) 69 85 6) _
  refine Pa.iret (by rfl) ?_
  show Pa N 252 102 [(0, .ref 69), (1, .int 6), (2, .int 2)] [.int (2 + (kofM yA yc (yA.1 69 0)))] (uI (uI (uI (uI (uI (uI (uI (uI (uI (uI (uI (uI (uI (uI yA 69 85 0) 69 86 yc) 128 0 12) 69 85 1) 128 1 70) 69 85 2) 128 2 50) 69 85 3) 128 3 11) 69 85 4) 128 4 10) 69 85 5) 128 5 10) 69 85 6) _
  refine Pa.iret (by rfl) ?_
  show Pa N 253 135 [(3, .int (-((yx + (kofM yA yc (yA.1 69 0))) * 2))), (0, .ref 69), (1, .int 6), (2, .int yx)] [.int (2 + (kofM yA yc (yA.1 69 0))), .int (-((yx + (kofM yA yc (yA.1 69 0))) * 2))] (uI (uI (uI (uI (uI (uI (uI (uI (uI (uI (uI (uI (uI (uI yA 69 85 0) 69 86 yc) 128 0 12) 69 85 1) 128 1 70) 69 85 2) 128 2 50) 69 85 3) 128 3 11) 69 85 4) 128 4 10) 69 85 5) 128 5 10) 69 85 6) _
  refine Pa.mp 1 (pc' := 136) (l' := [(3, .int (-((yx + (kofM yA yc (yA.1 69 0))) * 2))), (0, .ref 69), (1, .int 6), (2, .int yx)]) (st' := [.int ((-((yx + (kofM yA yc (yA.1 69 0))) * 2)) - (2 + (kofM yA yc (yA.1 69 0))))]) (by rfl) ?_
  refine Pa.iret (by rfl) ?_
  show Pa N 254 56 [(0, .ref 69), (1, .int 0), (2, .int yx)] [.int ((-((yx + (kofM yA yc (yA.1 69 0))) * 2)) - (2 + (kofM yA yc (yA.1 69 0))))] (uI (uI (uI (uI (uI (uI (uI (uI (uI (uI (uI (uI (uI (uI yA 69 85 0) 69 86 yc) 128 0 12) 69 85 1) 128 1 70) 69 85 2) 128 2 50) 69 85 3) 128 3 11) 69 85 4) 128 4 10) 69 85 5) 128 5 10) 69 85 6) _
  refine Pa.mp 1 (pc' := 57) (l' := [(0, .ref 69), (1, .int 0), (2, .int yx)]) (st' := [.ref 69, .int ((-((yx + (kofM yA yc (yA.1 69 0))) * 2)) - (2 + (kofM yA yc (yA.1 69 0))))]) (by rfl) ?_
  refine Pa.gfI (v := yc) (by rfl) (by rfl) (.inl rfl) (by rfl) (by show (uI (uI (uI (uI (uI (uI (uI (uI (uI (uI (uI (uI (uI (uI yA 69 85 0) 69 86 yc) 128 0 12) 69 85 1) 128 1 70) 69 85 2) 128 2 50) 69 85 3) 128 3 11) 69 85 4) 128 4 10) 69 85 5) 128 5 10) 69 85 6).1 69 86 = yc; rw [uI_k (by decide), uI_c (by decide), uI_k (by decide), uI_c (by decide), uI_k (by decide), uI_c (by decide), uI_k (by decide), uI_c (by decide), uI_k (by decide), uI_c (by decide), uI_k (by decide), uI_c (by decide), uI_h]) ?_
  refine Pa.mp 1 (pc' := 61) (l' := [(0, .ref 69), (1, .int 0), (2, .int yx)]) (st' := [.int (((-((yx + (kofM yA yc (yA.1 69 0))) * 2)) - (2 + (kofM yA yc (yA.1 69 0)))) - yc)]) (by rfl) ?_
  refine Pa.iret (by rfl) ?_
  show Pa N 254 122 [(0, .ref 69), (1, .int 4), (2, .int yx)] [.int (((-((yx + (kofM yA yc (yA.1 69 0))) * 2)) - (2 + (kofM yA yc (yA.1 69 0)))) - yc)] (uI (uI (uI (uI (uI (uI (uI (uI (uI (uI (uI (uI (uI (uI yA 69 85 0) 69 86 yc) 128 0 12) 69 85 1) 128 1 70) 69 85 2) 128 2 50) 69 85 3) 128 3 11) 69 85 4) 128 4 10) 69 85 5) 128 5 10) 69 85 6) _
  refine Pa.iret (by rfl) ?_
  show Pa N 254 122 [(0, .ref 69), (1, .int 6), (2, .int yx)] [.int (((-((yx + (kofM yA yc (yA.1 69 0))) * 2)) - (2 + (kofM yA yc (yA.1 69 0)))) - yc)] (uI (uI (uI (uI (uI (uI (uI (uI (uI (uI (uI (uI (uI (uI yA 69 85 0) 69 86 yc) 128 0 12) 69 85 1) 128 1 70) 69 85 2) 128 2 50) 69 85 3) 128 3 11) 69 85 4) 128 4 10) 69 85 5) 128 5 10) 69 85 6) _
  refine Pa.iret (by rfl) ?_
  exact l1 h3 h4
