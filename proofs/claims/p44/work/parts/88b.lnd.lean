/-! LANDS yOF yA FILM, FACTS yOF yA FILM: both sides -/
def bcX (yx : Int32) : Int32 := ((((((((yx - (((yx.toUInt32 >>> ((1 : Int32).toUInt32 &&& Int32.toUInt32 31)).toInt32) &&& 1431655765)) &&& 858993459) + ((((yx - (((yx.toUInt32 >>> ((1 : Int32).toUInt32 &&& Int32.toUInt32 31)).toInt32) &&& 1431655765)).toUInt32 >>> ((2 : Int32).toUInt32 &&& Int32.toUInt32 31)).toInt32) &&& 858993459)) + (((((yx - (((yx.toUInt32 >>> ((1 : Int32).toUInt32 &&& Int32.toUInt32 31)).toInt32) &&& 1431655765)) &&& 858993459) + ((((yx - (((yx.toUInt32 >>> ((1 : Int32).toUInt32 &&& Int32.toUInt32 31)).toInt32) &&& 1431655765)).toUInt32 >>> ((2 : Int32).toUInt32 &&& Int32.toUInt32 31)).toInt32) &&& 858993459)).toUInt32 >>> ((4 : Int32).toUInt32 &&& Int32.toUInt32 31)).toInt32)) &&& 252645135) + (((((((yx - (((yx.toUInt32 >>> ((1 : Int32).toUInt32 &&& Int32.toUInt32 31)).toInt32) &&& 1431655765)) &&& 858993459) + ((((yx - (((yx.toUInt32 >>> ((1 : Int32).toUInt32 &&& Int32.toUInt32 31)).toInt32) &&& 1431655765)).toUInt32 >>> ((2 : Int32).toUInt32 &&& Int32.toUInt32 31)).toInt32) &&& 858993459)) + (((((yx - (((yx.toUInt32 >>> ((1 : Int32).toUInt32 &&& Int32.toUInt32 31)).toInt32) &&& 1431655765)) &&& 858993459) + ((((yx - (((yx.toUInt32 >>> ((1 : Int32).toUInt32 &&& Int32.toUInt32 31)).toInt32) &&& 1431655765)).toUInt32 >>> ((2 : Int32).toUInt32 &&& Int32.toUInt32 31)).toInt32) &&& 858993459)).toUInt32 >>> ((4 : Int32).toUInt32 &&& Int32.toUInt32 31)).toInt32)) &&& 252645135).toUInt32 >>> ((8 : Int32).toUInt32 &&& Int32.toUInt32 31)).toInt32)) + ((((((((yx - (((yx.toUInt32 >>> ((1 : Int32).toUInt32 &&& Int32.toUInt32 31)).toInt32) &&& 1431655765)) &&& 858993459) + ((((yx - (((yx.toUInt32 >>> ((1 : Int32).toUInt32 &&& Int32.toUInt32 31)).toInt32) &&& 1431655765)).toUInt32 >>> ((2 : Int32).toUInt32 &&& Int32.toUInt32 31)).toInt32) &&& 858993459)) + (((((yx - (((yx.toUInt32 >>> ((1 : Int32).toUInt32 &&& Int32.toUInt32 31)).toInt32) &&& 1431655765)) &&& 858993459) + ((((yx - (((yx.toUInt32 >>> ((1 : Int32).toUInt32 &&& Int32.toUInt32 31)).toInt32) &&& 1431655765)).toUInt32 >>> ((2 : Int32).toUInt32 &&& Int32.toUInt32 31)).toInt32) &&& 858993459)).toUInt32 >>> ((4 : Int32).toUInt32 &&& Int32.toUInt32 31)).toInt32)) &&& 252645135) + (((((((yx - (((yx.toUInt32 >>> ((1 : Int32).toUInt32 &&& Int32.toUInt32 31)).toInt32) &&& 1431655765)) &&& 858993459) + ((((yx - (((yx.toUInt32 >>> ((1 : Int32).toUInt32 &&& Int32.toUInt32 31)).toInt32) &&& 1431655765)).toUInt32 >>> ((2 : Int32).toUInt32 &&& Int32.toUInt32 31)).toInt32) &&& 858993459)) + (((((yx - (((yx.toUInt32 >>> ((1 : Int32).toUInt32 &&& Int32.toUInt32 31)).toInt32) &&& 1431655765)) &&& 858993459) + ((((yx - (((yx.toUInt32 >>> ((1 : Int32).toUInt32 &&& Int32.toUInt32 31)).toInt32) &&& 1431655765)).toUInt32 >>> ((2 : Int32).toUInt32 &&& Int32.toUInt32 31)).toInt32) &&& 858993459)).toUInt32 >>> ((4 : Int32).toUInt32 &&& Int32.toUInt32 31)).toInt32)) &&& 252645135).toUInt32 >>> ((8 : Int32).toUInt32 &&& Int32.toUInt32 31)).toInt32)).toUInt32 >>> ((16 : Int32).toUInt32 &&& Int32.toUInt32 31)).toInt32)) &&& 63)
theorem bx_bc {N : Nat} {yA : AW} {yQ : Option Value → AW → Prop} (yx : Int32)
    (l1 : yQ (some (.int ((((((((yx - (((yx.toUInt32 >>> ((1 : Int32).toUInt32 &&& Int32.toUInt32 31)).toInt32) &&& 1431655765)) &&& 858993459) + ((((yx - (((yx.toUInt32 >>> ((1 : Int32).toUInt32 &&& Int32.toUInt32 31)).toInt32) &&& 1431655765)).toUInt32 >>> ((2 : Int32).toUInt32 &&& Int32.toUInt32 31)).toInt32) &&& 858993459)) + (((((yx - (((yx.toUInt32 >>> ((1 : Int32).toUInt32 &&& Int32.toUInt32 31)).toInt32) &&& 1431655765)) &&& 858993459) + ((((yx - (((yx.toUInt32 >>> ((1 : Int32).toUInt32 &&& Int32.toUInt32 31)).toInt32) &&& 1431655765)).toUInt32 >>> ((2 : Int32).toUInt32 &&& Int32.toUInt32 31)).toInt32) &&& 858993459)).toUInt32 >>> ((4 : Int32).toUInt32 &&& Int32.toUInt32 31)).toInt32)) &&& 252645135) + (((((((yx - (((yx.toUInt32 >>> ((1 : Int32).toUInt32 &&& Int32.toUInt32 31)).toInt32) &&& 1431655765)) &&& 858993459) + ((((yx - (((yx.toUInt32 >>> ((1 : Int32).toUInt32 &&& Int32.toUInt32 31)).toInt32) &&& 1431655765)).toUInt32 >>> ((2 : Int32).toUInt32 &&& Int32.toUInt32 31)).toInt32) &&& 858993459)) + (((((yx - (((yx.toUInt32 >>> ((1 : Int32).toUInt32 &&& Int32.toUInt32 31)).toInt32) &&& 1431655765)) &&& 858993459) + ((((yx - (((yx.toUInt32 >>> ((1 : Int32).toUInt32 &&& Int32.toUInt32 31)).toInt32) &&& 1431655765)).toUInt32 >>> ((2 : Int32).toUInt32 &&& Int32.toUInt32 31)).toInt32) &&& 858993459)).toUInt32 >>> ((4 : Int32).toUInt32 &&& Int32.toUInt32 31)).toInt32)) &&& 252645135).toUInt32 >>> ((8 : Int32).toUInt32 &&& Int32.toUInt32 31)).toInt32)) + ((((((((yx - (((yx.toUInt32 >>> ((1 : Int32).toUInt32 &&& Int32.toUInt32 31)).toInt32) &&& 1431655765)) &&& 858993459) + ((((yx - (((yx.toUInt32 >>> ((1 : Int32).toUInt32 &&& Int32.toUInt32 31)).toInt32) &&& 1431655765)).toUInt32 >>> ((2 : Int32).toUInt32 &&& Int32.toUInt32 31)).toInt32) &&& 858993459)) + (((((yx - (((yx.toUInt32 >>> ((1 : Int32).toUInt32 &&& Int32.toUInt32 31)).toInt32) &&& 1431655765)) &&& 858993459) + ((((yx - (((yx.toUInt32 >>> ((1 : Int32).toUInt32 &&& Int32.toUInt32 31)).toInt32) &&& 1431655765)).toUInt32 >>> ((2 : Int32).toUInt32 &&& Int32.toUInt32 31)).toInt32) &&& 858993459)).toUInt32 >>> ((4 : Int32).toUInt32 &&& Int32.toUInt32 31)).toInt32)) &&& 252645135) + (((((((yx - (((yx.toUInt32 >>> ((1 : Int32).toUInt32 &&& Int32.toUInt32 31)).toInt32) &&& 1431655765)) &&& 858993459) + ((((yx - (((yx.toUInt32 >>> ((1 : Int32).toUInt32 &&& Int32.toUInt32 31)).toInt32) &&& 1431655765)).toUInt32 >>> ((2 : Int32).toUInt32 &&& Int32.toUInt32 31)).toInt32) &&& 858993459)) + (((((yx - (((yx.toUInt32 >>> ((1 : Int32).toUInt32 &&& Int32.toUInt32 31)).toInt32) &&& 1431655765)) &&& 858993459) + ((((yx - (((yx.toUInt32 >>> ((1 : Int32).toUInt32 &&& Int32.toUInt32 31)).toInt32) &&& 1431655765)).toUInt32 >>> ((2 : Int32).toUInt32 &&& Int32.toUInt32 31)).toInt32) &&& 858993459)).toUInt32 >>> ((4 : Int32).toUInt32 &&& Int32.toUInt32 31)).toInt32)) &&& 252645135).toUInt32 >>> ((8 : Int32).toUInt32 &&& Int32.toUInt32 31)).toInt32)).toUInt32 >>> ((16 : Int32).toUInt32 &&& Int32.toUInt32 31)).toInt32)) &&& 63))) yA) :
    Pa N 259 0 [(0, .int yx)] [] yA yQ := by
  refine Pa.mp 2 (pc' := 2) (l' := [(0, .int yx)]) (st' := [.int yx, .int yx]) (by rfl) ?_
  refine Pa.ic (x := 1) (pc' := 3) (by rfl) (by rfl) (by decide) ?_
  refine Pa.mp 1 (pc' := 4) (l' := [(0, .int yx)]) (st' := [.int ((yx.toUInt32 >>> ((1 : Int32).toUInt32 &&& Int32.toUInt32 31)).toInt32), .int yx]) (by rfl) ?_
  refine Pa.icl (x := 1431655765) (pc' := 7) (by rfl) (fun _ _ _ => by rfl) (by decide) ?_
  refine Pa.mp 4 (pc' := 11) (l' := [(0, .int (yx - (((yx.toUInt32 >>> ((1 : Int32).toUInt32 &&& Int32.toUInt32 31)).toInt32) &&& 1431655765)))]) (st' := [.int (yx - (((yx.toUInt32 >>> ((1 : Int32).toUInt32 &&& Int32.toUInt32 31)).toInt32) &&& 1431655765))]) (by rfl) ?_
  refine Pa.icl (x := 858993459) (pc' := 14) (by rfl) (fun _ _ _ => by rfl) (by decide) ?_
  refine Pa.mp 2 (pc' := 16) (l' := [(0, .int (yx - (((yx.toUInt32 >>> ((1 : Int32).toUInt32 &&& Int32.toUInt32 31)).toInt32) &&& 1431655765)))]) (st' := [.int (yx - (((yx.toUInt32 >>> ((1 : Int32).toUInt32 &&& Int32.toUInt32 31)).toInt32) &&& 1431655765)), .int ((yx - (((yx.toUInt32 >>> ((1 : Int32).toUInt32 &&& Int32.toUInt32 31)).toInt32) &&& 1431655765)) &&& 858993459)]) (by rfl) ?_
  refine Pa.ic (x := 2) (pc' := 17) (by rfl) (by rfl) (by decide) ?_
  refine Pa.mp 1 (pc' := 18) (l' := [(0, .int (yx - (((yx.toUInt32 >>> ((1 : Int32).toUInt32 &&& Int32.toUInt32 31)).toInt32) &&& 1431655765)))]) (st' := [.int (((yx - (((yx.toUInt32 >>> ((1 : Int32).toUInt32 &&& Int32.toUInt32 31)).toInt32) &&& 1431655765)).toUInt32 >>> ((2 : Int32).toUInt32 &&& Int32.toUInt32 31)).toInt32), .int ((yx - (((yx.toUInt32 >>> ((1 : Int32).toUInt32 &&& Int32.toUInt32 31)).toInt32) &&& 1431655765)) &&& 858993459)]) (by rfl) ?_
  refine Pa.icl (x := 858993459) (pc' := 21) (by rfl) (fun _ _ _ => by rfl) (by decide) ?_
  refine Pa.mp 5 (pc' := 26) (l' := [(0, .int (((yx - (((yx.toUInt32 >>> ((1 : Int32).toUInt32 &&& Int32.toUInt32 31)).toInt32) &&& 1431655765)) &&& 858993459) + ((((yx - (((yx.toUInt32 >>> ((1 : Int32).toUInt32 &&& Int32.toUInt32 31)).toInt32) &&& 1431655765)).toUInt32 >>> ((2 : Int32).toUInt32 &&& Int32.toUInt32 31)).toInt32) &&& 858993459)))]) (st' := [.int (((yx - (((yx.toUInt32 >>> ((1 : Int32).toUInt32 &&& Int32.toUInt32 31)).toInt32) &&& 1431655765)) &&& 858993459) + ((((yx - (((yx.toUInt32 >>> ((1 : Int32).toUInt32 &&& Int32.toUInt32 31)).toInt32) &&& 1431655765)).toUInt32 >>> ((2 : Int32).toUInt32 &&& Int32.toUInt32 31)).toInt32) &&& 858993459)), .int (((yx - (((yx.toUInt32 >>> ((1 : Int32).toUInt32 &&& Int32.toUInt32 31)).toInt32) &&& 1431655765)) &&& 858993459) + ((((yx - (((yx.toUInt32 >>> ((1 : Int32).toUInt32 &&& Int32.toUInt32 31)).toInt32) &&& 1431655765)).toUInt32 >>> ((2 : Int32).toUInt32 &&& Int32.toUInt32 31)).toInt32) &&& 858993459))]) (by rfl) ?_
  refine Pa.ic (x := 4) (pc' := 27) (by rfl) (by rfl) (by decide) ?_
  refine Pa.mp 2 (pc' := 29) (l' := [(0, .int (((yx - (((yx.toUInt32 >>> ((1 : Int32).toUInt32 &&& Int32.toUInt32 31)).toInt32) &&& 1431655765)) &&& 858993459) + ((((yx - (((yx.toUInt32 >>> ((1 : Int32).toUInt32 &&& Int32.toUInt32 31)).toInt32) &&& 1431655765)).toUInt32 >>> ((2 : Int32).toUInt32 &&& Int32.toUInt32 31)).toInt32) &&& 858993459)))]) (st' := [.int ((((yx - (((yx.toUInt32 >>> ((1 : Int32).toUInt32 &&& Int32.toUInt32 31)).toInt32) &&& 1431655765)) &&& 858993459) + ((((yx - (((yx.toUInt32 >>> ((1 : Int32).toUInt32 &&& Int32.toUInt32 31)).toInt32) &&& 1431655765)).toUInt32 >>> ((2 : Int32).toUInt32 &&& Int32.toUInt32 31)).toInt32) &&& 858993459)) + (((((yx - (((yx.toUInt32 >>> ((1 : Int32).toUInt32 &&& Int32.toUInt32 31)).toInt32) &&& 1431655765)) &&& 858993459) + ((((yx - (((yx.toUInt32 >>> ((1 : Int32).toUInt32 &&& Int32.toUInt32 31)).toInt32) &&& 1431655765)).toUInt32 >>> ((2 : Int32).toUInt32 &&& Int32.toUInt32 31)).toInt32) &&& 858993459)).toUInt32 >>> ((4 : Int32).toUInt32 &&& Int32.toUInt32 31)).toInt32))]) (by rfl) ?_
  refine Pa.icl (x := 252645135) (pc' := 32) (by rfl) (fun _ _ _ => by rfl) (by decide) ?_
  refine Pa.mp 4 (pc' := 36) (l' := [(0, .int (((((yx - (((yx.toUInt32 >>> ((1 : Int32).toUInt32 &&& Int32.toUInt32 31)).toInt32) &&& 1431655765)) &&& 858993459) + ((((yx - (((yx.toUInt32 >>> ((1 : Int32).toUInt32 &&& Int32.toUInt32 31)).toInt32) &&& 1431655765)).toUInt32 >>> ((2 : Int32).toUInt32 &&& Int32.toUInt32 31)).toInt32) &&& 858993459)) + (((((yx - (((yx.toUInt32 >>> ((1 : Int32).toUInt32 &&& Int32.toUInt32 31)).toInt32) &&& 1431655765)) &&& 858993459) + ((((yx - (((yx.toUInt32 >>> ((1 : Int32).toUInt32 &&& Int32.toUInt32 31)).toInt32) &&& 1431655765)).toUInt32 >>> ((2 : Int32).toUInt32 &&& Int32.toUInt32 31)).toInt32) &&& 858993459)).toUInt32 >>> ((4 : Int32).toUInt32 &&& Int32.toUInt32 31)).toInt32)) &&& 252645135))]) (st' := [.int (((((yx - (((yx.toUInt32 >>> ((1 : Int32).toUInt32 &&& Int32.toUInt32 31)).toInt32) &&& 1431655765)) &&& 858993459) + ((((yx - (((yx.toUInt32 >>> ((1 : Int32).toUInt32 &&& Int32.toUInt32 31)).toInt32) &&& 1431655765)).toUInt32 >>> ((2 : Int32).toUInt32 &&& Int32.toUInt32 31)).toInt32) &&& 858993459)) + (((((yx - (((yx.toUInt32 >>> ((1 : Int32).toUInt32 &&& Int32.toUInt32 31)).toInt32) &&& 1431655765)) &&& 858993459) + ((((yx - (((yx.toUInt32 >>> ((1 : Int32).toUInt32 &&& Int32.toUInt32 31)).toInt32) &&& 1431655765)).toUInt32 >>> ((2 : Int32).toUInt32 &&& Int32.toUInt32 31)).toInt32) &&& 858993459)).toUInt32 >>> ((4 : Int32).toUInt32 &&& Int32.toUInt32 31)).toInt32)) &&& 252645135), .int (((((yx - (((yx.toUInt32 >>> ((1 : Int32).toUInt32 &&& Int32.toUInt32 31)).toInt32) &&& 1431655765)) &&& 858993459) + ((((yx - (((yx.toUInt32 >>> ((1 : Int32).toUInt32 &&& Int32.toUInt32 31)).toInt32) &&& 1431655765)).toUInt32 >>> ((2 : Int32).toUInt32 &&& Int32.toUInt32 31)).toInt32) &&& 858993459)) + (((((yx - (((yx.toUInt32 >>> ((1 : Int32).toUInt32 &&& Int32.toUInt32 31)).toInt32) &&& 1431655765)) &&& 858993459) + ((((yx - (((yx.toUInt32 >>> ((1 : Int32).toUInt32 &&& Int32.toUInt32 31)).toInt32) &&& 1431655765)).toUInt32 >>> ((2 : Int32).toUInt32 &&& Int32.toUInt32 31)).toInt32) &&& 858993459)).toUInt32 >>> ((4 : Int32).toUInt32 &&& Int32.toUInt32 31)).toInt32)) &&& 252645135)]) (by rfl) ?_
  refine Pa.ic (x := 8) (pc' := 38) (by rfl) (by rfl) (by decide) ?_
  refine Pa.mp 5 (pc' := 43) (l' := [(0, .int ((((((yx - (((yx.toUInt32 >>> ((1 : Int32).toUInt32 &&& Int32.toUInt32 31)).toInt32) &&& 1431655765)) &&& 858993459) + ((((yx - (((yx.toUInt32 >>> ((1 : Int32).toUInt32 &&& Int32.toUInt32 31)).toInt32) &&& 1431655765)).toUInt32 >>> ((2 : Int32).toUInt32 &&& Int32.toUInt32 31)).toInt32) &&& 858993459)) + (((((yx - (((yx.toUInt32 >>> ((1 : Int32).toUInt32 &&& Int32.toUInt32 31)).toInt32) &&& 1431655765)) &&& 858993459) + ((((yx - (((yx.toUInt32 >>> ((1 : Int32).toUInt32 &&& Int32.toUInt32 31)).toInt32) &&& 1431655765)).toUInt32 >>> ((2 : Int32).toUInt32 &&& Int32.toUInt32 31)).toInt32) &&& 858993459)).toUInt32 >>> ((4 : Int32).toUInt32 &&& Int32.toUInt32 31)).toInt32)) &&& 252645135) + (((((((yx - (((yx.toUInt32 >>> ((1 : Int32).toUInt32 &&& Int32.toUInt32 31)).toInt32) &&& 1431655765)) &&& 858993459) + ((((yx - (((yx.toUInt32 >>> ((1 : Int32).toUInt32 &&& Int32.toUInt32 31)).toInt32) &&& 1431655765)).toUInt32 >>> ((2 : Int32).toUInt32 &&& Int32.toUInt32 31)).toInt32) &&& 858993459)) + (((((yx - (((yx.toUInt32 >>> ((1 : Int32).toUInt32 &&& Int32.toUInt32 31)).toInt32) &&& 1431655765)) &&& 858993459) + ((((yx - (((yx.toUInt32 >>> ((1 : Int32).toUInt32 &&& Int32.toUInt32 31)).toInt32) &&& 1431655765)).toUInt32 >>> ((2 : Int32).toUInt32 &&& Int32.toUInt32 31)).toInt32) &&& 858993459)).toUInt32 >>> ((4 : Int32).toUInt32 &&& Int32.toUInt32 31)).toInt32)) &&& 252645135).toUInt32 >>> ((8 : Int32).toUInt32 &&& Int32.toUInt32 31)).toInt32)))]) (st' := [.int ((((((yx - (((yx.toUInt32 >>> ((1 : Int32).toUInt32 &&& Int32.toUInt32 31)).toInt32) &&& 1431655765)) &&& 858993459) + ((((yx - (((yx.toUInt32 >>> ((1 : Int32).toUInt32 &&& Int32.toUInt32 31)).toInt32) &&& 1431655765)).toUInt32 >>> ((2 : Int32).toUInt32 &&& Int32.toUInt32 31)).toInt32) &&& 858993459)) + (((((yx - (((yx.toUInt32 >>> ((1 : Int32).toUInt32 &&& Int32.toUInt32 31)).toInt32) &&& 1431655765)) &&& 858993459) + ((((yx - (((yx.toUInt32 >>> ((1 : Int32).toUInt32 &&& Int32.toUInt32 31)).toInt32) &&& 1431655765)).toUInt32 >>> ((2 : Int32).toUInt32 &&& Int32.toUInt32 31)).toInt32) &&& 858993459)).toUInt32 >>> ((4 : Int32).toUInt32 &&& Int32.toUInt32 31)).toInt32)) &&& 252645135) + (((((((yx - (((yx.toUInt32 >>> ((1 : Int32).toUInt32 &&& Int32.toUInt32 31)).toInt32) &&& 1431655765)) &&& 858993459) + ((((yx - (((yx.toUInt32 >>> ((1 : Int32).toUInt32 &&& Int32.toUInt32 31)).toInt32) &&& 1431655765)).toUInt32 >>> ((2 : Int32).toUInt32 &&& Int32.toUInt32 31)).toInt32) &&& 858993459)) + (((((yx - (((yx.toUInt32 >>> ((1 : Int32).toUInt32 &&& Int32.toUInt32 31)).toInt32) &&& 1431655765)) &&& 858993459) + ((((yx - (((yx.toUInt32 >>> ((1 : Int32).toUInt32 &&& Int32.toUInt32 31)).toInt32) &&& 1431655765)).toUInt32 >>> ((2 : Int32).toUInt32 &&& Int32.toUInt32 31)).toInt32) &&& 858993459)).toUInt32 >>> ((4 : Int32).toUInt32 &&& Int32.toUInt32 31)).toInt32)) &&& 252645135).toUInt32 >>> ((8 : Int32).toUInt32 &&& Int32.toUInt32 31)).toInt32)), .int ((((((yx - (((yx.toUInt32 >>> ((1 : Int32).toUInt32 &&& Int32.toUInt32 31)).toInt32) &&& 1431655765)) &&& 858993459) + ((((yx - (((yx.toUInt32 >>> ((1 : Int32).toUInt32 &&& Int32.toUInt32 31)).toInt32) &&& 1431655765)).toUInt32 >>> ((2 : Int32).toUInt32 &&& Int32.toUInt32 31)).toInt32) &&& 858993459)) + (((((yx - (((yx.toUInt32 >>> ((1 : Int32).toUInt32 &&& Int32.toUInt32 31)).toInt32) &&& 1431655765)) &&& 858993459) + ((((yx - (((yx.toUInt32 >>> ((1 : Int32).toUInt32 &&& Int32.toUInt32 31)).toInt32) &&& 1431655765)).toUInt32 >>> ((2 : Int32).toUInt32 &&& Int32.toUInt32 31)).toInt32) &&& 858993459)).toUInt32 >>> ((4 : Int32).toUInt32 &&& Int32.toUInt32 31)).toInt32)) &&& 252645135) + (((((((yx - (((yx.toUInt32 >>> ((1 : Int32).toUInt32 &&& Int32.toUInt32 31)).toInt32) &&& 1431655765)) &&& 858993459) + ((((yx - (((yx.toUInt32 >>> ((1 : Int32).toUInt32 &&& Int32.toUInt32 31)).toInt32) &&& 1431655765)).toUInt32 >>> ((2 : Int32).toUInt32 &&& Int32.toUInt32 31)).toInt32) &&& 858993459)) + (((((yx - (((yx.toUInt32 >>> ((1 : Int32).toUInt32 &&& Int32.toUInt32 31)).toInt32) &&& 1431655765)) &&& 858993459) + ((((yx - (((yx.toUInt32 >>> ((1 : Int32).toUInt32 &&& Int32.toUInt32 31)).toInt32) &&& 1431655765)).toUInt32 >>> ((2 : Int32).toUInt32 &&& Int32.toUInt32 31)).toInt32) &&& 858993459)).toUInt32 >>> ((4 : Int32).toUInt32 &&& Int32.toUInt32 31)).toInt32)) &&& 252645135).toUInt32 >>> ((8 : Int32).toUInt32 &&& Int32.toUInt32 31)).toInt32))]) (by rfl) ?_
  refine Pa.ic (x := 16) (pc' := 45) (by rfl) (by rfl) (by decide) ?_
  refine Pa.mp 4 (pc' := 49) (l' := [(0, .int (((((((yx - (((yx.toUInt32 >>> ((1 : Int32).toUInt32 &&& Int32.toUInt32 31)).toInt32) &&& 1431655765)) &&& 858993459) + ((((yx - (((yx.toUInt32 >>> ((1 : Int32).toUInt32 &&& Int32.toUInt32 31)).toInt32) &&& 1431655765)).toUInt32 >>> ((2 : Int32).toUInt32 &&& Int32.toUInt32 31)).toInt32) &&& 858993459)) + (((((yx - (((yx.toUInt32 >>> ((1 : Int32).toUInt32 &&& Int32.toUInt32 31)).toInt32) &&& 1431655765)) &&& 858993459) + ((((yx - (((yx.toUInt32 >>> ((1 : Int32).toUInt32 &&& Int32.toUInt32 31)).toInt32) &&& 1431655765)).toUInt32 >>> ((2 : Int32).toUInt32 &&& Int32.toUInt32 31)).toInt32) &&& 858993459)).toUInt32 >>> ((4 : Int32).toUInt32 &&& Int32.toUInt32 31)).toInt32)) &&& 252645135) + (((((((yx - (((yx.toUInt32 >>> ((1 : Int32).toUInt32 &&& Int32.toUInt32 31)).toInt32) &&& 1431655765)) &&& 858993459) + ((((yx - (((yx.toUInt32 >>> ((1 : Int32).toUInt32 &&& Int32.toUInt32 31)).toInt32) &&& 1431655765)).toUInt32 >>> ((2 : Int32).toUInt32 &&& Int32.toUInt32 31)).toInt32) &&& 858993459)) + (((((yx - (((yx.toUInt32 >>> ((1 : Int32).toUInt32 &&& Int32.toUInt32 31)).toInt32) &&& 1431655765)) &&& 858993459) + ((((yx - (((yx.toUInt32 >>> ((1 : Int32).toUInt32 &&& Int32.toUInt32 31)).toInt32) &&& 1431655765)).toUInt32 >>> ((2 : Int32).toUInt32 &&& Int32.toUInt32 31)).toInt32) &&& 858993459)).toUInt32 >>> ((4 : Int32).toUInt32 &&& Int32.toUInt32 31)).toInt32)) &&& 252645135).toUInt32 >>> ((8 : Int32).toUInt32 &&& Int32.toUInt32 31)).toInt32)) + ((((((((yx - (((yx.toUInt32 >>> ((1 : Int32).toUInt32 &&& Int32.toUInt32 31)).toInt32) &&& 1431655765)) &&& 858993459) + ((((yx - (((yx.toUInt32 >>> ((1 : Int32).toUInt32 &&& Int32.toUInt32 31)).toInt32) &&& 1431655765)).toUInt32 >>> ((2 : Int32).toUInt32 &&& Int32.toUInt32 31)).toInt32) &&& 858993459)) + (((((yx - (((yx.toUInt32 >>> ((1 : Int32).toUInt32 &&& Int32.toUInt32 31)).toInt32) &&& 1431655765)) &&& 858993459) + ((((yx - (((yx.toUInt32 >>> ((1 : Int32).toUInt32 &&& Int32.toUInt32 31)).toInt32) &&& 1431655765)).toUInt32 >>> ((2 : Int32).toUInt32 &&& Int32.toUInt32 31)).toInt32) &&& 858993459)).toUInt32 >>> ((4 : Int32).toUInt32 &&& Int32.toUInt32 31)).toInt32)) &&& 252645135) + (((((((yx - (((yx.toUInt32 >>> ((1 : Int32).toUInt32 &&& Int32.toUInt32 31)).toInt32) &&& 1431655765)) &&& 858993459) + ((((yx - (((yx.toUInt32 >>> ((1 : Int32).toUInt32 &&& Int32.toUInt32 31)).toInt32) &&& 1431655765)).toUInt32 >>> ((2 : Int32).toUInt32 &&& Int32.toUInt32 31)).toInt32) &&& 858993459)) + (((((yx - (((yx.toUInt32 >>> ((1 : Int32).toUInt32 &&& Int32.toUInt32 31)).toInt32) &&& 1431655765)) &&& 858993459) + ((((yx - (((yx.toUInt32 >>> ((1 : Int32).toUInt32 &&& Int32.toUInt32 31)).toInt32) &&& 1431655765)).toUInt32 >>> ((2 : Int32).toUInt32 &&& Int32.toUInt32 31)).toInt32) &&& 858993459)).toUInt32 >>> ((4 : Int32).toUInt32 &&& Int32.toUInt32 31)).toInt32)) &&& 252645135).toUInt32 >>> ((8 : Int32).toUInt32 &&& Int32.toUInt32 31)).toInt32)).toUInt32 >>> ((16 : Int32).toUInt32 &&& Int32.toUInt32 31)).toInt32)))]) (st' := [.int (((((((yx - (((yx.toUInt32 >>> ((1 : Int32).toUInt32 &&& Int32.toUInt32 31)).toInt32) &&& 1431655765)) &&& 858993459) + ((((yx - (((yx.toUInt32 >>> ((1 : Int32).toUInt32 &&& Int32.toUInt32 31)).toInt32) &&& 1431655765)).toUInt32 >>> ((2 : Int32).toUInt32 &&& Int32.toUInt32 31)).toInt32) &&& 858993459)) + (((((yx - (((yx.toUInt32 >>> ((1 : Int32).toUInt32 &&& Int32.toUInt32 31)).toInt32) &&& 1431655765)) &&& 858993459) + ((((yx - (((yx.toUInt32 >>> ((1 : Int32).toUInt32 &&& Int32.toUInt32 31)).toInt32) &&& 1431655765)).toUInt32 >>> ((2 : Int32).toUInt32 &&& Int32.toUInt32 31)).toInt32) &&& 858993459)).toUInt32 >>> ((4 : Int32).toUInt32 &&& Int32.toUInt32 31)).toInt32)) &&& 252645135) + (((((((yx - (((yx.toUInt32 >>> ((1 : Int32).toUInt32 &&& Int32.toUInt32 31)).toInt32) &&& 1431655765)) &&& 858993459) + ((((yx - (((yx.toUInt32 >>> ((1 : Int32).toUInt32 &&& Int32.toUInt32 31)).toInt32) &&& 1431655765)).toUInt32 >>> ((2 : Int32).toUInt32 &&& Int32.toUInt32 31)).toInt32) &&& 858993459)) + (((((yx - (((yx.toUInt32 >>> ((1 : Int32).toUInt32 &&& Int32.toUInt32 31)).toInt32) &&& 1431655765)) &&& 858993459) + ((((yx - (((yx.toUInt32 >>> ((1 : Int32).toUInt32 &&& Int32.toUInt32 31)).toInt32) &&& 1431655765)).toUInt32 >>> ((2 : Int32).toUInt32 &&& Int32.toUInt32 31)).toInt32) &&& 858993459)).toUInt32 >>> ((4 : Int32).toUInt32 &&& Int32.toUInt32 31)).toInt32)) &&& 252645135).toUInt32 >>> ((8 : Int32).toUInt32 &&& Int32.toUInt32 31)).toInt32)) + ((((((((yx - (((yx.toUInt32 >>> ((1 : Int32).toUInt32 &&& Int32.toUInt32 31)).toInt32) &&& 1431655765)) &&& 858993459) + ((((yx - (((yx.toUInt32 >>> ((1 : Int32).toUInt32 &&& Int32.toUInt32 31)).toInt32) &&& 1431655765)).toUInt32 >>> ((2 : Int32).toUInt32 &&& Int32.toUInt32 31)).toInt32) &&& 858993459)) + (((((yx - (((yx.toUInt32 >>> ((1 : Int32).toUInt32 &&& Int32.toUInt32 31)).toInt32) &&& 1431655765)) &&& 858993459) + ((((yx - (((yx.toUInt32 >>> ((1 : Int32).toUInt32 &&& Int32.toUInt32 31)).toInt32) &&& 1431655765)).toUInt32 >>> ((2 : Int32).toUInt32 &&& Int32.toUInt32 31)).toInt32) &&& 858993459)).toUInt32 >>> ((4 : Int32).toUInt32 &&& Int32.toUInt32 31)).toInt32)) &&& 252645135) + (((((((yx - (((yx.toUInt32 >>> ((1 : Int32).toUInt32 &&& Int32.toUInt32 31)).toInt32) &&& 1431655765)) &&& 858993459) + ((((yx - (((yx.toUInt32 >>> ((1 : Int32).toUInt32 &&& Int32.toUInt32 31)).toInt32) &&& 1431655765)).toUInt32 >>> ((2 : Int32).toUInt32 &&& Int32.toUInt32 31)).toInt32) &&& 858993459)) + (((((yx - (((yx.toUInt32 >>> ((1 : Int32).toUInt32 &&& Int32.toUInt32 31)).toInt32) &&& 1431655765)) &&& 858993459) + ((((yx - (((yx.toUInt32 >>> ((1 : Int32).toUInt32 &&& Int32.toUInt32 31)).toInt32) &&& 1431655765)).toUInt32 >>> ((2 : Int32).toUInt32 &&& Int32.toUInt32 31)).toInt32) &&& 858993459)).toUInt32 >>> ((4 : Int32).toUInt32 &&& Int32.toUInt32 31)).toInt32)) &&& 252645135).toUInt32 >>> ((8 : Int32).toUInt32 &&& Int32.toUInt32 31)).toInt32)).toUInt32 >>> ((16 : Int32).toUInt32 &&& Int32.toUInt32 31)).toInt32))]) (by rfl) ?_
  refine Pa.ic (x := 63) (pc' := 51) (by rfl) (by rfl) (by decide) ?_
  refine Pa.mp 1 (pc' := 52) (l' := [(0, .int (((((((yx - (((yx.toUInt32 >>> ((1 : Int32).toUInt32 &&& Int32.toUInt32 31)).toInt32) &&& 1431655765)) &&& 858993459) + ((((yx - (((yx.toUInt32 >>> ((1 : Int32).toUInt32 &&& Int32.toUInt32 31)).toInt32) &&& 1431655765)).toUInt32 >>> ((2 : Int32).toUInt32 &&& Int32.toUInt32 31)).toInt32) &&& 858993459)) + (((((yx - (((yx.toUInt32 >>> ((1 : Int32).toUInt32 &&& Int32.toUInt32 31)).toInt32) &&& 1431655765)) &&& 858993459) + ((((yx - (((yx.toUInt32 >>> ((1 : Int32).toUInt32 &&& Int32.toUInt32 31)).toInt32) &&& 1431655765)).toUInt32 >>> ((2 : Int32).toUInt32 &&& Int32.toUInt32 31)).toInt32) &&& 858993459)).toUInt32 >>> ((4 : Int32).toUInt32 &&& Int32.toUInt32 31)).toInt32)) &&& 252645135) + (((((((yx - (((yx.toUInt32 >>> ((1 : Int32).toUInt32 &&& Int32.toUInt32 31)).toInt32) &&& 1431655765)) &&& 858993459) + ((((yx - (((yx.toUInt32 >>> ((1 : Int32).toUInt32 &&& Int32.toUInt32 31)).toInt32) &&& 1431655765)).toUInt32 >>> ((2 : Int32).toUInt32 &&& Int32.toUInt32 31)).toInt32) &&& 858993459)) + (((((yx - (((yx.toUInt32 >>> ((1 : Int32).toUInt32 &&& Int32.toUInt32 31)).toInt32) &&& 1431655765)) &&& 858993459) + ((((yx - (((yx.toUInt32 >>> ((1 : Int32).toUInt32 &&& Int32.toUInt32 31)).toInt32) &&& 1431655765)).toUInt32 >>> ((2 : Int32).toUInt32 &&& Int32.toUInt32 31)).toInt32) &&& 858993459)).toUInt32 >>> ((4 : Int32).toUInt32 &&& Int32.toUInt32 31)).toInt32)) &&& 252645135).toUInt32 >>> ((8 : Int32).toUInt32 &&& Int32.toUInt32 31)).toInt32)) + ((((((((yx - (((yx.toUInt32 >>> ((1 : Int32).toUInt32 &&& Int32.toUInt32 31)).toInt32) &&& 1431655765)) &&& 858993459) + ((((yx - (((yx.toUInt32 >>> ((1 : Int32).toUInt32 &&& Int32.toUInt32 31)).toInt32) &&& 1431655765)).toUInt32 >>> ((2 : Int32).toUInt32 &&& Int32.toUInt32 31)).toInt32) &&& 858993459)) + (((((yx - (((yx.toUInt32 >>> ((1 : Int32).toUInt32 &&& Int32.toUInt32 31)).toInt32) &&& 1431655765)) &&& 858993459) + ((((yx - (((yx.toUInt32 >>> ((1 : Int32).toUInt32 &&& Int32.toUInt32 31)).toInt32) &&& 1431655765)).toUInt32 >>> ((2 : Int32).toUInt32 &&& Int32.toUInt32 31)).toInt32) &&& 858993459)).toUInt32 >>> ((4 : Int32).toUInt32 &&& Int32.toUInt32 31)).toInt32)) &&& 252645135) + (((((((yx - (((yx.toUInt32 >>> ((1 : Int32).toUInt32 &&& Int32.toUInt32 31)).toInt32) &&& 1431655765)) &&& 858993459) + ((((yx - (((yx.toUInt32 >>> ((1 : Int32).toUInt32 &&& Int32.toUInt32 31)).toInt32) &&& 1431655765)).toUInt32 >>> ((2 : Int32).toUInt32 &&& Int32.toUInt32 31)).toInt32) &&& 858993459)) + (((((yx - (((yx.toUInt32 >>> ((1 : Int32).toUInt32 &&& Int32.toUInt32 31)).toInt32) &&& 1431655765)) &&& 858993459) + ((((yx - (((yx.toUInt32 >>> ((1 : Int32).toUInt32 &&& Int32.toUInt32 31)).toInt32) &&& 1431655765)).toUInt32 >>> ((2 : Int32).toUInt32 &&& Int32.toUInt32 31)).toInt32) &&& 858993459)).toUInt32 >>> ((4 : Int32).toUInt32 &&& Int32.toUInt32 31)).toInt32)) &&& 252645135).toUInt32 >>> ((8 : Int32).toUInt32 &&& Int32.toUInt32 31)).toInt32)).toUInt32 >>> ((16 : Int32).toUInt32 &&& Int32.toUInt32 31)).toInt32)))]) (st' := [.int ((((((((yx - (((yx.toUInt32 >>> ((1 : Int32).toUInt32 &&& Int32.toUInt32 31)).toInt32) &&& 1431655765)) &&& 858993459) + ((((yx - (((yx.toUInt32 >>> ((1 : Int32).toUInt32 &&& Int32.toUInt32 31)).toInt32) &&& 1431655765)).toUInt32 >>> ((2 : Int32).toUInt32 &&& Int32.toUInt32 31)).toInt32) &&& 858993459)) + (((((yx - (((yx.toUInt32 >>> ((1 : Int32).toUInt32 &&& Int32.toUInt32 31)).toInt32) &&& 1431655765)) &&& 858993459) + ((((yx - (((yx.toUInt32 >>> ((1 : Int32).toUInt32 &&& Int32.toUInt32 31)).toInt32) &&& 1431655765)).toUInt32 >>> ((2 : Int32).toUInt32 &&& Int32.toUInt32 31)).toInt32) &&& 858993459)).toUInt32 >>> ((4 : Int32).toUInt32 &&& Int32.toUInt32 31)).toInt32)) &&& 252645135) + (((((((yx - (((yx.toUInt32 >>> ((1 : Int32).toUInt32 &&& Int32.toUInt32 31)).toInt32) &&& 1431655765)) &&& 858993459) + ((((yx - (((yx.toUInt32 >>> ((1 : Int32).toUInt32 &&& Int32.toUInt32 31)).toInt32) &&& 1431655765)).toUInt32 >>> ((2 : Int32).toUInt32 &&& Int32.toUInt32 31)).toInt32) &&& 858993459)) + (((((yx - (((yx.toUInt32 >>> ((1 : Int32).toUInt32 &&& Int32.toUInt32 31)).toInt32) &&& 1431655765)) &&& 858993459) + ((((yx - (((yx.toUInt32 >>> ((1 : Int32).toUInt32 &&& Int32.toUInt32 31)).toInt32) &&& 1431655765)).toUInt32 >>> ((2 : Int32).toUInt32 &&& Int32.toUInt32 31)).toInt32) &&& 858993459)).toUInt32 >>> ((4 : Int32).toUInt32 &&& Int32.toUInt32 31)).toInt32)) &&& 252645135).toUInt32 >>> ((8 : Int32).toUInt32 &&& Int32.toUInt32 31)).toInt32)) + ((((((((yx - (((yx.toUInt32 >>> ((1 : Int32).toUInt32 &&& Int32.toUInt32 31)).toInt32) &&& 1431655765)) &&& 858993459) + ((((yx - (((yx.toUInt32 >>> ((1 : Int32).toUInt32 &&& Int32.toUInt32 31)).toInt32) &&& 1431655765)).toUInt32 >>> ((2 : Int32).toUInt32 &&& Int32.toUInt32 31)).toInt32) &&& 858993459)) + (((((yx - (((yx.toUInt32 >>> ((1 : Int32).toUInt32 &&& Int32.toUInt32 31)).toInt32) &&& 1431655765)) &&& 858993459) + ((((yx - (((yx.toUInt32 >>> ((1 : Int32).toUInt32 &&& Int32.toUInt32 31)).toInt32) &&& 1431655765)).toUInt32 >>> ((2 : Int32).toUInt32 &&& Int32.toUInt32 31)).toInt32) &&& 858993459)).toUInt32 >>> ((4 : Int32).toUInt32 &&& Int32.toUInt32 31)).toInt32)) &&& 252645135) + (((((((yx - (((yx.toUInt32 >>> ((1 : Int32).toUInt32 &&& Int32.toUInt32 31)).toInt32) &&& 1431655765)) &&& 858993459) + ((((yx - (((yx.toUInt32 >>> ((1 : Int32).toUInt32 &&& Int32.toUInt32 31)).toInt32) &&& 1431655765)).toUInt32 >>> ((2 : Int32).toUInt32 &&& Int32.toUInt32 31)).toInt32) &&& 858993459)) + (((((yx - (((yx.toUInt32 >>> ((1 : Int32).toUInt32 &&& Int32.toUInt32 31)).toInt32) &&& 1431655765)) &&& 858993459) + ((((yx - (((yx.toUInt32 >>> ((1 : Int32).toUInt32 &&& Int32.toUInt32 31)).toInt32) &&& 1431655765)).toUInt32 >>> ((2 : Int32).toUInt32 &&& Int32.toUInt32 31)).toInt32) &&& 858993459)).toUInt32 >>> ((4 : Int32).toUInt32 &&& Int32.toUInt32 31)).toInt32)) &&& 252645135).toUInt32 >>> ((8 : Int32).toUInt32 &&& Int32.toUInt32 31)).toInt32)).toUInt32 >>> ((16 : Int32).toUInt32 &&& Int32.toUInt32 31)).toInt32)) &&& 63)]) (by rfl) ?_
  refine Pa.iret (by rfl) ?_
  exact l1

theorem c_bits (N : Nat) (yA : AW) (yx : Int32) : Pa N 259 0 [(0, .int yx)] [] yA (fun yu A1 => yu = some (.int (bcX yx)) ∧ A1 = yA) := bx_bc yx ⟨rfl, rfl⟩
def cnZ (yx : Int32) (yk : Nat) : Int32 := (yx >>> (Int32.ofNat yk &&& 31)) &&& 1
def cnM (yx : Int32) : Int32 := sumN (cnZ yx) 31
theorem bc_cn : ∀ ym : Fin 64, bcX (Int32.ofNat ym.val) = cnM (Int32.ofNat ym.val) := by decide +kernel
/-- the lands where ya film has costs, of the first costs -/
def lnB (yA : AW) (yf : Int32) : Nat → Int32
  | 0 => 0
  | yt + 1 => if (yA.1 90 (7 * yt)).toInt = yf.toInt then lnB yA yf yt ||| (1 <<< (yA.1 90 (7 * yt + 2) &&& 31)) else lnB yA yf yt
theorem lnB_cg {yA yB : AW} {yf : Int32} : ∀ (yt : Nat), (∀ yj, yj < 7 * yt → yA.1 90 yj = yB.1 90 yj) → lnB yA yf yt = lnB yB yf yt
  | 0, _ => rfl
  | yt + 1, yh => by
    show (if (yA.1 90 (7 * yt)).toInt = yf.toInt then lnB yA yf yt ||| (1 <<< (yA.1 90 (7 * yt + 2) &&& 31)) else lnB yA yf yt) = (if (yB.1 90 (7 * yt)).toInt = yf.toInt then lnB yB yf yt ||| (1 <<< (yB.1 90 (7 * yt + 2) &&& 31)) else lnB yB yf yt)
    rw [yh (7 * yt) (by omega), yh (7 * yt + 2) (by omega), lnB_cg yt (fun yj hj => yh yj (by omega))]
theorem or_key : ∀ (ym : Fin 64) (yq : Fin 6), ∃ yz : Fin 64, (Int32.ofNat ym.val ||| (1 <<< (Int32.ofNat yq.val &&& 31))) = Int32.ofNat yz.val := by
  intro ym yq
  exact ⟨⟨(ym.val ||| 2 ^ yq.val) % 64, Nat.mod_lt _ (by decide)⟩, by revert ym yq; decide +kernel⟩
theorem lnB_64 {yA : AW} {yf : Int32} : ∀ (yt : Nat), (∀ yc, yc < yt → 0 ≤ (yA.1 90 (7 * yc + 2)).toInt ∧ (yA.1 90 (7 * yc + 2)).toInt ≤ 5) → ∃ yz : Fin 64, lnB yA yf yt = Int32.ofNat yz.val
  | 0, _ => ⟨⟨0, by decide⟩, rfl⟩
  | yt + 1, yh => by
    obtain ⟨ym, yhm⟩ := lnB_64 (yf := yf) yt (fun yc yhc => yh yc (by omega))
    have hl := yh yt (by omega)
    unfold lnB
    by_cases ye : (yA.1 90 (7 * yt)).toInt = yf.toInt
    · rw [if_pos ye, yhm, ← i32_of (yx := yA.1 90 (7 * yt + 2)) hl.1]
      exact or_key ym ⟨(yA.1 90 (7 * yt + 2)).toInt.toNat, by omega⟩
    · rw [if_neg ye]
      exact ⟨ym, yhm⟩
theorem i7x {yi : Nat} (yhi : yi < 150) {yc : Int32} {yq : Nat} (yhc : yc.toInt = (yq : Int)) (hq : yq < 7) : (((7 : Int32) * Int32.ofNat yi) + yc).toInt.toNat = 7 * yi + yq := by
  have em : ((7 : Int32) * Int32.ofNat yi).toInt = 7 * (yi : Int) := by
    rw [Int32.toInt_mul, i32_nat (by omega), show (7 : Int32).toInt = 7 from by decide]
    exact z_bm0 ⟨by show (-2147483648 : Int) ≤ _; omega, by show _ ≤ (2147483647 : Int); omega⟩
  rw [i_addx (x := 7 * (yi : Int) + (yq : Int)) (by rw [em, yhc]) (by omega) (by omega)]
  omega
theorem bm_ln0 {N : Nat} {yA : AW} {yQ : Option Value → AW → Prop} (yf : Int32)
    (l1 : Pa N 207 4 [(0, .ref 69), (1, .int yf), (2, .int 0), (3, .int 0)] [] yA yQ) :
    Pa N 207 0 [(0, .ref 69), (1, .int yf)] [] yA yQ := by
  refine Pa.ic (x := 0) (pc' := 1) (by rfl) (by rfl) (by decide) ?_
  refine Pa.mp 1 (pc' := 2) (l' := [(2, .int 0), (0, .ref 69), (1, .int yf)]) (st' := []) (by rfl) ?_
  refine Pa.ic (x := 0) (pc' := 3) (by rfl) (by rfl) (by decide) ?_
  refine Pa.mp 1 (pc' := 4) (l' := [(3, .int 0), (2, .int 0), (0, .ref 69), (1, .int yf)]) (st' := []) (by rfl) ?_
  refine Pa.lv (l' := [(0, .ref 69), (1, .int yf), (2, .int 0), (3, .int 0)]) (lvS_c rfl (lvS_c rfl (lvS_c rfl (lvS_c rfl (lvS_nil))))) rfl ?_
  exact l1

theorem bm_ln {N : Nat} {yA : AW} {yQ : Option Value → AW → Prop} (yf yb yi : Int32)
    (l1 : (yA.1 69 31).toInt ≤ yi.toInt → Pa N 208 0 [(0, .int yb)] [] yA (fun yu A1 => Pa N 207 47 [(0, .ref 69), (1, .int yf), (2, .int yb), (3, .int yi)] (yu.toList ++ []) A1 yQ))
    (l2 : yi.toInt < (yA.1 69 31).toInt → 0 ≤ ((7 * yi) + 0).toInt → ((7 * yi) + 0).toInt < 1050 → (yA.1 90 (((7 * yi) + 0).toInt.toNat)).toInt ≠ yf.toInt → Pa N 207 4 [(0, .ref 69), (1, .int yf), (2, .int (yb ||| 0)), (3, .int (yi + 1))] [] yA yQ)
    (l3 : yi.toInt < (yA.1 69 31).toInt → 0 ≤ ((7 * yi) + 0).toInt → ((7 * yi) + 0).toInt < 1050 → (yA.1 90 (((7 * yi) + 0).toInt.toNat)).toInt = yf.toInt → 0 ≤ ((7 * yi) + 2).toInt → ((7 * yi) + 2).toInt < 1050 → Pa N 207 4 [(0, .ref 69), (1, .int yf), (2, .int (yb ||| (1 <<< ((yA.1 90 (((7 * yi) + 2).toInt.toNat)) &&& 31)))), (3, .int (yi + 1))] [] yA yQ) :
    Pa (N + 1) 207 4 [(0, .ref 69), (1, .int yf), (2, .int yb), (3, .int yi)] [] yA yQ := by
  refine Pa.mp1 1 (pc' := 6) (l' := [(0, .ref 69), (1, .int yf), (2, .int yb), (3, .int yi)]) (st' := [.ref 69, .int yi]) (by rfl) ?_
  refine Pa.gfI (v := yA.1 69 31) (by rfl) (by rfl) (.inl rfl) (by rfl) (by rfl) ?_
  refine Pa.if2 (a := yi.toInt) (b := (yA.1 69 31).toInt) (t := 43) (by rfl) (by rfl) (rfl) (rfl) (fun h1 => ?_) (fun h2 => ?_)
  · have h1 : (yA.1 69 31).toInt ≤ yi.toInt := h1
    refine Pa.mp 1 (pc' := 44) (l' := [(0, .ref 69), (1, .int yf), (2, .int yb), (3, .int yi)]) (st' := [.int yb]) (by rfl) ?_
    refine Pa.ist (by rfl) (by rfl) (.inl rfl) (by rfl) (by rfl) ?_
    exact l1 h1
  · have h2 : yi.toInt < (yA.1 69 31).toInt := h2
    refine Pa.mp 3 (pc' := 15) (l' := [(0, .ref 69), (1, .int yf), (2, .int yb), (3, .int yi)]) (st' := [.int yi, .ref 69, .int yb]) (by rfl) ?_
    refine Pa.ic (x := 0) (pc' := 16) (by rfl) (by rfl) (by decide) ?_
    refine Pa.inv (by rfl) (by rfl) (.inl rfl) (by rfl) ?_
    show Pa N 181 0 [(0, .ref 69), (1, .int yi), (2, .int 0)] [] yA _
    refine Pa.mp 1 (pc' := 1) (l' := [(0, .ref 69), (1, .int yi), (2, .int 0)]) (st' := [.ref 69]) (by rfl) ?_
    refine Pa.gfR (by rfl) (by rfl) (.inl rfl) (by rfl) ?_
    show Pa N 181 4 [(0, .ref 69), (1, .int yi), (2, .int 0)] [.ref 90] yA _
    refine Pa.ic (x := 7) (pc' := 6) (by rfl) (by rfl) (by decide) ?_
    refine Pa.mp 4 (pc' := 10) (l' := [(0, .ref 69), (1, .int yi), (2, .int 0)]) (st' := [.int ((7 * yi) + 0), .ref 90]) (by rfl) ?_
    refine Pa.alds (v := yA.1 90 (((7 * yi) + 0).toInt.toNat)) (by rfl) (by rfl) (by rfl) (fun h3 h4 => ?_)
    have h3 : 0 ≤ ((7 * yi) + 0).toInt := h3
    have h4 : ((7 * yi) + 0).toInt < 1050 := h4
    refine Pa.iret (by rfl) ?_
    show Pa N 207 19 [(0, .ref 69), (1, .int yf), (2, .int yb), (3, .int yi)] [.int (yA.1 90 (((7 * yi) + 0).toInt.toNat)), .int yb] yA _
    refine Pa.mp 1 (pc' := 20) (l' := [(0, .ref 69), (1, .int yf), (2, .int yb), (3, .int yi)]) (st' := [.int yf, .int (yA.1 90 (((7 * yi) + 0).toInt.toNat)), .int yb]) (by rfl) ?_
    refine Pa.if2 (a := (yA.1 90 (((7 * yi) + 0).toInt.toNat)).toInt) (b := yf.toInt) (t := 34) (by rfl) (by rfl) (rfl) (rfl) (fun h5 => ?_) (fun h6 => ?_)
    · have h5 : (yA.1 90 (((7 * yi) + 0).toInt.toNat)).toInt ≠ yf.toInt := h5
      refine Pa.ic (x := 0) (pc' := 35) (by rfl) (by rfl) (by decide) ?_
      refine Pa.mp 2 (pc' := 37) (l' := [(2, .int (yb ||| 0)), (0, .ref 69), (1, .int yf), (3, .int yi)]) (st' := []) (by rfl) ?_
      refine Pa.iinc (x := yi) (c := 1) (v := (yi + 1)) (l' := [(3, .int (yi + 1)), (2, .int (yb ||| 0)), (0, .ref 69), (1, .int yf)]) (by rfl) (by rfl) (by decide) (by rfl) (by rfl) ?_
      refine Pa.mp 1 (pc' := 4) (l' := [(3, .int (yi + 1)), (2, .int (yb ||| 0)), (0, .ref 69), (1, .int yf)]) (st' := []) (by rfl) ?_
      refine Pa.lv (l' := [(0, .ref 69), (1, .int yf), (2, .int (yb ||| 0)), (3, .int (yi + 1))]) (lvS_c rfl (lvS_c rfl (lvS_c rfl (lvS_c rfl (lvS_nil))))) rfl ?_
      exact l2 h2 h3 h4 h5
    · have h6 : (yA.1 90 (((7 * yi) + 0).toInt.toNat)).toInt = yf.toInt := h6
      refine Pa.ic (x := 1) (pc' := 24) (by rfl) (by rfl) (by decide) ?_
      refine Pa.mp 2 (pc' := 26) (l' := [(0, .ref 69), (1, .int yf), (2, .int yb), (3, .int yi)]) (st' := [.int yi, .ref 69, .int 1, .int yb]) (by rfl) ?_
      refine Pa.ic (x := 2) (pc' := 27) (by rfl) (by rfl) (by decide) ?_
      refine Pa.inv (by rfl) (by rfl) (.inl rfl) (by rfl) ?_
      show Pa N 181 0 [(0, .ref 69), (1, .int yi), (2, .int 2)] [] yA _
      refine Pa.mp 1 (pc' := 1) (l' := [(0, .ref 69), (1, .int yi), (2, .int 2)]) (st' := [.ref 69]) (by rfl) ?_
      refine Pa.gfR (by rfl) (by rfl) (.inl rfl) (by rfl) ?_
      show Pa N 181 4 [(0, .ref 69), (1, .int yi), (2, .int 2)] [.ref 90] yA _
      refine Pa.ic (x := 7) (pc' := 6) (by rfl) (by rfl) (by decide) ?_
      refine Pa.mp 4 (pc' := 10) (l' := [(0, .ref 69), (1, .int yi), (2, .int 2)]) (st' := [.int ((7 * yi) + 2), .ref 90]) (by rfl) ?_
      refine Pa.alds (v := yA.1 90 (((7 * yi) + 2).toInt.toNat)) (by rfl) (by rfl) (by rfl) (fun h7 h8 => ?_)
      have h7 : 0 ≤ ((7 * yi) + 2).toInt := h7
      have h8 : ((7 * yi) + 2).toInt < 1050 := h8
      refine Pa.iret (by rfl) ?_
      show Pa N 207 30 [(0, .ref 69), (1, .int yf), (2, .int yb), (3, .int yi)] [.int (yA.1 90 (((7 * yi) + 2).toInt.toNat)), .int 1, .int yb] yA _
      refine Pa.mp 4 (pc' := 37) (l' := [(2, .int (yb ||| (1 <<< ((yA.1 90 (((7 * yi) + 2).toInt.toNat)) &&& 31)))), (0, .ref 69), (1, .int yf), (3, .int yi)]) (st' := []) (by rfl) ?_
      refine Pa.iinc (x := yi) (c := 1) (v := (yi + 1)) (l' := [(3, .int (yi + 1)), (2, .int (yb ||| (1 <<< ((yA.1 90 (((7 * yi) + 2).toInt.toNat)) &&& 31)))), (0, .ref 69), (1, .int yf)]) (by rfl) (by rfl) (by decide) (by rfl) (by rfl) ?_
      refine Pa.mp 1 (pc' := 4) (l' := [(3, .int (yi + 1)), (2, .int (yb ||| (1 <<< ((yA.1 90 (((7 * yi) + 2).toInt.toNat)) &&& 31)))), (0, .ref 69), (1, .int yf)]) (st' := []) (by rfl) ?_
      refine Pa.lv (l' := [(0, .ref 69), (1, .int yf), (2, .int (yb ||| (1 <<< ((yA.1 90 (((7 * yi) + 2).toInt.toNat)) &&& 31)))), (3, .int (yi + 1))]) (lvS_c rfl (lvS_c rfl (lvS_c rfl (lvS_c rfl (lvS_nil))))) rfl ?_
      exact l3 h2 h3 h4 h6 h7 h8

theorem bm_ln1 {N : Nat} {yA : AW} {yQ : Option Value → AW → Prop} (yf yb yi yx : Int32)
    (l1 : yQ (some (.int yx)) yA) :
    Pa N 207 47 [(0, .ref 69), (1, .int yf), (2, .int yb), (3, .int yi)] [.int yx] yA yQ := by
  refine Pa.iret (by rfl) ?_
  exact l1

theorem bm_cn0 {N : Nat} {yA : AW} {yQ : Option Value → AW → Prop} (yx : Int32)
    (l1 : Pa N 208 4 [(0, .int yx), (1, .int 0), (2, .int 0)] [] yA yQ) :
    Pa N 208 0 [(0, .int yx)] [] yA yQ := by
  refine Pa.ic (x := 0) (pc' := 1) (by rfl) (by rfl) (by decide) ?_
  refine Pa.mp 1 (pc' := 2) (l' := [(1, .int 0), (0, .int yx)]) (st' := []) (by rfl) ?_
  refine Pa.ic (x := 0) (pc' := 3) (by rfl) (by rfl) (by decide) ?_
  refine Pa.mp 1 (pc' := 4) (l' := [(2, .int 0), (1, .int 0), (0, .int yx)]) (st' := []) (by rfl) ?_
  refine Pa.lv (l' := [(0, .int yx), (1, .int 0), (2, .int 0)]) (lvS_c rfl (lvS_c rfl (lvS_c rfl (lvS_nil)))) rfl ?_
  exact l1

theorem bm_cn {N : Nat} {yA : AW} {yQ : Option Value → AW → Prop} (yx yn yi : Int32)
    (l1 : 31 ≤ yi.toInt → yQ (some (.int yn)) yA)
    (l2 : yi.toInt < 31 → Pa N 208 4 [(0, .int yx), (1, .int (yn + ((yx >>> (yi &&& 31)) &&& 1))), (2, .int (yi + 1))] [] yA yQ) :
    Pa (N + 1) 208 4 [(0, .int yx), (1, .int yn), (2, .int yi)] [] yA yQ := by
  refine Pa.mp1 0 (pc' := 5) (l' := [(0, .int yx), (1, .int yn), (2, .int yi)]) (st' := [.int yi]) (by rfl) ?_
  refine Pa.ic (x := 31) (pc' := 7) (by rfl) (by rfl) (by decide) ?_
  refine Pa.if2 (a := yi.toInt) (b := 31) (t := 24) (by rfl) (by rfl) (rfl) (by decide) (fun h1 => ?_) (fun h2 => ?_)
  · have h1 : 31 ≤ yi.toInt := h1
    refine Pa.mp 1 (pc' := 25) (l' := [(0, .int yx), (1, .int yn), (2, .int yi)]) (st' := [.int yn]) (by rfl) ?_
    refine Pa.iret (by rfl) ?_
    exact l1 h1
  · have h2 : yi.toInt < 31 := h2
    refine Pa.mp 4 (pc' := 14) (l' := [(0, .int yx), (1, .int yn), (2, .int yi)]) (st' := [.int (yx >>> (yi &&& 31)), .int yn]) (by rfl) ?_
    refine Pa.ic (x := 1) (pc' := 15) (by rfl) (by rfl) (by decide) ?_
    refine Pa.mp 3 (pc' := 18) (l' := [(1, .int (yn + ((yx >>> (yi &&& 31)) &&& 1))), (0, .int yx), (2, .int yi)]) (st' := []) (by rfl) ?_
    refine Pa.iinc (x := yi) (c := 1) (v := (yi + 1)) (l' := [(2, .int (yi + 1)), (1, .int (yn + ((yx >>> (yi &&& 31)) &&& 1))), (0, .int yx)]) (by rfl) (by rfl) (by decide) (by rfl) (by rfl) ?_
    refine Pa.mp 1 (pc' := 4) (l' := [(2, .int (yi + 1)), (1, .int (yn + ((yx >>> (yi &&& 31)) &&& 1))), (0, .int yx)]) (st' := []) (by rfl) ?_
    refine Pa.lv (l' := [(0, .int yx), (1, .int (yn + ((yx >>> (yi &&& 31)) &&& 1))), (2, .int (yi + 1))]) (lvS_c rfl (lvS_c rfl (lvS_c rfl (lvS_nil)))) rfl ?_
    exact l2 h2
theorem c_countOf (yA : AW) (yx : Int32) (N : Nat) : Pa N 208 0 [(0, .int yx)] [] yA (fun yu A1 => yu = some (.int (cnM yx)) ∧ A1 = yA) := by
  have ykey : ∀ (N ym yi : Nat), yi + ym = 31 → Pa N 208 4 [(0, .int yx), (1, .int (sumN (cnZ yx) yi)), (2, .int (Int32.ofNat yi))] [] yA (fun yu A1 => yu = some (.int (cnM yx)) ∧ A1 = yA) := by
    intro N
    induction N with
    | zero => intros; exact Pa.zero
    | succ N yih =>
      intro ym yi him
      have ei : (Int32.ofNat yi).toInt = (yi : Int) := i32_nat (by omega)
      refine bm_cn yx _ _ (fun yq => ?_) (fun yq => ?_)
      · rw [ei] at yq
        have ye : yi = 31 := by omega
        subst ye
        exact ⟨rfl, rfl⟩
      · rw [ei] at yq
        have yh := yih (ym - 1) (yi + 1) (by omega)
        rw [on_succ yi] at yh
        exact yh
  exact bm_cn0 yx (ykey N 31 0 rfl)
theorem c_landsW (N : Nat) (yA yW : AW) (yf : Int32) (yhT : (yA.1 69 31).toInt ≤ 150) (h1 : yW.1 69 31 = yA.1 69 31) (h2 : ∀ yj, yW.1 90 yj = yA.1 90 yj) : Pa N 207 0 [(0, .ref 69), (1, .int yf)] [] yW (fun yu A1 => yu = some (.int (cnM (lnB yA yf (cT yA)))) ∧ A1 = yW) := by
  have ykey : ∀ (N ym yi : Nat), yi + ym = cT yA → Pa N 207 4 [(0, .ref 69), (1, .int yf), (2, .int (lnB yW yf yi)), (3, .int (Int32.ofNat yi))] [] yW (fun yu A1 => yu = some (.int (cnM (lnB yW yf (cT yA)))) ∧ A1 = yW) := by
    intro N
    induction N with
    | zero => intros; exact Pa.zero
    | succ N yih =>
      intro ym yi him
      have yhc : cT yA ≤ 150 := by unfold cT; omega
      have ei : (Int32.ofNat yi).toInt = (yi : Int) := i32_nat (by omega)
      refine bm_ln yf _ _ (fun yq => ?_) (fun yq _ _ h4 => ?_) (fun yq _ _ h4 _ _ => ?_)
      · rw [h1, ei] at yq
        have ye : yi = cT yA := by unfold cT at him ⊢; omega
        refine Pa.mono (c_countOf yW _ N) (fun yu A1 hu => ?_)
        obtain ⟨rfl, rfl⟩ := hu
        refine bm_ln1 yf _ _ _ ⟨?_, rfl⟩
        rw [ye]
      · rw [h1, ei] at yq
        have yhi : yi < 150 := by omega
        rw [i7x yhi (show (0 : Int32).toInt = ((0 : Nat) : Int) by decide) (by decide), Nat.add_zero] at h4
        have yh := yih (ym - 1) (yi + 1) (by unfold cT at him ⊢; omega)
        rw [show lnB yW yf (yi + 1) = lnB yW yf yi from if_neg h4, on_succ yi] at yh
        rw [Int32.or_zero]
        exact yh
      · rw [h1, ei] at yq
        have yhi : yi < 150 := by omega
        rw [i7x yhi (show (0 : Int32).toInt = ((0 : Nat) : Int) by decide) (by decide), Nat.add_zero] at h4
        have yh := yih (ym - 1) (yi + 1) (by unfold cT at him ⊢; omega)
        rw [show lnB yW yf (yi + 1) = lnB yW yf yi ||| (1 <<< (yW.1 90 (7 * yi + 2) &&& 31)) from if_pos h4, on_succ yi] at yh
        rw [i7x yhi (show (2 : Int32).toInt = ((2 : Nat) : Int) by decide) (by decide)]
        exact yh
  have yh := ykey N (cT yA) 0 (Nat.zero_add _)
  rw [lnB_cg (yA := yW) (yB := yA) (yf := yf) (cT yA) (fun yj _ => h2 yj)] at yh
  exact bm_ln0 yf yh
theorem c_ptsW (N : Nat) (yA yW : AW) (yf l yk : Int32) (h0 : yW.1 5 7 = yA.1 5 7) (h1 : ∀ yj, yW.1 8 yj = yA.1 8 yj) (h2 : ∀ yj, yW.1 9 yj = yA.1 9 yj) (h3 : ∀ yj, yW.1 10 yj = yA.1 10 yj) (h4 : ∀ yj, yW.1 11 yj = yA.1 11 yj) : Pa N 46 0 [(0, .ref 5), (1, .int yf), (2, .int l), (3, .int yk)] [] yW (fun yu A1 => yu = some (.int (ptsX yA yf l yk)) ∧ A1 = yW) := by
  have yh := c_pointsBy N yW yf l yk
  have ye : ptsX yW yf l yk = ptsX yA yf l yk := by
    unfold ptsX
    rw [h0]
    refine sumN_congr (fun yj _ => ?_)
    unfold ptFX
    rw [h1, h2, h3, h4]
  rw [ye] at yh
  exact yh
theorem c_ptsMW (N : Nat) (yA yW : AW) (yf l yk : Int32) (h0 : yW.1 69 24 = yA.1 69 24) (h1 : ∀ yj, yW.1 84 yj = yA.1 84 yj) (h2 : ∀ yj, yW.1 85 yj = yA.1 85 yj) (h3 : ∀ yj, yW.1 86 yj = yA.1 86 yj) (h4 : ∀ yj, yW.1 87 yj = yA.1 87 yj) : Pa N 175 0 [(0, .ref 69), (1, .int yf), (2, .int l), (3, .int yk)] [] yW (fun yu A1 => yu = some (.int (ptsM yA yf l yk)) ∧ A1 = yW) := by
  have yh := c_pointsOf N yW yf l yk
  have ye : ptsM yW yf l yk = ptsM yA yf l yk := by
    unfold ptsM
    rw [h0]
    refine sumN_congr (fun yj _ => ?_)
    unfold ptFM
    rw [h1, h2, h3, h4]
  rw [ye] at yh
  exact yh
/-! COST keeps the lands -/
def R34 (yA : AW) : Prop := ∀ yf, yf < 20 → yA.1 34 yf = lnB yA (Int32.ofNat yf) (cT yA)
def S34 : zSu := ([(69, 31)], [34, 90])
theorem R34_s (yA yB : AW) (yh : AgS S34 yA yB) (hX : R34 yA) : R34 yB := by
  have yf1 := yh.1 (69, 31) (by simp [S34])
  have ya1 := (yh.2 34 (by simp [S34])).1
  have a2 := (yh.2 90 (by simp [S34])).1
  simp only at yf1
  have yhT : cT yB = cT yA := by unfold cT; rw [yf1]
  intro yf hf
  rw [← ya1, yhT, hX yf hf]
  exact lnB_cg _ (fun yj _ => by rw [a2])
def RZl (yA : AW) : Prop := RZc yA ∧ R34 yA
def kRl (ywr : zWr) : Bool := kRc ywr && kpS S34 ywr
theorem keepL : Keeps RZl kRl := Keeps.and RZc_keep (Keeps.of R34_s)
theorem cX_34 {yA : AW} {ya : Nat} {yk yn : Int32} (yha : 129 ≤ ya) {yj : Nat} : (costX yA ya yk yn).1 34 yj = if yj = (yA.1 32 0).toInt.toNat then yA.1 34 (yA.1 32 0).toInt.toNat ||| (1 <<< (yA.1 32 2 &&& 31)) else yA.1 34 yj := by
  unfold costX
  rw [uI_c (by decide), uI_row]
  by_cases ye : yj = (yA.1 32 0).toInt.toNat
  · rw [if_pos ye, if_pos ye]
  · rw [if_neg ye, if_neg ye, uO_I, uI_c (by omega), uI_c (by omega), uI_c (by omega), uI_c (by omega), uI_c (by omega), uI_c (by omega), uI_c (by omega), uI_c (by omega), uI_c (by omega), uI_c (by omega), uI_c (by omega), uI_c (by omega), uN_I]
theorem k_cost34 {yA A1 A2 : AW} {yk yn yx yy : Int32} (hA : okA yA) (hF : eqF Fc yA) (hR : eqRs Arc yA) (hL : R34 yA) (ys1 : dCost yk yn yA (some (.int yx)) A1) (ys2 : eCost yk yn A1 (some (.int yy)) A2) : R34 A2 := by
  have hok := okCo_eq (yk := yk) (yn := yn) hF hR hA
  have yf5 := hF ((30, 4), (69, 31)) (by simp [Fc])
  simp only at yf5
  have g11 := hA.fld (i := 69) (k := 11) (lo := 0) (hi := 20) (by decide +kernel)
  rcases ys1 with ⟨ya1, a2, rfl⟩ | ⟨ya1, a2, a3, rfl⟩ | ⟨ya1, a2, a3, a4, ya, yha, hg, rfl⟩
  · rcases ys2 with ⟨b1, b2, rfl⟩ | ⟨b1, b2, b3, rfl⟩ | ⟨b1, b2, b3, b4, rfl⟩
    · exact hL
    · exact hL
    · exact absurd (hok.mpr b1) ya1
  · rcases ys2 with ⟨b1, b2, rfl⟩ | ⟨b1, b2, b3, rfl⟩ | ⟨b1, b2, b3, b4, rfl⟩
    · exact hL
    · exact hL
    · rw [yf5] at a2; omega
  · have ylow : ∀ yc yj, yc < 129 → yc ≠ 30 → yc ≠ 34 → (costX yA ya yk yn).1 yc yj = yA.1 yc yj := fun yc yj yhc yq1 yq2 => cX_low yq1 yq2 (by omega) yj
    have hokM : okCoM (costX yA ya yk yn) yk yn ↔ okCoM yA yk yn := by
      unfold okCoM
      rw [ylow 88 0 (by decide) (by decide) (by decide), ylow 88 1 (by decide) (by decide) (by decide), ylow 88 2 (by decide) (by decide) (by decide), ylow 88 3 (by decide) (by decide) (by decide), ylow 88 4 (by decide) (by decide) (by decide), ylow 88 5 (by decide) (by decide) (by decide), ylow 88 6 (by decide) (by decide) (by decide), ylow 69 11 (by decide) (by decide) (by decide), ylow 77 _ (by decide) (by decide) (by decide), ylow 69 0 (by decide) (by decide) (by decide), ylow 69 7 (by decide) (by decide) (by decide), ylow 69 13 (by decide) (by decide) (by decide)]
    have ye31 := ylow 69 31 (by decide) (by decide) (by decide)
    have hco := hok.mp ya1
    rcases ys2 with ⟨b1, b2, rfl⟩ | ⟨b1, b2, b3, rfl⟩ | ⟨b1, b2, b3, b4, rfl⟩
    · exact absurd (hokM.mpr hco) b1
    · rw [ye31, ← yf5] at b2; omega
    · rw [ye31] at b2 b3 b4
      obtain ⟨yt, ht⟩ : ∃ yt, (yA.1 69 31).toInt.toNat = yt := ⟨_, rfl⟩
      have htc : cT yA = yt := ht
      have ht1 : ((costX yA ya yk yn).1 69 31).toInt.toNat = yt := by rw [ye31]; exact ht
      have ht9 : yt < 150 := by omega
      have hT1 : (yA.1 69 31 + 1).toInt = (yA.1 69 31).toInt + 1 := i32_add1 (by omega)
      have hfilm : 0 ≤ (yA.1 88 0).toInt ∧ (yA.1 88 0).toInt < (yA.1 69 11).toInt := ⟨hco.2.2.2.2.1, hco.2.2.2.2.2.1⟩
      have r32 : eqR 7 (32, 88) yA := hR (32, 88) (by simp [Arc]) 7 (by decide +kernel)
      have m90 : ∀ yj, (costM (costX yA ya yk yn) yk yn).1 90 yj = if yj = 7 * yt + 6 then yA.1 88 6 else if yj = 7 * yt + 5 then yA.1 88 5 else if yj = 7 * yt + 4 then yA.1 88 4 else if yj = 7 * yt + 3 then yA.1 88 3 else if yj = 7 * yt + 2 then yA.1 88 2 else if yj = 7 * yt + 1 then yA.1 88 1 else if yj = 7 * yt then yA.1 88 0 else yA.1 90 yj := fun yj => by
        rw [cM_90 (by rw [ye31]; exact b3) (by rw [ye31]; exact b2) ht1]
        rw [ylow 88 0 (by decide) (by decide) (by decide), ylow 88 1 (by decide) (by decide) (by decide), ylow 88 2 (by decide) (by decide) (by decide), ylow 88 3 (by decide) (by decide) (by decide), ylow 88 4 (by decide) (by decide) (by decide), ylow 88 5 (by decide) (by decide) (by decide), ylow 88 6 (by decide) (by decide) (by decide), ylow 90 yj (by decide) (by decide) (by decide)]
      have hcT : cT (costM (costX yA ya yk yn) yk yn) = yt + 1 := by
        unfold cT
        rw [cM_69, if_pos rfl, ye31, hT1]
        omega
      have m34 : ∀ yj, (costM (costX yA ya yk yn) yk yn).1 34 yj = if yj = (yA.1 32 0).toInt.toNat then yA.1 34 (yA.1 32 0).toInt.toNat ||| (1 <<< (yA.1 32 2 &&& 31)) else yA.1 34 yj := fun yj => by
        rw [cM_low (by decide) (by decide) (by decide) (by decide) (by decide)]
        exact cX_34 hg
      generalize costM (costX yA ya yk yn) yk yn = yB at *
      intro yf hf
      have ef : (Int32.ofNat yf).toInt = (yf : Int) := i32_nat (by omega)
      have z0 : yB.1 90 (7 * yt) = yA.1 88 0 := by
        rw [m90, if_neg (by omega), if_neg (by omega), if_neg (by omega), if_neg (by omega), if_neg (by omega), if_neg (by omega), if_pos rfl]
      have z2 : yB.1 90 (7 * yt + 2) = yA.1 88 2 := by
        rw [m90, if_neg (by omega), if_neg (by omega), if_neg (by omega), if_neg (by omega), if_pos rfl]
      have zl : lnB yB (Int32.ofNat yf) yt = yA.1 34 yf := by
        rw [hL yf hf, htc]
        refine lnB_cg yt (fun yj hj => ?_)
        rw [m90, if_neg (by omega), if_neg (by omega), if_neg (by omega), if_neg (by omega), if_neg (by omega), if_neg (by omega), if_neg (by omega)]
      rw [hcT, m34]
      unfold lnB
      rw [z0, z2, zl, show yA.1 32 0 = yA.1 88 0 from r32 0 (by decide), show yA.1 32 2 = yA.1 88 2 from r32 2 (by decide), ef]
      by_cases ye : yf = (yA.1 88 0).toInt.toNat
      · rw [if_pos ye, if_pos (by omega), ye]
      · rw [if_neg ye, if_neg (by omega)]
