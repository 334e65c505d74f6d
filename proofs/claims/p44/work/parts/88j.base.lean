/-! SUMS yOF COSTS, WHAT IS DUE -/
theorem l_min_lt {ya yb : Int64} (yh : (lg_cmp ya yb).toInt < 0) : l_min ya yb = ya := by
  have l := (lg_sign ya yb).1.mp yh
  unfold l_min
  rw [if_neg (fun yq => by have := Int64.lt_iff_toInt_lt.mp yq; omega)]
theorem l_min_ge {ya yb : Int64} (yh : 0 ≤ (lg_cmp ya yb).toInt) : l_min ya yb = yb := by
  have l := lg_sign ya yb
  unfold l_min
  by_cases yq : yb < ya
  · rw [if_pos yq]
  · rw [if_neg yq]
    have yq2 : ¬ yb.toInt < ya.toInt := fun yz => yq (Int64.lt_iff_toInt_lt.mpr yz)
    exact Int64.toInt_inj.mp (by omega)
theorem l_min_le {ya yb : Int64} (yh : (lg_cmp ya yb).toInt ≤ 0) : l_min ya yb = ya := by
  by_cases yq : (lg_cmp ya yb).toInt < 0
  · exact l_min_lt yq
  · have l := lg_sign ya yb
    rw [l_min_ge (by omega)]
    exact (Int64.toInt_inj.mp (by omega))
/-- the costs that are summed -/
def inB (yA : AW) (yf l ye yy : Int32) (yc : Nat) : Prop := (yA.1 90 (7 * yc)).toInt = yf.toInt ∧ (yA.1 90 (7 * yc + 2)).toInt = l.toInt ∧ (yy.toInt = -1 ∨ (yA.1 90 (7 * yc + 3) / 360).toInt = yy.toInt) ∧ (ye.toInt = -1 ∨ (yA.1 90 (7 * yc + 1)).toInt = ye.toInt)
noncomputable def smV (yA : AW) (yf l ye yy yk : Int32) : Nat → Int64
  | 0 => Int64.ofNat 0
  | yn + 1 => @ite _ (inB yA yf l ye yy yn) (Classical.propDecidable _) (smV yA yf l ye yy yk yn + (cvV yA yn yk).toInt64) (smV yA yf l ye yy yk yn)
theorem smV_1 {yA : AW} {yf l ye yy yk : Int32} {yn : Nat} (yh : inB yA yf l ye yy yn) : smV yA yf l ye yy yk (yn + 1) = smV yA yf l ye yy yk yn + (cvV yA yn yk).toInt64 := @if_pos _ (Classical.propDecidable _) yh _ _ _
theorem smV_0 {yA : AW} {yf l ye yy yk : Int32} {yn : Nat} (yh : ¬ inB yA yf l ye yy yn) : smV yA yf l ye yy yk (yn + 1) = smV yA yf l ye yy yk yn := @if_neg _ (Classical.propDecidable _) yh _ _ _
noncomputable def bsV (yA : AW) (yf l ye yy yk : Int32) : Int32 := (l_min (smV yA yf l ye yy yk (cT yA)) 1999999999).toInt32
noncomputable def duV (yA : AW) (yf l yk : Int32) : Int32 := if (ptsM yA yf l yk).toInt < (lwV yA 2 l yf yk yk).toInt then 0 else (l_min (((bsV yA yf l (-1) (-1) yk).toInt64 * (lwV yA 1 l yf yk yk).toInt64) / 100) (lwV yA 3 l yf yk yk).toInt64).toInt32
/-! the class -/
theorem bx_bs0 {N : Nat} {yA : AW} {yQ : Option Value → AW → Prop} (yf l ye yy yk : Int32)
    (l1 : Pa N 16 6 [(0, .ref 46), (1, .int yf), (2, .int l), (3, .int ye), (4, .int yy), (5, .int yk), (6, .long (Int64.ofNat 0)), (8, .int 0), (9, .null), (10, .int 0)] [] yA yQ) :
    Pa N 16 0 [(0, .ref 46), (1, .int yf), (2, .int l), (3, .int ye), (4, .int yy), (5, .int yk)] [] yA yQ := by
  refine Pa.mp 2 (pc' := 3) (l' := [(6, .long (Int64.ofNat 0)), (0, .ref 46), (1, .int yf), (2, .int l), (3, .int ye), (4, .int yy), (5, .int yk)]) (st' := []) (by rfl) ?_
  refine Pa.ic (x := 0) (pc' := 4) (by rfl) (by rfl) (by decide) ?_
  refine Pa.mp 1 (pc' := 6) (l' := [(8, .int 0), (6, .long (Int64.ofNat 0)), (0, .ref 46), (1, .int yf), (2, .int l), (3, .int ye), (4, .int yy), (5, .int yk)]) (st' := []) (by rfl) ?_
  refine Pa.lv (l' := [(0, .ref 46), (1, .int yf), (2, .int l), (3, .int ye), (4, .int yy), (5, .int yk), (6, .long (Int64.ofNat 0)), (8, .int 0), (9, .null), (10, .int 0)]) (lvS_c rfl (lvS_c rfl (lvS_c rfl (lvS_c rfl (lvS_c rfl (lvS_c rfl (lvS_c rfl (lvS_c rfl (lvS_nil))))))))) rfl ?_
  exact l1

theorem bx_bs {N : Nat} {yA : AW} {yQ : Option Value → AW → Prop} (yf l ye yy yk yi yg : Int32) (ys : Int64) (yx : Value)
    (l1 : (yA.1 30 4).toInt ≤ yi.toInt → yQ (some (.int ((l_min ys 1999999999).toInt32))) yA)
    (l2 : yi.toInt < (yA.1 30 4).toInt → yi.toInt < 0 → Pa N 16 6 [(0, .ref 46), (1, .int yf), (2, .int l), (3, .int ye), (4, .int yy), (5, .int yk), (6, .long ys), (8, .int (yi + 1)), (9, .null), (10, .int yg)] [] yA yQ)
    (l3 : yi.toInt < (yA.1 30 4).toInt → 0 ≤ yi.toInt → yi.toInt < 150 → ∀ ya1, yA.2.2.1 31 yi.toInt.toNat = some ya1 → 129 ≤ ya1 → ya1 < yA.2.2.2.2 → (yA.1 ya1 4).toInt ≠ yf.toInt → Pa N 16 6 [(0, .ref 46), (1, .int yf), (2, .int l), (3, .int ye), (4, .int yy), (5, .int yk), (6, .long ys), (8, .int (yi + 1)), (9, .ref ya1), (10, .int yg)] [] yA yQ)
    (l4 : yi.toInt < (yA.1 30 4).toInt → 0 ≤ yi.toInt → yi.toInt < 150 → ∀ ya1, yA.2.2.1 31 yi.toInt.toNat = some ya1 → 129 ≤ ya1 → ya1 < yA.2.2.2.2 → (yA.1 ya1 4).toInt = yf.toInt → (yA.1 ya1 6).toInt = l.toInt → yy.toInt = (-1) → ye.toInt = (-1) → Pa N 12 0 [(0, .ref 46), (1, .ref ya1), (2, .int yk)] [] yA (fun yu A1 => Pa N 16 111 [(0, .ref 46), (1, .int yf), (2, .int l), (3, .int ye), (4, .int yy), (5, .int yk), (6, .long ys), (8, .int yi), (9, .ref ya1), (10, .int 1)] (yu.toList ++ [.long ys]) A1 yQ))
    (l5 : yi.toInt < (yA.1 30 4).toInt → 0 ≤ yi.toInt → yi.toInt < 150 → ∀ ya1, yA.2.2.1 31 yi.toInt.toNat = some ya1 → 129 ≤ ya1 → ya1 < yA.2.2.2.2 → (yA.1 ya1 4).toInt = yf.toInt → (yA.1 ya1 6).toInt = l.toInt → yy.toInt = (-1) → ye.toInt ≠ (-1) → (yA.1 ya1 5).toInt ≠ ye.toInt → Pa N 16 6 [(0, .ref 46), (1, .int yf), (2, .int l), (3, .int ye), (4, .int yy), (5, .int yk), (6, .long ys), (8, .int (yi + 1)), (9, .ref ya1), (10, .int 1)] [] yA yQ)
    (l6 : yi.toInt < (yA.1 30 4).toInt → 0 ≤ yi.toInt → yi.toInt < 150 → ∀ ya1, yA.2.2.1 31 yi.toInt.toNat = some ya1 → 129 ≤ ya1 → ya1 < yA.2.2.2.2 → (yA.1 ya1 4).toInt = yf.toInt → (yA.1 ya1 6).toInt = l.toInt → yy.toInt = (-1) → ye.toInt ≠ (-1) → (yA.1 ya1 5).toInt = ye.toInt → Pa N 12 0 [(0, .ref 46), (1, .ref ya1), (2, .int yk)] [] yA (fun yu A1 => Pa N 16 111 [(0, .ref 46), (1, .int yf), (2, .int l), (3, .int ye), (4, .int yy), (5, .int yk), (6, .long ys), (8, .int yi), (9, .ref ya1), (10, .int 1)] (yu.toList ++ [.long ys]) A1 yQ))
    (l7 : yi.toInt < (yA.1 30 4).toInt → 0 ≤ yi.toInt → yi.toInt < 150 → ∀ ya1, yA.2.2.1 31 yi.toInt.toNat = some ya1 → 129 ≤ ya1 → ya1 < yA.2.2.2.2 → (yA.1 ya1 4).toInt = yf.toInt → (yA.1 ya1 6).toInt = l.toInt → yy.toInt ≠ (-1) → ((yA.1 ya1 7) / 360).toInt ≠ yy.toInt → Pa N 16 6 [(0, .ref 46), (1, .int yf), (2, .int l), (3, .int ye), (4, .int yy), (5, .int yk), (6, .long ys), (8, .int (yi + 1)), (9, .ref ya1), (10, .int 0)] [] yA yQ)
    (l8 : yi.toInt < (yA.1 30 4).toInt → 0 ≤ yi.toInt → yi.toInt < 150 → ∀ ya1, yA.2.2.1 31 yi.toInt.toNat = some ya1 → 129 ≤ ya1 → ya1 < yA.2.2.2.2 → (yA.1 ya1 4).toInt = yf.toInt → (yA.1 ya1 6).toInt = l.toInt → yy.toInt ≠ (-1) → ((yA.1 ya1 7) / 360).toInt = yy.toInt → ye.toInt = (-1) → Pa N 12 0 [(0, .ref 46), (1, .ref ya1), (2, .int yk)] [] yA (fun yu A1 => Pa N 16 111 [(0, .ref 46), (1, .int yf), (2, .int l), (3, .int ye), (4, .int yy), (5, .int yk), (6, .long ys), (8, .int yi), (9, .ref ya1), (10, .int 1)] (yu.toList ++ [.long ys]) A1 yQ))
    (l9 : yi.toInt < (yA.1 30 4).toInt → 0 ≤ yi.toInt → yi.toInt < 150 → ∀ ya1, yA.2.2.1 31 yi.toInt.toNat = some ya1 → 129 ≤ ya1 → ya1 < yA.2.2.2.2 → (yA.1 ya1 4).toInt = yf.toInt → (yA.1 ya1 6).toInt = l.toInt → yy.toInt ≠ (-1) → ((yA.1 ya1 7) / 360).toInt = yy.toInt → ye.toInt ≠ (-1) → (yA.1 ya1 5).toInt ≠ ye.toInt → Pa N 16 6 [(0, .ref 46), (1, .int yf), (2, .int l), (3, .int ye), (4, .int yy), (5, .int yk), (6, .long ys), (8, .int (yi + 1)), (9, .ref ya1), (10, .int 1)] [] yA yQ)
    (l10 : yi.toInt < (yA.1 30 4).toInt → 0 ≤ yi.toInt → yi.toInt < 150 → ∀ ya1, yA.2.2.1 31 yi.toInt.toNat = some ya1 → 129 ≤ ya1 → ya1 < yA.2.2.2.2 → (yA.1 ya1 4).toInt = yf.toInt → (yA.1 ya1 6).toInt = l.toInt → yy.toInt ≠ (-1) → ((yA.1 ya1 7) / 360).toInt = yy.toInt → ye.toInt ≠ (-1) → (yA.1 ya1 5).toInt = ye.toInt → Pa N 12 0 [(0, .ref 46), (1, .ref ya1), (2, .int yk)] [] yA (fun yu A1 => Pa N 16 111 [(0, .ref 46), (1, .int yf), (2, .int l), (3, .int ye), (4, .int yy), (5, .int yk), (6, .long ys), (8, .int yi), (9, .ref ya1), (10, .int 1)] (yu.toList ++ [.long ys]) A1 yQ))
    (l11 : yi.toInt < (yA.1 30 4).toInt → 0 ≤ yi.toInt → yi.toInt < 150 → ∀ ya1, yA.2.2.1 31 yi.toInt.toNat = some ya1 → 129 ≤ ya1 → ya1 < yA.2.2.2.2 → (yA.1 ya1 4).toInt = yf.toInt → (yA.1 ya1 6).toInt ≠ l.toInt → Pa N 16 6 [(0, .ref 46), (1, .int yf), (2, .int l), (3, .int ye), (4, .int yy), (5, .int yk), (6, .long ys), (8, .int (yi + 1)), (9, .ref ya1), (10, .int yg)] [] yA yQ)
    (l12 : yi.toInt < (yA.1 30 4).toInt → 0 ≤ yi.toInt → yi.toInt < 150 → yA.2.2.1 31 yi.toInt.toNat = none → Pa N 16 6 [(0, .ref 46), (1, .int yf), (2, .int l), (3, .int ye), (4, .int yy), (5, .int yk), (6, .long ys), (8, .int (yi + 1)), (9, .null), (10, .int yg)] [] yA yQ) :
    Pa (N + 1) 16 6 [(0, .ref 46), (1, .int yf), (2, .int l), (3, .int ye), (4, .int yy), (5, .int yk), (6, .long ys), (8, .int yi), (9, yx), (10, .int yg)] [] yA yQ := by
  refine Pa.mp1 1 (pc' := 9) (l' := [(0, .ref 46), (1, .int yf), (2, .int l), (3, .int ye), (4, .int yy), (5, .int yk), (6, .long ys), (8, .int yi), (9, yx), (10, .int yg)]) (st' := [.ref 46, .int yi]) (by rfl) ?_
  refine Pa.gfR (by rfl) (by rfl) (.inl rfl) (by rfl) ?_
  show Pa N 16 12 [(0, .ref 46), (1, .int yf), (2, .int l), (3, .int ye), (4, .int yy), (5, .int yk), (6, .long ys), (8, .int yi), (9, yx), (10, .int yg)] [.ref 30, .int yi] yA _
  refine Pa.gfI (v := yA.1 30 4) (by rfl) (by rfl) (.inr rfl) (by rfl) (by rfl) ?_
  refine Pa.if2 (a := yi.toInt) (b := (yA.1 30 4).toInt) (t := 121) (by rfl) (by rfl) (rfl) (rfl) (fun h1 => ?_) (fun h2 => ?_)
  · have h1 : (yA.1 30 4).toInt ≤ yi.toInt := h1
    refine Pa.mp 1 (pc' := 123) (l' := [(0, .ref 46), (1, .int yf), (2, .int l), (3, .int ye), (4, .int yy), (5, .int yk), (6, .long ys), (8, .int yi), (9, yx), (10, .int yg)]) (st' := [.long ys]) (by rfl) ?_
    refine Pa.jcl (x := 1999999999) (pc' := 126) (by rfl) (fun _ _ _ => by rfl) (by decide) ?_
    refine Pa.mth (by rfl) (by rfl) (by rfl) mm_lmin ?_
    refine Pa.mp 1 (pc' := 130) (l' := [(0, .ref 46), (1, .int yf), (2, .int l), (3, .int ye), (4, .int yy), (5, .int yk), (6, .long ys), (8, .int yi), (9, yx), (10, .int yg)]) (st' := [.int ((l_min ys 1999999999).toInt32)]) (by rfl) ?_
    refine Pa.iret (by rfl) ?_
    exact l1 h1
  · have h2 : yi.toInt < (yA.1 30 4).toInt := h2
    refine Pa.mp 1 (pc' := 19) (l' := [(0, .ref 46), (1, .int yf), (2, .int l), (3, .int ye), (4, .int yy), (5, .int yk), (6, .long ys), (8, .int yi), (9, yx), (10, .int yg)]) (st' := [.ref 46]) (by rfl) ?_
    refine Pa.gfR (by rfl) (by rfl) (.inl rfl) (by rfl) ?_
    show Pa N 16 22 [(0, .ref 46), (1, .int yf), (2, .int l), (3, .int ye), (4, .int yy), (5, .int yk), (6, .long ys), (8, .int yi), (9, yx), (10, .int yg)] [.ref 30] yA _
    refine Pa.mp 1 (pc' := 24) (l' := [(0, .ref 46), (1, .int yf), (2, .int l), (3, .int ye), (4, .int yy), (5, .int yk), (6, .long ys), (8, .int yi), (9, yx), (10, .int yg)]) (st' := [.int yi, .ref 30]) (by rfl) ?_
    refine Pa.inv (by rfl) (by rfl) (.inr rfl) (by rfl) ?_
    show Pa N 26 0 [(0, .ref 30), (1, .int yi)] [] yA _
    refine Pa.mp 1 (pc' := 1) (l' := [(0, .ref 30), (1, .int yi)]) (st' := [.int yi]) (by rfl) ?_
    refine Pa.if1 (a := yi.toInt) (t := 21) (by rfl) (by rfl) (rfl) (fun h3 => ?_) (fun h4 => ?_)
    · have h3 : yi.toInt < 0 := h3
      refine Pa.mp 1 (pc' := 22) (l' := [(0, .ref 30), (1, .int yi)]) (st' := [.null]) (by rfl) ?_
      refine Pa.nret (by rfl) ?_
      show Pa N 16 27 [(0, .ref 46), (1, .int yf), (2, .int l), (3, .int ye), (4, .int yy), (5, .int yk), (6, .long ys), (8, .int yi), (9, yx), (10, .int yg)] [.null] yA _
      refine Pa.mp 2 (pc' := 31) (l' := [(9, .null), (0, .ref 46), (1, .int yf), (2, .int l), (3, .int ye), (4, .int yy), (5, .int yk), (6, .long ys), (8, .int yi), (10, .int yg)]) (st' := [.null]) (by rfl) ?_
      refine Pa.mp 1 (pc' := 115) (l' := [(9, .null), (0, .ref 46), (1, .int yf), (2, .int l), (3, .int ye), (4, .int yy), (5, .int yk), (6, .long ys), (8, .int yi), (10, .int yg)]) (st' := []) (by rfl) ?_
      refine Pa.iinc (x := yi) (c := 1) (v := (yi + 1)) (l' := [(8, .int (yi + 1)), (9, .null), (0, .ref 46), (1, .int yf), (2, .int l), (3, .int ye), (4, .int yy), (5, .int yk), (6, .long ys), (10, .int yg)]) (by rfl) (by rfl) (by decide) (by rfl) (by rfl) ?_
      refine Pa.mp 1 (pc' := 6) (l' := [(8, .int (yi + 1)), (9, .null), (0, .ref 46), (1, .int yf), (2, .int l), (3, .int ye), (4, .int yy), (5, .int yk), (6, .long ys), (10, .int yg)]) (st' := []) (by rfl) ?_
      refine Pa.lv (l' := [(0, .ref 46), (1, .int yf), (2, .int l), (3, .int ye), (4, .int yy), (5, .int yk), (6, .long ys), (8, .int (yi + 1)), (9, .null), (10, .int yg)]) (lvS_c rfl (lvS_c rfl (lvS_c rfl (lvS_c rfl (lvS_c rfl (lvS_c rfl (lvS_c rfl (lvS_c rfl (lvS_c rfl (lvS_c rfl (lvS_nil))))))))))) rfl ?_
      exact l2 h2 h3
    · have h4 : 0 ≤ yi.toInt := h4
      refine Pa.mp 2 (pc' := 6) (l' := [(0, .ref 30), (1, .int yi)]) (st' := [.ref 30, .int yi]) (by rfl) ?_
      refine Pa.gfI (v := yA.1 30 4) (by rfl) (by rfl) (.inl rfl) (by rfl) (by rfl) ?_
      refine Pa.if2 (a := yi.toInt) (b := (yA.1 30 4).toInt) (t := 21) (by rfl) (by rfl) (rfl) (rfl) (fun yh => (by exfalso; have h' : (yA.1 30 4).toInt ≤ yi.toInt := yh; omega)) (fun _ => ?_)
      refine Pa.mp 1 (pc' := 13) (l' := [(0, .ref 30), (1, .int yi)]) (st' := [.ref 30]) (by rfl) ?_
      refine Pa.gfR (by rfl) (by rfl) (.inl rfl) (by rfl) ?_
      show Pa N 26 16 [(0, .ref 30), (1, .int yi)] [.ref 31] yA _
      refine Pa.mp 1 (pc' := 17) (l' := [(0, .ref 30), (1, .int yi)]) (st' := [.int yi, .ref 31]) (by rfl) ?_
      refine Pa.olds (o := yA.2.2.1 31 yi.toInt.toNat) (by rfl) (by rfl) (by rfl) (fun h6 h7 ya1 h8 h10 h11 => ?_) (fun h6 h7 h9 => ?_)
      · skip
        refine Pa.mp 1 (pc' := 22) (l' := [(0, .ref 30), (1, .int yi)]) (st' := [.ref ya1]) (by rfl) ?_
        refine Pa.aret (by rfl) ?_
        show Pa N 16 27 [(0, .ref 46), (1, .int yf), (2, .int l), (3, .int ye), (4, .int yy), (5, .int yk), (6, .long ys), (8, .int yi), (9, yx), (10, .int yg)] [.ref ya1] yA _
        refine Pa.mp 2 (pc' := 31) (l' := [(9, .ref ya1), (0, .ref 46), (1, .int yf), (2, .int l), (3, .int ye), (4, .int yy), (5, .int yk), (6, .long ys), (8, .int yi), (10, .int yg)]) (st' := [.ref ya1]) (by rfl) ?_
        refine Pa.mp 1 (pc' := 34) (l' := [(9, .ref ya1), (0, .ref 46), (1, .int yf), (2, .int l), (3, .int ye), (4, .int yy), (5, .int yk), (6, .long ys), (8, .int yi), (10, .int yg)]) (st' := []) (by rfl) ?_
        refine Pa.mp 1 (pc' := 36) (l' := [(9, .ref ya1), (0, .ref 46), (1, .int yf), (2, .int l), (3, .int ye), (4, .int yy), (5, .int yk), (6, .long ys), (8, .int yi), (10, .int yg)]) (st' := [.ref ya1]) (by rfl) ?_
        refine Pa.gfI (v := yA.1 ya1 4) (by rfl) (by rfl) (.inr rfl) (by rfl) (by rfl) ?_
        refine Pa.mp 1 (pc' := 40) (l' := [(9, .ref ya1), (0, .ref 46), (1, .int yf), (2, .int l), (3, .int ye), (4, .int yy), (5, .int yk), (6, .long ys), (8, .int yi), (10, .int yg)]) (st' := [.int yf, .int (yA.1 ya1 4)]) (by rfl) ?_
        refine Pa.if2 (a := (yA.1 ya1 4).toInt) (b := yf.toInt) (t := 115) (by rfl) (by rfl) (rfl) (rfl) (fun h12 => ?_) (fun h13 => ?_)
        · have h12 : (yA.1 ya1 4).toInt ≠ yf.toInt := h12
          refine Pa.iinc (x := yi) (c := 1) (v := (yi + 1)) (l' := [(8, .int (yi + 1)), (9, .ref ya1), (0, .ref 46), (1, .int yf), (2, .int l), (3, .int ye), (4, .int yy), (5, .int yk), (6, .long ys), (10, .int yg)]) (by rfl) (by rfl) (by decide) (by rfl) (by rfl) ?_
          refine Pa.mp 1 (pc' := 6) (l' := [(8, .int (yi + 1)), (9, .ref ya1), (0, .ref 46), (1, .int yf), (2, .int l), (3, .int ye), (4, .int yy), (5, .int yk), (6, .long ys), (10, .int yg)]) (st' := []) (by rfl) ?_
          refine Pa.lv (l' := [(0, .ref 46), (1, .int yf), (2, .int l), (3, .int ye), (4, .int yy), (5, .int yk), (6, .long ys), (8, .int (yi + 1)), (9, .ref ya1), (10, .int yg)]) (lvS_c rfl (lvS_c rfl (lvS_c rfl (lvS_c rfl (lvS_c rfl (lvS_c rfl (lvS_c rfl (lvS_c rfl (lvS_c rfl (lvS_c rfl (lvS_nil))))))))))) rfl ?_
          exact l3 h2 h4 h7 ya1 h8 h10 h11 h12
        · have h13 : (yA.1 ya1 4).toInt = yf.toInt := h13
          refine Pa.mp 1 (pc' := 45) (l' := [(9, .ref ya1), (0, .ref 46), (1, .int yf), (2, .int l), (3, .int ye), (4, .int yy), (5, .int yk), (6, .long ys), (8, .int yi), (10, .int yg)]) (st' := [.ref ya1]) (by rfl) ?_
          refine Pa.gfI (v := yA.1 ya1 6) (by rfl) (by rfl) (.inr rfl) (by rfl) (by rfl) ?_
          refine Pa.mp 1 (pc' := 49) (l' := [(9, .ref ya1), (0, .ref 46), (1, .int yf), (2, .int l), (3, .int ye), (4, .int yy), (5, .int yk), (6, .long ys), (8, .int yi), (10, .int yg)]) (st' := [.int l, .int (yA.1 ya1 6)]) (by rfl) ?_
          refine Pa.if2 (a := (yA.1 ya1 6).toInt) (b := l.toInt) (t := 55) (by rfl) (by rfl) (rfl) (rfl) (fun h14 => ?_) (fun h15 => ?_)
          · have h14 : (yA.1 ya1 6).toInt = l.toInt := h14
            refine Pa.mp 1 (pc' := 57) (l' := [(9, .ref ya1), (0, .ref 46), (1, .int yf), (2, .int l), (3, .int ye), (4, .int yy), (5, .int yk), (6, .long ys), (8, .int yi), (10, .int yg)]) (st' := [.int yy]) (by rfl) ?_
            refine Pa.ic (x := (-1)) (pc' := 58) (by rfl) (by rfl) (by decide) ?_
            refine Pa.if2 (a := yy.toInt) (b := (-1)) (t := 75) (by rfl) (by rfl) (rfl) (by decide) (fun yh16 => ?_) (fun h17 => ?_)
            · have yh16 : yy.toInt = (-1) := yh16
              refine Pa.ic (x := 1) (pc' := 76) (by rfl) (by rfl) (by decide) ?_
              refine Pa.mp 3 (pc' := 84) (l' := [(10, .int 1), (9, .ref ya1), (0, .ref 46), (1, .int yf), (2, .int l), (3, .int ye), (4, .int yy), (5, .int yk), (6, .long ys), (8, .int yi)]) (st' := [.int 1]) (by rfl) ?_
              refine Pa.if1k false (by rfl) (by rfl) (by decide) ?_
              show Pa N 16 87 [(10, .int 1), (9, .ref ya1), (0, .ref 46), (1, .int yf), (2, .int l), (3, .int ye), (4, .int yy), (5, .int yk), (6, .long ys), (8, .int yi)] [] yA _
              refine Pa.mp 1 (pc' := 88) (l' := [(10, .int 1), (9, .ref ya1), (0, .ref 46), (1, .int yf), (2, .int l), (3, .int ye), (4, .int yy), (5, .int yk), (6, .long ys), (8, .int yi)]) (st' := [.int ye]) (by rfl) ?_
              refine Pa.ic (x := (-1)) (pc' := 89) (by rfl) (by rfl) (by decide) ?_
              refine Pa.if2 (a := ye.toInt) (b := (-1)) (t := 101) (by rfl) (by rfl) (rfl) (by decide) (fun h18 => ?_) (fun h19 => ?_)
              · have h18 : ye.toInt = (-1) := h18
                refine Pa.mp 4 (pc' := 108) (l' := [(10, .int 1), (9, .ref ya1), (0, .ref 46), (1, .int yf), (2, .int l), (3, .int ye), (4, .int yy), (5, .int yk), (6, .long ys), (8, .int yi)]) (st' := [.int yk, .ref ya1, .ref 46, .long ys]) (by rfl) ?_
                refine Pa.lv (l' := [(0, .ref 46), (1, .int yf), (2, .int l), (3, .int ye), (4, .int yy), (5, .int yk), (6, .long ys), (8, .int yi), (9, .ref ya1), (10, .int 1)]) (lvS_c rfl (lvS_c rfl (lvS_c rfl (lvS_c rfl (lvS_c rfl (lvS_c rfl (lvS_c rfl (lvS_c rfl (lvS_c rfl (lvS_c rfl (lvS_nil))))))))))) rfl ?_
                refine Pa.inv (by rfl) (by rfl) (.inl rfl) (by rfl) ?_
                exact l4 h2 h4 h7 ya1 h8 h10 h11 h13 h14 yh16 h18
              · have h19 : ye.toInt ≠ (-1) := h19
                refine Pa.mp 1 (pc' := 94) (l' := [(10, .int 1), (9, .ref ya1), (0, .ref 46), (1, .int yf), (2, .int l), (3, .int ye), (4, .int yy), (5, .int yk), (6, .long ys), (8, .int yi)]) (st' := [.ref ya1]) (by rfl) ?_
                refine Pa.gfI (v := yA.1 ya1 5) (by rfl) (by rfl) (.inr rfl) (by rfl) (by rfl) ?_
                refine Pa.mp 1 (pc' := 98) (l' := [(10, .int 1), (9, .ref ya1), (0, .ref 46), (1, .int yf), (2, .int l), (3, .int ye), (4, .int yy), (5, .int yk), (6, .long ys), (8, .int yi)]) (st' := [.int ye, .int (yA.1 ya1 5)]) (by rfl) ?_
                refine Pa.if2 (a := (yA.1 ya1 5).toInt) (b := ye.toInt) (t := 115) (by rfl) (by rfl) (rfl) (rfl) (fun h20 => ?_) (fun h21 => ?_)
                · have h20 : (yA.1 ya1 5).toInt ≠ ye.toInt := h20
                  refine Pa.iinc (x := yi) (c := 1) (v := (yi + 1)) (l' := [(8, .int (yi + 1)), (10, .int 1), (9, .ref ya1), (0, .ref 46), (1, .int yf), (2, .int l), (3, .int ye), (4, .int yy), (5, .int yk), (6, .long ys)]) (by rfl) (by rfl) (by decide) (by rfl) (by rfl) ?_
                  refine Pa.mp 1 (pc' := 6) (l' := [(8, .int (yi + 1)), (10, .int 1), (9, .ref ya1), (0, .ref 46), (1, .int yf), (2, .int l), (3, .int ye), (4, .int yy), (5, .int yk), (6, .long ys)]) (st' := []) (by rfl) ?_
                  refine Pa.lv (l' := [(0, .ref 46), (1, .int yf), (2, .int l), (3, .int ye), (4, .int yy), (5, .int yk), (6, .long ys), (8, .int (yi + 1)), (9, .ref ya1), (10, .int 1)]) (lvS_c rfl (lvS_c rfl (lvS_c rfl (lvS_c rfl (lvS_c rfl (lvS_c rfl (lvS_c rfl (lvS_c rfl (lvS_c rfl (lvS_c rfl (lvS_nil))))))))))) rfl ?_
                  exact l5 h2 h4 h7 ya1 h8 h10 h11 h13 h14 yh16 h19 h20
                · have h21 : (yA.1 ya1 5).toInt = ye.toInt := h21
                  refine Pa.mp 4 (pc' := 108) (l' := [(10, .int 1), (9, .ref ya1), (0, .ref 46), (1, .int yf), (2, .int l), (3, .int ye), (4, .int yy), (5, .int yk), (6, .long ys), (8, .int yi)]) (st' := [.int yk, .ref ya1, .ref 46, .long ys]) (by rfl) ?_
                  refine Pa.lv (l' := [(0, .ref 46), (1, .int yf), (2, .int l), (3, .int ye), (4, .int yy), (5, .int yk), (6, .long ys), (8, .int yi), (9, .ref ya1), (10, .int 1)]) (lvS_c rfl (lvS_c rfl (lvS_c rfl (lvS_c rfl (lvS_c rfl (lvS_c rfl (lvS_c rfl (lvS_c rfl (lvS_c rfl (lvS_c rfl (lvS_nil))))))))))) rfl ?_
                  refine Pa.inv (by rfl) (by rfl) (.inl rfl) (by rfl) ?_
                  exact l6 h2 h4 h7 ya1 h8 h10 h11 h13 h14 yh16 h19 h21
            · have h17 : yy.toInt ≠ (-1) := h17
              refine Pa.mp 1 (pc' := 63) (l' := [(9, .ref ya1), (0, .ref 46), (1, .int yf), (2, .int l), (3, .int ye), (4, .int yy), (5, .int yk), (6, .long ys), (8, .int yi), (10, .int yg)]) (st' := [.ref ya1]) (by rfl) ?_
              refine Pa.gfI (v := yA.1 ya1 7) (by rfl) (by rfl) (.inr rfl) (by rfl) (by rfl) ?_
              refine Pa.ic (x := 360) (pc' := 69) (by rfl) (by rfl) (by decide) ?_
              refine Pa.idiv (by rfl) ?_
              refine Pa.mp 1 (pc' := 72) (l' := [(9, .ref ya1), (0, .ref 46), (1, .int yf), (2, .int l), (3, .int ye), (4, .int yy), (5, .int yk), (6, .long ys), (8, .int yi), (10, .int yg)]) (st' := [.int yy, .int ((yA.1 ya1 7) / 360)]) (by rfl) ?_
              refine Pa.if2 (a := ((yA.1 ya1 7) / 360).toInt) (b := yy.toInt) (t := 79) (by rfl) (by rfl) (rfl) (rfl) (fun h22 => ?_) (fun h23 => ?_)
              · have h22 : ((yA.1 ya1 7) / 360).toInt ≠ yy.toInt := h22
                refine Pa.ic (x := 0) (pc' := 80) (by rfl) (by rfl) (by decide) ?_
                refine Pa.mp 2 (pc' := 84) (l' := [(10, .int 0), (9, .ref ya1), (0, .ref 46), (1, .int yf), (2, .int l), (3, .int ye), (4, .int yy), (5, .int yk), (6, .long ys), (8, .int yi)]) (st' := [.int 0]) (by rfl) ?_
                refine Pa.if1k true (by rfl) (by rfl) (by decide) ?_
                show Pa N 16 115 [(10, .int 0), (9, .ref ya1), (0, .ref 46), (1, .int yf), (2, .int l), (3, .int ye), (4, .int yy), (5, .int yk), (6, .long ys), (8, .int yi)] [] yA _
                refine Pa.iinc (x := yi) (c := 1) (v := (yi + 1)) (l' := [(8, .int (yi + 1)), (10, .int 0), (9, .ref ya1), (0, .ref 46), (1, .int yf), (2, .int l), (3, .int ye), (4, .int yy), (5, .int yk), (6, .long ys)]) (by rfl) (by rfl) (by decide) (by rfl) (by rfl) ?_
                refine Pa.mp 1 (pc' := 6) (l' := [(8, .int (yi + 1)), (10, .int 0), (9, .ref ya1), (0, .ref 46), (1, .int yf), (2, .int l), (3, .int ye), (4, .int yy), (5, .int yk), (6, .long ys)]) (st' := []) (by rfl) ?_
                refine Pa.lv (l' := [(0, .ref 46), (1, .int yf), (2, .int l), (3, .int ye), (4, .int yy), (5, .int yk), (6, .long ys), (8, .int (yi + 1)), (9, .ref ya1), (10, .int 0)]) (lvS_c rfl (lvS_c rfl (lvS_c rfl (lvS_c rfl (lvS_c rfl (lvS_c rfl (lvS_c rfl (lvS_c rfl (lvS_c rfl (lvS_c rfl (lvS_nil))))))))))) rfl ?_
                exact l7 h2 h4 h7 ya1 h8 h10 h11 h13 h14 h17 h22
              · have h23 : ((yA.1 ya1 7) / 360).toInt = yy.toInt := h23
                refine Pa.ic (x := 1) (pc' := 76) (by rfl) (by rfl) (by decide) ?_
                refine Pa.mp 3 (pc' := 84) (l' := [(10, .int 1), (9, .ref ya1), (0, .ref 46), (1, .int yf), (2, .int l), (3, .int ye), (4, .int yy), (5, .int yk), (6, .long ys), (8, .int yi)]) (st' := [.int 1]) (by rfl) ?_
                refine Pa.if1k false (by rfl) (by rfl) (by decide) ?_
                show Pa N 16 87 [(10, .int 1), (9, .ref ya1), (0, .ref 46), (1, .int yf), (2, .int l), (3, .int ye), (4, .int yy), (5, .int yk), (6, .long ys), (8, .int yi)] [] yA _
                refine Pa.mp 1 (pc' := 88) (l' := [(10, .int 1), (9, .ref ya1), (0, .ref 46), (1, .int yf), (2, .int l), (3, .int ye), (4, .int yy), (5, .int yk), (6, .long ys), (8, .int yi)]) (st' := [.int ye]) (by rfl) ?_
                refine Pa.ic (x := (-1)) (pc' := 89) (by rfl) (by rfl) (by decide) ?_
                refine Pa.if2 (a := ye.toInt) (b := (-1)) (t := 101) (by rfl) (by rfl) (rfl) (by decide) (fun h24 => ?_) (fun h25 => ?_)
                · have h24 : ye.toInt = (-1) := h24
                  refine Pa.mp 4 (pc' := 108) (l' := [(10, .int 1), (9, .ref ya1), (0, .ref 46), (1, .int yf), (2, .int l), (3, .int ye), (4, .int yy), (5, .int yk), (6, .long ys), (8, .int yi)]) (st' := [.int yk, .ref ya1, .ref 46, .long ys]) (by rfl) ?_
                  refine Pa.lv (l' := [(0, .ref 46), (1, .int yf), (2, .int l), (3, .int ye), (4, .int yy), (5, .int yk), (6, .long ys), (8, .int yi), (9, .ref ya1), (10, .int 1)]) (lvS_c rfl (lvS_c rfl (lvS_c rfl (lvS_c rfl (lvS_c rfl (lvS_c rfl (lvS_c rfl (lvS_c rfl (lvS_c rfl (lvS_c rfl (lvS_nil))))))))))) rfl ?_
                  refine Pa.inv (by rfl) (by rfl) (.inl rfl) (by rfl) ?_
                  exact l8 h2 h4 h7 ya1 h8 h10 h11 h13 h14 h17 h23 h24
                · have h25 : ye.toInt ≠ (-1) := h25
                  refine Pa.mp 1 (pc' := 94) (l' := [(10, .int 1), (9, .ref ya1), (0, .ref 46), (1, .int yf), (2, .int l), (3, .int ye), (4, .int yy), (5, .int yk), (6, .long ys), (8, .int yi)]) (st' := [.ref ya1]) (by rfl) ?_
                  refine Pa.gfI (v := yA.1 ya1 5) (by rfl) (by rfl) (.inr rfl) (by rfl) (by rfl) ?_
                  refine Pa.mp 1 (pc' := 98) (l' := [(10, .int 1), (9, .ref ya1), (0, .ref 46), (1, .int yf), (2, .int l), (3, .int ye), (4, .int yy), (5, .int yk), (6, .long ys), (8, .int yi)]) (st' := [.int ye, .int (yA.1 ya1 5)]) (by rfl) ?_
                  refine Pa.if2 (a := (yA.1 ya1 5).toInt) (b := ye.toInt) (t := 115) (by rfl) (by rfl) (rfl) (rfl) (fun h26 => ?_) (fun h27 => ?_)
                  · have h26 : (yA.1 ya1 5).toInt ≠ ye.toInt := h26
                    refine Pa.iinc (x := yi) (c := 1) (v := (yi + 1)) (l' := [(8, .int (yi + 1)), (10, .int 1), (9, .ref ya1), (0, .ref 46), (1, .int yf), (2, .int l), (3, .int ye), (4, .int yy), (5, .int yk), (6, .long ys)]) (by rfl) (by rfl) (by decide) (by rfl) (by rfl) ?_
                    refine Pa.mp 1 (pc' := 6) (l' := [(8, .int (yi + 1)), (10, .int 1), (9, .ref ya1), (0, .ref 46), (1, .int yf), (2, .int l), (3, .int ye), (4, .int yy), (5, .int yk), (6, .long ys)]) (st' := []) (by rfl) ?_
                    refine Pa.lv (l' := [(0, .ref 46), (1, .int yf), (2, .int l), (3, .int ye), (4, .int yy), (5, .int yk), (6, .long ys), (8, .int (yi + 1)), (9, .ref ya1), (10, .int 1)]) (lvS_c rfl (lvS_c rfl (lvS_c rfl (lvS_c rfl (lvS_c rfl (lvS_c rfl (lvS_c rfl (lvS_c rfl (lvS_c rfl (lvS_c rfl (lvS_nil))))))))))) rfl ?_
                    exact l9 h2 h4 h7 ya1 h8 h10 h11 h13 h14 h17 h23 h25 h26
                  · have h27 : (yA.1 ya1 5).toInt = ye.toInt := h27
                    refine Pa.mp 4 (pc' := 108) (l' := [(10, .int 1), (9, .ref ya1), (0, .ref 46), (1, .int yf), (2, .int l), (3, .int ye), (4, .int yy), (5, .int yk), (6, .long ys), (8, .int yi)]) (st' := [.int yk, .ref ya1, .ref 46, .long ys]) (by rfl) ?_
                    refine Pa.lv (l' := [(0, .ref 46), (1, .int yf), (2, .int l), (3, .int ye), (4, .int yy), (5, .int yk), (6, .long ys), (8, .int yi), (9, .ref ya1), (10, .int 1)]) (lvS_c rfl (lvS_c rfl (lvS_c rfl (lvS_c rfl (lvS_c rfl (lvS_c rfl (lvS_c rfl (lvS_c rfl (lvS_c rfl (lvS_c rfl (lvS_nil))))))))))) rfl ?_
                    refine Pa.inv (by rfl) (by rfl) (.inl rfl) (by rfl) ?_
                    exact l10 h2 h4 h7 ya1 h8 h10 h11 h13 h14 h17 h23 h25 h27
          · have h15 : (yA.1 ya1 6).toInt ≠ l.toInt := h15
            refine Pa.mp 1 (pc' := 115) (l' := [(9, .ref ya1), (0, .ref 46), (1, .int yf), (2, .int l), (3, .int ye), (4, .int yy), (5, .int yk), (6, .long ys), (8, .int yi), (10, .int yg)]) (st' := []) (by rfl) ?_
            refine Pa.iinc (x := yi) (c := 1) (v := (yi + 1)) (l' := [(8, .int (yi + 1)), (9, .ref ya1), (0, .ref 46), (1, .int yf), (2, .int l), (3, .int ye), (4, .int yy), (5, .int yk), (6, .long ys), (10, .int yg)]) (by rfl) (by rfl) (by decide) (by rfl) (by rfl) ?_
            refine Pa.mp 1 (pc' := 6) (l' := [(8, .int (yi + 1)), (9, .ref ya1), (0, .ref 46), (1, .int yf), (2, .int l), (3, .int ye), (4, .int yy), (5, .int yk), (6, .long ys), (10, .int yg)]) (st' := []) (by rfl) ?_
            refine Pa.lv (l' := [(0, .ref 46), (1, .int yf), (2, .int l), (3, .int ye), (4, .int yy), (5, .int yk), (6, .long ys), (8, .int (yi + 1)), (9, .ref ya1), (10, .int yg)]) (lvS_c rfl (lvS_c rfl (lvS_c rfl (lvS_c rfl (lvS_c rfl (lvS_c rfl (lvS_c rfl (lvS_c rfl (lvS_c rfl (lvS_c rfl (lvS_nil))))))))))) rfl ?_
            exact l11 h2 h4 h7 ya1 h8 h10 h11 h13 h15
      · skip
        refine Pa.mp 1 (pc' := 22) (l' := [(0, .ref 30), (1, .int yi)]) (st' := [.null]) (by rfl) ?_
        refine Pa.nret (by rfl) ?_
        show Pa N 16 27 [(0, .ref 46), (1, .int yf), (2, .int l), (3, .int ye), (4, .int yy), (5, .int yk), (6, .long ys), (8, .int yi), (9, yx), (10, .int yg)] [.null] yA _
        refine Pa.mp 2 (pc' := 31) (l' := [(9, .null), (0, .ref 46), (1, .int yf), (2, .int l), (3, .int ye), (4, .int yy), (5, .int yk), (6, .long ys), (8, .int yi), (10, .int yg)]) (st' := [.null]) (by rfl) ?_
        refine Pa.mp 1 (pc' := 115) (l' := [(9, .null), (0, .ref 46), (1, .int yf), (2, .int l), (3, .int ye), (4, .int yy), (5, .int yk), (6, .long ys), (8, .int yi), (10, .int yg)]) (st' := []) (by rfl) ?_
        refine Pa.iinc (x := yi) (c := 1) (v := (yi + 1)) (l' := [(8, .int (yi + 1)), (9, .null), (0, .ref 46), (1, .int yf), (2, .int l), (3, .int ye), (4, .int yy), (5, .int yk), (6, .long ys), (10, .int yg)]) (by rfl) (by rfl) (by decide) (by rfl) (by rfl) ?_
        refine Pa.mp 1 (pc' := 6) (l' := [(8, .int (yi + 1)), (9, .null), (0, .ref 46), (1, .int yf), (2, .int l), (3, .int ye), (4, .int yy), (5, .int yk), (6, .long ys), (10, .int yg)]) (st' := []) (by rfl) ?_
        refine Pa.lv (l' := [(0, .ref 46), (1, .int yf), (2, .int l), (3, .int ye), (4, .int yy), (5, .int yk), (6, .long ys), (8, .int (yi + 1)), (9, .null), (10, .int yg)]) (lvS_c rfl (lvS_c rfl (lvS_c rfl (lvS_c rfl (lvS_c rfl (lvS_c rfl (lvS_c rfl (lvS_c rfl (lvS_c rfl (lvS_c rfl (lvS_nil))))))))))) rfl ?_
        exact l12 h2 h4 h7 h9

theorem bx_bs1 {N : Nat} {yA : AW} {yQ : Option Value → AW → Prop} (ya : Nat) (yf l ye yy yk yi yg yv : Int32) (ys : Int64)
    (l1 : Pa N 16 6 [(0, .ref 46), (1, .int yf), (2, .int l), (3, .int ye), (4, .int yy), (5, .int yk), (6, .long (ys + yv.toInt64)), (8, .int (yi + 1)), (9, .ref ya), (10, .int yg)] [] yA yQ) :
    Pa N 16 111 [(0, .ref 46), (1, .int yf), (2, .int l), (3, .int ye), (4, .int yy), (5, .int yk), (6, .long ys), (8, .int yi), (9, .ref ya), (10, .int yg)] [.int yv, .long ys] yA yQ := by
  refine Pa.mp 3 (pc' := 115) (l' := [(6, .long (ys + yv.toInt64)), (0, .ref 46), (1, .int yf), (2, .int l), (3, .int ye), (4, .int yy), (5, .int yk), (8, .int yi), (9, .ref ya), (10, .int yg)]) (st' := []) (by rfl) ?_
  refine Pa.iinc (x := yi) (c := 1) (v := (yi + 1)) (l' := [(8, .int (yi + 1)), (6, .long (ys + yv.toInt64)), (0, .ref 46), (1, .int yf), (2, .int l), (3, .int ye), (4, .int yy), (5, .int yk), (9, .ref ya), (10, .int yg)]) (by rfl) (by rfl) (by decide) (by rfl) (by rfl) ?_
  refine Pa.mp 1 (pc' := 6) (l' := [(8, .int (yi + 1)), (6, .long (ys + yv.toInt64)), (0, .ref 46), (1, .int yf), (2, .int l), (3, .int ye), (4, .int yy), (5, .int yk), (9, .ref ya), (10, .int yg)]) (st' := []) (by rfl) ?_
  refine Pa.lv (l' := [(0, .ref 46), (1, .int yf), (2, .int l), (3, .int ye), (4, .int yy), (5, .int yk), (6, .long (ys + yv.toInt64)), (8, .int (yi + 1)), (9, .ref ya), (10, .int yg)]) (lvS_c rfl (lvS_c rfl (lvS_c rfl (lvS_c rfl (lvS_c rfl (lvS_c rfl (lvS_c rfl (lvS_c rfl (lvS_c rfl (lvS_c rfl (lvS_nil))))))))))) rfl ?_
  exact l1

theorem c_bsX {B9 yA yW : AW} (yg : Rgx yA) (hs : scX B9 yA yW) (yf l ye yy yk : Int32) (hk : yk.toInt ≤ 3599) (N : Nat) : Pa N 16 0 [(0, .ref 46), (1, .int yf), (2, .int l), (3, .int ye), (4, .int yy), (5, .int yk)] [] yW (fun yv A1 => yv = some (.int (bsV yA yf l ye yy yk)) ∧ scX B9 yA A1) := by
  have gT := yg.gl.T
  have ym1 : (-1 : Int32).toInt = -1 := by decide
  have ykey : ∀ (N yi : Nat) (yW : AW) (yx : Value) (gg : Int32), scX B9 yA yW → yi ≤ cT yA → Pa N 16 6 [(0, .ref 46), (1, .int yf), (2, .int l), (3, .int ye), (4, .int yy), (5, .int yk), (6, .long (smV yA yf l ye yy yk yi)), (8, .int (Int32.ofNat yi)), (9, yx), (10, .int gg)] [] yW (fun yv A1 => yv = some (.int (bsV yA yf l ye yy yk)) ∧ scX B9 yA A1) := by
    intro N
    induction N with
    | zero => intros; exact Pa.zero
    | succ N yih =>
      intro yi yW yx gg hs yhi
      have hc150 : cT yA ≤ 150 := by unfold cT; omega
      have ei : (Int32.ofNat yi).toInt = (yi : Int) := i32_nat (by omega)
      have e30 : (yW.1 30 4).toInt = (cT yA : Int) := by
        rw [hs.1 30 4 (by decide), yg.gl.f30]
        unfold cT
        omega
      have yn0 : ∀ yx gg, ¬ inB yA yf l ye yy yi → yi < cT yA → Pa N 16 6 [(0, .ref 46), (1, .int yf), (2, .int l), (3, .int ye), (4, .int yy), (5, .int yk), (6, .long (smV yA yf l ye yy yk yi)), (8, .int (Int32.ofNat yi + 1)), (9, yx), (10, .int gg)] [] yW (fun yv A1 => yv = some (.int (bsV yA yf l ye yy yk)) ∧ scX B9 yA A1) := fun yx gg hn yhi => by
        have yh := yih (yi + 1) yW yx gg hs (by omega)
        rw [smV_0 hn, on_succ yi] at yh
        exact yh
      have yn1 : ∀ ya1, inB yA yf l ye yy yi → yi < cT yA → rowC yA ya1 yi → Pa N 12 0 [(0, .ref 46), (1, .ref ya1), (2, .int yk)] [] yW (fun yu A1 => Pa N 16 111 [(0, .ref 46), (1, .int yf), (2, .int l), (3, .int ye), (4, .int yy), (5, .int yk), (6, .long (smV yA yf l ye yy yk yi)), (8, .int (Int32.ofNat yi)), (9, .ref ya1), (10, .int 1)] (yu.toList ++ [.long (smV yA yf l ye yy yk yi)]) A1 (fun yv A1 => yv = some (.int (bsV yA yf l ye yy yk)) ∧ scX B9 yA A1)) := fun ya1 hn yhi hr => by
        refine Pa.mono (c_cntX yg hs hr yk hk N) (fun yv A1 hv => ?_)
        obtain ⟨rfl, ys1, -⟩ := hv
        refine bx_bs1 ya1 yf l ye yy yk _ 1 _ _ ?_
        have yh := yih (yi + 1) A1 (.ref ya1) 1 ys1 (by omega)
        rw [smV_1 hn, on_succ yi] at yh
        exact yh
      have rowOf : ∀ {ya1 : Nat}, yi < cT yA → yW.2.2.1 31 (Int32.ofNat yi).toInt.toNat = some ya1 → rowC yA ya1 yi := fun yhi y1 => by
        rw [hs.2.2.2.1, ei, Int.toNat_natCast] at y1
        exact row_at yg.gl yhi y1
      have yq4 : ∀ {ya1 : Nat}, rowC yA ya1 yi → yW.1 ya1 4 = yA.1 90 (7 * yi) := fun yh => (sc_row hs yh.a9 4).trans yh.row.2.2.2.2.1
      have yq5 : ∀ {ya1 : Nat}, rowC yA ya1 yi → yW.1 ya1 5 = yA.1 90 (7 * yi + 1) := fun yh => (sc_row hs yh.a9 5).trans yh.row.2.2.2.2.2.1
      have yq6 : ∀ {ya1 : Nat}, rowC yA ya1 yi → yW.1 ya1 6 = yA.1 90 (7 * yi + 2) := fun yh => (sc_row hs yh.a9 6).trans yh.row.2.2.2.2.2.2.1
      have yq7 : ∀ {ya1 : Nat}, rowC yA ya1 yi → yW.1 ya1 7 = yA.1 90 (7 * yi + 3) := fun yh => (sc_row hs yh.a9 7).trans yh.row.2.2.2.2.2.2.2.1
      refine bx_bs yf l ye yy yk _ gg _ yx ?_ ?_ ?_ ?_ ?_ ?_ ?_ ?_ ?_ ?_ ?_ ?_
      · intro yq
        rw [e30, ei] at yq
        have ye : yi = cT yA := by omega
        subst ye
        exact ⟨rfl, hs⟩
      · intro _ yq
        rw [ei] at yq
        exfalso
        omega
      · intro yq _ _ ya1 y1 _ _ z1
        rw [e30, ei] at yq
        have yh := rowOf (by omega) y1
        rw [yq4 yh] at z1
        exact yn0 _ _ (fun yz => z1 yz.1) (by omega)
      · intro yq _ _ ya1 y1 _ _ z1 z2 z3 z4
        rw [e30, ei] at yq
        have yh := rowOf (by omega) y1
        rw [yq4 yh] at z1
        rw [yq6 yh] at z2
        exact yn1 ya1 ⟨z1, z2, .inl z3, .inl z4⟩ (by omega) yh
      · intro yq _ _ ya1 y1 _ _ z1 z2 z3 z4 z5
        rw [e30, ei] at yq
        have yh := rowOf (by omega) y1
        rw [yq5 yh] at z5
        exact yn0 _ _ (fun yz => yz.2.2.2.elim z4 z5) (by omega)
      · intro yq _ _ ya1 y1 _ _ z1 z2 z3 z4 z5
        rw [e30, ei] at yq
        have yh := rowOf (by omega) y1
        rw [yq4 yh] at z1
        rw [yq6 yh] at z2
        rw [yq5 yh] at z5
        exact yn1 ya1 ⟨z1, z2, .inl z3, .inr z5⟩ (by omega) yh
      · intro yq _ _ ya1 y1 _ _ z1 z2 z3 z4
        rw [e30, ei] at yq
        have yh := rowOf (by omega) y1
        rw [yq7 yh] at z4
        exact yn0 _ _ (fun yz => yz.2.2.1.elim z3 z4) (by omega)
      · intro yq _ _ ya1 y1 _ _ z1 z2 z3 z4 z5
        rw [e30, ei] at yq
        have yh := rowOf (by omega) y1
        rw [yq4 yh] at z1
        rw [yq6 yh] at z2
        rw [yq7 yh] at z4
        exact yn1 ya1 ⟨z1, z2, .inr z4, .inl z5⟩ (by omega) yh
      · intro yq _ _ ya1 y1 _ _ z1 z2 z3 z4 z5 z6
        rw [e30, ei] at yq
        have yh := rowOf (by omega) y1
        rw [yq5 yh] at z6
        exact yn0 _ _ (fun yz => yz.2.2.2.elim z5 z6) (by omega)
      · intro yq _ _ ya1 y1 _ _ z1 z2 z3 z4 z5 z6
        rw [e30, ei] at yq
        have yh := rowOf (by omega) y1
        rw [yq4 yh] at z1
        rw [yq6 yh] at z2
        rw [yq7 yh] at z4
        rw [yq5 yh] at z6
        exact yn1 ya1 ⟨z1, z2, .inr z4, .inr z6⟩ (by omega) yh
      · intro yq _ _ ya1 y1 _ _ z1 z2
        rw [e30, ei] at yq
        have yh := rowOf (by omega) y1
        rw [yq6 yh] at z2
        exact yn0 _ _ (fun yz => z2 yz.2.1) (by omega)
      · intro yq _ _ y1
        exfalso
        rw [e30, ei] at yq
        rw [hs.2.2.2.1, ei, Int.toNat_natCast] at y1
        obtain ⟨yb, yx1, -⟩ := yg.gl.rz.1 yi (by omega)
        rw [y1] at yx1
        cases yx1
  exact bx_bs0 yf l ye yy yk (ykey N 0 yW .null 0 hs (Nat.zero_le _))
theorem bx_du0 {N : Nat} {yA : AW} {yQ : Option Value → AW → Prop} (yf l yk : Int32)
    (l1 : Pa N 46 0 [(0, .ref 5), (1, .int yf), (2, .int l), (3, .int yk)] [] yA (fun yu A1 => Pa N 17 10 [(0, .ref 46), (1, .int yf), (2, .int l), (3, .int yk)] (yu.toList ++ []) A1 yQ)) :
    Pa N 17 0 [(0, .ref 46), (1, .int yf), (2, .int l), (3, .int yk)] [] yA yQ := by
  refine Pa.mp 1 (pc' := 1) (l' := [(0, .ref 46), (1, .int yf), (2, .int l), (3, .int yk)]) (st' := [.ref 46]) (by rfl) ?_
  refine Pa.gfR (by rfl) (by rfl) (.inl rfl) (by rfl) ?_
  show Pa N 17 4 [(0, .ref 46), (1, .int yf), (2, .int l), (3, .int yk)] [.ref 5] yA _
  refine Pa.mp 3 (pc' := 7) (l' := [(0, .ref 46), (1, .int yf), (2, .int l), (3, .int yk)]) (st' := [.int yk, .int l, .int yf, .ref 5]) (by rfl) ?_
  refine Pa.inv (by rfl) (by rfl) (.inr rfl) (by rfl) ?_
  exact l1

theorem bx_du1 {N : Nat} {yA : AW} {yQ : Option Value → AW → Prop} (yf l yk yp : Int32)
    (l1 : Pa N 15 0 [(0, .ref 46), (1, .int 2), (2, .int l), (3, .int yf), (4, .int yk), (5, .int yk)] [] yA (fun yu A1 => Pa N 17 19 [(0, .ref 46), (1, .int yf), (2, .int l), (3, .int yk)] (yu.toList ++ [.int yp]) A1 yQ)) :
    Pa N 17 10 [(0, .ref 46), (1, .int yf), (2, .int l), (3, .int yk)] [.int yp] yA yQ := by
  refine Pa.mp 1 (pc' := 11) (l' := [(0, .ref 46), (1, .int yf), (2, .int l), (3, .int yk)]) (st' := [.ref 46, .int yp]) (by rfl) ?_
  refine Pa.ic (x := 2) (pc' := 12) (by rfl) (by rfl) (by decide) ?_
  refine Pa.mp 4 (pc' := 16) (l' := [(0, .ref 46), (1, .int yf), (2, .int l), (3, .int yk)]) (st' := [.int yk, .int yk, .int yf, .int l, .int 2, .ref 46, .int yp]) (by rfl) ?_
  refine Pa.inv (by rfl) (by rfl) (.inl rfl) (by rfl) ?_
  exact l1

theorem bx_du2 {N : Nat} {yA : AW} {yQ : Option Value → AW → Prop} (yf l yk yp yn : Int32)
    (l1 : yn.toInt ≤ yp.toInt → Pa N 16 0 [(0, .ref 46), (1, .int yf), (2, .int l), (3, .int (-1)), (4, .int (-1)), (5, .int yk)] [] yA (fun yu A1 => Pa N 17 33 [(0, .ref 46), (1, .int yf), (2, .int l), (3, .int yk)] (yu.toList ++ []) A1 yQ))
    (l2 : yp.toInt < yn.toInt → yQ (some (.int 0)) yA) :
    Pa N 17 19 [(0, .ref 46), (1, .int yf), (2, .int l), (3, .int yk)] [.int yn, .int yp] yA yQ := by
  refine Pa.if2 (a := yp.toInt) (b := yn.toInt) (t := 24) (by rfl) (by rfl) (rfl) (rfl) (fun h1 => ?_) (fun h2 => ?_)
  · have h1 : yn.toInt ≤ yp.toInt := h1
    refine Pa.mp 3 (pc' := 27) (l' := [(0, .ref 46), (1, .int yf), (2, .int l), (3, .int yk)]) (st' := [.int l, .int yf, .ref 46]) (by rfl) ?_
    refine Pa.ic (x := (-1)) (pc' := 28) (by rfl) (by rfl) (by decide) ?_
    refine Pa.ic (x := (-1)) (pc' := 29) (by rfl) (by rfl) (by decide) ?_
    refine Pa.mp 1 (pc' := 30) (l' := [(0, .ref 46), (1, .int yf), (2, .int l), (3, .int yk)]) (st' := [.int yk, .int (-1), .int (-1), .int l, .int yf, .ref 46]) (by rfl) ?_
    refine Pa.inv (by rfl) (by rfl) (.inl rfl) (by rfl) ?_
    exact l1 h1
  · have h2 : yp.toInt < yn.toInt := h2
    refine Pa.ic (x := 0) (pc' := 23) (by rfl) (by rfl) (by decide) ?_
    refine Pa.iret (by rfl) ?_
    exact l2 h2

theorem bx_du3 {N : Nat} {yA : AW} {yQ : Option Value → AW → Prop} (yf l yk yb : Int32)
    (l1 : Pa N 15 0 [(0, .ref 46), (1, .int 1), (2, .int l), (3, .int yf), (4, .int yk), (5, .int yk)] [] yA (fun yu A1 => Pa N 17 47 [(0, .ref 46), (1, .int yf), (2, .int l), (3, .int yk), (4, .long yb.toInt64)] (yu.toList ++ [.long yb.toInt64]) A1 yQ)) :
    Pa N 17 33 [(0, .ref 46), (1, .int yf), (2, .int l), (3, .int yk)] [.int yb] yA yQ := by
  refine Pa.mp 4 (pc' := 39) (l' := [(4, .long yb.toInt64), (0, .ref 46), (1, .int yf), (2, .int l), (3, .int yk)]) (st' := [.ref 46, .long yb.toInt64]) (by rfl) ?_
  refine Pa.ic (x := 1) (pc' := 40) (by rfl) (by rfl) (by decide) ?_
  refine Pa.mp 4 (pc' := 44) (l' := [(4, .long yb.toInt64), (0, .ref 46), (1, .int yf), (2, .int l), (3, .int yk)]) (st' := [.int yk, .int yk, .int yf, .int l, .int 1, .ref 46, .long yb.toInt64]) (by rfl) ?_
  refine Pa.lv (l' := [(0, .ref 46), (1, .int yf), (2, .int l), (3, .int yk), (4, .long yb.toInt64)]) (lvS_c rfl (lvS_c rfl (lvS_c rfl (lvS_c rfl (lvS_c rfl (lvS_nil)))))) rfl ?_
  refine Pa.inv (by rfl) (by rfl) (.inl rfl) (by rfl) ?_
  exact l1

theorem bx_du4 {N : Nat} {yA : AW} {yQ : Option Value → AW → Prop} (yf l yk yr : Int32) (yb : Int64)
    (l1 : Pa N 15 0 [(0, .ref 46), (1, .int 3), (2, .int l), (3, .int yf), (4, .int yk), (5, .int yk)] [] yA (fun yu A1 => Pa N 17 66 [(0, .ref 46), (1, .int yf), (2, .int l), (3, .int yk), (4, .long yb), (6, .long ((yb * yr.toInt64) / 100))] (yu.toList ++ [.long ((yb * yr.toInt64) / 100)]) A1 yQ)) :
    Pa N 17 47 [(0, .ref 46), (1, .int yf), (2, .int l), (3, .int yk), (4, .long yb)] [.int yr, .long yb] yA yQ := by
  refine Pa.mp 2 (pc' := 49) (l' := [(0, .ref 46), (1, .int yf), (2, .int l), (3, .int yk), (4, .long yb)]) (st' := [.long (yb * yr.toInt64)]) (by rfl) ?_
  refine Pa.jcl (x := 100) (pc' := 52) (by rfl) (fun _ _ _ => by rfl) (by decide) ?_
  refine Pa.ldiv (by rfl) ?_
  refine Pa.mp 3 (pc' := 58) (l' := [(6, .long ((yb * yr.toInt64) / 100)), (0, .ref 46), (1, .int yf), (2, .int l), (3, .int yk), (4, .long yb)]) (st' := [.ref 46, .long ((yb * yr.toInt64) / 100)]) (by rfl) ?_
  refine Pa.ic (x := 3) (pc' := 59) (by rfl) (by rfl) (by decide) ?_
  refine Pa.mp 4 (pc' := 63) (l' := [(6, .long ((yb * yr.toInt64) / 100)), (0, .ref 46), (1, .int yf), (2, .int l), (3, .int yk), (4, .long yb)]) (st' := [.int yk, .int yk, .int yf, .int l, .int 3, .ref 46, .long ((yb * yr.toInt64) / 100)]) (by rfl) ?_
  refine Pa.lv (l' := [(0, .ref 46), (1, .int yf), (2, .int l), (3, .int yk), (4, .long yb), (6, .long ((yb * yr.toInt64) / 100))]) (lvS_c rfl (lvS_c rfl (lvS_c rfl (lvS_c rfl (lvS_c rfl (lvS_c rfl (lvS_nil))))))) rfl ?_
  refine Pa.inv (by rfl) (by rfl) (.inl rfl) (by rfl) ?_
  exact l1

theorem bx_du5 {N : Nat} {yA : AW} {yQ : Option Value → AW → Prop} (yf l yk yt : Int32) (yb yp : Int64)
    (l1 : yQ (some (.int ((l_min yp yt.toInt64).toInt32))) yA) :
    Pa N 17 66 [(0, .ref 46), (1, .int yf), (2, .int l), (3, .int yk), (4, .long yb), (6, .long yp)] [.int yt, .long yp] yA yQ := by
  refine Pa.mp 1 (pc' := 67) (l' := [(0, .ref 46), (1, .int yf), (2, .int l), (3, .int yk), (4, .long yb), (6, .long yp)]) (st' := [.long yt.toInt64, .long yp]) (by rfl) ?_
  refine Pa.mth (by rfl) (by rfl) (by rfl) mm_lmin ?_
  refine Pa.mp 1 (pc' := 71) (l' := [(0, .ref 46), (1, .int yf), (2, .int l), (3, .int yk), (4, .long yb), (6, .long yp)]) (st' := [.int ((l_min yp yt.toInt64).toInt32)]) (by rfl) ?_
  refine Pa.iret (by rfl) ?_
  exact l1

theorem c_duX {B9 yA yW : AW} (yg : Rgx yA) (hs : scX B9 yA yW) (yf l yk : Int32) (h0 : 0 ≤ yf.toInt) (h1 : yf.toInt < (yA.1 69 11).toInt) (hk : yk.toInt ≤ 3599) (N : Nat) : Pa N 17 0 [(0, .ref 46), (1, .int yf), (2, .int l), (3, .int yk)] [] yW (fun yv A1 => yv = some (.int (duV yA yf l yk)) ∧ scX B9 yA A1) := by
  refine bx_du0 yf l yk (Pa.mono (c_pointsBy N yW yf l yk) (fun yv A1 hv => ?_))
  obtain ⟨rfl, hAW⟩ := hv
  rw [hAW, sc_pts yg hs hk]
  refine bx_du1 yf l yk _ (Pa.mono (c_lawS yg hs 2 l yf yk yk h0 h1 hk N) (fun yv A2 hv => ?_))
  obtain ⟨rfl, ys2, -⟩ := hv
  refine bx_du2 yf l yk _ _ (fun yz => ?_) (fun yz => ⟨?_, ys2⟩)
  · refine Pa.mono (c_bsX yg ys2 yf l (-1) (-1) yk hk N) (fun yv A3 hv => ?_)
    obtain ⟨rfl, ys3⟩ := hv
    refine bx_du3 yf l yk _ (Pa.mono (c_lawS yg ys3 1 l yf yk yk h0 h1 hk N) (fun yv A4 hv => ?_))
    obtain ⟨rfl, ys4, -⟩ := hv
    refine bx_du4 yf l yk _ _ (Pa.mono (c_lawS yg ys4 3 l yf yk yk h0 h1 hk N) (fun yv A5 hv => ?_))
    obtain ⟨rfl, s5, -⟩ := hv
    refine bx_du5 yf l yk _ _ _ ⟨?_, s5⟩
    unfold duV
    rw [if_neg (by omega)]
  · unfold duV
    rw [if_pos yz]
/-! the reference -/
theorem c_lawMD (N : Nat) (yA : AW) (yu l yf yd yk : Int32) (h8 : (yA.1 69 69).toInt < (yA.1 69 45).toInt) (hs0 : 0 ≤ (yA.1 69 45).toInt) (hs1 : (yA.1 69 45).toInt ≤ 20) (hx : ∀ yi, yi < (yA.1 69 45).toInt.toNat → ∃ ds, txD yA yi ds) (yhT : (yA.1 69 31).toInt ≤ 150) (hu1 : 1 ≤ yu.toInt) (hu2 : yu.toInt ≤ 3) : Pa N 211 0 [(0, .ref 69), (1, .int l), (2, .int yf), (3, .int yd), (4, .int yk), (5, .int yu)] [] yA (lmPT yA yu l yf yd yk) := by
  refine bm_lo l yf yd yk yu ?_
  refine Pa.mono (c_nameF N yA l yf yd yk yhT) (fun yv yB hv => ?_)
  obtain ⟨rfl, hn⟩ := hv
  have e45 := hn.2.2.2.1 45 (by decide)
  have gi : ∀ u' o ym, Pa N 210 0 [(0, .ref 69), (1, .int l), (2, .int u'), (3, .int yd), (4, .int yk), (5, .int o), (6, .int ym)] [] yB (giPT yB (10 * l + u') yd yk o ym (lwE yd (ptsM yA yf l yk) (yA.1 77 yf.toInt.toNat) (cnM (lnB yA yf (cT yA))))) := fun u' o ym => c_givesD N yB l u' yd yk o ym _ (by rw [hn.2.2.2.1 69 (by decide), e45]; exact h8) (by rw [e45]; exact hs0) (by rw [e45]; exact hs1) (fun yi yhi => by obtain ⟨ds, yhd⟩ := hx yi (by rw [e45] at yhi; exact yhi); exact ⟨ds, txD_cg (hn.2.2.1 101 yi (by decide) (by decide)) (fun yj => hn.2.2.1 100 yj (by decide) (by decide)) yhd⟩) 0 (nm_loc hn) (nm_ev hn)
  refine bm_lo1 l yf yd yk yu (fun yq1 yq2 => ?_) (fun yq1 yq2 => ?_) (fun yq1 => ?_)
  · have hu : yu = 3 := i32_ext (by rw [show (3 : Int32).toInt = 3 from by decide]; omega)
    subst hu
    refine Pa.mono (gi 3 99999999 99999999) (fun yv A1 hv => ?_)
    obtain ⟨yy, rfl, g1, g2⟩ := gi_upT hn hv
    refine Pa.iret (by rfl) ?_
    refine ⟨yy, rfl, g1, ?_⟩
    rcases g2 with ⟨b1, b2, -⟩ | ⟨yq, ds, b1, b2, b3, -⟩
    · exact .inl ⟨b1, by rw [b2, if_neg (by decide), if_neg (by decide)]⟩
    · exact .inr ⟨yq, ds, b1, b2, by rw [b3, if_neg (by decide)]⟩
  · have hu : yu = 2 := i32_ext (by rw [show (2 : Int32).toInt = 2 from by decide]; omega)
    subst hu
    refine Pa.mono (gi 2 0 99999999) (fun yv A1 hv => ?_)
    obtain ⟨yy, rfl, g1, g2⟩ := gi_upT hn hv
    refine Pa.mp 1 (pc' := 65) (l' := [(0, .ref 69), (1, .int l), (2, .int yf), (3, .int yd), (4, .int yk), (5, .int 2)]) (st' := [.int yy]) (by rfl) ?_
    refine Pa.iret (by rfl) ?_
    refine ⟨yy, rfl, g1, ?_⟩
    rcases g2 with ⟨b1, b2, -⟩ | ⟨yq, ds, b1, b2, b3, -⟩
    · exact .inl ⟨b1, by rw [b2, if_neg (by decide), if_pos (by decide)]⟩
    · exact .inr ⟨yq, ds, b1, b2, by rw [b3, if_neg (by decide)]⟩
  · have hu : yu = 1 := i32_ext (by rw [show (1 : Int32).toInt = 1 from by decide]; omega)
    subst hu
    refine Pa.mono (gi 1 30 100) (fun yv A1 hv => ?_)
    obtain ⟨yy, rfl, g1, g2⟩ := gi_upT hn hv
    refine Pa.mp 1 (pc' := 65) (l' := [(0, .ref 69), (1, .int l), (2, .int yf), (3, .int yd), (4, .int yk), (5, .int 1)]) (st' := [.int yy]) (by rfl) ?_
    refine Pa.iret (by rfl) ?_
    refine ⟨yy, rfl, g1, ?_⟩
    rcases g2 with ⟨b1, b2, -⟩ | ⟨yq, ds, b1, b2, b3, -⟩
    · exact .inl ⟨b1, by rw [b2, if_pos (by decide)]⟩
    · exact .inr ⟨yq, ds, b1, b2, by rw [b3, if_pos (by decide)]⟩
theorem c_lawR {B9 yA yW : AW} (yg : Rgx yA) (hs : smM B9 yA yW) (yu l yf yd yk : Int32) (hu1 : 1 ≤ yu.toInt) (hu2 : yu.toInt ≤ 3) (N : Nat) : Pa N 211 0 [(0, .ref 69), (1, .int l), (2, .int yf), (3, .int yd), (4, .int yk), (5, .int yu)] [] yW (fun yv A1 => yv = some (.int (lwV yA yu l yf yd yk)) ∧ smM B9 yA A1) := by
  have hh := sm_h yg hs
  refine Pa.mono (c_lawMD N yW yu l yf yd yk hh.1 hh.2.1.1 hh.2.1.2 (fun yi yhi => by
    obtain ⟨ds, yhd⟩ := txD_of (yg.tx yi (by unfold tT; rw [← hs.2.1 45 (by decide) (by decide) (by decide) (by decide) (by decide) (by decide) (by decide) (by decide)]; exact yhi))
    exact ⟨ds, (sm_txD hs).mpr yhd⟩) hh.2.2 hu1 hu2) (fun yv A1 hv => ?_)
  obtain ⟨yy, rfl, hw, hy⟩ := hv
  refine ⟨?_, smM_lm hs hw⟩
  rw [sm_fn hs] at hy
  rcases hy with ⟨b1, b2⟩ | ⟨yq, ds, b1, b2, b3⟩
  · rw [b2, lwV_0 (txO_0 b1), tab_eq hu1 hu2]
  · have ye := sm_env hs yf l yd yk
    unfold fmE at ye
    rw [b3, ye, lwV_1 (txO_1 b1 ((sm_txD hs).mp b2)), cl_eq hu1 hu2]
    rfl
theorem sm_pts {B9 yA yW : AW} (hs : smM B9 yA yW) {yf l yk : Int32} : ptsM yW yf l yk = ptsM yA yf l yk := by
  unfold ptsM
  rw [hs.2.1 24 (by decide) (by decide) (by decide) (by decide) (by decide) (by decide) (by decide) (by decide)]
  refine sumN_congr (fun yj _ => ?_)
  unfold ptFM
  rw [hs.cel 84 (by decide) (by decide), hs.cel 85 (by decide) (by decide), hs.cel 86 (by decide) (by decide), hs.cel 87 (by decide) (by decide)]
theorem bm_bs0 {N : Nat} {yA : AW} {yQ : Option Value → AW → Prop} (yf l ye yk : Int32)
    (l1 : Pa N 217 6 [(0, .ref 69), (1, .int yf), (2, .int l), (3, .int ye), (4, .int yk), (5, .long (Int64.ofNat 0)), (7, .int 0)] [] yA yQ) :
    Pa N 217 0 [(0, .ref 69), (1, .int yf), (2, .int l), (3, .int ye), (4, .int yk)] [] yA yQ := by
  refine Pa.mp 2 (pc' := 3) (l' := [(5, .long (Int64.ofNat 0)), (0, .ref 69), (1, .int yf), (2, .int l), (3, .int ye), (4, .int yk)]) (st' := []) (by rfl) ?_
  refine Pa.ic (x := 0) (pc' := 4) (by rfl) (by rfl) (by decide) ?_
  refine Pa.mp 1 (pc' := 6) (l' := [(7, .int 0), (5, .long (Int64.ofNat 0)), (0, .ref 69), (1, .int yf), (2, .int l), (3, .int ye), (4, .int yk)]) (st' := []) (by rfl) ?_
  refine Pa.lv (l' := [(0, .ref 69), (1, .int yf), (2, .int l), (3, .int ye), (4, .int yk), (5, .long (Int64.ofNat 0)), (7, .int 0)]) (lvS_c rfl (lvS_c rfl (lvS_c rfl (lvS_c rfl (lvS_c rfl (lvS_c rfl (lvS_c rfl (lvS_nil)))))))) rfl ?_
  exact l1

theorem bm_bs {N : Nat} {yA : AW} {yQ : Option Value → AW → Prop} (yf l ye yk yi : Int32) (ys : Int64)
    (l1 : (yA.1 69 31).toInt ≤ yi.toInt → (lg_cmp ys 1999999999).toInt ≤ 0 → yQ (some (.int ys.toInt32)) yA)
    (l2 : (yA.1 69 31).toInt ≤ yi.toInt → 0 < (lg_cmp ys 1999999999).toInt → yQ (some (.int (1999999999 : Int64).toInt32)) yA)
    (l3 : yi.toInt < (yA.1 69 31).toInt → (ocM yA yi 0).toInt ≠ yf.toInt → Pa N 217 6 [(0, .ref 69), (1, .int yf), (2, .int l), (3, .int ye), (4, .int yk), (5, .long ys), (7, .int (yi + 1))] [] yA yQ)
    (l4 : yi.toInt < (yA.1 69 31).toInt → (ocM yA yi 0).toInt = yf.toInt → (ocM yA yi 2).toInt ≠ l.toInt → Pa N 217 6 [(0, .ref 69), (1, .int yf), (2, .int l), (3, .int ye), (4, .int yk), (5, .long ys), (7, .int (yi + 1))] [] yA yQ)
    (l5 : yi.toInt < (yA.1 69 31).toInt → (ocM yA yi 0).toInt = yf.toInt → (ocM yA yi 2).toInt = l.toInt → ye.toInt < 0 → Pa N 215 0 [(0, .ref 69), (1, .int yi), (2, .int yk)] [] yA (fun yu A1 => Pa N 217 62 [(0, .ref 69), (1, .int yf), (2, .int l), (3, .int ye), (4, .int yk), (5, .long ys), (7, .int yi)] (yu.toList ++ [.long ys]) A1 yQ))
    (l6 : yi.toInt < (yA.1 69 31).toInt → (ocM yA yi 0).toInt = yf.toInt → (ocM yA yi 2).toInt = l.toInt → 0 ≤ ye.toInt → (ocM yA yi 1).toInt ≠ ye.toInt → Pa N 217 6 [(0, .ref 69), (1, .int yf), (2, .int l), (3, .int ye), (4, .int yk), (5, .long ys), (7, .int (yi + 1))] [] yA yQ)
    (l7 : yi.toInt < (yA.1 69 31).toInt → (ocM yA yi 0).toInt = yf.toInt → (ocM yA yi 2).toInt = l.toInt → 0 ≤ ye.toInt → (ocM yA yi 1).toInt = ye.toInt → Pa N 215 0 [(0, .ref 69), (1, .int yi), (2, .int yk)] [] yA (fun yu A1 => Pa N 217 62 [(0, .ref 69), (1, .int yf), (2, .int l), (3, .int ye), (4, .int yk), (5, .long ys), (7, .int yi)] (yu.toList ++ [.long ys]) A1 yQ)) :
    Pa (N + 1) 217 6 [(0, .ref 69), (1, .int yf), (2, .int l), (3, .int ye), (4, .int yk), (5, .long ys), (7, .int yi)] [] yA yQ := by
  refine Pa.mp1 1 (pc' := 9) (l' := [(0, .ref 69), (1, .int yf), (2, .int l), (3, .int ye), (4, .int yk), (5, .long ys), (7, .int yi)]) (st' := [.ref 69, .int yi]) (by rfl) ?_
  refine Pa.gfI (v := yA.1 69 31) (by rfl) (by rfl) (.inl rfl) (by rfl) (by rfl) ?_
  refine Pa.if2 (a := yi.toInt) (b := (yA.1 69 31).toInt) (t := 72) (by rfl) (by rfl) (rfl) (rfl) (fun h1 => ?_) (fun h2 => ?_)
  · have h1 : (yA.1 69 31).toInt ≤ yi.toInt := h1
    refine Pa.mp 1 (pc' := 74) (l' := [(0, .ref 69), (1, .int yf), (2, .int l), (3, .int ye), (4, .int yk), (5, .long ys), (7, .int yi)]) (st' := [.long ys]) (by rfl) ?_
    refine Pa.jcl (x := 1999999999) (pc' := 77) (by rfl) (fun _ _ _ => by rfl) (by decide) ?_
    refine Pa.mp 1 (pc' := 78) (l' := [(0, .ref 69), (1, .int yf), (2, .int l), (3, .int ye), (4, .int yk), (5, .long ys), (7, .int yi)]) (st' := [.int (lg_cmp ys 1999999999)]) (by rfl) ?_
    refine Pa.if1 (a := (lg_cmp ys 1999999999).toInt) (t := 87) (by rfl) (by rfl) (rfl) (fun h3 => ?_) (fun h4 => ?_)
    · have h3 : (lg_cmp ys 1999999999).toInt ≤ 0 := h3
      refine Pa.mp 2 (pc' := 90) (l' := [(0, .ref 69), (1, .int yf), (2, .int l), (3, .int ye), (4, .int yk), (5, .long ys), (7, .int yi)]) (st' := [.int ys.toInt32]) (by rfl) ?_
      refine Pa.iret (by rfl) ?_
      exact l1 h1 h3
    · have h4 : 0 < (lg_cmp ys 1999999999).toInt := h4
      refine Pa.jcl (x := 1999999999) (pc' := 84) (by rfl) (fun _ _ _ => by rfl) (by decide) ?_
      refine Pa.mp 2 (pc' := 90) (l' := [(0, .ref 69), (1, .int yf), (2, .int l), (3, .int ye), (4, .int yk), (5, .long ys), (7, .int yi)]) (st' := [.int (1999999999 : Int64).toInt32]) (by rfl) ?_
      refine Pa.iret (by rfl) ?_
      exact l2 h1 h4
  · have h2 : yi.toInt < (yA.1 69 31).toInt := h2
    refine Pa.mp 2 (pc' := 18) (l' := [(0, .ref 69), (1, .int yf), (2, .int l), (3, .int ye), (4, .int yk), (5, .long ys), (7, .int yi)]) (st' := [.int yi, .ref 69]) (by rfl) ?_
    refine Pa.ic (x := 0) (pc' := 19) (by rfl) (by rfl) (by decide) ?_
    refine Pa.inv (by rfl) (by rfl) (.inl rfl) (by rfl) ?_
    refine Pa.mono (c_oc N yA yA yi 0 (fun _ => by first | rfl | (repeat rw [uI_c (by decide)]))) (fun yu A1 hu => ?_)
    obtain ⟨rfl, hu⟩ := hu
    rw [hu]
    show Pa N 217 22 [(0, .ref 69), (1, .int yf), (2, .int l), (3, .int ye), (4, .int yk), (5, .long ys), (7, .int yi)] [.int (ocM yA yi 0)] yA _
    refine Pa.mp 1 (pc' := 23) (l' := [(0, .ref 69), (1, .int yf), (2, .int l), (3, .int ye), (4, .int yk), (5, .long ys), (7, .int yi)]) (st' := [.int yf, .int (ocM yA yi 0)]) (by rfl) ?_
    refine Pa.if2 (a := (ocM yA yi 0).toInt) (b := yf.toInt) (t := 66) (by rfl) (by rfl) (rfl) (rfl) (fun h5 => ?_) (fun h6 => ?_)
    · have h5 : (ocM yA yi 0).toInt ≠ yf.toInt := h5
      refine Pa.iinc (x := yi) (c := 1) (v := (yi + 1)) (l' := [(7, .int (yi + 1)), (0, .ref 69), (1, .int yf), (2, .int l), (3, .int ye), (4, .int yk), (5, .long ys)]) (by rfl) (by rfl) (by decide) (by rfl) (by rfl) ?_
      refine Pa.mp 1 (pc' := 6) (l' := [(7, .int (yi + 1)), (0, .ref 69), (1, .int yf), (2, .int l), (3, .int ye), (4, .int yk), (5, .long ys)]) (st' := []) (by rfl) ?_
      refine Pa.lv (l' := [(0, .ref 69), (1, .int yf), (2, .int l), (3, .int ye), (4, .int yk), (5, .long ys), (7, .int (yi + 1))]) (lvS_c rfl (lvS_c rfl (lvS_c rfl (lvS_c rfl (lvS_c rfl (lvS_c rfl (lvS_c rfl (lvS_nil)))))))) rfl ?_
      exact l3 h2 h5
    · have h6 : (ocM yA yi 0).toInt = yf.toInt := h6
      refine Pa.mp 2 (pc' := 29) (l' := [(0, .ref 69), (1, .int yf), (2, .int l), (3, .int ye), (4, .int yk), (5, .long ys), (7, .int yi)]) (st' := [.int yi, .ref 69]) (by rfl) ?_
      refine Pa.ic (x := 2) (pc' := 30) (by rfl) (by rfl) (by decide) ?_
      refine Pa.inv (by rfl) (by rfl) (.inl rfl) (by rfl) ?_
      refine Pa.mono (c_oc N yA yA yi 2 (fun _ => by first | rfl | (repeat rw [uI_c (by decide)]))) (fun yu A1 hu => ?_)
      obtain ⟨rfl, hu⟩ := hu
      rw [hu]
      show Pa N 217 33 [(0, .ref 69), (1, .int yf), (2, .int l), (3, .int ye), (4, .int yk), (5, .long ys), (7, .int yi)] [.int (ocM yA yi 2)] yA _
      refine Pa.mp 1 (pc' := 34) (l' := [(0, .ref 69), (1, .int yf), (2, .int l), (3, .int ye), (4, .int yk), (5, .long ys), (7, .int yi)]) (st' := [.int l, .int (ocM yA yi 2)]) (by rfl) ?_
      refine Pa.if2 (a := (ocM yA yi 2).toInt) (b := l.toInt) (t := 66) (by rfl) (by rfl) (rfl) (rfl) (fun h7 => ?_) (fun h8 => ?_)
      · have h7 : (ocM yA yi 2).toInt ≠ l.toInt := h7
        refine Pa.iinc (x := yi) (c := 1) (v := (yi + 1)) (l' := [(7, .int (yi + 1)), (0, .ref 69), (1, .int yf), (2, .int l), (3, .int ye), (4, .int yk), (5, .long ys)]) (by rfl) (by rfl) (by decide) (by rfl) (by rfl) ?_
        refine Pa.mp 1 (pc' := 6) (l' := [(7, .int (yi + 1)), (0, .ref 69), (1, .int yf), (2, .int l), (3, .int ye), (4, .int yk), (5, .long ys)]) (st' := []) (by rfl) ?_
        refine Pa.lv (l' := [(0, .ref 69), (1, .int yf), (2, .int l), (3, .int ye), (4, .int yk), (5, .long ys), (7, .int (yi + 1))]) (lvS_c rfl (lvS_c rfl (lvS_c rfl (lvS_c rfl (lvS_c rfl (lvS_c rfl (lvS_c rfl (lvS_nil)))))))) rfl ?_
        exact l4 h2 h6 h7
      · have h8 : (ocM yA yi 2).toInt = l.toInt := h8
        refine Pa.mp 1 (pc' := 38) (l' := [(0, .ref 69), (1, .int yf), (2, .int l), (3, .int ye), (4, .int yk), (5, .long ys), (7, .int yi)]) (st' := [.int ye]) (by rfl) ?_
        refine Pa.if1 (a := ye.toInt) (t := 52) (by rfl) (by rfl) (rfl) (fun h9 => ?_) (fun h10 => ?_)
        · have h9 : ye.toInt < 0 := h9
          refine Pa.mp 4 (pc' := 59) (l' := [(0, .ref 69), (1, .int yf), (2, .int l), (3, .int ye), (4, .int yk), (5, .long ys), (7, .int yi)]) (st' := [.int yk, .int yi, .ref 69, .long ys]) (by rfl) ?_
          refine Pa.inv (by rfl) (by rfl) (.inl rfl) (by rfl) ?_
          exact l5 h2 h6 h8 h9
        · have h10 : 0 ≤ ye.toInt := h10
          refine Pa.mp 2 (pc' := 44) (l' := [(0, .ref 69), (1, .int yf), (2, .int l), (3, .int ye), (4, .int yk), (5, .long ys), (7, .int yi)]) (st' := [.int yi, .ref 69]) (by rfl) ?_
          refine Pa.ic (x := 1) (pc' := 45) (by rfl) (by rfl) (by decide) ?_
          refine Pa.inv (by rfl) (by rfl) (.inl rfl) (by rfl) ?_
          refine Pa.mono (c_oc N yA yA yi 1 (fun _ => by first | rfl | (repeat rw [uI_c (by decide)]))) (fun yu A1 hu => ?_)
          obtain ⟨rfl, hu⟩ := hu
          rw [hu]
          show Pa N 217 48 [(0, .ref 69), (1, .int yf), (2, .int l), (3, .int ye), (4, .int yk), (5, .long ys), (7, .int yi)] [.int (ocM yA yi 1)] yA _
          refine Pa.mp 1 (pc' := 49) (l' := [(0, .ref 69), (1, .int yf), (2, .int l), (3, .int ye), (4, .int yk), (5, .long ys), (7, .int yi)]) (st' := [.int ye, .int (ocM yA yi 1)]) (by rfl) ?_
          refine Pa.if2 (a := (ocM yA yi 1).toInt) (b := ye.toInt) (t := 66) (by rfl) (by rfl) (rfl) (rfl) (fun h11 => ?_) (fun h12 => ?_)
          · have h11 : (ocM yA yi 1).toInt ≠ ye.toInt := h11
            refine Pa.iinc (x := yi) (c := 1) (v := (yi + 1)) (l' := [(7, .int (yi + 1)), (0, .ref 69), (1, .int yf), (2, .int l), (3, .int ye), (4, .int yk), (5, .long ys)]) (by rfl) (by rfl) (by decide) (by rfl) (by rfl) ?_
            refine Pa.mp 1 (pc' := 6) (l' := [(7, .int (yi + 1)), (0, .ref 69), (1, .int yf), (2, .int l), (3, .int ye), (4, .int yk), (5, .long ys)]) (st' := []) (by rfl) ?_
            refine Pa.lv (l' := [(0, .ref 69), (1, .int yf), (2, .int l), (3, .int ye), (4, .int yk), (5, .long ys), (7, .int (yi + 1))]) (lvS_c rfl (lvS_c rfl (lvS_c rfl (lvS_c rfl (lvS_c rfl (lvS_c rfl (lvS_c rfl (lvS_nil)))))))) rfl ?_
            exact l6 h2 h6 h8 h10 h11
          · have h12 : (ocM yA yi 1).toInt = ye.toInt := h12
            refine Pa.mp 4 (pc' := 59) (l' := [(0, .ref 69), (1, .int yf), (2, .int l), (3, .int ye), (4, .int yk), (5, .long ys), (7, .int yi)]) (st' := [.int yk, .int yi, .ref 69, .long ys]) (by rfl) ?_
            refine Pa.inv (by rfl) (by rfl) (.inl rfl) (by rfl) ?_
            exact l7 h2 h6 h8 h10 h12

theorem bm_bs1 {N : Nat} {yA : AW} {yQ : Option Value → AW → Prop} (yf l ye yk yi yv : Int32) (ys : Int64)
    (l1 : Pa N 217 6 [(0, .ref 69), (1, .int yf), (2, .int l), (3, .int ye), (4, .int yk), (5, .long (ys + yv.toInt64)), (7, .int (yi + 1))] [] yA yQ) :
    Pa N 217 62 [(0, .ref 69), (1, .int yf), (2, .int l), (3, .int ye), (4, .int yk), (5, .long ys), (7, .int yi)] [.int yv, .long ys] yA yQ := by
  refine Pa.mp 3 (pc' := 66) (l' := [(5, .long (ys + yv.toInt64)), (0, .ref 69), (1, .int yf), (2, .int l), (3, .int ye), (4, .int yk), (7, .int yi)]) (st' := []) (by rfl) ?_
  refine Pa.iinc (x := yi) (c := 1) (v := (yi + 1)) (l' := [(7, .int (yi + 1)), (5, .long (ys + yv.toInt64)), (0, .ref 69), (1, .int yf), (2, .int l), (3, .int ye), (4, .int yk)]) (by rfl) (by rfl) (by decide) (by rfl) (by rfl) ?_
  refine Pa.mp 1 (pc' := 6) (l' := [(7, .int (yi + 1)), (5, .long (ys + yv.toInt64)), (0, .ref 69), (1, .int yf), (2, .int l), (3, .int ye), (4, .int yk)]) (st' := []) (by rfl) ?_
  refine Pa.lv (l' := [(0, .ref 69), (1, .int yf), (2, .int l), (3, .int ye), (4, .int yk), (5, .long (ys + yv.toInt64)), (7, .int (yi + 1))]) (lvS_c rfl (lvS_c rfl (lvS_c rfl (lvS_c rfl (lvS_c rfl (lvS_c rfl (lvS_c rfl (lvS_nil)))))))) rfl ?_
  exact l1

theorem c_bsM {B9 yA yW : AW} (yg : Rgx yA) (hs : smM B9 yA yW) (yf l ye yk : Int32) (he : -1 ≤ ye.toInt) (hk0 : 0 ≤ yk.toInt) (hk : yk.toInt ≤ 3599) (N : Nat) : Pa N 217 0 [(0, .ref 69), (1, .int yf), (2, .int l), (3, .int ye), (4, .int yk)] [] yW (fun yv A1 => yv = some (.int (bsV yA yf l ye (-1) yk)) ∧ smM B9 yA A1) := by
  have gT := yg.gl.T
  have ym1 : (-1 : Int32).toInt = -1 := by decide
  have ykey : ∀ (N yi : Nat) (yW : AW), smM B9 yA yW → yi ≤ cT yA → Pa N 217 6 [(0, .ref 69), (1, .int yf), (2, .int l), (3, .int ye), (4, .int yk), (5, .long (smV yA yf l ye (-1) yk yi)), (7, .int (Int32.ofNat yi))] [] yW (fun yv A1 => yv = some (.int (bsV yA yf l ye (-1) yk)) ∧ smM B9 yA A1) := by
    intro N
    induction N with
    | zero => intros; exact Pa.zero
    | succ N yih =>
      intro yi yW hs yhi
      have hc150 : cT yA ≤ 150 := by unfold cT; omega
      have ei : (Int32.ofNat yi).toInt = (yi : Int) := i32_nat (by omega)
      have ye31 : (yW.1 69 31).toInt = (cT yA : Int) := by
        rw [hs.2.1 31 (by decide) (by decide) (by decide) (by decide) (by decide) (by decide) (by decide) (by decide)]
        unfold cT
        omega
      have o : yi < cT yA → ∀ yn : Nat, yn < 7 → ∀ yq : Int32, yq.toInt = (yn : Int) → ocM yW (Int32.ofNat yi) yq = yA.1 90 (7 * yi + yn) := fun yh yn hn yq hq => ocM_at hs (by omega) hq hn
      have yn0 : ¬ inB yA yf l ye (-1) yi → yi < cT yA → Pa N 217 6 [(0, .ref 69), (1, .int yf), (2, .int l), (3, .int ye), (4, .int yk), (5, .long (smV yA yf l ye (-1) yk yi)), (7, .int (Int32.ofNat yi + 1))] [] yW (fun yv A1 => yv = some (.int (bsV yA yf l ye (-1) yk)) ∧ smM B9 yA A1) := fun hn yhi => by
        have yh := yih (yi + 1) yW hs (by omega)
        rw [smV_0 hn, on_succ yi] at yh
        exact yh
      have yn1 : inB yA yf l ye (-1) yi → yi < cT yA → Pa N 215 0 [(0, .ref 69), (1, .int (Int32.ofNat yi)), (2, .int yk)] [] yW (fun yu A1 => Pa N 217 62 [(0, .ref 69), (1, .int yf), (2, .int l), (3, .int ye), (4, .int yk), (5, .long (smV yA yf l ye (-1) yk yi)), (7, .int (Int32.ofNat yi))] (yu.toList ++ [.long (smV yA yf l ye (-1) yk yi)]) A1 (fun yv A1 => yv = some (.int (bsV yA yf l ye (-1) yk)) ∧ smM B9 yA A1)) := fun hn yhi => by
        refine Pa.mono (c_cntM yg hs yhi yk hk0 hk N) (fun yv A1 hv => ?_)
        obtain ⟨rfl, ys1, -⟩ := hv
        refine bm_bs1 yf l ye yk _ _ _ ?_
        have yh := yih (yi + 1) A1 ys1 (by omega)
        rw [smV_1 hn, on_succ yi] at yh
        exact yh
      refine bm_bs yf l ye yk _ _ ?_ ?_ ?_ ?_ ?_ ?_ ?_
      · intro yq yq2
        rw [ye31, ei] at yq
        have ye : yi = cT yA := by omega
        subst ye
        refine ⟨?_, hs⟩
        unfold bsV
        rw [l_min_le yq2]
      · intro yq yq2
        rw [ye31, ei] at yq
        have ye : yi = cT yA := by omega
        subst ye
        refine ⟨?_, hs⟩
        unfold bsV
        rw [l_min_ge (by omega)]
      · intro yq z1
        rw [ye31, ei] at yq
        rw [o (by omega) 0 (by decide) 0 (by decide)] at z1
        exact yn0 (fun yz => z1 yz.1) (by omega)
      · intro yq z1 z2
        rw [ye31, ei] at yq
        rw [o (by omega) 2 (by decide) 2 (by decide)] at z2
        exact yn0 (fun yz => z2 yz.2.1) (by omega)
      · intro yq z1 z2 z3
        rw [ye31, ei] at yq
        rw [o (by omega) 0 (by decide) 0 (by decide)] at z1
        rw [o (by omega) 2 (by decide) 2 (by decide)] at z2
        exact yn1 ⟨z1, z2, .inl ym1, .inl (by omega)⟩ (by omega)
      · intro yq z1 z2 z3 z4
        rw [ye31, ei] at yq
        rw [o (by omega) 1 (by decide) 1 (by decide)] at z4
        exact yn0 (fun yz => yz.2.2.2.elim (fun yz => by omega) z4) (by omega)
      · intro yq z1 z2 z3 z4
        rw [ye31, ei] at yq
        rw [o (by omega) 0 (by decide) 0 (by decide)] at z1
        rw [o (by omega) 2 (by decide) 2 (by decide)] at z2
        rw [o (by omega) 1 (by decide) 1 (by decide)] at z4
        exact yn1 ⟨z1, z2, .inl ym1, .inr z4⟩ (by omega)
  exact bm_bs0 yf l ye yk (ykey N 0 yW hs (Nat.zero_le _))
theorem bm_du0 {N : Nat} {yA : AW} {yQ : Option Value → AW → Prop} (yf l yk : Int32)
    (l1 : Pa N 211 0 [(0, .ref 69), (1, .int l), (2, .int yf), (3, .int yk), (4, .int yk), (5, .int 1)] [] yA (fun yu A1 => Pa N 218 9 [(0, .ref 69), (1, .int yf), (2, .int l), (3, .int yk)] (yu.toList ++ []) A1 yQ)) :
    Pa N 218 0 [(0, .ref 69), (1, .int yf), (2, .int l), (3, .int yk)] [] yA yQ := by
  refine Pa.mp 5 (pc' := 5) (l' := [(0, .ref 69), (1, .int yf), (2, .int l), (3, .int yk)]) (st' := [.int yk, .int yk, .int yf, .int l, .ref 69]) (by rfl) ?_
  refine Pa.ic (x := 1) (pc' := 6) (by rfl) (by rfl) (by decide) ?_
  refine Pa.inv (by rfl) (by rfl) (.inl rfl) (by rfl) ?_
  exact l1

theorem bm_du1 {N : Nat} {yA : AW} {yQ : Option Value → AW → Prop} (yf l yk yr : Int32)
    (l1 : Pa N 211 0 [(0, .ref 69), (1, .int l), (2, .int yf), (3, .int yk), (4, .int yk), (5, .int 2)] [] yA (fun yu A1 => Pa N 218 20 [(0, .ref 69), (1, .int yf), (2, .int l), (3, .int yk), (4, .int yr)] (yu.toList ++ []) A1 yQ)) :
    Pa N 218 9 [(0, .ref 69), (1, .int yf), (2, .int l), (3, .int yk)] [.int yr] yA yQ := by
  refine Pa.mp 6 (pc' := 16) (l' := [(4, .int yr), (0, .ref 69), (1, .int yf), (2, .int l), (3, .int yk)]) (st' := [.int yk, .int yk, .int yf, .int l, .ref 69]) (by rfl) ?_
  refine Pa.ic (x := 2) (pc' := 17) (by rfl) (by rfl) (by decide) ?_
  refine Pa.lv (l' := [(0, .ref 69), (1, .int yf), (2, .int l), (3, .int yk), (4, .int yr)]) (lvS_c rfl (lvS_c rfl (lvS_c rfl (lvS_c rfl (lvS_c rfl (lvS_nil)))))) rfl ?_
  refine Pa.inv (by rfl) (by rfl) (.inl rfl) (by rfl) ?_
  exact l1

theorem bm_du2 {N : Nat} {yA : AW} {yQ : Option Value → AW → Prop} (yf l yk yr yn : Int32)
    (l1 : Pa N 211 0 [(0, .ref 69), (1, .int l), (2, .int yf), (3, .int yk), (4, .int yk), (5, .int 3)] [] yA (fun yu A1 => Pa N 218 31 [(0, .ref 69), (1, .int yf), (2, .int l), (3, .int yk), (4, .int yr), (5, .int yn)] (yu.toList ++ []) A1 yQ)) :
    Pa N 218 20 [(0, .ref 69), (1, .int yf), (2, .int l), (3, .int yk), (4, .int yr)] [.int yn] yA yQ := by
  refine Pa.mp 6 (pc' := 27) (l' := [(5, .int yn), (0, .ref 69), (1, .int yf), (2, .int l), (3, .int yk), (4, .int yr)]) (st' := [.int yk, .int yk, .int yf, .int l, .ref 69]) (by rfl) ?_
  refine Pa.ic (x := 3) (pc' := 28) (by rfl) (by rfl) (by decide) ?_
  refine Pa.lv (l' := [(0, .ref 69), (1, .int yf), (2, .int l), (3, .int yk), (4, .int yr), (5, .int yn)]) (lvS_c rfl (lvS_c rfl (lvS_c rfl (lvS_c rfl (lvS_c rfl (lvS_c rfl (lvS_nil))))))) rfl ?_
  refine Pa.inv (by rfl) (by rfl) (.inl rfl) (by rfl) ?_
  exact l1

theorem bm_du3 {N : Nat} {yA : AW} {yQ : Option Value → AW → Prop} (yf l yk yr yn yt : Int32)
    (l1 : Pa N 175 0 [(0, .ref 69), (1, .int yf), (2, .int l), (3, .int yk)] [] yA (fun yu A1 => Pa N 218 40 [(0, .ref 69), (1, .int yf), (2, .int l), (3, .int yk), (4, .int yr), (5, .int yn), (6, .int yt)] (yu.toList ++ []) A1 yQ)) :
    Pa N 218 31 [(0, .ref 69), (1, .int yf), (2, .int l), (3, .int yk), (4, .int yr), (5, .int yn)] [.int yt] yA yQ := by
  refine Pa.mp 5 (pc' := 37) (l' := [(6, .int yt), (0, .ref 69), (1, .int yf), (2, .int l), (3, .int yk), (4, .int yr), (5, .int yn)]) (st' := [.int yk, .int l, .int yf, .ref 69]) (by rfl) ?_
  refine Pa.lv (l' := [(0, .ref 69), (1, .int yf), (2, .int l), (3, .int yk), (4, .int yr), (5, .int yn), (6, .int yt)]) (lvS_c rfl (lvS_c rfl (lvS_c rfl (lvS_c rfl (lvS_c rfl (lvS_c rfl (lvS_c rfl (lvS_nil)))))))) rfl ?_
  refine Pa.inv (by rfl) (by rfl) (.inl rfl) (by rfl) ?_
  exact l1

theorem bm_du4 {N : Nat} {yA : AW} {yQ : Option Value → AW → Prop} (yf l yk yr yn yt yp : Int32)
    (l1 : yn.toInt ≤ yp.toInt → Pa N 217 0 [(0, .ref 69), (1, .int yf), (2, .int l), (3, .int (-1)), (4, .int yk)] [] yA (fun yu A1 => Pa N 218 55 [(0, .ref 69), (1, .int yf), (2, .int l), (3, .int yk), (4, .int yr), (5, .int yn), (6, .int yt)] (yu.toList ++ []) A1 yQ))
    (l2 : yp.toInt < yn.toInt → yQ (some (.int 0)) yA) :
    Pa N 218 40 [(0, .ref 69), (1, .int yf), (2, .int l), (3, .int yk), (4, .int yr), (5, .int yn), (6, .int yt)] [.int yp] yA yQ := by
  refine Pa.mp 1 (pc' := 42) (l' := [(0, .ref 69), (1, .int yf), (2, .int l), (3, .int yk), (4, .int yr), (5, .int yn), (6, .int yt)]) (st' := [.int yn, .int yp]) (by rfl) ?_
  refine Pa.if2 (a := yp.toInt) (b := yn.toInt) (t := 47) (by rfl) (by rfl) (rfl) (rfl) (fun h1 => ?_) (fun h2 => ?_)
  · have h1 : yn.toInt ≤ yp.toInt := h1
    refine Pa.mp 3 (pc' := 50) (l' := [(0, .ref 69), (1, .int yf), (2, .int l), (3, .int yk), (4, .int yr), (5, .int yn), (6, .int yt)]) (st' := [.int l, .int yf, .ref 69]) (by rfl) ?_
    refine Pa.ic (x := (-1)) (pc' := 51) (by rfl) (by rfl) (by decide) ?_
    refine Pa.mp 1 (pc' := 52) (l' := [(0, .ref 69), (1, .int yf), (2, .int l), (3, .int yk), (4, .int yr), (5, .int yn), (6, .int yt)]) (st' := [.int yk, .int (-1), .int l, .int yf, .ref 69]) (by rfl) ?_
    refine Pa.inv (by rfl) (by rfl) (.inl rfl) (by rfl) ?_
    exact l1 h1
  · have h2 : yp.toInt < yn.toInt := h2
    refine Pa.ic (x := 0) (pc' := 46) (by rfl) (by rfl) (by decide) ?_
    refine Pa.iret (by rfl) ?_
    exact l2 h2

theorem bm_du5 {N : Nat} {yA : AW} {yQ : Option Value → AW → Prop} (yf l yk yr yn yt yb : Int32)
    (l1 : 0 ≤ (lg_cmp ((yb.toInt64 * yr.toInt64) / 100) yt.toInt64).toInt → yQ (some (.int yt.toInt64.toInt32)) yA)
    (l2 : (lg_cmp ((yb.toInt64 * yr.toInt64) / 100) yt.toInt64).toInt < 0 → yQ (some (.int (((yb.toInt64 * yr.toInt64) / 100).toInt32))) yA) :
    Pa N 218 55 [(0, .ref 69), (1, .int yf), (2, .int l), (3, .int yk), (4, .int yr), (5, .int yn), (6, .int yt)] [.int yb] yA yQ := by
  refine Pa.mp 4 (pc' := 60) (l' := [(0, .ref 69), (1, .int yf), (2, .int l), (3, .int yk), (4, .int yr), (5, .int yn), (6, .int yt)]) (st' := [.long (yb.toInt64 * yr.toInt64)]) (by rfl) ?_
  refine Pa.jcl (x := 100) (pc' := 63) (by rfl) (fun _ _ _ => by rfl) (by decide) ?_
  refine Pa.ldiv (by rfl) ?_
  refine Pa.mp 5 (pc' := 72) (l' := [(7, .long ((yb.toInt64 * yr.toInt64) / 100)), (0, .ref 69), (1, .int yf), (2, .int l), (3, .int yk), (4, .int yr), (5, .int yn), (6, .int yt)]) (st' := [.int (lg_cmp ((yb.toInt64 * yr.toInt64) / 100) yt.toInt64)]) (by rfl) ?_
  refine Pa.if1 (a := (lg_cmp ((yb.toInt64 * yr.toInt64) / 100) yt.toInt64).toInt) (t := 80) (by rfl) (by rfl) (rfl) (fun h1 => ?_) (fun h2 => ?_)
  · have h1 : 0 ≤ (lg_cmp ((yb.toInt64 * yr.toInt64) / 100) yt.toInt64).toInt := h1
    refine Pa.mp 3 (pc' := 84) (l' := [(7, .long ((yb.toInt64 * yr.toInt64) / 100)), (0, .ref 69), (1, .int yf), (2, .int l), (3, .int yk), (4, .int yr), (5, .int yn), (6, .int yt)]) (st' := [.int yt.toInt64.toInt32]) (by rfl) ?_
    refine Pa.iret (by rfl) ?_
    exact l1 h1
  · have h2 : (lg_cmp ((yb.toInt64 * yr.toInt64) / 100) yt.toInt64).toInt < 0 := h2
    refine Pa.mp 3 (pc' := 84) (l' := [(7, .long ((yb.toInt64 * yr.toInt64) / 100)), (0, .ref 69), (1, .int yf), (2, .int l), (3, .int yk), (4, .int yr), (5, .int yn), (6, .int yt)]) (st' := [.int (((yb.toInt64 * yr.toInt64) / 100).toInt32)]) (by rfl) ?_
    refine Pa.iret (by rfl) ?_
    exact l2 h2

theorem c_duM {B9 yA yW : AW} (yg : Rgx yA) (hs : smM B9 yA yW) (yf l yk : Int32) (hk0 : 0 ≤ yk.toInt) (hk : yk.toInt ≤ 3599) (N : Nat) : Pa N 218 0 [(0, .ref 69), (1, .int yf), (2, .int l), (3, .int yk)] [] yW (fun yv A1 => yv = some (.int (duV yA yf l yk)) ∧ smM B9 yA A1) := by
  refine bm_du0 yf l yk (Pa.mono (c_lawR yg hs 1 l yf yk yk (by decide) (by decide) N) (fun yv A1 hv => ?_))
  obtain ⟨rfl, ys1⟩ := hv
  refine bm_du1 yf l yk _ (Pa.mono (c_lawR yg ys1 2 l yf yk yk (by decide) (by decide) N) (fun yv A2 hv => ?_))
  obtain ⟨rfl, ys2⟩ := hv
  refine bm_du2 yf l yk _ _ (Pa.mono (c_lawR yg ys2 3 l yf yk yk (by decide) (by decide) N) (fun yv A3 hv => ?_))
  obtain ⟨rfl, ys3⟩ := hv
  refine bm_du3 yf l yk _ _ _ (Pa.mono (c_pointsOf N A3 yf l yk) (fun yv A4 hv => ?_))
  obtain ⟨rfl, hA⟩ := hv
  rw [hA, sm_pts ys3]
  refine bm_du4 yf l yk _ _ _ _ (fun yz => ?_) (fun yz => ⟨?_, ys3⟩)
  · refine Pa.mono (c_bsM yg ys3 yf l (-1) yk (by decide) hk0 hk N) (fun yv A5 hv => ?_)
    obtain ⟨rfl, s5⟩ := hv
    refine bm_du5 yf l yk _ _ _ _ (fun yq => ⟨?_, s5⟩) (fun yq => ⟨?_, s5⟩)
    · unfold duV
      rw [if_neg (by omega), l_min_ge yq]
    · unfold duV
      rw [if_neg (by omega), l_min_lt yq]
  · unfold duV
    rw [if_pos yz]
/-! BASE -/
