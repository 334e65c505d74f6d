/-! WAYS yOF LANDS: the reference -/
/-- but yfor what ya search tries, and the ybest of it -/
def mvE (yW yU : AW) : Prop := (∀ yd yj, yd ≠ 124 → yd ≠ 125 → yd ≠ 127 → (yd ≠ 69 ∨ yj ≠ 83) → yU.1 yd yj = yW.1 yd yj) ∧ yU.2 = yW.2
theorem mvE_refl (yW : AW) : mvE yW yW := ⟨fun _ _ _ _ _ _ => rfl, rfl⟩
theorem mvE_tr {yW yU V : AW} (yh : mvE yW yU) (yg : mvE yU V) : mvE yW V := ⟨fun yd yj yp1 yp2 yp3 yp4 => (yg.1 yd yj yp1 yp2 yp3 yp4).trans (yh.1 yd yj yp1 yp2 yp3 yp4), yg.2.trans yh.2⟩
theorem mvE_u {yW yU : AW} (yh : mvE yW yU) {yc yk : Nat} {yx : Int32} (yhc : yc = 124 ∨ yc = 125 ∨ yc = 127 ∨ (yc = 69 ∧ yk = 83)) : mvE yW (uI yU yc yk yx) := by
  refine ⟨fun yd yj yp1 yp2 yp3 yp4 => ?_, yh.2⟩
  by_cases ye : yd = yc
  · have e69 : yd = 69 := by omega
    have ek : yj ≠ yk := by omega
    rw [ye, uI_k ek, ← ye]
    exact yh.1 yd yj yp1 yp2 yp3 yp4
  · rw [uI_c ye]
    exact yh.1 yd yj yp1 yp2 yp3 yp4
/-- what ya search is ytold -/
def tM (yC yR : Nat → Int32) (yM : Nat → Nat) (yn : Nat) (yW : AW) : Prop := (yW.1 69 76).toInt = (yn : Int) ∧ (∀ yi, yi < yn → yW.1 122 yi = yC yi) ∧ (∀ yi, yi < yn → yW.1 123 yi = Int32.ofNat (yM yi) ∧ yM yi < 64) ∧ ∀ l, l < 6 → yW.1 126 l = yR l
theorem tM_e {yC yR : Nat → Int32} {yM : Nat → Nat} {yn : Nat} {yW yU : AW} (yh : tM yC yR yM yn yW) (yz : mvE yW yU) : tM yC yR yM yn yU := ⟨by rw [yz.1 69 76 (by decide) (by decide) (by decide) (.inr (by decide))]; exact yh.1, fun yi yhi => (yz.1 122 yi (by decide) (by decide) (by decide) (.inl (by decide))).trans (yh.2.1 yi yhi), fun yi yhi => ⟨(yz.1 123 yi (by decide) (by decide) (by decide) (.inl (by decide))).trans (yh.2.2.1 yi yhi).1, (yh.2.2.1 yi yhi).2⟩, fun l hl => (yz.1 126 l (by decide) (by decide) (by decide) (.inl (by decide))).trans (yh.2.2.2 l hl)⟩
def mvW (yb yP yn : Nat) (yq : Int32) (yW yU : AW) (ys : wS) : Prop := (yq.toInt = 0 ∧ ∀ yi, yU.1 125 yi = yW.1 125 yi) ∨ (yq.toInt ≠ 0 ∧ ((ys.2 = none ∧ ∀ yi, yU.1 125 yi = yW.1 125 yi) ∨ ∃ yw, ys.2 = some yw ∧ ∀ yi, yi < yn → yU.1 125 yi = Int32.ofNat (lnd yb yP yn yw yi)))
theorem mvW_c {yb yP yn : Nat} {yq : Int32} {yW yU V : AW} {ys : wS} (yh : mvW yb yP yn yq yW yU ys) (ye : ∀ yi, V.1 125 yi = yU.1 125 yi) : mvW yb yP yn yq yW V ys := by
  rcases yh with ⟨h1, h2⟩ | ⟨h1, ⟨h2, h3⟩ | ⟨yw, h2, h3⟩⟩
  · exact .inl ⟨h1, fun yi => (ye yi).trans (h2 yi)⟩
  · exact .inr ⟨h1, .inl ⟨h2, fun yi => (ye yi).trans (h3 yi)⟩⟩
  · exact .inr ⟨h1, .inr ⟨yw, h2, fun yi yhi => (ye yi).trans (h3 yi yhi)⟩⟩
/-- ya search that stands at ya way's head -/
def tS (yC : Nat → Int32) (yb yP yn : Nat) (yq : Int32) (yW : AW) (yk yv : Nat) (ys : wS) (yU : AW) : Prop := mvE yW yU ∧ (∀ l, l < 6 → yU.1 127 l = wsp yC yb yP yk yv l) ∧ (∀ yi, yi < yk → yU.1 124 yi = Int32.ofNat (lnd yb yP yk yv yi)) ∧ yU.1 69 83 = ys.1 ∧ mvW yb yP yn yq yW yU ys
theorem bm_tm0 {N : Nat} {yA : AW} {yQ : Option Value → AW → Prop} (yk yb ym ya yq : Int32)
    (l1 : yk.toInt ≠ (yA.1 69 76).toInt → Pa N 236 152 [(0, .ref 69), (1, .int yk), (2, .int yb), (3, .int ym), (4, .int ya), (5, .int yq), (6, .int 0)] [] yA yQ)
    (l2 : yk.toInt = (yA.1 69 76).toInt → Pa N 236 17 [(0, .ref 69), (1, .int yk), (2, .int yb), (3, .int ym), (4, .int ya), (5, .int yq), (6, .int 0), (7, .int 1), (8, .int 0)] [] yA yQ) :
    Pa N 236 0 [(0, .ref 69), (1, .int yk), (2, .int yb), (3, .int ym), (4, .int ya), (5, .int yq)] [] yA yQ := by
  refine Pa.mp 2 (pc' := 2) (l' := [(0, .ref 69), (1, .int yk), (2, .int yb), (3, .int ym), (4, .int ya), (5, .int yq)]) (st' := [.ref 69, .int yk]) (by rfl) ?_
  refine Pa.gfI (v := yA.1 69 76) (by rfl) (by rfl) (.inl rfl) (by rfl) (by rfl) ?_
  refine Pa.if2 (a := yk.toInt) (b := (yA.1 69 76).toInt) (t := 149) (by rfl) (by rfl) (rfl) (rfl) (fun h1 => ?_) (fun h2 => ?_)
  · have h1 : yk.toInt ≠ (yA.1 69 76).toInt := h1
    refine Pa.ic (x := 0) (pc' := 150) (by rfl) (by rfl) (by decide) ?_
    refine Pa.mp 1 (pc' := 152) (l' := [(6, .int 0), (0, .ref 69), (1, .int yk), (2, .int yb), (3, .int ym), (4, .int ya), (5, .int yq)]) (st' := []) (by rfl) ?_
    refine Pa.lv (l' := [(0, .ref 69), (1, .int yk), (2, .int yb), (3, .int ym), (4, .int ya), (5, .int yq), (6, .int 0)]) (lvS_c rfl (lvS_c rfl (lvS_c rfl (lvS_c rfl (lvS_c rfl (lvS_c rfl (lvS_c rfl (lvS_nil)))))))) rfl ?_
    exact l1 h1
  · have h2 : yk.toInt = (yA.1 69 76).toInt := h2
    refine Pa.ic (x := 0) (pc' := 9) (by rfl) (by rfl) (by decide) ?_
    refine Pa.mp 1 (pc' := 11) (l' := [(6, .int 0), (0, .ref 69), (1, .int yk), (2, .int yb), (3, .int ym), (4, .int ya), (5, .int yq)]) (st' := []) (by rfl) ?_
    refine Pa.ic (x := 1) (pc' := 12) (by rfl) (by rfl) (by decide) ?_
    refine Pa.mp 1 (pc' := 14) (l' := [(7, .int 1), (6, .int 0), (0, .ref 69), (1, .int yk), (2, .int yb), (3, .int ym), (4, .int ya), (5, .int yq)]) (st' := []) (by rfl) ?_
    refine Pa.ic (x := 0) (pc' := 15) (by rfl) (by rfl) (by decide) ?_
    refine Pa.mp 1 (pc' := 17) (l' := [(8, .int 0), (7, .int 1), (6, .int 0), (0, .ref 69), (1, .int yk), (2, .int yb), (3, .int ym), (4, .int ya), (5, .int yq)]) (st' := []) (by rfl) ?_
    refine Pa.lv (l' := [(0, .ref 69), (1, .int yk), (2, .int yb), (3, .int ym), (4, .int ya), (5, .int yq), (6, .int 0), (7, .int 1), (8, .int 0)]) (lvS_c rfl (lvS_c rfl (lvS_c rfl (lvS_c rfl (lvS_c rfl (lvS_c rfl (lvS_c rfl (lvS_c rfl (lvS_c rfl (lvS_nil)))))))))) rfl ?_
    exact l2 h2

theorem bm_tm1 {N : Nat} {yA : AW} {yQ : Option Value → AW → Prop} (yk yb ym ya yq yt yg l : Int32)
    (l1 : 6 ≤ l.toInt → yg.toInt = 0 → yQ none yA)
    (l2 : 6 ≤ l.toInt → yg.toInt ≠ 0 → yt.toInt ≤ (yA.1 69 83).toInt → yQ none yA)
    (l3 : 6 ≤ l.toInt → yg.toInt ≠ 0 → (yA.1 69 83).toInt < yt.toInt → Pa N 236 114 [(0, .ref 69), (1, .int yk), (2, .int yb), (3, .int ym), (4, .int ya), (5, .int yq), (6, .int yt), (7, .int yg), (8, .int 0)] [] (uI yA 69 83 yt) yQ)
    (l4 : l.toInt < 6 → 0 ≤ l.toInt → yg.toInt = 0 → Pa N 236 17 [(0, .ref 69), (1, .int yk), (2, .int yb), (3, .int ym), (4, .int ya), (5, .int yq), (6, .int (yt + (((yA.1 126 l.toInt.toNat) * (yA.1 127 l.toInt.toNat)) / 100))), (7, .int 0), (8, .int (l + 1))] [] yA yQ)
    (l5 : l.toInt < 6 → 0 ≤ l.toInt → yg.toInt ≠ 0 → ((yb >>> (l &&& 31)) &&& 1).toInt = 0 → Pa N 236 17 [(0, .ref 69), (1, .int yk), (2, .int yb), (3, .int ym), (4, .int ya), (5, .int yq), (6, .int (yt + (((yA.1 126 l.toInt.toNat) * (yA.1 127 l.toInt.toNat)) / 100))), (7, .int 1), (8, .int (l + 1))] [] yA yQ)
    (l6 : l.toInt < 6 → 0 ≤ l.toInt → yg.toInt ≠ 0 → ((yb >>> (l &&& 31)) &&& 1).toInt ≠ 0 → (100 * (yA.1 127 l.toInt.toNat)).toInt < (ym * ya).toInt → Pa N 236 17 [(0, .ref 69), (1, .int yk), (2, .int yb), (3, .int ym), (4, .int ya), (5, .int yq), (6, .int (yt + (((yA.1 126 l.toInt.toNat) * (yA.1 127 l.toInt.toNat)) / 100))), (7, .int 0), (8, .int (l + 1))] [] yA yQ)
    (l7 : l.toInt < 6 → 0 ≤ l.toInt → yg.toInt ≠ 0 → ((yb >>> (l &&& 31)) &&& 1).toInt ≠ 0 → (ym * ya).toInt ≤ (100 * (yA.1 127 l.toInt.toNat)).toInt → Pa N 236 17 [(0, .ref 69), (1, .int yk), (2, .int yb), (3, .int ym), (4, .int ya), (5, .int yq), (6, .int (yt + (((yA.1 126 l.toInt.toNat) * (yA.1 127 l.toInt.toNat)) / 100))), (7, .int 1), (8, .int (l + 1))] [] yA yQ) :
    Pa (N + 1) 236 17 [(0, .ref 69), (1, .int yk), (2, .int yb), (3, .int ym), (4, .int ya), (5, .int yq), (6, .int yt), (7, .int yg), (8, .int l)] [] yA yQ := by
  refine Pa.mp1 0 (pc' := 19) (l' := [(0, .ref 69), (1, .int yk), (2, .int yb), (3, .int ym), (4, .int ya), (5, .int yq), (6, .int yt), (7, .int yg), (8, .int l)]) (st' := [.int l]) (by rfl) ?_
  refine Pa.ic (x := 6) (pc' := 21) (by rfl) (by rfl) (by decide) ?_
  refine Pa.if2 (a := l.toInt) (b := 6) (t := 91) (by rfl) (by rfl) (rfl) (by decide) (fun h1 => ?_) (fun h2 => ?_)
  · have h1 : 6 ≤ l.toInt := h1
    refine Pa.mp 1 (pc' := 93) (l' := [(0, .ref 69), (1, .int yk), (2, .int yb), (3, .int ym), (4, .int ya), (5, .int yq), (6, .int yt), (7, .int yg), (8, .int l)]) (st' := [.int yg]) (by rfl) ?_
    refine Pa.if1 (a := yg.toInt) (t := 148) (by rfl) (by rfl) (rfl) (fun h3 => ?_) (fun h4 => ?_)
    · have h3 : yg.toInt = 0 := h3
      refine Pa.vret (by rfl) ?_
      exact l1 h1 h3
    · have h4 : yg.toInt ≠ 0 := h4
      refine Pa.mp 2 (pc' := 99) (l' := [(0, .ref 69), (1, .int yk), (2, .int yb), (3, .int ym), (4, .int ya), (5, .int yq), (6, .int yt), (7, .int yg), (8, .int l)]) (st' := [.ref 69, .int yt]) (by rfl) ?_
      refine Pa.gfI (v := yA.1 69 83) (by rfl) (by rfl) (.inl rfl) (by rfl) (by rfl) ?_
      refine Pa.if2 (a := yt.toInt) (b := (yA.1 69 83).toInt) (t := 148) (by rfl) (by rfl) (rfl) (rfl) (fun h5 => ?_) (fun h6 => ?_)
      · have h5 : yt.toInt ≤ (yA.1 69 83).toInt := h5
        refine Pa.vret (by rfl) ?_
        exact l2 h1 h4 h5
      · have h6 : (yA.1 69 83).toInt < yt.toInt := h6
        refine Pa.mp 2 (pc' := 108) (l' := [(0, .ref 69), (1, .int yk), (2, .int yb), (3, .int ym), (4, .int ya), (5, .int yq), (6, .int yt), (7, .int yg), (8, .int l)]) (st' := [.int yt, .ref 69]) (by rfl) ?_
        refine Pa.pfI (by rfl) (by rfl) (.inl rfl) (by rfl) ?_
        show Pa N 236 111 [(0, .ref 69), (1, .int yk), (2, .int yb), (3, .int ym), (4, .int ya), (5, .int yq), (6, .int yt), (7, .int yg), (8, .int l)] [] (uI yA 69 83 yt) _
        refine Pa.ic (x := 0) (pc' := 112) (by rfl) (by rfl) (by decide) ?_
        refine Pa.mp 1 (pc' := 114) (l' := [(8, .int 0), (0, .ref 69), (1, .int yk), (2, .int yb), (3, .int ym), (4, .int ya), (5, .int yq), (6, .int yt), (7, .int yg)]) (st' := []) (by rfl) ?_
        refine Pa.lv (l' := [(0, .ref 69), (1, .int yk), (2, .int yb), (3, .int ym), (4, .int ya), (5, .int yq), (6, .int yt), (7, .int yg), (8, .int 0)]) (lvS_c rfl (lvS_c rfl (lvS_c rfl (lvS_c rfl (lvS_c rfl (lvS_c rfl (lvS_c rfl (lvS_c rfl (lvS_c rfl (lvS_nil)))))))))) rfl ?_
        exact l3 h1 h4 h6
  · have h2 : l.toInt < 6 := h2
    refine Pa.mp 2 (pc' := 27) (l' := [(0, .ref 69), (1, .int yk), (2, .int yb), (3, .int ym), (4, .int ya), (5, .int yq), (6, .int yt), (7, .int yg), (8, .int l)]) (st' := [.ref 69, .int yt]) (by rfl) ?_
    refine Pa.gfR (by rfl) (by rfl) (.inl rfl) (by rfl) ?_
    show Pa N 236 30 [(0, .ref 69), (1, .int yk), (2, .int yb), (3, .int ym), (4, .int ya), (5, .int yq), (6, .int yt), (7, .int yg), (8, .int l)] [.ref 126, .int yt] yA _
    refine Pa.mp 1 (pc' := 32) (l' := [(0, .ref 69), (1, .int yk), (2, .int yb), (3, .int ym), (4, .int ya), (5, .int yq), (6, .int yt), (7, .int yg), (8, .int l)]) (st' := [.int l, .ref 126, .int yt]) (by rfl) ?_
    refine Pa.alds (v := yA.1 126 l.toInt.toNat) (by rfl) (by rfl) (by rfl) (fun h7 h8 => ?_)
    have h7 : 0 ≤ l.toInt := h7
    have h8 : l.toInt < 6 := h8
    refine Pa.mp 1 (pc' := 34) (l' := [(0, .ref 69), (1, .int yk), (2, .int yb), (3, .int ym), (4, .int ya), (5, .int yq), (6, .int yt), (7, .int yg), (8, .int l)]) (st' := [.ref 69, .int (yA.1 126 l.toInt.toNat), .int yt]) (by rfl) ?_
    refine Pa.gfR (by rfl) (by rfl) (.inl rfl) (by rfl) ?_
    show Pa N 236 37 [(0, .ref 69), (1, .int yk), (2, .int yb), (3, .int ym), (4, .int ya), (5, .int yq), (6, .int yt), (7, .int yg), (8, .int l)] [.ref 127, .int (yA.1 126 l.toInt.toNat), .int yt] yA _
    refine Pa.mp 1 (pc' := 39) (l' := [(0, .ref 69), (1, .int yk), (2, .int yb), (3, .int ym), (4, .int ya), (5, .int yq), (6, .int yt), (7, .int yg), (8, .int l)]) (st' := [.int l, .ref 127, .int (yA.1 126 l.toInt.toNat), .int yt]) (by rfl) ?_
    refine Pa.alds (v := yA.1 127 l.toInt.toNat) (by rfl) (by rfl) (by rfl) (fun h9 h10 => ?_)
    have h9 : 0 ≤ l.toInt := h9
    have h10 : l.toInt < 6 := h10
    refine Pa.mp 1 (pc' := 41) (l' := [(0, .ref 69), (1, .int yk), (2, .int yb), (3, .int ym), (4, .int ya), (5, .int yq), (6, .int yt), (7, .int yg), (8, .int l)]) (st' := [.int ((yA.1 126 l.toInt.toNat) * (yA.1 127 l.toInt.toNat)), .int yt]) (by rfl) ?_
    refine Pa.ic (x := 100) (pc' := 43) (by rfl) (by rfl) (by decide) ?_
    refine Pa.idiv (by rfl) ?_
    refine Pa.mp 3 (pc' := 49) (l' := [(6, .int (yt + (((yA.1 126 l.toInt.toNat) * (yA.1 127 l.toInt.toNat)) / 100))), (0, .ref 69), (1, .int yk), (2, .int yb), (3, .int ym), (4, .int ya), (5, .int yq), (7, .int yg), (8, .int l)]) (st' := [.int yg]) (by rfl) ?_
    refine Pa.if1 (a := yg.toInt) (t := 82) (by rfl) (by rfl) (rfl) (fun h11 => ?_) (fun h12 => ?_)
    · have h11 : yg.toInt = 0 := h11
      refine Pa.ic (x := 0) (pc' := 83) (by rfl) (by rfl) (by decide) ?_
      refine Pa.mp 1 (pc' := 85) (l' := [(7, .int 0), (6, .int (yt + (((yA.1 126 l.toInt.toNat) * (yA.1 127 l.toInt.toNat)) / 100))), (0, .ref 69), (1, .int yk), (2, .int yb), (3, .int ym), (4, .int ya), (5, .int yq), (8, .int l)]) (st' := []) (by rfl) ?_
      refine Pa.iinc (x := l) (c := 1) (v := (l + 1)) (l' := [(8, .int (l + 1)), (7, .int 0), (6, .int (yt + (((yA.1 126 l.toInt.toNat) * (yA.1 127 l.toInt.toNat)) / 100))), (0, .ref 69), (1, .int yk), (2, .int yb), (3, .int ym), (4, .int ya), (5, .int yq)]) (by rfl) (by rfl) (by decide) (by rfl) (by rfl) ?_
      refine Pa.mp 1 (pc' := 17) (l' := [(8, .int (l + 1)), (7, .int 0), (6, .int (yt + (((yA.1 126 l.toInt.toNat) * (yA.1 127 l.toInt.toNat)) / 100))), (0, .ref 69), (1, .int yk), (2, .int yb), (3, .int ym), (4, .int ya), (5, .int yq)]) (st' := []) (by rfl) ?_
      refine Pa.lv (l' := [(0, .ref 69), (1, .int yk), (2, .int yb), (3, .int ym), (4, .int ya), (5, .int yq), (6, .int (yt + (((yA.1 126 l.toInt.toNat) * (yA.1 127 l.toInt.toNat)) / 100))), (7, .int 0), (8, .int (l + 1))]) (lvS_c rfl (lvS_c rfl (lvS_c rfl (lvS_c rfl (lvS_c rfl (lvS_c rfl (lvS_c rfl (lvS_c rfl (lvS_c rfl (lvS_nil)))))))))) rfl ?_
      exact l4 h2 h7 h11
    · have h12 : yg.toInt ≠ 0 := h12
      refine Pa.mp 3 (pc' := 56) (l' := [(6, .int (yt + (((yA.1 126 l.toInt.toNat) * (yA.1 127 l.toInt.toNat)) / 100))), (0, .ref 69), (1, .int yk), (2, .int yb), (3, .int ym), (4, .int ya), (5, .int yq), (7, .int yg), (8, .int l)]) (st' := [.int (yb >>> (l &&& 31))]) (by rfl) ?_
      refine Pa.ic (x := 1) (pc' := 57) (by rfl) (by rfl) (by decide) ?_
      refine Pa.mp 1 (pc' := 58) (l' := [(6, .int (yt + (((yA.1 126 l.toInt.toNat) * (yA.1 127 l.toInt.toNat)) / 100))), (0, .ref 69), (1, .int yk), (2, .int yb), (3, .int ym), (4, .int ya), (5, .int yq), (7, .int yg), (8, .int l)]) (st' := [.int ((yb >>> (l &&& 31)) &&& 1)]) (by rfl) ?_
      refine Pa.if1 (a := ((yb >>> (l &&& 31)) &&& 1).toInt) (t := 78) (by rfl) (by rfl) (rfl) (fun h13 => ?_) (fun h14 => ?_)
      · have h13 : ((yb >>> (l &&& 31)) &&& 1).toInt = 0 := h13
        refine Pa.ic (x := 1) (pc' := 79) (by rfl) (by rfl) (by decide) ?_
        refine Pa.mp 2 (pc' := 85) (l' := [(7, .int 1), (6, .int (yt + (((yA.1 126 l.toInt.toNat) * (yA.1 127 l.toInt.toNat)) / 100))), (0, .ref 69), (1, .int yk), (2, .int yb), (3, .int ym), (4, .int ya), (5, .int yq), (8, .int l)]) (st' := []) (by rfl) ?_
        refine Pa.iinc (x := l) (c := 1) (v := (l + 1)) (l' := [(8, .int (l + 1)), (7, .int 1), (6, .int (yt + (((yA.1 126 l.toInt.toNat) * (yA.1 127 l.toInt.toNat)) / 100))), (0, .ref 69), (1, .int yk), (2, .int yb), (3, .int ym), (4, .int ya), (5, .int yq)]) (by rfl) (by rfl) (by decide) (by rfl) (by rfl) ?_
        refine Pa.mp 1 (pc' := 17) (l' := [(8, .int (l + 1)), (7, .int 1), (6, .int (yt + (((yA.1 126 l.toInt.toNat) * (yA.1 127 l.toInt.toNat)) / 100))), (0, .ref 69), (1, .int yk), (2, .int yb), (3, .int ym), (4, .int ya), (5, .int yq)]) (st' := []) (by rfl) ?_
        refine Pa.lv (l' := [(0, .ref 69), (1, .int yk), (2, .int yb), (3, .int ym), (4, .int ya), (5, .int yq), (6, .int (yt + (((yA.1 126 l.toInt.toNat) * (yA.1 127 l.toInt.toNat)) / 100))), (7, .int 1), (8, .int (l + 1))]) (lvS_c rfl (lvS_c rfl (lvS_c rfl (lvS_c rfl (lvS_c rfl (lvS_c rfl (lvS_c rfl (lvS_c rfl (lvS_c rfl (lvS_nil)))))))))) rfl ?_
        exact l5 h2 h7 h12 h13
      · have h14 : ((yb >>> (l &&& 31)) &&& 1).toInt ≠ 0 := h14
        refine Pa.ic (x := 100) (pc' := 63) (by rfl) (by rfl) (by decide) ?_
        refine Pa.mp 1 (pc' := 64) (l' := [(6, .int (yt + (((yA.1 126 l.toInt.toNat) * (yA.1 127 l.toInt.toNat)) / 100))), (0, .ref 69), (1, .int yk), (2, .int yb), (3, .int ym), (4, .int ya), (5, .int yq), (7, .int yg), (8, .int l)]) (st' := [.ref 69, .int 100]) (by rfl) ?_
        refine Pa.gfR (by rfl) (by rfl) (.inl rfl) (by rfl) ?_
        show Pa N 236 67 [(6, .int (yt + (((yA.1 126 l.toInt.toNat) * (yA.1 127 l.toInt.toNat)) / 100))), (0, .ref 69), (1, .int yk), (2, .int yb), (3, .int ym), (4, .int ya), (5, .int yq), (7, .int yg), (8, .int l)] [.ref 127, .int 100] yA _
        refine Pa.mp 1 (pc' := 69) (l' := [(6, .int (yt + (((yA.1 126 l.toInt.toNat) * (yA.1 127 l.toInt.toNat)) / 100))), (0, .ref 69), (1, .int yk), (2, .int yb), (3, .int ym), (4, .int ya), (5, .int yq), (7, .int yg), (8, .int l)]) (st' := [.int l, .ref 127, .int 100]) (by rfl) ?_
        refine Pa.alds (v := yA.1 127 l.toInt.toNat) (by rfl) (by rfl) (by rfl) (fun h15 yh16 => ?_)
        have h15 : 0 ≤ l.toInt := h15
        have yh16 : l.toInt < 6 := yh16
        refine Pa.mp 4 (pc' := 75) (l' := [(6, .int (yt + (((yA.1 126 l.toInt.toNat) * (yA.1 127 l.toInt.toNat)) / 100))), (0, .ref 69), (1, .int yk), (2, .int yb), (3, .int ym), (4, .int ya), (5, .int yq), (7, .int yg), (8, .int l)]) (st' := [.int (ym * ya), .int (100 * (yA.1 127 l.toInt.toNat))]) (by rfl) ?_
        refine Pa.if2 (a := (100 * (yA.1 127 l.toInt.toNat)).toInt) (b := (ym * ya).toInt) (t := 82) (by rfl) (by rfl) (rfl) (rfl) (fun h17 => ?_) (fun h18 => ?_)
        · have h17 : (100 * (yA.1 127 l.toInt.toNat)).toInt < (ym * ya).toInt := h17
          refine Pa.ic (x := 0) (pc' := 83) (by rfl) (by rfl) (by decide) ?_
          refine Pa.mp 1 (pc' := 85) (l' := [(7, .int 0), (6, .int (yt + (((yA.1 126 l.toInt.toNat) * (yA.1 127 l.toInt.toNat)) / 100))), (0, .ref 69), (1, .int yk), (2, .int yb), (3, .int ym), (4, .int ya), (5, .int yq), (8, .int l)]) (st' := []) (by rfl) ?_
          refine Pa.iinc (x := l) (c := 1) (v := (l + 1)) (l' := [(8, .int (l + 1)), (7, .int 0), (6, .int (yt + (((yA.1 126 l.toInt.toNat) * (yA.1 127 l.toInt.toNat)) / 100))), (0, .ref 69), (1, .int yk), (2, .int yb), (3, .int ym), (4, .int ya), (5, .int yq)]) (by rfl) (by rfl) (by decide) (by rfl) (by rfl) ?_
          refine Pa.mp 1 (pc' := 17) (l' := [(8, .int (l + 1)), (7, .int 0), (6, .int (yt + (((yA.1 126 l.toInt.toNat) * (yA.1 127 l.toInt.toNat)) / 100))), (0, .ref 69), (1, .int yk), (2, .int yb), (3, .int ym), (4, .int ya), (5, .int yq)]) (st' := []) (by rfl) ?_
          refine Pa.lv (l' := [(0, .ref 69), (1, .int yk), (2, .int yb), (3, .int ym), (4, .int ya), (5, .int yq), (6, .int (yt + (((yA.1 126 l.toInt.toNat) * (yA.1 127 l.toInt.toNat)) / 100))), (7, .int 0), (8, .int (l + 1))]) (lvS_c rfl (lvS_c rfl (lvS_c rfl (lvS_c rfl (lvS_c rfl (lvS_c rfl (lvS_c rfl (lvS_c rfl (lvS_c rfl (lvS_nil)))))))))) rfl ?_
          exact l6 h2 h7 h12 h14 h17
        · have h18 : (ym * ya).toInt ≤ (100 * (yA.1 127 l.toInt.toNat)).toInt := h18
          refine Pa.ic (x := 1) (pc' := 79) (by rfl) (by rfl) (by decide) ?_
          refine Pa.mp 2 (pc' := 85) (l' := [(7, .int 1), (6, .int (yt + (((yA.1 126 l.toInt.toNat) * (yA.1 127 l.toInt.toNat)) / 100))), (0, .ref 69), (1, .int yk), (2, .int yb), (3, .int ym), (4, .int ya), (5, .int yq), (8, .int l)]) (st' := []) (by rfl) ?_
          refine Pa.iinc (x := l) (c := 1) (v := (l + 1)) (l' := [(8, .int (l + 1)), (7, .int 1), (6, .int (yt + (((yA.1 126 l.toInt.toNat) * (yA.1 127 l.toInt.toNat)) / 100))), (0, .ref 69), (1, .int yk), (2, .int yb), (3, .int ym), (4, .int ya), (5, .int yq)]) (by rfl) (by rfl) (by decide) (by rfl) (by rfl) ?_
          refine Pa.mp 1 (pc' := 17) (l' := [(8, .int (l + 1)), (7, .int 1), (6, .int (yt + (((yA.1 126 l.toInt.toNat) * (yA.1 127 l.toInt.toNat)) / 100))), (0, .ref 69), (1, .int yk), (2, .int yb), (3, .int ym), (4, .int ya), (5, .int yq)]) (st' := []) (by rfl) ?_
          refine Pa.lv (l' := [(0, .ref 69), (1, .int yk), (2, .int yb), (3, .int ym), (4, .int ya), (5, .int yq), (6, .int (yt + (((yA.1 126 l.toInt.toNat) * (yA.1 127 l.toInt.toNat)) / 100))), (7, .int 1), (8, .int (l + 1))]) (lvS_c rfl (lvS_c rfl (lvS_c rfl (lvS_c rfl (lvS_c rfl (lvS_c rfl (lvS_c rfl (lvS_c rfl (lvS_c rfl (lvS_nil)))))))))) rfl ?_
          exact l7 h2 h7 h12 h14 h18

theorem bm_tm2 {N : Nat} {yA : AW} {yQ : Option Value → AW → Prop} (yk yb ym ya yq yt yg l : Int32)
    (l1 : (yA.1 69 76).toInt ≤ l.toInt → yQ none yA)
    (l2 : l.toInt < (yA.1 69 76).toInt → yq.toInt = 0 → yQ none yA)
    (l3 : l.toInt < (yA.1 69 76).toInt → yq.toInt ≠ 0 → 0 ≤ l.toInt → l.toInt < 9 → Pa N 236 114 [(0, .ref 69), (1, .int yk), (2, .int yb), (3, .int ym), (4, .int ya), (5, .int yq), (6, .int yt), (7, .int yg), (8, .int (l + 1))] [] (uI yA 125 l.toInt.toNat (yA.1 124 l.toInt.toNat)) yQ) :
    Pa (N + 1) 236 114 [(0, .ref 69), (1, .int yk), (2, .int yb), (3, .int ym), (4, .int ya), (5, .int yq), (6, .int yt), (7, .int yg), (8, .int l)] [] yA yQ := by
  refine Pa.mp1 1 (pc' := 117) (l' := [(0, .ref 69), (1, .int yk), (2, .int yb), (3, .int ym), (4, .int ya), (5, .int yq), (6, .int yt), (7, .int yg), (8, .int l)]) (st' := [.ref 69, .int l]) (by rfl) ?_
  refine Pa.gfI (v := yA.1 69 76) (by rfl) (by rfl) (.inl rfl) (by rfl) (by rfl) ?_
  refine Pa.if2 (a := l.toInt) (b := (yA.1 69 76).toInt) (t := 148) (by rfl) (by rfl) (rfl) (rfl) (fun h1 => ?_) (fun h2 => ?_)
  · have h1 : (yA.1 69 76).toInt ≤ l.toInt := h1
    refine Pa.vret (by rfl) ?_
    exact l1 h1
  · have h2 : l.toInt < (yA.1 69 76).toInt := h2
    refine Pa.mp 1 (pc' := 125) (l' := [(0, .ref 69), (1, .int yk), (2, .int yb), (3, .int ym), (4, .int ya), (5, .int yq), (6, .int yt), (7, .int yg), (8, .int l)]) (st' := [.int yq]) (by rfl) ?_
    refine Pa.if1 (a := yq.toInt) (t := 148) (by rfl) (by rfl) (rfl) (fun h3 => ?_) (fun h4 => ?_)
    · have h3 : yq.toInt = 0 := h3
      refine Pa.vret (by rfl) ?_
      exact l2 h2 h3
    · have h4 : yq.toInt ≠ 0 := h4
      refine Pa.mp 1 (pc' := 129) (l' := [(0, .ref 69), (1, .int yk), (2, .int yb), (3, .int ym), (4, .int ya), (5, .int yq), (6, .int yt), (7, .int yg), (8, .int l)]) (st' := [.ref 69]) (by rfl) ?_
      refine Pa.gfR (by rfl) (by rfl) (.inl rfl) (by rfl) ?_
      show Pa N 236 132 [(0, .ref 69), (1, .int yk), (2, .int yb), (3, .int ym), (4, .int ya), (5, .int yq), (6, .int yt), (7, .int yg), (8, .int l)] [.ref 125] yA _
      refine Pa.mp 2 (pc' := 135) (l' := [(0, .ref 69), (1, .int yk), (2, .int yb), (3, .int ym), (4, .int ya), (5, .int yq), (6, .int yt), (7, .int yg), (8, .int l)]) (st' := [.ref 69, .int l, .ref 125]) (by rfl) ?_
      refine Pa.gfR (by rfl) (by rfl) (.inl rfl) (by rfl) ?_
      show Pa N 236 138 [(0, .ref 69), (1, .int yk), (2, .int yb), (3, .int ym), (4, .int ya), (5, .int yq), (6, .int yt), (7, .int yg), (8, .int l)] [.ref 124, .int l, .ref 125] yA _
      refine Pa.mp 1 (pc' := 140) (l' := [(0, .ref 69), (1, .int yk), (2, .int yb), (3, .int ym), (4, .int ya), (5, .int yq), (6, .int yt), (7, .int yg), (8, .int l)]) (st' := [.int l, .ref 124, .int l, .ref 125]) (by rfl) ?_
      refine Pa.alds (v := yA.1 124 l.toInt.toNat) (by rfl) (by rfl) (by rfl) (fun h5 h6 => ?_)
      have h5 : 0 ≤ l.toInt := h5
      have h6 : l.toInt < 9 := h6
      refine Pa.asts (j' := l.toInt.toNat) (by rfl) (by rfl) (by rfl) (fun h7 h8 => ?_)
      have h7 : 0 ≤ l.toInt := h7
      have h8 : l.toInt < 9 := h8
      show Pa N 236 142 [(0, .ref 69), (1, .int yk), (2, .int yb), (3, .int ym), (4, .int ya), (5, .int yq), (6, .int yt), (7, .int yg), (8, .int l)] [] (uI yA 125 l.toInt.toNat (yA.1 124 l.toInt.toNat)) _
      refine Pa.iinc (x := l) (c := 1) (v := (l + 1)) (l' := [(8, .int (l + 1)), (0, .ref 69), (1, .int yk), (2, .int yb), (3, .int ym), (4, .int ya), (5, .int yq), (6, .int yt), (7, .int yg)]) (by rfl) (by rfl) (by decide) (by rfl) (by rfl) ?_
      refine Pa.mp 1 (pc' := 114) (l' := [(8, .int (l + 1)), (0, .ref 69), (1, .int yk), (2, .int yb), (3, .int ym), (4, .int ya), (5, .int yq), (6, .int yt), (7, .int yg)]) (st' := []) (by rfl) ?_
      refine Pa.lv (l' := [(0, .ref 69), (1, .int yk), (2, .int yb), (3, .int ym), (4, .int ya), (5, .int yq), (6, .int yt), (7, .int yg), (8, .int (l + 1))]) (lvS_c rfl (lvS_c rfl (lvS_c rfl (lvS_c rfl (lvS_c rfl (lvS_c rfl (lvS_c rfl (lvS_c rfl (lvS_c rfl (lvS_nil)))))))))) rfl ?_
      exact l3 h2 h4 h5 h6

theorem bm_tm3 {N : Nat} {yA : AW} {yQ : Option Value → AW → Prop} (yk yb ym ya yq l : Int32)
    (l1 : 6 ≤ l.toInt → yQ none yA)
    (l2 : l.toInt < 6 → 0 ≤ yk.toInt → yk.toInt < 9 → ((yb &&& (yA.1 123 yk.toInt.toNat)) &&& (1 <<< (l &&& 31))).toInt = 0 → Pa N 236 152 [(0, .ref 69), (1, .int yk), (2, .int yb), (3, .int ym), (4, .int ya), (5, .int yq), (6, .int (l + 1))] [] yA yQ)
    (l3 : l.toInt < 6 → 0 ≤ yk.toInt → yk.toInt < 9 → ((yb &&& (yA.1 123 yk.toInt.toNat)) &&& (1 <<< (l &&& 31))).toInt ≠ 0 → 0 ≤ l.toInt → Pa N 236 0 [(0, .ref 69), (1, .int (yk + 1)), (2, .int yb), (3, .int ym), (4, .int ya), (5, .int yq)] [] (uI (uI yA 124 yk.toInt.toNat l) 127 l.toInt.toNat ((yA.1 127 l.toInt.toNat) + (yA.1 122 yk.toInt.toNat))) (fun yu A1 => Pa N 236 212 [(0, .ref 69), (1, .int yk), (2, .int yb), (3, .int ym), (4, .int ya), (5, .int yq), (6, .int l)] (yu.toList ++ []) A1 yQ)) :
    Pa (N + 1) 236 152 [(0, .ref 69), (1, .int yk), (2, .int yb), (3, .int ym), (4, .int ya), (5, .int yq), (6, .int l)] [] yA yQ := by
  refine Pa.mp1 0 (pc' := 154) (l' := [(0, .ref 69), (1, .int yk), (2, .int yb), (3, .int ym), (4, .int ya), (5, .int yq), (6, .int l)]) (st' := [.int l]) (by rfl) ?_
  refine Pa.ic (x := 6) (pc' := 156) (by rfl) (by rfl) (by decide) ?_
  refine Pa.if2 (a := l.toInt) (b := 6) (t := 234) (by rfl) (by rfl) (rfl) (by decide) (fun h1 => ?_) (fun h2 => ?_)
  · have h1 : 6 ≤ l.toInt := h1
    refine Pa.vret (by rfl) ?_
    exact l1 h1
  · have h2 : l.toInt < 6 := h2
    refine Pa.mp 2 (pc' := 161) (l' := [(0, .ref 69), (1, .int yk), (2, .int yb), (3, .int ym), (4, .int ya), (5, .int yq), (6, .int l)]) (st' := [.ref 69, .int yb]) (by rfl) ?_
    refine Pa.gfR (by rfl) (by rfl) (.inl rfl) (by rfl) ?_
    show Pa N 236 164 [(0, .ref 69), (1, .int yk), (2, .int yb), (3, .int ym), (4, .int ya), (5, .int yq), (6, .int l)] [.ref 123, .int yb] yA _
    refine Pa.mp 1 (pc' := 165) (l' := [(0, .ref 69), (1, .int yk), (2, .int yb), (3, .int ym), (4, .int ya), (5, .int yq), (6, .int l)]) (st' := [.int yk, .ref 123, .int yb]) (by rfl) ?_
    refine Pa.alds (v := yA.1 123 yk.toInt.toNat) (by rfl) (by rfl) (by rfl) (fun h3 h4 => ?_)
    have h3 : 0 ≤ yk.toInt := h3
    have h4 : yk.toInt < 9 := h4
    refine Pa.mp 1 (pc' := 167) (l' := [(0, .ref 69), (1, .int yk), (2, .int yb), (3, .int ym), (4, .int ya), (5, .int yq), (6, .int l)]) (st' := [.int (yb &&& (yA.1 123 yk.toInt.toNat))]) (by rfl) ?_
    refine Pa.ic (x := 1) (pc' := 168) (by rfl) (by rfl) (by decide) ?_
    refine Pa.mp 3 (pc' := 172) (l' := [(0, .ref 69), (1, .int yk), (2, .int yb), (3, .int ym), (4, .int ya), (5, .int yq), (6, .int l)]) (st' := [.int ((yb &&& (yA.1 123 yk.toInt.toNat)) &&& (1 <<< (l &&& 31)))]) (by rfl) ?_
    refine Pa.if1 (a := ((yb &&& (yA.1 123 yk.toInt.toNat)) &&& (1 <<< (l &&& 31))).toInt) (t := 228) (by rfl) (by rfl) (rfl) (fun h5 => ?_) (fun h6 => ?_)
    · have h5 : ((yb &&& (yA.1 123 yk.toInt.toNat)) &&& (1 <<< (l &&& 31))).toInt = 0 := h5
      refine Pa.iinc (x := l) (c := 1) (v := (l + 1)) (l' := [(6, .int (l + 1)), (0, .ref 69), (1, .int yk), (2, .int yb), (3, .int ym), (4, .int ya), (5, .int yq)]) (by rfl) (by rfl) (by decide) (by rfl) (by rfl) ?_
      refine Pa.mp 1 (pc' := 152) (l' := [(6, .int (l + 1)), (0, .ref 69), (1, .int yk), (2, .int yb), (3, .int ym), (4, .int ya), (5, .int yq)]) (st' := []) (by rfl) ?_
      refine Pa.lv (l' := [(0, .ref 69), (1, .int yk), (2, .int yb), (3, .int ym), (4, .int ya), (5, .int yq), (6, .int (l + 1))]) (lvS_c rfl (lvS_c rfl (lvS_c rfl (lvS_c rfl (lvS_c rfl (lvS_c rfl (lvS_c rfl (lvS_nil)))))))) rfl ?_
      exact l2 h2 h3 h4 h5
    · have h6 : ((yb &&& (yA.1 123 yk.toInt.toNat)) &&& (1 <<< (l &&& 31))).toInt ≠ 0 := h6
      refine Pa.mp 1 (pc' := 176) (l' := [(0, .ref 69), (1, .int yk), (2, .int yb), (3, .int ym), (4, .int ya), (5, .int yq), (6, .int l)]) (st' := [.ref 69]) (by rfl) ?_
      refine Pa.gfR (by rfl) (by rfl) (.inl rfl) (by rfl) ?_
      show Pa N 236 179 [(0, .ref 69), (1, .int yk), (2, .int yb), (3, .int ym), (4, .int ya), (5, .int yq), (6, .int l)] [.ref 124] yA _
      refine Pa.mp 2 (pc' := 182) (l' := [(0, .ref 69), (1, .int yk), (2, .int yb), (3, .int ym), (4, .int ya), (5, .int yq), (6, .int l)]) (st' := [.int l, .int yk, .ref 124]) (by rfl) ?_
      refine Pa.asts (j' := yk.toInt.toNat) (by rfl) (by rfl) (by rfl) (fun h7 h8 => ?_)
      have h7 : 0 ≤ yk.toInt := h7
      have h8 : yk.toInt < 9 := h8
      show Pa N 236 183 [(0, .ref 69), (1, .int yk), (2, .int yb), (3, .int ym), (4, .int ya), (5, .int yq), (6, .int l)] [] (uI yA 124 yk.toInt.toNat l) _
      refine Pa.mp 1 (pc' := 184) (l' := [(0, .ref 69), (1, .int yk), (2, .int yb), (3, .int ym), (4, .int ya), (5, .int yq), (6, .int l)]) (st' := [.ref 69]) (by rfl) ?_
      refine Pa.gfR (by rfl) (by rfl) (.inl rfl) (by rfl) ?_
      show Pa N 236 187 [(0, .ref 69), (1, .int yk), (2, .int yb), (3, .int ym), (4, .int ya), (5, .int yq), (6, .int l)] [.ref 127] (uI yA 124 yk.toInt.toNat l) _
      refine Pa.mp 2 (pc' := 190) (l' := [(0, .ref 69), (1, .int yk), (2, .int yb), (3, .int ym), (4, .int ya), (5, .int yq), (6, .int l)]) (st' := [.int l, .ref 127, .int l, .ref 127]) (by rfl) ?_
      refine Pa.alds (v := yA.1 127 l.toInt.toNat) (by rfl) (by rfl) (by show (uI yA 124 yk.toInt.toNat l).1 127 l.toInt.toNat = yA.1 127 l.toInt.toNat; rw [uI_c (by decide)]) (fun h9 h10 => ?_)
      have h9 : 0 ≤ l.toInt := h9
      have h10 : l.toInt < 6 := h10
      refine Pa.mp 1 (pc' := 192) (l' := [(0, .ref 69), (1, .int yk), (2, .int yb), (3, .int ym), (4, .int ya), (5, .int yq), (6, .int l)]) (st' := [.ref 69, .int (yA.1 127 l.toInt.toNat), .int l, .ref 127]) (by rfl) ?_
      refine Pa.gfR (by rfl) (by rfl) (.inl rfl) (by rfl) ?_
      show Pa N 236 195 [(0, .ref 69), (1, .int yk), (2, .int yb), (3, .int ym), (4, .int ya), (5, .int yq), (6, .int l)] [.ref 122, .int (yA.1 127 l.toInt.toNat), .int l, .ref 127] (uI yA 124 yk.toInt.toNat l) _
      refine Pa.mp 1 (pc' := 196) (l' := [(0, .ref 69), (1, .int yk), (2, .int yb), (3, .int ym), (4, .int ya), (5, .int yq), (6, .int l)]) (st' := [.int yk, .ref 122, .int (yA.1 127 l.toInt.toNat), .int l, .ref 127]) (by rfl) ?_
      refine Pa.alds (v := yA.1 122 yk.toInt.toNat) (by rfl) (by rfl) (by show (uI yA 124 yk.toInt.toNat l).1 122 yk.toInt.toNat = yA.1 122 yk.toInt.toNat; rw [uI_c (by decide)]) (fun h11 h12 => ?_)
      have h11 : 0 ≤ yk.toInt := h11
      have h12 : yk.toInt < 9 := h12
      refine Pa.mp 1 (pc' := 198) (l' := [(0, .ref 69), (1, .int yk), (2, .int yb), (3, .int ym), (4, .int ya), (5, .int yq), (6, .int l)]) (st' := [.int ((yA.1 127 l.toInt.toNat) + (yA.1 122 yk.toInt.toNat)), .int l, .ref 127]) (by rfl) ?_
      refine Pa.asts (j' := l.toInt.toNat) (by rfl) (by rfl) (by rfl) (fun h13 h14 => ?_)
      have h13 : 0 ≤ l.toInt := h13
      have h14 : l.toInt < 6 := h14
      show Pa N 236 199 [(0, .ref 69), (1, .int yk), (2, .int yb), (3, .int ym), (4, .int ya), (5, .int yq), (6, .int l)] [] (uI (uI yA 124 yk.toInt.toNat l) 127 l.toInt.toNat ((yA.1 127 l.toInt.toNat) + (yA.1 122 yk.toInt.toNat))) _
      refine Pa.mp 2 (pc' := 201) (l' := [(0, .ref 69), (1, .int yk), (2, .int yb), (3, .int ym), (4, .int ya), (5, .int yq), (6, .int l)]) (st' := [.int yk, .ref 69]) (by rfl) ?_
      refine Pa.ic (x := 1) (pc' := 202) (by rfl) (by rfl) (by decide) ?_
      refine Pa.mp 5 (pc' := 209) (l' := [(0, .ref 69), (1, .int yk), (2, .int yb), (3, .int ym), (4, .int ya), (5, .int yq), (6, .int l)]) (st' := [.int yq, .int ya, .int ym, .int yb, .int (yk + 1), .ref 69]) (by rfl) ?_
      refine Pa.inv (by rfl) (by rfl) (.inl rfl) (by rfl) ?_
      exact l3 h2 h3 h4 h6 h9

theorem bm_tm4 {N : Nat} {yA : AW} {yQ : Option Value → AW → Prop} (yk yb ym ya yq l : Int32)
    (l1 : 0 ≤ l.toInt → l.toInt < 6 → 0 ≤ yk.toInt → yk.toInt < 9 → Pa N 236 152 [(0, .ref 69), (1, .int yk), (2, .int yb), (3, .int ym), (4, .int ya), (5, .int yq), (6, .int (l + 1))] [] (uI yA 127 l.toInt.toNat ((yA.1 127 l.toInt.toNat) - (yA.1 122 yk.toInt.toNat))) yQ) :
    Pa N 236 212 [(0, .ref 69), (1, .int yk), (2, .int yb), (3, .int ym), (4, .int ya), (5, .int yq), (6, .int l)] [] yA yQ := by
  refine Pa.mp 1 (pc' := 213) (l' := [(0, .ref 69), (1, .int yk), (2, .int yb), (3, .int ym), (4, .int ya), (5, .int yq), (6, .int l)]) (st' := [.ref 69]) (by rfl) ?_
  refine Pa.gfR (by rfl) (by rfl) (.inl rfl) (by rfl) ?_
  show Pa N 236 216 [(0, .ref 69), (1, .int yk), (2, .int yb), (3, .int ym), (4, .int ya), (5, .int yq), (6, .int l)] [.ref 127] yA _
  refine Pa.mp 2 (pc' := 219) (l' := [(0, .ref 69), (1, .int yk), (2, .int yb), (3, .int ym), (4, .int ya), (5, .int yq), (6, .int l)]) (st' := [.int l, .ref 127, .int l, .ref 127]) (by rfl) ?_
  refine Pa.alds (v := yA.1 127 l.toInt.toNat) (by rfl) (by rfl) (by rfl) (fun h1 h2 => ?_)
  have h1 : 0 ≤ l.toInt := h1
  have h2 : l.toInt < 6 := h2
  refine Pa.mp 1 (pc' := 221) (l' := [(0, .ref 69), (1, .int yk), (2, .int yb), (3, .int ym), (4, .int ya), (5, .int yq), (6, .int l)]) (st' := [.ref 69, .int (yA.1 127 l.toInt.toNat), .int l, .ref 127]) (by rfl) ?_
  refine Pa.gfR (by rfl) (by rfl) (.inl rfl) (by rfl) ?_
  show Pa N 236 224 [(0, .ref 69), (1, .int yk), (2, .int yb), (3, .int ym), (4, .int ya), (5, .int yq), (6, .int l)] [.ref 122, .int (yA.1 127 l.toInt.toNat), .int l, .ref 127] yA _
  refine Pa.mp 1 (pc' := 225) (l' := [(0, .ref 69), (1, .int yk), (2, .int yb), (3, .int ym), (4, .int ya), (5, .int yq), (6, .int l)]) (st' := [.int yk, .ref 122, .int (yA.1 127 l.toInt.toNat), .int l, .ref 127]) (by rfl) ?_
  refine Pa.alds (v := yA.1 122 yk.toInt.toNat) (by rfl) (by rfl) (by rfl) (fun h3 h4 => ?_)
  have h3 : 0 ≤ yk.toInt := h3
  have h4 : yk.toInt < 9 := h4
  refine Pa.mp 1 (pc' := 227) (l' := [(0, .ref 69), (1, .int yk), (2, .int yb), (3, .int ym), (4, .int ya), (5, .int yq), (6, .int l)]) (st' := [.int ((yA.1 127 l.toInt.toNat) - (yA.1 122 yk.toInt.toNat)), .int l, .ref 127]) (by rfl) ?_
  refine Pa.asts (j' := l.toInt.toNat) (by rfl) (by rfl) (by rfl) (fun h5 h6 => ?_)
  have h5 : 0 ≤ l.toInt := h5
  have h6 : l.toInt < 6 := h6
  show Pa N 236 228 [(0, .ref 69), (1, .int yk), (2, .int yb), (3, .int ym), (4, .int ya), (5, .int yq), (6, .int l)] [] (uI yA 127 l.toInt.toNat ((yA.1 127 l.toInt.toNat) - (yA.1 122 yk.toInt.toNat))) _
  refine Pa.iinc (x := l) (c := 1) (v := (l + 1)) (l' := [(6, .int (l + 1)), (0, .ref 69), (1, .int yk), (2, .int yb), (3, .int ym), (4, .int ya), (5, .int yq)]) (by rfl) (by rfl) (by decide) (by rfl) (by rfl) ?_
  refine Pa.mp 1 (pc' := 152) (l' := [(6, .int (l + 1)), (0, .ref 69), (1, .int yk), (2, .int yb), (3, .int ym), (4, .int ya), (5, .int yq)]) (st' := []) (by rfl) ?_
  refine Pa.lv (l' := [(0, .ref 69), (1, .int yk), (2, .int yb), (3, .int ym), (4, .int ya), (5, .int yq), (6, .int (l + 1))]) (lvS_c rfl (lvS_c rfl (lvS_c rfl (lvS_c rfl (lvS_c rfl (lvS_c rfl (lvS_c rfl (lvS_nil)))))))) rfl ?_
  exact l1 h1 h2 h3 h4

section TRM
variable {yC yR : Nat → Int32} {yM : Nat → Nat} {yb yn : Nat} {yW : AW}
/-- ya way to its end -/
theorem c_tmL (yhb : yb < 64) (hn : yn ≤ 9) (hW : tM yC yR yM yn yW) (ym ya yq : Int32) {yv : Nat} (ys : wS) (hv : vld yM yb (cb yb 6) yn yv) {yU : AW} (yhS : tS yC yb (cb yb 6) yn yq yW yn yv ys yU) (N : Nat) : Pa N 236 0 [(0, .ref 69), (1, .int (Int32.ofNat yn)), (2, .int (Int32.ofNat yb)), (3, .int ym), (4, .int ya), (5, .int yq)] [] yU (fun yu V => yu = none ∧ tS yC yb (cb yb 6) yn yq yW yn yv (wU yC yR yM yb (cb yb 6) yn (ym * ya) yv ys) V) := by
  obtain ⟨h1, h2, h3, h4, h5⟩ := yhS
  have hU := tM_e hW h1
  have en : (Int32.ofNat yn).toInt = (yn : Int) := i32_nat (by omega)
  obtain ⟨ysp, hsp⟩ : ∃ ysp, wsp yC yb (cb yb 6) yn yv = ysp := ⟨_, rfl⟩
  have key2 : wOk yC yR yM yb (cb yb 6) yn (ym * ya) yv ys → ∀ (N yi : Nat) (V : AW) (yt yg : Int32), yi ≤ yn → mvE yW V → (∀ l, l < 6 → V.1 127 l = wsp yC yb (cb yb 6) yn yv l) → (∀ yi, yi < yn → V.1 124 yi = Int32.ofNat (lnd yb (cb yb 6) yn yv yi)) → V.1 69 83 = wbk yC yR yb (cb yb 6) yn yv → (yq.toInt = 0 → ∀ yi, V.1 125 yi = yW.1 125 yi) → (yq.toInt ≠ 0 → ∀ yj, yj < yi → V.1 125 yj = Int32.ofNat (lnd yb (cb yb 6) yn yv yj)) → Pa N 236 114 [(0, .ref 69), (1, .int (Int32.ofNat yn)), (2, .int (Int32.ofNat yb)), (3, .int ym), (4, .int ya), (5, .int yq), (6, .int yt), (7, .int yg), (8, .int (Int32.ofNat yi))] [] V (fun yu V => yu = none ∧ tS yC yb (cb yb 6) yn yq yW yn yv (wU yC yR yM yb (cb yb 6) yn (ym * ya) yv ys) V) := by
    intro hok N
    induction N with
    | zero => intros; exact Pa.zero
    | succ N yih =>
      intro yi V yt yg yhi ye1 ye2 ye3 ye4 ye5 ye6
      have ei : (Int32.ofNat yi).toInt = (yi : Int) := i32_nat (by omega)
      have hV := tM_e hW ye1
      refine bm_tm2 (Int32.ofNat yn) (Int32.ofNat yb) ym ya yq yt yg (Int32.ofNat yi) ?_ ?_ ?_ <;> rw [ei, hV.1] <;> (try rw [Int.toNat_natCast])
      · intro yz
        have ye : yi = yn := by omega
        subst ye
        refine ⟨rfl, ye1, ye2, ye3, ?_, ?_⟩
        · rw [wU_1 hok]
          exact ye4
        · rw [wU_1 hok]
          by_cases hq : yq.toInt = 0
          · exact .inl ⟨hq, ye5 hq⟩
          · exact .inr ⟨hq, .inr ⟨yv, rfl, ye6 hq⟩⟩
      · intro yz hq
        refine ⟨rfl, ye1, ye2, ye3, ?_, .inl ⟨hq, ye5 hq⟩⟩
        rw [wU_1 hok]
        exact ye4
      · intro yz hq _ _
        rw [ye3 yi (by omega)]
        have yh := yih (yi + 1) (uI V 125 yi (Int32.ofNat (lnd yb (cb yb 6) yn yv yi))) yt yg (by omega) (mvE_u ye1 (.inr (.inl rfl))) (fun l hl => by
          rw [uI_c (by decide)]
          exact ye2 l hl) (fun yj hj => by
          rw [uI_c (by decide)]
          exact ye3 yj hj) (by rw [uI_c (by decide)]; exact ye4) (fun yz => absurd yz hq) (fun _ yj hj => by
          rw [uI_row]
          by_cases ye : yj = yi
          · rw [if_pos ye, ye]
          · rw [if_neg ye]
            exact ye6 hq yj (by omega))
        rw [on_succ yi] at yh
        exact yh
  have key1 : ∀ (N l : Nat) (yg : Int32), l ≤ 6 → ((yg.toInt = 0 ∧ ¬ ∀ yi, yi < l → yb.testBit yi = true → (ym * ya).toInt ≤ (100 * wsp yC yb (cb yb 6) yn yv yi).toInt) ∨ (yg.toInt ≠ 0 ∧ ∀ yi, yi < l → yb.testBit yi = true → (ym * ya).toInt ≤ (100 * wsp yC yb (cb yb 6) yn yv yi).toInt)) → Pa N 236 17 [(0, .ref 69), (1, .int (Int32.ofNat yn)), (2, .int (Int32.ofNat yb)), (3, .int ym), (4, .int ya), (5, .int yq), (6, .int (bkS yR (wsp yC yb (cb yb 6) yn yv) l)), (7, .int yg), (8, .int (Int32.ofNat l))] [] yU (fun yu V => yu = none ∧ tS yC yb (cb yb 6) yn yq yW yn yv (wU yC yR yM yb (cb yb 6) yn (ym * ya) yv ys) V) := by
    intro N
    induction N with
    | zero => intros; exact Pa.zero
    | succ N yih =>
      intro l yg hl hg
      have el : (Int32.ofNat l).toInt = (l : Int) := i32_nat (by omega)
      have ysame : ¬ wOk yC yR yM yb (cb yb 6) yn (ym * ya) yv ys → (none : Option Value) = none ∧ tS yC yb (cb yb 6) yn yq yW yn yv (wU yC yR yM yb (cb yb 6) yn (ym * ya) yv ys) yU := fun hno => by
        rw [wU_0 hno]
        exact ⟨rfl, h1, h2, h3, h4, h5⟩
      have nx : ∀ g' : Int32, l < 6 → ((g'.toInt = 0 ∧ ¬ ∀ yi, yi < l + 1 → yb.testBit yi = true → (ym * ya).toInt ≤ (100 * wsp yC yb (cb yb 6) yn yv yi).toInt) ∨ (g'.toInt ≠ 0 ∧ ∀ yi, yi < l + 1 → yb.testBit yi = true → (ym * ya).toInt ≤ (100 * wsp yC yb (cb yb 6) yn yv yi).toInt)) → Pa N 236 17 [(0, .ref 69), (1, .int (Int32.ofNat yn)), (2, .int (Int32.ofNat yb)), (3, .int ym), (4, .int ya), (5, .int yq), (6, .int (bkS yR (wsp yC yb (cb yb 6) yn yv) l + (yU.1 126 l * yU.1 127 l) / 100)), (7, .int g'), (8, .int (Int32.ofNat l + 1))] [] yU (fun yu V => yu = none ∧ tS yC yb (cb yb 6) yn yq yW yn yv (wU yC yR yM yb (cb yb 6) yn (ym * ya) yv ys) V) := fun g' hl6 hg' => by
        have yh := yih (l + 1) g' (by omega) hg'
        rw [on_succ l] at yh
        rw [hU.2.2.2 l hl6, h2 l hl6]
        exact yh
      refine bm_tm1 (Int32.ofNat yn) (Int32.ofNat yb) ym ya yq _ yg (Int32.ofNat l) ?_ ?_ ?_ ?_ ?_ ?_ ?_ <;> rw [el] <;> (try rw [Int.toNat_natCast])
      · intro z1 z2
        have ye : l = 6 := by omega
        subst ye
        rcases hg with hg | hg
        · exact ysame (fun yz => hg.2 yz.1.2)
        · exact absurd z2 hg.1
      · intro z1 z2 z3
        have ye : l = 6 := by omega
        subst ye
        rw [h4] at z3
        exact ysame (fun yz => by
          have z4 := yz.2
          unfold wbk at z4
          omega)
      · intro z1 z2 z3
        have ye : l = 6 := by omega
        subst ye
        rw [h4] at z3
        rcases hg with hg | hg
        · exact absurd hg.1 z2
        · have hok : wOk yC yR yM yb (cb yb 6) yn (ym * ya) yv ys := ⟨⟨hv, hg.2⟩, z3⟩
          have h125 : yq.toInt = 0 → ∀ yi, yU.1 125 yi = yW.1 125 yi := fun hq => by
            rcases h5 with h5 | h5
            · exact h5.2
            · exact absurd hq h5.1
          exact key2 hok N 0 (uI yU 69 83 (bkS yR (wsp yC yb (cb yb 6) yn yv) 6)) _ _ (Nat.zero_le _) (mvE_u h1 (.inr (.inr (.inr ⟨rfl, rfl⟩)))) (fun l hl => by
            rw [uI_c (by decide)]
            exact h2 l hl) (fun yi yhi => by
            rw [uI_c (by decide)]
            exact h3 yi yhi) (by rw [uI_h]; rfl) (fun hq yi => by
            rw [uI_c (by decide)]
            exact h125 hq yi) (fun _ yj hj => absurd hj (Nat.not_lt_zero yj))
      · intro z1 _ z3
        rcases hg with hg | hg
        · exact nx 0 (by omega) (.inl ⟨by decide, fun yz => hg.2 (fun yi yhi => yz yi (by omega))⟩)
        · exact absurd z3 hg.1
      · intro z1 _ z3 z4
        rw [bt1 yhb (by omega)] at z4
        have hnb : yb.testBit l ≠ true := fun yz => by rw [if_pos yz] at z4; omega
        rcases hg with hg | hg
        · exact absurd hg.1 z3
        · refine nx 1 (by omega) (.inr ⟨by decide, fun yi yhi hbi => ?_⟩)
          by_cases ye : yi = l
          · rw [ye] at hbi
            exact absurd hbi hnb
          · exact hg.2 yi (by omega) hbi
      · intro z1 _ z3 z4 z5
        rw [bt1 yhb (by omega)] at z4
        rw [h2 l (by omega)] at z5
        have hyb : yb.testBit l = true := Classical.byContradiction (fun yz => z4 (if_neg yz))
        refine nx 0 (by omega) (.inl ⟨by decide, fun yz => ?_⟩)
        have := yz l (by omega) hyb
        omega
      · intro z1 _ z3 z4 z5
        rw [h2 l (by omega)] at z5
        rcases hg with hg | hg
        · exact absurd hg.1 z3
        · refine nx 1 (by omega) (.inr ⟨by decide, fun yi yhi hbi => ?_⟩)
          by_cases ye : yi = l
          · rw [ye]
            exact z5
          · exact hg.2 yi (by omega) hbi
  refine bm_tm0 (Int32.ofNat yn) (Int32.ofNat yb) ym ya yq (fun yz => ?_) (fun _ => ?_)
  · exfalso
    rw [en, hU.1] at yz
    exact yz rfl
  · exact key1 N 0 1 (Nat.zero_le _) (.inr ⟨by decide, fun yi yhi => absurd yhi (Nat.not_lt_zero yi)⟩)
/-- all ways from ya head -/
theorem c_tmM (yhb : yb < 64) (h2 : 2 ≤ cb yb 6) (hn : yn ≤ 9) (hW : tM yC yR yM yn yW) (ym ya yq : Int32) : ∀ (yr yk yv : Nat) (ys : wS) (yU : AW) (N : Nat), yn = yk + yr → vld yM yb (cb yb 6) yk yv → tS yC yb (cb yb 6) yn yq yW yk yv ys yU → Pa N 236 0 [(0, .ref 69), (1, .int (Int32.ofNat yk)), (2, .int (Int32.ofNat yb)), (3, .int ym), (4, .int ya), (5, .int yq)] [] yU (fun yu V => yu = none ∧ tS yC yb (cb yb 6) yn yq yW yk yv (fN (wU yC yR yM yb (cb yb 6) yn (ym * ya)) (yv * cb yb 6 ^ yr) (cb yb 6 ^ yr) ys) V)
  | 0, yk, yv, ys, yU, N, hk, hv, yhS => by
    have ye : yk = yn := by omega
    subst ye
    have yh := c_tmL yhb hn hW ym ya yq ys hv yhS N
    rw [Nat.pow_zero, Nat.mul_one]
    have ye2 : fN (wU yC yR yM yb (cb yb 6) yk (ym * ya)) yv 1 ys = wU yC yR yM yb (cb yb 6) yk (ym * ya) yv ys := rfl
    rw [ye2]
    exact yh
  | yr + 1, yk, yv, ys, yU, N, hk, hv, yhS => by
    have ek : (Int32.ofNat yk).toInt = (yk : Int) := i32_nat (by omega)
    have ykey : ∀ (N l : Nat) (V : AW), l ≤ 6 → tS yC yb (cb yb 6) yn yq yW yk yv (fN (wU yC yR yM yb (cb yb 6) yn (ym * ya)) (yv * cb yb 6 ^ (yr + 1)) (cb yb l * cb yb 6 ^ yr) ys) V → Pa N 236 152 [(0, .ref 69), (1, .int (Int32.ofNat yk)), (2, .int (Int32.ofNat yb)), (3, .int ym), (4, .int ya), (5, .int yq), (6, .int (Int32.ofNat l))] [] V (fun yu V => yu = none ∧ tS yC yb (cb yb 6) yn yq yW yk yv (fN (wU yC yR yM yb (cb yb 6) yn (ym * ya)) (yv * cb yb 6 ^ (yr + 1)) (cb yb 6 ^ (yr + 1)) ys) V) := by
      intro N
      induction N with
      | zero => intros; exact Pa.zero
      | succ N yih =>
        intro l V hl hV
        have el : (Int32.ofNat l).toInt = (l : Int) := i32_nat (by omega)
        have hU := tM_e hW hV.1
        have yhm := hU.2.2.1 yk (by omega)
        have ea : yv * cb yb 6 ^ (yr + 1) + cb yb l * cb yb 6 ^ yr = (yv * cb yb 6 + cb yb l) * cb yb 6 ^ yr := by
          rw [Nat.pow_succ, Nat.add_mul, Nat.mul_comm (cb yb 6 ^ yr) (cb yb 6), Nat.mul_assoc]
        refine bm_tm3 (Int32.ofNat yk) (Int32.ofNat yb) ym ya yq (Int32.ofNat l) ?_ ?_ ?_ <;> rw [el] <;> (try rw [ek]) <;> (try rw [Int.toNat_natCast]) <;> (try rw [Int.toNat_natCast])
        · intro yz
          have ye : l = 6 := by omega
          subst ye
          have ye2 : cb yb 6 ^ (yr + 1) = cb yb 6 * cb yb 6 ^ yr := by rw [Nat.pow_succ, Nat.mul_comm]
          refine ⟨rfl, ?_⟩
          rw [← ye2] at hV
          exact hV
        · intro z1 _ _ z4
          have hl6 : l < 6 := by omega
          rw [yhm.1] at z4
          have hno : ¬ (yb.testBit l = true ∧ (yM yk).testBit l = true) := fun yz => (bt3 yhb yhm.2 hl6).mpr yz z4
          have yh := yih (l + 1) V (by omega) (by
            by_cases hbl : yb.testBit l = true
            · have hp := pL1 yhb hl6 hbl
              rw [cb_1 hbl, Nat.add_mul, Nat.one_mul, fN_add, ea, fN_id (fun yi yhi ys => wU_0 (fun yz => vld_no (yk := yk) (yr := yr) (by omega) hp.2 yhi (by rw [hp.1]; exact fun yy => hno ⟨hbl, yy⟩) yz.1.1))]
              exact hV
            · rw [cb_0 hbl]
              exact hV)
          rw [on_succ l] at yh
          exact yh
        · intro z1 _ _ z4 _
          have hl6 : l < 6 := by omega
          rw [yhm.1] at z4
          have hy := (bt3 yhb yhm.2 hl6).mp z4
          have hp := pL1 yhb hl6 hy.1
          obtain ⟨g1, g2, yg3, g4, yg5⟩ := hV
          rw [g2 l hl6, hU.2.1 yk (by omega)]
          have ek1 : Int32.ofNat yk + 1 = Int32.ofNat (yk + 1) := (on_succ yk).symm
          rw [ek1]
          refine Pa.mono (c_tmM yhb h2 hn hW ym ya yq yr (yk + 1) (yv * cb yb 6 + cb yb l) (fN (wU yC yR yM yb (cb yb 6) yn (ym * ya)) (yv * cb yb 6 ^ (yr + 1)) (cb yb l * cb yb 6 ^ yr) ys) (uI (uI V 124 yk (Int32.ofNat l)) 127 l (wsp yC yb (cb yb 6) yk yv l + yC yk)) N (by omega) (vld_s hp.2 hv (by rw [hp.1]; exact hy.2)) ⟨mvE_u (mvE_u g1 (.inl rfl)) (.inr (.inr (.inl rfl))), fun yx hx => ?_, fun yi yhi => ?_, ?_, ?_⟩) (fun yu V2 hv2 => ?_)
          · rw [uI_row, wsp_s hp.2, hp.1]
            by_cases ye : yx = l
            · rw [if_pos ye, if_pos ye.symm, ye]
            · rw [if_neg ye, if_neg (fun yz => ye yz.symm), uI_c (by decide)]
              exact g2 yx hx
          · rw [uI_c (by decide), uI_row]
            by_cases ye : yi = yk
            · rw [if_pos ye, ye, lnd_hi hp.2, hp.1]
            · rw [if_neg ye, lnd_lo hp.2 (by omega)]
              exact yg3 yi (by omega)
          · rw [uI_c (by decide), uI_c (by decide)]
            exact g4
          · exact mvW_c yg5 (fun yi => by rw [uI_c (by decide), uI_c (by decide)])
          · obtain ⟨rfl, yk1, yk2, yk3, yk4, yk5⟩ := hv2
            have hU2 := tM_e hW yk1
            have ef : fN (wU yC yR yM yb (cb yb 6) yn (ym * ya)) (yv * cb yb 6 ^ (yr + 1)) (cb yb (l + 1) * cb yb 6 ^ yr) ys = fN (wU yC yR yM yb (cb yb 6) yn (ym * ya)) ((yv * cb yb 6 + cb yb l) * cb yb 6 ^ yr) (cb yb 6 ^ yr) (fN (wU yC yR yM yb (cb yb 6) yn (ym * ya)) (yv * cb yb 6 ^ (yr + 1)) (cb yb l * cb yb 6 ^ yr) ys) := by
              rw [cb_1 hy.1, Nat.add_mul, Nat.one_mul, fN_add, ea]
            refine bm_tm4 (Int32.ofNat yk) (Int32.ofNat yb) ym ya yq (Int32.ofNat l) ?_
            rw [el, ek, Int.toNat_natCast, Int.toNat_natCast]
            intro _ _ _ _
            rw [yk2 l hl6, wsp_s hp.2, if_pos hp.1, hU2.2.1 yk (by omega), Int32.add_sub_cancel]
            have yh := yih (l + 1) (uI V2 127 l (wsp yC yb (cb yb 6) yk yv l)) (by omega) ⟨mvE_u yk1 (.inr (.inr (.inl rfl))), fun yx hx => by
              rw [uI_row]
              by_cases ye : yx = l
              · rw [if_pos ye, ye]
              · rw [if_neg ye, yk2 yx hx, wsp_s hp.2, hp.1, if_neg (fun yz => ye yz.symm)], fun yi yhi => by
              rw [uI_c (by decide), yk3 yi (by omega), lnd_lo hp.2 yhi], by
              rw [uI_c (by decide), yk4, ef], by
              rw [ef]
              exact mvW_c yk5 (fun yi => by rw [uI_c (by decide)])⟩
            rw [on_succ l] at yh
            exact yh
    have hU := tM_e hW yhS.1
    refine bm_tm0 (Int32.ofNat yk) (Int32.ofNat yb) ym ya yq (fun _ => ?_) (fun yz => ?_)
    · refine ykey N 0 yU (Nat.zero_le _) ?_
      have ye0 : cb yb 0 = 0 := rfl
      rw [ye0, Nat.zero_mul]
      exact yhS
    · exfalso
      rw [ek, hU.1] at yz
      omega
end TRM
