/-! ACT: single steps of both sides -/
def cbyX (yA : AW) (ya : Nat) (yk : Int32) : Int32 := if (yA.1 ya 11).toInt < 0 then yA.1 ya 2 else if yk.toInt < (yA.1 ya 11).toInt then yA.1 ya 2 else yA.1 ya 2 - yA.1 ya 12
def kofM (yA : AW) (yc yk : Int32) : Int32 := if (yA.1 93 yc.toInt.toNat).toInt < 0 then yA.1 91 yc.toInt.toNat else if yk.toInt < (yA.1 93 yc.toInt.toNat).toInt then yA.1 91 yc.toInt.toNat else yA.1 91 yc.toInt.toNat - yA.1 92 yc.toInt.toNat
theorem bx_cby {N : Nat} {yA : AW} {yQ : Option Value → AW → Prop} (ya : Nat) (yk : Int32)
    (l1 : (yA.1 ya 11).toInt < 0 → yQ (some (.int (yA.1 ya 2))) yA)
    (l2 : 0 ≤ (yA.1 ya 11).toInt → yk.toInt < (yA.1 ya 11).toInt → yQ (some (.int (yA.1 ya 2))) yA)
    (l3 : 0 ≤ (yA.1 ya 11).toInt → (yA.1 ya 11).toInt ≤ yk.toInt → yQ (some (.int ((yA.1 ya 2) - (yA.1 ya 12)))) yA) :
    Pa N 20 0 [(0, .ref ya), (1, .int yk)] [] yA yQ := by
  refine Pa.mp 1 (pc' := 1) (l' := [(0, .ref ya), (1, .int yk)]) (st' := [.ref ya]) (by rfl) ?_
  refine Pa.gfI (v := yA.1 ya 11) (by rfl) (by rfl) (.inl rfl) (by rfl) (by rfl) ?_
  refine Pa.if1 (a := (yA.1 ya 11).toInt) (t := 27) (by rfl) (by rfl) (rfl) (fun h1 => ?_) (fun h2 => ?_)
  · have h1 : (yA.1 ya 11).toInt < 0 := h1
    refine Pa.mp 1 (pc' := 28) (l' := [(0, .ref ya), (1, .int yk)]) (st' := [.ref ya]) (by rfl) ?_
    refine Pa.gfI (v := yA.1 ya 2) (by rfl) (by rfl) (.inl rfl) (by rfl) (by rfl) ?_
    refine Pa.iret (by rfl) ?_
    exact l1 h1
  · have h2 : 0 ≤ (yA.1 ya 11).toInt := h2
    refine Pa.mp 2 (pc' := 9) (l' := [(0, .ref ya), (1, .int yk)]) (st' := [.ref ya, .int yk]) (by rfl) ?_
    refine Pa.gfI (v := yA.1 ya 11) (by rfl) (by rfl) (.inl rfl) (by rfl) (by rfl) ?_
    refine Pa.if2 (a := yk.toInt) (b := (yA.1 ya 11).toInt) (t := 27) (by rfl) (by rfl) (rfl) (rfl) (fun h3 => ?_) (fun h4 => ?_)
    · have h3 : yk.toInt < (yA.1 ya 11).toInt := h3
      refine Pa.mp 1 (pc' := 28) (l' := [(0, .ref ya), (1, .int yk)]) (st' := [.ref ya]) (by rfl) ?_
      refine Pa.gfI (v := yA.1 ya 2) (by rfl) (by rfl) (.inl rfl) (by rfl) (by rfl) ?_
      refine Pa.iret (by rfl) ?_
      exact l2 h2 h3
    · have h4 : (yA.1 ya 11).toInt ≤ yk.toInt := h4
      refine Pa.mp 1 (pc' := 16) (l' := [(0, .ref ya), (1, .int yk)]) (st' := [.ref ya]) (by rfl) ?_
      refine Pa.gfI (v := yA.1 ya 2) (by rfl) (by rfl) (.inl rfl) (by rfl) (by rfl) ?_
      refine Pa.mp 1 (pc' := 20) (l' := [(0, .ref ya), (1, .int yk)]) (st' := [.ref ya, .int (yA.1 ya 2)]) (by rfl) ?_
      refine Pa.gfI (v := yA.1 ya 12) (by rfl) (by rfl) (.inl rfl) (by rfl) (by rfl) ?_
      refine Pa.mp 2 (pc' := 31) (l' := [(0, .ref ya), (1, .int yk)]) (st' := [.int ((yA.1 ya 2) - (yA.1 ya 12))]) (by rfl) ?_
      refine Pa.iret (by rfl) ?_
      exact l3 h2 h4

theorem bm_kof {N : Nat} {yA : AW} {yQ : Option Value → AW → Prop} (yc yk : Int32)
    (l1 : 0 ≤ yc.toInt → yc.toInt < 150 → (yA.1 93 yc.toInt.toNat).toInt < 0 → yQ (some (.int ((yA.1 91 yc.toInt.toNat) - 0))) yA)
    (l2 : 0 ≤ yc.toInt → yc.toInt < 150 → 0 ≤ (yA.1 93 yc.toInt.toNat).toInt → yk.toInt < (yA.1 93 yc.toInt.toNat).toInt → yQ (some (.int ((yA.1 91 yc.toInt.toNat) - 0))) yA)
    (l3 : 0 ≤ yc.toInt → yc.toInt < 150 → 0 ≤ (yA.1 93 yc.toInt.toNat).toInt → (yA.1 93 yc.toInt.toNat).toInt ≤ yk.toInt → yQ (some (.int ((yA.1 91 yc.toInt.toNat) - (yA.1 92 yc.toInt.toNat)))) yA) :
    Pa N 180 0 [(0, .ref 69), (1, .int yc), (2, .int yk)] [] yA yQ := by
  refine Pa.mp 1 (pc' := 1) (l' := [(0, .ref 69), (1, .int yc), (2, .int yk)]) (st' := [.ref 69]) (by rfl) ?_
  refine Pa.gfR (by rfl) (by rfl) (.inl rfl) (by rfl) ?_
  show Pa N 180 4 [(0, .ref 69), (1, .int yc), (2, .int yk)] [.ref 91] yA _
  refine Pa.mp 1 (pc' := 5) (l' := [(0, .ref 69), (1, .int yc), (2, .int yk)]) (st' := [.int yc, .ref 91]) (by rfl) ?_
  refine Pa.alds (v := yA.1 91 yc.toInt.toNat) (by rfl) (by rfl) (by rfl) (fun h1 h2 => ?_)
  have h1 : 0 ≤ yc.toInt := h1
  have h2 : yc.toInt < 150 := h2
  refine Pa.mp 1 (pc' := 7) (l' := [(0, .ref 69), (1, .int yc), (2, .int yk)]) (st' := [.ref 69, .int (yA.1 91 yc.toInt.toNat)]) (by rfl) ?_
  refine Pa.gfR (by rfl) (by rfl) (.inl rfl) (by rfl) ?_
  show Pa N 180 10 [(0, .ref 69), (1, .int yc), (2, .int yk)] [.ref 93, .int (yA.1 91 yc.toInt.toNat)] yA _
  refine Pa.mp 1 (pc' := 11) (l' := [(0, .ref 69), (1, .int yc), (2, .int yk)]) (st' := [.int yc, .ref 93, .int (yA.1 91 yc.toInt.toNat)]) (by rfl) ?_
  refine Pa.alds (v := yA.1 93 yc.toInt.toNat) (by rfl) (by rfl) (by rfl) (fun h3 h4 => ?_)
  have h3 : 0 ≤ yc.toInt := h3
  have h4 : yc.toInt < 150 := h4
  refine Pa.ic (x := 0) (pc' := 13) (by rfl) (by rfl) (by decide) ?_
  refine Pa.mp 1 (pc' := 14) (l' := [(0, .ref 69), (1, .int yc), (2, .int yk)]) (st' := [.int yk, .int 0, .int (yA.1 93 yc.toInt.toNat), .int (yA.1 91 yc.toInt.toNat)]) (by rfl) ?_
  refine Pa.ist (by rfl) (by rfl) (.inl rfl) (by rfl) (by rfl) ?_
  show Pa N 152 0 [(0, .int (yA.1 93 yc.toInt.toNat)), (1, .int 0), (2, .int yk)] [] yA _
  refine Pa.mp 2 (pc' := 2) (l' := [(0, .int (yA.1 93 yc.toInt.toNat)), (1, .int 0), (2, .int yk)]) (st' := [.int 0, .int (yA.1 93 yc.toInt.toNat)]) (by rfl) ?_
  refine Pa.if2 (a := (yA.1 93 yc.toInt.toNat).toInt) (b := 0) (t := 14) (by rfl) (by rfl) (rfl) (by decide) (fun h5 => ?_) (fun h6 => ?_)
  · have h5 : (yA.1 93 yc.toInt.toNat).toInt < 0 := h5
    refine Pa.ic (x := 0) (pc' := 15) (by rfl) (by rfl) (by decide) ?_
    refine Pa.iret (by rfl) ?_
    show Pa N 180 17 [(0, .ref 69), (1, .int yc), (2, .int yk)] [.int 0, .int (yA.1 91 yc.toInt.toNat)] yA _
    refine Pa.if1k true (by rfl) (by rfl) (by decide) ?_
    show Pa N 180 29 [(0, .ref 69), (1, .int yc), (2, .int yk)] [.int (yA.1 91 yc.toInt.toNat)] yA _
    refine Pa.ic (x := 0) (pc' := 30) (by rfl) (by rfl) (by decide) ?_
    refine Pa.mp 1 (pc' := 31) (l' := [(0, .ref 69), (1, .int yc), (2, .int yk)]) (st' := [.int ((yA.1 91 yc.toInt.toNat) - 0)]) (by rfl) ?_
    refine Pa.iret (by rfl) ?_
    exact l1 h1 h2 h5
  · have h6 : 0 ≤ (yA.1 93 yc.toInt.toNat).toInt := h6
    refine Pa.mp 2 (pc' := 7) (l' := [(0, .int (yA.1 93 yc.toInt.toNat)), (1, .int 0), (2, .int yk)]) (st' := [.int yk, .int (yA.1 93 yc.toInt.toNat)]) (by rfl) ?_
    refine Pa.if2 (a := (yA.1 93 yc.toInt.toNat).toInt) (b := yk.toInt) (t := 14) (by rfl) (by rfl) (rfl) (rfl) (fun h7 => ?_) (fun h8 => ?_)
    · have h7 : yk.toInt < (yA.1 93 yc.toInt.toNat).toInt := h7
      refine Pa.ic (x := 0) (pc' := 15) (by rfl) (by rfl) (by decide) ?_
      refine Pa.iret (by rfl) ?_
      show Pa N 180 17 [(0, .ref 69), (1, .int yc), (2, .int yk)] [.int 0, .int (yA.1 91 yc.toInt.toNat)] yA _
      refine Pa.if1k true (by rfl) (by rfl) (by decide) ?_
      show Pa N 180 29 [(0, .ref 69), (1, .int yc), (2, .int yk)] [.int (yA.1 91 yc.toInt.toNat)] yA _
      refine Pa.ic (x := 0) (pc' := 30) (by rfl) (by rfl) (by decide) ?_
      refine Pa.mp 1 (pc' := 31) (l' := [(0, .ref 69), (1, .int yc), (2, .int yk)]) (st' := [.int ((yA.1 91 yc.toInt.toNat) - 0)]) (by rfl) ?_
      refine Pa.iret (by rfl) ?_
      exact l2 h1 h2 h6 h7
    · have h8 : (yA.1 93 yc.toInt.toNat).toInt ≤ yk.toInt := h8
      refine Pa.ic (x := 1) (pc' := 11) (by rfl) (by rfl) (by decide) ?_
      refine Pa.mp 1 (pc' := 15) (l' := [(0, .int (yA.1 93 yc.toInt.toNat)), (1, .int 0), (2, .int yk)]) (st' := [.int 1]) (by rfl) ?_
      refine Pa.iret (by rfl) ?_
      show Pa N 180 17 [(0, .ref 69), (1, .int yc), (2, .int yk)] [.int 1, .int (yA.1 91 yc.toInt.toNat)] yA _
      refine Pa.if1k false (by rfl) (by rfl) (by decide) ?_
      show Pa N 180 20 [(0, .ref 69), (1, .int yc), (2, .int yk)] [.int (yA.1 91 yc.toInt.toNat)] yA _
      refine Pa.mp 1 (pc' := 21) (l' := [(0, .ref 69), (1, .int yc), (2, .int yk)]) (st' := [.ref 69, .int (yA.1 91 yc.toInt.toNat)]) (by rfl) ?_
      refine Pa.gfR (by rfl) (by rfl) (.inl rfl) (by rfl) ?_
      show Pa N 180 24 [(0, .ref 69), (1, .int yc), (2, .int yk)] [.ref 92, .int (yA.1 91 yc.toInt.toNat)] yA _
      refine Pa.mp 1 (pc' := 25) (l' := [(0, .ref 69), (1, .int yc), (2, .int yk)]) (st' := [.int yc, .ref 92, .int (yA.1 91 yc.toInt.toNat)]) (by rfl) ?_
      refine Pa.alds (v := yA.1 92 yc.toInt.toNat) (by rfl) (by rfl) (by rfl) (fun h9 h10 => ?_)
      have h9 : 0 ≤ yc.toInt := h9
      have h10 : yc.toInt < 150 := h10
      refine Pa.mp 2 (pc' := 31) (l' := [(0, .ref 69), (1, .int yc), (2, .int yk)]) (st' := [.int ((yA.1 91 yc.toInt.toNat) - (yA.1 92 yc.toInt.toNat))]) (by rfl) ?_
      refine Pa.iret (by rfl) ?_
      exact l3 h1 h2 h6 h8

theorem c_cby (N : Nat) (yA yW : AW) (ya : Nat) (yk : Int32) (yh : ∀ yj, yW.1 ya yj = yA.1 ya yj) : Pa N 20 0 [(0, .ref ya), (1, .int yk)] [] yW (fun yu A1 => yu = some (.int (cbyX yA ya yk)) ∧ A1 = yW) := by
  unfold cbyX
  rw [← yh 11, ← yh 2, ← yh 12]
  refine bx_cby ya yk (fun h1 => ⟨?_, rfl⟩) (fun h1 h2 => ⟨?_, rfl⟩) (fun h1 h2 => ⟨?_, rfl⟩)
  · rw [if_pos h1]
  · rw [if_neg (by omega), if_pos h2]
  · rw [if_neg (by omega), if_neg (by omega)]
theorem c_kof (N : Nat) (yA yW : AW) (yc yk : Int32) (h1 : yW.1 91 = yA.1 91) (h2 : yW.1 92 = yA.1 92) (h3 : yW.1 93 = yA.1 93) : Pa N 180 0 [(0, .ref 69), (1, .int yc), (2, .int yk)] [] yW (fun yu A1 => yu = some (.int (kofM yA yc yk)) ∧ A1 = yW) := by
  unfold kofM
  rw [← h1, ← h2, ← h3]
  refine bm_kof yc yk (fun _ _ yq1 => ⟨?_, rfl⟩) (fun _ _ yq1 yq2 => ⟨?_, rfl⟩) (fun _ _ yq1 yq2 => ⟨?_, rfl⟩)
  · rw [if_pos yq1, Int32.sub_zero]
  · rw [if_neg (by omega), if_pos yq2, Int32.sub_zero]
  · rw [if_neg (by omega), if_neg (by omega)]
/-- bodies written one behind the other -/
def pgl (yb yf yk : Nat) : List Int32 → Nat → AW → AW
  | [], _, yW => yW
  | yy :: l, yi, yW => pgl yb yf yk l (yi + 1) (uI (uI yW yb yi yy) yf yk (Int32.ofNat (yi + 1)))
theorem pgl_c {yb yf yk : Nat} {yc yj : Nat} (h1 : yc ≠ yb) (h2 : yc ≠ yf) : ∀ {l : List Int32} {yi : Nat} {yW : AW}, (pgl yb yf yk l yi yW).1 yc yj = yW.1 yc yj
  | [], _, _ => rfl
  | yy :: l, yi, yW => by
    show (pgl yb yf yk l (yi + 1) (uI (uI yW yb yi yy) yf yk (Int32.ofNat (yi + 1)))).1 yc yj = yW.1 yc yj
    rw [pgl_c h1 h2, uI_c h2, uI_c h1]
theorem pgl_o {yb yf yk : Nat} : ∀ {l : List Int32} {yi : Nat} {yW : AW}, (pgl yb yf yk l yi yW).2 = yW.2
  | [], _, _ => rfl
  | yy :: l, yi, yW => by
    show (pgl yb yf yk l (yi + 1) (uI (uI yW yb yi yy) yf yk (Int32.ofNat (yi + 1)))).2 = yW.2
    rw [pgl_o]
    rfl
theorem pgl_n {yb yf yk : Nat} (yhb : yf ≠ yb) : ∀ {l : List Int32} {yi : Nat} {yW : AW}, yW.1 yf yk = Int32.ofNat yi → (pgl yb yf yk l yi yW).1 yf yk = Int32.ofNat (yi + l.length)
  | [], _, _, yh => yh
  | yy :: l, yi, yW, yh => by
    show (pgl yb yf yk l (yi + 1) (uI (uI yW yb yi yy) yf yk (Int32.ofNat (yi + 1)))).1 yf yk = _
    rw [pgl_n yhb uI_h, List.length_cons]
    congr 1
    omega
theorem pgl_lo {yb yf yk : Nat} (yhb : yb ≠ yf) {yj : Nat} : ∀ {l : List Int32} {yi : Nat} {yW : AW}, yj < yi → (pgl yb yf yk l yi yW).1 yb yj = yW.1 yb yj
  | [], _, _, _ => rfl
  | yy :: l, yi, yW, yh => by
    show (pgl yb yf yk l (yi + 1) (uI (uI yW yb yi yy) yf yk (Int32.ofNat (yi + 1)))).1 yb yj = _
    rw [pgl_lo yhb (by omega), uI_c yhb, uI_k (by omega)]
theorem pgl_at {yb yf yk : Nat} (yhb : yb ≠ yf) {yj : Nat} : ∀ {l : List Int32} {yi : Nat} {yW : AW}, yi ≤ yj → yj < yi + l.length → (pgl yb yf yk l yi yW).1 yb yj = l.getD (yj - yi) 0
  | [], yi, yW, h0, h1 => by
    rw [List.length_nil] at h1
    omega
  | yy :: l, yi, yW, h0, h1 => by
    rw [List.length_cons] at h1
    show (pgl yb yf yk l (yi + 1) (uI (uI yW yb yi yy) yf yk (Int32.ofNat (yi + 1)))).1 yb yj = _
    by_cases ye : yj = yi
    · subst ye
      rw [pgl_lo yhb (by omega), uI_c yhb, uI_h, Nat.sub_self]
      rfl
    · rw [pgl_at yhb (by omega) (by omega), show yj - yi = (yj - (yi + 1)) + 1 from by omega]
      rfl
