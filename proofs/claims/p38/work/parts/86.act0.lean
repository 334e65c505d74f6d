/-! ACT: single steps of both sides -/
/-- bodies written one behind the other -/
def pgl (yb yf yk : Nat) : List Int32 → Nat → AW → AW
  | [], _, yW => yW
  | yy :: l, yi, yW => pgl yb yf yk l (yi + 1) (uI (uI yW yb yi yy) yf yk (Int32.ofNat (yi + 1)))
theorem pgl_c {yb yf yk : Nat} {yc yj : Nat} (h1 : yc ≠ yb) (h2 : yc ≠ yf) : ∀ {l : List Int32} {yi : Nat} {yW : AW}, (pgl yb yf yk l yi yW).1 yc yj = yW.1 yc yj
  | [], _, _ => rfl
  | yy :: l, yi, yW => by
    show (pgl yb yf yk l (yi + 1) (uI (uI yW yb yi yy) yf yk (Int32.ofNat (yi + 1)))).1 yc yj = yW.1 yc yj
    rw [pgl_c h1 h2, uI_c h2, uI_c h1]
theorem pgl_o {yb yf yk : Nat} : ∀ {l : List Int32} {yi : Nat} {yW : AW}, (pgl yb yf yk l yi yW).2 = yW.2
  | [], _, _ => rfl
  | yy :: l, yi, yW => by
    show (pgl yb yf yk l (yi + 1) (uI (uI yW yb yi yy) yf yk (Int32.ofNat (yi + 1)))).2 = yW.2
    rw [pgl_o]
    rfl
theorem pgl_n {yb yf yk : Nat} (yhb : yf ≠ yb) : ∀ {l : List Int32} {yi : Nat} {yW : AW}, yW.1 yf yk = Int32.ofNat yi → (pgl yb yf yk l yi yW).1 yf yk = Int32.ofNat (yi + l.length)
  | [], _, _, yh => yh
  | yy :: l, yi, yW, yh => by
    show (pgl yb yf yk l (yi + 1) (uI (uI yW yb yi yy) yf yk (Int32.ofNat (yi + 1)))).1 yf yk = _
    rw [pgl_n yhb uI_h, List.length_cons]
    congr 1
    omega
theorem pgl_lo {yb yf yk : Nat} (yhb : yb ≠ yf) {yj : Nat} : ∀ {l : List Int32} {yi : Nat} {yW : AW}, yj < yi → (pgl yb yf yk l yi yW).1 yb yj = yW.1 yb yj
  | [], _, _, _ => rfl
  | yy :: l, yi, yW, yh => by
    show (pgl yb yf yk l (yi + 1) (uI (uI yW yb yi yy) yf yk (Int32.ofNat (yi + 1)))).1 yb yj = _
    rw [pgl_lo yhb (by omega), uI_c yhb, uI_k (by omega)]
theorem pgl_at {yb yf yk : Nat} (yhb : yb ≠ yf) {yj : Nat} : ∀ {l : List Int32} {yi : Nat} {yW : AW}, yi ≤ yj → yj < yi + l.length → (pgl yb yf yk l yi yW).1 yb yj = l.getD (yj - yi) 0
  | [], yi, yW, h0, h1 => by
    rw [List.length_nil] at h1
    omega
  | yy :: l, yi, yW, h0, h1 => by
    rw [List.length_cons] at h1
    show (pgl yb yf yk l (yi + 1) (uI (uI yW yb yi yy) yf yk (Int32.ofNat (yi + 1)))).1 yb yj = _
    by_cases ye : yj = yi
    · subst ye
      rw [pgl_lo yhb (by omega), uI_c yhb, uI_h, Nat.sub_self]
      rfl
    · rw [pgl_at yhb (by omega) (by omega), show yj - yi = (yj - (yi + 1)) + 1 from by omega]
      rfl
