/-! WAYS yOF LANDS: the rule -/
/-- how many bits are set below one; the bits that are set, in order -/
def cb (yb : Nat) : Nat → Nat
  | 0 => 0
  | l + 1 => if yb.testBit l = true then cb yb l + 1 else cb yb l
def pL (yb yp : Nat) : Nat := ((List.range 6).find? (fun l => yb.testBit l && Nat.beq (cb yb l) yp)).getD 6
theorem pL_1 : ∀ (yb : Fin 64) (l : Fin 6), yb.val.testBit l.val = true → pL yb.val (cb yb.val l.val) = l.val ∧ cb yb.val l.val < cb yb.val 6 := by decide +kernel
theorem pL_2 : ∀ (yb : Fin 64) (yp : Fin 6), yp.val < cb yb.val 6 → pL yb.val yp.val < 6 ∧ yb.val.testBit (pL yb.val yp.val) = true ∧ cb yb.val (pL yb.val yp.val) = yp.val := by decide +kernel
theorem cb_6 : ∀ yb : Fin 64, cb yb.val 6 ≤ 6 ∧ (cnM (Int32.ofNat yb.val)).toInt = (cb yb.val 6 : Int) ∧ (bcX (Int32.ofNat yb.val)).toInt = (cb yb.val 6 : Int) := by decide +kernel
theorem bt_1 : ∀ (yb : Fin 64) (l : Fin 6), ((Int32.ofNat yb.val >>> (Int32.ofNat l.val &&& 31)) &&& 1).toInt = if yb.val.testBit l.val = true then 1 else 0 := by decide +kernel
theorem bt_2 : ∀ (yb ym : Fin 64), Int32.ofNat yb.val &&& Int32.ofNat ym.val = Int32.ofNat (yb.val &&& ym.val) := by decide +kernel
theorem bt_3 : ∀ (yx : Fin 64) (l : Fin 6), ((Int32.ofNat yx.val &&& (1 <<< (Int32.ofNat l.val &&& 31))).toInt = 0 ↔ yx.val.testBit l.val = false) := by decide +kernel
theorem cb_m {yb l : Nat} : cb yb l ≤ cb yb (l + 1) := by
  show cb yb l ≤ if yb.testBit l = true then cb yb l + 1 else cb yb l
  split <;> omega
theorem cb_mm {yb l : Nat} : ∀ {ym : Nat}, cb yb l ≤ cb yb (l + ym)
  | 0 => Nat.le_refl _
  | ym + 1 => Nat.le_trans (cb_mm (ym := ym)) cb_m
theorem cb_1 {yb l : Nat} (yh : yb.testBit l = true) : cb yb (l + 1) = cb yb l + 1 := if_pos yh
theorem cb_0 {yb l : Nat} (yh : yb.testBit l ≠ true) : cb yb (l + 1) = cb yb l := if_neg yh
theorem pL1 {yb l : Nat} (yhb : yb < 64) (hl : l < 6) (yh : yb.testBit l = true) : pL yb (cb yb l) = l ∧ cb yb l < cb yb 6 := pL_1 ⟨yb, yhb⟩ ⟨l, hl⟩ yh
theorem cb6 {yb : Nat} (yhb : yb < 64) : cb yb 6 ≤ 6 := (cb_6 ⟨yb, yhb⟩).1
theorem pL2 {yb yp : Nat} (yhb : yb < 64) (yh : yp < cb yb 6) : pL yb yp < 6 ∧ yb.testBit (pL yb yp) = true ∧ cb yb (pL yb yp) = yp := pL_2 ⟨yb, yhb⟩ ⟨yp, by have := cb6 yhb; omega⟩ yh
theorem bt1 {yb l : Nat} (yhb : yb < 64) (hl : l < 6) : ((Int32.ofNat yb >>> (Int32.ofNat l &&& 31)) &&& 1).toInt = if yb.testBit l = true then 1 else 0 := bt_1 ⟨yb, yhb⟩ ⟨l, hl⟩
/-- yboth sides' questions after ya bit -/
theorem bt3 {yb ym l : Nat} (yhb : yb < 64) (yhm : ym < 64) (hl : l < 6) : (((Int32.ofNat yb &&& Int32.ofNat ym) &&& (1 <<< (Int32.ofNat l &&& 31))).toInt ≠ 0) ↔ (yb.testBit l = true ∧ ym.testBit l = true) := by
  have h64 : yb &&& ym < 64 := Nat.and_lt_two_pow yb (n := 6) yhm
  have ye := bt_2 ⟨yb, yhb⟩ ⟨ym, yhm⟩
  have ye3 := bt_3 ⟨yb &&& ym, h64⟩ ⟨l, hl⟩
  rw [show Int32.ofNat yb &&& Int32.ofNat ym = Int32.ofNat (yb &&& ym) from ye]
  have ye4 : ((Int32.ofNat (yb &&& ym) &&& (1 <<< (Int32.ofNat l &&& 31))).toInt = 0 ↔ (yb &&& ym).testBit l = false) := ye3
  rw [Ne, ye4, Nat.testBit_and]
  cases yb.testBit l <;> cases ym.testBit l <;> decide
/-! digits -/
def dg (yP yk yv yi : Nat) : Nat := yv / yP ^ (yk - 1 - yi) % yP
theorem dg_lt {yP yk yv yi : Nat} (hP : 0 < yP) : dg yP yk yv yi < yP := Nat.mod_lt _ hP
theorem dg_hi {yP yk yv yx : Nat} (hx : yx < yP) : dg yP (yk + 1) (yv * yP + yx) yk = yx := by
  unfold dg
  rw [show yk + 1 - 1 - yk = 0 from by omega, Nat.pow_zero, Nat.div_one, Nat.mul_comm yv yP, Nat.mul_add_mod, Nat.mod_eq_of_lt hx]
theorem dg_lo {yP yk yv yx yi : Nat} (hx : yx < yP) (yhi : yi < yk) : dg yP (yk + 1) (yv * yP + yx) yi = dg yP yk yv yi := by
  unfold dg
  rw [show yk + 1 - 1 - yi = (yk - 1 - yi) + 1 from by omega, Nat.pow_succ, Nat.mul_comm (yP ^ (yk - 1 - yi)) yP, ← Nat.div_div_eq_div_mul]
  have ye : (yv * yP + yx) / yP = yv := by
    rw [Nat.mul_comm yv yP, Nat.mul_add_div (by omega), Nat.div_eq_of_lt hx, Nat.add_zero]
  rw [ye]
theorem dg_sub {yP yk yv yx yr yw : Nat} (hx : yx < yP) (hw : yw < yP ^ yr) : dg yP (yk + 1 + yr) ((yv * yP + yx) * yP ^ yr + yw) yk = yx := by
  unfold dg
  have ye : ((yv * yP + yx) * yP ^ yr + yw) / yP ^ (yk + 1 + yr - 1 - yk) = yv * yP + yx := by
    rw [show yk + 1 + yr - 1 - yk = yr from by omega, Nat.mul_comm (yv * yP + yx), Nat.mul_add_div (by omega), Nat.div_eq_of_lt hw, Nat.add_zero]
  rw [ye, Nat.mul_comm yv yP, Nat.mul_add_mod, Nat.mod_eq_of_lt hx]
/-! folds -/
abbrev wS : Type := Int32 × Option Nat
def fN (yU : Nat → wS → wS) (ya : Nat) : Nat → wS → wS
  | 0, ys => ys
  | yc + 1, ys => yU (ya + yc) (fN yU ya yc ys)
theorem fN_add {yU : Nat → wS → wS} {ya yc : Nat} {ys : wS} : ∀ {yd : Nat}, fN yU ya (yc + yd) ys = fN yU (ya + yc) yd (fN yU ya yc ys)
  | 0 => rfl
  | yd + 1 => by
    show yU (ya + (yc + yd)) (fN yU ya (yc + yd) ys) = yU (ya + yc + yd) (fN yU (ya + yc) yd (fN yU ya yc ys))
    rw [fN_add, Nat.add_assoc]
theorem fN_id {yU : Nat → wS → wS} {ya : Nat} : ∀ {yc : Nat} {ys : wS}, (∀ yi, yi < yc → ∀ ys, yU (ya + yi) ys = ys) → fN yU ya yc ys = ys
  | 0, _, _ => rfl
  | yc + 1, ys, yh => by
    show yU (ya + yc) (fN yU ya yc ys) = ys
    rw [yh yc (Nat.lt_succ_self yc), fN_id (fun yi yhi => yh yi (by omega))]
/-! sums -/
def spL (yC : Nat → Int32) (yg : Nat → Nat) (l : Nat) : Nat → Int32
  | 0 => 0
  | yk + 1 => if yg yk = l then spL yC yg l yk + yC yk else spL yC yg l yk
theorem spL_1 {yC : Nat → Int32} {yg : Nat → Nat} {l yk : Nat} (yh : yg yk = l) : spL yC yg l (yk + 1) = spL yC yg l yk + yC yk := if_pos yh
theorem spL_0 {yC : Nat → Int32} {yg : Nat → Nat} {l yk : Nat} (yh : yg yk ≠ l) : spL yC yg l (yk + 1) = spL yC yg l yk := if_neg yh
theorem spL_cg {yC : Nat → Int32} {yg yh : Nat → Nat} {l ym : Nat} : ∀ {yk : Nat}, (∀ yi, yi < yk → (yg yi = l ↔ yh yi = ym)) → spL yC yg l yk = spL yC yh ym yk
  | 0, _ => rfl
  | yk + 1, ye => by
    have yih := spL_cg (yC := yC) (yg := yg) (yh := yh) (l := l) (ym := ym) (yk := yk) (fun yi yhi => ye yi (by omega))
    by_cases yz : yg yk = l
    · rw [spL_1 yz, spL_1 ((ye yk (Nat.lt_succ_self yk)).mp yz), yih]
    · rw [spL_0 yz, spL_0 (fun yq => yz ((ye yk (Nat.lt_succ_self yk)).mpr yq)), yih]
theorem spL_no {yC : Nat → Int32} {yg : Nat → Nat} {l : Nat} : ∀ {yk : Nat}, (∀ yi, yi < yk → yg yi ≠ l) → spL yC yg l yk = 0
  | 0, _ => rfl
  | yk + 1, ye => by
    rw [spL_0 (ye yk (Nat.lt_succ_self yk)), spL_no (fun yi yhi => ye yi (by omega))]
theorem spL_b {yC : Nat → Int32} {yg : Nat → Nat} {l yn : Nat} (hC : ∀ yi, yi < yn → 0 ≤ (yC yi).toInt ∧ (yC yi).toInt ≤ 9999) (hn : yn ≤ 9) : ∀ {yk : Nat}, yk ≤ yn → 0 ≤ (spL yC yg l yk).toInt ∧ (spL yC yg l yk).toInt ≤ 9999 * (yk : Int)
  | 0, _ => by
    show 0 ≤ (0 : Int32).toInt ∧ (0 : Int32).toInt ≤ 9999 * ((0 : Nat) : Int)
    decide
  | yk + 1, hk => by
    have yih := spL_b (yg := yg) (l := l) hC hn (yk := yk) (by omega)
    have yc := hC yk (by omega)
    by_cases yz : yg yk = l
    · rw [spL_1 yz, Int32.toInt_add, z_bm0 ⟨by show (-2147483648 : Int) ≤ _; omega, by show _ ≤ (2147483647 : Int); omega⟩]
      omega
    · rw [spL_0 yz]
      omega
theorem sumN_at {yf yg : Nat → Int32} {yd : Nat} {yx : Int32} (yhd : yg yd = yf yd + yx) (hne : ∀ yp, yp ≠ yd → yg yp = yf yp) : ∀ {yP : Nat}, sumN yg yP = if yd < yP then sumN yf yP + yx else sumN yf yP
  | 0 => by
    rw [if_neg (by omega)]
    rfl
  | yP + 1 => by
    have yih := sumN_at yhd hne (yP := yP)
    have ye1 : sumN yg (yP + 1) = sumN yg yP + yg yP := rfl
    have ye2 : sumN yf (yP + 1) = sumN yf yP + yf yP := rfl
    rw [ye1, ye2, yih]
    by_cases yz : yd < yP
    · rw [if_pos yz, if_pos (by omega), hne yP (by omega), Int32.add_assoc, Int32.add_comm yx, Int32.add_assoc]
    · rw [if_neg yz]
      by_cases yq : yd = yP
      · rw [if_pos (by omega), ← yq, yhd, Int32.add_assoc]
      · rw [if_neg (by omega), hne yP (by omega)]
theorem sumN_z : ∀ {yP : Nat}, sumN (fun _ => (0 : Int32)) yP = 0
  | 0 => rfl
  | yP + 1 => by
    have ye1 : sumN (fun _ => (0 : Int32)) (yP + 1) = sumN (fun _ => (0 : Int32)) yP + 0 := rfl
    rw [ye1, sumN_z, Int32.add_zero]
/-- what the sums come to together -/
theorem spL_all {yC : Nat → Int32} {yg : Nat → Nat} {yP : Nat} : ∀ {yk : Nat}, (∀ yi, yi < yk → yg yi < yP) → sumN (fun yp => spL yC yg yp yk) yP = sumN yC yk
  | 0, _ => sumN_z
  | yk + 1, yh => by
    have yih := spL_all (yC := yC) (yg := yg) (yP := yP) (yk := yk) (fun yi yhi => yh yi (by omega))
    have ye := sumN_at (yf := fun yp => spL yC yg yp yk) (yg := fun yp => spL yC yg yp (yk + 1)) (yd := yg yk) (yx := yC yk) (spL_1 rfl) (fun yp hp => spL_0 (fun yq => hp yq.symm)) (yP := yP)
    rw [ye, if_pos (yh yk (Nat.lt_succ_self yk)), yih]
    rfl
def bkS (yR ys : Nat → Int32) : Nat → Int32
  | 0 => 0
  | l + 1 => bkS yR ys l + (yR l * ys l) / 100
/-- over all lands yas over those of the treaty -/
theorem bkS_eq {yR ys s' : Nat → Int32} {yb : Nat} (yhb : yb < 64) (h1 : ∀ l, l < 6 → yb.testBit l = true → ys l = s' (cb yb l)) (h0 : ∀ l, l < 6 → yb.testBit l ≠ true → ys l = 0) : ∀ {l : Nat}, l ≤ 6 → bkS yR ys l = bkS (fun yp => yR (pL yb yp)) s' (cb yb l)
  | 0, _ => rfl
  | l + 1, hl => by
    have yih := bkS_eq (yR := yR) yhb h1 h0 (l := l) (by omega)
    have ye1 : bkS yR ys (l + 1) = bkS yR ys l + (yR l * ys l) / 100 := rfl
    by_cases yz : yb.testBit l = true
    · rw [ye1, cb_1 yz, yih, h1 l (by omega) yz]
      show _ = bkS (fun yp => yR (pL yb yp)) s' (cb yb l) + (yR (pL yb (cb yb l)) * s' (cb yb l)) / 100
      rw [(pL1 yhb (by omega) yz).1]
    · rw [ye1, cb_0 yz, yih, h0 l (by omega) yz, Int32.mul_zero, Int32.zero_div, Int32.add_zero]
/-! ya way -/
def gdS (yb : Nat) (yx : Int32) (ys : Nat → Int32) : Prop := ∀ l, l < 6 → yb.testBit l = true → yx.toInt ≤ (100 * ys l).toInt
def lnd (yb yP yk yv yi : Nat) : Nat := pL yb (dg yP yk yv yi)
def vld (yM : Nat → Nat) (yb yP yk yv : Nat) : Prop := ∀ yi, yi < yk → (yM yi).testBit (lnd yb yP yk yv yi) = true
def wsp (yC : Nat → Int32) (yb yP yk yv l : Nat) : Int32 := spL yC (lnd yb yP yk yv) l yk
def wbk (yC yR : Nat → Int32) (yb yP yn yv : Nat) : Int32 := bkS yR (wsp yC yb yP yn yv) 6
def wOk (yC yR : Nat → Int32) (yM : Nat → Nat) (yb yP yn : Nat) (yx : Int32) (yv : Nat) (ys : wS) : Prop := (vld yM yb yP yn yv ∧ gdS yb yx (wsp yC yb yP yn yv)) ∧ ys.1.toInt < (wbk yC yR yb yP yn yv).toInt
noncomputable def wU (yC yR : Nat → Int32) (yM : Nat → Nat) (yb yP yn : Nat) (yx : Int32) (yv : Nat) (ys : wS) : wS := @ite _ (wOk yC yR yM yb yP yn yx yv ys) (Classical.propDecidable _) (wbk yC yR yb yP yn yv, some yv) ys
section WAY
variable {yC yR : Nat → Int32} {yM : Nat → Nat} {yb yP yn : Nat} {yx : Int32}
theorem wU_1 {yv : Nat} {ys : wS} (yh : wOk yC yR yM yb yP yn yx yv ys) : wU yC yR yM yb yP yn yx yv ys = (wbk yC yR yb yP yn yv, some yv) := @if_pos _ (Classical.propDecidable _) yh _ _ _
theorem wU_0 {yv : Nat} {ys : wS} (yh : ¬ wOk yC yR yM yb yP yn yx yv ys) : wU yC yR yM yb yP yn yx yv ys = ys := @if_neg _ (Classical.propDecidable _) yh _ _ _
/-- ya state that comes of the start -/
def wG (ys : wS) : Prop := (ys.2 = none ∧ ys.1.toInt = -1) ∨ (∃ yv, ys.2 = some yv ∧ 0 ≤ ys.1.toInt)
theorem wG_0 : wG (-1, none) := .inl ⟨rfl, by decide⟩
theorem wG_U {yv : Nat} {ys : wS} (yh : wG ys) : wG (wU yC yR yM yb yP yn yx yv ys) := by
  by_cases yz : wOk yC yR yM yb yP yn yx yv ys
  · rw [wU_1 yz]
    refine .inr ⟨yv, rfl, ?_⟩
    have := yz.2
    show 0 ≤ (wbk yC yR yb yP yn yv).toInt
    rcases yh with yh | ⟨yw, yh⟩ <;> omega
  · rw [wU_0 yz]
    exact yh
theorem wG_f {ya : Nat} : ∀ {yc : Nat} {ys : wS}, wG ys → wG (fN (wU yC yR yM yb yP yn yx) ya yc ys)
  | 0, _, yh => yh
  | yc + 1, _, yh => wG_U (wG_f yh)
theorem wG_1 {ys : wS} (yh : wG ys) : -1 ≤ ys.1.toInt := by
  rcases yh with yh | ⟨yw, yh⟩ <;> omega
theorem wG_v {ya yw : Nat} : ∀ {yc : Nat} {ys : wS}, (fN (wU yC yR yM yb yP yn yx) ya yc ys).2 = some yw → ys.2 = none → ya ≤ yw ∧ yw < ya + yc
  | 0, ys, yh, h0 => by
    have yh : ys.2 = some yw := yh
    rw [h0] at yh
    cases yh
  | yc + 1, ys, yh, h0 => by
    have yh : (wU yC yR yM yb yP yn yx (ya + yc) (fN (wU yC yR yM yb yP yn yx) ya yc ys)).2 = some yw := yh
    by_cases yz : wOk yC yR yM yb yP yn yx (ya + yc) (fN (wU yC yR yM yb yP yn yx) ya yc ys)
    · rw [wU_1 yz] at yh
      have : ya + yc = yw := by injection yh
      omega
    · rw [wU_0 yz] at yh
      have := wG_v yh h0
      omega
theorem vld_no {yv yw yr yk yy : Nat} (hn : yn = yk + 1 + yr) (hy : yy < yP) (hw : yw < yP ^ yr) (yh : ¬ (yM yk).testBit (pL yb yy) = true) : ¬ vld yM yb yP yn ((yv * yP + yy) * yP ^ yr + yw) := fun yz => by
  have := yz yk (by omega)
  unfold lnd at this
  rw [hn, dg_sub hy hw] at this
  exact yh this
theorem lnd_hi {yk yv yy : Nat} (hy : yy < yP) : lnd yb yP (yk + 1) (yv * yP + yy) yk = pL yb yy := by
  unfold lnd
  rw [dg_hi hy]
theorem lnd_lo {yk yv yy yi : Nat} (hy : yy < yP) (yhi : yi < yk) : lnd yb yP (yk + 1) (yv * yP + yy) yi = lnd yb yP yk yv yi := by
  unfold lnd
  rw [dg_lo hy yhi]
theorem vld_s {yk yv yy : Nat} (hy : yy < yP) (yh : vld yM yb yP yk yv) (h2 : (yM yk).testBit (pL yb yy) = true) : vld yM yb yP (yk + 1) (yv * yP + yy) := fun yi yhi => by
  by_cases ye : yi < yk
  · rw [lnd_lo hy ye]
    exact yh yi ye
  · have ye2 : yi = yk := by omega
    rw [ye2, lnd_hi hy]
    exact h2
theorem wsp_s {yk yv yy l : Nat} (hy : yy < yP) : wsp yC yb yP (yk + 1) (yv * yP + yy) l = if pL yb yy = l then wsp yC yb yP yk yv l + yC yk else wsp yC yb yP yk yv l := by
  unfold wsp
  have ye : spL yC (lnd yb yP (yk + 1) (yv * yP + yy)) l yk = spL yC (lnd yb yP yk yv) l yk := spL_cg (fun yi yhi => by rw [lnd_lo hy yhi])
  by_cases yz : pL yb yy = l
  · rw [if_pos yz, spL_1 ((lnd_hi hy).trans yz), ye]
  · rw [if_neg yz, spL_0 (fun yq => yz ((lnd_hi hy).symm.trans yq)), ye]
end WAY
/-- the class's sums are the reference's -/
theorem wsp_1 {yC : Nat → Int32} {yb yn yv l : Nat} (yhb : yb < 64) (hP : 0 < cb yb 6) (hl : l < 6) (yh : yb.testBit l = true) : wsp yC yb (cb yb 6) yn yv l = spL yC (dg (cb yb 6) yn yv) (cb yb l) yn := by
  unfold wsp
  refine spL_cg (fun yi yhi => ?_)
  have yhd := pL2 yhb (dg_lt hP (yk := yn) (yv := yv) (yi := yi))
  unfold lnd
  constructor
  · intro yq
    rw [yq] at yhd
    exact yhd.2.2.symm
  · intro yq
    rw [yq]
    exact (pL1 yhb hl yh).1
theorem wsp_0 {yC : Nat → Int32} {yb yn yv l : Nat} (yhb : yb < 64) (hP : 0 < cb yb 6) (yh : yb.testBit l ≠ true) : wsp yC yb (cb yb 6) yn yv l = 0 := by
  unfold wsp
  refine spL_no (fun yi yhi yq => ?_)
  have yhd := pL2 yhb (dg_lt hP (yk := yn) (yv := yv) (yi := yi))
  unfold lnd at yq
  rw [yq] at yhd
  exact yh yhd.2.1
theorem wbk_c {yC yR : Nat → Int32} {yb yn yv : Nat} (yhb : yb < 64) (hP : 0 < cb yb 6) : wbk yC yR yb (cb yb 6) yn yv = bkS (fun yp => yR (pL yb yp)) (fun yp => spL yC (dg (cb yb 6) yn yv) yp yn) (cb yb 6) :=
  bkS_eq (yR := yR) yhb (fun _ hl yh => wsp_1 yhb hP hl yh) (fun _ _ yh => wsp_0 yhb hP yh) (Nat.le_refl 6)
theorem gdS_c {yC : Nat → Int32} {yb yn yv : Nat} {yx : Int32} (yhb : yb < 64) (hP : 0 < cb yb 6) : gdS yb yx (wsp yC yb (cb yb 6) yn yv) ↔ ∀ yp, yp < cb yb 6 → yx.toInt ≤ (spL yC (dg (cb yb 6) yn yv) yp yn * 100).toInt := by
  constructor
  · intro yh yp hp
    have h2 := pL2 yhb hp
    have h3 := yh (pL yb yp) h2.1 h2.2.1
    rw [wsp_1 yhb hP h2.1 h2.2.1, h2.2.2] at h3
    rw [Int32.mul_comm]
    exact h3
  · intro yh l hl hb2
    have h2 := yh (cb yb l) (pL1 yhb hl hb2).2
    rw [wsp_1 yhb hP hl hb2, Int32.mul_comm]
    exact h2
theorem gdS_0 {yC : Nat → Int32} {yb yP yn yv : Nat} (hC : ∀ yi, yi < yn → 0 ≤ (yC yi).toInt ∧ (yC yi).toInt ≤ 9999) (hn : yn ≤ 9) : gdS yb 0 (wsp yC yb yP yn yv) := fun l _ _ => by
  have yh : 0 ≤ (wsp yC yb yP yn yv l).toInt ∧ (wsp yC yb yP yn yv l).toInt ≤ 9999 * (yn : Int) := spL_b hC hn (Nat.le_refl yn)
  have ye : (100 * wsp yC yb yP yn yv l).toInt = 100 * (wsp yC yb yP yn yv l).toInt := by
    rw [Int32.toInt_mul, show (100 : Int32).toInt = 100 from by decide]
    exact z_bm0 ⟨by show (-2147483648 : Int) ≤ _; omega, by show _ ≤ (2147483647 : Int); omega⟩
  rw [ye, show (0 : Int32).toInt = 0 from by decide]
  omega
