/-! RELATIONS AS yA LIST; worths of coins -/
def RX4w (yA : AW) : Prop := ∀ yL, yL < 6 → ∀ yj, yj < (yA.1 72 yL).toInt.toNat → 0 ≤ (yA.1 71 (20 * yL + yj)).toInt ∧ (yA.1 71 (20 * yL + yj)).toInt ≤ 99999
def RX4d (yA : AW) : Prop := RX4c yA ∧ RX4w yA
def S4d : zSu := ([], [70, 71, 72])
theorem RX4d_s (yA yB : AW) (yh : AgS S4d yA yB) (hA : RX4d yA) : RX4d yB := by
  have a70 := (yh.2 70 (by simp [S4d])).1
  have a71 := (yh.2 71 (by simp [S4d])).1
  have a72 := (yh.2 72 (by simp [S4d])).1
  unfold RX4d RX4c RX4w at hA ⊢
  rw [← a70, ← a71, ← a72]
  exact hA
theorem k_coinW {yA A1 A2 : AW} {l yd yv yx yy : Int32} (hA : okA yA) (hR : eqRs Ar4 yA) (hX : RX4w yA) (ys1 : dCoin l yd yv yA (some (.int yx)) A1) (ys2 : eCoin l yd yv A1 (some (.int yy)) A2) : RX4w A2 := by
  have r3 : eqR 6 (23, 72) yA := hR (23, 72) (by simp [Ar4]) 6 (by decide +kernel)
  rcases ys1 with ⟨ya1, a2, rfl⟩ | ⟨ya1, a2, a3, rfl⟩ | ⟨ya1, a2, a3, rfl⟩
  · rcases ys2 with ⟨b1, b2, rfl⟩ | ⟨b1, b2, b3, rfl⟩ | ⟨b1, b2, b3, rfl⟩
    · exact hX
    · exact absurd b1 ya1
    · exact absurd b1 ya1
  · have hL : l.toInt.toNat < 6 := by have := ya1.2.1; have := ya1.1; omega
    have ye3 : A1.1 23 l.toInt.toNat = A1.1 72 l.toInt.toNat := r3 _ hL
    have g2 := hA.arr (i := 72) (t := 0) (n := 6) (j := l.toInt.toNat) (lo := 0) (hi := 20) (by rfl) hL
    rcases ys2 with ⟨b1, b2, rfl⟩ | ⟨b1, b2, b3, rfl⟩ | ⟨b1, b2, b3, rfl⟩
    · exact absurd ya1 b1
    · exact hX
    · rw [ye3] at a2; omega
  · obtain ⟨yL, hLl⟩ : ∃ yL, l.toInt.toNat = yL := ⟨_, rfl⟩
    have hL : yL < 6 := by have := ya1.2.1; have := ya1.1; omega
    have ye3 : yA.1 23 yL = yA.1 72 yL := r3 _ hL
    have g2 := hA.arr (i := 72) (t := 0) (n := 6) (j := yL) (lo := 0) (hi := 20) (by rfl) hL
    rw [hLl, ye3] at a2 a3
    obtain ⟨yc, yhc⟩ : ∃ yc, (yA.1 72 yL).toInt.toNat = yc := ⟨_, rfl⟩
    have ix : (20 * l + yA.1 72 yL).toInt.toNat = 20 * yL + yc := by
      rw [i20a ya1.1 ya1.2.1 g2.1 g2.2]
      have := ya1.1
      omega
    have hX1 : coinX yA l yd yv = uI (uI (uI yA 21 (20 * yL + yc) yd) 22 (20 * yL + yc) yv) 23 yL (yA.1 72 yL + 1) := by
      unfold coinX
      rw [hLl, ye3, Int32.mul_comm l 20, ix]
    have ye72 : (coinX yA l yd yv).1 72 yL = yA.1 72 yL := by rw [hX1]; simp [uI]
    have hM1 : coinM (coinX yA l yd yv) l yd yv = uI (uI (uI (coinX yA l yd yv) 70 (20 * yL + yc) yd) 71 (20 * yL + yc) yv) 72 yL (yA.1 72 yL + 1) := by
      unfold coinM
      rw [hLl, ye72, ix]
    unfold eCoin at ys2
    rw [hLl, ye72] at ys2
    rcases ys2 with ⟨b1, b2, rfl⟩ | ⟨b1, b2, b3, rfl⟩ | ⟨b1, b2, b3, rfl⟩
    · exact absurd ya1 b1
    · omega
    · have hT1 : (yA.1 72 yL + 1).toInt = (yA.1 72 yL).toInt + 1 := i32_add1 (by omega)
      rw [hM1, hX1]
      intro yK yhK yj hj
      have gK := hA.arr (i := 72) (t := 0) (n := 6) (j := yK) (lo := 0) (hi := 20) (by rfl) yhK
      rw [uI_row] at hj
      rw [uI_c (by decide), uI_row]
      by_cases ye : yK = yL
      · rw [if_pos ye, hT1] at hj
        by_cases ye2 : 20 * yK + yj = 20 * yL + yc
        · rw [if_pos ye2]
          have := ya1.2.2.2.2
          omega
        · rw [if_neg ye2, uI_c (by decide), uI_c (by decide), uI_c (by decide), uI_c (by decide)]
          exact hX yK yhK yj (by rw [ye] at ye2 ⊢; omega)
      · rw [if_neg ye, uI_c (by decide), uI_c (by decide), uI_c (by decide), uI_c (by decide), uI_c (by decide)] at hj
        rw [if_neg (by omega), uI_c (by decide), uI_c (by decide), uI_c (by decide), uI_c (by decide)]
        exact hX yK yhK yj hj
theorem h_coinW {yp : zPr} (hp : yp.1 = 99 ∧ yp.2.1 = 161 ∧ yp.2.2.1 = 3) (yhc : c_rm yp = true) : PairOK (RR [] Ar4 RX4d) yp := by
  obtain ⟨yp1, yp2, yp3⟩ := hp
  refine pairK (D := on3 dCoin) (E := on3 eCoin) (by decide +kernel) (by decide +kernel) yhc (fun N yA yas _ hl => ?_) (fun N yA yas _ hl => ?_) (fun yA A1 A2 yas yx yy o1 _ _ hF hR hX hl ys1 ys2 => ?_)
  · rw [yp3] at hl
    obtain ⟨ya, yb, yc, rfl⟩ := as3 hl
    rw [yp1]
    exact d_coin N yA ya yb yc
  · rw [yp3] at hl
    obtain ⟨ya, yb, yc, rfl⟩ := as3 hl
    rw [yp2]
    exact e_coin N yA ya yb yc
  · rw [yp3] at hl
    obtain ⟨ya, yb, yc, rfl⟩ := as3 hl
    obtain ⟨yr1, r2, r3⟩ := k_coin (l := ya) (yd := yb) (yv := yc) o1 hR hX.1 ys1 ys2
    exact ⟨fun yq hq => (by cases hq), yr1, ⟨r2, k_coinW (l := ya) (yd := yb) (yv := yc) o1 hR hX.2 ys1 ys2⟩, fun _ => r3⟩
/-- certificates: their films are there; the year of asking -/
def Rq (yA : AW) : Prop := (∀ yi, yi < (yA.1 69 52).toInt.toNat → (yA.1 106 yi).toInt < (yA.1 69 11).toInt) ∧ ∀ yi, yi < 60 → yA.1 51 yi = yA.1 108 yi / 360
def Sq : zSu := ([(69, 11), (69, 52)], [51, 106, 108])
theorem Rq_s (yA yB : AW) (yh : AgS Sq yA yB) (hX : Rq yA) : Rq yB := by
  have ya1 := yh.1 (69, 11) (by simp [Sq])
  have a2 := yh.1 (69, 52) (by simp [Sq])
  have a51 := (yh.2 51 (by simp [Sq])).1
  have a106 := (yh.2 106 (by simp [Sq])).1
  have a108 := (yh.2 108 (by simp [Sq])).1
  simp only at ya1 a2
  unfold Rq at hX ⊢
  rw [← ya1, ← a2, ← a51, ← a106, ← a108]
  exact hX
/-- prices of likes -/
def Rpr (yA : AW) : Prop := ∀ yj, yj < 120 → 0 ≤ (yA.1 97 yj).toInt
def Spr : zSu := ([], [97])
theorem Rpr_s (yA yB : AW) (yh : AgS Spr yA yB) (hX : Rpr yA) : Rpr yB := by
  have a97 := (yh.2 97 (by simp [Spr])).1
  unfold Rpr at hX ⊢
  rw [← a97]
  exact hX
/-- what is ypaid, on yboth sides; loans: no more is repaid than was lent -/
def Rpy (yA : AW) : Prop := (∀ yj, yj < 60 → yA.1 52 yj = yA.1 109 yj) ∧ (∀ yj, yj < 60 → yA.1 53 yj = yA.1 110 yj) ∧ (∀ yj, yj < 60 → yA.1 59 yj = yA.1 114 yj) ∧ (∀ yj, yj < 20 → yA.1 3 yj = yA.1 74 yj) ∧ (∀ yi, yi < (yA.1 69 57).toInt.toNat → 0 ≤ (yA.1 114 yi).toInt ∧ (yA.1 114 yi).toInt ≤ (yA.1 112 yi).toInt ∧ (yA.1 112 yi).toInt ≤ 99999999) ∧ ∀ yi, yi < 60 → (yA.1 69 57).toInt.toNat ≤ yi → yA.1 114 yi = 0
def Spy : zSu := ([(69, 57)], [52, 109, 53, 110, 59, 114, 3, 74, 112])
theorem Rpy_s (yA yB : AW) (yh : AgS Spy yA yB) (hX : Rpy yA) : Rpy yB := by
  have ya1 := yh.1 (69, 57) (by simp [Spy])
  have a52 := (yh.2 52 (by simp [Spy])).1
  have a109 := (yh.2 109 (by simp [Spy])).1
  have a53 := (yh.2 53 (by simp [Spy])).1
  have a110 := (yh.2 110 (by simp [Spy])).1
  have a59 := (yh.2 59 (by simp [Spy])).1
  have a114 := (yh.2 114 (by simp [Spy])).1
  have a3 := (yh.2 3 (by simp [Spy])).1
  have a74 := (yh.2 74 (by simp [Spy])).1
  have a112 := (yh.2 112 (by simp [Spy])).1
  simp only at ya1
  unfold Rpy at hX ⊢
  rw [← ya1, ← a52, ← a109, ← a53, ← a110, ← a59, ← a114, ← a3, ← a74, ← a112]
  exact hX
/-- late finds are no more than the coins -/
def Rlt (yA : AW) : Prop := ∀ yc, yc < (yA.1 69 31).toInt.toNat → 0 ≤ (yA.1 92 yc).toInt ∧ (yA.1 92 yc).toInt ≤ (yA.1 91 yc).toInt
def Slt : zSu := ([(69, 31)], [91, 92])
theorem Rlt_s (yA yB : AW) (yh : AgS Slt yA yB) (hX : Rlt yA) : Rlt yB := by
  have ya1 := yh.1 (69, 31) (by simp [Slt])
  have a91 := (yh.2 91 (by simp [Slt])).1
  have a92 := (yh.2 92 (by simp [Slt])).1
  simp only at ya1
  unfold Rlt at hX ⊢
  rw [← ya1, ← a91, ← a92]
  exact hX
/-- films have houses -/
def Rfh (yA : AW) : Prop := ∀ yf, yf < (yA.1 69 11).toInt.toNat → 0 ≤ (yA.1 76 yf).toInt ∧ (yA.1 76 yf).toInt < (yA.1 69 7).toInt
def Sfh : zSu := ([(69, 7), (69, 11)], [76])
theorem Rfh_s (yA yB : AW) (yh : AgS Sfh yA yB) (hX : Rfh yA) : Rfh yB := by
  have ya1 := yh.1 (69, 7) (by simp [Sfh])
  have a2 := yh.1 (69, 11) (by simp [Sfh])
  have a76 := (yh.2 76 (by simp [Sfh])).1
  simp only at ya1 a2
  unfold Rfh at hX ⊢
  rw [← ya1, ← a2, ← a76]
  exact hX
/-- movable costs, and the latest split -/
def Rtr (yA : AW) : Prop := yA.1 61 9 = yA.1 69 76 ∧ yA.1 61 10 = yA.1 69 79 ∧ (∀ yj, yj < (yA.1 69 79).toInt.toNat → yA.1 64 yj = yA.1 125 yj) ∧ ((yA.1 69 79).toInt = 0 → yA.1 69 80 = -1) ∧ ((yA.1 69 79).toInt ≠ 0 → yA.1 61 11 = yA.1 69 80) ∧ ∀ yi, yi < (yA.1 69 76).toInt.toNat → (1 ≤ (yA.1 122 yi).toInt ∧ (yA.1 122 yi).toInt ≤ 9999) ∧ 1 ≤ (yA.1 123 yi).toInt ∧ (yA.1 123 yi).toInt ≤ 63
def Str : zSu := ([(61, 9), (61, 10), (61, 11), (69, 76), (69, 79), (69, 80)], [64, 125, 122, 123])
theorem Rtr_s (yA yB : AW) (yh : AgS Str yA yB) (hX : Rtr yA) : Rtr yB := by
  have ya1 := yh.1 (61, 9) (by simp [Str])
  have a2 := yh.1 (61, 10) (by simp [Str])
  have a3 := yh.1 (61, 11) (by simp [Str])
  have a4 := yh.1 (69, 76) (by simp [Str])
  have a5 := yh.1 (69, 79) (by simp [Str])
  have a6 := yh.1 (69, 80) (by simp [Str])
  have a64 := (yh.2 64 (by simp [Str])).1
  have a125 := (yh.2 125 (by simp [Str])).1
  have a122 := (yh.2 122 (by simp [Str])).1
  have a123 := (yh.2 123 (by simp [Str])).1
  simp only at ya1 a2 a3 a4 a5 a6
  unfold Rtr at hX ⊢
  rw [← ya1, ← a2, ← a3, ← a4, ← a5, ← a6, ← a64, ← a125, ← a122, ← a123]
  exact hX
/-! the ylist -/
def rxN (yi : Nat) (yA : AW) : Prop := match yi with
  | 0 => RZl yA
  | 1 => RX14 yA
  | 2 => RXt yA
  | 3 => Rz6 yA
  | 4 => RX4d yA
  | 5 => RX19 yA
  | 6 => R24 yA
  | 7 => Rfl yA
  | 8 => Rq yA
  | 9 => Rpr yA
  | 10 => Rpy yA
  | 11 => Rfh yA
  | 12 => Rlt yA
  | 13 => Rtr yA
  | _ => True
def kxN (yi : Nat) (ywr : zWr) : Bool := match yi with
  | 0 => kRl ywr
  | 1 => kpS S14 ywr
  | 2 => kRt ywr
  | 3 => kpS S6 ywr
  | 4 => kpS S4d ywr
  | 5 => kpS S19 ywr
  | 6 => kpS S24 ywr
  | 7 => kpS Sfl ywr
  | 8 => kpS Sq ywr
  | 9 => kpS Spr ywr
  | 10 => kpS Spy ywr
  | 11 => kpS Sfh ywr
  | 12 => kpS Slt ywr
  | 13 => kpS Str ywr
  | _ => true
theorem keepN (yi : Nat) : Keeps (rxN yi) (kxN yi) := by
  rcases (by omega : yi = 0 ∨ yi = 1 ∨ yi = 2 ∨ yi = 3 ∨ yi = 4 ∨ yi = 5 ∨ yi = 6 ∨ yi = 7 ∨ yi = 8 ∨ yi = 9 ∨ yi = 10 ∨ yi = 11 ∨ yi = 12 ∨ yi = 13 ∨ yi = (yi - 14) + 14) with yz | yz | yz | yz | yz | yz | yz | yz | yz | yz | yz | yz | yz | yz | yz
  all_goals rw [yz]
  · exact keepL
  · exact Keeps.of RX14_s
  · exact RXt_keep
  · exact Keeps.of Rz6_s
  · exact Keeps.of RX4d_s
  · exact Keeps.of RX19_s
  · exact Keeps.of R24_s
  · exact Keeps.of Rfl_s
  · exact Keeps.of Rq_s
  · exact Keeps.of Rpr_s
  · exact Keeps.of Rpy_s
  · exact Keeps.of Rfh_s
  · exact Keeps.of Rlt_s
  · exact Keeps.of Rtr_s
  · exact fun _ _ _ _ _ _ _ _ => trivial
def RXL (yI : List Nat) (yA : AW) : Prop := ∀ yi ∈ yI, rxN yi yA
def kXL (yI : List Nat) (ywr : zWr) : Bool := yI.all (fun yi => kxN yi ywr)
theorem keepXL (yI : List Nat) : Keeps (RXL yI) (kXL yI) := fun ywr yw yw1 hW hW1 hf hk yh yi yhi => keepN yi ywr yw yw1 hW hW1 hf (List.all_eq_true.mp hk yi yhi) (yh yi yhi)
theorem RXL1 {yi : Nat} {yA : AW} : rxN yi yA ↔ RXL [yi] yA := by
  refine ⟨fun yh yj hj => ?_, fun yh => yh yi List.mem_cons_self⟩
  rcases List.mem_cons.mp hj with yz | yz
  · rw [yz]
    exact yh
  · cases yz
theorem RXL2 {yi yj : Nat} {yA : AW} : rxN yi yA ∧ rxN yj yA ↔ RXL [yi, yj] yA := by
  refine ⟨fun yh yk hk => ?_, fun yh => ⟨yh yi List.mem_cons_self, yh yj (List.mem_cons_of_mem _ List.mem_cons_self)⟩⟩
  rcases List.mem_cons.mp hk with yz | yz
  · rw [yz]
    exact yh.1
  · rcases List.mem_cons.mp yz with yz | yz
    · rw [yz]
      exact yh.2
    · cases yz
def fsub {α : Type} [DecidableEq α] (yF F' : List α) : Bool := F'.all (fun yq => decide (yq ∈ yF))
def dmin {α : Type} [DecidableEq α] (yF F' : List α) : List α := yF.filter (fun yq => !decide (yq ∈ F'))
theorem fsub_ok {α : Type} [DecidableEq α] {yF F' : List α} (yh : fsub yF F' = true) {yq : α} (hq : yq ∈ F') : yq ∈ yF := of_decide_eq_true (List.all_eq_true.mp yh yq hq)
theorem dm_mem {α : Type} [DecidableEq α] {yF F' : List α} {yq : α} (hq : yq ∈ yF) : yq ∈ F' ++ dmin yF F' := by
  by_cases yz : yq ∈ F'
  · exact List.mem_append_left _ yz
  · exact List.mem_append_right _ (List.mem_filter.mpr ⟨hq, by rw [decide_eq_false yz]; rfl⟩)
theorem dm_app {α : Type} [DecidableEq α] {yF F' : List α} (yh : fsub yF F' = true) {yq : α} (hq : yq ∈ F' ++ dmin yF F') : yq ∈ yF := by
  rcases List.mem_append.mp hq with yz | yz
  · exact fsub_ok yh yz
  · exact (List.mem_filter.mp yz).1
theorem RR_sub {yF F' : zRF} {yA A' : zRA} {yR R' : AW → Prop} {yw : mWd} (hF : ∀ yq, yq ∈ F' → yq ∈ yF) (hA : ∀ yq, yq ∈ A' → yq ∈ yA) (hR : yR (aw yw) → R' (aw yw)) (yh : RR yF yA yR yw) : RR F' A' R' yw := ⟨⟨fun yq hq => yh.1.1 yq (hF yq hq), fun yq hq => yh.1.2 yq (hA yq hq)⟩, hR yh.2⟩
def putB (yF : zRF) (Ar : zRA) (yI : List Nat) (Fi : zRF) (Ai : zRA) (Ii : List Nat) (yp : zPr) : Bool := (((fsub yF Fi && fsub Ar Ai) && fsub yI Ii) && (ri_wr zZ (dmin yF Fi) (dmin Ar Ai) (wX yp) && kXL (dmin yI Ii) (wX yp))) && (ri_wr zZ (dmin yF Fi) (dmin Ar Ai) (wM yp) && kXL (dmin yI Ii) (wM yp))
/-- ya ypair over ya part is one over the whole -/
theorem PairOK.put {yF : zRF} {Ar : zRA} {yI : List Nat} {Fi : zRF} {Ai : zRA} (Ii : List Nat) {Ri : AW → Prop} {yp : zPr} (yh : PairOK (RR Fi Ai Ri) yp) (yhc : c_rm yp = true) (hR : ∀ yA, Ri yA ↔ RXL Ii yA) (yb : putB yF Ar yI Fi Ai Ii yp = true) : PairOK (RR yF Ar (RXL yI)) yp := by
  unfold putB at yb
  rw [Bool.and_eq_true, Bool.and_eq_true, Bool.and_eq_true, Bool.and_eq_true] at yb
  obtain ⟨⟨⟨⟨b1, b2⟩, b3⟩, b4⟩, b5⟩ := yb
  refine (PairOK.ext (F2 := dmin yF Fi) (A2 := dmin Ar Ai) (R2 := RXL (dmin yI Ii)) yh yhc (keepXL _) b4 b5).cong (fun yw => ⟨fun yq => ?_, fun yq => ?_⟩)
  · refine RR_sub (fun yx hx => dm_mem hx) (fun yx hx => dm_mem hx) (fun yr yi yhi => ?_) yq
    rcases List.mem_append.mp (dm_mem (F' := Ii) yhi) with yz | yz
    · exact (hR _).mp yr.1 yi yz
    · exact yr.2 yi yz
  · exact RR_sub (fun yx hx => dm_app b1 hx) (fun yx hx => dm_app b2 hx) (fun yr => ⟨(hR _).mpr (fun yi yhi => yr yi (fsub_ok b3 yhi)), fun yi yhi => yr yi (List.mem_filter.mp yhi).1⟩) yq
/-- ya ypair over the whole but yfor some relations, and one over those -/
theorem PairOK.two {yF : zRF} {Ar : zRA} {yI : List Nat} (I1 Ii : List Nat) {Ri : AW → Prop} {yp : zPr} (h1 : PairOK (RR yF Ar (RXL I1)) yp) (h2 : PairOK (RR [] [] Ri) yp) (hR : ∀ yA, Ri yA ↔ RXL Ii yA) (yb : ((fsub yI I1 && fsub yI Ii) && fsub (I1 ++ Ii) yI) = true) : PairOK (RR yF Ar (RXL yI)) yp := by
  rw [Bool.and_eq_true, Bool.and_eq_true] at yb
  obtain ⟨⟨b1, b2⟩, b3⟩ := yb
  refine (PairOK.and h1 h2).cong (fun yw => ⟨fun yq => ?_, fun yq => ?_⟩)
  · refine RR_sub (fun yx hx => hx) (fun yx hx => hx) (fun yr yi yhi => ?_) yq.1
    rcases List.mem_append.mp (fsub_ok b3 yhi) with yz | yz
    · exact yr yi yz
    · exact (hR _).mp yq.2.2 yi yz
  · exact ⟨RR_sub (fun yx hx => hx) (fun yx hx => hx) (fun yr yi yhi => yr yi (fsub_ok b1 yhi)) yq, RR_sub (fun yx hx => (by cases hx)) (fun yx hx => (by cases hx)) (fun yr => (hR _).mpr (fun yi yhi => yr yi (fsub_ok b2 yhi))) yq⟩
/-- ya tried ytext, over the ylist -/
theorem h_tryL {yF : zRF} {Ar : zRA} {yI : List Nat} {yp : zPr} (hp : yp.1 = 140 ∧ yp.2.1 = 248 ∧ yp.2.2.1 = 1 ∧ yp.2.2.2.1 = false) (yhc : c_rm yp = true) (yq1 : (ri_wr zZ yF Ar (wX yp) && kXL (dmin yI [6]) (wX yp)) = true) (yq2 : (ri_wr zZ yF Ar (wM yp) && kXL (dmin yI [6]) (wM yp)) = true) (yq3 : kpS ([(38, 8)], []) (wM yp) = true) (yq4 : kpS ([(69, 69)], []) (wX yp) = true) (yb : fsub yI [6] = true) : PairOK (RR yF Ar (RXL yI)) yp := by
  refine (h_try (keepXL (dmin yI [6])) hp yhc yq1 yq2 yq3 yq4).cong (fun yw => ⟨fun yq => ?_, fun yq => ?_⟩)
  · refine RR_sub (fun yx hx => hx) (fun yx hx => hx) (fun yr yi yhi => ?_) yq
    rcases List.mem_append.mp (dm_mem (F' := [6]) yhi) with yz | yz
    · rcases List.mem_cons.mp yz with yz | yz
      · rw [yz]; exact yr.2
      · cases yz
    · exact yr.1 yi yz
  · exact RR_sub (fun yx hx => hx) (fun yx hx => hx) (fun yr => ⟨fun yi yhi => yr yi (List.mem_filter.mp yhi).1, yr 6 (fsub_ok yb List.mem_cons_self)⟩) yq
