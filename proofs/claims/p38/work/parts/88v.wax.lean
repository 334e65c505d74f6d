/-! WAYS yOF LANDS: the class -/
theorem i_divN {ya yP : Nat} (yha : ya < 100000) (h0 : 0 < yP) (hP : yP < 100) : Int32.ofNat ya / Int32.ofNat yP = Int32.ofNat (ya / yP) := by
  have ye1 : (Int32.ofNat ya).toInt = (ya : Int) := i32_nat (by omega)
  have ye2 : (Int32.ofNat yP).toInt = (yP : Int) := i32_nat (by omega)
  have yh := Nat.div_le_self ya yP
  apply i32_ext
  rw [i32_nat (by omega), Int32.toInt_div_of_ne_right _ _ (fun yq => by
    have yq2 := congrArg Int32.toInt yq
    rw [ye2, show (-1 : Int32).toInt = -1 from by decide] at yq2
    omega), ye1, ye2, Int.tdiv_eq_ediv_of_nonneg (by omega)]
  exact (Int.natCast_ediv ya yP).symm
theorem i_modN {ya yP : Nat} (yha : ya < 100000) (h0 : 0 < yP) (hP : yP < 100) : Int32.ofNat ya - Int32.ofNat ya / Int32.ofNat yP * Int32.ofNat yP = Int32.ofNat (ya % yP) := by
  have ye1 : (Int32.ofNat ya).toInt = (ya : Int) := i32_nat (by omega)
  have ye2 : (Int32.ofNat yP).toInt = (yP : Int) := i32_nat (by omega)
  have yh := Nat.div_le_self ya yP
  have yhm := Nat.mod_lt ya h0
  have yhd : ya / yP * yP + ya % yP = ya := by
    rw [Nat.mul_comm]
    exact Nat.div_add_mod ya yP
  have ye3 : (Int32.ofNat (ya / yP)).toInt = ((ya / yP : Nat) : Int) := i32_nat (by omega)
  have ye4 : (Int32.ofNat (ya / yP) * Int32.ofNat yP).toInt = ((ya / yP * yP : Nat) : Int) := by
    rw [Int32.toInt_mul, ye3, ye2, ← Int.natCast_mul]
    exact z_bm0 ⟨by show (-2147483648 : Int) ≤ _; omega, by show _ ≤ (2147483647 : Int); omega⟩
  apply i32_ext
  rw [i32_nat (by omega), i_divN yha h0 hP, Int32.toInt_sub, ye1, ye4]
  rw [show (ya : Int) - ((ya / yP * yP : Nat) : Int) = ((ya % yP : Nat) : Int) from by omega]
  exact z_bm0 ⟨by show (-2147483648 : Int) ≤ _; omega, by show _ ≤ (2147483647 : Int); omega⟩
theorem pow_b {yP yn : Nat} (hP : yP ≤ 3) (hn : yn ≤ 9) : yP ^ yn ≤ 19683 := Nat.le_trans (Nat.pow_le_pow_left hP yn) (Nat.le_trans (Nat.pow_le_pow_right (by decide) hn) (by decide))
theorem bx_rw0 {N : Nat} {yA : AW} {yQ : Option Value → AW → Prop} (yw : Int32)
    (l1 : Pa N 94 9 [(0, .ref 61), (1, .int yw), (2, .int yw), (3, .int ((yA.1 61 9) - 1))] [] yA yQ) :
    Pa N 94 0 [(0, .ref 61), (1, .int yw)] [] yA yQ := by
  refine Pa.mp 3 (pc' := 3) (l' := [(2, .int yw), (0, .ref 61), (1, .int yw)]) (st' := [.ref 61]) (by rfl) ?_
  refine Pa.gfI (v := yA.1 61 9) (by rfl) (by rfl) (.inl rfl) (by rfl) (by rfl) ?_
  refine Pa.ic (x := 1) (pc' := 7) (by rfl) (by rfl) (by decide) ?_
  refine Pa.mp 2 (pc' := 9) (l' := [(3, .int ((yA.1 61 9) - 1)), (2, .int yw), (0, .ref 61), (1, .int yw)]) (st' := []) (by rfl) ?_
  refine Pa.lv (l' := [(0, .ref 61), (1, .int yw), (2, .int yw), (3, .int ((yA.1 61 9) - 1))]) (lvS_c rfl (lvS_c rfl (lvS_c rfl (lvS_c rfl (lvS_nil))))) rfl ?_
  exact l1

theorem bx_rw1 {N : Nat} {yA : AW} {yQ : Option Value → AW → Prop} (yw l yi : Int32)
    (l1 : yi.toInt < 0 → yQ none yA)
    (l2 : 0 ≤ yi.toInt → (yA.1 61 8).toInt ≤ 0 → yQ none yA)
    (l3 : 0 ≤ yi.toInt → 0 < (yA.1 61 8).toInt → yi.toInt < 9 → Pa N 94 9 [(0, .ref 61), (1, .int yw), (2, .int (l / (yA.1 61 8))), (3, .int (yi + (-1)))] [] (uI yA 68 yi.toInt.toNat (l - l / (yA.1 61 8) * (yA.1 61 8))) yQ) :
    Pa (N + 1) 94 9 [(0, .ref 61), (1, .int yw), (2, .int l), (3, .int yi)] [] yA yQ := by
  refine Pa.mp1 0 (pc' := 10) (l' := [(0, .ref 61), (1, .int yw), (2, .int l), (3, .int yi)]) (st' := [.int yi]) (by rfl) ?_
  refine Pa.if1 (a := yi.toInt) (t := 45) (by rfl) (by rfl) (rfl) (fun h1 => ?_) (fun h2 => ?_)
  · have h1 : yi.toInt < 0 := h1
    refine Pa.vret (by rfl) ?_
    exact l1 h1
  · have h2 : 0 ≤ yi.toInt := h2
    refine Pa.mp 1 (pc' := 14) (l' := [(0, .ref 61), (1, .int yw), (2, .int l), (3, .int yi)]) (st' := [.ref 61]) (by rfl) ?_
    refine Pa.gfI (v := yA.1 61 8) (by rfl) (by rfl) (.inl rfl) (by rfl) (by rfl) ?_
    refine Pa.if1 (a := (yA.1 61 8).toInt) (t := 45) (by rfl) (by rfl) (rfl) (fun h3 => ?_) (fun h4 => ?_)
    · have h3 : (yA.1 61 8).toInt ≤ 0 := h3
      refine Pa.vret (by rfl) ?_
      exact l2 h2 h3
    · have h4 : 0 < (yA.1 61 8).toInt := h4
      refine Pa.mp 1 (pc' := 21) (l' := [(0, .ref 61), (1, .int yw), (2, .int l), (3, .int yi)]) (st' := [.ref 61]) (by rfl) ?_
      refine Pa.gfR (by rfl) (by rfl) (.inl rfl) (by rfl) ?_
      show Pa N 94 24 [(0, .ref 61), (1, .int yw), (2, .int l), (3, .int yi)] [.ref 68] yA _
      refine Pa.mp 3 (pc' := 27) (l' := [(0, .ref 61), (1, .int yw), (2, .int l), (3, .int yi)]) (st' := [.ref 61, .int l, .int yi, .ref 68]) (by rfl) ?_
      refine Pa.gfI (v := yA.1 61 8) (by rfl) (by rfl) (.inl rfl) (by rfl) (by rfl) ?_
      refine Pa.irem (by rfl) ?_
      refine Pa.asts (j' := yi.toInt.toNat) (by rfl) (by rfl) (by rfl) (fun h5 h6 => ?_)
      have h5 : 0 ≤ yi.toInt := h5
      have h6 : yi.toInt < 9 := h6
      show Pa N 94 32 [(0, .ref 61), (1, .int yw), (2, .int l), (3, .int yi)] [] (uI yA 68 yi.toInt.toNat (l - l / (yA.1 61 8) * (yA.1 61 8))) _
      refine Pa.mp 2 (pc' := 34) (l' := [(0, .ref 61), (1, .int yw), (2, .int l), (3, .int yi)]) (st' := [.ref 61, .int l]) (by rfl) ?_
      refine Pa.gfI (v := yA.1 61 8) (by rfl) (by rfl) (.inl rfl) (by rfl) (by show (uI yA 68 yi.toInt.toNat (l - l / (yA.1 61 8) * (yA.1 61 8))).1 61 8 = yA.1 61 8; rw [uI_c (by decide)]) ?_
      refine Pa.idiv (by rfl) ?_
      refine Pa.mp 1 (pc' := 39) (l' := [(2, .int (l / (yA.1 61 8))), (0, .ref 61), (1, .int yw), (3, .int yi)]) (st' := []) (by rfl) ?_
      refine Pa.iinc (x := yi) (c := (-1)) (v := (yi + (-1))) (l' := [(3, .int (yi + (-1))), (2, .int (l / (yA.1 61 8))), (0, .ref 61), (1, .int yw)]) (by rfl) (by rfl) (by decide) (by rfl) (by rfl) ?_
      refine Pa.mp 1 (pc' := 9) (l' := [(3, .int (yi + (-1))), (2, .int (l / (yA.1 61 8))), (0, .ref 61), (1, .int yw)]) (st' := []) (by rfl) ?_
      refine Pa.lv (l' := [(0, .ref 61), (1, .int yw), (2, .int (l / (yA.1 61 8))), (3, .int (yi + (-1)))]) (lvS_c rfl (lvS_c rfl (lvS_c rfl (lvS_c rfl (lvS_nil))))) rfl ?_
      exact l3 h2 h4 h6

theorem c_rwX {yW : AW} {yP yn yw : Nat} (h0 : 0 < yP) (hP : yP ≤ 3) (hn : yn ≤ 9) (e8 : yW.1 61 8 = Int32.ofNat yP) (ye9 : (yW.1 61 9).toInt = (yn : Int)) (hw : yw < yP ^ yn) (N : Nat) : Pa N 94 0 [(0, .ref 61), (1, .int (Int32.ofNat yw))] [] yW (fun yv yU => yv = none ∧ exR 68 yW yU ∧ ∀ yi, yi < yn → yU.1 68 yi = Int32.ofNat (dg yP yn yw yi)) := by
  have pb := pow_b hP hn
  have ykey : ∀ (N yj : Nat) (yU : AW) (yi : Int32), yi.toInt = (yj : Int) - 1 → yj ≤ yn → exR 68 yW yU → (∀ yq, yj ≤ yq → yq < yn → yU.1 68 yq = Int32.ofNat (dg yP yn yw yq)) → Pa N 94 9 [(0, .ref 61), (1, .int (Int32.ofNat yw)), (2, .int (Int32.ofNat (yw / yP ^ (yn - yj)))), (3, .int yi)] [] yU (fun yv yU => yv = none ∧ exR 68 yW yU ∧ ∀ yi, yi < yn → yU.1 68 yi = Int32.ofNat (dg yP yn yw yi)) := by
    intro N
    induction N with
    | zero => intros; exact Pa.zero
    | succ N yih =>
      intro yj yU yi yhi hj hx h1
      have hl : yw / yP ^ (yn - yj) ≤ yw := Nat.div_le_self _ _
      have u8 : yU.1 61 8 = Int32.ofNat yP := (hx.1 61 8 (by decide)).trans e8
      have eP : (Int32.ofNat yP).toInt = (yP : Int) := i32_nat (by omega)
      refine bx_rw1 (Int32.ofNat yw) (Int32.ofNat (yw / yP ^ (yn - yj))) yi ?_ ?_ ?_ <;> rw [yhi] <;> (try rw [u8, eP])
      · intro yq
        have ye : yj = 0 := by omega
        subst ye
        exact ⟨rfl, hx, fun yi yhi => h1 yi (Nat.zero_le yi) yhi⟩
      · intro yq1 yq2
        exfalso
        omega
      · intro yq1 yq2 yq3
        obtain ⟨j', rfl⟩ : ∃ j', yj = j' + 1 := ⟨yj - 1, by omega⟩
        have ei : ((((j' + 1 : Nat) : Int) - 1)).toNat = j' := by omega
        rw [ei, i_modN (by omega) h0 (by omega), i_divN (by omega) h0 (by omega), Nat.div_div_eq_div_mul, ← Nat.pow_succ, show (yn - (j' + 1)).succ = yn - j' from by omega]
        refine yih j' _ (yi + (-1)) ?_ (by omega) (exR_u hx) (fun yq hq hq2 => ?_)
        · rw [i_addx (x := (j' : Int) - 1) (by rw [yhi, show (-1 : Int32).toInt = -1 from by decide]; omega) (by omega) (by omega)]
        · rw [uI_row]
          by_cases ye : yq = j'
          · rw [if_pos ye, ye]
            unfold dg
            rw [show yn - 1 - j' = yn - (j' + 1) from by omega]
          · rw [if_neg ye]
            exact h1 yq (by omega) hq2
  refine bx_rw0 (Int32.ofNat yw) ?_
  have yh := ykey N yn yW (yW.1 61 9 - 1) (by rw [i_subx (x := (yn : Int) - 1) (by rw [ye9, show (1 : Int32).toInt = 1 from by decide]) (by omega) (by omega)]) (Nat.le_refl yn) (exR_refl 68 yW) (fun yq h1 h2 => by omega)
  rw [Nat.sub_self, Nat.pow_zero, Nat.div_one] at yh
  exact yh
/-- what the class's treaty holds, once it is seated -/
def tW (yC yR : Nat → Int32) (yM : Nat → Nat) (yb yn : Nat) (yW : AW) : Prop := (yW.1 61 9).toInt = (yn : Int) ∧ yW.1 61 8 = Int32.ofNat (cb yb 6) ∧ (∀ yi, yi < yn → yW.1 62 yi = yC yi) ∧ (∀ yi, yi < yn → yW.1 63 yi = Int32.ofNat (yM yi) ∧ yM yi < 64) ∧ ∀ yp, yp < cb yb 6 → yW.1 65 yp = Int32.ofNat (pL yb yp) ∧ yW.1 66 yp = yR (pL yb yp)
/-- but yfor the sums and the way -/
def tzE (yW yU : AW) : Prop := (∀ yd yj, yd ≠ 67 → yd ≠ 68 → yU.1 yd yj = yW.1 yd yj) ∧ yU.2 = yW.2
theorem tzE_refl (yW : AW) : tzE yW yW := ⟨fun _ _ _ _ => rfl, rfl⟩
theorem tzE_tr {yW yU V : AW} (yh : tzE yW yU) (yg : tzE yU V) : tzE yW V := ⟨fun yd yj yp yq => (yg.1 yd yj yp yq).trans (yh.1 yd yj yp yq), yg.2.trans yh.2⟩
theorem tzE_67 {yW yU : AW} (yh : tzE yW yU) {yq : Nat} {ym : Int32} : tzE yW (uI yU 67 yq ym) := ⟨fun yd yj yp1 yp2 => (uI_c yp1).trans (yh.1 yd yj yp1 yp2), yh.2⟩
theorem tzE_68 {yW yU : AW} (yh : exR 68 yW yU) : tzE yW yU := ⟨fun yd yj _ yp => yh.1 yd yj yp, yh.2⟩
theorem tW_z {yC yR : Nat → Int32} {yM : Nat → Nat} {yb yn : Nat} {yW yU : AW} (yh : tW yC yR yM yb yn yW) (yz : tzE yW yU) : tW yC yR yM yb yn yU := ⟨by rw [yz.1 61 9 (by decide) (by decide)]; exact yh.1, (yz.1 61 8 (by decide) (by decide)).trans yh.2.1, fun yi yhi => (yz.1 62 yi (by decide) (by decide)).trans (yh.2.2.1 yi yhi), fun yi yhi => ⟨(yz.1 63 yi (by decide) (by decide)).trans (yh.2.2.2.1 yi yhi).1, (yh.2.2.2.1 yi yhi).2⟩, fun yp hp => ⟨(yz.1 65 yp (by decide) (by decide)).trans (yh.2.2.2.2 yp hp).1, (yz.1 66 yp (by decide) (by decide)).trans (yh.2.2.2.2 yp hp).2⟩⟩
theorem bx_wo0 {N : Nat} {yA : AW} {yQ : Option Value → AW → Prop} (yw : Int32)
    (l1 : Pa N 94 0 [(0, .ref 61), (1, .int yw)] [] yA (fun yu A1 => Pa N 95 5 [(0, .ref 61), (1, .int yw)] (yu.toList ++ []) A1 yQ)) :
    Pa N 95 0 [(0, .ref 61), (1, .int yw)] [] yA yQ := by
  refine Pa.mp 2 (pc' := 2) (l' := [(0, .ref 61), (1, .int yw)]) (st' := [.int yw, .ref 61]) (by rfl) ?_
  refine Pa.inv (by rfl) (by rfl) (.inl rfl) (by rfl) ?_
  exact l1

theorem bx_wo1 {N : Nat} {yA : AW} {yQ : Option Value → AW → Prop} (yw : Int32)
    (l1 : Pa N 95 15 [(0, .ref 61), (1, .int yw), (2, .int 0), (3, .int 0)] [] (uI (uI (uI yA 67 0 0) 67 1 0) 67 2 0) yQ) :
    Pa N 95 5 [(0, .ref 61), (1, .int yw)] [] yA yQ := by
  refine Pa.mp 1 (pc' := 6) (l' := [(0, .ref 61), (1, .int yw)]) (st' := [.ref 61]) (by rfl) ?_
  refine Pa.gfR (by rfl) (by rfl) (.inl rfl) (by rfl) ?_
  show Pa N 95 9 [(0, .ref 61), (1, .int yw)] [.ref 67] yA _
  refine Pa.ic (x := 0) (pc' := 10) (by rfl) (by rfl) (by decide) ?_
  refine Pa.ist (by rfl) (by rfl) (.inl rfl) (by rfl) (by rfl) ?_
  show Pa N 272 0 [(0, .ref 67), (1, .int 0)] [] yA _
  refine Pa.ic (x := 0) (pc' := 1) (by rfl) (by rfl) (by decide) ?_
  refine Pa.mp 2 (pc' := 3) (l' := [(2, .int 0), (0, .ref 67), (1, .int 0)]) (st' := [.ref 67]) (by rfl) ?_
  refine Pa.lens (x := 3) (by rfl) (by rfl) (by decide) ?_
  refine Pa.mp 3 (pc' := 7) (l' := [(3, .int 3), (2, .int 0), (0, .ref 67), (1, .int 0)]) (st' := [.int 3, .int 0]) (by rfl) ?_
  refine Pa.if2k false (by rfl) (by rfl) (by decide) ?_
  show Pa N 272 10 [(3, .int 3), (2, .int 0), (0, .ref 67), (1, .int 0)] [] yA _
  refine Pa.mp 3 (pc' := 13) (l' := [(3, .int 3), (2, .int 0), (0, .ref 67), (1, .int 0)]) (st' := [.int 0, .int 0, .ref 67]) (by rfl) ?_
  refine Pa.asts (j' := 0) (by rfl) (by rfl) (by rfl) (fun h1 h2 => ?_)
  show Pa N 272 14 [(3, .int 3), (2, .int 0), (0, .ref 67), (1, .int 0)] [] (uI yA 67 0 0) _
  refine Pa.iinc (x := 0) (c := 1) (v := 1) (l' := [(2, .int 1), (3, .int 3), (0, .ref 67), (1, .int 0)]) (by rfl) (by rfl) (by decide) (by decide) (by rfl) ?_
  refine Pa.mp 3 (pc' := 7) (l' := [(2, .int 1), (3, .int 3), (0, .ref 67), (1, .int 0)]) (st' := [.int 3, .int 1]) (by rfl) ?_
  refine Pa.if2k false (by rfl) (by rfl) (by decide) ?_
  show Pa N 272 10 [(2, .int 1), (3, .int 3), (0, .ref 67), (1, .int 0)] [] (uI yA 67 0 0) _
  refine Pa.mp 3 (pc' := 13) (l' := [(2, .int 1), (3, .int 3), (0, .ref 67), (1, .int 0)]) (st' := [.int 0, .int 1, .ref 67]) (by rfl) ?_
  refine Pa.asts (j' := 1) (by rfl) (by rfl) (by rfl) (fun h3 h4 => ?_)
  show Pa N 272 14 [(2, .int 1), (3, .int 3), (0, .ref 67), (1, .int 0)] [] (uI (uI yA 67 0 0) 67 1 0) _
  refine Pa.iinc (x := 1) (c := 1) (v := 2) (l' := [(2, .int 2), (3, .int 3), (0, .ref 67), (1, .int 0)]) (by rfl) (by rfl) (by decide) (by decide) (by rfl) ?_
  refine Pa.mp 3 (pc' := 7) (l' := [(2, .int 2), (3, .int 3), (0, .ref 67), (1, .int 0)]) (st' := [.int 3, .int 2]) (by rfl) ?_
  refine Pa.if2k false (by rfl) (by rfl) (by decide) ?_
  show Pa N 272 10 [(2, .int 2), (3, .int 3), (0, .ref 67), (1, .int 0)] [] (uI (uI yA 67 0 0) 67 1 0) _
  refine Pa.mp 3 (pc' := 13) (l' := [(2, .int 2), (3, .int 3), (0, .ref 67), (1, .int 0)]) (st' := [.int 0, .int 2, .ref 67]) (by rfl) ?_
  refine Pa.asts (j' := 2) (by rfl) (by rfl) (by rfl) (fun h5 h6 => ?_)
  show Pa N 272 14 [(2, .int 2), (3, .int 3), (0, .ref 67), (1, .int 0)] [] (uI (uI (uI yA 67 0 0) 67 1 0) 67 2 0) _
  refine Pa.iinc (x := 2) (c := 1) (v := 3) (l' := [(2, .int 3), (3, .int 3), (0, .ref 67), (1, .int 0)]) (by rfl) (by rfl) (by decide) (by decide) (by rfl) ?_
  refine Pa.mp 3 (pc' := 7) (l' := [(2, .int 3), (3, .int 3), (0, .ref 67), (1, .int 0)]) (st' := [.int 3, .int 3]) (by rfl) ?_
  refine Pa.if2k true (by rfl) (by rfl) (by decide) ?_
  show Pa N 272 20 [(2, .int 3), (3, .int 3), (0, .ref 67), (1, .int 0)] [] (uI (uI (uI yA 67 0 0) 67 1 0) 67 2 0) _
  refine Pa.vret (by rfl) ?_
  show Pa N 95 13 [(0, .ref 61), (1, .int yw)] [] (uI (uI (uI yA 67 0 0) 67 1 0) 67 2 0) _
  refine Pa.ic (x := 0) (pc' := 14) (by rfl) (by rfl) (by decide) ?_
  refine Pa.mp 1 (pc' := 15) (l' := [(2, .int 0), (0, .ref 61), (1, .int yw)]) (st' := []) (by rfl) ?_
  refine Pa.lv (l' := [(0, .ref 61), (1, .int yw), (2, .int 0), (3, .int 0)]) (lvS_c rfl (lvS_c rfl (lvS_c rfl (lvS_nil)))) rfl ?_
  exact l1

theorem bx_wo2 {N : Nat} {yA : AW} {yQ : Option Value → AW → Prop} (yw yi yp : Int32)
    (l1 : (yA.1 61 9).toInt ≤ yi.toInt → Pa N 95 78 [(0, .ref 61), (1, .int yw), (2, .int 0), (3, .int 0)] [] yA yQ)
    (l2 : yi.toInt < (yA.1 61 9).toInt → 0 ≤ yi.toInt → yi.toInt < 9 → 0 ≤ (yA.1 68 yi.toInt.toNat).toInt → (yA.1 68 yi.toInt.toNat).toInt < 3 → (((yA.1 63 yi.toInt.toNat) >>> ((yA.1 65 ((yA.1 68 yi.toInt.toNat).toInt.toNat)) &&& 31)) &&& 1).toInt ≠ 0 → Pa N 95 15 [(0, .ref 61), (1, .int yw), (2, .int (yi + 1)), (3, .int yp)] [] (uI yA 67 ((yA.1 68 yi.toInt.toNat).toInt.toNat) ((yA.1 67 ((yA.1 68 yi.toInt.toNat).toInt.toNat)) + (yA.1 62 yi.toInt.toNat))) yQ)
    (l3 : yi.toInt < (yA.1 61 9).toInt → 0 ≤ yi.toInt → yi.toInt < 9 → 0 ≤ (yA.1 68 yi.toInt.toNat).toInt → (yA.1 68 yi.toInt.toNat).toInt < 3 → (((yA.1 63 yi.toInt.toNat) >>> ((yA.1 65 ((yA.1 68 yi.toInt.toNat).toInt.toNat)) &&& 31)) &&& 1).toInt = 0 → yQ (some (.int (-1))) yA) :
    Pa (N + 1) 95 15 [(0, .ref 61), (1, .int yw), (2, .int yi), (3, .int yp)] [] yA yQ := by
  refine Pa.mp1 1 (pc' := 17) (l' := [(0, .ref 61), (1, .int yw), (2, .int yi), (3, .int yp)]) (st' := [.ref 61, .int yi]) (by rfl) ?_
  refine Pa.gfI (v := yA.1 61 9) (by rfl) (by rfl) (.inl rfl) (by rfl) (by rfl) ?_
  refine Pa.if2 (a := yi.toInt) (b := (yA.1 61 9).toInt) (t := 74) (by rfl) (by rfl) (rfl) (rfl) (fun h1 => ?_) (fun h2 => ?_)
  · have h1 : (yA.1 61 9).toInt ≤ yi.toInt := h1
    refine Pa.ic (x := 0) (pc' := 75) (by rfl) (by rfl) (by decide) ?_
    refine Pa.mp 1 (pc' := 76) (l' := [(2, .int 0), (0, .ref 61), (1, .int yw), (3, .int yp)]) (st' := []) (by rfl) ?_
    refine Pa.ic (x := 0) (pc' := 77) (by rfl) (by rfl) (by decide) ?_
    refine Pa.mp 1 (pc' := 78) (l' := [(3, .int 0), (2, .int 0), (0, .ref 61), (1, .int yw)]) (st' := []) (by rfl) ?_
    refine Pa.lv (l' := [(0, .ref 61), (1, .int yw), (2, .int 0), (3, .int 0)]) (lvS_c rfl (lvS_c rfl (lvS_c rfl (lvS_c rfl (lvS_nil))))) rfl ?_
    exact l1 h1
  · have h2 : yi.toInt < (yA.1 61 9).toInt := h2
    refine Pa.mp 1 (pc' := 24) (l' := [(0, .ref 61), (1, .int yw), (2, .int yi), (3, .int yp)]) (st' := [.ref 61]) (by rfl) ?_
    refine Pa.gfR (by rfl) (by rfl) (.inl rfl) (by rfl) ?_
    show Pa N 95 27 [(0, .ref 61), (1, .int yw), (2, .int yi), (3, .int yp)] [.ref 63] yA _
    refine Pa.mp 1 (pc' := 28) (l' := [(0, .ref 61), (1, .int yw), (2, .int yi), (3, .int yp)]) (st' := [.int yi, .ref 63]) (by rfl) ?_
    refine Pa.alds (v := yA.1 63 yi.toInt.toNat) (by rfl) (by rfl) (by rfl) (fun h3 h4 => ?_)
    have h3 : 0 ≤ yi.toInt := h3
    have h4 : yi.toInt < 9 := h4
    refine Pa.mp 1 (pc' := 30) (l' := [(0, .ref 61), (1, .int yw), (2, .int yi), (3, .int yp)]) (st' := [.ref 61, .int (yA.1 63 yi.toInt.toNat)]) (by rfl) ?_
    refine Pa.gfR (by rfl) (by rfl) (.inl rfl) (by rfl) ?_
    show Pa N 95 33 [(0, .ref 61), (1, .int yw), (2, .int yi), (3, .int yp)] [.ref 65, .int (yA.1 63 yi.toInt.toNat)] yA _
    refine Pa.mp 1 (pc' := 34) (l' := [(0, .ref 61), (1, .int yw), (2, .int yi), (3, .int yp)]) (st' := [.ref 61, .ref 65, .int (yA.1 63 yi.toInt.toNat)]) (by rfl) ?_
    refine Pa.gfR (by rfl) (by rfl) (.inl rfl) (by rfl) ?_
    show Pa N 95 37 [(0, .ref 61), (1, .int yw), (2, .int yi), (3, .int yp)] [.ref 68, .ref 65, .int (yA.1 63 yi.toInt.toNat)] yA _
    refine Pa.mp 1 (pc' := 38) (l' := [(0, .ref 61), (1, .int yw), (2, .int yi), (3, .int yp)]) (st' := [.int yi, .ref 68, .ref 65, .int (yA.1 63 yi.toInt.toNat)]) (by rfl) ?_
    refine Pa.alds (v := yA.1 68 yi.toInt.toNat) (by rfl) (by rfl) (by rfl) (fun h5 h6 => ?_)
    have h5 : 0 ≤ yi.toInt := h5
    have h6 : yi.toInt < 9 := h6
    refine Pa.alds (v := yA.1 65 ((yA.1 68 yi.toInt.toNat).toInt.toNat)) (by rfl) (by rfl) (by rfl) (fun h7 h8 => ?_)
    have h7 : 0 ≤ (yA.1 68 yi.toInt.toNat).toInt := h7
    have h8 : (yA.1 68 yi.toInt.toNat).toInt < 3 := h8
    refine Pa.mp 1 (pc' := 41) (l' := [(0, .ref 61), (1, .int yw), (2, .int yi), (3, .int yp)]) (st' := [.int ((yA.1 63 yi.toInt.toNat) >>> ((yA.1 65 ((yA.1 68 yi.toInt.toNat).toInt.toNat)) &&& 31))]) (by rfl) ?_
    refine Pa.ic (x := 1) (pc' := 42) (by rfl) (by rfl) (by decide) ?_
    refine Pa.mp 1 (pc' := 43) (l' := [(0, .ref 61), (1, .int yw), (2, .int yi), (3, .int yp)]) (st' := [.int (((yA.1 63 yi.toInt.toNat) >>> ((yA.1 65 ((yA.1 68 yi.toInt.toNat).toInt.toNat)) &&& 31)) &&& 1)]) (by rfl) ?_
    refine Pa.if1 (a := (((yA.1 63 yi.toInt.toNat) >>> ((yA.1 65 ((yA.1 68 yi.toInt.toNat).toInt.toNat)) &&& 31)) &&& 1).toInt) (t := 48) (by rfl) (by rfl) (rfl) (fun h9 => ?_) (fun h10 => ?_)
    · have h9 : (((yA.1 63 yi.toInt.toNat) >>> ((yA.1 65 ((yA.1 68 yi.toInt.toNat).toInt.toNat)) &&& 31)) &&& 1).toInt ≠ 0 := h9
      refine Pa.mp 1 (pc' := 49) (l' := [(0, .ref 61), (1, .int yw), (2, .int yi), (3, .int yp)]) (st' := [.ref 61]) (by rfl) ?_
      refine Pa.gfR (by rfl) (by rfl) (.inl rfl) (by rfl) ?_
      show Pa N 95 52 [(0, .ref 61), (1, .int yw), (2, .int yi), (3, .int yp)] [.ref 67] yA _
      refine Pa.mp 1 (pc' := 53) (l' := [(0, .ref 61), (1, .int yw), (2, .int yi), (3, .int yp)]) (st' := [.ref 61, .ref 67]) (by rfl) ?_
      refine Pa.gfR (by rfl) (by rfl) (.inl rfl) (by rfl) ?_
      show Pa N 95 56 [(0, .ref 61), (1, .int yw), (2, .int yi), (3, .int yp)] [.ref 68, .ref 67] yA _
      refine Pa.mp 1 (pc' := 57) (l' := [(0, .ref 61), (1, .int yw), (2, .int yi), (3, .int yp)]) (st' := [.int yi, .ref 68, .ref 67]) (by rfl) ?_
      refine Pa.alds (v := yA.1 68 yi.toInt.toNat) (by rfl) (by rfl) (by rfl) (fun h11 h12 => ?_)
      have h11 : 0 ≤ yi.toInt := h11
      have h12 : yi.toInt < 9 := h12
      refine Pa.mp 1 (pc' := 59) (l' := [(0, .ref 61), (1, .int yw), (2, .int yi), (3, .int yp)]) (st' := [.int (yA.1 68 yi.toInt.toNat), .ref 67, .int (yA.1 68 yi.toInt.toNat), .ref 67]) (by rfl) ?_
      refine Pa.alds (v := yA.1 67 ((yA.1 68 yi.toInt.toNat).toInt.toNat)) (by rfl) (by rfl) (by rfl) (fun h13 h14 => ?_)
      have h13 : 0 ≤ (yA.1 68 yi.toInt.toNat).toInt := h13
      have h14 : (yA.1 68 yi.toInt.toNat).toInt < 3 := h14
      refine Pa.mp 1 (pc' := 61) (l' := [(0, .ref 61), (1, .int yw), (2, .int yi), (3, .int yp)]) (st' := [.ref 61, .int (yA.1 67 ((yA.1 68 yi.toInt.toNat).toInt.toNat)), .int (yA.1 68 yi.toInt.toNat), .ref 67]) (by rfl) ?_
      refine Pa.gfR (by rfl) (by rfl) (.inl rfl) (by rfl) ?_
      show Pa N 95 64 [(0, .ref 61), (1, .int yw), (2, .int yi), (3, .int yp)] [.ref 62, .int (yA.1 67 ((yA.1 68 yi.toInt.toNat).toInt.toNat)), .int (yA.1 68 yi.toInt.toNat), .ref 67] yA _
      refine Pa.mp 1 (pc' := 65) (l' := [(0, .ref 61), (1, .int yw), (2, .int yi), (3, .int yp)]) (st' := [.int yi, .ref 62, .int (yA.1 67 ((yA.1 68 yi.toInt.toNat).toInt.toNat)), .int (yA.1 68 yi.toInt.toNat), .ref 67]) (by rfl) ?_
      refine Pa.alds (v := yA.1 62 yi.toInt.toNat) (by rfl) (by rfl) (by rfl) (fun h15 yh16 => ?_)
      have h15 : 0 ≤ yi.toInt := h15
      have yh16 : yi.toInt < 9 := yh16
      refine Pa.mp 1 (pc' := 67) (l' := [(0, .ref 61), (1, .int yw), (2, .int yi), (3, .int yp)]) (st' := [.int ((yA.1 67 ((yA.1 68 yi.toInt.toNat).toInt.toNat)) + (yA.1 62 yi.toInt.toNat)), .int (yA.1 68 yi.toInt.toNat), .ref 67]) (by rfl) ?_
      refine Pa.asts (j' := ((yA.1 68 yi.toInt.toNat).toInt.toNat)) (by rfl) (by rfl) (by rfl) (fun h17 h18 => ?_)
      have h17 : 0 ≤ (yA.1 68 yi.toInt.toNat).toInt := h17
      have h18 : (yA.1 68 yi.toInt.toNat).toInt < 3 := h18
      show Pa N 95 68 [(0, .ref 61), (1, .int yw), (2, .int yi), (3, .int yp)] [] (uI yA 67 ((yA.1 68 yi.toInt.toNat).toInt.toNat) ((yA.1 67 ((yA.1 68 yi.toInt.toNat).toInt.toNat)) + (yA.1 62 yi.toInt.toNat))) _
      refine Pa.iinc (x := yi) (c := 1) (v := (yi + 1)) (l' := [(2, .int (yi + 1)), (0, .ref 61), (1, .int yw), (3, .int yp)]) (by rfl) (by rfl) (by decide) (by rfl) (by rfl) ?_
      refine Pa.mp 1 (pc' := 15) (l' := [(2, .int (yi + 1)), (0, .ref 61), (1, .int yw), (3, .int yp)]) (st' := []) (by rfl) ?_
      refine Pa.lv (l' := [(0, .ref 61), (1, .int yw), (2, .int (yi + 1)), (3, .int yp)]) (lvS_c rfl (lvS_c rfl (lvS_c rfl (lvS_c rfl (lvS_nil))))) rfl ?_
      exact l2 h2 h3 h4 h7 h8 h9
    · have h10 : (((yA.1 63 yi.toInt.toNat) >>> ((yA.1 65 ((yA.1 68 yi.toInt.toNat).toInt.toNat)) &&& 31)) &&& 1).toInt = 0 := h10
      refine Pa.ic (x := (-1)) (pc' := 47) (by rfl) (by rfl) (by decide) ?_
      refine Pa.iret (by rfl) ?_
      exact l3 h2 h3 h4 h7 h8 h10

theorem bx_wo3 {N : Nat} {yA : AW} {yQ : Option Value → AW → Prop} (yw yi yp : Int32)
    (l1 : (yA.1 61 8).toInt ≤ yp.toInt → yQ (some (.int yi)) yA)
    (l2 : yp.toInt < (yA.1 61 8).toInt → 0 ≤ yp.toInt → yp.toInt < 3 → Pa N 95 78 [(0, .ref 61), (1, .int yw), (2, .int (yi + (((yA.1 66 yp.toInt.toNat) * (yA.1 67 yp.toInt.toNat)) / 100))), (3, .int (yp + 1))] [] yA yQ) :
    Pa (N + 1) 95 78 [(0, .ref 61), (1, .int yw), (2, .int yi), (3, .int yp)] [] yA yQ := by
  refine Pa.mp1 1 (pc' := 80) (l' := [(0, .ref 61), (1, .int yw), (2, .int yi), (3, .int yp)]) (st' := [.ref 61, .int yp]) (by rfl) ?_
  refine Pa.gfI (v := yA.1 61 8) (by rfl) (by rfl) (.inl rfl) (by rfl) (by rfl) ?_
  refine Pa.if2 (a := yp.toInt) (b := (yA.1 61 8).toInt) (t := 111) (by rfl) (by rfl) (rfl) (rfl) (fun h1 => ?_) (fun h2 => ?_)
  · have h1 : (yA.1 61 8).toInt ≤ yp.toInt := h1
    refine Pa.mp 1 (pc' := 112) (l' := [(0, .ref 61), (1, .int yw), (2, .int yi), (3, .int yp)]) (st' := [.int yi]) (by rfl) ?_
    refine Pa.iret (by rfl) ?_
    exact l1 h1
  · have h2 : yp.toInt < (yA.1 61 8).toInt := h2
    refine Pa.mp 2 (pc' := 88) (l' := [(0, .ref 61), (1, .int yw), (2, .int yi), (3, .int yp)]) (st' := [.ref 61, .int yi]) (by rfl) ?_
    refine Pa.gfR (by rfl) (by rfl) (.inl rfl) (by rfl) ?_
    show Pa N 95 91 [(0, .ref 61), (1, .int yw), (2, .int yi), (3, .int yp)] [.ref 66, .int yi] yA _
    refine Pa.mp 1 (pc' := 92) (l' := [(0, .ref 61), (1, .int yw), (2, .int yi), (3, .int yp)]) (st' := [.int yp, .ref 66, .int yi]) (by rfl) ?_
    refine Pa.alds (v := yA.1 66 yp.toInt.toNat) (by rfl) (by rfl) (by rfl) (fun h3 h4 => ?_)
    have h3 : 0 ≤ yp.toInt := h3
    have h4 : yp.toInt < 3 := h4
    refine Pa.mp 1 (pc' := 94) (l' := [(0, .ref 61), (1, .int yw), (2, .int yi), (3, .int yp)]) (st' := [.ref 61, .int (yA.1 66 yp.toInt.toNat), .int yi]) (by rfl) ?_
    refine Pa.gfR (by rfl) (by rfl) (.inl rfl) (by rfl) ?_
    show Pa N 95 97 [(0, .ref 61), (1, .int yw), (2, .int yi), (3, .int yp)] [.ref 67, .int (yA.1 66 yp.toInt.toNat), .int yi] yA _
    refine Pa.mp 1 (pc' := 98) (l' := [(0, .ref 61), (1, .int yw), (2, .int yi), (3, .int yp)]) (st' := [.int yp, .ref 67, .int (yA.1 66 yp.toInt.toNat), .int yi]) (by rfl) ?_
    refine Pa.alds (v := yA.1 67 yp.toInt.toNat) (by rfl) (by rfl) (by rfl) (fun h5 h6 => ?_)
    have h5 : 0 ≤ yp.toInt := h5
    have h6 : yp.toInt < 3 := h6
    refine Pa.mp 1 (pc' := 100) (l' := [(0, .ref 61), (1, .int yw), (2, .int yi), (3, .int yp)]) (st' := [.int ((yA.1 66 yp.toInt.toNat) * (yA.1 67 yp.toInt.toNat)), .int yi]) (by rfl) ?_
    refine Pa.ic (x := 100) (pc' := 102) (by rfl) (by rfl) (by decide) ?_
    refine Pa.idiv (by rfl) ?_
    refine Pa.mp 2 (pc' := 105) (l' := [(2, .int (yi + (((yA.1 66 yp.toInt.toNat) * (yA.1 67 yp.toInt.toNat)) / 100))), (0, .ref 61), (1, .int yw), (3, .int yp)]) (st' := []) (by rfl) ?_
    refine Pa.iinc (x := yp) (c := 1) (v := (yp + 1)) (l' := [(3, .int (yp + 1)), (2, .int (yi + (((yA.1 66 yp.toInt.toNat) * (yA.1 67 yp.toInt.toNat)) / 100))), (0, .ref 61), (1, .int yw)]) (by rfl) (by rfl) (by decide) (by rfl) (by rfl) ?_
    refine Pa.mp 1 (pc' := 78) (l' := [(3, .int (yp + 1)), (2, .int (yi + (((yA.1 66 yp.toInt.toNat) * (yA.1 67 yp.toInt.toNat)) / 100))), (0, .ref 61), (1, .int yw)]) (st' := []) (by rfl) ?_
    refine Pa.lv (l' := [(0, .ref 61), (1, .int yw), (2, .int (yi + (((yA.1 66 yp.toInt.toNat) * (yA.1 67 yp.toInt.toNat)) / 100))), (3, .int (yp + 1))]) (lvS_c rfl (lvS_c rfl (lvS_c rfl (lvS_c rfl (lvS_nil))))) rfl ?_
    exact l2 h2 h3 h4

section TRX
variable {yC yR : Nat → Int32} {yM : Nat → Nat} {yb yn : Nat} {yW : AW}
theorem c_woX {yw : Nat} (yhb : yb < 64) (h2 : 2 ≤ cb yb 6) (h3 : cb yb 6 ≤ 3) (hn : yn ≤ 9) (hW : tW yC yR yM yb yn yW) (hw : yw < cb yb 6 ^ yn) (N : Nat) : Pa N 95 0 [(0, .ref 61), (1, .int (Int32.ofNat yw))] [] yW (fun yv yU => tzE yW yU ∧ ((¬ vld yM yb (cb yb 6) yn yw ∧ yv = some (.int (-1))) ∨ (vld yM yb (cb yb 6) yn yw ∧ yv = some (.int (wbk yC yR yb (cb yb 6) yn yw)) ∧ ∀ yp, yp < cb yb 6 → yU.1 67 yp = spL yC (dg (cb yb 6) yn yw) yp yn))) := by
  obtain ⟨yP, hP⟩ : ∃ yP, cb yb 6 = yP := ⟨_, rfl⟩
  have hdl : ∀ yi, dg (cb yb 6) yn yw yi < cb yb 6 := fun yi => dg_lt (by omega)
  have key2 : vld yM yb (cb yb 6) yn yw → ∀ (N yp : Nat) (yU : AW), yp ≤ cb yb 6 → tzE yW yU → (∀ yp, yp < cb yb 6 → yU.1 67 yp = spL yC (dg (cb yb 6) yn yw) yp yn) → Pa N 95 78 [(0, .ref 61), (1, .int (Int32.ofNat yw)), (2, .int (bkS (fun yp => yR (pL yb yp)) (fun yp => spL yC (dg (cb yb 6) yn yw) yp yn) yp)), (3, .int (Int32.ofNat yp))] [] yU (fun yv yU => tzE yW yU ∧ ((¬ vld yM yb (cb yb 6) yn yw ∧ yv = some (.int (-1))) ∨ (vld yM yb (cb yb 6) yn yw ∧ yv = some (.int (wbk yC yR yb (cb yb 6) yn yw)) ∧ ∀ yp, yp < cb yb 6 → yU.1 67 yp = spL yC (dg (cb yb 6) yn yw) yp yn))) := by
    intro hv N
    induction N with
    | zero => intros; exact Pa.zero
    | succ N yih =>
      intro yp yU hp hz h1
      have ep : (Int32.ofNat yp).toInt = (yp : Int) := i32_nat (by omega)
      have hU := tW_z hW hz
      have u8 : (yU.1 61 8).toInt = (cb yb 6 : Int) := by rw [hU.2.1]; exact i32_nat (by omega)
      refine bx_wo3 (Int32.ofNat yw) _ (Int32.ofNat yp) ?_ ?_ <;> rw [ep, u8] <;> (try rw [Int.toNat_natCast])
      · intro yq
        have ye : yp = cb yb 6 := by omega
        subst ye
        refine ⟨hz, .inr ⟨hv, ?_, h1⟩⟩
        rw [wbk_c yhb (by omega)]
      · intro yq _ _
        rw [(hU.2.2.2.2 yp (by omega)).2, h1 yp (by omega)]
        have yh := yih (yp + 1) yU (by omega) hz h1
        rw [on_succ yp] at yh
        exact yh
  have key1 : ∀ (N yi : Nat) (yU : AW) (pp : Int32), yi ≤ yn → tzE yW yU → (∀ yq, yq < yn → yU.1 68 yq = Int32.ofNat (dg (cb yb 6) yn yw yq)) → (∀ yp, yp < cb yb 6 → yU.1 67 yp = spL yC (dg (cb yb 6) yn yw) yp yi) → (∀ yq, yq < yi → (yM yq).testBit (lnd yb (cb yb 6) yn yw yq) = true) → Pa N 95 15 [(0, .ref 61), (1, .int (Int32.ofNat yw)), (2, .int (Int32.ofNat yi)), (3, .int pp)] [] yU (fun yv yU => tzE yW yU ∧ ((¬ vld yM yb (cb yb 6) yn yw ∧ yv = some (.int (-1))) ∨ (vld yM yb (cb yb 6) yn yw ∧ yv = some (.int (wbk yC yR yb (cb yb 6) yn yw)) ∧ ∀ yp, yp < cb yb 6 → yU.1 67 yp = spL yC (dg (cb yb 6) yn yw) yp yn))) := by
    intro N
    induction N with
    | zero => intros; exact Pa.zero
    | succ N yih =>
      intro yi yU pp yhi hz h68 h67 hv
      have ei : (Int32.ofNat yi).toInt = (yi : Int) := i32_nat (by omega)
      have hU := tW_z hW hz
      have yhd := hdl yi
      have ed : (Int32.ofNat (dg (cb yb 6) yn yw yi)).toInt = (dg (cb yb 6) yn yw yi : Int) := i32_nat (by omega)
      refine bx_wo2 (Int32.ofNat yw) (Int32.ofNat yi) pp ?_ ?_ ?_ <;> rw [ei, hU.1] <;> (try rw [Int.toNat_natCast])
      · intro yq
        have ye : yi = yn := by omega
        subst ye
        exact key2 (fun yq hq => hv yq hq) N 0 yU (Nat.zero_le _) hz h67
      · intro yq1 _ _ _ _ yq6
        have hin : yi < yn := by omega
        have yhm := hU.2.2.2.1 yi hin
        have hp := hU.2.2.2.2 _ yhd
        have h2p := pL2 yhb yhd
        rw [h68 yi hin, ed, Int.toNat_natCast, hp.1, yhm.1, bt1 yhm.2 h2p.1] at yq6
        rw [h68 yi hin, ed, Int.toNat_natCast, h67 _ yhd, hU.2.2.1 yi hin]
        have hb2 : (yM yi).testBit (pL yb (dg (cb yb 6) yn yw yi)) = true := Classical.byContradiction (fun yz => yq6 (if_neg yz))
        have yh := yih (yi + 1) (uI yU 67 (dg (cb yb 6) yn yw yi) (spL yC (dg (cb yb 6) yn yw) (dg (cb yb 6) yn yw yi) yi + yC yi)) pp (by omega) (tzE_67 hz) (fun yq hq => by
          rw [uI_c (by decide)]
          exact h68 yq hq) (fun yp hp => by
          rw [uI_row]
          by_cases ye : yp = dg (cb yb 6) yn yw yi
          · rw [if_pos ye, ye, spL_1 rfl]
          · rw [if_neg ye, spL_0 (fun yz => ye yz.symm)]
            exact h67 yp hp) (fun yq hq => by
          by_cases ye : yq = yi
          · rw [ye]
            exact hb2
          · exact hv yq (by omega))
        rw [on_succ yi] at yh
        exact yh
      · intro yq1 _ _ _ _ yq6
        have hin : yi < yn := by omega
        have yhm := hU.2.2.2.1 yi hin
        have hp := hU.2.2.2.2 _ yhd
        have h2p := pL2 yhb yhd
        rw [h68 yi hin, ed, Int.toNat_natCast, hp.1, yhm.1, bt1 yhm.2 h2p.1] at yq6
        refine ⟨hz, .inl ⟨fun yz => ?_, rfl⟩⟩
        have z2 : (yM yi).testBit (pL yb (dg (cb yb 6) yn yw yi)) = true := yz yi hin
        rw [if_pos z2] at yq6
        omega
  refine bx_wo0 (Int32.ofNat yw) (Pa.mono (c_rwX (yP := cb yb 6) (yn := yn) (yw := yw) (by omega) h3 hn hW.2.1 hW.1 hw N) (fun yv yU hv => ?_))
  obtain ⟨rfl, hx, h68⟩ := hv
  refine bx_wo1 (Int32.ofNat yw) ?_
  exact key1 N 0 _ 0 (Nat.zero_le _) (tzE_67 (tzE_67 (tzE_67 (tzE_68 hx)))) (fun yq hq => by
    rw [uI_c (by decide), uI_c (by decide), uI_c (by decide)]
    exact h68 yq hq) (fun yp hp => by
    rw [uI_row, uI_row, uI_row]
    show _ = (0 : Int32)
    rcases (by omega : yp = 0 ∨ yp = 1 ∨ yp = 2) with ye | ye | ye <;> rw [ye] <;> rfl) (fun yq hq => absurd hq (Nat.not_lt_zero yq))
theorem bx_fai0 {N : Nat} {yA : AW} {yQ : Option Value → AW → Prop} (ym : Int32)
    (l1 : Pa N 96 4 [(0, .ref 61), (1, .int ym), (2, .int 0), (3, .int 0)] [] yA yQ) :
    Pa N 96 0 [(0, .ref 61), (1, .int ym)] [] yA yQ := by
  refine Pa.ic (x := 0) (pc' := 1) (by rfl) (by rfl) (by decide) ?_
  refine Pa.mp 1 (pc' := 2) (l' := [(2, .int 0), (0, .ref 61), (1, .int ym)]) (st' := []) (by rfl) ?_
  refine Pa.ic (x := 0) (pc' := 3) (by rfl) (by rfl) (by decide) ?_
  refine Pa.mp 1 (pc' := 4) (l' := [(3, .int 0), (2, .int 0), (0, .ref 61), (1, .int ym)]) (st' := []) (by rfl) ?_
  refine Pa.lv (l' := [(0, .ref 61), (1, .int ym), (2, .int 0), (3, .int 0)]) (lvS_c rfl (lvS_c rfl (lvS_c rfl (lvS_c rfl (lvS_nil))))) rfl ?_
  exact l1

theorem bx_fai1 {N : Nat} {yA : AW} {yQ : Option Value → AW → Prop} (ym ys yp : Int32)
    (l1 : (yA.1 61 8).toInt ≤ yp.toInt → Pa N 96 29 [(0, .ref 61), (1, .int ym), (2, .int ys), (3, .int 0)] [] yA yQ)
    (l2 : yp.toInt < (yA.1 61 8).toInt → 0 ≤ yp.toInt → yp.toInt < 3 → Pa N 96 4 [(0, .ref 61), (1, .int ym), (2, .int (ys + (yA.1 67 yp.toInt.toNat))), (3, .int (yp + 1))] [] yA yQ) :
    Pa (N + 1) 96 4 [(0, .ref 61), (1, .int ym), (2, .int ys), (3, .int yp)] [] yA yQ := by
  refine Pa.mp1 1 (pc' := 6) (l' := [(0, .ref 61), (1, .int ym), (2, .int ys), (3, .int yp)]) (st' := [.ref 61, .int yp]) (by rfl) ?_
  refine Pa.gfI (v := yA.1 61 8) (by rfl) (by rfl) (.inl rfl) (by rfl) (by rfl) ?_
  refine Pa.if2 (a := yp.toInt) (b := (yA.1 61 8).toInt) (t := 27) (by rfl) (by rfl) (rfl) (rfl) (fun h1 => ?_) (fun h2 => ?_)
  · have h1 : (yA.1 61 8).toInt ≤ yp.toInt := h1
    refine Pa.ic (x := 0) (pc' := 28) (by rfl) (by rfl) (by decide) ?_
    refine Pa.mp 1 (pc' := 29) (l' := [(3, .int 0), (0, .ref 61), (1, .int ym), (2, .int ys)]) (st' := []) (by rfl) ?_
    refine Pa.lv (l' := [(0, .ref 61), (1, .int ym), (2, .int ys), (3, .int 0)]) (lvS_c rfl (lvS_c rfl (lvS_c rfl (lvS_c rfl (lvS_nil))))) rfl ?_
    exact l1 h1
  · have h2 : yp.toInt < (yA.1 61 8).toInt := h2
    refine Pa.mp 2 (pc' := 14) (l' := [(0, .ref 61), (1, .int ym), (2, .int ys), (3, .int yp)]) (st' := [.ref 61, .int ys]) (by rfl) ?_
    refine Pa.gfR (by rfl) (by rfl) (.inl rfl) (by rfl) ?_
    show Pa N 96 17 [(0, .ref 61), (1, .int ym), (2, .int ys), (3, .int yp)] [.ref 67, .int ys] yA _
    refine Pa.mp 1 (pc' := 18) (l' := [(0, .ref 61), (1, .int ym), (2, .int ys), (3, .int yp)]) (st' := [.int yp, .ref 67, .int ys]) (by rfl) ?_
    refine Pa.alds (v := yA.1 67 yp.toInt.toNat) (by rfl) (by rfl) (by rfl) (fun h3 h4 => ?_)
    have h3 : 0 ≤ yp.toInt := h3
    have h4 : yp.toInt < 3 := h4
    refine Pa.mp 2 (pc' := 21) (l' := [(2, .int (ys + (yA.1 67 yp.toInt.toNat))), (0, .ref 61), (1, .int ym), (3, .int yp)]) (st' := []) (by rfl) ?_
    refine Pa.iinc (x := yp) (c := 1) (v := (yp + 1)) (l' := [(3, .int (yp + 1)), (2, .int (ys + (yA.1 67 yp.toInt.toNat))), (0, .ref 61), (1, .int ym)]) (by rfl) (by rfl) (by decide) (by rfl) (by rfl) ?_
    refine Pa.mp 1 (pc' := 4) (l' := [(3, .int (yp + 1)), (2, .int (ys + (yA.1 67 yp.toInt.toNat))), (0, .ref 61), (1, .int ym)]) (st' := []) (by rfl) ?_
    refine Pa.lv (l' := [(0, .ref 61), (1, .int ym), (2, .int (ys + (yA.1 67 yp.toInt.toNat))), (3, .int (yp + 1))]) (lvS_c rfl (lvS_c rfl (lvS_c rfl (lvS_c rfl (lvS_nil))))) rfl ?_
    exact l2 h2 h3 h4

theorem bx_fai2 {N : Nat} {yA : AW} {yQ : Option Value → AW → Prop} (ym ys yp : Int32)
    (l1 : (yA.1 61 8).toInt ≤ yp.toInt → yQ (some (.int 1)) yA)
    (l2 : yp.toInt < (yA.1 61 8).toInt → 0 ≤ yp.toInt → yp.toInt < 3 → (ym * ys).toInt ≤ ((yA.1 67 yp.toInt.toNat) * 100).toInt → Pa N 96 29 [(0, .ref 61), (1, .int ym), (2, .int ys), (3, .int (yp + 1))] [] yA yQ)
    (l3 : yp.toInt < (yA.1 61 8).toInt → 0 ≤ yp.toInt → yp.toInt < 3 → ((yA.1 67 yp.toInt.toNat) * 100).toInt < (ym * ys).toInt → yQ (some (.int 0)) yA) :
    Pa (N + 1) 96 29 [(0, .ref 61), (1, .int ym), (2, .int ys), (3, .int yp)] [] yA yQ := by
  refine Pa.mp1 1 (pc' := 31) (l' := [(0, .ref 61), (1, .int ym), (2, .int ys), (3, .int yp)]) (st' := [.ref 61, .int yp]) (by rfl) ?_
  refine Pa.gfI (v := yA.1 61 8) (by rfl) (by rfl) (.inl rfl) (by rfl) (by rfl) ?_
  refine Pa.if2 (a := yp.toInt) (b := (yA.1 61 8).toInt) (t := 60) (by rfl) (by rfl) (rfl) (rfl) (fun h1 => ?_) (fun h2 => ?_)
  · have h1 : (yA.1 61 8).toInt ≤ yp.toInt := h1
    refine Pa.ic (x := 1) (pc' := 61) (by rfl) (by rfl) (by decide) ?_
    refine Pa.iret (by rfl) ?_
    exact l1 h1
  · have h2 : yp.toInt < (yA.1 61 8).toInt := h2
    refine Pa.mp 1 (pc' := 38) (l' := [(0, .ref 61), (1, .int ym), (2, .int ys), (3, .int yp)]) (st' := [.ref 61]) (by rfl) ?_
    refine Pa.gfR (by rfl) (by rfl) (.inl rfl) (by rfl) ?_
    show Pa N 96 41 [(0, .ref 61), (1, .int ym), (2, .int ys), (3, .int yp)] [.ref 67] yA _
    refine Pa.mp 1 (pc' := 42) (l' := [(0, .ref 61), (1, .int ym), (2, .int ys), (3, .int yp)]) (st' := [.int yp, .ref 67]) (by rfl) ?_
    refine Pa.alds (v := yA.1 67 yp.toInt.toNat) (by rfl) (by rfl) (by rfl) (fun h3 h4 => ?_)
    have h3 : 0 ≤ yp.toInt := h3
    have h4 : yp.toInt < 3 := h4
    refine Pa.ic (x := 100) (pc' := 45) (by rfl) (by rfl) (by decide) ?_
    refine Pa.mp 4 (pc' := 49) (l' := [(0, .ref 61), (1, .int ym), (2, .int ys), (3, .int yp)]) (st' := [.int (ym * ys), .int ((yA.1 67 yp.toInt.toNat) * 100)]) (by rfl) ?_
    refine Pa.if2 (a := ((yA.1 67 yp.toInt.toNat) * 100).toInt) (b := (ym * ys).toInt) (t := 54) (by rfl) (by rfl) (rfl) (rfl) (fun h5 => ?_) (fun h6 => ?_)
    · have h5 : (ym * ys).toInt ≤ ((yA.1 67 yp.toInt.toNat) * 100).toInt := h5
      refine Pa.iinc (x := yp) (c := 1) (v := (yp + 1)) (l' := [(3, .int (yp + 1)), (0, .ref 61), (1, .int ym), (2, .int ys)]) (by rfl) (by rfl) (by decide) (by rfl) (by rfl) ?_
      refine Pa.mp 1 (pc' := 29) (l' := [(3, .int (yp + 1)), (0, .ref 61), (1, .int ym), (2, .int ys)]) (st' := []) (by rfl) ?_
      refine Pa.lv (l' := [(0, .ref 61), (1, .int ym), (2, .int ys), (3, .int (yp + 1))]) (lvS_c rfl (lvS_c rfl (lvS_c rfl (lvS_c rfl (lvS_nil))))) rfl ?_
      exact l2 h2 h3 h4 h5
    · have h6 : ((yA.1 67 yp.toInt.toNat) * 100).toInt < (ym * ys).toInt := h6
      refine Pa.ic (x := 0) (pc' := 53) (by rfl) (by rfl) (by decide) ?_
      refine Pa.iret (by rfl) ?_
      exact l3 h2 h3 h4 h6

theorem c_faX {yU : AW} (h3 : cb yb 6 ≤ 3) (e8 : yU.1 61 8 = Int32.ofNat (cb yb 6)) (ym : Int32) (ys : Nat → Int32) (h67 : ∀ yp, yp < cb yb 6 → yU.1 67 yp = ys yp) (N : Nat) : Pa N 96 0 [(0, .ref 61), (1, .int ym)] [] yU (fun yv V => V = yU ∧ ((yv = some (.int 1) ∧ ∀ yp, yp < cb yb 6 → (ym * sumN ys (cb yb 6)).toInt ≤ (ys yp * 100).toInt) ∨ (yv = some (.int 0) ∧ ¬ ∀ yp, yp < cb yb 6 → (ym * sumN ys (cb yb 6)).toInt ≤ (ys yp * 100).toInt))) := by
  have u8 : (yU.1 61 8).toInt = (cb yb 6 : Int) := by rw [e8]; exact i32_nat (by omega)
  have key2 : ∀ (N yp : Nat), yp ≤ cb yb 6 → (∀ yq, yq < yp → (ym * sumN ys (cb yb 6)).toInt ≤ (ys yq * 100).toInt) → Pa N 96 29 [(0, .ref 61), (1, .int ym), (2, .int (sumN ys (cb yb 6))), (3, .int (Int32.ofNat yp))] [] yU (fun yv V => V = yU ∧ ((yv = some (.int 1) ∧ ∀ yp, yp < cb yb 6 → (ym * sumN ys (cb yb 6)).toInt ≤ (ys yp * 100).toInt) ∨ (yv = some (.int 0) ∧ ¬ ∀ yp, yp < cb yb 6 → (ym * sumN ys (cb yb 6)).toInt ≤ (ys yp * 100).toInt))) := by
    intro N
    induction N with
    | zero => intros; exact Pa.zero
    | succ N yih =>
      intro yp hp h1
      have ep : (Int32.ofNat yp).toInt = (yp : Int) := i32_nat (by omega)
      refine bx_fai2 ym _ (Int32.ofNat yp) ?_ ?_ ?_ <;> rw [ep, u8] <;> (try rw [Int.toNat_natCast])
      · intro yq
        exact ⟨rfl, .inl ⟨rfl, fun yx hx => h1 yx (by omega)⟩⟩
      · intro yq _ _ yq4
        rw [h67 yp (by omega)] at yq4
        have yh := yih (yp + 1) (by omega) (fun yx hx => by
          by_cases ye : yx = yp
          · rw [ye]
            exact yq4
          · exact h1 yx (by omega))
        rw [on_succ yp] at yh
        exact yh
      · intro yq _ _ yq4
        rw [h67 yp (by omega)] at yq4
        exact ⟨rfl, .inr ⟨rfl, fun yz => by have := yz yp (by omega); omega⟩⟩
  have key1 : ∀ (N yp : Nat), yp ≤ cb yb 6 → Pa N 96 4 [(0, .ref 61), (1, .int ym), (2, .int (sumN ys yp)), (3, .int (Int32.ofNat yp))] [] yU (fun yv V => V = yU ∧ ((yv = some (.int 1) ∧ ∀ yp, yp < cb yb 6 → (ym * sumN ys (cb yb 6)).toInt ≤ (ys yp * 100).toInt) ∨ (yv = some (.int 0) ∧ ¬ ∀ yp, yp < cb yb 6 → (ym * sumN ys (cb yb 6)).toInt ≤ (ys yp * 100).toInt))) := by
    intro N
    induction N with
    | zero => intros; exact Pa.zero
    | succ N yih =>
      intro yp hp
      have ep : (Int32.ofNat yp).toInt = (yp : Int) := i32_nat (by omega)
      refine bx_fai1 ym _ (Int32.ofNat yp) ?_ ?_ <;> rw [ep, u8] <;> (try rw [Int.toNat_natCast])
      · intro yq
        have ye : yp = cb yb 6 := by omega
        rw [ye]
        exact key2 N 0 (Nat.zero_le _) (fun yq hq => absurd hq (Nat.not_lt_zero yq))
      · intro yq _ _
        rw [h67 yp (by omega)]
        have yh := yih (yp + 1) (by omega)
        rw [on_succ yp] at yh
        exact yh
  exact bx_fai0 ym (key1 N 0 (Nat.zero_le _))
end TRX
/-- rates of lands, yfor ya film -/
noncomputable def rtV (yA : AW) (yf : Int32) (l : Nat) : Int32 := lwV yA 1 (Int32.ofNat l) yf (yA.1 69 0) (yA.1 69 0)
/-- the treaty's yrows that ya search leaves alone -/
def tkE (yW yU : AW) : Prop := ∀ yd yj, yd = 62 ∨ yd = 63 ∨ yd = 64 ∨ (yd = 61 ∧ yj ≠ 8) → yU.1 yd yj = yW.1 yd yj
theorem tkE_tr {yW yU V : AW} (yh : tkE yW yU) (yg : tkE yU V) : tkE yW V := fun yd yj yp => (yg yd yj yp).trans (yh yd yj yp)
theorem bx_se0 {N : Nat} {yA : AW} {yQ : Option Value → AW → Prop} (yf yb yk : Int32)
    (l1 : Pa N 93 8 [(0, .ref 61), (1, .int yf), (2, .int yb), (3, .int yk), (4, .int 0)] [] (uI yA 61 8 0) yQ) :
    Pa N 93 0 [(0, .ref 61), (1, .int yf), (2, .int yb), (3, .int yk)] [] yA yQ := by
  refine Pa.mp 1 (pc' := 1) (l' := [(0, .ref 61), (1, .int yf), (2, .int yb), (3, .int yk)]) (st' := [.ref 61]) (by rfl) ?_
  refine Pa.ic (x := 0) (pc' := 2) (by rfl) (by rfl) (by decide) ?_
  refine Pa.pfI (by rfl) (by rfl) (.inl rfl) (by rfl) ?_
  show Pa N 93 5 [(0, .ref 61), (1, .int yf), (2, .int yb), (3, .int yk)] [] (uI yA 61 8 0) _
  refine Pa.ic (x := 0) (pc' := 6) (by rfl) (by rfl) (by decide) ?_
  refine Pa.mp 1 (pc' := 8) (l' := [(4, .int 0), (0, .ref 61), (1, .int yf), (2, .int yb), (3, .int yk)]) (st' := []) (by rfl) ?_
  refine Pa.lv (l' := [(0, .ref 61), (1, .int yf), (2, .int yb), (3, .int yk), (4, .int 0)]) (lvS_c rfl (lvS_c rfl (lvS_c rfl (lvS_c rfl (lvS_c rfl (lvS_nil)))))) rfl ?_
  exact l1

theorem bx_se1 {N : Nat} {yA : AW} {yQ : Option Value → AW → Prop} (yf yb yk l : Int32)
    (l1 : 6 ≤ l.toInt → yQ none yA)
    (l2 : l.toInt < 6 → 3 ≤ (yA.1 61 8).toInt → yQ none yA)
    (l3 : l.toInt < 6 → (yA.1 61 8).toInt < 3 → ((yb >>> (l &&& 31)) &&& 1).toInt ≠ 1 → Pa N 93 8 [(0, .ref 61), (1, .int yf), (2, .int yb), (3, .int yk), (4, .int (l + 1))] [] yA yQ)
    (l4 : l.toInt < 6 → (yA.1 61 8).toInt < 3 → ((yb >>> (l &&& 31)) &&& 1).toInt = 1 → 0 ≤ (yA.1 61 8).toInt → Pa N 15 0 [(0, .ref 46), (1, .int 1), (2, .int l), (3, .int yf), (4, .int yk), (5, .int yk)] [] (uI yA 65 ((yA.1 61 8).toInt.toNat) l) (fun yu A1 => Pa N 93 65 [(0, .ref 61), (1, .int yf), (2, .int yb), (3, .int yk), (4, .int l)] (yu.toList ++ [.int (yA.1 61 8), .ref 66]) A1 yQ)) :
    Pa (N + 1) 93 8 [(0, .ref 61), (1, .int yf), (2, .int yb), (3, .int yk), (4, .int l)] [] yA yQ := by
  refine Pa.mp1 0 (pc' := 10) (l' := [(0, .ref 61), (1, .int yf), (2, .int yb), (3, .int yk), (4, .int l)]) (st' := [.int l]) (by rfl) ?_
  refine Pa.ic (x := 6) (pc' := 12) (by rfl) (by rfl) (by decide) ?_
  refine Pa.if2 (a := l.toInt) (b := 6) (t := 82) (by rfl) (by rfl) (rfl) (by decide) (fun h1 => ?_) (fun h2 => ?_)
  · have h1 : 6 ≤ l.toInt := h1
    refine Pa.vret (by rfl) ?_
    exact l1 h1
  · have h2 : l.toInt < 6 := h2
    refine Pa.mp 1 (pc' := 16) (l' := [(0, .ref 61), (1, .int yf), (2, .int yb), (3, .int yk), (4, .int l)]) (st' := [.ref 61]) (by rfl) ?_
    refine Pa.gfI (v := yA.1 61 8) (by rfl) (by rfl) (.inl rfl) (by rfl) (by rfl) ?_
    refine Pa.ic (x := 3) (pc' := 20) (by rfl) (by rfl) (by decide) ?_
    refine Pa.if2 (a := (yA.1 61 8).toInt) (b := 3) (t := 82) (by rfl) (by rfl) (rfl) (by decide) (fun h3 => ?_) (fun h4 => ?_)
    · have h3 : 3 ≤ (yA.1 61 8).toInt := h3
      refine Pa.vret (by rfl) ?_
      exact l2 h2 h3
    · have h4 : (yA.1 61 8).toInt < 3 := h4
      refine Pa.mp 3 (pc' := 27) (l' := [(0, .ref 61), (1, .int yf), (2, .int yb), (3, .int yk), (4, .int l)]) (st' := [.int (yb >>> (l &&& 31))]) (by rfl) ?_
      refine Pa.ic (x := 1) (pc' := 28) (by rfl) (by rfl) (by decide) ?_
      refine Pa.mp 1 (pc' := 29) (l' := [(0, .ref 61), (1, .int yf), (2, .int yb), (3, .int yk), (4, .int l)]) (st' := [.int ((yb >>> (l &&& 31)) &&& 1)]) (by rfl) ?_
      refine Pa.ic (x := 1) (pc' := 30) (by rfl) (by rfl) (by decide) ?_
      refine Pa.if2 (a := ((yb >>> (l &&& 31)) &&& 1).toInt) (b := 1) (t := 76) (by rfl) (by rfl) (rfl) (by decide) (fun h5 => ?_) (fun h6 => ?_)
      · have h5 : ((yb >>> (l &&& 31)) &&& 1).toInt ≠ 1 := h5
        refine Pa.iinc (x := l) (c := 1) (v := (l + 1)) (l' := [(4, .int (l + 1)), (0, .ref 61), (1, .int yf), (2, .int yb), (3, .int yk)]) (by rfl) (by rfl) (by decide) (by rfl) (by rfl) ?_
        refine Pa.mp 1 (pc' := 8) (l' := [(4, .int (l + 1)), (0, .ref 61), (1, .int yf), (2, .int yb), (3, .int yk)]) (st' := []) (by rfl) ?_
        refine Pa.lv (l' := [(0, .ref 61), (1, .int yf), (2, .int yb), (3, .int yk), (4, .int (l + 1))]) (lvS_c rfl (lvS_c rfl (lvS_c rfl (lvS_c rfl (lvS_c rfl (lvS_nil)))))) rfl ?_
        exact l3 h2 h4 h5
      · have h6 : ((yb >>> (l &&& 31)) &&& 1).toInt = 1 := h6
        refine Pa.mp 1 (pc' := 34) (l' := [(0, .ref 61), (1, .int yf), (2, .int yb), (3, .int yk), (4, .int l)]) (st' := [.ref 61]) (by rfl) ?_
        refine Pa.gfR (by rfl) (by rfl) (.inl rfl) (by rfl) ?_
        show Pa N 93 37 [(0, .ref 61), (1, .int yf), (2, .int yb), (3, .int yk), (4, .int l)] [.ref 65] yA _
        refine Pa.mp 1 (pc' := 38) (l' := [(0, .ref 61), (1, .int yf), (2, .int yb), (3, .int yk), (4, .int l)]) (st' := [.ref 61, .ref 65]) (by rfl) ?_
        refine Pa.gfI (v := yA.1 61 8) (by rfl) (by rfl) (.inl rfl) (by rfl) (by rfl) ?_
        refine Pa.mp 1 (pc' := 43) (l' := [(0, .ref 61), (1, .int yf), (2, .int yb), (3, .int yk), (4, .int l)]) (st' := [.int l, .int (yA.1 61 8), .ref 65]) (by rfl) ?_
        refine Pa.asts (j' := ((yA.1 61 8).toInt.toNat)) (by rfl) (by rfl) (by rfl) (fun h7 h8 => ?_)
        have h7 : 0 ≤ (yA.1 61 8).toInt := h7
        have h8 : (yA.1 61 8).toInt < 3 := h8
        show Pa N 93 44 [(0, .ref 61), (1, .int yf), (2, .int yb), (3, .int yk), (4, .int l)] [] (uI yA 65 ((yA.1 61 8).toInt.toNat) l) _
        refine Pa.mp 1 (pc' := 45) (l' := [(0, .ref 61), (1, .int yf), (2, .int yb), (3, .int yk), (4, .int l)]) (st' := [.ref 61]) (by rfl) ?_
        refine Pa.gfR (by rfl) (by rfl) (.inl rfl) (by rfl) ?_
        show Pa N 93 48 [(0, .ref 61), (1, .int yf), (2, .int yb), (3, .int yk), (4, .int l)] [.ref 66] (uI yA 65 ((yA.1 61 8).toInt.toNat) l) _
        refine Pa.mp 1 (pc' := 49) (l' := [(0, .ref 61), (1, .int yf), (2, .int yb), (3, .int yk), (4, .int l)]) (st' := [.ref 61, .ref 66]) (by rfl) ?_
        refine Pa.gfI (v := yA.1 61 8) (by rfl) (by rfl) (.inl rfl) (by rfl) (by show (uI yA 65 ((yA.1 61 8).toInt.toNat) l).1 61 8 = yA.1 61 8; rw [uI_c (by decide)]) ?_
        refine Pa.mp 1 (pc' := 53) (l' := [(0, .ref 61), (1, .int yf), (2, .int yb), (3, .int yk), (4, .int l)]) (st' := [.ref 61, .int (yA.1 61 8), .ref 66]) (by rfl) ?_
        refine Pa.gfR (by rfl) (by rfl) (.inl rfl) (by rfl) ?_
        show Pa N 93 56 [(0, .ref 61), (1, .int yf), (2, .int yb), (3, .int yk), (4, .int l)] [.ref 46, .int (yA.1 61 8), .ref 66] (uI yA 65 ((yA.1 61 8).toInt.toNat) l) _
        refine Pa.ic (x := 1) (pc' := 57) (by rfl) (by rfl) (by decide) ?_
        refine Pa.mp 4 (pc' := 62) (l' := [(0, .ref 61), (1, .int yf), (2, .int yb), (3, .int yk), (4, .int l)]) (st' := [.int yk, .int yk, .int yf, .int l, .int 1, .ref 46, .int (yA.1 61 8), .ref 66]) (by rfl) ?_
        refine Pa.inv (by rfl) (by rfl) (.inr rfl) (by rfl) ?_
        exact l4 h2 h4 h6 h7

theorem bx_se2 {N : Nat} {yA : AW} {yQ : Option Value → AW → Prop} (yf yb yk l yv yq : Int32)
    (l1 : 0 ≤ yq.toInt → yq.toInt < 3 → Pa N 93 8 [(0, .ref 61), (1, .int yf), (2, .int yb), (3, .int yk), (4, .int (l + 1))] [] (uI (uI yA 66 yq.toInt.toNat yv) 61 8 ((yA.1 61 8) + 1)) yQ) :
    Pa N 93 65 [(0, .ref 61), (1, .int yf), (2, .int yb), (3, .int yk), (4, .int l)] [.int yv, .int yq, .ref 66] yA yQ := by
  refine Pa.asts (j' := yq.toInt.toNat) (by rfl) (by rfl) (by rfl) (fun h1 h2 => ?_)
  have h1 : 0 ≤ yq.toInt := h1
  have h2 : yq.toInt < 3 := h2
  show Pa N 93 66 [(0, .ref 61), (1, .int yf), (2, .int yb), (3, .int yk), (4, .int l)] [] (uI yA 66 yq.toInt.toNat yv) _
  refine Pa.mp 2 (pc' := 68) (l' := [(0, .ref 61), (1, .int yf), (2, .int yb), (3, .int yk), (4, .int l)]) (st' := [.ref 61, .ref 61]) (by rfl) ?_
  refine Pa.gfI (v := yA.1 61 8) (by rfl) (by rfl) (.inl rfl) (by rfl) (by show (uI yA 66 yq.toInt.toNat yv).1 61 8 = yA.1 61 8; rw [uI_c (by decide)]) ?_
  refine Pa.ic (x := 1) (pc' := 72) (by rfl) (by rfl) (by decide) ?_
  refine Pa.mp 1 (pc' := 73) (l' := [(0, .ref 61), (1, .int yf), (2, .int yb), (3, .int yk), (4, .int l)]) (st' := [.int ((yA.1 61 8) + 1), .ref 61]) (by rfl) ?_
  refine Pa.pfI (by rfl) (by rfl) (.inl rfl) (by rfl) ?_
  show Pa N 93 76 [(0, .ref 61), (1, .int yf), (2, .int yb), (3, .int yk), (4, .int l)] [] (uI (uI yA 66 yq.toInt.toNat yv) 61 8 ((yA.1 61 8) + 1)) _
  refine Pa.iinc (x := l) (c := 1) (v := (l + 1)) (l' := [(4, .int (l + 1)), (0, .ref 61), (1, .int yf), (2, .int yb), (3, .int yk)]) (by rfl) (by rfl) (by decide) (by rfl) (by rfl) ?_
  refine Pa.mp 1 (pc' := 8) (l' := [(4, .int (l + 1)), (0, .ref 61), (1, .int yf), (2, .int yb), (3, .int yk)]) (st' := []) (by rfl) ?_
  refine Pa.lv (l' := [(0, .ref 61), (1, .int yf), (2, .int yb), (3, .int yk), (4, .int (l + 1))]) (lvS_c rfl (lvS_c rfl (lvS_c rfl (lvS_c rfl (lvS_c rfl (lvS_nil)))))) rfl ?_
  exact l1 h1 h2

theorem c_seX {yA yW : AW} (yg : Rgx yA) (hs : scX yW yA yW) {yb : Nat} (yhb : yb < 64) (h3 : cb yb 6 ≤ 3) (yf : Int32) (yf0 : 0 ≤ yf.toInt) (yf1 : yf.toInt < (yA.1 69 11).toInt) (N : Nat) : Pa N 93 0 [(0, .ref 61), (1, .int yf), (2, .int (Int32.ofNat yb)), (3, .int (yA.1 69 0))] [] yW (fun yv yU => yv = none ∧ scX yU yA yU ∧ tkE yW yU ∧ yU.1 61 8 = Int32.ofNat (cb yb 6) ∧ ∀ yp, yp < cb yb 6 → yU.1 65 yp = Int32.ofNat (pL yb yp) ∧ yU.1 66 yp = rtV yA yf (pL yb yp)) := by
  have yd9 := yg.gl.ok.fld (i := 69) (k := 0) (lo := 0) (hi := 3599) (by decide +kernel)
  have ykey : ∀ (N l : Nat) (yU : AW), l ≤ 6 → scX yU yA yU → tkE yW yU → yU.1 61 8 = Int32.ofNat (cb yb l) → (∀ yp, yp < cb yb l → yU.1 65 yp = Int32.ofNat (pL yb yp) ∧ yU.1 66 yp = rtV yA yf (pL yb yp)) → Pa N 93 8 [(0, .ref 61), (1, .int yf), (2, .int (Int32.ofNat yb)), (3, .int (yA.1 69 0)), (4, .int (Int32.ofNat l))] [] yU (fun yv yU => yv = none ∧ scX yU yA yU ∧ tkE yW yU ∧ yU.1 61 8 = Int32.ofNat (cb yb 6) ∧ ∀ yp, yp < cb yb 6 → yU.1 65 yp = Int32.ofNat (pL yb yp) ∧ yU.1 66 yp = rtV yA yf (pL yb yp)) := by
    intro N
    induction N with
    | zero => intros; exact Pa.zero
    | succ N yih =>
      intro l yU hl hu ht h8 hr
      have el : (Int32.ofNat l).toInt = (l : Int) := i32_nat (by omega)
      have cm : cb yb l ≤ cb yb 6 := by
        have yz := cb_mm (yb := yb) (l := l) (ym := 6 - l)
        rw [show l + (6 - l) = 6 from by omega] at yz
        exact yz
      have u8 : (yU.1 61 8).toInt = (cb yb l : Int) := by rw [h8]; exact i32_nat (by omega)
      refine bx_se1 yf (Int32.ofNat yb) (yA.1 69 0) (Int32.ofNat l) ?_ ?_ ?_ ?_ <;> rw [el] <;> (try rw [u8])
      · intro yq
        have ye : l = 6 := by omega
        subst ye
        exact ⟨rfl, hu, ht, h8, hr⟩
      · intro yq1 yq2
        have ye : cb yb l = cb yb 6 := by omega
        rw [ye] at h8 hr
        exact ⟨rfl, hu, ht, h8, hr⟩
      · intro yq1 yq2 yq3
        rw [bt1 yhb (by omega)] at yq3
        have hn : yb.testBit l ≠ true := fun yz => yq3 (if_pos yz)
        have yh := yih (l + 1) yU (by omega) hu ht (by rw [cb_0 hn]; exact h8) (by rw [cb_0 hn]; exact hr)
        rw [on_succ l] at yh
        exact yh
      · intro yq1 yq2 yq3 _
        rw [bt1 yhb (by omega)] at yq3
        have hy : yb.testBit l = true := Classical.byContradiction (fun yz => by rw [if_neg yz] at yq3; omega)
        rw [Int.toNat_natCast]
        refine Pa.mono (c_lawS yg (scX_k hu (by decide)) 1 (Int32.ofNat l) yf (yA.1 69 0) (yA.1 69 0) yf0 yf1 yd9.2 N) (fun yv A1 hv => ?_)
        obtain ⟨rfl, ys1, -⟩ := hv
        have yk1 : ∀ yd yj, scK yd → A1.1 yd yj = (uI yU 65 (cb yb l) (Int32.ofNat l)).1 yd yj := ys1.2.2.2.2
        refine bx_se2 yf (Int32.ofNat yb) (yA.1 69 0) (Int32.ofNat l) _ (yU.1 61 8) ?_
        rw [u8, Int.toNat_natCast]
        intro _ _
        have e61 : A1.1 61 8 = Int32.ofNat (cb yb l) := by
          rw [yk1 61 8 (by decide), uI_c (by decide)]
          exact h8
        have yh := yih (l + 1) (uI (uI A1 66 (cb yb l) (lwV yA 1 (Int32.ofNat l) yf (yA.1 69 0) (yA.1 69 0))) 61 8 (A1.1 61 8 + 1)) (by omega) (scX_k (scX_k (scX_rb ys1) (by decide)) (by decide)) (fun yd yj yhd => by
          have ye1 : (uI (uI A1 66 (cb yb l) (lwV yA 1 (Int32.ofNat l) yf (yA.1 69 0) (yA.1 69 0))) 61 8 (A1.1 61 8 + 1)).1 yd yj = A1.1 yd yj := by
            by_cases ye : yd = 61
            · rw [ye, uI_k (by omega), uI_c (by decide)]
            · rw [uI_c ye, uI_c (by omega)]
          have hk : scK yd := by
            rcases yhd with yz | yz | yz | yz
            · rw [yz]
              decide
            · rw [yz]
              decide
            · rw [yz]
              decide
            · rw [yz.1]
              decide
          rw [ye1, yk1 yd yj hk, uI_c (by omega)]
          exact ht yd yj yhd) (by rw [uI_h, e61, cb_1 hy, on_succ]) (fun yp hp => by
          rw [cb_1 hy] at hp
          rw [uI_c (by decide), uI_c (by decide), uI_c (by decide), uI_row, yk1 65 yp (by decide), uI_row]
          by_cases ye : yp = cb yb l
          · rw [if_pos ye, if_pos ye, ye, (pL1 yhb (by omega) hy).1]
            exact ⟨rfl, rfl⟩
          · rw [if_neg ye, if_neg ye, yk1 66 yp (by decide), uI_c (by decide)]
            exact hr yp (by omega))
        rw [on_succ l] at yh
        exact yh
  refine bx_se0 yf (Int32.ofNat yb) (yA.1 69 0) ?_
  exact ykey N 0 (uI yW 61 8 0) (Nat.zero_le _) (scX_k hs (by decide)) (fun yd yj yhd => by
    by_cases ye : yd = 61
    · rw [ye]
      exact uI_k (by omega)
    · exact uI_c ye) (by rw [uI_h]; rfl) (fun yp hp => absurd hp (Nat.not_lt_zero yp))
