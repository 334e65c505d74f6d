/-! WHAT IS READ DEPENDS ON THE BYTES ALONE -/
theorem rIf_F {yx yy : rRs} : rIf False yx yy = yy := rIf_0 (fun yh => yh)
section RCG
variable {T T' : Nat → Int32} {yn : Nat}
theorem rdC_cg (yh : ∀ yj, yj < yn → T yj = T' yj) (ya : Nat) : rdC T yn ya = rdC T' yn ya := by
  by_cases yha : ya < yn
  · rw [rdC_in yha, rdC_in yha, yh ya yha]
  · rw [rdC_out (by omega), rdC_out (by omega)]
theorem rdN_cg (yh : ∀ yj, yj < yn → T yj = T' yj) : ∀ (yk ya : Nat) (yv : Int32), rdN T yn yk ya yv = rdN T' yn yk ya yv
  | 0, _, _ => rfl
  | yk + 1, ya, yv => by
    by_cases yq : 48 ≤ rdC T yn ya ∧ rdC T yn ya ≤ 57
    · have q' := yq
      rw [rdC_cg yh] at q'
      have yha : ya < yn := Classical.byContradiction (fun yz => by
        rw [rdC_out (by omega)] at yq
        omega)
      rw [rdN_go yq, rdN_go q', yh ya yha, rdN_cg yh yk]
    · have q' := yq
      rw [rdC_cg yh] at q'
      rw [rdN_stop yq, rdN_stop q']
theorem rP_cg (yh : ∀ yj, yj < yn → T yj = T' yj) : ∀ (yf ym o ya : Nat), rP T yn yf ym o ya = rP T' yn yf ym o ya
  | 0, _, _, _ => rfl
  | yf + 1, ym, o, ya => by
    have yih := rP_cg yh yf
    have hr := rdC_cg yh
    have hn := rdN_cg yh
    rw [rP_s, rP_s]
    by_cases yha : ya < yn
    · simp only [yih, hr, hn, yh ya yha]
    · by_cases h1 : ym < 5
      · rw [rIf_1 h1, rIf_1 h1]
        simp only [yih]
      · rw [rIf_0 h1, rIf_0 h1]
        by_cases h2 : ym = 5
        · rw [rIf_1 h2, rIf_1 h2]
          simp only [yih, hr, hn, yha, false_and, rIf_F]
        · rw [rIf_0 h2, rIf_0 h2]
          have hs : ∀ T'' : Nat → Int32, ¬ sgN ((ym : Int) - 10) (rdC T'' yn ya) := fun T'' yq => by
            rw [rdC_out (by omega)] at yq
            unfold sgN at yq
            omega
          rw [rIf_0 (hs T), rIf_0 (hs T')]
theorem rLn_cg (yh : ∀ yj, yj < yn → T yj = T' yj) (yf ya : Nat) : rLn T yn yf ya = rLn T' yn yf ya := by
  have yih := rP_cg yh yf
  have hr := rdC_cg yh
  unfold rLn
  simp only [yih, hr]
theorem rTx_cg (yh : ∀ yj, yj < yn → T yj = T' yj) : ∀ (yf ya : Nat), rTx T yn yf ya = rTx T' yn yf ya
  | 0, _ => rfl
  | yf + 1, ya => by
    have yih := rTx_cg yh yf
    have hr := rdC_cg yh
    have hl := rLn_cg yh yf
    rw [rTx_s, rTx_s]
    simp only [yih, hr, hl]
theorem RT_cg {ya : Nat} {yr : Nat × Option (List Int32)} (yh : ∀ yj, yj < yn → T yj = T' yj) (h1 : RT T yn ya yr) : RT T' yn ya yr := by
  obtain ⟨yf, h1⟩ := h1
  exact ⟨yf, by rw [← rTx_cg yh]; exact h1⟩
end RCG
/-! FEED -/
def byX (yv : Int32) (yi : Nat) : Int32 := ((yv.toUInt32 >>> ((8 * Int32.ofNat yi).toUInt32 &&& Int32.toUInt32 31)).toInt32) &&& 255
def byM (yv : Int32) (yi : Nat) : Int32 := (yv >>> ((8 * Int32.ofNat yi) &&& 31)) &&& 255
theorem by_hi : ∀ yj : Fin 32, 8 ≤ yj.val → (255#32).getLsbD yj.val = false := by decide
theorem by_sh (yx : BitVec 32) (ys : Nat) (hs : ys ≤ 24) : (yx >>> ys) &&& 255#32 = (yx.sshiftRight ys) &&& 255#32 := by
  apply BitVec.eq_of_getLsbD_eq
  intro yj hj
  rw [BitVec.getLsbD_and, BitVec.getLsbD_and]
  by_cases h8 : yj < 8
  · rw [BitVec.getLsbD_ushiftRight, BitVec.getLsbD_sshiftRight, if_pos (by omega), show decide (32 ≤ yj) = false from decide_eq_false (by omega)]
    rfl
  · rw [by_hi ⟨yj, hj⟩ (by show 8 ≤ yj; omega), Bool.and_false, Bool.and_false]
theorem by_eq (yv : Int32) : ∀ yi, yi < 4 → byX yv yi = byM yv yi := by
  intro yi yhi
  unfold byX byM
  apply Int32.toBitVec_inj.mp
  rcases (by omega : yi = 0 ∨ yi = 1 ∨ yi = 2 ∨ yi = 3) with ye | ye | ye | ye <;> subst ye
  · exact by_sh yv.toBitVec 0 (by decide)
  · exact by_sh yv.toBitVec 8 (by decide)
  · exact by_sh yv.toBitVec 16 (by decide)
  · exact by_sh yv.toBitVec 24 (by decide)
theorem and255 (yx : Int32) : 0 ≤ (yx &&& 255).toInt ∧ (yx &&& 255).toInt ≤ 255 := by
  have ye : (yx &&& 255).toInt = ((yx.toBitVec &&& 255#32).toNat : Int) := by
    show (yx.toBitVec &&& 255#32).toInt = _
    apply BitVec.toInt_eq_toNat_of_lt
    have yh : (yx.toBitVec &&& 255#32).toNat ≤ 255 := by
      rw [BitVec.toNat_and]
      exact Nat.and_le_right
    omega
  have yh : (yx.toBitVec &&& 255#32).toNat ≤ 255 := by
    rw [BitVec.toNat_and]
    exact Nat.and_le_right
  rw [ye]
  omega
def fdL (yb : Nat → Int32) : Nat → Nat → List Int32
  | _, 0 => []
  | yi, ym + 1 => yb yi :: fdL yb (yi + 1) ym
theorem fdL_len (yb : Nat → Int32) : ∀ (ym yi : Nat), (fdL yb yi ym).length = ym
  | 0, _ => rfl
  | ym + 1, yi => by
    show (fdL yb (yi + 1) ym).length + 1 = ym + 1
    rw [fdL_len yb ym]
theorem fdL_at (yb : Nat → Int32) : ∀ (ym yi yj : Nat), yj < ym → (fdL yb yi ym).getD yj 0 = yb (yi + yj)
  | 0, _, yj, yh => absurd yh (Nat.not_lt_zero yj)
  | ym + 1, yi, 0, _ => rfl
  | ym + 1, yi, yj + 1, yh => by
    show (fdL yb (yi + 1) ym).getD yj 0 = yb (yi + (yj + 1))
    rw [fdL_at yb ym (yi + 1) yj (by omega), show yi + 1 + yj = yi + (yj + 1) from by omega]
theorem pgl_hi {yb yf yk : Nat} (yhb : yb ≠ yf) {yj : Nat} : ∀ {l : List Int32} {yi : Nat} {yW : AW}, yi + l.length ≤ yj → (pgl yb yf yk l yi yW).1 yb yj = yW.1 yb yj
  | [], _, _, _ => rfl
  | yy :: l, yi, yW, yh => by
    rw [List.length_cons] at yh
    show (pgl yb yf yk l (yi + 1) (uI (uI yW yb yi yy) yf yk (Int32.ofNat (yi + 1)))).1 yb yj = _
    rw [pgl_hi yhb (by omega), uI_c yhb, uI_k (by omega)]
theorem pgl_f {yb yf yk : Nat} (yhb : yf ≠ yb) {yq : Nat} (hq : yq ≠ yk) : ∀ {l : List Int32} {yi : Nat} {yW : AW}, (pgl yb yf yk l yi yW).1 yf yq = yW.1 yf yq
  | [], _, _ => rfl
  | yy :: l, yi, yW => by
    show (pgl yb yf yk l (yi + 1) (uI (uI yW yb yi yy) yf yk (Int32.ofNat (yi + 1)))).1 yf yq = _
    rw [pgl_f yhb hq, uI_k hq, uI_c yhb]
theorem bx_feed {N : Nat} {yA : AW} {yQ : Option Value → AW → Prop} (yn yv : Int32)
    (l1 : yn.toInt < 1 → yQ (some (.int (-1))) yA)
    (l2 : 1 ≤ yn.toInt → 4 < yn.toInt → yQ (some (.int (-1))) yA)
    (l3 : 1 ≤ yn.toInt → yn.toInt ≤ 4 → Pa N 81 0 [(0, .ref 35), (1, .int yn), (2, .int yv)] [] yA (fun yu A1 => Pa N 118 20 [(0, .ref 0), (1, .int yn), (2, .int yv)] (yu.toList ++ []) A1 yQ)) :
    Pa N 118 0 [(0, .ref 0), (1, .int yn), (2, .int yv)] [] yA yQ := by
  refine Pa.mp 1 (pc' := 1) (l' := [(0, .ref 0), (1, .int yn), (2, .int yv)]) (st' := [.int yn]) (by rfl) ?_
  refine Pa.ic (x := 1) (pc' := 2) (by rfl) (by rfl) (by decide) ?_
  refine Pa.ic (x := 4) (pc' := 3) (by rfl) (by rfl) (by decide) ?_
  refine Pa.ist (by rfl) (by rfl) (.inl rfl) (by rfl) (by rfl) ?_
  show Pa N 146 0 [(0, .int yn), (1, .int 1), (2, .int 4)] [] yA _
  refine Pa.mp 2 (pc' := 2) (l' := [(0, .int yn), (1, .int 1), (2, .int 4)]) (st' := [.int 1, .int yn]) (by rfl) ?_
  refine Pa.if2 (a := yn.toInt) (b := 1) (t := 14) (by rfl) (by rfl) (rfl) (by decide) (fun h1 => ?_) (fun h2 => ?_)
  · have h1 : yn.toInt < 1 := h1
    refine Pa.ic (x := 0) (pc' := 15) (by rfl) (by rfl) (by decide) ?_
    refine Pa.iret (by rfl) ?_
    show Pa N 118 6 [(0, .ref 0), (1, .int yn), (2, .int yv)] [.int 0] yA _
    refine Pa.if1k false (by rfl) (by rfl) (by decide) ?_
    show Pa N 118 9 [(0, .ref 0), (1, .int yn), (2, .int yv)] [] yA _
    refine Pa.ic (x := (-1)) (pc' := 10) (by rfl) (by rfl) (by decide) ?_
    refine Pa.iret (by rfl) ?_
    exact l1 h1
  · have h2 : 1 ≤ yn.toInt := h2
    refine Pa.mp 2 (pc' := 7) (l' := [(0, .int yn), (1, .int 1), (2, .int 4)]) (st' := [.int 4, .int yn]) (by rfl) ?_
    refine Pa.if2 (a := yn.toInt) (b := 4) (t := 14) (by rfl) (by rfl) (rfl) (by decide) (fun h3 => ?_) (fun h4 => ?_)
    · have h3 : 4 < yn.toInt := h3
      refine Pa.ic (x := 0) (pc' := 15) (by rfl) (by rfl) (by decide) ?_
      refine Pa.iret (by rfl) ?_
      show Pa N 118 6 [(0, .ref 0), (1, .int yn), (2, .int yv)] [.int 0] yA _
      refine Pa.if1k false (by rfl) (by rfl) (by decide) ?_
      show Pa N 118 9 [(0, .ref 0), (1, .int yn), (2, .int yv)] [] yA _
      refine Pa.ic (x := (-1)) (pc' := 10) (by rfl) (by rfl) (by decide) ?_
      refine Pa.iret (by rfl) ?_
      exact l2 h2 h3
    · have h4 : yn.toInt ≤ 4 := h4
      refine Pa.ic (x := 1) (pc' := 11) (by rfl) (by rfl) (by decide) ?_
      refine Pa.mp 1 (pc' := 15) (l' := [(0, .int yn), (1, .int 1), (2, .int 4)]) (st' := [.int 1]) (by rfl) ?_
      refine Pa.iret (by rfl) ?_
      show Pa N 118 6 [(0, .ref 0), (1, .int yn), (2, .int yv)] [.int 1] yA _
      refine Pa.if1k true (by rfl) (by rfl) (by decide) ?_
      show Pa N 118 11 [(0, .ref 0), (1, .int yn), (2, .int yv)] [] yA _
      refine Pa.mp 1 (pc' := 12) (l' := [(0, .ref 0), (1, .int yn), (2, .int yv)]) (st' := [.ref 0]) (by rfl) ?_
      refine Pa.gfR (by rfl) (by rfl) (.inl rfl) (by rfl) ?_
      show Pa N 118 15 [(0, .ref 0), (1, .int yn), (2, .int yv)] [.ref 35] yA _
      refine Pa.mp 2 (pc' := 17) (l' := [(0, .ref 0), (1, .int yn), (2, .int yv)]) (st' := [.int yv, .int yn, .ref 35]) (by rfl) ?_
      refine Pa.inv (by rfl) (by rfl) (.inr rfl) (by rfl) ?_
      exact l3 h2 h4

theorem bx_tk0 {N : Nat} {yA : AW} {yQ : Option Value → AW → Prop} (yn yv : Int32)
    (l1 : ((yA.1 35 2) + yn).toInt ≤ 160 → Pa N 81 17 [(0, .ref 35), (1, .int yn), (2, .int yv), (3, .int 0)] [] yA yQ)
    (l2 : 160 < ((yA.1 35 2) + yn).toInt → yQ (some (.int (-2))) yA) :
    Pa N 81 0 [(0, .ref 35), (1, .int yn), (2, .int yv)] [] yA yQ := by
  refine Pa.mp 1 (pc' := 1) (l' := [(0, .ref 35), (1, .int yn), (2, .int yv)]) (st' := [.ref 35]) (by rfl) ?_
  refine Pa.gfI (v := yA.1 35 2) (by rfl) (by rfl) (.inl rfl) (by rfl) (by rfl) ?_
  refine Pa.mp 2 (pc' := 6) (l' := [(0, .ref 35), (1, .int yn), (2, .int yv)]) (st' := [.int ((yA.1 35 2) + yn)]) (by rfl) ?_
  refine Pa.ic (x := 160) (pc' := 9) (by rfl) (by rfl) (by decide) ?_
  refine Pa.if2 (a := ((yA.1 35 2) + yn).toInt) (b := 160) (t := 15) (by rfl) (by rfl) (rfl) (by decide) (fun h1 => ?_) (fun h2 => ?_)
  · have h1 : ((yA.1 35 2) + yn).toInt ≤ 160 := h1
    refine Pa.ic (x := 0) (pc' := 16) (by rfl) (by rfl) (by decide) ?_
    refine Pa.mp 1 (pc' := 17) (l' := [(3, .int 0), (0, .ref 35), (1, .int yn), (2, .int yv)]) (st' := []) (by rfl) ?_
    refine Pa.lv (l' := [(0, .ref 35), (1, .int yn), (2, .int yv), (3, .int 0)]) (lvS_c rfl (lvS_c rfl (lvS_c rfl (lvS_c rfl (lvS_nil))))) rfl ?_
    exact l1 h1
  · have h2 : 160 < ((yA.1 35 2) + yn).toInt := h2
    refine Pa.ic (x := (-2)) (pc' := 14) (by rfl) (by rfl) (by decide) ?_
    refine Pa.iret (by rfl) ?_
    exact l2 h2

theorem bx_tk {N : Nat} {yA : AW} {yQ : Option Value → AW → Prop} (yn yv yi : Int32)
    (l1 : yn.toInt ≤ yi.toInt → yQ (some (.int (yA.1 35 2))) yA)
    (l2 : yi.toInt < yn.toInt → 0 ≤ (yA.1 35 2).toInt → (yA.1 35 2).toInt < 160 → Pa N 81 17 [(0, .ref 35), (1, .int yn), (2, .int yv), (3, .int (yi + 1))] [] (uI (uI yA 36 ((yA.1 35 2).toInt.toNat) (((yv.toUInt32 >>> ((8 * yi).toUInt32 &&& Int32.toUInt32 31)).toInt32) &&& 255)) 35 2 ((yA.1 35 2) + 1)) yQ) :
    Pa (N + 1) 81 17 [(0, .ref 35), (1, .int yn), (2, .int yv), (3, .int yi)] [] yA yQ := by
  refine Pa.mp1 1 (pc' := 19) (l' := [(0, .ref 35), (1, .int yn), (2, .int yv), (3, .int yi)]) (st' := [.int yn, .int yi]) (by rfl) ?_
  refine Pa.if2 (a := yi.toInt) (b := yn.toInt) (t := 57) (by rfl) (by rfl) (rfl) (rfl) (fun h1 => ?_) (fun h2 => ?_)
  · have h1 : yn.toInt ≤ yi.toInt := h1
    refine Pa.mp 1 (pc' := 58) (l' := [(0, .ref 35), (1, .int yn), (2, .int yv), (3, .int yi)]) (st' := [.ref 35]) (by rfl) ?_
    refine Pa.gfI (v := yA.1 35 2) (by rfl) (by rfl) (.inl rfl) (by rfl) (by rfl) ?_
    refine Pa.iret (by rfl) ?_
    exact l1 h1
  · have h2 : yi.toInt < yn.toInt := h2
    refine Pa.mp 1 (pc' := 23) (l' := [(0, .ref 35), (1, .int yn), (2, .int yv), (3, .int yi)]) (st' := [.ref 35]) (by rfl) ?_
    refine Pa.gfR (by rfl) (by rfl) (.inl rfl) (by rfl) ?_
    show Pa N 81 26 [(0, .ref 35), (1, .int yn), (2, .int yv), (3, .int yi)] [.ref 36] yA _
    refine Pa.mp 1 (pc' := 27) (l' := [(0, .ref 35), (1, .int yn), (2, .int yv), (3, .int yi)]) (st' := [.ref 35, .ref 36]) (by rfl) ?_
    refine Pa.gfI (v := yA.1 35 2) (by rfl) (by rfl) (.inl rfl) (by rfl) (by rfl) ?_
    refine Pa.mp 1 (pc' := 31) (l' := [(0, .ref 35), (1, .int yn), (2, .int yv), (3, .int yi)]) (st' := [.int yv, .int (yA.1 35 2), .ref 36]) (by rfl) ?_
    refine Pa.ic (x := 8) (pc' := 33) (by rfl) (by rfl) (by decide) ?_
    refine Pa.mp 3 (pc' := 36) (l' := [(0, .ref 35), (1, .int yn), (2, .int yv), (3, .int yi)]) (st' := [.int ((yv.toUInt32 >>> ((8 * yi).toUInt32 &&& Int32.toUInt32 31)).toInt32), .int (yA.1 35 2), .ref 36]) (by rfl) ?_
    refine Pa.ic (x := 255) (pc' := 39) (by rfl) (by rfl) (by decide) ?_
    refine Pa.mp 1 (pc' := 40) (l' := [(0, .ref 35), (1, .int yn), (2, .int yv), (3, .int yi)]) (st' := [.int (((yv.toUInt32 >>> ((8 * yi).toUInt32 &&& Int32.toUInt32 31)).toInt32) &&& 255), .int (yA.1 35 2), .ref 36]) (by rfl) ?_
    refine Pa.asts (j' := ((yA.1 35 2).toInt.toNat)) (by rfl) (by rfl) (by rfl) (fun h3 h4 => ?_)
    have h3 : 0 ≤ (yA.1 35 2).toInt := h3
    have h4 : (yA.1 35 2).toInt < 160 := h4
    show Pa N 81 41 [(0, .ref 35), (1, .int yn), (2, .int yv), (3, .int yi)] [] (uI yA 36 ((yA.1 35 2).toInt.toNat) (((yv.toUInt32 >>> ((8 * yi).toUInt32 &&& Int32.toUInt32 31)).toInt32) &&& 255)) _
    refine Pa.mp 2 (pc' := 43) (l' := [(0, .ref 35), (1, .int yn), (2, .int yv), (3, .int yi)]) (st' := [.ref 35, .ref 35]) (by rfl) ?_
    refine Pa.gfI (v := yA.1 35 2) (by rfl) (by rfl) (.inl rfl) (by rfl) (by show (uI yA 36 ((yA.1 35 2).toInt.toNat) (((yv.toUInt32 >>> ((8 * yi).toUInt32 &&& Int32.toUInt32 31)).toInt32) &&& 255)).1 35 2 = yA.1 35 2; rw [uI_c (by decide)]) ?_
    refine Pa.ic (x := 1) (pc' := 47) (by rfl) (by rfl) (by decide) ?_
    refine Pa.mp 1 (pc' := 48) (l' := [(0, .ref 35), (1, .int yn), (2, .int yv), (3, .int yi)]) (st' := [.int ((yA.1 35 2) + 1), .ref 35]) (by rfl) ?_
    refine Pa.pfI (by rfl) (by rfl) (.inl rfl) (by rfl) ?_
    show Pa N 81 51 [(0, .ref 35), (1, .int yn), (2, .int yv), (3, .int yi)] [] (uI (uI yA 36 ((yA.1 35 2).toInt.toNat) (((yv.toUInt32 >>> ((8 * yi).toUInt32 &&& Int32.toUInt32 31)).toInt32) &&& 255)) 35 2 ((yA.1 35 2) + 1)) _
    refine Pa.iinc (x := yi) (c := 1) (v := (yi + 1)) (l' := [(3, .int (yi + 1)), (0, .ref 35), (1, .int yn), (2, .int yv)]) (by rfl) (by rfl) (by decide) (by rfl) (by rfl) ?_
    refine Pa.mp 1 (pc' := 17) (l' := [(3, .int (yi + 1)), (0, .ref 35), (1, .int yn), (2, .int yv)]) (st' := []) (by rfl) ?_
    refine Pa.lv (l' := [(0, .ref 35), (1, .int yn), (2, .int yv), (3, .int (yi + 1))]) (lvS_c rfl (lvS_c rfl (lvS_c rfl (lvS_c rfl (lvS_nil))))) rfl ?_
    exact l2 h2 h3 h4

theorem bm_fd0 {N : Nat} {yA : AW} {yQ : Option Value → AW → Prop} (yn yv : Int32)
    (l1 : yn.toInt < 1 → yQ (some (.int (-1))) yA)
    (l2 : 1 ≤ yn.toInt → 4 < yn.toInt → yQ (some (.int (-1))) yA)
    (l3 : 1 ≤ yn.toInt → yn.toInt ≤ 4 → ((yA.1 69 39) + yn).toInt ≤ 160 → Pa N 190 28 [(0, .ref 69), (1, .int yn), (2, .int yv), (3, .int 0)] [] yA yQ)
    (l4 : 1 ≤ yn.toInt → yn.toInt ≤ 4 → 160 < ((yA.1 69 39) + yn).toInt → yQ (some (.int (-2))) yA) :
    Pa N 190 0 [(0, .ref 69), (1, .int yn), (2, .int yv)] [] yA yQ := by
  refine Pa.mp 1 (pc' := 1) (l' := [(0, .ref 69), (1, .int yn), (2, .int yv)]) (st' := [.int yn]) (by rfl) ?_
  refine Pa.ic (x := 1) (pc' := 2) (by rfl) (by rfl) (by decide) ?_
  refine Pa.ic (x := 4) (pc' := 3) (by rfl) (by rfl) (by decide) ?_
  refine Pa.ist (by rfl) (by rfl) (.inl rfl) (by rfl) (by rfl) ?_
  show Pa N 152 0 [(0, .int yn), (1, .int 1), (2, .int 4)] [] yA _
  refine Pa.mp 2 (pc' := 2) (l' := [(0, .int yn), (1, .int 1), (2, .int 4)]) (st' := [.int 1, .int yn]) (by rfl) ?_
  refine Pa.if2 (a := yn.toInt) (b := 1) (t := 14) (by rfl) (by rfl) (rfl) (by decide) (fun h1 => ?_) (fun h2 => ?_)
  · have h1 : yn.toInt < 1 := h1
    refine Pa.ic (x := 0) (pc' := 15) (by rfl) (by rfl) (by decide) ?_
    refine Pa.iret (by rfl) ?_
    show Pa N 190 6 [(0, .ref 69), (1, .int yn), (2, .int yv)] [.int 0] yA _
    refine Pa.if1k false (by rfl) (by rfl) (by decide) ?_
    show Pa N 190 9 [(0, .ref 69), (1, .int yn), (2, .int yv)] [] yA _
    refine Pa.ic (x := (-1)) (pc' := 10) (by rfl) (by rfl) (by decide) ?_
    refine Pa.iret (by rfl) ?_
    exact l1 h1
  · have h2 : 1 ≤ yn.toInt := h2
    refine Pa.mp 2 (pc' := 7) (l' := [(0, .int yn), (1, .int 1), (2, .int 4)]) (st' := [.int 4, .int yn]) (by rfl) ?_
    refine Pa.if2 (a := yn.toInt) (b := 4) (t := 14) (by rfl) (by rfl) (rfl) (by decide) (fun h3 => ?_) (fun h4 => ?_)
    · have h3 : 4 < yn.toInt := h3
      refine Pa.ic (x := 0) (pc' := 15) (by rfl) (by rfl) (by decide) ?_
      refine Pa.iret (by rfl) ?_
      show Pa N 190 6 [(0, .ref 69), (1, .int yn), (2, .int yv)] [.int 0] yA _
      refine Pa.if1k false (by rfl) (by rfl) (by decide) ?_
      show Pa N 190 9 [(0, .ref 69), (1, .int yn), (2, .int yv)] [] yA _
      refine Pa.ic (x := (-1)) (pc' := 10) (by rfl) (by rfl) (by decide) ?_
      refine Pa.iret (by rfl) ?_
      exact l2 h2 h3
    · have h4 : yn.toInt ≤ 4 := h4
      refine Pa.ic (x := 1) (pc' := 11) (by rfl) (by rfl) (by decide) ?_
      refine Pa.mp 1 (pc' := 15) (l' := [(0, .int yn), (1, .int 1), (2, .int 4)]) (st' := [.int 1]) (by rfl) ?_
      refine Pa.iret (by rfl) ?_
      show Pa N 190 6 [(0, .ref 69), (1, .int yn), (2, .int yv)] [.int 1] yA _
      refine Pa.if1k true (by rfl) (by rfl) (by decide) ?_
      show Pa N 190 11 [(0, .ref 69), (1, .int yn), (2, .int yv)] [] yA _
      refine Pa.mp 1 (pc' := 12) (l' := [(0, .ref 69), (1, .int yn), (2, .int yv)]) (st' := [.ref 69]) (by rfl) ?_
      refine Pa.gfI (v := yA.1 69 39) (by rfl) (by rfl) (.inl rfl) (by rfl) (by rfl) ?_
      refine Pa.mp 2 (pc' := 17) (l' := [(0, .ref 69), (1, .int yn), (2, .int yv)]) (st' := [.int ((yA.1 69 39) + yn)]) (by rfl) ?_
      refine Pa.ic (x := 160) (pc' := 20) (by rfl) (by rfl) (by decide) ?_
      refine Pa.if2 (a := ((yA.1 69 39) + yn).toInt) (b := 160) (t := 26) (by rfl) (by rfl) (rfl) (by decide) (fun h5 => ?_) (fun h6 => ?_)
      · have h5 : ((yA.1 69 39) + yn).toInt ≤ 160 := h5
        refine Pa.ic (x := 0) (pc' := 27) (by rfl) (by rfl) (by decide) ?_
        refine Pa.mp 1 (pc' := 28) (l' := [(3, .int 0), (0, .ref 69), (1, .int yn), (2, .int yv)]) (st' := []) (by rfl) ?_
        refine Pa.lv (l' := [(0, .ref 69), (1, .int yn), (2, .int yv), (3, .int 0)]) (lvS_c rfl (lvS_c rfl (lvS_c rfl (lvS_c rfl (lvS_nil))))) rfl ?_
        exact l3 h2 h4 h5
      · have h6 : 160 < ((yA.1 69 39) + yn).toInt := h6
        refine Pa.ic (x := (-2)) (pc' := 25) (by rfl) (by rfl) (by decide) ?_
        refine Pa.iret (by rfl) ?_
        exact l4 h2 h4 h6

theorem bm_fd {N : Nat} {yA : AW} {yQ : Option Value → AW → Prop} (yn yv yi : Int32)
    (l1 : yn.toInt ≤ yi.toInt → yQ (some (.int (yA.1 69 39))) yA)
    (l2 : yi.toInt < yn.toInt → 0 ≤ (yA.1 69 39).toInt → (yA.1 69 39).toInt < 160 → Pa N 190 28 [(0, .ref 69), (1, .int yn), (2, .int yv), (3, .int (yi + 1))] [] (uI (uI yA 99 ((yA.1 69 39).toInt.toNat) ((yv >>> ((8 * yi) &&& 31)) &&& 255)) 69 39 ((yA.1 69 39) + 1)) yQ) :
    Pa (N + 1) 190 28 [(0, .ref 69), (1, .int yn), (2, .int yv), (3, .int yi)] [] yA yQ := by
  refine Pa.mp1 1 (pc' := 30) (l' := [(0, .ref 69), (1, .int yn), (2, .int yv), (3, .int yi)]) (st' := [.int yn, .int yi]) (by rfl) ?_
  refine Pa.if2 (a := yi.toInt) (b := yn.toInt) (t := 68) (by rfl) (by rfl) (rfl) (rfl) (fun h1 => ?_) (fun h2 => ?_)
  · have h1 : yn.toInt ≤ yi.toInt := h1
    refine Pa.mp 1 (pc' := 69) (l' := [(0, .ref 69), (1, .int yn), (2, .int yv), (3, .int yi)]) (st' := [.ref 69]) (by rfl) ?_
    refine Pa.gfI (v := yA.1 69 39) (by rfl) (by rfl) (.inl rfl) (by rfl) (by rfl) ?_
    refine Pa.iret (by rfl) ?_
    exact l1 h1
  · have h2 : yi.toInt < yn.toInt := h2
    refine Pa.mp 1 (pc' := 34) (l' := [(0, .ref 69), (1, .int yn), (2, .int yv), (3, .int yi)]) (st' := [.ref 69]) (by rfl) ?_
    refine Pa.gfR (by rfl) (by rfl) (.inl rfl) (by rfl) ?_
    show Pa N 190 37 [(0, .ref 69), (1, .int yn), (2, .int yv), (3, .int yi)] [.ref 99] yA _
    refine Pa.mp 1 (pc' := 38) (l' := [(0, .ref 69), (1, .int yn), (2, .int yv), (3, .int yi)]) (st' := [.ref 69, .ref 99]) (by rfl) ?_
    refine Pa.gfI (v := yA.1 69 39) (by rfl) (by rfl) (.inl rfl) (by rfl) (by rfl) ?_
    refine Pa.mp 1 (pc' := 42) (l' := [(0, .ref 69), (1, .int yn), (2, .int yv), (3, .int yi)]) (st' := [.int yv, .int (yA.1 69 39), .ref 99]) (by rfl) ?_
    refine Pa.ic (x := 8) (pc' := 44) (by rfl) (by rfl) (by decide) ?_
    refine Pa.mp 3 (pc' := 47) (l' := [(0, .ref 69), (1, .int yn), (2, .int yv), (3, .int yi)]) (st' := [.int (yv >>> ((8 * yi) &&& 31)), .int (yA.1 69 39), .ref 99]) (by rfl) ?_
    refine Pa.ic (x := 255) (pc' := 50) (by rfl) (by rfl) (by decide) ?_
    refine Pa.mp 1 (pc' := 51) (l' := [(0, .ref 69), (1, .int yn), (2, .int yv), (3, .int yi)]) (st' := [.int ((yv >>> ((8 * yi) &&& 31)) &&& 255), .int (yA.1 69 39), .ref 99]) (by rfl) ?_
    refine Pa.asts (j' := ((yA.1 69 39).toInt.toNat)) (by rfl) (by rfl) (by rfl) (fun h3 h4 => ?_)
    have h3 : 0 ≤ (yA.1 69 39).toInt := h3
    have h4 : (yA.1 69 39).toInt < 160 := h4
    show Pa N 190 52 [(0, .ref 69), (1, .int yn), (2, .int yv), (3, .int yi)] [] (uI yA 99 ((yA.1 69 39).toInt.toNat) ((yv >>> ((8 * yi) &&& 31)) &&& 255)) _
    refine Pa.mp 2 (pc' := 54) (l' := [(0, .ref 69), (1, .int yn), (2, .int yv), (3, .int yi)]) (st' := [.ref 69, .ref 69]) (by rfl) ?_
    refine Pa.gfI (v := yA.1 69 39) (by rfl) (by rfl) (.inl rfl) (by rfl) (by show (uI yA 99 ((yA.1 69 39).toInt.toNat) ((yv >>> ((8 * yi) &&& 31)) &&& 255)).1 69 39 = yA.1 69 39; rw [uI_c (by decide)]) ?_
    refine Pa.ic (x := 1) (pc' := 58) (by rfl) (by rfl) (by decide) ?_
    refine Pa.mp 1 (pc' := 59) (l' := [(0, .ref 69), (1, .int yn), (2, .int yv), (3, .int yi)]) (st' := [.int ((yA.1 69 39) + 1), .ref 69]) (by rfl) ?_
    refine Pa.pfI (by rfl) (by rfl) (.inl rfl) (by rfl) ?_
    show Pa N 190 62 [(0, .ref 69), (1, .int yn), (2, .int yv), (3, .int yi)] [] (uI (uI yA 99 ((yA.1 69 39).toInt.toNat) ((yv >>> ((8 * yi) &&& 31)) &&& 255)) 69 39 ((yA.1 69 39) + 1)) _
    refine Pa.iinc (x := yi) (c := 1) (v := (yi + 1)) (l' := [(3, .int (yi + 1)), (0, .ref 69), (1, .int yn), (2, .int yv)]) (by rfl) (by rfl) (by decide) (by rfl) (by rfl) ?_
    refine Pa.mp 1 (pc' := 28) (l' := [(3, .int (yi + 1)), (0, .ref 69), (1, .int yn), (2, .int yv)]) (st' := []) (by rfl) ?_
    refine Pa.lv (l' := [(0, .ref 69), (1, .int yn), (2, .int yv), (3, .int (yi + 1))]) (lvS_c rfl (lvS_c rfl (lvS_c rfl (lvS_c rfl (lvS_nil))))) rfl ?_
    exact l2 h2 h3 h4

theorem c_take (yv : Int32) (yn : Nat) (hn : yn ≤ 4) : ∀ (N yi ym ys : Nat) (yA : AW), yi + ym = yn → yA.1 35 2 = Int32.ofNat ys → ys + ym ≤ 160 → Pa N 81 17 [(0, .ref 35), (1, .int (Int32.ofNat yn)), (2, .int yv), (3, .int (Int32.ofNat yi))] [] yA (fun yu A1 => yu = some (.int (Int32.ofNat (ys + ym))) ∧ A1 = pgl 36 35 2 (fdL (byX yv) yi ym) ys yA) := by
  intro N
  induction N with
  | zero => intros; exact Pa.zero
  | succ N yih =>
    intro yi ym ys yA him hs hsm
    have en : (Int32.ofNat yn).toInt = (yn : Int) := i32_nat (by omega)
    have ei : (Int32.ofNat yi).toInt = (yi : Int) := i32_nat (by omega)
    have es : (Int32.ofNat ys).toInt = (ys : Int) := i32_nat (by omega)
    refine bx_tk _ yv _ (fun h1 => ?_) (fun h1 h2 h3 => ?_)
    · have yhm : ym = 0 := by omega
      subst yhm
      exact ⟨by rw [hs]; rfl, rfl⟩
    · obtain ⟨m', rfl⟩ : ∃ m', ym = m' + 1 := ⟨ym - 1, by omega⟩
      rw [hs, es, Int.toNat_natCast, ← on_succ ys, ← on_succ yi]
      refine Pa.mono (yih (yi + 1) m' (ys + 1) _ (by omega) uI_h (by omega)) (fun yu A1 hu => ?_)
      obtain ⟨rfl, rfl⟩ := hu
      exact ⟨by rw [show ys + 1 + m' = ys + (m' + 1) from by omega], rfl⟩
theorem m_take (yv : Int32) (yn : Nat) (hn : yn ≤ 4) : ∀ (N yi ym ys : Nat) (yA : AW), yi + ym = yn → yA.1 69 39 = Int32.ofNat ys → ys + ym ≤ 160 → Pa N 190 28 [(0, .ref 69), (1, .int (Int32.ofNat yn)), (2, .int yv), (3, .int (Int32.ofNat yi))] [] yA (fun yu A1 => yu = some (.int (Int32.ofNat (ys + ym))) ∧ A1 = pgl 99 69 39 (fdL (byM yv) yi ym) ys yA) := by
  intro N
  induction N with
  | zero => intros; exact Pa.zero
  | succ N yih =>
    intro yi ym ys yA him hs hsm
    have en : (Int32.ofNat yn).toInt = (yn : Int) := i32_nat (by omega)
    have ei : (Int32.ofNat yi).toInt = (yi : Int) := i32_nat (by omega)
    have es : (Int32.ofNat ys).toInt = (ys : Int) := i32_nat (by omega)
    refine bm_fd _ yv _ (fun h1 => ?_) (fun h1 h2 h3 => ?_)
    · have yhm : ym = 0 := by omega
      subst yhm
      exact ⟨by rw [hs]; rfl, rfl⟩
    · obtain ⟨m', rfl⟩ : ∃ m', ym = m' + 1 := ⟨ym - 1, by omega⟩
      rw [hs, es, Int.toNat_natCast, ← on_succ ys, ← on_succ yi]
      refine Pa.mono (yih (yi + 1) m' (ys + 1) _ (by omega) uI_h (by omega)) (fun yu A1 hu => ?_)
      obtain ⟨rfl, rfl⟩ := hu
      exact ⟨by rw [show ys + 1 + m' = ys + (m' + 1) from by omega], rfl⟩
def fdQ (yb yf yk : Nat) (yg : Int32 → Nat → Int32) (yn yv : Int32) (yA : AW) (yu : Option Value) (A1 : AW) : Prop := (¬ (1 ≤ yn.toInt ∧ yn.toInt ≤ 4) ∧ yu = some (.int (-1)) ∧ A1 = yA) ∨ (1 ≤ yn.toInt ∧ yn.toInt ≤ 4 ∧ 160 < (yA.1 yf yk).toInt + yn.toInt ∧ yu = some (.int (-2)) ∧ A1 = yA) ∨ (1 ≤ yn.toInt ∧ yn.toInt ≤ 4 ∧ (yA.1 yf yk).toInt + yn.toInt ≤ 160 ∧ yu = some (.int (Int32.ofNat ((yA.1 yf yk).toInt.toNat + yn.toInt.toNat))) ∧ A1 = pgl yb yf yk (fdL (yg yv) 0 yn.toInt.toNat) (yA.1 yf yk).toInt.toNat yA)
theorem d_feed (N : Nat) (yA : AW) (yn yv : Int32) (h0 : 0 ≤ (yA.1 35 2).toInt) (h1 : (yA.1 35 2).toInt ≤ 160) : Pa N 118 0 [(0, .ref 0), (1, .int yn), (2, .int yv)] [] yA (fdQ 36 35 2 byX yn yv yA) := by
  refine bx_feed yn yv (fun yq1 => .inl ⟨by omega, rfl, rfl⟩) (fun yq1 yq2 => .inl ⟨by omega, rfl, rfl⟩) (fun yq1 yq2 => ?_)
  have ea : ((yA.1 35 2) + yn).toInt = (yA.1 35 2).toInt + yn.toInt := i_addx rfl (by omega) (by omega)
  refine bx_tk0 yn yv (fun yq3 => ?_) (fun yq3 => ?_)
  · rw [ea] at yq3
    have yh := c_take yv yn.toInt.toNat (by omega) N 0 yn.toInt.toNat (yA.1 35 2).toInt.toNat yA (by omega) (i32_of h0).symm (by omega)
    rw [i32_of (yx := yn) (by omega)] at yh
    refine Pa.mono yh (fun yu A1 hu => ?_)
    obtain ⟨rfl, rfl⟩ := hu
    refine Pa.iret (by rfl) ?_
    exact .inr (.inr ⟨yq1, yq2, yq3, rfl, rfl⟩)
  · rw [ea] at yq3
    refine Pa.iret (by rfl) ?_
    exact .inr (.inl ⟨yq1, yq2, yq3, rfl, rfl⟩)
theorem e_feed (N : Nat) (yA : AW) (yn yv : Int32) (h0 : 0 ≤ (yA.1 69 39).toInt) (h1 : (yA.1 69 39).toInt ≤ 160) : Pa N 190 0 [(0, .ref 69), (1, .int yn), (2, .int yv)] [] yA (fdQ 99 69 39 byM yn yv yA) := by
  have ea : 1 ≤ yn.toInt → yn.toInt ≤ 4 → ((yA.1 69 39) + yn).toInt = (yA.1 69 39).toInt + yn.toInt := fun _ _ => i_addx rfl (by omega) (by omega)
  refine bm_fd0 yn yv (fun yq1 => .inl ⟨by omega, rfl, rfl⟩) (fun yq1 yq2 => .inl ⟨by omega, rfl, rfl⟩) (fun yq1 yq2 yq3 => ?_) (fun yq1 yq2 yq3 => ?_)
  · rw [ea yq1 yq2] at yq3
    have yh := m_take yv yn.toInt.toNat (by omega) N 0 yn.toInt.toNat (yA.1 69 39).toInt.toNat yA (by omega) (i32_of h0).symm (by omega)
    rw [i32_of (yx := yn) (by omega)] at yh
    refine Pa.mono yh (fun yu A1 hu => ?_)
    obtain ⟨rfl, rfl⟩ := hu
    exact .inr (.inr ⟨yq1, yq2, yq3, rfl, rfl⟩)
  · rw [ea yq1 yq2] at yq3
    exact .inr (.inl ⟨yq1, yq2, yq3, rfl, rfl⟩)
