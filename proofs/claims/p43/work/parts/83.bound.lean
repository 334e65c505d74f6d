/-! BOUND: choices, what is likely, the greatest that is -/
theorem dc_1 {yP : Nat → Bool} {yn : Nat} (yh : yP yn = true) : dr_cnt yP (yn + 1) = dr_cnt yP yn + 1 := by
  show dr_cnt yP yn + (bif yP yn then 1 else 0) = dr_cnt yP yn + 1
  rw [yh]
  rfl
theorem dc_0 {yP : Nat → Bool} {yn : Nat} (yh : ¬ yP yn = true) : dr_cnt yP (yn + 1) = dr_cnt yP yn := by
  show dr_cnt yP yn + (bif yP yn then 1 else 0) = dr_cnt yP yn
  rw [Bool.eq_false_iff.mpr yh]
  rfl
theorem rowAt {yA : AW} (hX : RZc yA) {yj ya : Nat} (hj : yj < cT yA) (yh : yA.2.2.1 31 yj = some ya) : rowR yA ya yj := by
  obtain ⟨yb, yq1, yq2, yq3, yq4⟩ := hX.1 yj hj
  rw [yh] at yq1
  cases yq1
  exact yq4
theorem slotAt {yA : AW} (hX : RZc yA) {yj : Nat} (hj : yj < cT yA) (yh : yA.2.2.1 31 yj = none) : False := by
  obtain ⟨yb, yq1, -⟩ := hX.1 yj hj
  rw [yh] at yq1
  cases yq1
theorem bm_co0 {N : Nat} {yA : AW} {yQ : Option Value → AW → Prop} (yf : Int32)
    (l1 : Pa N 244 4 [(0, .ref 69), (1, .int yf), (2, .int 0), (3, .int 0)] [] yA yQ) :
    Pa N 244 0 [(0, .ref 69), (1, .int yf)] [] yA yQ := by
  refine Pa.ic (x := 0) (pc' := 1) (by rfl) (by rfl) (by decide) ?_
  refine Pa.mp 1 (pc' := 2) (l' := [(2, .int 0), (0, .ref 69), (1, .int yf)]) (st' := []) (by rfl) ?_
  refine Pa.ic (x := 0) (pc' := 3) (by rfl) (by rfl) (by decide) ?_
  refine Pa.mp 1 (pc' := 4) (l' := [(3, .int 0), (2, .int 0), (0, .ref 69), (1, .int yf)]) (st' := []) (by rfl) ?_
  refine Pa.lv (l' := [(0, .ref 69), (1, .int yf), (2, .int 0), (3, .int 0)]) (lvS_c rfl (lvS_c rfl (lvS_c rfl (lvS_c rfl (lvS_nil))))) rfl ?_
  exact l1
theorem bm_co {N : Nat} {yA : AW} {yQ : Option Value → AW → Prop} (yf yn yc : Int32)
    (l1 : (yA.1 69 31).toInt ≤ yc.toInt → yQ (some (.int yn)) yA)
    (l2 : yc.toInt < (yA.1 69 31).toInt → 0 ≤ ((7 * yc) + 0).toInt → ((7 * yc) + 0).toInt < 1050 → (yA.1 90 (((7 * yc) + 0).toInt.toNat)).toInt ≠ yf.toInt → Pa N 244 4 [(0, .ref 69), (1, .int yf), (2, .int (yn + 0)), (3, .int (yc + 1))] [] yA yQ)
    (l3 : yc.toInt < (yA.1 69 31).toInt → 0 ≤ ((7 * yc) + 0).toInt → ((7 * yc) + 0).toInt < 1050 → (yA.1 90 (((7 * yc) + 0).toInt.toNat)).toInt = yf.toInt → Pa N 244 4 [(0, .ref 69), (1, .int yf), (2, .int (yn + 1)), (3, .int (yc + 1))] [] yA yQ) :
    Pa (N + 1) 244 4 [(0, .ref 69), (1, .int yf), (2, .int yn), (3, .int yc)] [] yA yQ := by
  refine Pa.mp1 1 (pc' := 6) (l' := [(0, .ref 69), (1, .int yf), (2, .int yn), (3, .int yc)]) (st' := [.ref 69, .int yc]) (by rfl) ?_
  refine Pa.gfI (v := yA.1 69 31) (by rfl) (by rfl) (.inl rfl) (by rfl) (by rfl) ?_
  refine Pa.if2 (a := yc.toInt) (b := (yA.1 69 31).toInt) (t := 36) (by rfl) (by rfl) (rfl) (rfl) (fun h1 => ?_) (fun h2 => ?_)
  · have h1 : (yA.1 69 31).toInt ≤ yc.toInt := h1
    refine Pa.mp 1 (pc' := 37) (l' := [(0, .ref 69), (1, .int yf), (2, .int yn), (3, .int yc)]) (st' := [.int yn]) (by rfl) ?_
    refine Pa.iret (by rfl) ?_
    exact l1 h1
  · have h2 : yc.toInt < (yA.1 69 31).toInt := h2
    refine Pa.mp 3 (pc' := 15) (l' := [(0, .ref 69), (1, .int yf), (2, .int yn), (3, .int yc)]) (st' := [.int yc, .ref 69, .int yn]) (by rfl) ?_
    refine Pa.ic (x := 0) (pc' := 16) (by rfl) (by rfl) (by decide) ?_
    refine Pa.inv (by rfl) (by rfl) (.inl rfl) (by rfl) ?_
    show Pa N 181 0 [(0, .ref 69), (1, .int yc), (2, .int 0)] [] yA _
    refine Pa.mp 1 (pc' := 1) (l' := [(0, .ref 69), (1, .int yc), (2, .int 0)]) (st' := [.ref 69]) (by rfl) ?_
    refine Pa.gfR (by rfl) (by rfl) (.inl rfl) (by rfl) ?_
    show Pa N 181 4 [(0, .ref 69), (1, .int yc), (2, .int 0)] [.ref 90] yA _
    refine Pa.ic (x := 7) (pc' := 6) (by rfl) (by rfl) (by decide) ?_
    refine Pa.mp 4 (pc' := 10) (l' := [(0, .ref 69), (1, .int yc), (2, .int 0)]) (st' := [.int ((7 * yc) + 0), .ref 90]) (by rfl) ?_
    refine Pa.alds (v := yA.1 90 (((7 * yc) + 0).toInt.toNat)) (by rfl) (by rfl) (by rfl) (fun h3 h4 => ?_)
    have h3 : 0 ≤ ((7 * yc) + 0).toInt := h3
    have h4 : ((7 * yc) + 0).toInt < 1050 := h4
    refine Pa.iret (by rfl) ?_
    show Pa N 244 19 [(0, .ref 69), (1, .int yf), (2, .int yn), (3, .int yc)] [.int (yA.1 90 (((7 * yc) + 0).toInt.toNat)), .int yn] yA _
    refine Pa.mp 1 (pc' := 20) (l' := [(0, .ref 69), (1, .int yf), (2, .int yn), (3, .int yc)]) (st' := [.int yf, .int (yA.1 90 (((7 * yc) + 0).toInt.toNat)), .int yn]) (by rfl) ?_
    refine Pa.if2 (a := (yA.1 90 (((7 * yc) + 0).toInt.toNat)).toInt) (b := yf.toInt) (t := 27) (by rfl) (by rfl) (rfl) (rfl) (fun h5 => ?_) (fun h6 => ?_)
    · have h5 : (yA.1 90 (((7 * yc) + 0).toInt.toNat)).toInt ≠ yf.toInt := h5
      refine Pa.ic (x := 0) (pc' := 28) (by rfl) (by rfl) (by decide) ?_
      refine Pa.mp 2 (pc' := 30) (l' := [(2, .int (yn + 0)), (0, .ref 69), (1, .int yf), (3, .int yc)]) (st' := []) (by rfl) ?_
      refine Pa.iinc (x := yc) (c := 1) (v := (yc + 1)) (l' := [(3, .int (yc + 1)), (2, .int (yn + 0)), (0, .ref 69), (1, .int yf)]) (by rfl) (by rfl) (by decide) (by rfl) (by rfl) ?_
      refine Pa.mp 1 (pc' := 4) (l' := [(3, .int (yc + 1)), (2, .int (yn + 0)), (0, .ref 69), (1, .int yf)]) (st' := []) (by rfl) ?_
      refine Pa.lv (l' := [(0, .ref 69), (1, .int yf), (2, .int (yn + 0)), (3, .int (yc + 1))]) (lvS_c rfl (lvS_c rfl (lvS_c rfl (lvS_c rfl (lvS_nil))))) rfl ?_
      exact l2 h2 h3 h4 h5
    · have h6 : (yA.1 90 (((7 * yc) + 0).toInt.toNat)).toInt = yf.toInt := h6
      refine Pa.ic (x := 1) (pc' := 24) (by rfl) (by rfl) (by decide) ?_
      refine Pa.mp 3 (pc' := 30) (l' := [(2, .int (yn + 1)), (0, .ref 69), (1, .int yf), (3, .int yc)]) (st' := []) (by rfl) ?_
      refine Pa.iinc (x := yc) (c := 1) (v := (yc + 1)) (l' := [(3, .int (yc + 1)), (2, .int (yn + 1)), (0, .ref 69), (1, .int yf)]) (by rfl) (by rfl) (by decide) (by rfl) (by rfl) ?_
      refine Pa.mp 1 (pc' := 4) (l' := [(3, .int (yc + 1)), (2, .int (yn + 1)), (0, .ref 69), (1, .int yf)]) (st' := []) (by rfl) ?_
      refine Pa.lv (l' := [(0, .ref 69), (1, .int yf), (2, .int (yn + 1)), (3, .int (yc + 1))]) (lvS_c rfl (lvS_c rfl (lvS_c rfl (lvS_c rfl (lvS_nil))))) rfl ?_
      exact l3 h2 h3 h4 h6
def cosM (yA : AW) (yf : Int32) : Int32 := Int32.ofNat (dr_cnt (drF (yA.1 90) yf) (cT yA))
theorem c_costsOf (N : Nat) (yA : AW) (yf : Int32) (yhT : (yA.1 69 31).toInt ≤ 150) : Pa N 244 0 [(0, .ref 69), (1, .int yf)] [] yA (fun yu A1 => yu = some (.int (cosM yA yf)) ∧ A1 = yA) := by
  have hT0 : cT yA ≤ 150 := by unfold cT; omega
  have ykey : ∀ N yn, yn ≤ cT yA → Pa N 244 4 [(0, .ref 69), (1, .int yf), (2, .int (Int32.ofNat (dr_cnt (drF (yA.1 90) yf) yn))), (3, .int (Int32.ofNat yn))] [] yA (fun yu A1 => yu = some (.int (cosM yA yf)) ∧ A1 = yA) := by
    intro N
    induction N with
    | zero => intro yn _; exact Pa.zero
    | succ N yih =>
      intro yn hn
      have ye1 : (Int32.ofNat yn).toInt = (yn : Int) := i32_nat (by omega)
      refine bm_co yf _ _ ?_ ?_ ?_ <;> rw [ye1]
      · intro h1
        have hnT : yn = cT yA := by unfold cT at hn ⊢; omega
        rw [hnT]
        exact ⟨rfl, rfl⟩
      · intro h1 h2 h3 h4
        have hlt : yn < cT yA := by unfold cT; omega
        have yi0 : ((7 * Int32.ofNat yn) + 0).toInt.toNat = 7 * yn := (i7n (T := Int32.ofNat yn) (yi := 0) (yt := yn) (yq := 0) (by omega) (by omega) (by omega) (by decide) (by decide) (by decide)).trans (Nat.add_zero _)
        rw [yi0] at h4
        have no : ¬ drF (yA.1 90) yf yn = true := fun yq => h4 (by rw [show yA.1 90 (7 * yn) = yf from of_decide_eq_true yq])
        have yh := yih (yn + 1) hlt
        rw [dc_0 no, on_succ] at yh
        rw [Int32.add_zero]
        exact yh
      · intro h1 h2 h3 h4
        have hlt : yn < cT yA := by unfold cT; omega
        have yi0 : ((7 * Int32.ofNat yn) + 0).toInt.toNat = 7 * yn := (i7n (T := Int32.ofNat yn) (yi := 0) (yt := yn) (yq := 0) (by omega) (by omega) (by omega) (by decide) (by decide) (by decide)).trans (Nat.add_zero _)
        rw [yi0] at h4
        have yyes : drF (yA.1 90) yf yn = true := decide_eq_true (i32_ext h4)
        have yh := yih (yn + 1) hlt
        rw [dc_1 yyes, on_succ, on_succ] at yh
        exact yh
  exact bm_co0 yf (ykey N 0 (Nat.zero_le _))
theorem aud_cnt {yA : AW} {yf : Int32} (hf : 0 ≤ yf.toInt) : ∀ yn, sumN (audF yA yf) yn = Int32.ofNat (dr_cnt (drA (yA.1 90) (yA.1 93) yf) yn)
  | 0 => rfl
  | yn + 1 => by
    show sumN (audF yA yf) yn + audF yA yf yn = _
    rw [aud_cnt hf yn]
    by_cases ye : yA.1 90 (7 * yn) = yf ∧ 0 ≤ (yA.1 93 yn).toInt
    · have ye1 : drA (yA.1 90) (yA.1 93) yf yn = true := by
        unfold drA
        rw [decide_eq_true ye.1, decide_eq_true ye.2]
        rfl
      have ye2 : audF yA yf yn = 1 := if_pos ⟨.inr (by rw [ye.1]), ye.2⟩
      rw [dc_1 ye1, ye2, on_succ]
    · have ye1 : ¬ drA (yA.1 90) (yA.1 93) yf yn = true := fun yq => by
        unfold drA at yq
        rw [Bool.and_eq_true, decide_eq_true_iff, decide_eq_true_iff] at yq
        exact ye yq
      have ye2 : audF yA yf yn = 0 := if_neg (fun yq => ye ⟨i32_ext (yq.1.resolve_left (by omega)), yq.2⟩)
      rw [dc_0 ye1, ye2, Int32.add_zero]
theorem sub_on {ya yb : Nat} (yh : ya + yb < 1000) : Int32.ofNat (ya + yb) - Int32.ofNat ya = Int32.ofNat yb := i32_ext (by
  have ye1 : (Int32.ofNat (ya + yb)).toInt = ((ya + yb : Nat) : Int) := i32_nat (by omega)
  have ye2 : (Int32.ofNat ya).toInt = (ya : Int) := i32_nat (by omega)
  have ye3 : (Int32.ofNat yb).toInt = (yb : Int) := i32_nat (by omega)
  rw [i_subx (x := (yb : Int)) (by rw [ye1, ye2]; omega) (by omega) (by omega), ye3])
theorem bx_ch0 {N : Nat} {yA : AW} {yQ : Option Value → AW → Prop} (yn yk : Int32)
    (l1 : yk.toInt < 0 → yQ (some (.long (Int64.ofNat 0))) yA)
    (l2 : 0 ≤ yk.toInt → yk.toInt ≤ yn.toInt → Pa N 36 16 [(0, .int yn), (1, .int yk), (2, .long (Int64.ofNat 1)), (4, .int 1)] [] yA yQ)
    (l3 : 0 ≤ yk.toInt → yn.toInt < yk.toInt → yQ (some (.long (Int64.ofNat 0))) yA) :
    Pa N 36 0 [(0, .int yn), (1, .int yk)] [] yA yQ := by
  refine Pa.mp 1 (pc' := 1) (l' := [(0, .int yn), (1, .int yk)]) (st' := [.int yk]) (by rfl) ?_
  refine Pa.if1 (a := yk.toInt) (t := 9) (by rfl) (by rfl) (rfl) (fun h1 => ?_) (fun h2 => ?_)
  · have h1 : yk.toInt < 0 := h1
    refine Pa.mp 1 (pc' := 10) (l' := [(0, .int yn), (1, .int yk)]) (st' := [.long (Int64.ofNat 0)]) (by rfl) ?_
    refine Pa.lret (by rfl) ?_
    exact l1 h1
  · have h2 : 0 ≤ yk.toInt := h2
    refine Pa.mp 2 (pc' := 6) (l' := [(0, .int yn), (1, .int yk)]) (st' := [.int yn, .int yk]) (by rfl) ?_
    refine Pa.if2 (a := yk.toInt) (b := yn.toInt) (t := 11) (by rfl) (by rfl) (rfl) (rfl) (fun h3 => ?_) (fun h4 => ?_)
    · have h3 : yk.toInt ≤ yn.toInt := h3
      refine Pa.mp 2 (pc' := 13) (l' := [(2, .long (Int64.ofNat 1)), (0, .int yn), (1, .int yk)]) (st' := []) (by rfl) ?_
      refine Pa.ic (x := 1) (pc' := 14) (by rfl) (by rfl) (by decide) ?_
      refine Pa.mp 1 (pc' := 16) (l' := [(4, .int 1), (2, .long (Int64.ofNat 1)), (0, .int yn), (1, .int yk)]) (st' := []) (by rfl) ?_
      refine Pa.lv (l' := [(0, .int yn), (1, .int yk), (2, .long (Int64.ofNat 1)), (4, .int 1)]) (lvS_c rfl (lvS_c rfl (lvS_c rfl (lvS_c rfl (lvS_nil))))) rfl ?_
      exact l2 h2 h3
    · have h4 : yn.toInt < yk.toInt := h4
      refine Pa.mp 1 (pc' := 10) (l' := [(0, .int yn), (1, .int yk)]) (st' := [.long (Int64.ofNat 0)]) (by rfl) ?_
      refine Pa.lret (by rfl) ?_
      exact l3 h2 h4
theorem bx_ch {N : Nat} {yA : AW} {yQ : Option Value → AW → Prop} (yn yk yi : Int32) (yu : Int64)
    (l1 : yk.toInt < yi.toInt → yQ (some (.long yu)) yA)
    (l2 : yi.toInt ≤ yk.toInt → Pa N 36 16 [(0, .int yn), (1, .int yk), (2, .long ((yu * (((yn - yk) + yi).toInt64)) / yi.toInt64)), (4, .int (yi + 1))] [] yA yQ) :
    Pa (N + 1) 36 16 [(0, .int yn), (1, .int yk), (2, .long yu), (4, .int yi)] [] yA yQ := by
  refine Pa.mp1 1 (pc' := 19) (l' := [(0, .int yn), (1, .int yk), (2, .long yu), (4, .int yi)]) (st' := [.int yk, .int yi]) (by rfl) ?_
  refine Pa.if2 (a := yi.toInt) (b := yk.toInt) (t := 42) (by rfl) (by rfl) (rfl) (rfl) (fun h1 => ?_) (fun h2 => ?_)
  · have h1 : yk.toInt < yi.toInt := h1
    refine Pa.mp 1 (pc' := 43) (l' := [(0, .int yn), (1, .int yk), (2, .long yu), (4, .int yi)]) (st' := [.long yu]) (by rfl) ?_
    refine Pa.lret (by rfl) ?_
    exact l1 h1
  · have h2 : yi.toInt ≤ yk.toInt := h2
    refine Pa.mp 10 (pc' := 34) (l' := [(0, .int yn), (1, .int yk), (2, .long yu), (4, .int yi)]) (st' := [.long yi.toInt64, .long (yu * (((yn - yk) + yi).toInt64))]) (by rfl) ?_
    refine Pa.ldiv (by rfl) ?_
    refine Pa.mp 1 (pc' := 36) (l' := [(2, .long ((yu * (((yn - yk) + yi).toInt64)) / yi.toInt64)), (0, .int yn), (1, .int yk), (4, .int yi)]) (st' := []) (by rfl) ?_
    refine Pa.iinc (x := yi) (c := 1) (v := (yi + 1)) (l' := [(4, .int (yi + 1)), (2, .long ((yu * (((yn - yk) + yi).toInt64)) / yi.toInt64)), (0, .int yn), (1, .int yk)]) (by rfl) (by rfl) (by decide) (by rfl) (by rfl) ?_
    refine Pa.mp 1 (pc' := 16) (l' := [(4, .int (yi + 1)), (2, .long ((yu * (((yn - yk) + yi).toInt64)) / yi.toInt64)), (0, .int yn), (1, .int yk)]) (st' := []) (by rfl) ?_
    refine Pa.lv (l' := [(0, .int yn), (1, .int yk), (2, .long ((yu * (((yn - yk) + yi).toInt64)) / yi.toInt64)), (4, .int (yi + 1))]) (lvS_c rfl (lvS_c rfl (lvS_c rfl (lvS_c rfl (lvS_nil))))) rfl ?_
    exact l2 h2
theorem bm_ch0 {N : Nat} {yA : AW} {yQ : Option Value → AW → Prop} (yn yk : Int32)
    (l1 : yk.toInt < 0 → yQ (some (.long (Int64.ofNat 0))) yA)
    (l2 : 0 ≤ yk.toInt → yk.toInt ≤ yn.toInt → Pa N 246 16 [(0, .int yn), (1, .int yk), (2, .long (Int64.ofNat 1)), (4, .int 1)] [] yA yQ)
    (l3 : 0 ≤ yk.toInt → yn.toInt < yk.toInt → yQ (some (.long (Int64.ofNat 0))) yA) :
    Pa N 246 0 [(0, .int yn), (1, .int yk)] [] yA yQ := by
  refine Pa.mp 1 (pc' := 1) (l' := [(0, .int yn), (1, .int yk)]) (st' := [.int yk]) (by rfl) ?_
  refine Pa.if1 (a := yk.toInt) (t := 9) (by rfl) (by rfl) (rfl) (fun h1 => ?_) (fun h2 => ?_)
  · have h1 : yk.toInt < 0 := h1
    refine Pa.mp 1 (pc' := 10) (l' := [(0, .int yn), (1, .int yk)]) (st' := [.long (Int64.ofNat 0)]) (by rfl) ?_
    refine Pa.lret (by rfl) ?_
    exact l1 h1
  · have h2 : 0 ≤ yk.toInt := h2
    refine Pa.mp 2 (pc' := 6) (l' := [(0, .int yn), (1, .int yk)]) (st' := [.int yn, .int yk]) (by rfl) ?_
    refine Pa.if2 (a := yk.toInt) (b := yn.toInt) (t := 11) (by rfl) (by rfl) (rfl) (rfl) (fun h3 => ?_) (fun h4 => ?_)
    · have h3 : yk.toInt ≤ yn.toInt := h3
      refine Pa.mp 2 (pc' := 13) (l' := [(2, .long (Int64.ofNat 1)), (0, .int yn), (1, .int yk)]) (st' := []) (by rfl) ?_
      refine Pa.ic (x := 1) (pc' := 14) (by rfl) (by rfl) (by decide) ?_
      refine Pa.mp 1 (pc' := 16) (l' := [(4, .int 1), (2, .long (Int64.ofNat 1)), (0, .int yn), (1, .int yk)]) (st' := []) (by rfl) ?_
      refine Pa.lv (l' := [(0, .int yn), (1, .int yk), (2, .long (Int64.ofNat 1)), (4, .int 1)]) (lvS_c rfl (lvS_c rfl (lvS_c rfl (lvS_c rfl (lvS_nil))))) rfl ?_
      exact l2 h2 h3
    · have h4 : yn.toInt < yk.toInt := h4
      refine Pa.mp 1 (pc' := 10) (l' := [(0, .int yn), (1, .int yk)]) (st' := [.long (Int64.ofNat 0)]) (by rfl) ?_
      refine Pa.lret (by rfl) ?_
      exact l3 h2 h4
theorem bm_ch {N : Nat} {yA : AW} {yQ : Option Value → AW → Prop} (yn yk yi : Int32) (yu : Int64)
    (l1 : yk.toInt < yi.toInt → yQ (some (.long yu)) yA)
    (l2 : yi.toInt ≤ yk.toInt → Pa N 246 16 [(0, .int yn), (1, .int yk), (2, .long ((yu * (((yn - yk) + yi).toInt64)) / yi.toInt64)), (4, .int (yi + 1))] [] yA yQ) :
    Pa (N + 1) 246 16 [(0, .int yn), (1, .int yk), (2, .long yu), (4, .int yi)] [] yA yQ := by
  refine Pa.mp1 1 (pc' := 19) (l' := [(0, .int yn), (1, .int yk), (2, .long yu), (4, .int yi)]) (st' := [.int yk, .int yi]) (by rfl) ?_
  refine Pa.if2 (a := yi.toInt) (b := yk.toInt) (t := 42) (by rfl) (by rfl) (rfl) (rfl) (fun h1 => ?_) (fun h2 => ?_)
  · have h1 : yk.toInt < yi.toInt := h1
    refine Pa.mp 1 (pc' := 43) (l' := [(0, .int yn), (1, .int yk), (2, .long yu), (4, .int yi)]) (st' := [.long yu]) (by rfl) ?_
    refine Pa.lret (by rfl) ?_
    exact l1 h1
  · have h2 : yi.toInt ≤ yk.toInt := h2
    refine Pa.mp 10 (pc' := 34) (l' := [(0, .int yn), (1, .int yk), (2, .long yu), (4, .int yi)]) (st' := [.long yi.toInt64, .long (yu * (((yn - yk) + yi).toInt64))]) (by rfl) ?_
    refine Pa.ldiv (by rfl) ?_
    refine Pa.mp 1 (pc' := 36) (l' := [(2, .long ((yu * (((yn - yk) + yi).toInt64)) / yi.toInt64)), (0, .int yn), (1, .int yk), (4, .int yi)]) (st' := []) (by rfl) ?_
    refine Pa.iinc (x := yi) (c := 1) (v := (yi + 1)) (l' := [(4, .int (yi + 1)), (2, .long ((yu * (((yn - yk) + yi).toInt64)) / yi.toInt64)), (0, .int yn), (1, .int yk)]) (by rfl) (by rfl) (by decide) (by rfl) (by rfl) ?_
    refine Pa.mp 1 (pc' := 16) (l' := [(4, .int (yi + 1)), (2, .long ((yu * (((yn - yk) + yi).toInt64)) / yi.toInt64)), (0, .int yn), (1, .int yk)]) (st' := []) (by rfl) ?_
    refine Pa.lv (l' := [(0, .int yn), (1, .int yk), (2, .long ((yu * (((yn - yk) + yi).toInt64)) / yi.toInt64)), (4, .int (yi + 1))]) (lvS_c rfl (lvS_c rfl (lvS_c rfl (lvS_c rfl (lvS_nil))))) rfl ?_
    exact l2 h2
def chL (yn yk : Int32) : Nat → Int64
  | 0 => Int64.ofNat 1
  | yj + 1 => (chL yn yk yj * (((yn - yk) + Int32.ofNat (yj + 1)).toInt64)) / (Int32.ofNat (yj + 1)).toInt64
def chF (yn yk : Int32) : Int64 := if 0 ≤ yk.toInt ∧ yk.toInt ≤ yn.toInt then chL yn yk yk.toInt.toNat else Int64.ofNat 0
theorem c_chx (N : Nat) (yA : AW) (yn yk : Int32) (hk : yk.toInt ≤ 1000) : Pa N 36 0 [(0, .int yn), (1, .int yk)] [] yA (fun yu A1 => yu = some (.long (chF yn yk)) ∧ A1 = yA) := by
  refine bx_ch0 yn yk ?_ ?_ ?_
  · intro h1
    exact ⟨by unfold chF; rw [if_neg (by omega)], rfl⟩
  · intro h1 h2
    have ykey : ∀ N yj, yj ≤ yk.toInt.toNat → Pa N 36 16 [(0, .int yn), (1, .int yk), (2, .long (chL yn yk yj)), (4, .int (Int32.ofNat (yj + 1)))] [] yA (fun yu A1 => yu = some (.long (chF yn yk)) ∧ A1 = yA) := by
      intro N
      induction N with
      | zero => intro yj _; exact Pa.zero
      | succ N yih =>
        intro yj hj
        have ye1 : (Int32.ofNat (yj + 1)).toInt = ((yj + 1 : Nat) : Int) := i32_nat (by omega)
        refine bx_ch yn yk _ _ ?_ ?_ <;> rw [ye1]
        · intro h3
          have hjk : yj = yk.toInt.toNat := by omega
          exact ⟨by unfold chF; rw [if_pos ⟨h1, h2⟩, hjk], rfl⟩
        · intro h3
          have yh := yih (yj + 1) (by omega)
          rw [on_succ (yj + 1)] at yh
          exact yh
    exact ykey N 0 (Nat.zero_le _)
  · intro h1 h2
    exact ⟨by unfold chF; rw [if_neg (by omega)], rfl⟩
theorem c_chm (N : Nat) (yA : AW) (yn yk : Int32) (hk : yk.toInt ≤ 1000) : Pa N 246 0 [(0, .int yn), (1, .int yk)] [] yA (fun yu A1 => yu = some (.long (chF yn yk)) ∧ A1 = yA) := by
  refine bm_ch0 yn yk ?_ ?_ ?_
  · intro h1
    exact ⟨by unfold chF; rw [if_neg (by omega)], rfl⟩
  · intro h1 h2
    have ykey : ∀ N yj, yj ≤ yk.toInt.toNat → Pa N 246 16 [(0, .int yn), (1, .int yk), (2, .long (chL yn yk yj)), (4, .int (Int32.ofNat (yj + 1)))] [] yA (fun yu A1 => yu = some (.long (chF yn yk)) ∧ A1 = yA) := by
      intro N
      induction N with
      | zero => intro yj _; exact Pa.zero
      | succ N yih =>
        intro yj hj
        have ye1 : (Int32.ofNat (yj + 1)).toInt = ((yj + 1 : Nat) : Int) := i32_nat (by omega)
        refine bm_ch yn yk _ _ ?_ ?_ <;> rw [ye1]
        · intro h3
          have hjk : yj = yk.toInt.toNat := by omega
          exact ⟨by unfold chF; rw [if_pos ⟨h1, h2⟩, hjk], rfl⟩
        · intro h3
          have yh := yih (yj + 1) (by omega)
          rw [on_succ (yj + 1)] at yh
          exact yh
    exact ykey N 0 (Nat.zero_le _)
  · intro h1 h2
    exact ⟨by unfold chF; rw [if_neg (by omega)], rfl⟩
theorem bx_lk0 {N : Nat} {yA : AW} {yQ : Option Value → AW → Prop} (yn yc yw ym : Int32)
    (l1 : Pa N 35 6 [(0, .int yn), (1, .int yc), (2, .int yw), (3, .int ym), (4, .long (Int64.ofNat 0)), (6, .int 0)] [] yA yQ) :
    Pa N 35 0 [(0, .int yn), (1, .int yc), (2, .int yw), (3, .int ym)] [] yA yQ := by
  refine Pa.mp 2 (pc' := 3) (l' := [(4, .long (Int64.ofNat 0)), (0, .int yn), (1, .int yc), (2, .int yw), (3, .int ym)]) (st' := []) (by rfl) ?_
  refine Pa.ic (x := 0) (pc' := 4) (by rfl) (by rfl) (by decide) ?_
  refine Pa.mp 1 (pc' := 6) (l' := [(6, .int 0), (4, .long (Int64.ofNat 0)), (0, .int yn), (1, .int yc), (2, .int yw), (3, .int ym)]) (st' := []) (by rfl) ?_
  refine Pa.lv (l' := [(0, .int yn), (1, .int yc), (2, .int yw), (3, .int ym), (4, .long (Int64.ofNat 0)), (6, .int 0)]) (lvS_c rfl (lvS_c rfl (lvS_c rfl (lvS_c rfl (lvS_c rfl (lvS_c rfl (lvS_nil))))))) rfl ?_
  exact l1
theorem bx_lk {N : Nat} {yA : AW} {yQ : Option Value → AW → Prop} (yn yc yw ym yi : Int32) (yu : Int64) (hw : yw.toInt ≤ 150) (yhc : yc.toInt ≤ 150) (yhi0 : 0 ≤ yi.toInt) (hci : (yc - yi).toInt = yc.toInt - yi.toInt)
    (l1 : yw.toInt < yi.toInt → (lg_cmp (yu * 100) ((chF yn yc) * 5)).toInt < 0 → yQ (some (.int 0)) yA)
    (l2 : yw.toInt < yi.toInt → 0 ≤ (lg_cmp (yu * 100) ((chF yn yc) * 5)).toInt → yQ (some (.int 1)) yA)
    (l3 : yi.toInt ≤ yw.toInt → Pa N 35 6 [(0, .int yn), (1, .int yc), (2, .int yw), (3, .int ym), (4, .long (yu + ((chF ym yi) * (chF (yn - ym) (yc - yi))))), (6, .int (yi + 1))] [] yA yQ) :
    Pa (N + 1) 35 6 [(0, .int yn), (1, .int yc), (2, .int yw), (3, .int ym), (4, .long yu), (6, .int yi)] [] yA yQ := by
  refine Pa.mp1 1 (pc' := 9) (l' := [(0, .int yn), (1, .int yc), (2, .int yw), (3, .int ym), (4, .long yu), (6, .int yi)]) (st' := [.int yw, .int yi]) (by rfl) ?_
  refine Pa.if2 (a := yi.toInt) (b := yw.toInt) (t := 40) (by rfl) (by rfl) (rfl) (rfl) (fun h1 => ?_) (fun h2 => ?_)
  · have h1 : yw.toInt < yi.toInt := h1
    refine Pa.mp 1 (pc' := 42) (l' := [(0, .int yn), (1, .int yc), (2, .int yw), (3, .int ym), (4, .long yu), (6, .int yi)]) (st' := [.long yu]) (by rfl) ?_
    refine Pa.jcl (x := 100) (pc' := 45) (by rfl) (fun _ _ _ => by rfl) (by decide) ?_
    refine Pa.mp 3 (pc' := 48) (l' := [(0, .int yn), (1, .int yc), (2, .int yw), (3, .int ym), (4, .long yu), (6, .int yi)]) (st' := [.int yc, .int yn, .long (yu * 100)]) (by rfl) ?_
    refine Pa.ist (by rfl) (by rfl) (.inl rfl) (by rfl) (by rfl) ?_
    refine Pa.mono (c_chx N yA yn yc (by omega)) (fun yu A1 hu => ?_)
    obtain ⟨rfl, hu⟩ := hu
    rw [hu]
    show Pa N 35 51 [(0, .int yn), (1, .int yc), (2, .int yw), (3, .int ym), (4, .long yu), (6, .int yi)] [.long (chF yn yc), .long (yu * 100)] yA _
    refine Pa.jcl (x := 5) (pc' := 54) (by rfl) (fun _ _ _ => by rfl) (by decide) ?_
    refine Pa.mp 2 (pc' := 56) (l' := [(0, .int yn), (1, .int yc), (2, .int yw), (3, .int ym), (4, .long yu), (6, .int yi)]) (st' := [.int (lg_cmp (yu * 100) ((chF yn yc) * 5))]) (by rfl) ?_
    refine Pa.if1 (a := (lg_cmp (yu * 100) ((chF yn yc) * 5)).toInt) (t := 63) (by rfl) (by rfl) (rfl) (fun h3 => ?_) (fun h4 => ?_)
    · have h3 : (lg_cmp (yu * 100) ((chF yn yc) * 5)).toInt < 0 := h3
      refine Pa.ic (x := 0) (pc' := 64) (by rfl) (by rfl) (by decide) ?_
      refine Pa.iret (by rfl) ?_
      exact l1 h1 h3
    · have h4 : 0 ≤ (lg_cmp (yu * 100) ((chF yn yc) * 5)).toInt := h4
      refine Pa.ic (x := 1) (pc' := 60) (by rfl) (by rfl) (by decide) ?_
      refine Pa.mp 1 (pc' := 64) (l' := [(0, .int yn), (1, .int yc), (2, .int yw), (3, .int ym), (4, .long yu), (6, .int yi)]) (st' := [.int 1]) (by rfl) ?_
      refine Pa.iret (by rfl) ?_
      exact l2 h1 h4
  · have h2 : yi.toInt ≤ yw.toInt := h2
    refine Pa.mp 3 (pc' := 17) (l' := [(0, .int yn), (1, .int yc), (2, .int yw), (3, .int ym), (4, .long yu), (6, .int yi)]) (st' := [.int yi, .int ym, .long yu]) (by rfl) ?_
    refine Pa.ist (by rfl) (by rfl) (.inl rfl) (by rfl) (by rfl) ?_
    refine Pa.mono (c_chx N yA ym yi (by omega)) (fun yu A1 hu => ?_)
    obtain ⟨rfl, hu⟩ := hu
    rw [hu]
    show Pa N 35 20 [(0, .int yn), (1, .int yc), (2, .int yw), (3, .int ym), (4, .long yu), (6, .int yi)] [.long (chF ym yi), .long yu] yA _
    refine Pa.mp 6 (pc' := 27) (l' := [(0, .int yn), (1, .int yc), (2, .int yw), (3, .int ym), (4, .long yu), (6, .int yi)]) (st' := [.int (yc - yi), .int (yn - ym), .long (chF ym yi), .long yu]) (by rfl) ?_
    refine Pa.ist (by rfl) (by rfl) (.inl rfl) (by rfl) (by rfl) ?_
    refine Pa.mono (c_chx N yA (yn - ym) (yc - yi) (by omega)) (fun yu A1 hu => ?_)
    obtain ⟨rfl, hu⟩ := hu
    rw [hu]
    show Pa N 35 30 [(0, .int yn), (1, .int yc), (2, .int yw), (3, .int ym), (4, .long yu), (6, .int yi)] [.long (chF (yn - ym) (yc - yi)), .long (chF ym yi), .long yu] yA _
    refine Pa.mp 3 (pc' := 34) (l' := [(4, .long (yu + ((chF ym yi) * (chF (yn - ym) (yc - yi))))), (0, .int yn), (1, .int yc), (2, .int yw), (3, .int ym), (6, .int yi)]) (st' := []) (by rfl) ?_
    refine Pa.iinc (x := yi) (c := 1) (v := (yi + 1)) (l' := [(6, .int (yi + 1)), (4, .long (yu + ((chF ym yi) * (chF (yn - ym) (yc - yi))))), (0, .int yn), (1, .int yc), (2, .int yw), (3, .int ym)]) (by rfl) (by rfl) (by decide) (by rfl) (by rfl) ?_
    refine Pa.mp 1 (pc' := 6) (l' := [(6, .int (yi + 1)), (4, .long (yu + ((chF ym yi) * (chF (yn - ym) (yc - yi))))), (0, .int yn), (1, .int yc), (2, .int yw), (3, .int ym)]) (st' := []) (by rfl) ?_
    refine Pa.lv (l' := [(0, .int yn), (1, .int yc), (2, .int yw), (3, .int ym), (4, .long (yu + ((chF ym yi) * (chF (yn - ym) (yc - yi))))), (6, .int (yi + 1))]) (lvS_c rfl (lvS_c rfl (lvS_c rfl (lvS_c rfl (lvS_c rfl (lvS_c rfl (lvS_nil))))))) rfl ?_
    exact l3 h2
def waysJ (yn yc ym : Int32) : Nat → Int64
  | 0 => Int64.ofNat 0
  | yj + 1 => waysJ yn yc ym yj + chF ym (Int32.ofNat yj) * chF (yn - ym) (yc - Int32.ofNat yj)
def lkF (yn yc yw ym : Int32) : Int32 := if (lg_cmp (waysJ yn yc ym (yw.toInt.toNat + 1) * 100) (chF yn yc * 5)).toInt < 0 then 0 else 1
theorem c_lkx (N : Nat) (yA : AW) (yn yc yw ym : Int32) (hw : 0 ≤ yw.toInt ∧ yw.toInt ≤ 150) (yhc : 0 ≤ yc.toInt ∧ yc.toInt ≤ 150) : Pa N 35 0 [(0, .int yn), (1, .int yc), (2, .int yw), (3, .int ym)] [] yA (fun yu A1 => yu = some (.int (lkF yn yc yw ym)) ∧ A1 = yA) := by
  have ykey : ∀ N yj, yj ≤ yw.toInt.toNat + 1 → Pa N 35 6 [(0, .int yn), (1, .int yc), (2, .int yw), (3, .int ym), (4, .long (waysJ yn yc ym yj)), (6, .int (Int32.ofNat yj))] [] yA (fun yu A1 => yu = some (.int (lkF yn yc yw ym)) ∧ A1 = yA) := by
    intro N
    induction N with
    | zero => intro yj _; exact Pa.zero
    | succ N yih =>
      intro yj hj
      have ye1 : (Int32.ofNat yj).toInt = (yj : Int) := i32_nat (by omega)
      refine bx_lk yn yc yw ym _ _ hw.2 yhc.2 (by omega) (i_subx rfl (by omega) (by omega)) ?_ ?_ ?_ <;> rw [ye1]
      · intro h1 h2
        have hjw : yj = yw.toInt.toNat + 1 := by omega
        rw [hjw] at h2
        exact ⟨by unfold lkF; rw [if_pos h2], rfl⟩
      · intro h1 h2
        have hjw : yj = yw.toInt.toNat + 1 := by omega
        rw [hjw] at h2
        exact ⟨by unfold lkF; rw [if_neg (by omega)], rfl⟩
      · intro h1
        have yh := yih (yj + 1) (by omega)
        rw [on_succ] at yh
        exact yh
  exact bx_lk0 yn yc yw ym (ykey N 0 (Nat.zero_le _))
theorem bx_bd0 {N : Nat} {yA : AW} {yQ : Option Value → AW → Prop} (yf : Int32)
    (l1 : Pa N 34 10 [(0, .ref 30), (1, .int yf), (2, .int 0), (3, .int 0), (4, .int 0), (5, .int 0), (6, .null), (7, .int 0)] [] yA yQ) :
    Pa N 34 0 [(0, .ref 30), (1, .int yf)] [] yA yQ := by
  refine Pa.ic (x := 0) (pc' := 1) (by rfl) (by rfl) (by decide) ?_
  refine Pa.mp 1 (pc' := 2) (l' := [(2, .int 0), (0, .ref 30), (1, .int yf)]) (st' := []) (by rfl) ?_
  refine Pa.ic (x := 0) (pc' := 3) (by rfl) (by rfl) (by decide) ?_
  refine Pa.mp 1 (pc' := 4) (l' := [(3, .int 0), (2, .int 0), (0, .ref 30), (1, .int yf)]) (st' := []) (by rfl) ?_
  refine Pa.ic (x := 0) (pc' := 5) (by rfl) (by rfl) (by decide) ?_
  refine Pa.mp 1 (pc' := 7) (l' := [(4, .int 0), (3, .int 0), (2, .int 0), (0, .ref 30), (1, .int yf)]) (st' := []) (by rfl) ?_
  refine Pa.ic (x := 0) (pc' := 8) (by rfl) (by rfl) (by decide) ?_
  refine Pa.mp 1 (pc' := 10) (l' := [(5, .int 0), (4, .int 0), (3, .int 0), (2, .int 0), (0, .ref 30), (1, .int yf)]) (st' := []) (by rfl) ?_
  refine Pa.lv (l' := [(0, .ref 30), (1, .int yf), (2, .int 0), (3, .int 0), (4, .int 0), (5, .int 0), (6, .null), (7, .int 0)]) (lvS_c rfl (lvS_c rfl (lvS_c rfl (lvS_c rfl (lvS_c rfl (lvS_c rfl (lvS_nil))))))) rfl ?_
  exact l1
theorem bx_bd1 {N : Nat} {yA : AW} {yQ : Option Value → AW → Prop} (yf yn yc yw yi ys : Int32) (yv : Value)
    (l1 : (yA.1 30 4).toInt ≤ yi.toInt → yn.toInt ≤ 30 → yc.toInt ≠ 0 → Pa N 34 109 [(0, .ref 30), (1, .int yf), (2, .int yn), (3, .int yc), (4, .int yw), (5, .int ((yn - yc) + yw)), (6, yv), (7, .int ys)] [] yA yQ)
    (l2 : (yA.1 30 4).toInt ≤ yi.toInt → yn.toInt ≤ 30 → yc.toInt = 0 → yQ (some (.int yn)) yA)
    (l3 : (yA.1 30 4).toInt ≤ yi.toInt → 30 < yn.toInt → yQ (some (.int (-5))) yA)
    (l4 : yi.toInt < (yA.1 30 4).toInt → yi.toInt < 0 → Pa N 34 10 [(0, .ref 30), (1, .int yf), (2, .int yn), (3, .int yc), (4, .int yw), (5, .int (yi + 1)), (6, .null), (7, .int ys)] [] yA yQ)
    (l5 : yi.toInt < (yA.1 30 4).toInt → 0 ≤ yi.toInt → yi.toInt < 150 → ∀ ya1, yA.2.2.1 31 yi.toInt.toNat = some ya1 → 129 ≤ ya1 → ya1 < yA.2.2.2.2 → (yA.1 ya1 4).toInt ≠ yf.toInt → Pa N 34 10 [(0, .ref 30), (1, .int yf), (2, .int yn), (3, .int yc), (4, .int yw), (5, .int (yi + 1)), (6, .ref ya1), (7, .int ys)] [] yA yQ)
    (l6 : yi.toInt < (yA.1 30 4).toInt → 0 ≤ yi.toInt → yi.toInt < 150 → ∀ ya1, yA.2.2.1 31 yi.toInt.toNat = some ya1 → 129 ≤ ya1 → ya1 < yA.2.2.2.2 → (yA.1 ya1 4).toInt = yf.toInt → 0 ≤ (yA.1 ya1 11).toInt → (yA.1 ya1 12).toInt ≠ 0 → Pa N 34 10 [(0, .ref 30), (1, .int yf), (2, .int (yn + 1)), (3, .int (yc + 1)), (4, .int (yw + 1)), (5, .int (yi + 1)), (6, .ref ya1), (7, .int 2)] [] yA yQ)
    (l7 : yi.toInt < (yA.1 30 4).toInt → 0 ≤ yi.toInt → yi.toInt < 150 → ∀ ya1, yA.2.2.1 31 yi.toInt.toNat = some ya1 → 129 ≤ ya1 → ya1 < yA.2.2.2.2 → (yA.1 ya1 4).toInt = yf.toInt → 0 ≤ (yA.1 ya1 11).toInt → (yA.1 ya1 12).toInt = 0 → Pa N 34 10 [(0, .ref 30), (1, .int yf), (2, .int (yn + 1)), (3, .int (yc + 1)), (4, .int (yw + 0)), (5, .int (yi + 1)), (6, .ref ya1), (7, .int 1)] [] yA yQ)
    (l8 : yi.toInt < (yA.1 30 4).toInt → 0 ≤ yi.toInt → yi.toInt < 150 → ∀ ya1, yA.2.2.1 31 yi.toInt.toNat = some ya1 → 129 ≤ ya1 → ya1 < yA.2.2.2.2 → (yA.1 ya1 4).toInt = yf.toInt → (yA.1 ya1 11).toInt < 0 → Pa N 34 10 [(0, .ref 30), (1, .int yf), (2, .int (yn + 1)), (3, .int (yc + 0)), (4, .int (yw + 0)), (5, .int (yi + 1)), (6, .ref ya1), (7, .int 0)] [] yA yQ)
    (l9 : yi.toInt < (yA.1 30 4).toInt → 0 ≤ yi.toInt → yi.toInt < 150 → yA.2.2.1 31 yi.toInt.toNat = none → Pa N 34 10 [(0, .ref 30), (1, .int yf), (2, .int yn), (3, .int yc), (4, .int yw), (5, .int (yi + 1)), (6, .null), (7, .int ys)] [] yA yQ) :
    Pa (N + 1) 34 10 [(0, .ref 30), (1, .int yf), (2, .int yn), (3, .int yc), (4, .int yw), (5, .int yi), (6, yv), (7, .int ys)] [] yA yQ := by
  refine Pa.mp1 1 (pc' := 13) (l' := [(0, .ref 30), (1, .int yf), (2, .int yn), (3, .int yc), (4, .int yw), (5, .int yi), (6, yv), (7, .int ys)]) (st' := [.ref 30, .int yi]) (by rfl) ?_
  refine Pa.gfI (v := yA.1 30 4) (by rfl) (by rfl) (.inl rfl) (by rfl) (by rfl) ?_
  refine Pa.if2 (a := yi.toInt) (b := (yA.1 30 4).toInt) (t := 86) (by rfl) (by rfl) (rfl) (rfl) (fun h1 => ?_) (fun h2 => ?_)
  · have h1 : (yA.1 30 4).toInt ≤ yi.toInt := h1
    refine Pa.mp 1 (pc' := 87) (l' := [(0, .ref 30), (1, .int yf), (2, .int yn), (3, .int yc), (4, .int yw), (5, .int yi), (6, yv), (7, .int ys)]) (st' := [.int yn]) (by rfl) ?_
    refine Pa.ic (x := 30) (pc' := 89) (by rfl) (by rfl) (by decide) ?_
    refine Pa.if2 (a := yn.toInt) (b := 30) (t := 95) (by rfl) (by rfl) (rfl) (by decide) (fun h3 => ?_) (fun h4 => ?_)
    · have h3 : yn.toInt ≤ 30 := h3
      refine Pa.mp 1 (pc' := 96) (l' := [(0, .ref 30), (1, .int yf), (2, .int yn), (3, .int yc), (4, .int yw), (5, .int yi), (6, yv), (7, .int ys)]) (st' := [.int yc]) (by rfl) ?_
      refine Pa.if1 (a := yc.toInt) (t := 101) (by rfl) (by rfl) (rfl) (fun h5 => ?_) (fun h6 => ?_)
      · have h5 : yc.toInt ≠ 0 := h5
        refine Pa.mp 6 (pc' := 109) (l' := [(5, .int ((yn - yc) + yw)), (0, .ref 30), (1, .int yf), (2, .int yn), (3, .int yc), (4, .int yw), (6, yv), (7, .int ys)]) (st' := []) (by rfl) ?_
        refine Pa.lv (l' := [(0, .ref 30), (1, .int yf), (2, .int yn), (3, .int yc), (4, .int yw), (5, .int ((yn - yc) + yw)), (6, yv), (7, .int ys)]) (lvS_c rfl (lvS_c rfl (lvS_c rfl (lvS_c rfl (lvS_c rfl (lvS_c rfl (lvS_c rfl (lvS_c rfl (lvS_nil))))))))) rfl ?_
        exact l1 h1 h3 h5
      · have h6 : yc.toInt = 0 := h6
        refine Pa.mp 1 (pc' := 100) (l' := [(0, .ref 30), (1, .int yf), (2, .int yn), (3, .int yc), (4, .int yw), (5, .int yi), (6, yv), (7, .int ys)]) (st' := [.int yn]) (by rfl) ?_
        refine Pa.iret (by rfl) ?_
        exact l2 h1 h3 h6
    · have h4 : 30 < yn.toInt := h4
      refine Pa.ic (x := (-5)) (pc' := 94) (by rfl) (by rfl) (by decide) ?_
      refine Pa.iret (by rfl) ?_
      exact l3 h1 h4
  · have h2 : yi.toInt < (yA.1 30 4).toInt := h2
    refine Pa.mp 2 (pc' := 22) (l' := [(0, .ref 30), (1, .int yf), (2, .int yn), (3, .int yc), (4, .int yw), (5, .int yi), (6, yv), (7, .int ys)]) (st' := [.int yi, .ref 30]) (by rfl) ?_
    refine Pa.inv (by rfl) (by rfl) (.inl rfl) (by rfl) ?_
    show Pa N 26 0 [(0, .ref 30), (1, .int yi)] [] yA _
    refine Pa.mp 1 (pc' := 1) (l' := [(0, .ref 30), (1, .int yi)]) (st' := [.int yi]) (by rfl) ?_
    refine Pa.if1 (a := yi.toInt) (t := 21) (by rfl) (by rfl) (rfl) (fun h7 => ?_) (fun h8 => ?_)
    · have h7 : yi.toInt < 0 := h7
      refine Pa.mp 1 (pc' := 22) (l' := [(0, .ref 30), (1, .int yi)]) (st' := [.null]) (by rfl) ?_
      refine Pa.nret (by rfl) ?_
      show Pa N 34 25 [(0, .ref 30), (1, .int yf), (2, .int yn), (3, .int yc), (4, .int yw), (5, .int yi), (6, yv), (7, .int ys)] [.null] yA _
      refine Pa.mp 2 (pc' := 29) (l' := [(6, .null), (0, .ref 30), (1, .int yf), (2, .int yn), (3, .int yc), (4, .int yw), (5, .int yi), (7, .int ys)]) (st' := [.null]) (by rfl) ?_
      refine Pa.mp 1 (pc' := 80) (l' := [(6, .null), (0, .ref 30), (1, .int yf), (2, .int yn), (3, .int yc), (4, .int yw), (5, .int yi), (7, .int ys)]) (st' := []) (by rfl) ?_
      refine Pa.iinc (x := yi) (c := 1) (v := (yi + 1)) (l' := [(5, .int (yi + 1)), (6, .null), (0, .ref 30), (1, .int yf), (2, .int yn), (3, .int yc), (4, .int yw), (7, .int ys)]) (by rfl) (by rfl) (by decide) (by rfl) (by rfl) ?_
      refine Pa.mp 1 (pc' := 10) (l' := [(5, .int (yi + 1)), (6, .null), (0, .ref 30), (1, .int yf), (2, .int yn), (3, .int yc), (4, .int yw), (7, .int ys)]) (st' := []) (by rfl) ?_
      refine Pa.lv (l' := [(0, .ref 30), (1, .int yf), (2, .int yn), (3, .int yc), (4, .int yw), (5, .int (yi + 1)), (6, .null), (7, .int ys)]) (lvS_c rfl (lvS_c rfl (lvS_c rfl (lvS_c rfl (lvS_c rfl (lvS_c rfl (lvS_c rfl (lvS_c rfl (lvS_nil))))))))) rfl ?_
      exact l4 h2 h7
    · have h8 : 0 ≤ yi.toInt := h8
      refine Pa.mp 2 (pc' := 6) (l' := [(0, .ref 30), (1, .int yi)]) (st' := [.ref 30, .int yi]) (by rfl) ?_
      refine Pa.gfI (v := yA.1 30 4) (by rfl) (by rfl) (.inl rfl) (by rfl) (by rfl) ?_
      refine Pa.if2 (a := yi.toInt) (b := (yA.1 30 4).toInt) (t := 21) (by rfl) (by rfl) (rfl) (rfl) (fun yh => (by exfalso; have h' : (yA.1 30 4).toInt ≤ yi.toInt := yh; omega)) (fun _ => ?_)
      refine Pa.mp 1 (pc' := 13) (l' := [(0, .ref 30), (1, .int yi)]) (st' := [.ref 30]) (by rfl) ?_
      refine Pa.gfR (by rfl) (by rfl) (.inl rfl) (by rfl) ?_
      show Pa N 26 16 [(0, .ref 30), (1, .int yi)] [.ref 31] yA _
      refine Pa.mp 1 (pc' := 17) (l' := [(0, .ref 30), (1, .int yi)]) (st' := [.int yi, .ref 31]) (by rfl) ?_
      refine Pa.olds (o := yA.2.2.1 31 yi.toInt.toNat) (by rfl) (by rfl) (by rfl) (fun h10 h11 ya1 h12 h14 h15 => ?_) (fun h10 h11 h13 => ?_)
      · skip
        refine Pa.mp 1 (pc' := 22) (l' := [(0, .ref 30), (1, .int yi)]) (st' := [.ref ya1]) (by rfl) ?_
        refine Pa.aret (by rfl) ?_
        show Pa N 34 25 [(0, .ref 30), (1, .int yf), (2, .int yn), (3, .int yc), (4, .int yw), (5, .int yi), (6, yv), (7, .int ys)] [.ref ya1] yA _
        refine Pa.mp 2 (pc' := 29) (l' := [(6, .ref ya1), (0, .ref 30), (1, .int yf), (2, .int yn), (3, .int yc), (4, .int yw), (5, .int yi), (7, .int ys)]) (st' := [.ref ya1]) (by rfl) ?_
        refine Pa.mp 1 (pc' := 32) (l' := [(6, .ref ya1), (0, .ref 30), (1, .int yf), (2, .int yn), (3, .int yc), (4, .int yw), (5, .int yi), (7, .int ys)]) (st' := []) (by rfl) ?_
        refine Pa.mp 1 (pc' := 34) (l' := [(6, .ref ya1), (0, .ref 30), (1, .int yf), (2, .int yn), (3, .int yc), (4, .int yw), (5, .int yi), (7, .int ys)]) (st' := [.ref ya1]) (by rfl) ?_
        refine Pa.gfI (v := yA.1 ya1 4) (by rfl) (by rfl) (.inr rfl) (by rfl) (by rfl) ?_
        refine Pa.mp 1 (pc' := 38) (l' := [(6, .ref ya1), (0, .ref 30), (1, .int yf), (2, .int yn), (3, .int yc), (4, .int yw), (5, .int yi), (7, .int ys)]) (st' := [.int yf, .int (yA.1 ya1 4)]) (by rfl) ?_
        refine Pa.if2 (a := (yA.1 ya1 4).toInt) (b := yf.toInt) (t := 80) (by rfl) (by rfl) (rfl) (rfl) (fun yh16 => ?_) (fun h17 => ?_)
        · have yh16 : (yA.1 ya1 4).toInt ≠ yf.toInt := yh16
          refine Pa.iinc (x := yi) (c := 1) (v := (yi + 1)) (l' := [(5, .int (yi + 1)), (6, .ref ya1), (0, .ref 30), (1, .int yf), (2, .int yn), (3, .int yc), (4, .int yw), (7, .int ys)]) (by rfl) (by rfl) (by decide) (by rfl) (by rfl) ?_
          refine Pa.mp 1 (pc' := 10) (l' := [(5, .int (yi + 1)), (6, .ref ya1), (0, .ref 30), (1, .int yf), (2, .int yn), (3, .int yc), (4, .int yw), (7, .int ys)]) (st' := []) (by rfl) ?_
          refine Pa.lv (l' := [(0, .ref 30), (1, .int yf), (2, .int yn), (3, .int yc), (4, .int yw), (5, .int (yi + 1)), (6, .ref ya1), (7, .int ys)]) (lvS_c rfl (lvS_c rfl (lvS_c rfl (lvS_c rfl (lvS_c rfl (lvS_c rfl (lvS_c rfl (lvS_c rfl (lvS_nil))))))))) rfl ?_
          exact l5 h2 h8 h11 ya1 h12 h14 h15 yh16
        · have h17 : (yA.1 ya1 4).toInt = yf.toInt := h17
          refine Pa.mp 1 (pc' := 43) (l' := [(6, .ref ya1), (0, .ref 30), (1, .int yf), (2, .int yn), (3, .int yc), (4, .int yw), (5, .int yi), (7, .int ys)]) (st' := [.ref ya1]) (by rfl) ?_
          refine Pa.inv (by rfl) (by rfl) (.inr rfl) (by rfl) ?_
          show Pa N 21 0 [(0, .ref ya1)] [] yA _
          refine Pa.mp 1 (pc' := 1) (l' := [(0, .ref ya1)]) (st' := [.ref ya1]) (by rfl) ?_
          refine Pa.gfI (v := yA.1 ya1 11) (by rfl) (by rfl) (.inl rfl) (by rfl) (by rfl) ?_
          refine Pa.if1 (a := (yA.1 ya1 11).toInt) (t := 9) (by rfl) (by rfl) (rfl) (fun h18 => ?_) (fun h19 => ?_)
          · have h18 : 0 ≤ (yA.1 ya1 11).toInt := h18
            refine Pa.mp 1 (pc' := 10) (l' := [(0, .ref ya1)]) (st' := [.ref ya1]) (by rfl) ?_
            refine Pa.gfI (v := yA.1 ya1 12) (by rfl) (by rfl) (.inl rfl) (by rfl) (by rfl) ?_
            refine Pa.if1 (a := (yA.1 ya1 12).toInt) (t := 20) (by rfl) (by rfl) (rfl) (fun h20 => ?_) (fun h21 => ?_)
            · have h20 : (yA.1 ya1 12).toInt ≠ 0 := h20
              refine Pa.ic (x := 2) (pc' := 21) (by rfl) (by rfl) (by decide) ?_
              refine Pa.iret (by rfl) ?_
              show Pa N 34 46 [(6, .ref ya1), (0, .ref 30), (1, .int yf), (2, .int yn), (3, .int yc), (4, .int yw), (5, .int yi), (7, .int ys)] [.int 2] yA _
              refine Pa.mp 1 (pc' := 48) (l' := [(7, .int 2), (6, .ref ya1), (0, .ref 30), (1, .int yf), (2, .int yn), (3, .int yc), (4, .int yw), (5, .int yi)]) (st' := []) (by rfl) ?_
              refine Pa.iinc (x := yn) (c := 1) (v := (yn + 1)) (l' := [(2, .int (yn + 1)), (7, .int 2), (6, .ref ya1), (0, .ref 30), (1, .int yf), (3, .int yc), (4, .int yw), (5, .int yi)]) (by rfl) (by rfl) (by decide) (by rfl) (by rfl) ?_
              refine Pa.mp 2 (pc' := 54) (l' := [(2, .int (yn + 1)), (7, .int 2), (6, .ref ya1), (0, .ref 30), (1, .int yf), (3, .int yc), (4, .int yw), (5, .int yi)]) (st' := [.int 2, .int yc]) (by rfl) ?_
              refine Pa.if1k false (by rfl) (by rfl) (by decide) ?_
              show Pa N 34 57 [(2, .int (yn + 1)), (7, .int 2), (6, .ref ya1), (0, .ref 30), (1, .int yf), (3, .int yc), (4, .int yw), (5, .int yi)] [.int yc] yA _
              refine Pa.ic (x := 1) (pc' := 58) (by rfl) (by rfl) (by decide) ?_
              refine Pa.mp 5 (pc' := 68) (l' := [(3, .int (yc + 1)), (2, .int (yn + 1)), (7, .int 2), (6, .ref ya1), (0, .ref 30), (1, .int yf), (4, .int yw), (5, .int yi)]) (st' := [.int 2, .int yw]) (by rfl) ?_
              refine Pa.ic (x := 1) (pc' := 69) (by rfl) (by rfl) (by decide) ?_
              refine Pa.if2k false (by rfl) (by rfl) (by decide) ?_
              show Pa N 34 72 [(3, .int (yc + 1)), (2, .int (yn + 1)), (7, .int 2), (6, .ref ya1), (0, .ref 30), (1, .int yf), (4, .int yw), (5, .int yi)] [.int yw] yA _
              refine Pa.ic (x := 1) (pc' := 73) (by rfl) (by rfl) (by decide) ?_
              refine Pa.mp 3 (pc' := 80) (l' := [(4, .int (yw + 1)), (3, .int (yc + 1)), (2, .int (yn + 1)), (7, .int 2), (6, .ref ya1), (0, .ref 30), (1, .int yf), (5, .int yi)]) (st' := []) (by rfl) ?_
              refine Pa.iinc (x := yi) (c := 1) (v := (yi + 1)) (l' := [(5, .int (yi + 1)), (4, .int (yw + 1)), (3, .int (yc + 1)), (2, .int (yn + 1)), (7, .int 2), (6, .ref ya1), (0, .ref 30), (1, .int yf)]) (by rfl) (by rfl) (by decide) (by rfl) (by rfl) ?_
              refine Pa.mp 1 (pc' := 10) (l' := [(5, .int (yi + 1)), (4, .int (yw + 1)), (3, .int (yc + 1)), (2, .int (yn + 1)), (7, .int 2), (6, .ref ya1), (0, .ref 30), (1, .int yf)]) (st' := []) (by rfl) ?_
              refine Pa.lv (l' := [(0, .ref 30), (1, .int yf), (2, .int (yn + 1)), (3, .int (yc + 1)), (4, .int (yw + 1)), (5, .int (yi + 1)), (6, .ref ya1), (7, .int 2)]) (lvS_c rfl (lvS_c rfl (lvS_c rfl (lvS_c rfl (lvS_c rfl (lvS_c rfl (lvS_c rfl (lvS_c rfl (lvS_nil))))))))) rfl ?_
              exact l6 h2 h8 h11 ya1 h12 h14 h15 h17 h18 h20
            · have h21 : (yA.1 ya1 12).toInt = 0 := h21
              refine Pa.ic (x := 1) (pc' := 17) (by rfl) (by rfl) (by decide) ?_
              refine Pa.mp 1 (pc' := 21) (l' := [(0, .ref ya1)]) (st' := [.int 1]) (by rfl) ?_
              refine Pa.iret (by rfl) ?_
              show Pa N 34 46 [(6, .ref ya1), (0, .ref 30), (1, .int yf), (2, .int yn), (3, .int yc), (4, .int yw), (5, .int yi), (7, .int ys)] [.int 1] yA _
              refine Pa.mp 1 (pc' := 48) (l' := [(7, .int 1), (6, .ref ya1), (0, .ref 30), (1, .int yf), (2, .int yn), (3, .int yc), (4, .int yw), (5, .int yi)]) (st' := []) (by rfl) ?_
              refine Pa.iinc (x := yn) (c := 1) (v := (yn + 1)) (l' := [(2, .int (yn + 1)), (7, .int 1), (6, .ref ya1), (0, .ref 30), (1, .int yf), (3, .int yc), (4, .int yw), (5, .int yi)]) (by rfl) (by rfl) (by decide) (by rfl) (by rfl) ?_
              refine Pa.mp 2 (pc' := 54) (l' := [(2, .int (yn + 1)), (7, .int 1), (6, .ref ya1), (0, .ref 30), (1, .int yf), (3, .int yc), (4, .int yw), (5, .int yi)]) (st' := [.int 1, .int yc]) (by rfl) ?_
              refine Pa.if1k false (by rfl) (by rfl) (by decide) ?_
              show Pa N 34 57 [(2, .int (yn + 1)), (7, .int 1), (6, .ref ya1), (0, .ref 30), (1, .int yf), (3, .int yc), (4, .int yw), (5, .int yi)] [.int yc] yA _
              refine Pa.ic (x := 1) (pc' := 58) (by rfl) (by rfl) (by decide) ?_
              refine Pa.mp 5 (pc' := 68) (l' := [(3, .int (yc + 1)), (2, .int (yn + 1)), (7, .int 1), (6, .ref ya1), (0, .ref 30), (1, .int yf), (4, .int yw), (5, .int yi)]) (st' := [.int 1, .int yw]) (by rfl) ?_
              refine Pa.ic (x := 1) (pc' := 69) (by rfl) (by rfl) (by decide) ?_
              refine Pa.if2k true (by rfl) (by rfl) (by decide) ?_
              show Pa N 34 76 [(3, .int (yc + 1)), (2, .int (yn + 1)), (7, .int 1), (6, .ref ya1), (0, .ref 30), (1, .int yf), (4, .int yw), (5, .int yi)] [.int yw] yA _
              refine Pa.ic (x := 0) (pc' := 77) (by rfl) (by rfl) (by decide) ?_
              refine Pa.mp 2 (pc' := 80) (l' := [(4, .int (yw + 0)), (3, .int (yc + 1)), (2, .int (yn + 1)), (7, .int 1), (6, .ref ya1), (0, .ref 30), (1, .int yf), (5, .int yi)]) (st' := []) (by rfl) ?_
              refine Pa.iinc (x := yi) (c := 1) (v := (yi + 1)) (l' := [(5, .int (yi + 1)), (4, .int (yw + 0)), (3, .int (yc + 1)), (2, .int (yn + 1)), (7, .int 1), (6, .ref ya1), (0, .ref 30), (1, .int yf)]) (by rfl) (by rfl) (by decide) (by rfl) (by rfl) ?_
              refine Pa.mp 1 (pc' := 10) (l' := [(5, .int (yi + 1)), (4, .int (yw + 0)), (3, .int (yc + 1)), (2, .int (yn + 1)), (7, .int 1), (6, .ref ya1), (0, .ref 30), (1, .int yf)]) (st' := []) (by rfl) ?_
              refine Pa.lv (l' := [(0, .ref 30), (1, .int yf), (2, .int (yn + 1)), (3, .int (yc + 1)), (4, .int (yw + 0)), (5, .int (yi + 1)), (6, .ref ya1), (7, .int 1)]) (lvS_c rfl (lvS_c rfl (lvS_c rfl (lvS_c rfl (lvS_c rfl (lvS_c rfl (lvS_c rfl (lvS_c rfl (lvS_nil))))))))) rfl ?_
              exact l7 h2 h8 h11 ya1 h12 h14 h15 h17 h18 h21
          · have h19 : (yA.1 ya1 11).toInt < 0 := h19
            refine Pa.ic (x := 0) (pc' := 8) (by rfl) (by rfl) (by decide) ?_
            refine Pa.iret (by rfl) ?_
            show Pa N 34 46 [(6, .ref ya1), (0, .ref 30), (1, .int yf), (2, .int yn), (3, .int yc), (4, .int yw), (5, .int yi), (7, .int ys)] [.int 0] yA _
            refine Pa.mp 1 (pc' := 48) (l' := [(7, .int 0), (6, .ref ya1), (0, .ref 30), (1, .int yf), (2, .int yn), (3, .int yc), (4, .int yw), (5, .int yi)]) (st' := []) (by rfl) ?_
            refine Pa.iinc (x := yn) (c := 1) (v := (yn + 1)) (l' := [(2, .int (yn + 1)), (7, .int 0), (6, .ref ya1), (0, .ref 30), (1, .int yf), (3, .int yc), (4, .int yw), (5, .int yi)]) (by rfl) (by rfl) (by decide) (by rfl) (by rfl) ?_
            refine Pa.mp 2 (pc' := 54) (l' := [(2, .int (yn + 1)), (7, .int 0), (6, .ref ya1), (0, .ref 30), (1, .int yf), (3, .int yc), (4, .int yw), (5, .int yi)]) (st' := [.int 0, .int yc]) (by rfl) ?_
            refine Pa.if1k true (by rfl) (by rfl) (by decide) ?_
            show Pa N 34 61 [(2, .int (yn + 1)), (7, .int 0), (6, .ref ya1), (0, .ref 30), (1, .int yf), (3, .int yc), (4, .int yw), (5, .int yi)] [.int yc] yA _
            refine Pa.ic (x := 0) (pc' := 62) (by rfl) (by rfl) (by decide) ?_
            refine Pa.mp 4 (pc' := 68) (l' := [(3, .int (yc + 0)), (2, .int (yn + 1)), (7, .int 0), (6, .ref ya1), (0, .ref 30), (1, .int yf), (4, .int yw), (5, .int yi)]) (st' := [.int 0, .int yw]) (by rfl) ?_
            refine Pa.ic (x := 1) (pc' := 69) (by rfl) (by rfl) (by decide) ?_
            refine Pa.if2k true (by rfl) (by rfl) (by decide) ?_
            show Pa N 34 76 [(3, .int (yc + 0)), (2, .int (yn + 1)), (7, .int 0), (6, .ref ya1), (0, .ref 30), (1, .int yf), (4, .int yw), (5, .int yi)] [.int yw] yA _
            refine Pa.ic (x := 0) (pc' := 77) (by rfl) (by rfl) (by decide) ?_
            refine Pa.mp 2 (pc' := 80) (l' := [(4, .int (yw + 0)), (3, .int (yc + 0)), (2, .int (yn + 1)), (7, .int 0), (6, .ref ya1), (0, .ref 30), (1, .int yf), (5, .int yi)]) (st' := []) (by rfl) ?_
            refine Pa.iinc (x := yi) (c := 1) (v := (yi + 1)) (l' := [(5, .int (yi + 1)), (4, .int (yw + 0)), (3, .int (yc + 0)), (2, .int (yn + 1)), (7, .int 0), (6, .ref ya1), (0, .ref 30), (1, .int yf)]) (by rfl) (by rfl) (by decide) (by rfl) (by rfl) ?_
            refine Pa.mp 1 (pc' := 10) (l' := [(5, .int (yi + 1)), (4, .int (yw + 0)), (3, .int (yc + 0)), (2, .int (yn + 1)), (7, .int 0), (6, .ref ya1), (0, .ref 30), (1, .int yf)]) (st' := []) (by rfl) ?_
            refine Pa.lv (l' := [(0, .ref 30), (1, .int yf), (2, .int (yn + 1)), (3, .int (yc + 0)), (4, .int (yw + 0)), (5, .int (yi + 1)), (6, .ref ya1), (7, .int 0)]) (lvS_c rfl (lvS_c rfl (lvS_c rfl (lvS_c rfl (lvS_c rfl (lvS_c rfl (lvS_c rfl (lvS_c rfl (lvS_nil))))))))) rfl ?_
            exact l8 h2 h8 h11 ya1 h12 h14 h15 h17 h19
      · skip
        refine Pa.mp 1 (pc' := 22) (l' := [(0, .ref 30), (1, .int yi)]) (st' := [.null]) (by rfl) ?_
        refine Pa.nret (by rfl) ?_
        show Pa N 34 25 [(0, .ref 30), (1, .int yf), (2, .int yn), (3, .int yc), (4, .int yw), (5, .int yi), (6, yv), (7, .int ys)] [.null] yA _
        refine Pa.mp 2 (pc' := 29) (l' := [(6, .null), (0, .ref 30), (1, .int yf), (2, .int yn), (3, .int yc), (4, .int yw), (5, .int yi), (7, .int ys)]) (st' := [.null]) (by rfl) ?_
        refine Pa.mp 1 (pc' := 80) (l' := [(6, .null), (0, .ref 30), (1, .int yf), (2, .int yn), (3, .int yc), (4, .int yw), (5, .int yi), (7, .int ys)]) (st' := []) (by rfl) ?_
        refine Pa.iinc (x := yi) (c := 1) (v := (yi + 1)) (l' := [(5, .int (yi + 1)), (6, .null), (0, .ref 30), (1, .int yf), (2, .int yn), (3, .int yc), (4, .int yw), (7, .int ys)]) (by rfl) (by rfl) (by decide) (by rfl) (by rfl) ?_
        refine Pa.mp 1 (pc' := 10) (l' := [(5, .int (yi + 1)), (6, .null), (0, .ref 30), (1, .int yf), (2, .int yn), (3, .int yc), (4, .int yw), (7, .int ys)]) (st' := []) (by rfl) ?_
        refine Pa.lv (l' := [(0, .ref 30), (1, .int yf), (2, .int yn), (3, .int yc), (4, .int yw), (5, .int (yi + 1)), (6, .null), (7, .int ys)]) (lvS_c rfl (lvS_c rfl (lvS_c rfl (lvS_c rfl (lvS_c rfl (lvS_c rfl (lvS_c rfl (lvS_c rfl (lvS_nil))))))))) rfl ?_
        exact l9 h2 h8 h11 h13
theorem bx_bd2 {N : Nat} {yA : AW} {yQ : Option Value → AW → Prop} (yf yn yc yw yi ys : Int32) (yv : Value) (hw : 0 ≤ yw.toInt ∧ yw.toInt ≤ 150) (yhc : 0 ≤ yc.toInt ∧ yc.toInt ≤ 150)
    (l1 : yi.toInt ≤ yw.toInt → yQ (some (.int yi)) yA)
    (l2 : yw.toInt < yi.toInt → (lkF yn yc yw yi).toInt ≠ 0 → yQ (some (.int yi)) yA)
    (l3 : yw.toInt < yi.toInt → (lkF yn yc yw yi).toInt = 0 → Pa N 34 109 [(0, .ref 30), (1, .int yf), (2, .int yn), (3, .int yc), (4, .int yw), (5, .int (yi + (-1))), (6, yv), (7, .int ys)] [] yA yQ) :
    Pa (N + 1) 34 109 [(0, .ref 30), (1, .int yf), (2, .int yn), (3, .int yc), (4, .int yw), (5, .int yi), (6, yv), (7, .int ys)] [] yA yQ := by
  refine Pa.mp1 1 (pc' := 113) (l' := [(0, .ref 30), (1, .int yf), (2, .int yn), (3, .int yc), (4, .int yw), (5, .int yi), (6, yv), (7, .int ys)]) (st' := [.int yw, .int yi]) (by rfl) ?_
  refine Pa.if2 (a := yi.toInt) (b := yw.toInt) (t := 134) (by rfl) (by rfl) (rfl) (rfl) (fun h1 => ?_) (fun h2 => ?_)
  · have h1 : yi.toInt ≤ yw.toInt := h1
    refine Pa.mp 1 (pc' := 136) (l' := [(0, .ref 30), (1, .int yf), (2, .int yn), (3, .int yc), (4, .int yw), (5, .int yi), (6, yv), (7, .int ys)]) (st' := [.int yi]) (by rfl) ?_
    refine Pa.iret (by rfl) ?_
    exact l1 h1
  · have h2 : yw.toInt < yi.toInt := h2
    refine Pa.mp 4 (pc' := 122) (l' := [(0, .ref 30), (1, .int yf), (2, .int yn), (3, .int yc), (4, .int yw), (5, .int yi), (6, yv), (7, .int ys)]) (st' := [.int yi, .int yw, .int yc, .int yn]) (by rfl) ?_
    refine Pa.ist (by rfl) (by rfl) (.inl rfl) (by rfl) (by rfl) ?_
    refine Pa.mono (c_lkx N yA yn yc yw yi hw yhc) (fun yu A1 hu => ?_)
    obtain ⟨rfl, hu⟩ := hu
    rw [hu]
    show Pa N 34 125 [(0, .ref 30), (1, .int yf), (2, .int yn), (3, .int yc), (4, .int yw), (5, .int yi), (6, yv), (7, .int ys)] [.int (lkF yn yc yw yi)] yA _
    refine Pa.if1 (a := (lkF yn yc yw yi).toInt) (t := 134) (by rfl) (by rfl) (rfl) (fun h3 => ?_) (fun h4 => ?_)
    · have h3 : (lkF yn yc yw yi).toInt ≠ 0 := h3
      refine Pa.mp 1 (pc' := 136) (l' := [(0, .ref 30), (1, .int yf), (2, .int yn), (3, .int yc), (4, .int yw), (5, .int yi), (6, yv), (7, .int ys)]) (st' := [.int yi]) (by rfl) ?_
      refine Pa.iret (by rfl) ?_
      exact l2 h2 h3
    · have h4 : (lkF yn yc yw yi).toInt = 0 := h4
      refine Pa.iinc (x := yi) (c := (-1)) (v := (yi + (-1))) (l' := [(5, .int (yi + (-1))), (0, .ref 30), (1, .int yf), (2, .int yn), (3, .int yc), (4, .int yw), (6, yv), (7, .int ys)]) (by rfl) (by rfl) (by decide) (by rfl) (by rfl) ?_
      refine Pa.mp 1 (pc' := 109) (l' := [(5, .int (yi + (-1))), (0, .ref 30), (1, .int yf), (2, .int yn), (3, .int yc), (4, .int yw), (6, yv), (7, .int ys)]) (st' := []) (by rfl) ?_
      refine Pa.lv (l' := [(0, .ref 30), (1, .int yf), (2, .int yn), (3, .int yc), (4, .int yw), (5, .int (yi + (-1))), (6, yv), (7, .int ys)]) (lvS_c rfl (lvS_c rfl (lvS_c rfl (lvS_c rfl (lvS_c rfl (lvS_c rfl (lvS_c rfl (lvS_c rfl (lvS_nil))))))))) rfl ?_
      exact l3 h2 h4
def drL (yg ya l : Nat → Int32) (yf : Int32) (yk : Nat) : Bool := drA yg ya yf yk && decide (0 < (l yk).toInt)
def nF (yA : AW) (yf : Int32) (yj : Nat) : Nat := dr_cnt (drF (yA.1 90) yf) yj
def nA (yA : AW) (yf : Int32) (yj : Nat) : Nat := dr_cnt (drA (yA.1 90) (yA.1 93) yf) yj
def nL (yA : AW) (yf : Int32) (yj : Nat) : Nat := dr_cnt (drL (yA.1 90) (yA.1 93) (yA.1 92) yf) yj
theorem drA_F {yg ya : Nat → Int32} {yf : Int32} {yk : Nat} (yh : drA yg ya yf yk = true) : drF yg yf yk = true := by
  unfold drA at yh
  rw [Bool.and_eq_true] at yh
  exact yh.1
theorem drL_A {yg ya l : Nat → Int32} {yf : Int32} {yk : Nat} (yh : drL yg ya l yf yk = true) : drA yg ya yf yk = true := by
  unfold drL at yh
  rw [Bool.and_eq_true] at yh
  exact yh.1
theorem nLA {yA : AW} {yf : Int32} {yj : Nat} : nL yA yf yj ≤ nA yA yf yj ∧ nA yA yf yj ≤ nF yA yf yj ∧ nF yA yf yj ≤ yj := by
  have h1 := dr_cnt_sub (drF (yA.1 90) yf) (drA (yA.1 90) (yA.1 93) yf) (fun _ yq => drA_F yq) yj
  have h2 := dr_cnt_sub (drA (yA.1 90) (yA.1 93) yf) (drL (yA.1 90) (yA.1 93) (yA.1 92) yf) (fun _ yq => drL_A yq) yj
  have h3 := dr_cnt_le (drF (yA.1 90) yf) yj
  unfold nL nA nF
  omega
/-- the last that holds of yk from ylo on, or ylo -/
def upS (yP : Nat → Bool) (ylo : Nat) : Nat → Nat
  | 0 => ylo
  | yk + 1 => if yP (ylo + yk) = true then ylo + yk else upS yP ylo yk
theorem upS_t {yP : Nat → Bool} {ylo yk : Nat} (yh : yP (ylo + yk) = true) : upS yP ylo (yk + 1) = ylo + yk := if_pos yh
theorem upS_f {yP : Nat → Bool} {ylo yk : Nat} (yh : ¬ yP (ylo + yk) = true) : upS yP ylo (yk + 1) = upS yP ylo yk := if_neg yh
theorem upS_1 {yP : Nat → Bool} {ylo : Nat} : upS yP ylo 1 = ylo := by
  by_cases yh : yP (ylo + 0) = true
  · exact upS_t yh
  · exact upS_f yh
def bdP (yA : AW) (yf : Int32) (yq : Nat) : Bool := decide ((lkF (Int32.ofNat (nF yA yf (cT yA))) (Int32.ofNat (nA yA yf (cT yA))) (Int32.ofNat (nL yA yf (cT yA))) (Int32.ofNat yq)).toInt ≠ 0)
def bdR (yA : AW) (yf : Int32) : Nat := upS (bdP yA yf) (nL yA yf (cT yA)) (nF yA yf (cT yA) - nA yA yf (cT yA) + 1)
def bdV (yA : AW) (yf : Int32) : Int32 := if 30 < nF yA yf (cT yA) then -5 else Int32.ofNat (bdR yA yf)
theorem chF_0 {yn : Int32} (yh : 0 ≤ yn.toInt) : chF yn 0 = Int64.ofNat 1 := if_pos ⟨by decide, by rw [show (0 : Int32).toInt = 0 from by decide]; exact yh⟩
theorem bd_zero {yA : AW} {yf : Int32} (yhT : cT yA ≤ 150) (yh : nA yA yf (cT yA) = 0) : bdR yA yf = nF yA yf (cT yA) := by
  obtain ⟨h1, h2, h3⟩ := nLA (yA := yA) (yf := yf) (yj := cT yA)
  have hL : nL yA yf (cT yA) = 0 := by omega
  have en : (Int32.ofNat (nF yA yf (cT yA))).toInt = (nF yA yf (cT yA) : Int) := i32_nat (by omega)
  unfold bdR
  rw [hL, yh, Nat.sub_zero]
  refine (upS_t ?_).trans (Nat.zero_add _)
  rw [Nat.zero_add]
  unfold bdP
  rw [hL, yh]
  refine decide_eq_true ?_
  have ye : lkF (Int32.ofNat (nF yA yf (cT yA))) (Int32.ofNat 0) (Int32.ofNat 0) (Int32.ofNat (nF yA yf (cT yA))) = 1 := by
    have ew : waysJ (Int32.ofNat (nF yA yf (cT yA))) (Int32.ofNat 0) (Int32.ofNat (nF yA yf (cT yA))) ((Int32.ofNat 0).toInt.toNat + 1) = Int64.ofNat 1 := by
      show Int64.ofNat 0 + chF (Int32.ofNat (nF yA yf (cT yA))) 0 * chF (Int32.ofNat (nF yA yf (cT yA)) - Int32.ofNat (nF yA yf (cT yA))) 0 = _
      rw [Int32.sub_self, chF_0 (by omega), chF_0 (by decide)]
      decide
    have ec : chF (Int32.ofNat (nF yA yf (cT yA))) (Int32.ofNat 0) = Int64.ofNat 1 := chF_0 (by omega)
    unfold lkF
    rw [ew, ec]
    decide
  rw [ye]
  decide
theorem hi_on {ya yb yc : Nat} (h1 : yb ≤ ya) (h2 : ya ≤ 150) (h3 : yc ≤ 150) : (Int32.ofNat ya - Int32.ofNat yb) + Int32.ofNat yc = Int32.ofNat (ya - yb + yc) := i32_ext (by
  have ye1 : (Int32.ofNat ya).toInt = (ya : Int) := i32_nat (by omega)
  have ye2 : (Int32.ofNat yb).toInt = (yb : Int) := i32_nat (by omega)
  have ye3 : (Int32.ofNat yc).toInt = (yc : Int) := i32_nat (by omega)
  have ye4 : (Int32.ofNat (ya - yb + yc)).toInt = ((ya - yb + yc : Nat) : Int) := i32_nat (by omega)
  have ye5 : (Int32.ofNat ya - Int32.ofNat yb).toInt = (ya : Int) - (yb : Int) := i_subx (by rw [ye1, ye2]) (by omega) (by omega)
  rw [i_addx (x := ((ya - yb + yc : Nat) : Int)) (by rw [ye5, ye3]; omega) (by omega) (by omega), ye4])
theorem on_pre {yb : Nat} (yh : yb < 1000) : Int32.ofNat (yb + 1) + (-1) = Int32.ofNat yb := i32_ext (by
  have ye1 : (Int32.ofNat (yb + 1)).toInt = ((yb + 1 : Nat) : Int) := i32_nat (by omega)
  have ye2 : (Int32.ofNat yb).toInt = (yb : Int) := i32_nat (by omega)
  rw [(i_pre ye1 (by omega)).2, ye2])
theorem c_bd2 (yA : AW) (yf : Int32) (yhT : cT yA ≤ 150) : ∀ N (yq : Nat) (ys : Int32) (yv : Value), nL yA yf (cT yA) ≤ yq → yq ≤ 300 → upS (bdP yA yf) (nL yA yf (cT yA)) (yq - nL yA yf (cT yA) + 1) = bdR yA yf → Pa N 34 109 [(0, .ref 30), (1, .int yf), (2, .int (Int32.ofNat (nF yA yf (cT yA)))), (3, .int (Int32.ofNat (nA yA yf (cT yA)))), (4, .int (Int32.ofNat (nL yA yf (cT yA)))), (5, .int (Int32.ofNat yq)), (6, yv), (7, .int ys)] [] yA (fun yu A1 => yu = some (.int (Int32.ofNat (bdR yA yf))) ∧ A1 = yA) := by
  obtain ⟨g1, g2, yg3⟩ := nLA (yA := yA) (yf := yf) (yj := cT yA)
  have el : (Int32.ofNat (nL yA yf (cT yA))).toInt = (nL yA yf (cT yA) : Int) := i32_nat (by omega)
  have ea : (Int32.ofNat (nA yA yf (cT yA))).toInt = (nA yA yf (cT yA) : Int) := i32_nat (by omega)
  intro N
  induction N with
  | zero => intro yq ys yv _ _ _; exact Pa.zero
  | succ N yih =>
    intro yq ys yv h1 h2 h3
    have yeq : (Int32.ofNat yq).toInt = (yq : Int) := i32_nat (by omega)
    refine bx_bd2 yf _ _ _ _ ys yv (by omega) (by omega) ?_ ?_ ?_ <;> rw [yeq, el]
    · intro h4
      have ye : yq = nL yA yf (cT yA) := by omega
      rw [ye, Nat.sub_self] at h3
      have h5 : nL yA yf (cT yA) = bdR yA yf := upS_1.symm.trans h3
      exact ⟨by rw [ye, h5], rfl⟩
    · intro h4 h5
      have ye : yq = nL yA yf (cT yA) + (yq - nL yA yf (cT yA)) := by omega
      have hP : bdP yA yf (nL yA yf (cT yA) + (yq - nL yA yf (cT yA))) = true := by rw [← ye]; exact decide_eq_true h5
      rw [upS_t hP, ← ye] at h3
      exact ⟨by rw [h3], rfl⟩
    · intro h4 h5
      obtain ⟨yb, rfl⟩ : ∃ yb, yq = yb + 1 := ⟨yq - 1, by omega⟩
      have ye : yb + 1 = nL yA yf (cT yA) + (yb + 1 - nL yA yf (cT yA)) := by omega
      have hP : ¬ bdP yA yf (nL yA yf (cT yA) + (yb + 1 - nL yA yf (cT yA))) = true := fun yr => by
        rw [← ye] at yr
        exact of_decide_eq_true yr h5
      rw [upS_f hP, show yb + 1 - nL yA yf (cT yA) = yb - nL yA yf (cT yA) + 1 by omega] at h3
      rw [on_pre (by omega)]
      exact yih yb ys yv (by omega) (by omega) h3
theorem okA.late {yA : AW} (yh : okA yA) {yc ya : Nat} (yhc : yc < 150) (hs : yA.2.2.1 31 yc = some ya) : 0 ≤ (yA.1 ya 12).toInt := by
  obtain ⟨yw, hW, rfl⟩ := yh
  have hw := row_wC hW yhc hs
  obtain ⟨fs, h1, h2, h3⟩ := WI_cost hW hw
  obtain ⟨yv, hv⟩ : ∃ yv, fs[12]? = some yv := ⟨fs[12], List.getElem?_eq_getElem (by omega)⟩
  obtain ⟨yi, yhi, h4, h5⟩ := h3 12 (0, 0, 99999) yv (by decide +kernel) hv
  rw [(aw_at h1).1]
  show 0 ≤ (match (fs[12]? : Option Value) with | some (Value.int yx) => yx | _ => (0 : Int32)).toInt
  rw [hv, yhi]
  exact h4
theorem c_bdX (N : Nat) (yA : AW) (yf : Int32) (hX : RZc yA) (yf5 : yA.1 30 4 = yA.1 69 31) (hA : okA yA) (hf : 0 ≤ yf.toInt) : Pa N 34 0 [(0, .ref 30), (1, .int yf)] [] yA (fun yu A1 => yu = some (.int (bdV yA yf)) ∧ A1 = yA) := by
  have gT := hA.fld (i := 69) (k := 31) (lo := 0) (hi := 150) (by decide +kernel)
  have hT0 : cT yA ≤ 150 := by unfold cT; omega
  have hTe : (yA.1 30 4).toInt = (yA.1 69 31).toInt := by rw [yf5]
  have ykey : ∀ N yj ys yv, yj ≤ cT yA → Pa N 34 10 [(0, .ref 30), (1, .int yf), (2, .int (Int32.ofNat (nF yA yf yj))), (3, .int (Int32.ofNat (nA yA yf yj))), (4, .int (Int32.ofNat (nL yA yf yj))), (5, .int (Int32.ofNat yj)), (6, yv), (7, .int ys)] [] yA (fun yu A1 => yu = some (.int (bdV yA yf)) ∧ A1 = yA) := by
    intro N
    induction N with
    | zero => intro yj ys yv _; exact Pa.zero
    | succ N yih =>
      intro yj ys yv hj
      obtain ⟨g1, g2, yg3⟩ := nLA (yA := yA) (yf := yf) (yj := yj)
      have ye1 : (Int32.ofNat yj).toInt = (yj : Int) := i32_nat (by omega)
      have en : (Int32.ofNat (nF yA yf yj)).toInt = (nF yA yf yj : Int) := i32_nat (by omega)
      have ea : (Int32.ofNat (nA yA yf yj)).toInt = (nA yA yf yj : Int) := i32_nat (by omega)
      refine bx_bd1 yf _ _ _ _ ys yv ?_ ?_ ?_ ?_ ?_ ?_ ?_ ?_ ?_ <;> rw [ye1] <;> (try rw [Int.toNat_natCast])
      · intro h1 h2 h3
        rw [hTe] at h1
        rw [en] at h2
        rw [ea] at h3
        have hjT : yj = cT yA := by unfold cT at hj ⊢; omega
        subst hjT
        rw [hi_on g2 (by omega) (by omega)]
        refine Pa.mono (c_bd2 yA yf hT0 N (nF yA yf (cT yA) - nA yA yf (cT yA) + nL yA yf (cT yA)) ys yv (by omega) (by omega) (by unfold bdR; rw [Nat.add_sub_cancel])) (fun yu A1 hu => ?_)
        refine ⟨?_, hu.2⟩
        rw [hu.1]
        unfold bdV
        rw [if_neg (by omega)]
      · intro h1 h2 h3
        rw [hTe] at h1
        rw [en] at h2
        rw [ea] at h3
        have hjT : yj = cT yA := by unfold cT at hj ⊢; omega
        subst hjT
        refine ⟨?_, rfl⟩
        unfold bdV
        rw [if_neg (by omega), bd_zero hT0 (by omega)]
      · intro h1 h2
        rw [hTe] at h1
        rw [en] at h2
        have hjT : yj = cT yA := by unfold cT at hj ⊢; omega
        subst hjT
        refine ⟨?_, rfl⟩
        unfold bdV
        rw [if_pos (by omega)]
      · intro h1 h2
        omega
      · intro h1 h2 h3 ya h4 h5 h6 h7
        rw [hTe] at h1
        have hlt : yj < cT yA := by unfold cT; omega
        have yrow := rowAt hX hlt h4
        have yn1 : ¬ drF (yA.1 90) yf yj = true := fun yq => h7 (by rw [yrow.2.2.2.2.1, show yA.1 90 (7 * yj) = yf from of_decide_eq_true yq])
        have yn2 : ¬ drA (yA.1 90) (yA.1 93) yf yj = true := fun yq => yn1 (drA_F yq)
        have yn3 : ¬ drL (yA.1 90) (yA.1 93) (yA.1 92) yf yj = true := fun yq => yn2 (drL_A yq)
        have yh := yih (yj + 1) ys (.ref ya) hlt
        unfold nF nA nL at yh ⊢
        rw [dc_0 yn1, dc_0 yn2, dc_0 yn3, on_succ] at yh
        exact yh
      · intro h1 h2 h3 ya h4 h5 h6 h7 h8 h9
        rw [hTe] at h1
        have hlt : yj < cT yA := by unfold cT; omega
        have yrow := rowAt hX hlt h4
        have ylt := hA.late (by omega) h4
        rw [yrow.2.2.2.2.1] at h7
        rw [yrow.2.2.2.2.2.2.2.2.2.2.2.1] at h8
        rw [yrow.2.2.2.2.2.2.2.2.2.2.2.2.1] at h9 ylt
        have y2 : drA (yA.1 90) (yA.1 93) yf yj = true := by unfold drA; rw [decide_eq_true (i32_ext h7), decide_eq_true h8]; rfl
        have y3 : drL (yA.1 90) (yA.1 93) (yA.1 92) yf yj = true := by unfold drL; rw [y2, decide_eq_true (show 0 < (yA.1 92 yj).toInt by omega)]; rfl
        have yh := yih (yj + 1) 2 (.ref ya) hlt
        unfold nF nA nL at yh ⊢
        rw [dc_1 (drA_F y2), dc_1 y2, dc_1 y3, on_succ, on_succ, on_succ, on_succ] at yh
        exact yh
      · intro h1 h2 h3 ya h4 h5 h6 h7 h8 h9
        rw [hTe] at h1
        have hlt : yj < cT yA := by unfold cT; omega
        have yrow := rowAt hX hlt h4
        rw [yrow.2.2.2.2.1] at h7
        rw [yrow.2.2.2.2.2.2.2.2.2.2.2.1] at h8
        rw [yrow.2.2.2.2.2.2.2.2.2.2.2.2.1] at h9
        have y2 : drA (yA.1 90) (yA.1 93) yf yj = true := by unfold drA; rw [decide_eq_true (i32_ext h7), decide_eq_true h8]; rfl
        have yn3 : ¬ drL (yA.1 90) (yA.1 93) (yA.1 92) yf yj = true := fun yq => by
          unfold drL at yq
          rw [Bool.and_eq_true, decide_eq_true_iff] at yq
          omega
        have yh := yih (yj + 1) 1 (.ref ya) hlt
        unfold nF nA nL at yh ⊢
        rw [dc_1 (drA_F y2), dc_1 y2, dc_0 yn3, on_succ, on_succ, on_succ] at yh
        rw [Int32.add_zero]
        exact yh
      · intro h1 h2 h3 ya h4 h5 h6 h7 h8
        rw [hTe] at h1
        have hlt : yj < cT yA := by unfold cT; omega
        have yrow := rowAt hX hlt h4
        rw [yrow.2.2.2.2.1] at h7
        rw [yrow.2.2.2.2.2.2.2.2.2.2.2.1] at h8
        have y1 : drF (yA.1 90) yf yj = true := decide_eq_true (i32_ext h7)
        have yn2 : ¬ drA (yA.1 90) (yA.1 93) yf yj = true := fun yq => by
          unfold drA at yq
          rw [Bool.and_eq_true, decide_eq_true_iff, decide_eq_true_iff] at yq
          omega
        have yn3 : ¬ drL (yA.1 90) (yA.1 93) (yA.1 92) yf yj = true := fun yq => yn2 (drL_A yq)
        have yh := yih (yj + 1) 0 (.ref ya) hlt
        unfold nF nA nL at yh ⊢
        rw [dc_1 y1, dc_0 yn2, dc_0 yn3, on_succ, on_succ] at yh
        rw [Int32.add_zero, Int32.add_zero]
        exact yh
      · intro h1 h2 h3 h4
        rw [hTe] at h1
        exact (slotAt hX (show yj < cT yA by unfold cT; omega) h4).elim
  exact bx_bd0 yf (ykey N 0 0 .null (Nat.zero_le _))
theorem bm_bd0 {N : Nat} {yA : AW} {yQ : Option Value → AW → Prop} (yf : Int32) (yhT : (yA.1 69 31).toInt ≤ 150)
    (l1 : yf.toInt < 0 → yQ (some (.int (-1))) yA)
    (l2 : 0 ≤ yf.toInt → (yA.1 69 11).toInt ≤ yf.toInt → yQ (some (.int (-1))) yA)
    (l3 : 0 ≤ yf.toInt → yf.toInt < (yA.1 69 11).toInt → (cosM yA yf).toInt ≤ 30 → Pa N 247 37 [(0, .ref 69), (1, .int yf), (2, .int (cosM yA yf)), (3, .int (audM yA yf)), (4, .int 0), (5, .int 0)] [] yA yQ)
    (l4 : 0 ≤ yf.toInt → yf.toInt < (yA.1 69 11).toInt → 30 < (cosM yA yf).toInt → yQ (some (.int (-5))) yA) :
    Pa N 247 0 [(0, .ref 69), (1, .int yf)] [] yA yQ := by
  refine Pa.mp 2 (pc' := 2) (l' := [(0, .ref 69), (1, .int yf)]) (st' := [.int yf, .ref 69]) (by rfl) ?_
  refine Pa.inv (by rfl) (by rfl) (.inl rfl) (by rfl) ?_
  show Pa N 157 0 [(0, .ref 69), (1, .int yf)] [] yA _
  refine Pa.mp 1 (pc' := 1) (l' := [(0, .ref 69), (1, .int yf)]) (st' := [.int yf]) (by rfl) ?_
  refine Pa.if1 (a := yf.toInt) (t := 16) (by rfl) (by rfl) (rfl) (fun h1 => ?_) (fun h2 => ?_)
  · have h1 : yf.toInt < 0 := h1
    refine Pa.ic (x := 0) (pc' := 17) (by rfl) (by rfl) (by decide) ?_
    refine Pa.iret (by rfl) ?_
    show Pa N 247 5 [(0, .ref 69), (1, .int yf)] [.int 0] yA _
    refine Pa.if1k false (by rfl) (by rfl) (by decide) ?_
    show Pa N 247 8 [(0, .ref 69), (1, .int yf)] [] yA _
    refine Pa.ic (x := (-1)) (pc' := 9) (by rfl) (by rfl) (by decide) ?_
    refine Pa.iret (by rfl) ?_
    exact l1 h1
  · have h2 : 0 ≤ yf.toInt := h2
    refine Pa.mp 2 (pc' := 6) (l' := [(0, .ref 69), (1, .int yf)]) (st' := [.ref 69, .int yf]) (by rfl) ?_
    refine Pa.gfI (v := yA.1 69 11) (by rfl) (by rfl) (.inl rfl) (by rfl) (by rfl) ?_
    refine Pa.if2 (a := yf.toInt) (b := (yA.1 69 11).toInt) (t := 16) (by rfl) (by rfl) (rfl) (rfl) (fun h3 => ?_) (fun h4 => ?_)
    · have h3 : (yA.1 69 11).toInt ≤ yf.toInt := h3
      refine Pa.ic (x := 0) (pc' := 17) (by rfl) (by rfl) (by decide) ?_
      refine Pa.iret (by rfl) ?_
      show Pa N 247 5 [(0, .ref 69), (1, .int yf)] [.int 0] yA _
      refine Pa.if1k false (by rfl) (by rfl) (by decide) ?_
      show Pa N 247 8 [(0, .ref 69), (1, .int yf)] [] yA _
      refine Pa.ic (x := (-1)) (pc' := 9) (by rfl) (by rfl) (by decide) ?_
      refine Pa.iret (by rfl) ?_
      exact l2 h2 h3
    · have h4 : yf.toInt < (yA.1 69 11).toInt := h4
      refine Pa.ic (x := 1) (pc' := 13) (by rfl) (by rfl) (by decide) ?_
      refine Pa.mp 1 (pc' := 17) (l' := [(0, .ref 69), (1, .int yf)]) (st' := [.int 1]) (by rfl) ?_
      refine Pa.iret (by rfl) ?_
      show Pa N 247 5 [(0, .ref 69), (1, .int yf)] [.int 1] yA _
      refine Pa.if1k true (by rfl) (by rfl) (by decide) ?_
      show Pa N 247 10 [(0, .ref 69), (1, .int yf)] [] yA _
      refine Pa.mp 2 (pc' := 12) (l' := [(0, .ref 69), (1, .int yf)]) (st' := [.int yf, .ref 69]) (by rfl) ?_
      refine Pa.inv (by rfl) (by rfl) (.inl rfl) (by rfl) ?_
      refine Pa.mono (c_costsOf N yA yf yhT) (fun yu A1 hu => ?_)
      obtain ⟨rfl, hu⟩ := hu
      rw [hu]
      show Pa N 247 15 [(0, .ref 69), (1, .int yf)] [.int (cosM yA yf)] yA _
      refine Pa.mp 2 (pc' := 17) (l' := [(2, .int (cosM yA yf)), (0, .ref 69), (1, .int yf)]) (st' := [.int (cosM yA yf)]) (by rfl) ?_
      refine Pa.ic (x := 30) (pc' := 19) (by rfl) (by rfl) (by decide) ?_
      refine Pa.if2 (a := (cosM yA yf).toInt) (b := 30) (t := 25) (by rfl) (by rfl) (rfl) (by decide) (fun h5 => ?_) (fun h6 => ?_)
      · have h5 : (cosM yA yf).toInt ≤ 30 := h5
        refine Pa.mp 2 (pc' := 27) (l' := [(2, .int (cosM yA yf)), (0, .ref 69), (1, .int yf)]) (st' := [.int yf, .ref 69]) (by rfl) ?_
        refine Pa.inv (by rfl) (by rfl) (.inl rfl) (by rfl) ?_
        refine Pa.mono (c_audited N yA yf yhT) (fun yu A1 hu => ?_)
        obtain ⟨rfl, hu⟩ := hu
        rw [hu]
        show Pa N 247 30 [(2, .int (cosM yA yf)), (0, .ref 69), (1, .int yf)] [.int (audM yA yf)] yA _
        refine Pa.mp 1 (pc' := 31) (l' := [(3, .int (audM yA yf)), (2, .int (cosM yA yf)), (0, .ref 69), (1, .int yf)]) (st' := []) (by rfl) ?_
        refine Pa.ic (x := 0) (pc' := 32) (by rfl) (by rfl) (by decide) ?_
        refine Pa.mp 1 (pc' := 34) (l' := [(4, .int 0), (3, .int (audM yA yf)), (2, .int (cosM yA yf)), (0, .ref 69), (1, .int yf)]) (st' := []) (by rfl) ?_
        refine Pa.ic (x := 0) (pc' := 35) (by rfl) (by rfl) (by decide) ?_
        refine Pa.mp 1 (pc' := 37) (l' := [(5, .int 0), (4, .int 0), (3, .int (audM yA yf)), (2, .int (cosM yA yf)), (0, .ref 69), (1, .int yf)]) (st' := []) (by rfl) ?_
        refine Pa.lv (l' := [(0, .ref 69), (1, .int yf), (2, .int (cosM yA yf)), (3, .int (audM yA yf)), (4, .int 0), (5, .int 0)]) (lvS_c rfl (lvS_c rfl (lvS_c rfl (lvS_c rfl (lvS_c rfl (lvS_c rfl (lvS_nil))))))) rfl ?_
        exact l3 h2 h4 h5
      · have h6 : 30 < (cosM yA yf).toInt := h6
        refine Pa.ic (x := (-5)) (pc' := 24) (by rfl) (by rfl) (by decide) ?_
        refine Pa.iret (by rfl) ?_
        exact l4 h2 h4 h6
theorem bm_bd1 {N : Nat} {yA : AW} {yQ : Option Value → AW → Prop} (yf yn yc yw yi : Int32)
    (l1 : (yA.1 69 31).toInt ≤ yi.toInt → Pa N 247 101 [(0, .ref 69), (1, .int yf), (2, .int yn), (3, .int yc), (4, .int yw), (5, .int yw), (6, .int yw), (7, .long (Int64.ofNat 0)), (9, .int 0)] [] yA yQ)
    (l2 : yi.toInt < (yA.1 69 31).toInt → 0 ≤ ((7 * yi) + 0).toInt → ((7 * yi) + 0).toInt < 1050 → (yA.1 90 (((7 * yi) + 0).toInt.toNat)).toInt ≠ yf.toInt → Pa N 247 37 [(0, .ref 69), (1, .int yf), (2, .int yn), (3, .int yc), (4, .int (yw + 0)), (5, .int (yi + 1))] [] yA yQ)
    (l3 : yi.toInt < (yA.1 69 31).toInt → 0 ≤ ((7 * yi) + 0).toInt → ((7 * yi) + 0).toInt < 1050 → (yA.1 90 (((7 * yi) + 0).toInt.toNat)).toInt = yf.toInt → 0 ≤ yi.toInt → yi.toInt < 150 → (yA.1 93 yi.toInt.toNat).toInt < 0 → Pa N 247 37 [(0, .ref 69), (1, .int yf), (2, .int yn), (3, .int yc), (4, .int (yw + 0)), (5, .int (yi + 1))] [] yA yQ)
    (l4 : yi.toInt < (yA.1 69 31).toInt → 0 ≤ ((7 * yi) + 0).toInt → ((7 * yi) + 0).toInt < 1050 → (yA.1 90 (((7 * yi) + 0).toInt.toNat)).toInt = yf.toInt → 0 ≤ yi.toInt → yi.toInt < 150 → 0 ≤ (yA.1 93 yi.toInt.toNat).toInt → (yA.1 92 yi.toInt.toNat).toInt ≤ 0 → Pa N 247 37 [(0, .ref 69), (1, .int yf), (2, .int yn), (3, .int yc), (4, .int (yw + 0)), (5, .int (yi + 1))] [] yA yQ)
    (l5 : yi.toInt < (yA.1 69 31).toInt → 0 ≤ ((7 * yi) + 0).toInt → ((7 * yi) + 0).toInt < 1050 → (yA.1 90 (((7 * yi) + 0).toInt.toNat)).toInt = yf.toInt → 0 ≤ yi.toInt → yi.toInt < 150 → 0 ≤ (yA.1 93 yi.toInt.toNat).toInt → 0 < (yA.1 92 yi.toInt.toNat).toInt → Pa N 247 37 [(0, .ref 69), (1, .int yf), (2, .int yn), (3, .int yc), (4, .int (yw + 1)), (5, .int (yi + 1))] [] yA yQ) :
    Pa (N + 1) 247 37 [(0, .ref 69), (1, .int yf), (2, .int yn), (3, .int yc), (4, .int yw), (5, .int yi)] [] yA yQ := by
  refine Pa.mp1 1 (pc' := 40) (l' := [(0, .ref 69), (1, .int yf), (2, .int yn), (3, .int yc), (4, .int yw), (5, .int yi)]) (st' := [.ref 69, .int yi]) (by rfl) ?_
  refine Pa.gfI (v := yA.1 69 31) (by rfl) (by rfl) (.inl rfl) (by rfl) (by rfl) ?_
  refine Pa.if2 (a := yi.toInt) (b := (yA.1 69 31).toInt) (t := 93) (by rfl) (by rfl) (rfl) (rfl) (fun h1 => ?_) (fun h2 => ?_)
  · have h1 : (yA.1 69 31).toInt ≤ yi.toInt := h1
    refine Pa.mp 4 (pc' := 101) (l' := [(6, .int yw), (5, .int yw), (0, .ref 69), (1, .int yf), (2, .int yn), (3, .int yc), (4, .int yw)]) (st' := []) (by rfl) ?_
    refine Pa.lv (l' := [(0, .ref 69), (1, .int yf), (2, .int yn), (3, .int yc), (4, .int yw), (5, .int yw), (6, .int yw), (7, .long (Int64.ofNat 0)), (9, .int 0)]) (lvS_c rfl (lvS_c rfl (lvS_c rfl (lvS_c rfl (lvS_c rfl (lvS_c rfl (lvS_c rfl (lvS_nil)))))))) rfl ?_
    exact l1 h1
  · have h2 : yi.toInt < (yA.1 69 31).toInt := h2
    refine Pa.mp 3 (pc' := 51) (l' := [(0, .ref 69), (1, .int yf), (2, .int yn), (3, .int yc), (4, .int yw), (5, .int yi)]) (st' := [.int yi, .ref 69, .int yw]) (by rfl) ?_
    refine Pa.ic (x := 0) (pc' := 52) (by rfl) (by rfl) (by decide) ?_
    refine Pa.inv (by rfl) (by rfl) (.inl rfl) (by rfl) ?_
    show Pa N 181 0 [(0, .ref 69), (1, .int yi), (2, .int 0)] [] yA _
    refine Pa.mp 1 (pc' := 1) (l' := [(0, .ref 69), (1, .int yi), (2, .int 0)]) (st' := [.ref 69]) (by rfl) ?_
    refine Pa.gfR (by rfl) (by rfl) (.inl rfl) (by rfl) ?_
    show Pa N 181 4 [(0, .ref 69), (1, .int yi), (2, .int 0)] [.ref 90] yA _
    refine Pa.ic (x := 7) (pc' := 6) (by rfl) (by rfl) (by decide) ?_
    refine Pa.mp 4 (pc' := 10) (l' := [(0, .ref 69), (1, .int yi), (2, .int 0)]) (st' := [.int ((7 * yi) + 0), .ref 90]) (by rfl) ?_
    refine Pa.alds (v := yA.1 90 (((7 * yi) + 0).toInt.toNat)) (by rfl) (by rfl) (by rfl) (fun h3 h4 => ?_)
    have h3 : 0 ≤ ((7 * yi) + 0).toInt := h3
    have h4 : ((7 * yi) + 0).toInt < 1050 := h4
    refine Pa.iret (by rfl) ?_
    show Pa N 247 55 [(0, .ref 69), (1, .int yf), (2, .int yn), (3, .int yc), (4, .int yw), (5, .int yi)] [.int (yA.1 90 (((7 * yi) + 0).toInt.toNat)), .int yw] yA _
    refine Pa.mp 1 (pc' := 56) (l' := [(0, .ref 69), (1, .int yf), (2, .int yn), (3, .int yc), (4, .int yw), (5, .int yi)]) (st' := [.int yf, .int (yA.1 90 (((7 * yi) + 0).toInt.toNat)), .int yw]) (by rfl) ?_
    refine Pa.if2 (a := (yA.1 90 (((7 * yi) + 0).toInt.toNat)).toInt) (b := yf.toInt) (t := 83) (by rfl) (by rfl) (rfl) (rfl) (fun h5 => ?_) (fun h6 => ?_)
    · have h5 : (yA.1 90 (((7 * yi) + 0).toInt.toNat)).toInt ≠ yf.toInt := h5
      refine Pa.ic (x := 0) (pc' := 84) (by rfl) (by rfl) (by decide) ?_
      refine Pa.mp 2 (pc' := 87) (l' := [(4, .int (yw + 0)), (0, .ref 69), (1, .int yf), (2, .int yn), (3, .int yc), (5, .int yi)]) (st' := []) (by rfl) ?_
      refine Pa.iinc (x := yi) (c := 1) (v := (yi + 1)) (l' := [(5, .int (yi + 1)), (4, .int (yw + 0)), (0, .ref 69), (1, .int yf), (2, .int yn), (3, .int yc)]) (by rfl) (by rfl) (by decide) (by rfl) (by rfl) ?_
      refine Pa.mp 1 (pc' := 37) (l' := [(5, .int (yi + 1)), (4, .int (yw + 0)), (0, .ref 69), (1, .int yf), (2, .int yn), (3, .int yc)]) (st' := []) (by rfl) ?_
      refine Pa.lv (l' := [(0, .ref 69), (1, .int yf), (2, .int yn), (3, .int yc), (4, .int (yw + 0)), (5, .int (yi + 1))]) (lvS_c rfl (lvS_c rfl (lvS_c rfl (lvS_c rfl (lvS_c rfl (lvS_c rfl (lvS_nil))))))) rfl ?_
      exact l2 h2 h3 h4 h5
    · have h6 : (yA.1 90 (((7 * yi) + 0).toInt.toNat)).toInt = yf.toInt := h6
      refine Pa.mp 1 (pc' := 60) (l' := [(0, .ref 69), (1, .int yf), (2, .int yn), (3, .int yc), (4, .int yw), (5, .int yi)]) (st' := [.ref 69, .int yw]) (by rfl) ?_
      refine Pa.gfR (by rfl) (by rfl) (.inl rfl) (by rfl) ?_
      show Pa N 247 63 [(0, .ref 69), (1, .int yf), (2, .int yn), (3, .int yc), (4, .int yw), (5, .int yi)] [.ref 93, .int yw] yA _
      refine Pa.mp 1 (pc' := 65) (l' := [(0, .ref 69), (1, .int yf), (2, .int yn), (3, .int yc), (4, .int yw), (5, .int yi)]) (st' := [.int yi, .ref 93, .int yw]) (by rfl) ?_
      refine Pa.alds (v := yA.1 93 yi.toInt.toNat) (by rfl) (by rfl) (by rfl) (fun h7 h8 => ?_)
      have h7 : 0 ≤ yi.toInt := h7
      have h8 : yi.toInt < 150 := h8
      refine Pa.if1 (a := (yA.1 93 yi.toInt.toNat).toInt) (t := 83) (by rfl) (by rfl) (rfl) (fun h9 => ?_) (fun h10 => ?_)
      · have h9 : (yA.1 93 yi.toInt.toNat).toInt < 0 := h9
        refine Pa.ic (x := 0) (pc' := 84) (by rfl) (by rfl) (by decide) ?_
        refine Pa.mp 2 (pc' := 87) (l' := [(4, .int (yw + 0)), (0, .ref 69), (1, .int yf), (2, .int yn), (3, .int yc), (5, .int yi)]) (st' := []) (by rfl) ?_
        refine Pa.iinc (x := yi) (c := 1) (v := (yi + 1)) (l' := [(5, .int (yi + 1)), (4, .int (yw + 0)), (0, .ref 69), (1, .int yf), (2, .int yn), (3, .int yc)]) (by rfl) (by rfl) (by decide) (by rfl) (by rfl) ?_
        refine Pa.mp 1 (pc' := 37) (l' := [(5, .int (yi + 1)), (4, .int (yw + 0)), (0, .ref 69), (1, .int yf), (2, .int yn), (3, .int yc)]) (st' := []) (by rfl) ?_
        refine Pa.lv (l' := [(0, .ref 69), (1, .int yf), (2, .int yn), (3, .int yc), (4, .int (yw + 0)), (5, .int (yi + 1))]) (lvS_c rfl (lvS_c rfl (lvS_c rfl (lvS_c rfl (lvS_c rfl (lvS_c rfl (lvS_nil))))))) rfl ?_
        exact l3 h2 h3 h4 h6 h7 h8 h9
      · have h10 : 0 ≤ (yA.1 93 yi.toInt.toNat).toInt := h10
        refine Pa.mp 1 (pc' := 70) (l' := [(0, .ref 69), (1, .int yf), (2, .int yn), (3, .int yc), (4, .int yw), (5, .int yi)]) (st' := [.ref 69, .int yw]) (by rfl) ?_
        refine Pa.gfR (by rfl) (by rfl) (.inl rfl) (by rfl) ?_
        show Pa N 247 73 [(0, .ref 69), (1, .int yf), (2, .int yn), (3, .int yc), (4, .int yw), (5, .int yi)] [.ref 92, .int yw] yA _
        refine Pa.mp 1 (pc' := 75) (l' := [(0, .ref 69), (1, .int yf), (2, .int yn), (3, .int yc), (4, .int yw), (5, .int yi)]) (st' := [.int yi, .ref 92, .int yw]) (by rfl) ?_
        refine Pa.alds (v := yA.1 92 yi.toInt.toNat) (by rfl) (by rfl) (by rfl) (fun h11 h12 => ?_)
        have h11 : 0 ≤ yi.toInt := h11
        have h12 : yi.toInt < 150 := h12
        refine Pa.if1 (a := (yA.1 92 yi.toInt.toNat).toInt) (t := 83) (by rfl) (by rfl) (rfl) (fun h13 => ?_) (fun h14 => ?_)
        · have h13 : (yA.1 92 yi.toInt.toNat).toInt ≤ 0 := h13
          refine Pa.ic (x := 0) (pc' := 84) (by rfl) (by rfl) (by decide) ?_
          refine Pa.mp 2 (pc' := 87) (l' := [(4, .int (yw + 0)), (0, .ref 69), (1, .int yf), (2, .int yn), (3, .int yc), (5, .int yi)]) (st' := []) (by rfl) ?_
          refine Pa.iinc (x := yi) (c := 1) (v := (yi + 1)) (l' := [(5, .int (yi + 1)), (4, .int (yw + 0)), (0, .ref 69), (1, .int yf), (2, .int yn), (3, .int yc)]) (by rfl) (by rfl) (by decide) (by rfl) (by rfl) ?_
          refine Pa.mp 1 (pc' := 37) (l' := [(5, .int (yi + 1)), (4, .int (yw + 0)), (0, .ref 69), (1, .int yf), (2, .int yn), (3, .int yc)]) (st' := []) (by rfl) ?_
          refine Pa.lv (l' := [(0, .ref 69), (1, .int yf), (2, .int yn), (3, .int yc), (4, .int (yw + 0)), (5, .int (yi + 1))]) (lvS_c rfl (lvS_c rfl (lvS_c rfl (lvS_c rfl (lvS_c rfl (lvS_c rfl (lvS_nil))))))) rfl ?_
          exact l4 h2 h3 h4 h6 h7 h8 h10 h13
        · have h14 : 0 < (yA.1 92 yi.toInt.toNat).toInt := h14
          refine Pa.ic (x := 1) (pc' := 80) (by rfl) (by rfl) (by decide) ?_
          refine Pa.mp 3 (pc' := 87) (l' := [(4, .int (yw + 1)), (0, .ref 69), (1, .int yf), (2, .int yn), (3, .int yc), (5, .int yi)]) (st' := []) (by rfl) ?_
          refine Pa.iinc (x := yi) (c := 1) (v := (yi + 1)) (l' := [(5, .int (yi + 1)), (4, .int (yw + 1)), (0, .ref 69), (1, .int yf), (2, .int yn), (3, .int yc)]) (by rfl) (by rfl) (by decide) (by rfl) (by rfl) ?_
          refine Pa.mp 1 (pc' := 37) (l' := [(5, .int (yi + 1)), (4, .int (yw + 1)), (0, .ref 69), (1, .int yf), (2, .int yn), (3, .int yc)]) (st' := []) (by rfl) ?_
          refine Pa.lv (l' := [(0, .ref 69), (1, .int yf), (2, .int yn), (3, .int yc), (4, .int (yw + 1)), (5, .int (yi + 1))]) (lvS_c rfl (lvS_c rfl (lvS_c rfl (lvS_c rfl (lvS_c rfl (lvS_c rfl (lvS_nil))))))) rfl ?_
          exact l5 h2 h3 h4 h6 h7 h8 h10 h14
theorem bm_bd2 {N : Nat} {yA : AW} {yQ : Option Value → AW → Prop} (yf yn yc yw yr ym yx : Int32) (yu : Int64)
    (l1 : ((yn - yc) + yw).toInt < ym.toInt → yQ (some (.int yr)) yA)
    (l2 : ym.toInt ≤ ((yn - yc) + yw).toInt → Pa N 247 118 [(0, .ref 69), (1, .int yf), (2, .int yn), (3, .int yc), (4, .int yw), (5, .int yr), (6, .int ym), (7, .long (Int64.ofNat 0)), (9, .int 0)] [] yA yQ) :
    Pa (N + 1) 247 101 [(0, .ref 69), (1, .int yf), (2, .int yn), (3, .int yc), (4, .int yw), (5, .int yr), (6, .int ym), (7, .long yu), (9, .int yx)] [] yA yQ := by
  refine Pa.mp1 5 (pc' := 109) (l' := [(0, .ref 69), (1, .int yf), (2, .int yn), (3, .int yc), (4, .int yw), (5, .int yr), (6, .int ym), (7, .long yu), (9, .int yx)]) (st' := [.int ((yn - yc) + yw), .int ym]) (by rfl) ?_
  refine Pa.if2 (a := ym.toInt) (b := ((yn - yc) + yw).toInt) (t := 189) (by rfl) (by rfl) (rfl) (rfl) (fun h1 => ?_) (fun h2 => ?_)
  · have h1 : ((yn - yc) + yw).toInt < ym.toInt := h1
    refine Pa.mp 1 (pc' := 191) (l' := [(0, .ref 69), (1, .int yf), (2, .int yn), (3, .int yc), (4, .int yw), (5, .int yr), (6, .int ym), (7, .long yu), (9, .int yx)]) (st' := [.int yr]) (by rfl) ?_
    refine Pa.iret (by rfl) ?_
    exact l1 h1
  · have h2 : ym.toInt ≤ ((yn - yc) + yw).toInt := h2
    refine Pa.mp 2 (pc' := 115) (l' := [(7, .long (Int64.ofNat 0)), (0, .ref 69), (1, .int yf), (2, .int yn), (3, .int yc), (4, .int yw), (5, .int yr), (6, .int ym), (9, .int yx)]) (st' := []) (by rfl) ?_
    refine Pa.ic (x := 0) (pc' := 116) (by rfl) (by rfl) (by decide) ?_
    refine Pa.mp 1 (pc' := 118) (l' := [(9, .int 0), (7, .long (Int64.ofNat 0)), (0, .ref 69), (1, .int yf), (2, .int yn), (3, .int yc), (4, .int yw), (5, .int yr), (6, .int ym)]) (st' := []) (by rfl) ?_
    refine Pa.lv (l' := [(0, .ref 69), (1, .int yf), (2, .int yn), (3, .int yc), (4, .int yw), (5, .int yr), (6, .int ym), (7, .long (Int64.ofNat 0)), (9, .int 0)]) (lvS_c rfl (lvS_c rfl (lvS_c rfl (lvS_c rfl (lvS_c rfl (lvS_c rfl (lvS_c rfl (lvS_c rfl (lvS_c rfl (lvS_nil)))))))))) rfl ?_
    exact l2 h2
theorem bm_bd3 {N : Nat} {yA : AW} {yQ : Option Value → AW → Prop} (yf yn yc yw yr ym yx : Int32) (yu : Int64) (hw : yw.toInt ≤ 150) (yhc : yc.toInt ≤ 150) (yhi0 : 0 ≤ yx.toInt) (hci : (yc - yx).toInt = yc.toInt - yx.toInt)
    (l1 : yw.toInt < yx.toInt → (lg_cmp (yu * 100) (5 * (chF yn yc))).toInt < 0 → Pa N 247 101 [(0, .ref 69), (1, .int yf), (2, .int yn), (3, .int yc), (4, .int yw), (5, .int yr), (6, .int (ym + 1)), (7, .long yu), (9, .int yx)] [] yA yQ)
    (l2 : yw.toInt < yx.toInt → 0 ≤ (lg_cmp (yu * 100) (5 * (chF yn yc))).toInt → Pa N 247 101 [(0, .ref 69), (1, .int yf), (2, .int yn), (3, .int yc), (4, .int yw), (5, .int ym), (6, .int (ym + 1)), (7, .long yu), (9, .int yx)] [] yA yQ)
    (l3 : yx.toInt ≤ yw.toInt → Pa N 247 118 [(0, .ref 69), (1, .int yf), (2, .int yn), (3, .int yc), (4, .int yw), (5, .int yr), (6, .int ym), (7, .long (yu + ((chF ym yx) * (chF (yn - ym) (yc - yx))))), (9, .int (yx + 1))] [] yA yQ) :
    Pa (N + 1) 247 118 [(0, .ref 69), (1, .int yf), (2, .int yn), (3, .int yc), (4, .int yw), (5, .int yr), (6, .int ym), (7, .long yu), (9, .int yx)] [] yA yQ := by
  refine Pa.mp1 1 (pc' := 122) (l' := [(0, .ref 69), (1, .int yf), (2, .int yn), (3, .int yc), (4, .int yw), (5, .int yr), (6, .int ym), (7, .long yu), (9, .int yx)]) (st' := [.int yw, .int yx]) (by rfl) ?_
  refine Pa.if2 (a := yx.toInt) (b := yw.toInt) (t := 155) (by rfl) (by rfl) (rfl) (rfl) (fun h1 => ?_) (fun h2 => ?_)
  · have h1 : yw.toInt < yx.toInt := h1
    refine Pa.mp 1 (pc' := 157) (l' := [(0, .ref 69), (1, .int yf), (2, .int yn), (3, .int yc), (4, .int yw), (5, .int yr), (6, .int ym), (7, .long yu), (9, .int yx)]) (st' := [.long yu]) (by rfl) ?_
    refine Pa.jcl (x := 100) (pc' := 160) (by rfl) (fun _ _ _ => by rfl) (by decide) ?_
    refine Pa.mp 1 (pc' := 161) (l' := [(0, .ref 69), (1, .int yf), (2, .int yn), (3, .int yc), (4, .int yw), (5, .int yr), (6, .int ym), (7, .long yu), (9, .int yx)]) (st' := [.long (yu * 100)]) (by rfl) ?_
    refine Pa.jcl (x := 5) (pc' := 164) (by rfl) (fun _ _ _ => by rfl) (by decide) ?_
    refine Pa.mp 2 (pc' := 166) (l' := [(0, .ref 69), (1, .int yf), (2, .int yn), (3, .int yc), (4, .int yw), (5, .int yr), (6, .int ym), (7, .long yu), (9, .int yx)]) (st' := [.int yc, .int yn, .long 5, .long (yu * 100)]) (by rfl) ?_
    refine Pa.ist (by rfl) (by rfl) (.inl rfl) (by rfl) (by rfl) ?_
    refine Pa.mono (c_chm N yA yn yc (by omega)) (fun yu A1 hu => ?_)
    obtain ⟨rfl, hu⟩ := hu
    rw [hu]
    show Pa N 247 169 [(0, .ref 69), (1, .int yf), (2, .int yn), (3, .int yc), (4, .int yw), (5, .int yr), (6, .int ym), (7, .long yu), (9, .int yx)] [.long (chF yn yc), .long 5, .long (yu * 100)] yA _
    refine Pa.mp 2 (pc' := 171) (l' := [(0, .ref 69), (1, .int yf), (2, .int yn), (3, .int yc), (4, .int yw), (5, .int yr), (6, .int ym), (7, .long yu), (9, .int yx)]) (st' := [.int (lg_cmp (yu * 100) (5 * (chF yn yc)))]) (by rfl) ?_
    refine Pa.if1 (a := (lg_cmp (yu * 100) (5 * (chF yn yc))).toInt) (t := 179) (by rfl) (by rfl) (rfl) (fun h3 => ?_) (fun h4 => ?_)
    · have h3 : (lg_cmp (yu * 100) (5 * (chF yn yc))).toInt < 0 := h3
      refine Pa.mp 2 (pc' := 183) (l' := [(5, .int yr), (0, .ref 69), (1, .int yf), (2, .int yn), (3, .int yc), (4, .int yw), (6, .int ym), (7, .long yu), (9, .int yx)]) (st' := []) (by rfl) ?_
      refine Pa.iinc (x := ym) (c := 1) (v := (ym + 1)) (l' := [(6, .int (ym + 1)), (5, .int yr), (0, .ref 69), (1, .int yf), (2, .int yn), (3, .int yc), (4, .int yw), (7, .long yu), (9, .int yx)]) (by rfl) (by rfl) (by decide) (by rfl) (by rfl) ?_
      refine Pa.mp 1 (pc' := 101) (l' := [(6, .int (ym + 1)), (5, .int yr), (0, .ref 69), (1, .int yf), (2, .int yn), (3, .int yc), (4, .int yw), (7, .long yu), (9, .int yx)]) (st' := []) (by rfl) ?_
      refine Pa.lv (l' := [(0, .ref 69), (1, .int yf), (2, .int yn), (3, .int yc), (4, .int yw), (5, .int yr), (6, .int (ym + 1)), (7, .long yu), (9, .int yx)]) (lvS_c rfl (lvS_c rfl (lvS_c rfl (lvS_c rfl (lvS_c rfl (lvS_c rfl (lvS_c rfl (lvS_c rfl (lvS_c rfl (lvS_nil)))))))))) rfl ?_
      exact l1 h1 h3
    · have h4 : 0 ≤ (lg_cmp (yu * 100) (5 * (chF yn yc))).toInt := h4
      refine Pa.mp 3 (pc' := 183) (l' := [(5, .int ym), (0, .ref 69), (1, .int yf), (2, .int yn), (3, .int yc), (4, .int yw), (6, .int ym), (7, .long yu), (9, .int yx)]) (st' := []) (by rfl) ?_
      refine Pa.iinc (x := ym) (c := 1) (v := (ym + 1)) (l' := [(6, .int (ym + 1)), (5, .int ym), (0, .ref 69), (1, .int yf), (2, .int yn), (3, .int yc), (4, .int yw), (7, .long yu), (9, .int yx)]) (by rfl) (by rfl) (by decide) (by rfl) (by rfl) ?_
      refine Pa.mp 1 (pc' := 101) (l' := [(6, .int (ym + 1)), (5, .int ym), (0, .ref 69), (1, .int yf), (2, .int yn), (3, .int yc), (4, .int yw), (7, .long yu), (9, .int yx)]) (st' := []) (by rfl) ?_
      refine Pa.lv (l' := [(0, .ref 69), (1, .int yf), (2, .int yn), (3, .int yc), (4, .int yw), (5, .int ym), (6, .int (ym + 1)), (7, .long yu), (9, .int yx)]) (lvS_c rfl (lvS_c rfl (lvS_c rfl (lvS_c rfl (lvS_c rfl (lvS_c rfl (lvS_c rfl (lvS_c rfl (lvS_c rfl (lvS_nil)))))))))) rfl ?_
      exact l2 h1 h4
  · have h2 : yx.toInt ≤ yw.toInt := h2
    refine Pa.mp 3 (pc' := 131) (l' := [(0, .ref 69), (1, .int yf), (2, .int yn), (3, .int yc), (4, .int yw), (5, .int yr), (6, .int ym), (7, .long yu), (9, .int yx)]) (st' := [.int yx, .int ym, .long yu]) (by rfl) ?_
    refine Pa.ist (by rfl) (by rfl) (.inl rfl) (by rfl) (by rfl) ?_
    refine Pa.mono (c_chm N yA ym yx (by omega)) (fun yu A1 hu => ?_)
    obtain ⟨rfl, hu⟩ := hu
    rw [hu]
    show Pa N 247 134 [(0, .ref 69), (1, .int yf), (2, .int yn), (3, .int yc), (4, .int yw), (5, .int yr), (6, .int ym), (7, .long yu), (9, .int yx)] [.long (chF ym yx), .long yu] yA _
    refine Pa.mp 6 (pc' := 142) (l' := [(0, .ref 69), (1, .int yf), (2, .int yn), (3, .int yc), (4, .int yw), (5, .int yr), (6, .int ym), (7, .long yu), (9, .int yx)]) (st' := [.int (yc - yx), .int (yn - ym), .long (chF ym yx), .long yu]) (by rfl) ?_
    refine Pa.ist (by rfl) (by rfl) (.inl rfl) (by rfl) (by rfl) ?_
    refine Pa.mono (c_chm N yA (yn - ym) (yc - yx) (by omega)) (fun yu A1 hu => ?_)
    obtain ⟨rfl, hu⟩ := hu
    rw [hu]
    show Pa N 247 145 [(0, .ref 69), (1, .int yf), (2, .int yn), (3, .int yc), (4, .int yw), (5, .int yr), (6, .int ym), (7, .long yu), (9, .int yx)] [.long (chF (yn - ym) (yc - yx)), .long (chF ym yx), .long yu] yA _
    refine Pa.mp 3 (pc' := 149) (l' := [(7, .long (yu + ((chF ym yx) * (chF (yn - ym) (yc - yx))))), (0, .ref 69), (1, .int yf), (2, .int yn), (3, .int yc), (4, .int yw), (5, .int yr), (6, .int ym), (9, .int yx)]) (st' := []) (by rfl) ?_
    refine Pa.iinc (x := yx) (c := 1) (v := (yx + 1)) (l' := [(9, .int (yx + 1)), (7, .long (yu + ((chF ym yx) * (chF (yn - ym) (yc - yx))))), (0, .ref 69), (1, .int yf), (2, .int yn), (3, .int yc), (4, .int yw), (5, .int yr), (6, .int ym)]) (by rfl) (by rfl) (by decide) (by rfl) (by rfl) ?_
    refine Pa.mp 1 (pc' := 118) (l' := [(9, .int (yx + 1)), (7, .long (yu + ((chF ym yx) * (chF (yn - ym) (yc - yx))))), (0, .ref 69), (1, .int yf), (2, .int yn), (3, .int yc), (4, .int yw), (5, .int yr), (6, .int ym)]) (st' := []) (by rfl) ?_
    refine Pa.lv (l' := [(0, .ref 69), (1, .int yf), (2, .int yn), (3, .int yc), (4, .int yw), (5, .int yr), (6, .int ym), (7, .long (yu + ((chF ym yx) * (chF (yn - ym) (yc - yx))))), (9, .int (yx + 1))]) (lvS_c rfl (lvS_c rfl (lvS_c rfl (lvS_c rfl (lvS_c rfl (lvS_c rfl (lvS_c rfl (lvS_c rfl (lvS_c rfl (lvS_nil)))))))))) rfl ?_
    exact l3 h2
theorem c_bd3 (yA : AW) (yf : Int32) (yhT : cT yA ≤ 150) : ∀ N, (∀ yk yu yx, yk ≤ nF yA yf (cT yA) - nA yA yf (cT yA) + 1 → Pa N 247 101 [(0, .ref 69), (1, .int yf), (2, .int (Int32.ofNat (nF yA yf (cT yA)))), (3, .int (Int32.ofNat (nA yA yf (cT yA)))), (4, .int (Int32.ofNat (nL yA yf (cT yA)))), (5, .int (Int32.ofNat (upS (bdP yA yf) (nL yA yf (cT yA)) yk))), (6, .int (Int32.ofNat (nL yA yf (cT yA) + yk))), (7, .long yu), (9, .int yx)] [] yA (fun yu A1 => yu = some (.int (Int32.ofNat (bdR yA yf))) ∧ A1 = yA)) ∧ (∀ yk yj, yk < nF yA yf (cT yA) - nA yA yf (cT yA) + 1 → yj ≤ nL yA yf (cT yA) + 1 → Pa N 247 118 [(0, .ref 69), (1, .int yf), (2, .int (Int32.ofNat (nF yA yf (cT yA)))), (3, .int (Int32.ofNat (nA yA yf (cT yA)))), (4, .int (Int32.ofNat (nL yA yf (cT yA)))), (5, .int (Int32.ofNat (upS (bdP yA yf) (nL yA yf (cT yA)) yk))), (6, .int (Int32.ofNat (nL yA yf (cT yA) + yk))), (7, .long (waysJ (Int32.ofNat (nF yA yf (cT yA))) (Int32.ofNat (nA yA yf (cT yA))) (Int32.ofNat (nL yA yf (cT yA) + yk)) yj)), (9, .int (Int32.ofNat yj))] [] yA (fun yu A1 => yu = some (.int (Int32.ofNat (bdR yA yf))) ∧ A1 = yA)) := by
  obtain ⟨g1, g2, yg3⟩ := nLA (yA := yA) (yf := yf) (yj := cT yA)
  have el : (Int32.ofNat (nL yA yf (cT yA))).toInt = (nL yA yf (cT yA) : Int) := i32_nat (by omega)
  have ea : (Int32.ofNat (nA yA yf (cT yA))).toInt = (nA yA yf (cT yA) : Int) := i32_nat (by omega)
  have eh := hi_on g2 (show nF yA yf (cT yA) ≤ 150 by omega) (show nL yA yf (cT yA) ≤ 150 by omega)
  have eh2 : (Int32.ofNat (nF yA yf (cT yA) - nA yA yf (cT yA) + nL yA yf (cT yA))).toInt = ((nF yA yf (cT yA) - nA yA yf (cT yA) + nL yA yf (cT yA) : Nat) : Int) := i32_nat (by omega)
  intro N
  induction N with
  | zero => exact ⟨fun _ _ _ _ => Pa.zero, fun _ _ _ _ => Pa.zero⟩
  | succ N yih =>
    obtain ⟨ih1, ih2⟩ := yih
    refine ⟨fun yk yu yx hk => ?_, fun yk yj hk hj => ?_⟩
    · have ek : (Int32.ofNat (nL yA yf (cT yA) + yk)).toInt = ((nL yA yf (cT yA) + yk : Nat) : Int) := i32_nat (by omega)
      refine bm_bd2 yf _ _ _ _ _ yx yu ?_ ?_ <;> rw [eh, eh2, ek]
      · intro h1
        have ye : yk = nF yA yf (cT yA) - nA yA yf (cT yA) + 1 := by omega
        rw [ye]
        exact ⟨rfl, rfl⟩
      · intro h1
        exact ih2 yk 0 (by omega) (Nat.zero_le _)
    · have ej : (Int32.ofNat yj).toInt = (yj : Int) := i32_nat (by omega)
      refine bm_bd3 yf _ _ _ _ _ _ _ (by omega) (by omega) (by omega) (i_subx rfl (by omega) (by omega)) ?_ ?_ ?_ <;> rw [ej, el]
      · intro h1 h2
        have ye : yj = nL yA yf (cT yA) + 1 := by omega
        rw [ye, Int64.mul_comm 5] at h2
        have ye3 : lkF (Int32.ofNat (nF yA yf (cT yA))) (Int32.ofNat (nA yA yf (cT yA))) (Int32.ofNat (nL yA yf (cT yA))) (Int32.ofNat (nL yA yf (cT yA) + yk)) = 0 := by
          unfold lkF
          rw [el, Int.toNat_natCast]
          exact if_pos h2
        have hP : ¬ bdP yA yf (nL yA yf (cT yA) + yk) = true := fun yr => of_decide_eq_true yr (by rw [ye3]; decide)
        have yh := ih1 (yk + 1) (waysJ (Int32.ofNat (nF yA yf (cT yA))) (Int32.ofNat (nA yA yf (cT yA))) (Int32.ofNat (nL yA yf (cT yA) + yk)) yj) (Int32.ofNat yj) (by omega)
        rw [upS_f hP, ← Nat.add_assoc, on_succ] at yh
        exact yh
      · intro h1 h2
        have ye : yj = nL yA yf (cT yA) + 1 := by omega
        rw [ye, Int64.mul_comm 5] at h2
        have ye3 : lkF (Int32.ofNat (nF yA yf (cT yA))) (Int32.ofNat (nA yA yf (cT yA))) (Int32.ofNat (nL yA yf (cT yA))) (Int32.ofNat (nL yA yf (cT yA) + yk)) = 1 := by
          unfold lkF
          rw [el, Int.toNat_natCast]
          exact if_neg (by omega)
        have hP : bdP yA yf (nL yA yf (cT yA) + yk) = true := decide_eq_true (by rw [ye3]; decide)
        have yh := ih1 (yk + 1) (waysJ (Int32.ofNat (nF yA yf (cT yA))) (Int32.ofNat (nA yA yf (cT yA))) (Int32.ofNat (nL yA yf (cT yA) + yk)) yj) (Int32.ofNat yj) (by omega)
        rw [upS_t hP, ← Nat.add_assoc, on_succ] at yh
        exact yh
      · intro h1
        have yh := ih2 yk (yj + 1) hk (by omega)
        rw [on_succ] at yh
        exact yh
theorem bx_bound {N : Nat} {yA : AW} {yQ : Option Value → AW → Prop} (yf : Int32) (hX : RZc yA) (yf5 : yA.1 30 4 = yA.1 69 31) (yhT : (yA.1 69 31).toInt ≤ 150) (hA : okA yA)
    (l1 : yf.toInt < 0 → yQ (some (.int (-1))) yA)
    (l2 : 0 ≤ yf.toInt → (yA.1 5 6).toInt ≤ yf.toInt → yQ (some (.int (-1))) yA)
    (l3 : 0 ≤ yf.toInt → yf.toInt < (yA.1 5 6).toInt → yQ (some (.int (bdV yA yf))) yA) :
    Pa N 139 0 [(0, .ref 0), (1, .int yf)] [] yA yQ := by
  refine Pa.mp 1 (pc' := 1) (l' := [(0, .ref 0), (1, .int yf)]) (st' := [.ref 0]) (by rfl) ?_
  refine Pa.gfR (by rfl) (by rfl) (.inl rfl) (by rfl) ?_
  show Pa N 139 4 [(0, .ref 0), (1, .int yf)] [.ref 5] yA _
  refine Pa.mp 1 (pc' := 5) (l' := [(0, .ref 0), (1, .int yf)]) (st' := [.int yf, .ref 5]) (by rfl) ?_
  refine Pa.inv (by rfl) (by rfl) (.inr rfl) (by rfl) ?_
  show Pa N 41 0 [(0, .ref 5), (1, .int yf)] [] yA _
  refine Pa.mp 1 (pc' := 1) (l' := [(0, .ref 5), (1, .int yf)]) (st' := [.int yf]) (by rfl) ?_
  refine Pa.if1 (a := yf.toInt) (t := 16) (by rfl) (by rfl) (rfl) (fun h1 => ?_) (fun h2 => ?_)
  · have h1 : yf.toInt < 0 := h1
    refine Pa.ic (x := 0) (pc' := 17) (by rfl) (by rfl) (by decide) ?_
    refine Pa.iret (by rfl) ?_
    show Pa N 139 8 [(0, .ref 0), (1, .int yf)] [.int 0] yA _
    refine Pa.if1k false (by rfl) (by rfl) (by decide) ?_
    show Pa N 139 11 [(0, .ref 0), (1, .int yf)] [] yA _
    refine Pa.ic (x := (-1)) (pc' := 12) (by rfl) (by rfl) (by decide) ?_
    refine Pa.iret (by rfl) ?_
    exact l1 h1
  · have h2 : 0 ≤ yf.toInt := h2
    refine Pa.mp 2 (pc' := 6) (l' := [(0, .ref 5), (1, .int yf)]) (st' := [.ref 5, .int yf]) (by rfl) ?_
    refine Pa.gfI (v := yA.1 5 6) (by rfl) (by rfl) (.inl rfl) (by rfl) (by rfl) ?_
    refine Pa.if2 (a := yf.toInt) (b := (yA.1 5 6).toInt) (t := 16) (by rfl) (by rfl) (rfl) (rfl) (fun h3 => ?_) (fun h4 => ?_)
    · have h3 : (yA.1 5 6).toInt ≤ yf.toInt := h3
      refine Pa.ic (x := 0) (pc' := 17) (by rfl) (by rfl) (by decide) ?_
      refine Pa.iret (by rfl) ?_
      show Pa N 139 8 [(0, .ref 0), (1, .int yf)] [.int 0] yA _
      refine Pa.if1k false (by rfl) (by rfl) (by decide) ?_
      show Pa N 139 11 [(0, .ref 0), (1, .int yf)] [] yA _
      refine Pa.ic (x := (-1)) (pc' := 12) (by rfl) (by rfl) (by decide) ?_
      refine Pa.iret (by rfl) ?_
      exact l2 h2 h3
    · have h4 : yf.toInt < (yA.1 5 6).toInt := h4
      refine Pa.ic (x := 1) (pc' := 13) (by rfl) (by rfl) (by decide) ?_
      refine Pa.mp 1 (pc' := 17) (l' := [(0, .ref 5), (1, .int yf)]) (st' := [.int 1]) (by rfl) ?_
      refine Pa.iret (by rfl) ?_
      show Pa N 139 8 [(0, .ref 0), (1, .int yf)] [.int 1] yA _
      refine Pa.if1k true (by rfl) (by rfl) (by decide) ?_
      show Pa N 139 13 [(0, .ref 0), (1, .int yf)] [] yA _
      refine Pa.mp 1 (pc' := 14) (l' := [(0, .ref 0), (1, .int yf)]) (st' := [.ref 0]) (by rfl) ?_
      refine Pa.gfR (by rfl) (by rfl) (.inl rfl) (by rfl) ?_
      show Pa N 139 17 [(0, .ref 0), (1, .int yf)] [.ref 30] yA _
      refine Pa.mp 1 (pc' := 18) (l' := [(0, .ref 0), (1, .int yf)]) (st' := [.int yf, .ref 30]) (by rfl) ?_
      refine Pa.inv (by rfl) (by rfl) (.inr rfl) (by rfl) ?_
      refine Pa.mono (c_bdX N yA yf hX yf5 hA (by assumption)) (fun yu A1 hu => ?_)
      obtain ⟨rfl, hu⟩ := hu
      rw [hu]
      show Pa N 139 21 [(0, .ref 0), (1, .int yf)] [.int (bdV yA yf)] yA _
      refine Pa.iret (by rfl) ?_
      exact l3 h2 h4
def fOkB (yF yf : Int32) : Prop := 0 ≤ yf.toInt ∧ yf.toInt < yF.toInt
def dBound (yf : Int32) (yA : AW) (yu : Option Value) (A1 : AW) : Prop := A1 = yA ∧ ((¬ fOkB (yA.1 5 6) yf ∧ yu = some (.int (-1))) ∨ (fOkB (yA.1 5 6) yf ∧ yu = some (.int (bdV yA yf))))
theorem d_bound (N : Nat) (yA : AW) (yf : Int32) (hX : RZc yA) (yf5 : yA.1 30 4 = yA.1 69 31) (hA : okA yA) : Pa N 139 0 [(0, .ref 0), (1, .int yf)] [] yA (dBound yf yA) := by
  refine bx_bound yf hX yf5 (hA.fld (i := 69) (k := 31) (lo := 0) (hi := 150) (by decide +kernel)).2 hA ?_ ?_ ?_
  · intro h1
    exact ⟨rfl, .inl ⟨by unfold fOkB; omega, rfl⟩⟩
  · intro h1 h2
    exact ⟨rfl, .inl ⟨by unfold fOkB; omega, rfl⟩⟩
  · intro h1 h2
    exact ⟨rfl, .inr ⟨⟨h1, h2⟩, rfl⟩⟩
def eBound (yf : Int32) (yA : AW) (yu : Option Value) (A1 : AW) : Prop := A1 = yA ∧ ((¬ fOkB (yA.1 69 11) yf ∧ yu = some (.int (-1))) ∨ (fOkB (yA.1 69 11) yf ∧ yu = some (.int (bdV yA yf))))
theorem e_bound (N : Nat) (yA : AW) (yf : Int32) (yhT : (yA.1 69 31).toInt ≤ 150) : Pa N 247 0 [(0, .ref 69), (1, .int yf)] [] yA (eBound yf yA) := by
  have hT0 : cT yA ≤ 150 := by unfold cT; omega
  obtain ⟨g1, g2, yg3⟩ := nLA (yA := yA) (yf := yf) (yj := cT yA)
  have en : (cosM yA yf).toInt = (nF yA yf (cT yA) : Int) := i32_nat (by have := yg3; unfold nF at this; omega)
  refine bm_bd0 yf yhT ?_ ?_ ?_ ?_
  · intro h1
    exact ⟨rfl, .inl ⟨by unfold fOkB; omega, rfl⟩⟩
  · intro h1 h2
    exact ⟨rfl, .inl ⟨by unfold fOkB; omega, rfl⟩⟩
  · intro h1 h2 h3
    rw [en] at h3
    have ec : audM yA yf = Int32.ofNat (nA yA yf (cT yA)) := aud_cnt h1 (cT yA)
    rw [ec]
    have ykey : ∀ N yj, yj ≤ cT yA → Pa N 247 37 [(0, .ref 69), (1, .int yf), (2, .int (Int32.ofNat (nF yA yf (cT yA)))), (3, .int (Int32.ofNat (nA yA yf (cT yA)))), (4, .int (Int32.ofNat (nL yA yf yj))), (5, .int (Int32.ofNat yj))] [] yA (eBound yf yA) := by
      intro N
      induction N with
      | zero => intro yj _; exact Pa.zero
      | succ N yih =>
        intro yj hj
        have ye1 : (Int32.ofNat yj).toInt = (yj : Int) := i32_nat (by omega)
        by_cases hjT : yj = cT yA
        · subst hjT
          refine bm_bd1 yf _ _ _ _ ?_ ?_ ?_ ?_ ?_ <;> rw [ye1]
          · intro h4
            refine Pa.mono ((c_bd3 yA yf hT0 N).1 0 (Int64.ofNat 0) 0 (Nat.zero_le _)) (fun yu A1 hu => ?_)
            refine ⟨hu.2, .inr ⟨⟨h1, h2⟩, ?_⟩⟩
            rw [hu.1]
            unfold bdV
            rw [if_neg (by omega)]
          · intro h4; unfold cT at h4; omega
          · intro h4; unfold cT at h4; omega
          · intro h4; unfold cT at h4; omega
          · intro h4; unfold cT at h4; omega
        · have hlt : yj < cT yA := by omega
          have yi0 : ((7 * Int32.ofNat yj) + 0).toInt.toNat = 7 * yj := (i7n (T := Int32.ofNat yj) (yi := 0) (yt := yj) (yq := 0) (by omega) (by omega) (by omega) (by decide) (by decide) (by decide)).trans (Nat.add_zero _)
          refine bm_bd1 yf _ _ _ _ ?_ ?_ ?_ ?_ ?_ <;> rw [ye1] <;> (try rw [yi0]) <;> (try rw [Int.toNat_natCast])
          · intro h4; unfold cT at hlt; omega
          · intro h4 h5 h6 h7
            have no : ¬ drL (yA.1 90) (yA.1 93) (yA.1 92) yf yj = true := fun yq => h7 (by rw [show yA.1 90 (7 * yj) = yf from of_decide_eq_true (drA_F (drL_A yq))])
            have yh := yih (yj + 1) hlt
            unfold nL at yh ⊢
            rw [dc_0 no, on_succ] at yh
            rw [Int32.add_zero]
            exact yh
          · intro h4 h5 h6 h7 h8 h9 h10
            have no : ¬ drL (yA.1 90) (yA.1 93) (yA.1 92) yf yj = true := fun yq => by
              have yq2 := drL_A yq
              unfold drA at yq2
              rw [Bool.and_eq_true, decide_eq_true_iff, decide_eq_true_iff] at yq2
              omega
            have yh := yih (yj + 1) hlt
            unfold nL at yh ⊢
            rw [dc_0 no, on_succ] at yh
            rw [Int32.add_zero]
            exact yh
          · intro h4 h5 h6 h7 h8 h9 h10 h11
            have no : ¬ drL (yA.1 90) (yA.1 93) (yA.1 92) yf yj = true := fun yq => by
              unfold drL at yq
              rw [Bool.and_eq_true, decide_eq_true_iff] at yq
              omega
            have yh := yih (yj + 1) hlt
            unfold nL at yh ⊢
            rw [dc_0 no, on_succ] at yh
            rw [Int32.add_zero]
            exact yh
          · intro h4 h5 h6 h7 h8 h9 h10 h11
            have y2 : drA (yA.1 90) (yA.1 93) yf yj = true := by unfold drA; rw [decide_eq_true (i32_ext h7), decide_eq_true h10]; rfl
            have yyes : drL (yA.1 90) (yA.1 93) (yA.1 92) yf yj = true := by unfold drL; rw [y2, decide_eq_true h11]; rfl
            have yh := yih (yj + 1) hlt
            unfold nL at yh ⊢
            rw [dc_1 yyes, on_succ, on_succ] at yh
            exact yh
    exact ykey N 0 (Nat.zero_le _)
  · intro h1 h2 h3
    rw [en] at h3
    refine ⟨rfl, .inr ⟨⟨h1, h2⟩, ?_⟩⟩
    unfold bdV
    rw [if_pos (by omega)]
theorem h_bound {yp : zPr} (hp : yp.1 = 139 ∧ yp.2.1 = 247 ∧ yp.2.2.1 = 1) (yhc : c_rm yp = true) (yq1 : (ri_wr zZ Fc Arc (c_get1 yp.1 0 yp.2.2.1).2.2.2 && kRc (c_get1 yp.1 0 yp.2.2.1).2.2.2) = true) (yq2 : (ri_wr zZ Fc Arc (c_get1 yp.2.1 69 yp.2.2.1).2.2.2 && kRc (c_get1 yp.2.1 69 yp.2.2.1).2.2.2) = true) : PairOK (RR Fc Arc RZc) yp := by
  obtain ⟨yp1, yp2, yp3⟩ := hp
  refine pairF (D := on1 dBound) (E := on1 eBound) (by decide +kernel) (by decide +kernel) yhc RZc_keep yq1 yq2 (fun N yA yas hA hF _ hX hl => ?_) (fun N yA yas hA _ _ _ hl => ?_) (fun yA A1 A2 yas yx yy _ _ _ hF _ _ _ _ _ hl ys1 ys2 _ => ?_)
  · rw [yp3] at hl
    obtain ⟨ya, rfl⟩ := as1 hl
    rw [yp1]
    exact d_bound N yA ya hX (hF ((30, 4), (69, 31)) (by simp [Fc])) hA
  · rw [yp3] at hl
    obtain ⟨ya, rfl⟩ := as1 hl
    rw [yp2]
    exact e_bound N yA ya (hA.fld (i := 69) (k := 31) (lo := 0) (hi := 150) (by decide +kernel)).2
  · rw [yp3] at hl
    obtain ⟨ya, rfl⟩ := as1 hl
    have yf6 : yA.1 5 6 = yA.1 69 11 := hF ((5, 6), (69, 11)) (by simp [Fc])
    obtain ⟨rfl, ys1⟩ := ys1
    obtain ⟨rfl, ys2⟩ := ys2
    rw [yf6] at ys1
    rcases ys1 with ⟨ya1, a2⟩ | ⟨ya1, a2⟩
    · rcases ys2 with ⟨b1, b2⟩ | ⟨b1, b2⟩
      · rw [some_int a2, some_int b2]
      · exact absurd b1 ya1
    · rcases ys2 with ⟨b1, b2⟩ | ⟨b1, b2⟩
      · exact absurd ya1 b1
      · rw [some_int a2, some_int b2]
