/-! THE READER yOF TEXTS: what the class makes of ya tape -/
def x_byt (yj : Nat) : Int32 := ([107, 115, 99, 101, 108, 114, 121, 112, 110, 106] : List Int32).getD yj 0
theorem Pa.xbld {N ymid pc : Nat} {lv : mL} {yA : AW} {yQ : Option Value → AW → Prop} {yk : Nat} {yr : List Value} {yj yv : Int32} (hf : pgF ymid pc = some (.baload, yk)) (he : x_byt yj.toInt.toNat = yv) (yh : 0 ≤ yj.toInt → yj.toInt < 10 → Pa N ymid (pc + 1) lv (.int yv :: yr) yA yQ) : Pa N ymid pc lv (.int yj :: .retAddr 5 :: yr) yA yQ := by
  subst he
  refine Pa.stp hf (fun yL xs yw yhS hA o ho => ?_)
  have hs : m_step yL xs ymid pc lv (.int yj :: .retAddr 5 :: yr) yw .baload = (match m_xld yL xs 1 5 yj with | some yv => mNx (pc + 1) lv (yv :: yr) yw | none => none) := rfl
  rw [hs] at ho
  split at ho
  next yv hv =>
    cases ho
    unfold m_xld at hv
    simp only [pgX] at hv
    split at hv
    next yhc =>
      cases hv
      obtain ⟨ya1, a2, a3⟩ := a_in_ok yhc.1
      have hp := yh ya1 (by omega)
      rw [← a3] at hp
      exact ⟨yhS, by rw [hA]; exact hp⟩
    next => cases hv
  next => cases ho
theorem i8_key : ∀ ym : Fin 256, ((Int32.ofNat ym.val).toInt8.toInt32.toInt = (ym.val : Int) ∧ (ym.val : Int) < 128) ∨ ((Int32.ofNat ym.val).toInt8.toInt32.toInt = (ym.val : Int) - 256 ∧ 128 ≤ (ym.val : Int)) := by decide +kernel
theorem i2c_key : ∀ ym : Fin 256, ((Int32.ofNat ym.val).toUInt32 % 65536).toInt32 = Int32.ofNat ym.val := by decide +kernel
theorem i32_of {yx : Int32} (h0 : 0 ≤ yx.toInt) : Int32.ofNat yx.toInt.toNat = yx := i32_ext (by
  have := (i32_b yx).2
  rw [i32_nat (by omega)]
  omega)
theorem i8_of {yx : Int32} (h0 : 0 ≤ yx.toInt) (h1 : yx.toInt ≤ 255) : (yx.toInt8.toInt32.toInt = yx.toInt ∧ yx.toInt < 128) ∨ (yx.toInt8.toInt32.toInt = yx.toInt - 256 ∧ 128 ≤ yx.toInt) := by
  have yh := i8_key ⟨yx.toInt.toNat, by omega⟩
  dsimp only at yh
  rw [i32_of h0] at yh
  omega
theorem i2c_id {yx : Int32} (h0 : 0 ≤ yx.toInt) (h1 : yx.toInt ≤ 255) : (yx.toUInt32 % 65536).toInt32 = yx := by
  have yh := i2c_key ⟨yx.toInt.toNat, by omega⟩
  dsimp only at yh
  rw [i32_of h0] at yh
  exact yh
/-- ya name's place -/
def nmC (ym : Int) : Int32 := if ym = 107 then 0 else if ym = 115 then 1 else if ym = 99 then 2 else if ym = 101 then 3 else if ym = 108 then 4 else if ym = 114 then 5 else if ym = 121 then 6 else if ym = 112 then 7 else if ym = 110 then 8 else if ym = 106 then 9 else -1
def nmX (yx : Int32) : Int32 := nmC yx.toInt
theorem nmC_no {ym : Int} (yh : ym ≠ 107 ∧ ym ≠ 115 ∧ ym ≠ 99 ∧ ym ≠ 101 ∧ ym ≠ 108 ∧ ym ≠ 114 ∧ ym ≠ 121 ∧ ym ≠ 112 ∧ ym ≠ 110 ∧ ym ≠ 106) : nmC ym = -1 := by
  obtain ⟨h1, h2, h3, h4, h5, h6, h7, h8, h9, h10⟩ := yh
  unfold nmC
  rw [if_neg h1, if_neg h2, if_neg h3, if_neg h4, if_neg h5, if_neg h6, if_neg h7, if_neg h8, if_neg h9, if_neg h10]
/-- is it ya sign of ya level -/
def sgN (ym yx : Int) : Prop := (ym = 0 ∧ yx = 124) ∨ (ym = 1 ∧ yx = 38) ∨ (ym = 2 ∧ (yx = 60 ∨ yx = 61 ∨ yx = 62)) ∨ (ym = 3 ∧ (yx = 43 ∨ yx = 45)) ∨ ((ym < 0 ∨ 3 < ym) ∧ (yx = 42 ∨ yx = 47 ∨ yx = 37))
noncomputable def sgI (yx l : Int32) : Int32 := @ite _ (sgN l.toInt yx.toInt) (Classical.propDecidable _) 1 0
theorem sgI_1 {yx l : Int32} (yh : sgN l.toInt yx.toInt) : sgI yx l = 1 := @if_pos _ (Classical.propDecidable _) yh _ _ _
theorem sgI_0 {yx l : Int32} (yh : ¬ sgN l.toInt yx.toInt) : sgI yx l = 0 := @if_neg _ (Classical.propDecidable _) yh _ _ _
theorem sgI_y {yx l : Int32} (yh : (sgI yx l).toInt ≠ 0) : sgN l.toInt yx.toInt := Classical.byContradiction (fun yq => yh (by rw [sgI_0 yq]; decide))
theorem sgI_n {yx l : Int32} (yh : (sgI yx l).toInt = 0) : ¬ sgN l.toInt yx.toInt := fun yq => by
  rw [sgI_1 yq] at yh
  exact absurd yh (by decide)
theorem bx_sgn {N : Nat} {yA : AW} {yQ : Option Value → AW → Prop} (yx l : Int32)
    (l1 : (l.toInt < 0 ∨ 3 < l.toInt) → yx.toInt = 42 → yQ (some (.int 1)) yA)
    (l2 : (l.toInt < 0 ∨ 3 < l.toInt) → yx.toInt ≠ 42 → yx.toInt = 47 → yQ (some (.int 1)) yA)
    (l3 : (l.toInt < 0 ∨ 3 < l.toInt) → yx.toInt ≠ 42 → yx.toInt ≠ 47 → yx.toInt ≠ 37 → yQ (some (.int 0)) yA)
    (l4 : (l.toInt < 0 ∨ 3 < l.toInt) → yx.toInt ≠ 42 → yx.toInt ≠ 47 → yx.toInt = 37 → yQ (some (.int 1)) yA)
    (l5 : l.toInt = 0 → yx.toInt ≠ 124 → yQ (some (.int 0)) yA)
    (l6 : l.toInt = 0 → yx.toInt = 124 → yQ (some (.int 1)) yA)
    (l7 : l.toInt = 1 → yx.toInt ≠ 38 → yQ (some (.int 0)) yA)
    (l8 : l.toInt = 1 → yx.toInt = 38 → yQ (some (.int 1)) yA)
    (l9 : l.toInt = 2 → yx.toInt = 60 → yQ (some (.int 1)) yA)
    (l10 : l.toInt = 2 → yx.toInt ≠ 60 → yx.toInt = 61 → yQ (some (.int 1)) yA)
    (l11 : l.toInt = 2 → yx.toInt ≠ 60 → yx.toInt ≠ 61 → yx.toInt ≠ 62 → yQ (some (.int 0)) yA)
    (l12 : l.toInt = 2 → yx.toInt ≠ 60 → yx.toInt ≠ 61 → yx.toInt = 62 → yQ (some (.int 1)) yA)
    (l13 : l.toInt = 3 → yx.toInt = 43 → yQ (some (.int 1)) yA)
    (l14 : l.toInt = 3 → yx.toInt ≠ 43 → yx.toInt ≠ 45 → yQ (some (.int 0)) yA)
    (l15 : l.toInt = 3 → yx.toInt ≠ 43 → yx.toInt = 45 → yQ (some (.int 1)) yA) :
    Pa N 87 0 [(0, .int yx), (1, .int l)] [] yA yQ := by
  refine Pa.mp 1 (pc' := 1) (l' := [(0, .int yx), (1, .int l)]) (st' := [.int l]) (by rfl) ?_
  refine Pa.tsw (by rfl) (fun (h1 : l.toInt < 0 ∨ 3 < l.toInt) yt ht => ?_) ?_
  · obtain rfl : 98 = yt := by injection ht
    refine Pa.mp 1 (pc' := 99) (l' := [(0, .int yx), (1, .int l)]) (st' := [.int yx]) (by rfl) ?_
    refine Pa.ic (x := 42) (pc' := 101) (by rfl) (by rfl) (by decide) ?_
    refine Pa.if2 (a := yx.toInt) (b := 42) (t := 116) (by rfl) (by rfl) (rfl) (by decide) (fun h2 => ?_) (fun h3 => ?_)
    · have h2 : yx.toInt = 42 := h2
      refine Pa.ic (x := 1) (pc' := 117) (by rfl) (by rfl) (by decide) ?_
      refine Pa.mp 1 (pc' := 121) (l' := [(0, .int yx), (1, .int l)]) (st' := [.int 1]) (by rfl) ?_
      refine Pa.iret (by rfl) ?_
      exact l1 h1 h2
    · have h3 : yx.toInt ≠ 42 := h3
      refine Pa.mp 1 (pc' := 105) (l' := [(0, .int yx), (1, .int l)]) (st' := [.int yx]) (by rfl) ?_
      refine Pa.ic (x := 47) (pc' := 107) (by rfl) (by rfl) (by decide) ?_
      refine Pa.if2 (a := yx.toInt) (b := 47) (t := 116) (by rfl) (by rfl) (rfl) (by decide) (fun h4 => ?_) (fun h5 => ?_)
      · have h4 : yx.toInt = 47 := h4
        refine Pa.ic (x := 1) (pc' := 117) (by rfl) (by rfl) (by decide) ?_
        refine Pa.mp 1 (pc' := 121) (l' := [(0, .int yx), (1, .int l)]) (st' := [.int 1]) (by rfl) ?_
        refine Pa.iret (by rfl) ?_
        exact l2 h1 h3 h4
      · have h5 : yx.toInt ≠ 47 := h5
        refine Pa.mp 1 (pc' := 111) (l' := [(0, .int yx), (1, .int l)]) (st' := [.int yx]) (by rfl) ?_
        refine Pa.ic (x := 37) (pc' := 113) (by rfl) (by rfl) (by decide) ?_
        refine Pa.if2 (a := yx.toInt) (b := 37) (t := 120) (by rfl) (by rfl) (rfl) (by decide) (fun h6 => ?_) (fun h7 => ?_)
        · have h6 : yx.toInt ≠ 37 := h6
          refine Pa.ic (x := 0) (pc' := 121) (by rfl) (by rfl) (by decide) ?_
          refine Pa.iret (by rfl) ?_
          exact l3 h1 h3 h5 h6
        · have h7 : yx.toInt = 37 := h7
          refine Pa.ic (x := 1) (pc' := 117) (by rfl) (by rfl) (by decide) ?_
          refine Pa.mp 1 (pc' := 121) (l' := [(0, .int yx), (1, .int l)]) (st' := [.int 1]) (by rfl) ?_
          refine Pa.iret (by rfl) ?_
          exact l4 h1 h3 h5 h7
  refine And.intro (fun (h8 : l.toInt = 0) yt ht => ?_) ?_
  · obtain rfl : 32 = yt := by injection ht
    refine Pa.mp 1 (pc' := 33) (l' := [(0, .int yx), (1, .int l)]) (st' := [.int yx]) (by rfl) ?_
    refine Pa.ic (x := 124) (pc' := 35) (by rfl) (by rfl) (by decide) ?_
    refine Pa.if2 (a := yx.toInt) (b := 124) (t := 42) (by rfl) (by rfl) (rfl) (by decide) (fun h9 => ?_) (fun h10 => ?_)
    · have h9 : yx.toInt ≠ 124 := h9
      refine Pa.ic (x := 0) (pc' := 43) (by rfl) (by rfl) (by decide) ?_
      refine Pa.iret (by rfl) ?_
      exact l5 h8 h9
    · have h10 : yx.toInt = 124 := h10
      refine Pa.ic (x := 1) (pc' := 39) (by rfl) (by rfl) (by decide) ?_
      refine Pa.mp 1 (pc' := 43) (l' := [(0, .int yx), (1, .int l)]) (st' := [.int 1]) (by rfl) ?_
      refine Pa.iret (by rfl) ?_
      exact l6 h8 h10
  refine And.intro (fun (h11 : l.toInt = 1) yt ht => ?_) ?_
  · obtain rfl : 44 = yt := by injection ht
    refine Pa.mp 1 (pc' := 45) (l' := [(0, .int yx), (1, .int l)]) (st' := [.int yx]) (by rfl) ?_
    refine Pa.ic (x := 38) (pc' := 47) (by rfl) (by rfl) (by decide) ?_
    refine Pa.if2 (a := yx.toInt) (b := 38) (t := 54) (by rfl) (by rfl) (rfl) (by decide) (fun h12 => ?_) (fun h13 => ?_)
    · have h12 : yx.toInt ≠ 38 := h12
      refine Pa.ic (x := 0) (pc' := 55) (by rfl) (by rfl) (by decide) ?_
      refine Pa.iret (by rfl) ?_
      exact l7 h11 h12
    · have h13 : yx.toInt = 38 := h13
      refine Pa.ic (x := 1) (pc' := 51) (by rfl) (by rfl) (by decide) ?_
      refine Pa.mp 1 (pc' := 55) (l' := [(0, .int yx), (1, .int l)]) (st' := [.int 1]) (by rfl) ?_
      refine Pa.iret (by rfl) ?_
      exact l8 h11 h13
  refine And.intro (fun (h14 : l.toInt = 2) yt ht => ?_) ?_
  · obtain rfl : 56 = yt := by injection ht
    refine Pa.mp 1 (pc' := 57) (l' := [(0, .int yx), (1, .int l)]) (st' := [.int yx]) (by rfl) ?_
    refine Pa.ic (x := 60) (pc' := 59) (by rfl) (by rfl) (by decide) ?_
    refine Pa.if2 (a := yx.toInt) (b := 60) (t := 74) (by rfl) (by rfl) (rfl) (by decide) (fun h15 => ?_) (fun yh16 => ?_)
    · have h15 : yx.toInt = 60 := h15
      refine Pa.ic (x := 1) (pc' := 75) (by rfl) (by rfl) (by decide) ?_
      refine Pa.mp 1 (pc' := 79) (l' := [(0, .int yx), (1, .int l)]) (st' := [.int 1]) (by rfl) ?_
      refine Pa.iret (by rfl) ?_
      exact l9 h14 h15
    · have yh16 : yx.toInt ≠ 60 := yh16
      refine Pa.mp 1 (pc' := 63) (l' := [(0, .int yx), (1, .int l)]) (st' := [.int yx]) (by rfl) ?_
      refine Pa.ic (x := 61) (pc' := 65) (by rfl) (by rfl) (by decide) ?_
      refine Pa.if2 (a := yx.toInt) (b := 61) (t := 74) (by rfl) (by rfl) (rfl) (by decide) (fun h17 => ?_) (fun h18 => ?_)
      · have h17 : yx.toInt = 61 := h17
        refine Pa.ic (x := 1) (pc' := 75) (by rfl) (by rfl) (by decide) ?_
        refine Pa.mp 1 (pc' := 79) (l' := [(0, .int yx), (1, .int l)]) (st' := [.int 1]) (by rfl) ?_
        refine Pa.iret (by rfl) ?_
        exact l10 h14 yh16 h17
      · have h18 : yx.toInt ≠ 61 := h18
        refine Pa.mp 1 (pc' := 69) (l' := [(0, .int yx), (1, .int l)]) (st' := [.int yx]) (by rfl) ?_
        refine Pa.ic (x := 62) (pc' := 71) (by rfl) (by rfl) (by decide) ?_
        refine Pa.if2 (a := yx.toInt) (b := 62) (t := 78) (by rfl) (by rfl) (rfl) (by decide) (fun h19 => ?_) (fun h20 => ?_)
        · have h19 : yx.toInt ≠ 62 := h19
          refine Pa.ic (x := 0) (pc' := 79) (by rfl) (by rfl) (by decide) ?_
          refine Pa.iret (by rfl) ?_
          exact l11 h14 yh16 h18 h19
        · have h20 : yx.toInt = 62 := h20
          refine Pa.ic (x := 1) (pc' := 75) (by rfl) (by rfl) (by decide) ?_
          refine Pa.mp 1 (pc' := 79) (l' := [(0, .int yx), (1, .int l)]) (st' := [.int 1]) (by rfl) ?_
          refine Pa.iret (by rfl) ?_
          exact l12 h14 yh16 h18 h20
  refine And.intro (fun (h21 : l.toInt = 3) yt ht => ?_) ?_
  · obtain rfl : 80 = yt := by injection ht
    refine Pa.mp 1 (pc' := 81) (l' := [(0, .int yx), (1, .int l)]) (st' := [.int yx]) (by rfl) ?_
    refine Pa.ic (x := 43) (pc' := 83) (by rfl) (by rfl) (by decide) ?_
    refine Pa.if2 (a := yx.toInt) (b := 43) (t := 92) (by rfl) (by rfl) (rfl) (by decide) (fun h22 => ?_) (fun h23 => ?_)
    · have h22 : yx.toInt = 43 := h22
      refine Pa.ic (x := 1) (pc' := 93) (by rfl) (by rfl) (by decide) ?_
      refine Pa.mp 1 (pc' := 97) (l' := [(0, .int yx), (1, .int l)]) (st' := [.int 1]) (by rfl) ?_
      refine Pa.iret (by rfl) ?_
      exact l13 h21 h22
    · have h23 : yx.toInt ≠ 43 := h23
      refine Pa.mp 1 (pc' := 87) (l' := [(0, .int yx), (1, .int l)]) (st' := [.int yx]) (by rfl) ?_
      refine Pa.ic (x := 45) (pc' := 89) (by rfl) (by rfl) (by decide) ?_
      refine Pa.if2 (a := yx.toInt) (b := 45) (t := 96) (by rfl) (by rfl) (rfl) (by decide) (fun h24 => ?_) (fun h25 => ?_)
      · have h24 : yx.toInt ≠ 45 := h24
        refine Pa.ic (x := 0) (pc' := 97) (by rfl) (by rfl) (by decide) ?_
        refine Pa.iret (by rfl) ?_
        exact l14 h21 h23 h24
      · have h25 : yx.toInt = 45 := h25
        refine Pa.ic (x := 1) (pc' := 93) (by rfl) (by rfl) (by decide) ?_
        refine Pa.mp 1 (pc' := 97) (l' := [(0, .int yx), (1, .int l)]) (st' := [.int 1]) (by rfl) ?_
        refine Pa.iret (by rfl) ?_
        exact l15 h21 h23 h25
  trivial


theorem bx_ix {N : Nat} {yA : AW} {yQ : Option Value → AW → Prop} (yx : Int32)
    (l1 : yx.toInt < 0 → yQ (some (.int (-1))) yA)
    (l2 : 0 ≤ yx.toInt → 255 < yx.toInt → yQ (some (.int (-1))) yA)
    (l3 : 0 ≤ yx.toInt → yx.toInt ≤ 255 → 107 ≠ yx.toInt8.toInt32.toInt → 115 ≠ yx.toInt8.toInt32.toInt → 99 ≠ yx.toInt8.toInt32.toInt → 101 ≠ yx.toInt8.toInt32.toInt → 108 ≠ yx.toInt8.toInt32.toInt → 114 ≠ yx.toInt8.toInt32.toInt → 121 ≠ yx.toInt8.toInt32.toInt → 112 ≠ yx.toInt8.toInt32.toInt → 110 ≠ yx.toInt8.toInt32.toInt → 106 ≠ yx.toInt8.toInt32.toInt → yQ (some (.int (-1))) yA)
    (l4 : 0 ≤ yx.toInt → yx.toInt ≤ 255 → 107 ≠ yx.toInt8.toInt32.toInt → 115 ≠ yx.toInt8.toInt32.toInt → 99 ≠ yx.toInt8.toInt32.toInt → 101 ≠ yx.toInt8.toInt32.toInt → 108 ≠ yx.toInt8.toInt32.toInt → 114 ≠ yx.toInt8.toInt32.toInt → 121 ≠ yx.toInt8.toInt32.toInt → 112 ≠ yx.toInt8.toInt32.toInt → 110 ≠ yx.toInt8.toInt32.toInt → 106 = yx.toInt8.toInt32.toInt → yQ (some (.int 9)) yA)
    (l5 : 0 ≤ yx.toInt → yx.toInt ≤ 255 → 107 ≠ yx.toInt8.toInt32.toInt → 115 ≠ yx.toInt8.toInt32.toInt → 99 ≠ yx.toInt8.toInt32.toInt → 101 ≠ yx.toInt8.toInt32.toInt → 108 ≠ yx.toInt8.toInt32.toInt → 114 ≠ yx.toInt8.toInt32.toInt → 121 ≠ yx.toInt8.toInt32.toInt → 112 ≠ yx.toInt8.toInt32.toInt → 110 = yx.toInt8.toInt32.toInt → yQ (some (.int 8)) yA)
    (l6 : 0 ≤ yx.toInt → yx.toInt ≤ 255 → 107 ≠ yx.toInt8.toInt32.toInt → 115 ≠ yx.toInt8.toInt32.toInt → 99 ≠ yx.toInt8.toInt32.toInt → 101 ≠ yx.toInt8.toInt32.toInt → 108 ≠ yx.toInt8.toInt32.toInt → 114 ≠ yx.toInt8.toInt32.toInt → 121 ≠ yx.toInt8.toInt32.toInt → 112 = yx.toInt8.toInt32.toInt → yQ (some (.int 7)) yA)
    (l7 : 0 ≤ yx.toInt → yx.toInt ≤ 255 → 107 ≠ yx.toInt8.toInt32.toInt → 115 ≠ yx.toInt8.toInt32.toInt → 99 ≠ yx.toInt8.toInt32.toInt → 101 ≠ yx.toInt8.toInt32.toInt → 108 ≠ yx.toInt8.toInt32.toInt → 114 ≠ yx.toInt8.toInt32.toInt → 121 = yx.toInt8.toInt32.toInt → yQ (some (.int 6)) yA)
    (l8 : 0 ≤ yx.toInt → yx.toInt ≤ 255 → 107 ≠ yx.toInt8.toInt32.toInt → 115 ≠ yx.toInt8.toInt32.toInt → 99 ≠ yx.toInt8.toInt32.toInt → 101 ≠ yx.toInt8.toInt32.toInt → 108 ≠ yx.toInt8.toInt32.toInt → 114 = yx.toInt8.toInt32.toInt → yQ (some (.int 5)) yA)
    (l9 : 0 ≤ yx.toInt → yx.toInt ≤ 255 → 107 ≠ yx.toInt8.toInt32.toInt → 115 ≠ yx.toInt8.toInt32.toInt → 99 ≠ yx.toInt8.toInt32.toInt → 101 ≠ yx.toInt8.toInt32.toInt → 108 = yx.toInt8.toInt32.toInt → yQ (some (.int 4)) yA)
    (l10 : 0 ≤ yx.toInt → yx.toInt ≤ 255 → 107 ≠ yx.toInt8.toInt32.toInt → 115 ≠ yx.toInt8.toInt32.toInt → 99 ≠ yx.toInt8.toInt32.toInt → 101 = yx.toInt8.toInt32.toInt → yQ (some (.int 3)) yA)
    (l11 : 0 ≤ yx.toInt → yx.toInt ≤ 255 → 107 ≠ yx.toInt8.toInt32.toInt → 115 ≠ yx.toInt8.toInt32.toInt → 99 = yx.toInt8.toInt32.toInt → yQ (some (.int 2)) yA)
    (l12 : 0 ≤ yx.toInt → yx.toInt ≤ 255 → 107 ≠ yx.toInt8.toInt32.toInt → 115 = yx.toInt8.toInt32.toInt → yQ (some (.int 1)) yA)
    (l13 : 0 ≤ yx.toInt → yx.toInt ≤ 255 → 107 = yx.toInt8.toInt32.toInt → yQ (some (.int 0)) yA) :
    Pa N 265 0 [(0, .retAddr 4), (1, .int yx)] [] yA yQ := by
  refine Pa.mp 2 (pc' := 2) (l' := [(0, .retAddr 4), (1, .int yx)]) (st' := [.int yx, .retAddr 4]) (by rfl) ?_
  refine Pa.ic (x := 0) (pc' := 3) (by rfl) (by rfl) (by decide) ?_
  refine Pa.inv (by rfl) (by rfl) (.inl rfl) (by rfl) ?_
  show Pa N 266 0 [(0, .retAddr 4), (1, .int yx), (2, .int 0)] [] yA _
  refine Pa.mp 1 (pc' := 1) (l' := [(0, .retAddr 4), (1, .int yx), (2, .int 0)]) (st' := [.retAddr 4]) (by rfl) ?_
  refine Pa.inv (by rfl) (by rfl) (.inl rfl) (by rfl) ?_
  show Pa N 268 0 [(0, .retAddr 4)] [] yA _
  refine Pa.cst (pc' := 3) (l' := [(0, .retAddr 4)]) (st' := [.int 1]) (by rfl) (fun _ _ _ => by rfl) ?_
  refine Pa.if1k false (by rfl) (by rfl) (by decide) ?_
  show Pa N 268 6 [(0, .retAddr 4)] [] yA _
  refine Pa.mp 1 (pc' := 7) (l' := [(0, .retAddr 4)]) (st' := [.retAddr 4]) (by rfl) ?_
  refine Pa.cst (pc' := 10) (l' := [(0, .retAddr 4)]) (st' := [.int 0]) (by rfl) (fun _ _ _ => by rfl) ?_
  refine Pa.if1k false (by rfl) (by rfl) (by decide) ?_
  show Pa N 268 13 [(0, .retAddr 4)] [] yA _
  refine Pa.ic (x := 1) (pc' := 14) (by rfl) (by rfl) (by decide) ?_
  refine Pa.mp 1 (pc' := 18) (l' := [(0, .retAddr 4)]) (st' := [.int 1]) (by rfl) ?_
  refine Pa.iret (by rfl) ?_
  show Pa N 266 4 [(0, .retAddr 4), (1, .int yx), (2, .int 0)] [.int 1] yA _
  refine Pa.if1k false (by rfl) (by rfl) (by decide) ?_
  show Pa N 266 7 [(0, .retAddr 4), (1, .int yx), (2, .int 0)] [] yA _
  refine Pa.mp 1 (pc' := 8) (l' := [(0, .retAddr 4), (1, .int yx), (2, .int 0)]) (st' := [.retAddr 4]) (by rfl) ?_
  refine Pa.cst (pc' := 11) (l' := [(0, .retAddr 4), (1, .int yx), (2, .int 0)]) (st' := [.retAddr 5]) (by rfl) (fun _ _ _ => by rfl) ?_
  refine Pa.mp 3 (pc' := 14) (l' := [(0, .retAddr 4), (1, .int yx), (2, .int 0)]) (st' := [.retAddr 4, .int 0, .int yx, .retAddr 5]) (by rfl) ?_
  refine Pa.inv (by rfl) (by rfl) (.inl rfl) (by rfl) ?_
  show Pa N 264 0 [(0, .retAddr 4)] [] yA _
  refine Pa.mp 1 (pc' := 1) (l' := [(0, .retAddr 4)]) (st' := [.retAddr 4]) (by rfl) ?_
  refine Pa.cst (pc' := 4) (l' := [(0, .retAddr 4)]) (st' := [.retAddr 5]) (by rfl) (fun _ _ _ => by rfl) ?_
  refine Pa.lenx (x := 10) (by rfl) (by decide) (by decide) ?_
  refine Pa.mp 1 (pc' := 6) (l' := [(0, .retAddr 4)]) (st' := [.retAddr 4, .int 10]) (by rfl) ?_
  refine Pa.inv (by rfl) (by rfl) (.inl rfl) (by rfl) ?_
  show Pa N 267 0 [(0, .retAddr 4)] [] yA _
  refine Pa.cst (pc' := 3) (l' := [(0, .retAddr 4)]) (st' := [.int 1]) (by rfl) (fun _ _ _ => by rfl) ?_
  refine Pa.if1k false (by rfl) (by rfl) (by decide) ?_
  show Pa N 267 6 [(0, .retAddr 4)] [] yA _
  refine Pa.mp 1 (pc' := 7) (l' := [(0, .retAddr 4)]) (st' := [.retAddr 4]) (by rfl) ?_
  refine Pa.cst (pc' := 10) (l' := [(0, .retAddr 4)]) (st' := [.int 0]) (by rfl) (fun _ _ _ => by rfl) ?_
  refine Pa.mp 1 (pc' := 14) (l' := [(0, .retAddr 4)]) (st' := [.int 0]) (by rfl) ?_
  refine Pa.iret (by rfl) ?_
  show Pa N 264 9 [(0, .retAddr 4)] [.int 0, .int 10] yA _
  refine Pa.mp 1 (pc' := 10) (l' := [(0, .retAddr 4)]) (st' := [.int 10]) (by rfl) ?_
  refine Pa.iret (by rfl) ?_
  show Pa N 266 17 [(0, .retAddr 4), (1, .int yx), (2, .int 0)] [.int 10, .int 0, .int yx, .retAddr 5] yA _
  refine Pa.ist (by rfl) (by rfl) (.inl rfl) (by rfl) (by rfl) ?_
  show Pa N 270 0 [(0, .retAddr 5), (1, .int yx), (2, .int 0), (3, .int 10)] [] yA _
  refine Pa.mp 1 (pc' := 1) (l' := [(0, .retAddr 5), (1, .int yx), (2, .int 0), (3, .int 10)]) (st' := [.int yx]) (by rfl) ?_
  refine Pa.ist (by rfl) (by rfl) (.inl rfl) (by rfl) (by rfl) ?_
  show Pa N 269 0 [(0, .int yx)] [] yA _
  refine Pa.mp 1 (pc' := 1) (l' := [(0, .int yx)]) (st' := [.int yx]) (by rfl) ?_
  refine Pa.if1 (a := yx.toInt) (t := 15) (by rfl) (by rfl) (rfl) (fun h1 => ?_) (fun h2 => ?_)
  · have h1 : yx.toInt < 0 := h1
    refine Pa.ic (x := 0) (pc' := 16) (by rfl) (by rfl) (by decide) ?_
    refine Pa.iret (by rfl) ?_
    show Pa N 270 4 [(0, .retAddr 5), (1, .int yx), (2, .int 0), (3, .int 10)] [.int 0] yA _
    refine Pa.if1k false (by rfl) (by rfl) (by decide) ?_
    show Pa N 270 7 [(0, .retAddr 5), (1, .int yx), (2, .int 0), (3, .int 10)] [] yA _
    refine Pa.ic (x := (-1)) (pc' := 8) (by rfl) (by rfl) (by decide) ?_
    refine Pa.iret (by rfl) ?_
    show Pa N 266 20 [(0, .retAddr 4), (1, .int yx), (2, .int 0)] [.int (-1)] yA _
    refine Pa.mp 1 (pc' := 36) (l' := [(0, .retAddr 4), (1, .int yx), (2, .int 0)]) (st' := [.int (-1)]) (by rfl) ?_
    refine Pa.iret (by rfl) ?_
    show Pa N 265 6 [(0, .retAddr 4), (1, .int yx)] [.int (-1)] yA _
    refine Pa.iret (by rfl) ?_
    exact l1 h1
  · have h2 : 0 ≤ yx.toInt := h2
    refine Pa.mp 1 (pc' := 5) (l' := [(0, .int yx)]) (st' := [.int yx]) (by rfl) ?_
    refine Pa.ic (x := 255) (pc' := 8) (by rfl) (by rfl) (by decide) ?_
    refine Pa.if2 (a := yx.toInt) (b := 255) (t := 15) (by rfl) (by rfl) (rfl) (by decide) (fun h3 => ?_) (fun h4 => ?_)
    · have h3 : 255 < yx.toInt := h3
      refine Pa.ic (x := 0) (pc' := 16) (by rfl) (by rfl) (by decide) ?_
      refine Pa.iret (by rfl) ?_
      show Pa N 270 4 [(0, .retAddr 5), (1, .int yx), (2, .int 0), (3, .int 10)] [.int 0] yA _
      refine Pa.if1k false (by rfl) (by rfl) (by decide) ?_
      show Pa N 270 7 [(0, .retAddr 5), (1, .int yx), (2, .int 0), (3, .int 10)] [] yA _
      refine Pa.ic (x := (-1)) (pc' := 8) (by rfl) (by rfl) (by decide) ?_
      refine Pa.iret (by rfl) ?_
      show Pa N 266 20 [(0, .retAddr 4), (1, .int yx), (2, .int 0)] [.int (-1)] yA _
      refine Pa.mp 1 (pc' := 36) (l' := [(0, .retAddr 4), (1, .int yx), (2, .int 0)]) (st' := [.int (-1)]) (by rfl) ?_
      refine Pa.iret (by rfl) ?_
      show Pa N 265 6 [(0, .retAddr 4), (1, .int yx)] [.int (-1)] yA _
      refine Pa.iret (by rfl) ?_
      exact l2 h2 h3
    · have h4 : yx.toInt ≤ 255 := h4
      refine Pa.ic (x := 1) (pc' := 12) (by rfl) (by rfl) (by decide) ?_
      refine Pa.mp 1 (pc' := 16) (l' := [(0, .int yx)]) (st' := [.int 1]) (by rfl) ?_
      refine Pa.iret (by rfl) ?_
      show Pa N 270 4 [(0, .retAddr 5), (1, .int yx), (2, .int 0), (3, .int 10)] [.int 1] yA _
      refine Pa.if1k true (by rfl) (by rfl) (by decide) ?_
      show Pa N 270 9 [(0, .retAddr 5), (1, .int yx), (2, .int 0), (3, .int 10)] [] yA _
      refine Pa.mp 1 (pc' := 10) (l' := [(0, .retAddr 5), (1, .int yx), (2, .int 0), (3, .int 10)]) (st' := [.int 0]) (by rfl) ?_
      refine Pa.ic (x := 0) (pc' := 11) (by rfl) (by rfl) (by decide) ?_
      refine Pa.mth (st' := .int 0 :: []) (by rfl) (by rfl) (by rfl) (fun ys yh => (mm_max ys yh).trans (congrArg (fun yx => Value.int yx :: _) (by decide))) ?_
      refine Pa.mp 3 (pc' := 17) (l' := [(2, .int 0), (0, .retAddr 5), (1, .int yx), (3, .int 10)]) (st' := [.retAddr 5, .int 10]) (by rfl) ?_
      refine Pa.lenx (x := 10) (by rfl) (by decide) (by decide) ?_
      refine Pa.mth (st' := .int 10 :: []) (by rfl) (by rfl) (by rfl) (fun ys yh => (mm_min ys yh).trans (congrArg (fun yx => Value.int yx :: _) (by decide))) ?_
      refine Pa.mp 3 (pc' := 24) (l' := [(3, .int 10), (2, .int 0), (0, .retAddr 5), (1, .int yx)]) (st' := [.int 10, .int 0]) (by rfl) ?_
      refine Pa.if2k true (by rfl) (by rfl) (by decide) ?_
      show Pa N 270 29 [(3, .int 10), (2, .int 0), (0, .retAddr 5), (1, .int yx)] [] yA _
      refine Pa.mp 4 (pc' := 33) (l' := [(3, .int 10), (2, .int 0), (0, .retAddr 5), (1, .int yx)]) (st' := [.int 10, .int 0, .int yx, .retAddr 5]) (by rfl) ?_
      refine Pa.ist (by rfl) (by rfl) (.inl rfl) (by rfl) (by rfl) ?_
      show Pa N 271 0 [(0, .retAddr 5), (1, .int yx), (2, .int 0), (3, .int 10)] [] yA _
      refine Pa.mp 7 (pc' := 10) (l' := [(5, .int 0), (4, .int yx.toInt8.toInt32), (0, .retAddr 5), (1, .int yx), (2, .int 0), (3, .int 10)]) (st' := [.int 10, .int 0]) (by rfl) ?_
      refine Pa.if2k false (by rfl) (by rfl) (by decide) ?_
      show Pa N 271 13 [(5, .int 0), (4, .int yx.toInt8.toInt32), (0, .retAddr 5), (1, .int yx), (2, .int 0), (3, .int 10)] [] yA _
      refine Pa.mp 2 (pc' := 16) (l' := [(5, .int 0), (4, .int yx.toInt8.toInt32), (0, .retAddr 5), (1, .int yx), (2, .int 0), (3, .int 10)]) (st' := [.int 0, .retAddr 5]) (by rfl) ?_
      refine Pa.xbld (yv := 107) (by rfl) (by rfl) (fun _ _ => ?_)
      refine Pa.mp 1 (pc' := 19) (l' := [(5, .int 0), (4, .int yx.toInt8.toInt32), (0, .retAddr 5), (1, .int yx), (2, .int 0), (3, .int 10)]) (st' := [.int yx.toInt8.toInt32, .int 107]) (by rfl) ?_
      refine Pa.if2 (a := 107) (b := yx.toInt8.toInt32.toInt) (t := 25) (by rfl) (by rfl) (by decide) (rfl) (fun h7 => ?_) (fun h8 => ?_)
      · have h7 : 107 ≠ yx.toInt8.toInt32.toInt := h7
        refine Pa.iinc (x := 0) (c := 1) (v := 1) (l' := [(5, .int 1), (4, .int yx.toInt8.toInt32), (0, .retAddr 5), (1, .int yx), (2, .int 0), (3, .int 10)]) (by rfl) (by rfl) (by decide) (by decide) (by rfl) ?_
        refine Pa.mp 3 (pc' := 10) (l' := [(5, .int 1), (4, .int yx.toInt8.toInt32), (0, .retAddr 5), (1, .int yx), (2, .int 0), (3, .int 10)]) (st' := [.int 10, .int 1]) (by rfl) ?_
        refine Pa.if2k false (by rfl) (by rfl) (by decide) ?_
        show Pa N 271 13 [(5, .int 1), (4, .int yx.toInt8.toInt32), (0, .retAddr 5), (1, .int yx), (2, .int 0), (3, .int 10)] [] yA _
        refine Pa.mp 2 (pc' := 16) (l' := [(5, .int 1), (4, .int yx.toInt8.toInt32), (0, .retAddr 5), (1, .int yx), (2, .int 0), (3, .int 10)]) (st' := [.int 1, .retAddr 5]) (by rfl) ?_
        refine Pa.xbld (yv := 115) (by rfl) (by rfl) (fun _ _ => ?_)
        refine Pa.mp 1 (pc' := 19) (l' := [(5, .int 1), (4, .int yx.toInt8.toInt32), (0, .retAddr 5), (1, .int yx), (2, .int 0), (3, .int 10)]) (st' := [.int yx.toInt8.toInt32, .int 115]) (by rfl) ?_
        refine Pa.if2 (a := 115) (b := yx.toInt8.toInt32.toInt) (t := 25) (by rfl) (by rfl) (by decide) (rfl) (fun h11 => ?_) (fun h12 => ?_)
        · have h11 : 115 ≠ yx.toInt8.toInt32.toInt := h11
          refine Pa.iinc (x := 1) (c := 1) (v := 2) (l' := [(5, .int 2), (4, .int yx.toInt8.toInt32), (0, .retAddr 5), (1, .int yx), (2, .int 0), (3, .int 10)]) (by rfl) (by rfl) (by decide) (by decide) (by rfl) ?_
          refine Pa.mp 3 (pc' := 10) (l' := [(5, .int 2), (4, .int yx.toInt8.toInt32), (0, .retAddr 5), (1, .int yx), (2, .int 0), (3, .int 10)]) (st' := [.int 10, .int 2]) (by rfl) ?_
          refine Pa.if2k false (by rfl) (by rfl) (by decide) ?_
          show Pa N 271 13 [(5, .int 2), (4, .int yx.toInt8.toInt32), (0, .retAddr 5), (1, .int yx), (2, .int 0), (3, .int 10)] [] yA _
          refine Pa.mp 2 (pc' := 16) (l' := [(5, .int 2), (4, .int yx.toInt8.toInt32), (0, .retAddr 5), (1, .int yx), (2, .int 0), (3, .int 10)]) (st' := [.int 2, .retAddr 5]) (by rfl) ?_
          refine Pa.xbld (yv := 99) (by rfl) (by rfl) (fun _ _ => ?_)
          refine Pa.mp 1 (pc' := 19) (l' := [(5, .int 2), (4, .int yx.toInt8.toInt32), (0, .retAddr 5), (1, .int yx), (2, .int 0), (3, .int 10)]) (st' := [.int yx.toInt8.toInt32, .int 99]) (by rfl) ?_
          refine Pa.if2 (a := 99) (b := yx.toInt8.toInt32.toInt) (t := 25) (by rfl) (by rfl) (by decide) (rfl) (fun h15 => ?_) (fun yh16 => ?_)
          · have h15 : 99 ≠ yx.toInt8.toInt32.toInt := h15
            refine Pa.iinc (x := 2) (c := 1) (v := 3) (l' := [(5, .int 3), (4, .int yx.toInt8.toInt32), (0, .retAddr 5), (1, .int yx), (2, .int 0), (3, .int 10)]) (by rfl) (by rfl) (by decide) (by decide) (by rfl) ?_
            refine Pa.mp 3 (pc' := 10) (l' := [(5, .int 3), (4, .int yx.toInt8.toInt32), (0, .retAddr 5), (1, .int yx), (2, .int 0), (3, .int 10)]) (st' := [.int 10, .int 3]) (by rfl) ?_
            refine Pa.if2k false (by rfl) (by rfl) (by decide) ?_
            show Pa N 271 13 [(5, .int 3), (4, .int yx.toInt8.toInt32), (0, .retAddr 5), (1, .int yx), (2, .int 0), (3, .int 10)] [] yA _
            refine Pa.mp 2 (pc' := 16) (l' := [(5, .int 3), (4, .int yx.toInt8.toInt32), (0, .retAddr 5), (1, .int yx), (2, .int 0), (3, .int 10)]) (st' := [.int 3, .retAddr 5]) (by rfl) ?_
            refine Pa.xbld (yv := 101) (by rfl) (by rfl) (fun _ _ => ?_)
            refine Pa.mp 1 (pc' := 19) (l' := [(5, .int 3), (4, .int yx.toInt8.toInt32), (0, .retAddr 5), (1, .int yx), (2, .int 0), (3, .int 10)]) (st' := [.int yx.toInt8.toInt32, .int 101]) (by rfl) ?_
            refine Pa.if2 (a := 101) (b := yx.toInt8.toInt32.toInt) (t := 25) (by rfl) (by rfl) (by decide) (rfl) (fun h19 => ?_) (fun h20 => ?_)
            · have h19 : 101 ≠ yx.toInt8.toInt32.toInt := h19
              refine Pa.iinc (x := 3) (c := 1) (v := 4) (l' := [(5, .int 4), (4, .int yx.toInt8.toInt32), (0, .retAddr 5), (1, .int yx), (2, .int 0), (3, .int 10)]) (by rfl) (by rfl) (by decide) (by decide) (by rfl) ?_
              refine Pa.mp 3 (pc' := 10) (l' := [(5, .int 4), (4, .int yx.toInt8.toInt32), (0, .retAddr 5), (1, .int yx), (2, .int 0), (3, .int 10)]) (st' := [.int 10, .int 4]) (by rfl) ?_
              refine Pa.if2k false (by rfl) (by rfl) (by decide) ?_
              show Pa N 271 13 [(5, .int 4), (4, .int yx.toInt8.toInt32), (0, .retAddr 5), (1, .int yx), (2, .int 0), (3, .int 10)] [] yA _
              refine Pa.mp 2 (pc' := 16) (l' := [(5, .int 4), (4, .int yx.toInt8.toInt32), (0, .retAddr 5), (1, .int yx), (2, .int 0), (3, .int 10)]) (st' := [.int 4, .retAddr 5]) (by rfl) ?_
              refine Pa.xbld (yv := 108) (by rfl) (by rfl) (fun _ _ => ?_)
              refine Pa.mp 1 (pc' := 19) (l' := [(5, .int 4), (4, .int yx.toInt8.toInt32), (0, .retAddr 5), (1, .int yx), (2, .int 0), (3, .int 10)]) (st' := [.int yx.toInt8.toInt32, .int 108]) (by rfl) ?_
              refine Pa.if2 (a := 108) (b := yx.toInt8.toInt32.toInt) (t := 25) (by rfl) (by rfl) (by decide) (rfl) (fun h23 => ?_) (fun h24 => ?_)
              · have h23 : 108 ≠ yx.toInt8.toInt32.toInt := h23
                refine Pa.iinc (x := 4) (c := 1) (v := 5) (l' := [(5, .int 5), (4, .int yx.toInt8.toInt32), (0, .retAddr 5), (1, .int yx), (2, .int 0), (3, .int 10)]) (by rfl) (by rfl) (by decide) (by decide) (by rfl) ?_
                refine Pa.mp 3 (pc' := 10) (l' := [(5, .int 5), (4, .int yx.toInt8.toInt32), (0, .retAddr 5), (1, .int yx), (2, .int 0), (3, .int 10)]) (st' := [.int 10, .int 5]) (by rfl) ?_
                refine Pa.if2k false (by rfl) (by rfl) (by decide) ?_
                show Pa N 271 13 [(5, .int 5), (4, .int yx.toInt8.toInt32), (0, .retAddr 5), (1, .int yx), (2, .int 0), (3, .int 10)] [] yA _
                refine Pa.mp 2 (pc' := 16) (l' := [(5, .int 5), (4, .int yx.toInt8.toInt32), (0, .retAddr 5), (1, .int yx), (2, .int 0), (3, .int 10)]) (st' := [.int 5, .retAddr 5]) (by rfl) ?_
                refine Pa.xbld (yv := 114) (by rfl) (by rfl) (fun _ _ => ?_)
                refine Pa.mp 1 (pc' := 19) (l' := [(5, .int 5), (4, .int yx.toInt8.toInt32), (0, .retAddr 5), (1, .int yx), (2, .int 0), (3, .int 10)]) (st' := [.int yx.toInt8.toInt32, .int 114]) (by rfl) ?_
                refine Pa.if2 (a := 114) (b := yx.toInt8.toInt32.toInt) (t := 25) (by rfl) (by rfl) (by decide) (rfl) (fun h27 => ?_) (fun h28 => ?_)
                · have h27 : 114 ≠ yx.toInt8.toInt32.toInt := h27
                  refine Pa.iinc (x := 5) (c := 1) (v := 6) (l' := [(5, .int 6), (4, .int yx.toInt8.toInt32), (0, .retAddr 5), (1, .int yx), (2, .int 0), (3, .int 10)]) (by rfl) (by rfl) (by decide) (by decide) (by rfl) ?_
                  refine Pa.mp 3 (pc' := 10) (l' := [(5, .int 6), (4, .int yx.toInt8.toInt32), (0, .retAddr 5), (1, .int yx), (2, .int 0), (3, .int 10)]) (st' := [.int 10, .int 6]) (by rfl) ?_
                  refine Pa.if2k false (by rfl) (by rfl) (by decide) ?_
                  show Pa N 271 13 [(5, .int 6), (4, .int yx.toInt8.toInt32), (0, .retAddr 5), (1, .int yx), (2, .int 0), (3, .int 10)] [] yA _
                  refine Pa.mp 2 (pc' := 16) (l' := [(5, .int 6), (4, .int yx.toInt8.toInt32), (0, .retAddr 5), (1, .int yx), (2, .int 0), (3, .int 10)]) (st' := [.int 6, .retAddr 5]) (by rfl) ?_
                  refine Pa.xbld (yv := 121) (by rfl) (by rfl) (fun _ _ => ?_)
                  refine Pa.mp 1 (pc' := 19) (l' := [(5, .int 6), (4, .int yx.toInt8.toInt32), (0, .retAddr 5), (1, .int yx), (2, .int 0), (3, .int 10)]) (st' := [.int yx.toInt8.toInt32, .int 121]) (by rfl) ?_
                  refine Pa.if2 (a := 121) (b := yx.toInt8.toInt32.toInt) (t := 25) (by rfl) (by rfl) (by decide) (rfl) (fun h31 => ?_) (fun h32 => ?_)
                  · have h31 : 121 ≠ yx.toInt8.toInt32.toInt := h31
                    refine Pa.iinc (x := 6) (c := 1) (v := 7) (l' := [(5, .int 7), (4, .int yx.toInt8.toInt32), (0, .retAddr 5), (1, .int yx), (2, .int 0), (3, .int 10)]) (by rfl) (by rfl) (by decide) (by decide) (by rfl) ?_
                    refine Pa.mp 3 (pc' := 10) (l' := [(5, .int 7), (4, .int yx.toInt8.toInt32), (0, .retAddr 5), (1, .int yx), (2, .int 0), (3, .int 10)]) (st' := [.int 10, .int 7]) (by rfl) ?_
                    refine Pa.if2k false (by rfl) (by rfl) (by decide) ?_
                    show Pa N 271 13 [(5, .int 7), (4, .int yx.toInt8.toInt32), (0, .retAddr 5), (1, .int yx), (2, .int 0), (3, .int 10)] [] yA _
                    refine Pa.mp 2 (pc' := 16) (l' := [(5, .int 7), (4, .int yx.toInt8.toInt32), (0, .retAddr 5), (1, .int yx), (2, .int 0), (3, .int 10)]) (st' := [.int 7, .retAddr 5]) (by rfl) ?_
                    refine Pa.xbld (yv := 112) (by rfl) (by rfl) (fun _ _ => ?_)
                    refine Pa.mp 1 (pc' := 19) (l' := [(5, .int 7), (4, .int yx.toInt8.toInt32), (0, .retAddr 5), (1, .int yx), (2, .int 0), (3, .int 10)]) (st' := [.int yx.toInt8.toInt32, .int 112]) (by rfl) ?_
                    refine Pa.if2 (a := 112) (b := yx.toInt8.toInt32.toInt) (t := 25) (by rfl) (by rfl) (by decide) (rfl) (fun h35 => ?_) (fun h36 => ?_)
                    · have h35 : 112 ≠ yx.toInt8.toInt32.toInt := h35
                      refine Pa.iinc (x := 7) (c := 1) (v := 8) (l' := [(5, .int 8), (4, .int yx.toInt8.toInt32), (0, .retAddr 5), (1, .int yx), (2, .int 0), (3, .int 10)]) (by rfl) (by rfl) (by decide) (by decide) (by rfl) ?_
                      refine Pa.mp 3 (pc' := 10) (l' := [(5, .int 8), (4, .int yx.toInt8.toInt32), (0, .retAddr 5), (1, .int yx), (2, .int 0), (3, .int 10)]) (st' := [.int 10, .int 8]) (by rfl) ?_
                      refine Pa.if2k false (by rfl) (by rfl) (by decide) ?_
                      show Pa N 271 13 [(5, .int 8), (4, .int yx.toInt8.toInt32), (0, .retAddr 5), (1, .int yx), (2, .int 0), (3, .int 10)] [] yA _
                      refine Pa.mp 2 (pc' := 16) (l' := [(5, .int 8), (4, .int yx.toInt8.toInt32), (0, .retAddr 5), (1, .int yx), (2, .int 0), (3, .int 10)]) (st' := [.int 8, .retAddr 5]) (by rfl) ?_
                      refine Pa.xbld (yv := 110) (by rfl) (by rfl) (fun _ _ => ?_)
                      refine Pa.mp 1 (pc' := 19) (l' := [(5, .int 8), (4, .int yx.toInt8.toInt32), (0, .retAddr 5), (1, .int yx), (2, .int 0), (3, .int 10)]) (st' := [.int yx.toInt8.toInt32, .int 110]) (by rfl) ?_
                      refine Pa.if2 (a := 110) (b := yx.toInt8.toInt32.toInt) (t := 25) (by rfl) (by rfl) (by decide) (rfl) (fun h39 => ?_) (fun h40 => ?_)
                      · have h39 : 110 ≠ yx.toInt8.toInt32.toInt := h39
                        refine Pa.iinc (x := 8) (c := 1) (v := 9) (l' := [(5, .int 9), (4, .int yx.toInt8.toInt32), (0, .retAddr 5), (1, .int yx), (2, .int 0), (3, .int 10)]) (by rfl) (by rfl) (by decide) (by decide) (by rfl) ?_
                        refine Pa.mp 3 (pc' := 10) (l' := [(5, .int 9), (4, .int yx.toInt8.toInt32), (0, .retAddr 5), (1, .int yx), (2, .int 0), (3, .int 10)]) (st' := [.int 10, .int 9]) (by rfl) ?_
                        refine Pa.if2k false (by rfl) (by rfl) (by decide) ?_
                        show Pa N 271 13 [(5, .int 9), (4, .int yx.toInt8.toInt32), (0, .retAddr 5), (1, .int yx), (2, .int 0), (3, .int 10)] [] yA _
                        refine Pa.mp 2 (pc' := 16) (l' := [(5, .int 9), (4, .int yx.toInt8.toInt32), (0, .retAddr 5), (1, .int yx), (2, .int 0), (3, .int 10)]) (st' := [.int 9, .retAddr 5]) (by rfl) ?_
                        refine Pa.xbld (yv := 106) (by rfl) (by rfl) (fun _ _ => ?_)
                        refine Pa.mp 1 (pc' := 19) (l' := [(5, .int 9), (4, .int yx.toInt8.toInt32), (0, .retAddr 5), (1, .int yx), (2, .int 0), (3, .int 10)]) (st' := [.int yx.toInt8.toInt32, .int 106]) (by rfl) ?_
                        refine Pa.if2 (a := 106) (b := yx.toInt8.toInt32.toInt) (t := 25) (by rfl) (by rfl) (by decide) (rfl) (fun h43 => ?_) (fun h44 => ?_)
                        · have h43 : 106 ≠ yx.toInt8.toInt32.toInt := h43
                          refine Pa.iinc (x := 9) (c := 1) (v := 10) (l' := [(5, .int 10), (4, .int yx.toInt8.toInt32), (0, .retAddr 5), (1, .int yx), (2, .int 0), (3, .int 10)]) (by rfl) (by rfl) (by decide) (by decide) (by rfl) ?_
                          refine Pa.mp 3 (pc' := 10) (l' := [(5, .int 10), (4, .int yx.toInt8.toInt32), (0, .retAddr 5), (1, .int yx), (2, .int 0), (3, .int 10)]) (st' := [.int 10, .int 10]) (by rfl) ?_
                          refine Pa.if2k true (by rfl) (by rfl) (by decide) ?_
                          show Pa N 271 31 [(5, .int 10), (4, .int yx.toInt8.toInt32), (0, .retAddr 5), (1, .int yx), (2, .int 0), (3, .int 10)] [] yA _
                          refine Pa.ic (x := (-1)) (pc' := 32) (by rfl) (by rfl) (by decide) ?_
                          refine Pa.iret (by rfl) ?_
                          show Pa N 270 36 [(3, .int 10), (2, .int 0), (0, .retAddr 5), (1, .int yx)] [.int (-1)] yA _
                          refine Pa.iret (by rfl) ?_
                          show Pa N 266 20 [(0, .retAddr 4), (1, .int yx), (2, .int 0)] [.int (-1)] yA _
                          refine Pa.mp 1 (pc' := 36) (l' := [(0, .retAddr 4), (1, .int yx), (2, .int 0)]) (st' := [.int (-1)]) (by rfl) ?_
                          refine Pa.iret (by rfl) ?_
                          show Pa N 265 6 [(0, .retAddr 4), (1, .int yx)] [.int (-1)] yA _
                          refine Pa.iret (by rfl) ?_
                          exact l3 h2 h4 h7 h11 h15 h19 h23 h27 h31 h35 h39 h43
                        · have h44 : 106 = yx.toInt8.toInt32.toInt := h44
                          refine Pa.mp 1 (pc' := 24) (l' := [(5, .int 9), (4, .int yx.toInt8.toInt32), (0, .retAddr 5), (1, .int yx), (2, .int 0), (3, .int 10)]) (st' := [.int 9]) (by rfl) ?_
                          refine Pa.iret (by rfl) ?_
                          show Pa N 270 36 [(3, .int 10), (2, .int 0), (0, .retAddr 5), (1, .int yx)] [.int 9] yA _
                          refine Pa.iret (by rfl) ?_
                          show Pa N 266 20 [(0, .retAddr 4), (1, .int yx), (2, .int 0)] [.int 9] yA _
                          refine Pa.mp 1 (pc' := 36) (l' := [(0, .retAddr 4), (1, .int yx), (2, .int 0)]) (st' := [.int 9]) (by rfl) ?_
                          refine Pa.iret (by rfl) ?_
                          show Pa N 265 6 [(0, .retAddr 4), (1, .int yx)] [.int 9] yA _
                          refine Pa.iret (by rfl) ?_
                          exact l4 h2 h4 h7 h11 h15 h19 h23 h27 h31 h35 h39 h44
                      · have h40 : 110 = yx.toInt8.toInt32.toInt := h40
                        refine Pa.mp 1 (pc' := 24) (l' := [(5, .int 8), (4, .int yx.toInt8.toInt32), (0, .retAddr 5), (1, .int yx), (2, .int 0), (3, .int 10)]) (st' := [.int 8]) (by rfl) ?_
                        refine Pa.iret (by rfl) ?_
                        show Pa N 270 36 [(3, .int 10), (2, .int 0), (0, .retAddr 5), (1, .int yx)] [.int 8] yA _
                        refine Pa.iret (by rfl) ?_
                        show Pa N 266 20 [(0, .retAddr 4), (1, .int yx), (2, .int 0)] [.int 8] yA _
                        refine Pa.mp 1 (pc' := 36) (l' := [(0, .retAddr 4), (1, .int yx), (2, .int 0)]) (st' := [.int 8]) (by rfl) ?_
                        refine Pa.iret (by rfl) ?_
                        show Pa N 265 6 [(0, .retAddr 4), (1, .int yx)] [.int 8] yA _
                        refine Pa.iret (by rfl) ?_
                        exact l5 h2 h4 h7 h11 h15 h19 h23 h27 h31 h35 h40
                    · have h36 : 112 = yx.toInt8.toInt32.toInt := h36
                      refine Pa.mp 1 (pc' := 24) (l' := [(5, .int 7), (4, .int yx.toInt8.toInt32), (0, .retAddr 5), (1, .int yx), (2, .int 0), (3, .int 10)]) (st' := [.int 7]) (by rfl) ?_
                      refine Pa.iret (by rfl) ?_
                      show Pa N 270 36 [(3, .int 10), (2, .int 0), (0, .retAddr 5), (1, .int yx)] [.int 7] yA _
                      refine Pa.iret (by rfl) ?_
                      show Pa N 266 20 [(0, .retAddr 4), (1, .int yx), (2, .int 0)] [.int 7] yA _
                      refine Pa.mp 1 (pc' := 36) (l' := [(0, .retAddr 4), (1, .int yx), (2, .int 0)]) (st' := [.int 7]) (by rfl) ?_
                      refine Pa.iret (by rfl) ?_
                      show Pa N 265 6 [(0, .retAddr 4), (1, .int yx)] [.int 7] yA _
                      refine Pa.iret (by rfl) ?_
                      exact l6 h2 h4 h7 h11 h15 h19 h23 h27 h31 h36
                  · have h32 : 121 = yx.toInt8.toInt32.toInt := h32
                    refine Pa.mp 1 (pc' := 24) (l' := [(5, .int 6), (4, .int yx.toInt8.toInt32), (0, .retAddr 5), (1, .int yx), (2, .int 0), (3, .int 10)]) (st' := [.int 6]) (by rfl) ?_
                    refine Pa.iret (by rfl) ?_
                    show Pa N 270 36 [(3, .int 10), (2, .int 0), (0, .retAddr 5), (1, .int yx)] [.int 6] yA _
                    refine Pa.iret (by rfl) ?_
                    show Pa N 266 20 [(0, .retAddr 4), (1, .int yx), (2, .int 0)] [.int 6] yA _
                    refine Pa.mp 1 (pc' := 36) (l' := [(0, .retAddr 4), (1, .int yx), (2, .int 0)]) (st' := [.int 6]) (by rfl) ?_
                    refine Pa.iret (by rfl) ?_
                    show Pa N 265 6 [(0, .retAddr 4), (1, .int yx)] [.int 6] yA _
                    refine Pa.iret (by rfl) ?_
                    exact l7 h2 h4 h7 h11 h15 h19 h23 h27 h32
                · have h28 : 114 = yx.toInt8.toInt32.toInt := h28
                  refine Pa.mp 1 (pc' := 24) (l' := [(5, .int 5), (4, .int yx.toInt8.toInt32), (0, .retAddr 5), (1, .int yx), (2, .int 0), (3, .int 10)]) (st' := [.int 5]) (by rfl) ?_
                  refine Pa.iret (by rfl) ?_
                  show Pa N 270 36 [(3, .int 10), (2, .int 0), (0, .retAddr 5), (1, .int yx)] [.int 5] yA _
                  refine Pa.iret (by rfl) ?_
                  show Pa N 266 20 [(0, .retAddr 4), (1, .int yx), (2, .int 0)] [.int 5] yA _
                  refine Pa.mp 1 (pc' := 36) (l' := [(0, .retAddr 4), (1, .int yx), (2, .int 0)]) (st' := [.int 5]) (by rfl) ?_
                  refine Pa.iret (by rfl) ?_
                  show Pa N 265 6 [(0, .retAddr 4), (1, .int yx)] [.int 5] yA _
                  refine Pa.iret (by rfl) ?_
                  exact l8 h2 h4 h7 h11 h15 h19 h23 h28
              · have h24 : 108 = yx.toInt8.toInt32.toInt := h24
                refine Pa.mp 1 (pc' := 24) (l' := [(5, .int 4), (4, .int yx.toInt8.toInt32), (0, .retAddr 5), (1, .int yx), (2, .int 0), (3, .int 10)]) (st' := [.int 4]) (by rfl) ?_
                refine Pa.iret (by rfl) ?_
                show Pa N 270 36 [(3, .int 10), (2, .int 0), (0, .retAddr 5), (1, .int yx)] [.int 4] yA _
                refine Pa.iret (by rfl) ?_
                show Pa N 266 20 [(0, .retAddr 4), (1, .int yx), (2, .int 0)] [.int 4] yA _
                refine Pa.mp 1 (pc' := 36) (l' := [(0, .retAddr 4), (1, .int yx), (2, .int 0)]) (st' := [.int 4]) (by rfl) ?_
                refine Pa.iret (by rfl) ?_
                show Pa N 265 6 [(0, .retAddr 4), (1, .int yx)] [.int 4] yA _
                refine Pa.iret (by rfl) ?_
                exact l9 h2 h4 h7 h11 h15 h19 h24
            · have h20 : 101 = yx.toInt8.toInt32.toInt := h20
              refine Pa.mp 1 (pc' := 24) (l' := [(5, .int 3), (4, .int yx.toInt8.toInt32), (0, .retAddr 5), (1, .int yx), (2, .int 0), (3, .int 10)]) (st' := [.int 3]) (by rfl) ?_
              refine Pa.iret (by rfl) ?_
              show Pa N 270 36 [(3, .int 10), (2, .int 0), (0, .retAddr 5), (1, .int yx)] [.int 3] yA _
              refine Pa.iret (by rfl) ?_
              show Pa N 266 20 [(0, .retAddr 4), (1, .int yx), (2, .int 0)] [.int 3] yA _
              refine Pa.mp 1 (pc' := 36) (l' := [(0, .retAddr 4), (1, .int yx), (2, .int 0)]) (st' := [.int 3]) (by rfl) ?_
              refine Pa.iret (by rfl) ?_
              show Pa N 265 6 [(0, .retAddr 4), (1, .int yx)] [.int 3] yA _
              refine Pa.iret (by rfl) ?_
              exact l10 h2 h4 h7 h11 h15 h20
          · have yh16 : 99 = yx.toInt8.toInt32.toInt := yh16
            refine Pa.mp 1 (pc' := 24) (l' := [(5, .int 2), (4, .int yx.toInt8.toInt32), (0, .retAddr 5), (1, .int yx), (2, .int 0), (3, .int 10)]) (st' := [.int 2]) (by rfl) ?_
            refine Pa.iret (by rfl) ?_
            show Pa N 270 36 [(3, .int 10), (2, .int 0), (0, .retAddr 5), (1, .int yx)] [.int 2] yA _
            refine Pa.iret (by rfl) ?_
            show Pa N 266 20 [(0, .retAddr 4), (1, .int yx), (2, .int 0)] [.int 2] yA _
            refine Pa.mp 1 (pc' := 36) (l' := [(0, .retAddr 4), (1, .int yx), (2, .int 0)]) (st' := [.int 2]) (by rfl) ?_
            refine Pa.iret (by rfl) ?_
            show Pa N 265 6 [(0, .retAddr 4), (1, .int yx)] [.int 2] yA _
            refine Pa.iret (by rfl) ?_
            exact l11 h2 h4 h7 h11 yh16
        · have h12 : 115 = yx.toInt8.toInt32.toInt := h12
          refine Pa.mp 1 (pc' := 24) (l' := [(5, .int 1), (4, .int yx.toInt8.toInt32), (0, .retAddr 5), (1, .int yx), (2, .int 0), (3, .int 10)]) (st' := [.int 1]) (by rfl) ?_
          refine Pa.iret (by rfl) ?_
          show Pa N 270 36 [(3, .int 10), (2, .int 0), (0, .retAddr 5), (1, .int yx)] [.int 1] yA _
          refine Pa.iret (by rfl) ?_
          show Pa N 266 20 [(0, .retAddr 4), (1, .int yx), (2, .int 0)] [.int 1] yA _
          refine Pa.mp 1 (pc' := 36) (l' := [(0, .retAddr 4), (1, .int yx), (2, .int 0)]) (st' := [.int 1]) (by rfl) ?_
          refine Pa.iret (by rfl) ?_
          show Pa N 265 6 [(0, .retAddr 4), (1, .int yx)] [.int 1] yA _
          refine Pa.iret (by rfl) ?_
          exact l12 h2 h4 h7 h12
      · have h8 : 107 = yx.toInt8.toInt32.toInt := h8
        refine Pa.mp 1 (pc' := 24) (l' := [(5, .int 0), (4, .int yx.toInt8.toInt32), (0, .retAddr 5), (1, .int yx), (2, .int 0), (3, .int 10)]) (st' := [.int 0]) (by rfl) ?_
        refine Pa.iret (by rfl) ?_
        show Pa N 270 36 [(3, .int 10), (2, .int 0), (0, .retAddr 5), (1, .int yx)] [.int 0] yA _
        refine Pa.iret (by rfl) ?_
        show Pa N 266 20 [(0, .retAddr 4), (1, .int yx), (2, .int 0)] [.int 0] yA _
        refine Pa.mp 1 (pc' := 36) (l' := [(0, .retAddr 4), (1, .int yx), (2, .int 0)]) (st' := [.int 0]) (by rfl) ?_
        refine Pa.iret (by rfl) ?_
        show Pa N 265 6 [(0, .retAddr 4), (1, .int yx)] [.int 0] yA _
        refine Pa.iret (by rfl) ?_
        exact l13 h2 h4 h8



theorem c_sgn (N : Nat) (yA : AW) (yx l : Int32) : Pa N 87 0 [(0, .int yx), (1, .int l)] [] yA (fun yu A1 => yu = some (.int (sgI yx l)) ∧ A1 = yA) := by
  refine bx_sgn yx l ?_ ?_ ?_ ?_ ?_ ?_ ?_ ?_ ?_ ?_ ?_ ?_ ?_ ?_ ?_
  all_goals
    intros
    refine ⟨?_, rfl⟩
    first
      | rw [sgI_1 (by unfold sgN; omega)]
      | rw [sgI_0 (by unfold sgN; omega)]
theorem c_ixOf (N : Nat) (yA : AW) (yx : Int32) (h0 : 0 ≤ yx.toInt) (h1 : yx.toInt ≤ 255) : Pa N 265 0 [(0, .retAddr 4), (1, .int ((yx.toUInt32 % 65536).toInt32))] [] yA (fun yu A1 => yu = some (.int (nmX yx)) ∧ A1 = yA) := by
  rw [i2c_id h0 h1]
  have e8 := i8_of h0 h1
  refine bx_ix yx ?_ ?_ ?_ ?_ ?_ ?_ ?_ ?_ ?_ ?_ ?_ ?_ ?_
  · intro yh; exfalso; omega
  · intro h2 h3; exfalso; omega
  · intros
    refine ⟨?_, rfl⟩
    show _ = some (Value.int (nmC yx.toInt))
    rw [nmC_no ⟨by omega, by omega, by omega, by omega, by omega, by omega, by omega, by omega, by omega, by omega⟩]
  · intros
    refine ⟨?_, rfl⟩
    show _ = some (Value.int (nmC yx.toInt))
    rw [show yx.toInt = 106 by omega]
    rfl
  · intros
    refine ⟨?_, rfl⟩
    show _ = some (Value.int (nmC yx.toInt))
    rw [show yx.toInt = 110 by omega]
    rfl
  · intros
    refine ⟨?_, rfl⟩
    show _ = some (Value.int (nmC yx.toInt))
    rw [show yx.toInt = 112 by omega]
    rfl
  · intros
    refine ⟨?_, rfl⟩
    show _ = some (Value.int (nmC yx.toInt))
    rw [show yx.toInt = 121 by omega]
    rfl
  · intros
    refine ⟨?_, rfl⟩
    show _ = some (Value.int (nmC yx.toInt))
    rw [show yx.toInt = 114 by omega]
    rfl
  · intros
    refine ⟨?_, rfl⟩
    show _ = some (Value.int (nmC yx.toInt))
    rw [show yx.toInt = 108 by omega]
    rfl
  · intros
    refine ⟨?_, rfl⟩
    show _ = some (Value.int (nmC yx.toInt))
    rw [show yx.toInt = 101 by omega]
    rfl
  · intros
    refine ⟨?_, rfl⟩
    show _ = some (Value.int (nmC yx.toInt))
    rw [show yx.toInt = 99 by omega]
    rfl
  · intros
    refine ⟨?_, rfl⟩
    show _ = some (Value.int (nmC yx.toInt))
    rw [show yx.toInt = 115 by omega]
    rfl
  · intros
    refine ⟨?_, rfl⟩
    show _ = some (Value.int (nmC yx.toInt))
    rw [show yx.toInt = 107 by omega]
    rfl
/-- ya yrow with numbers yput in from ya place on -/
def apd (yc : Nat → Int32) (ys : Nat) (cs : List Int32) : Nat → Int32 := fun yj => if ys ≤ yj ∧ yj < ys + cs.length then cs.getD (yj - ys) 0 else yc yj
section APD
variable {yc : Nat → Int32} {ys : Nat} {cs ds : List Int32} {yx : Int32}
theorem apd_nil : apd yc ys [] = yc := by
  funext yj
  show (if ys ≤ yj ∧ yj < ys + 0 then _ else yc yj) = yc yj
  rw [if_neg (by omega)]
theorem apd_app : apd (apd yc ys cs) (ys + cs.length) ds = apd yc ys (cs ++ ds) := by
  funext yj
  unfold apd
  rw [List.length_append]
  by_cases h1 : ys + cs.length ≤ yj ∧ yj < ys + cs.length + ds.length
  · rw [if_pos h1, if_pos ⟨by omega, by omega⟩, List.getD_eq_getElem?_getD, List.getD_eq_getElem?_getD, List.getElem?_append, if_neg (by omega), show yj - ys - cs.length = yj - (ys + cs.length) by omega]
  · rw [if_neg h1]
    by_cases h2 : ys ≤ yj ∧ yj < ys + cs.length
    · rw [if_pos h2, if_pos ⟨by omega, by omega⟩, List.getD_eq_getElem?_getD, List.getD_eq_getElem?_getD, List.getElem?_append, if_pos (by omega)]
    · rw [if_neg h2, if_neg (by omega)]
theorem apd_one : (fun yj => if yj = ys then yx else yc yj) = apd yc ys [yx] := by
  funext yj
  show _ = (if ys ≤ yj ∧ yj < ys + 1 then ([yx] : List Int32).getD (yj - ys) 0 else yc yj)
  by_cases yh : yj = ys
  · rw [if_pos yh, if_pos (by omega), yh, Nat.sub_self]
    rfl
  · rw [if_neg yh, if_neg (by omega)]
theorem apd_put : apd (apd yc ys cs) (ys + cs.length) [yx] = apd yc ys (cs ++ [yx]) := apd_app
theorem len1 : (cs ++ [yx]).length = cs.length + 1 := by simp
end APD
/-! worlds of the reader -/
def rW (yA : AW) (ya ys yq : Int32) (yc : Nat → Int32) : AW := uF (uI (uI (uI yA 35 4 ya) 35 3 ys) 35 5 yq) 37 yc
section RWW
variable {yA : AW} {ya ys yq a' s' q' yx : Int32} {yc : Nat → Int32} {yk : Nat}
theorem rW_at : uI (rW yA ya ys yq yc) 35 4 a' = rW yA a' ys yq yc := by
  refine Prod.ext ?_ rfl
  funext c' k'
  simp only [rW, uI, uF]
  repeat' split
  all_goals first
    | rfl
    | (exfalso; omega)
theorem rW_sd : uI (rW yA ya ys yq yc) 35 5 q' = rW yA ya ys q' yc := by
  refine Prod.ext ?_ rfl
  funext c' k'
  simp only [rW, uI, uF]
  repeat' split
  all_goals first
    | rfl
    | (exfalso; omega)
theorem rW_put : uI (uI (rW yA ya ys yq yc) 37 yk yx) 35 3 s' = rW yA ya s' yq (apd yc yk [yx]) := by
  rw [show apd yc yk [yx] = (fun yj => if yj = yk then yx else yc yj) from apd_one.symm]
  refine Prod.ext ?_ rfl
  funext c' k'
  simp only [rW, uI, uF]
  repeat' split
  all_goals first
    | rfl
    | (exfalso; omega)
theorem rW_mk : uI (uI (uI yA 35 4 ya) 35 3 ys) 35 5 yq = rW yA ya ys yq (yA.1 37) := by
  refine Prod.ext ?_ rfl
  funext c' k'
  simp only [rW, uI, uF]
  repeat' split
  all_goals first
    | rfl
    | (exfalso; omega)
    | (subst_vars; rfl)
end RWW
/-! WHAT IS READ: the codes of ya part, or the place of the fault -/
def rdC (T : Nat → Int32) (yn ya : Nat) : Int := if ya < yn then (T ya).toInt else -1
def rdN (T : Nat → Int32) (yn : Nat) : Nat → Nat → Int32 → Nat × Int32
  | 0, ya, yv => (ya, yv)
  | yk + 1, ya, yv => if 48 ≤ rdC T yn ya ∧ rdC T yn ya ≤ 57 then rdN T yn yk (ya + 1) (yv * 10 + T ya - 48) else (ya, yv)
abbrev rRs : Type := Option (Nat × Option (List Int32))
def rB (yx : rRs) (yg : Nat → List Int32 → rRs) : rRs := match yx with
  | some (yb, some cs) => yg yb cs
  | yr => yr
noncomputable def rIf (yp : Prop) (yx yy : rRs) : rRs := @ite _ yp (Classical.propDecidable _) yx yy
theorem rIf_1 {yp : Prop} {yx yy : rRs} (yh : yp) : rIf yp yx yy = yx := @if_pos _ (Classical.propDecidable _) yh _ _ _
theorem rIf_0 {yp : Prop} {yx yy : rRs} (yh : ¬ yp) : rIf yp yx yy = yy := @if_neg _ (Classical.propDecidable _) yh _ _ _
noncomputable def rP (T : Nat → Int32) (yn : Nat) : Nat → Nat → Nat → Nat → rRs
  | 0, _, _, _ => none
  | yf + 1, ym, o, ya => rIf (ym < 5) (rB (rP T yn yf (ym + 1) o ya) (fun yb cs => rB (rP T yn yf (ym + 10) o yb) (fun yd ds => some (yd, some (cs ++ ds)))))
    (rIf (ym = 5) (rIf (48 ≤ rdC T yn ya ∧ rdC T yn ya ≤ 57) (some ((rdN T yn 6 ya 0).1, some [(rdN T yn 6 ya 0).2]))
      (rIf (ya < yn ∧ 0 ≤ (nmX (T ya)).toInt) (some (ya + 1, some [-1 - nmX (T ya)]))
      (rIf (rdC T yn ya = 33 ∧ o < 8) (rB (rP T yn yf 5 (o + 1) (ya + 1)) (fun yb cs => some (yb, some (cs ++ [-33]))))
      (rIf (rdC T yn ya = 40 ∧ o < 8) (rB (rP T yn yf 0 (o + 1) (ya + 1)) (fun yb cs => rIf (rdC T yn yb = 41) (some (yb + 1, some cs)) (some (yb, none))))
      (some (ya, none))))))
    (rIf (sgN ((ym : Int) - 10) (rdC T yn ya)) (rB (rP T yn yf (ym - 9) o (ya + 1)) (fun yb cs => rIf (ym = 12) (some (yb, some (cs ++ [-(T ya)]))) (rB (rP T yn yf ym o yb) (fun yd ds => some (yd, some (cs ++ -(T ya) :: ds))))))
      (some (ya, some []))))
section RPS
variable {T : Nat → Int32} {yn : Nat}
theorem rP_s (yf ym o ya : Nat) : rP T yn (yf + 1) ym o ya = rIf (ym < 5) (rB (rP T yn yf (ym + 1) o ya) (fun yb cs => rB (rP T yn yf (ym + 10) o yb) (fun yd ds => some (yd, some (cs ++ ds)))))
    (rIf (ym = 5) (rIf (48 ≤ rdC T yn ya ∧ rdC T yn ya ≤ 57) (some ((rdN T yn 6 ya 0).1, some [(rdN T yn 6 ya 0).2]))
      (rIf (ya < yn ∧ 0 ≤ (nmX (T ya)).toInt) (some (ya + 1, some [-1 - nmX (T ya)]))
      (rIf (rdC T yn ya = 33 ∧ o < 8) (rB (rP T yn yf 5 (o + 1) (ya + 1)) (fun yb cs => some (yb, some (cs ++ [-33]))))
      (rIf (rdC T yn ya = 40 ∧ o < 8) (rB (rP T yn yf 0 (o + 1) (ya + 1)) (fun yb cs => rIf (rdC T yn yb = 41) (some (yb + 1, some cs)) (some (yb, none))))
      (some (ya, none))))))
    (rIf (sgN ((ym : Int) - 10) (rdC T yn ya)) (rB (rP T yn yf (ym - 9) o (ya + 1)) (fun yb cs => rIf (ym = 12) (some (yb, some (cs ++ [-(T ya)]))) (rB (rP T yn yf ym o yb) (fun yd ds => some (yd, some (cs ++ -(T ya) :: ds))))))
      (some (ya, some [])))) := rfl
def rLe (yx yy : rRs) : Prop := ∀ yr, yx = some yr → yy = some yr
theorem rLe_r (yx : rRs) : rLe yx yx := fun _ yh => yh
theorem rLe_n (yx : rRs) : rLe none yx := fun _ yh => nomatch yh
theorem rLe_B {yx yy : rRs} {yg yh : Nat → List Int32 → rRs} (hx : rLe yx yy) (hg : ∀ yb cs, rLe (yg yb cs) (yh yb cs)) : rLe (rB yx yg) (rB yy yh) := by
  intro yr hr
  match yx, hx, hr with
  | none, _, hr => exact nomatch (show (none : rRs) = some yr from hr)
  | some (yb, some cs), hx, hr =>
    rw [hx _ rfl]
    exact hg yb cs yr hr
  | some (yb, none), hx, hr =>
    rw [hx _ rfl]
    exact hr
theorem rLe_I {yp : Prop} {yx yy x' y' : rRs} (h1 : yp → rLe yx x') (h2 : ¬ yp → rLe yy y') : rLe (rIf yp yx yy) (rIf yp x' y') := by
  rcases Classical.em yp with yh | yh
  · rw [rIf_1 yh, rIf_1 yh]; exact h1 yh
  · rw [rIf_0 yh, rIf_0 yh]; exact h2 yh
theorem rP_m : ∀ yf ym o ya, rLe (rP T yn yf ym o ya) (rP T yn (yf + 1) ym o ya)
  | 0, _, _, _ => rLe_n _
  | yf + 1, ym, o, ya => by
    rw [rP_s yf ym o ya, rP_s (yf + 1) ym o ya]
    refine rLe_I (fun _ => rLe_B (rP_m yf _ _ _) (fun yb cs => rLe_B (rP_m yf _ _ _) (fun yd ds => rLe_r _))) (fun _ => rLe_I (fun _ => rLe_I (fun _ => rLe_r _) (fun _ => rLe_I (fun _ => rLe_r _) (fun _ => rLe_I (fun _ => rLe_B (rP_m yf _ _ _) (fun yb cs => rLe_r _)) (fun _ => rLe_I (fun _ => rLe_B (rP_m yf _ _ _) (fun yb cs => rLe_r _)) (fun _ => rLe_r _))))) (fun _ => rLe_I (fun _ => rLe_B (rP_m yf _ _ _) (fun yb cs => rLe_I (fun _ => rLe_r _) (fun _ => rLe_B (rP_m yf _ _ _) (fun yd ds => rLe_r _)))) (fun _ => rLe_r _)))
theorem rP_up {yf ym o ya : Nat} {yr : Nat × Option (List Int32)} (yh : rP T yn yf ym o ya = some yr) : ∀ yg, yf ≤ yg → rP T yn yg ym o ya = some yr := by
  intro yg hg
  obtain ⟨yk, rfl⟩ := Nat.exists_eq_add_of_le hg
  clear hg
  induction yk with
  | zero => exact yh
  | succ yk yih => exact rP_m (yf + yk) ym o ya yr yih
def RP (T : Nat → Int32) (yn ym o ya : Nat) (yr : Nat × Option (List Int32)) : Prop := ∃ yf, rP T yn yf ym o ya = some yr
theorem RP.one {ym o ya : Nat} {yr yq : Nat × Option (List Int32)} (h1 : RP T yn ym o ya yr) (h2 : RP T yn ym o ya yq) : yr = yq := by
  obtain ⟨yf, hf⟩ := h1
  obtain ⟨yg, hg⟩ := h2
  have ya1 := rP_up hf (yf + yg) (by omega)
  have a2 := rP_up hg (yf + yg) (by omega)
  rw [ya1] at a2
  cases a2
  rfl
theorem RP.two {ym o ya ym2 o2 a2 : Nat} {yr yq : Nat × Option (List Int32)} (h1 : RP T yn ym o ya yr) (h2 : RP T yn ym2 o2 a2 yq) : ∃ yf, rP T yn yf ym o ya = some yr ∧ rP T yn yf ym2 o2 a2 = some yq := by
  obtain ⟨yf, hf⟩ := h1
  obtain ⟨yg, hg⟩ := h2
  exact ⟨yf + yg, rP_up hf _ (by omega), rP_up hg _ (by omega)⟩
variable {ym o ya yb yd : Nat} {cs ds : List Int32}
theorem RP.pY (yh : ym < 5) (h1 : RP T yn (ym + 1) o ya (yb, some cs)) (h2 : RP T yn (ym + 10) o yb (yd, some ds)) : RP T yn ym o ya (yd, some (cs ++ ds)) := by
  obtain ⟨yf, yq1, yq2⟩ := h1.two h2
  exact ⟨yf + 1, by rw [rP_s, rIf_1 yh, yq1]; show rB (rP T yn yf (ym + 10) o yb) _ = _; rw [yq2]; rfl⟩
theorem RP.pN2 (yh : ym < 5) (h1 : RP T yn (ym + 1) o ya (yb, some cs)) (h2 : RP T yn (ym + 10) o yb (yd, none)) : RP T yn ym o ya (yd, none) := by
  obtain ⟨yf, yq1, yq2⟩ := h1.two h2
  exact ⟨yf + 1, by rw [rP_s, rIf_1 yh, yq1]; show rB (rP T yn yf (ym + 10) o yb) _ = _; rw [yq2]; rfl⟩
theorem RP.pN1 (yh : ym < 5) (h1 : RP T yn (ym + 1) o ya (yb, none)) : RP T yn ym o ya (yb, none) := by
  obtain ⟨yf, yq1⟩ := h1
  exact ⟨yf + 1, by rw [rP_s, rIf_1 yh, yq1]; rfl⟩
theorem RP.l0 (yh : ¬ sgN (ym : Int) (rdC T yn ya)) : RP T yn (ym + 10) o ya (ya, some []) :=
  ⟨1, by rw [rP_s, rIf_0 (by omega), rIf_0 (by omega), rIf_0 (by rw [show ((ym + 10 : Nat) : Int) - 10 = (ym : Int) by omega]; exact yh)]⟩
theorem RP.lY (yh : sgN (ym : Int) (rdC T yn ya)) (yhm : ym ≠ 2) (h1 : RP T yn (ym + 1) o (ya + 1) (yb, some cs)) (h2 : RP T yn (ym + 10) o yb (yd, some ds)) : RP T yn (ym + 10) o ya (yd, some (cs ++ -(T ya) :: ds)) := by
  obtain ⟨yf, yq1, yq2⟩ := h1.two h2
  refine ⟨yf + 1, ?_⟩
  rw [rP_s, rIf_0 (by omega), rIf_0 (by omega), rIf_1 (by rw [show ((ym + 10 : Nat) : Int) - 10 = (ym : Int) by omega]; exact yh), show ym + 10 - 9 = ym + 1 by omega, yq1]
  show rIf (ym + 10 = 12) _ _ = _
  rw [rIf_0 (by omega), yq2]
  rfl
theorem RP.lN2 (yh : sgN (ym : Int) (rdC T yn ya)) (yhm : ym ≠ 2) (h1 : RP T yn (ym + 1) o (ya + 1) (yb, some cs)) (h2 : RP T yn (ym + 10) o yb (yd, none)) : RP T yn (ym + 10) o ya (yd, none) := by
  obtain ⟨yf, yq1, yq2⟩ := h1.two h2
  refine ⟨yf + 1, ?_⟩
  rw [rP_s, rIf_0 (by omega), rIf_0 (by omega), rIf_1 (by rw [show ((ym + 10 : Nat) : Int) - 10 = (ym : Int) by omega]; exact yh), show ym + 10 - 9 = ym + 1 by omega, yq1]
  show rIf (ym + 10 = 12) _ _ = _
  rw [rIf_0 (by omega), yq2]
  rfl
theorem RP.lZ (yh : sgN (ym : Int) (rdC T yn ya)) (yhm : ym = 2) (h1 : RP T yn (ym + 1) o (ya + 1) (yb, some cs)) : RP T yn (ym + 10) o ya (yb, some (cs ++ [-(T ya)])) := by
  obtain ⟨yf, yq1⟩ := h1
  refine ⟨yf + 1, ?_⟩
  rw [rP_s, rIf_0 (by omega), rIf_0 (by omega), rIf_1 (by rw [show ((ym + 10 : Nat) : Int) - 10 = (ym : Int) by omega]; exact yh), show ym + 10 - 9 = ym + 1 by omega, yq1]
  show rIf (ym + 10 = 12) _ _ = _
  rw [rIf_1 (by omega)]
theorem RP.lN1 (yh : sgN (ym : Int) (rdC T yn ya)) (h1 : RP T yn (ym + 1) o (ya + 1) (yb, none)) : RP T yn (ym + 10) o ya (yb, none) := by
  obtain ⟨yf, yq1⟩ := h1
  refine ⟨yf + 1, ?_⟩
  rw [rP_s, rIf_0 (by omega), rIf_0 (by omega), rIf_1 (by rw [show ((ym + 10 : Nat) : Int) - 10 = (ym : Int) by omega]; exact yh), show ym + 10 - 9 = ym + 1 by omega, yq1]
  rfl
theorem RP.num (yh : 48 ≤ rdC T yn ya ∧ rdC T yn ya ≤ 57) : RP T yn 5 o ya ((rdN T yn 6 ya 0).1, some [(rdN T yn 6 ya 0).2]) :=
  ⟨1, by rw [rP_s, rIf_0 (by omega), rIf_1 rfl, rIf_1 yh]⟩
theorem RP.nam (yh : ¬ (48 ≤ rdC T yn ya ∧ rdC T yn ya ≤ 57)) (h2 : ya < yn ∧ 0 ≤ (nmX (T ya)).toInt) : RP T yn 5 o ya (ya + 1, some [-1 - nmX (T ya)]) :=
  ⟨1, by rw [rP_s, rIf_0 (by omega), rIf_1 rfl, rIf_0 yh, rIf_1 h2]⟩
theorem RP.ntY (h2 : ¬ (ya < yn ∧ 0 ≤ (nmX (T ya)).toInt)) (h3 : rdC T yn ya = 33 ∧ o < 8) (h1 : RP T yn 5 (o + 1) (ya + 1) (yb, some cs)) : RP T yn 5 o ya (yb, some (cs ++ [-33])) := by
  obtain ⟨yf, yq1⟩ := h1
  exact ⟨yf + 1, by rw [rP_s, rIf_0 (by omega), rIf_1 rfl, rIf_0 (by omega), rIf_0 h2, rIf_1 h3, yq1]; rfl⟩
theorem RP.ntN (h2 : ¬ (ya < yn ∧ 0 ≤ (nmX (T ya)).toInt)) (h3 : rdC T yn ya = 33 ∧ o < 8) (h1 : RP T yn 5 (o + 1) (ya + 1) (yb, none)) : RP T yn 5 o ya (yb, none) := by
  obtain ⟨yf, yq1⟩ := h1
  exact ⟨yf + 1, by rw [rP_s, rIf_0 (by omega), rIf_1 rfl, rIf_0 (by omega), rIf_0 h2, rIf_1 h3, yq1]; rfl⟩
theorem RP.paY (h2 : ¬ (ya < yn ∧ 0 ≤ (nmX (T ya)).toInt)) (h3 : rdC T yn ya = 40 ∧ o < 8) (h1 : RP T yn 0 (o + 1) (ya + 1) (yb, some cs)) (h4 : rdC T yn yb = 41) : RP T yn 5 o ya (yb + 1, some cs) := by
  obtain ⟨yf, yq1⟩ := h1
  refine ⟨yf + 1, ?_⟩
  rw [rP_s, rIf_0 (by omega), rIf_1 rfl, rIf_0 (by omega), rIf_0 h2, rIf_0 (by omega), rIf_1 h3, yq1]
  show rIf (rdC T yn yb = 41) _ _ = _
  rw [rIf_1 h4]
theorem RP.paN2 (h2 : ¬ (ya < yn ∧ 0 ≤ (nmX (T ya)).toInt)) (h3 : rdC T yn ya = 40 ∧ o < 8) (h1 : RP T yn 0 (o + 1) (ya + 1) (yb, some cs)) (h4 : ¬ rdC T yn yb = 41) : RP T yn 5 o ya (yb, none) := by
  obtain ⟨yf, yq1⟩ := h1
  refine ⟨yf + 1, ?_⟩
  rw [rP_s, rIf_0 (by omega), rIf_1 rfl, rIf_0 (by omega), rIf_0 h2, rIf_0 (by omega), rIf_1 h3, yq1]
  show rIf (rdC T yn yb = 41) _ _ = _
  rw [rIf_0 h4]
theorem RP.paN1 (h2 : ¬ (ya < yn ∧ 0 ≤ (nmX (T ya)).toInt)) (h3 : rdC T yn ya = 40 ∧ o < 8) (h1 : RP T yn 0 (o + 1) (ya + 1) (yb, none)) : RP T yn 5 o ya (yb, none) := by
  obtain ⟨yf, yq1⟩ := h1
  refine ⟨yf + 1, ?_⟩
  rw [rP_s, rIf_0 (by omega), rIf_1 rfl, rIf_0 (by omega), rIf_0 h2, rIf_0 (by omega), rIf_1 h3, yq1]
  rfl
theorem RP.no (yh : ¬ (48 ≤ rdC T yn ya ∧ rdC T yn ya ≤ 57)) (h2 : ¬ (ya < yn ∧ 0 ≤ (nmX (T ya)).toInt)) (h3 : ¬ (rdC T yn ya = 33 ∧ o < 8)) (h4 : ¬ (rdC T yn ya = 40 ∧ o < 8)) : RP T yn 5 o ya (ya, none) :=
  ⟨1, by rw [rP_s, rIf_0 (by omega), rIf_1 rfl, rIf_0 yh, rIf_0 h2, rIf_0 h3, rIf_0 h4]⟩
theorem rdC_in (yh : ya < yn) : rdC T yn ya = (T ya).toInt := if_pos yh
theorem rdC_out (yh : yn ≤ ya) : rdC T yn ya = -1 := if_neg (by omega)
theorem rdN_stop {yk : Nat} {yv : Int32} (yh : ¬ (48 ≤ rdC T yn ya ∧ rdC T yn ya ≤ 57)) : rdN T yn yk ya yv = (ya, yv) := by
  cases yk with
  | zero => rfl
  | succ yk => exact if_neg yh
theorem rdN_go {yk : Nat} {yv : Int32} (yh : 48 ≤ rdC T yn ya ∧ rdC T yn ya ≤ 57) : rdN T yn (yk + 1) ya yv = rdN T yn yk (ya + 1) (yv * 10 + T ya - 48) := if_pos yh
theorem rdN_le : ∀ (yk ya : Nat) (yv : Int32), ya ≤ yn → ya ≤ (rdN T yn yk ya yv).1 ∧ (rdN T yn yk ya yv).1 ≤ yn
  | 0, ya, yv, yh => ⟨Nat.le_refl _, yh⟩
  | yk + 1, ya, yv, yh => by
    rcases Classical.em (48 ≤ rdC T yn ya ∧ rdC T yn ya ≤ 57) with yq | yq
    · have hl : ya < yn := by
        rcases Nat.lt_or_ge ya yn with yp | yp
        · exact yp
        · rw [rdC_out yp] at yq; omega
      rw [rdN_go yq]
      have := rdN_le yk (ya + 1) (yv * 10 + T ya - 48) hl
      omega
    · rw [rdN_stop yq]
      exact ⟨Nat.le_refl _, yh⟩
end RPS
theorem bx_num0 {N : Nat} {yA : AW} {yQ : Option Value → AW → Prop} 
    (l1 : Pa N 89 4 [(0, .ref 35), (1, .int 0), (2, .int 0)] [] yA yQ) :
    Pa N 89 0 [(0, .ref 35)] [] yA yQ := by
  refine Pa.ic (x := 0) (pc' := 1) (by rfl) (by rfl) (by decide) ?_
  refine Pa.mp 1 (pc' := 2) (l' := [(1, .int 0), (0, .ref 35)]) (st' := []) (by rfl) ?_
  refine Pa.ic (x := 0) (pc' := 3) (by rfl) (by rfl) (by decide) ?_
  refine Pa.mp 1 (pc' := 4) (l' := [(2, .int 0), (1, .int 0), (0, .ref 35)]) (st' := []) (by rfl) ?_
  refine Pa.lv (l' := [(0, .ref 35), (1, .int 0), (2, .int 0)]) (lvS_c rfl (lvS_c rfl (lvS_c rfl (lvS_nil)))) rfl ?_
  exact l1


theorem bx_num {N : Nat} {yA : AW} {yQ : Option Value → AW → Prop} (yv yi : Int32) (ya ys yq : Int32) (yc : Nat → Int32) (hs : ys.toInt < 161)
    (l1 : 6 ≤ yi.toInt → 0 ≤ ys.toInt → ys.toInt < 161 → yQ none (uI (uI (uF (uI (uI (uI yA 35 4 ya) 35 3 ys) 35 5 yq) 37 yc) 37 ys.toInt.toNat yv) 35 3 (ys + 1)))
    (l2 : yi.toInt < 6 → (yA.1 35 2).toInt ≤ ya.toInt → 0 ≤ ys.toInt → ys.toInt < 161 → yQ none (uI (uI (uF (uI (uI (uI yA 35 4 ya) 35 3 ys) 35 5 yq) 37 yc) 37 ys.toInt.toNat yv) 35 3 (ys + 1)))
    (l3 : yi.toInt < 6 → ya.toInt < (yA.1 35 2).toInt → 0 ≤ ya.toInt → ya.toInt < 160 → (yA.1 36 ya.toInt.toNat).toInt < 48 → 0 ≤ ys.toInt → ys.toInt < 161 → yQ none (uI (uI (uF (uI (uI (uI yA 35 4 ya) 35 3 ys) 35 5 yq) 37 yc) 37 ys.toInt.toNat yv) 35 3 (ys + 1)))
    (l4 : yi.toInt < 6 → ya.toInt < (yA.1 35 2).toInt → 0 ≤ ya.toInt → ya.toInt < 160 → 48 ≤ (yA.1 36 ya.toInt.toNat).toInt → 57 < (yA.1 36 ya.toInt.toNat).toInt → 0 ≤ ys.toInt → ys.toInt < 161 → yQ none (uI (uI (uF (uI (uI (uI yA 35 4 ya) 35 3 ys) 35 5 yq) 37 yc) 37 ys.toInt.toNat yv) 35 3 (ys + 1)))
    (l5 : yi.toInt < 6 → ya.toInt < (yA.1 35 2).toInt → 0 ≤ ya.toInt → ya.toInt < 160 → 48 ≤ (yA.1 36 ya.toInt.toNat).toInt → (yA.1 36 ya.toInt.toNat).toInt ≤ 57 → Pa N 89 4 [(0, .ref 35), (1, .int (((yv * 10) + (yA.1 36 ya.toInt.toNat)) - 48)), (2, .int (yi + 1))] [] (uI (uF (uI (uI (uI yA 35 4 ya) 35 3 ys) 35 5 yq) 37 yc) 35 4 (ya + 1)) yQ) :
    Pa (N + 1) 89 4 [(0, .ref 35), (1, .int yv), (2, .int yi)] [] (uF (uI (uI (uI yA 35 4 ya) 35 3 ys) 35 5 yq) 37 yc) yQ := by
  refine Pa.mp1 0 (pc' := 5) (l' := [(0, .ref 35), (1, .int yv), (2, .int yi)]) (st' := [.int yi]) (by rfl) ?_
  refine Pa.ic (x := 6) (pc' := 7) (by rfl) (by rfl) (by decide) ?_
  refine Pa.if2 (a := yi.toInt) (b := 6) (t := 57) (by rfl) (by rfl) (rfl) (by decide) (fun h1 => ?_) (fun h2 => ?_)
  · have h1 : 6 ≤ yi.toInt := h1
    refine Pa.mp 2 (pc' := 59) (l' := [(0, .ref 35), (1, .int yv), (2, .int yi)]) (st' := [.int yv, .ref 35]) (by rfl) ?_
    refine Pa.inv (by rfl) (by rfl) (.inl rfl) (by rfl) ?_
    show Pa N 84 0 [(0, .ref 35), (1, .int yv)] [] (uF (uI (uI (uI yA 35 4 ya) 35 3 ys) 35 5 yq) 37 yc) _
    refine Pa.mp 1 (pc' := 1) (l' := [(0, .ref 35), (1, .int yv)]) (st' := [.ref 35]) (by rfl) ?_
    refine Pa.gfI (v := ys) (by rfl) (by rfl) (.inl rfl) (by rfl) (by show (uF (uI (uI (uI yA 35 4 ya) 35 3 ys) 35 5 yq) 37 yc).1 35 3 = ys; rw [uF_c (by decide), uI_k (by decide), uI_h]) ?_
    refine Pa.mp 1 (pc' := 5) (l' := [(0, .ref 35), (1, .int yv)]) (st' := [.ref 35, .int ys]) (by rfl) ?_
    refine Pa.gfR (by rfl) (by rfl) (.inl rfl) (by rfl) ?_
    show Pa N 84 8 [(0, .ref 35), (1, .int yv)] [.ref 37, .int ys] (uF (uI (uI (uI yA 35 4 ya) 35 3 ys) 35 5 yq) 37 yc) _
    refine Pa.lens (x := 161) (by rfl) (by rfl) (by decide) ?_
    refine Pa.if2 (a := ys.toInt) (b := 161) (t := 32) (by rfl) (by rfl) (rfl) (by decide) (fun yh => (by exfalso; have h' : 161 ≤ ys.toInt := yh; omega)) (fun _ => ?_)
    refine Pa.mp 1 (pc' := 13) (l' := [(0, .ref 35), (1, .int yv)]) (st' := [.ref 35]) (by rfl) ?_
    refine Pa.gfR (by rfl) (by rfl) (.inl rfl) (by rfl) ?_
    show Pa N 84 16 [(0, .ref 35), (1, .int yv)] [.ref 37] (uF (uI (uI (uI yA 35 4 ya) 35 3 ys) 35 5 yq) 37 yc) _
    refine Pa.mp 1 (pc' := 17) (l' := [(0, .ref 35), (1, .int yv)]) (st' := [.ref 35, .ref 37]) (by rfl) ?_
    refine Pa.gfI (v := ys) (by rfl) (by rfl) (.inl rfl) (by rfl) (by show (uF (uI (uI (uI yA 35 4 ya) 35 3 ys) 35 5 yq) 37 yc).1 35 3 = ys; rw [uF_c (by decide), uI_k (by decide), uI_h]) ?_
    refine Pa.mp 1 (pc' := 21) (l' := [(0, .ref 35), (1, .int yv)]) (st' := [.int yv, .int ys, .ref 37]) (by rfl) ?_
    refine Pa.asts (j' := ys.toInt.toNat) (by rfl) (by rfl) (by rfl) (fun h4 h5 => ?_)
    have h4 : 0 ≤ ys.toInt := h4
    have h5 : ys.toInt < 161 := h5
    show Pa N 84 22 [(0, .ref 35), (1, .int yv)] [] (uI (uF (uI (uI (uI yA 35 4 ya) 35 3 ys) 35 5 yq) 37 yc) 37 ys.toInt.toNat yv) _
    refine Pa.mp 2 (pc' := 24) (l' := [(0, .ref 35), (1, .int yv)]) (st' := [.ref 35, .ref 35]) (by rfl) ?_
    refine Pa.gfI (v := ys) (by rfl) (by rfl) (.inl rfl) (by rfl) (by show (uI (uF (uI (uI (uI yA 35 4 ya) 35 3 ys) 35 5 yq) 37 yc) 37 ys.toInt.toNat yv).1 35 3 = ys; rw [uI_c (by decide), uF_c (by decide), uI_k (by decide), uI_h]) ?_
    refine Pa.ic (x := 1) (pc' := 28) (by rfl) (by rfl) (by decide) ?_
    refine Pa.mp 1 (pc' := 29) (l' := [(0, .ref 35), (1, .int yv)]) (st' := [.int (ys + 1), .ref 35]) (by rfl) ?_
    refine Pa.pfI (by rfl) (by rfl) (.inl rfl) (by rfl) ?_
    show Pa N 84 32 [(0, .ref 35), (1, .int yv)] [] (uI (uI (uF (uI (uI (uI yA 35 4 ya) 35 3 ys) 35 5 yq) 37 yc) 37 ys.toInt.toNat yv) 35 3 (ys + 1)) _
    refine Pa.vret (by rfl) ?_
    show Pa N 89 62 [(0, .ref 35), (1, .int yv), (2, .int yi)] [] (uI (uI (uF (uI (uI (uI yA 35 4 ya) 35 3 ys) 35 5 yq) 37 yc) 37 ys.toInt.toNat yv) 35 3 (ys + 1)) _
    refine Pa.vret (by rfl) ?_
    exact l1 h1 h4 h5
  · have h2 : yi.toInt < 6 := h2
    refine Pa.mp 1 (pc' := 11) (l' := [(0, .ref 35), (1, .int yv), (2, .int yi)]) (st' := [.ref 35]) (by rfl) ?_
    refine Pa.inv (by rfl) (by rfl) (.inl rfl) (by rfl) ?_
    show Pa N 83 0 [(0, .ref 35)] [] (uF (uI (uI (uI yA 35 4 ya) 35 3 ys) 35 5 yq) 37 yc) _
    refine Pa.mp 1 (pc' := 1) (l' := [(0, .ref 35)]) (st' := [.ref 35]) (by rfl) ?_
    refine Pa.gfI (v := ya) (by rfl) (by rfl) (.inl rfl) (by rfl) (by show (uF (uI (uI (uI yA 35 4 ya) 35 3 ys) 35 5 yq) 37 yc).1 35 4 = ya; rw [uF_c (by decide), uI_k (by decide), uI_k (by decide), uI_h]) ?_
    refine Pa.mp 1 (pc' := 5) (l' := [(0, .ref 35)]) (st' := [.ref 35, .int ya]) (by rfl) ?_
    refine Pa.gfI (v := yA.1 35 2) (by rfl) (by rfl) (.inl rfl) (by rfl) (by show (uF (uI (uI (uI yA 35 4 ya) 35 3 ys) 35 5 yq) 37 yc).1 35 2 = yA.1 35 2; rw [uF_c (by decide), uI_k (by decide), uI_k (by decide), uI_k (by decide)]) ?_
    refine Pa.if2 (a := ya.toInt) (b := (yA.1 35 2).toInt) (t := 23) (by rfl) (by rfl) (rfl) (rfl) (fun h6 => ?_) (fun h7 => ?_)
    · have h6 : (yA.1 35 2).toInt ≤ ya.toInt := h6
      refine Pa.ic (x := (-1)) (pc' := 24) (by rfl) (by rfl) (by decide) ?_
      refine Pa.iret (by rfl) ?_
      show Pa N 89 14 [(0, .ref 35), (1, .int yv), (2, .int yi)] [.int (-1)] (uF (uI (uI (uI yA 35 4 ya) 35 3 ys) 35 5 yq) 37 yc) _
      refine Pa.ic (x := 48) (pc' := 16) (by rfl) (by rfl) (by decide) ?_
      refine Pa.if2k true (by rfl) (by rfl) (by decide) ?_
      show Pa N 89 57 [(0, .ref 35), (1, .int yv), (2, .int yi)] [] (uF (uI (uI (uI yA 35 4 ya) 35 3 ys) 35 5 yq) 37 yc) _
      refine Pa.mp 2 (pc' := 59) (l' := [(0, .ref 35), (1, .int yv), (2, .int yi)]) (st' := [.int yv, .ref 35]) (by rfl) ?_
      refine Pa.inv (by rfl) (by rfl) (.inl rfl) (by rfl) ?_
      show Pa N 84 0 [(0, .ref 35), (1, .int yv)] [] (uF (uI (uI (uI yA 35 4 ya) 35 3 ys) 35 5 yq) 37 yc) _
      refine Pa.mp 1 (pc' := 1) (l' := [(0, .ref 35), (1, .int yv)]) (st' := [.ref 35]) (by rfl) ?_
      refine Pa.gfI (v := ys) (by rfl) (by rfl) (.inl rfl) (by rfl) (by show (uF (uI (uI (uI yA 35 4 ya) 35 3 ys) 35 5 yq) 37 yc).1 35 3 = ys; rw [uF_c (by decide), uI_k (by decide), uI_h]) ?_
      refine Pa.mp 1 (pc' := 5) (l' := [(0, .ref 35), (1, .int yv)]) (st' := [.ref 35, .int ys]) (by rfl) ?_
      refine Pa.gfR (by rfl) (by rfl) (.inl rfl) (by rfl) ?_
      show Pa N 84 8 [(0, .ref 35), (1, .int yv)] [.ref 37, .int ys] (uF (uI (uI (uI yA 35 4 ya) 35 3 ys) 35 5 yq) 37 yc) _
      refine Pa.lens (x := 161) (by rfl) (by rfl) (by decide) ?_
      refine Pa.if2 (a := ys.toInt) (b := 161) (t := 32) (by rfl) (by rfl) (rfl) (by decide) (fun yh => (by exfalso; have h' : 161 ≤ ys.toInt := yh; omega)) (fun _ => ?_)
      refine Pa.mp 1 (pc' := 13) (l' := [(0, .ref 35), (1, .int yv)]) (st' := [.ref 35]) (by rfl) ?_
      refine Pa.gfR (by rfl) (by rfl) (.inl rfl) (by rfl) ?_
      show Pa N 84 16 [(0, .ref 35), (1, .int yv)] [.ref 37] (uF (uI (uI (uI yA 35 4 ya) 35 3 ys) 35 5 yq) 37 yc) _
      refine Pa.mp 1 (pc' := 17) (l' := [(0, .ref 35), (1, .int yv)]) (st' := [.ref 35, .ref 37]) (by rfl) ?_
      refine Pa.gfI (v := ys) (by rfl) (by rfl) (.inl rfl) (by rfl) (by show (uF (uI (uI (uI yA 35 4 ya) 35 3 ys) 35 5 yq) 37 yc).1 35 3 = ys; rw [uF_c (by decide), uI_k (by decide), uI_h]) ?_
      refine Pa.mp 1 (pc' := 21) (l' := [(0, .ref 35), (1, .int yv)]) (st' := [.int yv, .int ys, .ref 37]) (by rfl) ?_
      refine Pa.asts (j' := ys.toInt.toNat) (by rfl) (by rfl) (by rfl) (fun h9 h10 => ?_)
      have h9 : 0 ≤ ys.toInt := h9
      have h10 : ys.toInt < 161 := h10
      show Pa N 84 22 [(0, .ref 35), (1, .int yv)] [] (uI (uF (uI (uI (uI yA 35 4 ya) 35 3 ys) 35 5 yq) 37 yc) 37 ys.toInt.toNat yv) _
      refine Pa.mp 2 (pc' := 24) (l' := [(0, .ref 35), (1, .int yv)]) (st' := [.ref 35, .ref 35]) (by rfl) ?_
      refine Pa.gfI (v := ys) (by rfl) (by rfl) (.inl rfl) (by rfl) (by show (uI (uF (uI (uI (uI yA 35 4 ya) 35 3 ys) 35 5 yq) 37 yc) 37 ys.toInt.toNat yv).1 35 3 = ys; rw [uI_c (by decide), uF_c (by decide), uI_k (by decide), uI_h]) ?_
      refine Pa.ic (x := 1) (pc' := 28) (by rfl) (by rfl) (by decide) ?_
      refine Pa.mp 1 (pc' := 29) (l' := [(0, .ref 35), (1, .int yv)]) (st' := [.int (ys + 1), .ref 35]) (by rfl) ?_
      refine Pa.pfI (by rfl) (by rfl) (.inl rfl) (by rfl) ?_
      show Pa N 84 32 [(0, .ref 35), (1, .int yv)] [] (uI (uI (uF (uI (uI (uI yA 35 4 ya) 35 3 ys) 35 5 yq) 37 yc) 37 ys.toInt.toNat yv) 35 3 (ys + 1)) _
      refine Pa.vret (by rfl) ?_
      show Pa N 89 62 [(0, .ref 35), (1, .int yv), (2, .int yi)] [] (uI (uI (uF (uI (uI (uI yA 35 4 ya) 35 3 ys) 35 5 yq) 37 yc) 37 ys.toInt.toNat yv) 35 3 (ys + 1)) _
      refine Pa.vret (by rfl) ?_
      exact l2 h2 h6 h9 h10
    · have h7 : ya.toInt < (yA.1 35 2).toInt := h7
      refine Pa.mp 1 (pc' := 12) (l' := [(0, .ref 35)]) (st' := [.ref 35]) (by rfl) ?_
      refine Pa.gfR (by rfl) (by rfl) (.inl rfl) (by rfl) ?_
      show Pa N 83 15 [(0, .ref 35)] [.ref 36] (uF (uI (uI (uI yA 35 4 ya) 35 3 ys) 35 5 yq) 37 yc) _
      refine Pa.mp 1 (pc' := 16) (l' := [(0, .ref 35)]) (st' := [.ref 35, .ref 36]) (by rfl) ?_
      refine Pa.gfI (v := ya) (by rfl) (by rfl) (.inl rfl) (by rfl) (by show (uF (uI (uI (uI yA 35 4 ya) 35 3 ys) 35 5 yq) 37 yc).1 35 4 = ya; rw [uF_c (by decide), uI_k (by decide), uI_k (by decide), uI_h]) ?_
      refine Pa.alds (v := yA.1 36 ya.toInt.toNat) (by rfl) (by rfl) (by show (uF (uI (uI (uI yA 35 4 ya) 35 3 ys) 35 5 yq) 37 yc).1 36 ya.toInt.toNat = yA.1 36 ya.toInt.toNat; rw [uF_c (by decide), uI_c (by decide), uI_c (by decide), uI_c (by decide)]) (fun h11 h12 => ?_)
      have h11 : 0 ≤ ya.toInt := h11
      have h12 : ya.toInt < 160 := h12
      refine Pa.mp 1 (pc' := 24) (l' := [(0, .ref 35)]) (st' := [.int (yA.1 36 ya.toInt.toNat)]) (by rfl) ?_
      refine Pa.iret (by rfl) ?_
      show Pa N 89 14 [(0, .ref 35), (1, .int yv), (2, .int yi)] [.int (yA.1 36 ya.toInt.toNat)] (uF (uI (uI (uI yA 35 4 ya) 35 3 ys) 35 5 yq) 37 yc) _
      refine Pa.ic (x := 48) (pc' := 16) (by rfl) (by rfl) (by decide) ?_
      refine Pa.if2 (a := (yA.1 36 ya.toInt.toNat).toInt) (b := 48) (t := 57) (by rfl) (by rfl) (rfl) (by decide) (fun h13 => ?_) (fun h14 => ?_)
      · have h13 : (yA.1 36 ya.toInt.toNat).toInt < 48 := h13
        refine Pa.mp 2 (pc' := 59) (l' := [(0, .ref 35), (1, .int yv), (2, .int yi)]) (st' := [.int yv, .ref 35]) (by rfl) ?_
        refine Pa.inv (by rfl) (by rfl) (.inl rfl) (by rfl) ?_
        show Pa N 84 0 [(0, .ref 35), (1, .int yv)] [] (uF (uI (uI (uI yA 35 4 ya) 35 3 ys) 35 5 yq) 37 yc) _
        refine Pa.mp 1 (pc' := 1) (l' := [(0, .ref 35), (1, .int yv)]) (st' := [.ref 35]) (by rfl) ?_
        refine Pa.gfI (v := ys) (by rfl) (by rfl) (.inl rfl) (by rfl) (by show (uF (uI (uI (uI yA 35 4 ya) 35 3 ys) 35 5 yq) 37 yc).1 35 3 = ys; rw [uF_c (by decide), uI_k (by decide), uI_h]) ?_
        refine Pa.mp 1 (pc' := 5) (l' := [(0, .ref 35), (1, .int yv)]) (st' := [.ref 35, .int ys]) (by rfl) ?_
        refine Pa.gfR (by rfl) (by rfl) (.inl rfl) (by rfl) ?_
        show Pa N 84 8 [(0, .ref 35), (1, .int yv)] [.ref 37, .int ys] (uF (uI (uI (uI yA 35 4 ya) 35 3 ys) 35 5 yq) 37 yc) _
        refine Pa.lens (x := 161) (by rfl) (by rfl) (by decide) ?_
        refine Pa.if2 (a := ys.toInt) (b := 161) (t := 32) (by rfl) (by rfl) (rfl) (by decide) (fun yh => (by exfalso; have h' : 161 ≤ ys.toInt := yh; omega)) (fun _ => ?_)
        refine Pa.mp 1 (pc' := 13) (l' := [(0, .ref 35), (1, .int yv)]) (st' := [.ref 35]) (by rfl) ?_
        refine Pa.gfR (by rfl) (by rfl) (.inl rfl) (by rfl) ?_
        show Pa N 84 16 [(0, .ref 35), (1, .int yv)] [.ref 37] (uF (uI (uI (uI yA 35 4 ya) 35 3 ys) 35 5 yq) 37 yc) _
        refine Pa.mp 1 (pc' := 17) (l' := [(0, .ref 35), (1, .int yv)]) (st' := [.ref 35, .ref 37]) (by rfl) ?_
        refine Pa.gfI (v := ys) (by rfl) (by rfl) (.inl rfl) (by rfl) (by show (uF (uI (uI (uI yA 35 4 ya) 35 3 ys) 35 5 yq) 37 yc).1 35 3 = ys; rw [uF_c (by decide), uI_k (by decide), uI_h]) ?_
        refine Pa.mp 1 (pc' := 21) (l' := [(0, .ref 35), (1, .int yv)]) (st' := [.int yv, .int ys, .ref 37]) (by rfl) ?_
        refine Pa.asts (j' := ys.toInt.toNat) (by rfl) (by rfl) (by rfl) (fun yh16 h17 => ?_)
        have yh16 : 0 ≤ ys.toInt := yh16
        have h17 : ys.toInt < 161 := h17
        show Pa N 84 22 [(0, .ref 35), (1, .int yv)] [] (uI (uF (uI (uI (uI yA 35 4 ya) 35 3 ys) 35 5 yq) 37 yc) 37 ys.toInt.toNat yv) _
        refine Pa.mp 2 (pc' := 24) (l' := [(0, .ref 35), (1, .int yv)]) (st' := [.ref 35, .ref 35]) (by rfl) ?_
        refine Pa.gfI (v := ys) (by rfl) (by rfl) (.inl rfl) (by rfl) (by show (uI (uF (uI (uI (uI yA 35 4 ya) 35 3 ys) 35 5 yq) 37 yc) 37 ys.toInt.toNat yv).1 35 3 = ys; rw [uI_c (by decide), uF_c (by decide), uI_k (by decide), uI_h]) ?_
        refine Pa.ic (x := 1) (pc' := 28) (by rfl) (by rfl) (by decide) ?_
        refine Pa.mp 1 (pc' := 29) (l' := [(0, .ref 35), (1, .int yv)]) (st' := [.int (ys + 1), .ref 35]) (by rfl) ?_
        refine Pa.pfI (by rfl) (by rfl) (.inl rfl) (by rfl) ?_
        show Pa N 84 32 [(0, .ref 35), (1, .int yv)] [] (uI (uI (uF (uI (uI (uI yA 35 4 ya) 35 3 ys) 35 5 yq) 37 yc) 37 ys.toInt.toNat yv) 35 3 (ys + 1)) _
        refine Pa.vret (by rfl) ?_
        show Pa N 89 62 [(0, .ref 35), (1, .int yv), (2, .int yi)] [] (uI (uI (uF (uI (uI (uI yA 35 4 ya) 35 3 ys) 35 5 yq) 37 yc) 37 ys.toInt.toNat yv) 35 3 (ys + 1)) _
        refine Pa.vret (by rfl) ?_
        exact l3 h2 h7 h11 h12 h13 yh16 h17
      · have h14 : 48 ≤ (yA.1 36 ya.toInt.toNat).toInt := h14
        refine Pa.mp 1 (pc' := 20) (l' := [(0, .ref 35), (1, .int yv), (2, .int yi)]) (st' := [.ref 35]) (by rfl) ?_
        refine Pa.inv (by rfl) (by rfl) (.inl rfl) (by rfl) ?_
        show Pa N 83 0 [(0, .ref 35)] [] (uF (uI (uI (uI yA 35 4 ya) 35 3 ys) 35 5 yq) 37 yc) _
        refine Pa.mp 1 (pc' := 1) (l' := [(0, .ref 35)]) (st' := [.ref 35]) (by rfl) ?_
        refine Pa.gfI (v := ya) (by rfl) (by rfl) (.inl rfl) (by rfl) (by show (uF (uI (uI (uI yA 35 4 ya) 35 3 ys) 35 5 yq) 37 yc).1 35 4 = ya; rw [uF_c (by decide), uI_k (by decide), uI_k (by decide), uI_h]) ?_
        refine Pa.mp 1 (pc' := 5) (l' := [(0, .ref 35)]) (st' := [.ref 35, .int ya]) (by rfl) ?_
        refine Pa.gfI (v := yA.1 35 2) (by rfl) (by rfl) (.inl rfl) (by rfl) (by show (uF (uI (uI (uI yA 35 4 ya) 35 3 ys) 35 5 yq) 37 yc).1 35 2 = yA.1 35 2; rw [uF_c (by decide), uI_k (by decide), uI_k (by decide), uI_k (by decide)]) ?_
        refine Pa.if2 (a := ya.toInt) (b := (yA.1 35 2).toInt) (t := 23) (by rfl) (by rfl) (rfl) (rfl) (fun yh => (by exfalso; have h' : (yA.1 35 2).toInt ≤ ya.toInt := yh; omega)) (fun _ => ?_)
        refine Pa.mp 1 (pc' := 12) (l' := [(0, .ref 35)]) (st' := [.ref 35]) (by rfl) ?_
        refine Pa.gfR (by rfl) (by rfl) (.inl rfl) (by rfl) ?_
        show Pa N 83 15 [(0, .ref 35)] [.ref 36] (uF (uI (uI (uI yA 35 4 ya) 35 3 ys) 35 5 yq) 37 yc) _
        refine Pa.mp 1 (pc' := 16) (l' := [(0, .ref 35)]) (st' := [.ref 35, .ref 36]) (by rfl) ?_
        refine Pa.gfI (v := ya) (by rfl) (by rfl) (.inl rfl) (by rfl) (by show (uF (uI (uI (uI yA 35 4 ya) 35 3 ys) 35 5 yq) 37 yc).1 35 4 = ya; rw [uF_c (by decide), uI_k (by decide), uI_k (by decide), uI_h]) ?_
        refine Pa.alds (v := yA.1 36 ya.toInt.toNat) (by rfl) (by rfl) (by show (uF (uI (uI (uI yA 35 4 ya) 35 3 ys) 35 5 yq) 37 yc).1 36 ya.toInt.toNat = yA.1 36 ya.toInt.toNat; rw [uF_c (by decide), uI_c (by decide), uI_c (by decide), uI_c (by decide)]) (fun h19 h20 => ?_)
        have h19 : 0 ≤ ya.toInt := h19
        have h20 : ya.toInt < 160 := h20
        refine Pa.mp 1 (pc' := 24) (l' := [(0, .ref 35)]) (st' := [.int (yA.1 36 ya.toInt.toNat)]) (by rfl) ?_
        refine Pa.iret (by rfl) ?_
        show Pa N 89 23 [(0, .ref 35), (1, .int yv), (2, .int yi)] [.int (yA.1 36 ya.toInt.toNat)] (uF (uI (uI (uI yA 35 4 ya) 35 3 ys) 35 5 yq) 37 yc) _
        refine Pa.ic (x := 57) (pc' := 25) (by rfl) (by rfl) (by decide) ?_
        refine Pa.if2 (a := (yA.1 36 ya.toInt.toNat).toInt) (b := 57) (t := 57) (by rfl) (by rfl) (rfl) (by decide) (fun h21 => ?_) (fun h22 => ?_)
        · have h21 : 57 < (yA.1 36 ya.toInt.toNat).toInt := h21
          refine Pa.mp 2 (pc' := 59) (l' := [(0, .ref 35), (1, .int yv), (2, .int yi)]) (st' := [.int yv, .ref 35]) (by rfl) ?_
          refine Pa.inv (by rfl) (by rfl) (.inl rfl) (by rfl) ?_
          show Pa N 84 0 [(0, .ref 35), (1, .int yv)] [] (uF (uI (uI (uI yA 35 4 ya) 35 3 ys) 35 5 yq) 37 yc) _
          refine Pa.mp 1 (pc' := 1) (l' := [(0, .ref 35), (1, .int yv)]) (st' := [.ref 35]) (by rfl) ?_
          refine Pa.gfI (v := ys) (by rfl) (by rfl) (.inl rfl) (by rfl) (by show (uF (uI (uI (uI yA 35 4 ya) 35 3 ys) 35 5 yq) 37 yc).1 35 3 = ys; rw [uF_c (by decide), uI_k (by decide), uI_h]) ?_
          refine Pa.mp 1 (pc' := 5) (l' := [(0, .ref 35), (1, .int yv)]) (st' := [.ref 35, .int ys]) (by rfl) ?_
          refine Pa.gfR (by rfl) (by rfl) (.inl rfl) (by rfl) ?_
          show Pa N 84 8 [(0, .ref 35), (1, .int yv)] [.ref 37, .int ys] (uF (uI (uI (uI yA 35 4 ya) 35 3 ys) 35 5 yq) 37 yc) _
          refine Pa.lens (x := 161) (by rfl) (by rfl) (by decide) ?_
          refine Pa.if2 (a := ys.toInt) (b := 161) (t := 32) (by rfl) (by rfl) (rfl) (by decide) (fun yh => (by exfalso; have h' : 161 ≤ ys.toInt := yh; omega)) (fun _ => ?_)
          refine Pa.mp 1 (pc' := 13) (l' := [(0, .ref 35), (1, .int yv)]) (st' := [.ref 35]) (by rfl) ?_
          refine Pa.gfR (by rfl) (by rfl) (.inl rfl) (by rfl) ?_
          show Pa N 84 16 [(0, .ref 35), (1, .int yv)] [.ref 37] (uF (uI (uI (uI yA 35 4 ya) 35 3 ys) 35 5 yq) 37 yc) _
          refine Pa.mp 1 (pc' := 17) (l' := [(0, .ref 35), (1, .int yv)]) (st' := [.ref 35, .ref 37]) (by rfl) ?_
          refine Pa.gfI (v := ys) (by rfl) (by rfl) (.inl rfl) (by rfl) (by show (uF (uI (uI (uI yA 35 4 ya) 35 3 ys) 35 5 yq) 37 yc).1 35 3 = ys; rw [uF_c (by decide), uI_k (by decide), uI_h]) ?_
          refine Pa.mp 1 (pc' := 21) (l' := [(0, .ref 35), (1, .int yv)]) (st' := [.int yv, .int ys, .ref 37]) (by rfl) ?_
          refine Pa.asts (j' := ys.toInt.toNat) (by rfl) (by rfl) (by rfl) (fun h24 h25 => ?_)
          have h24 : 0 ≤ ys.toInt := h24
          have h25 : ys.toInt < 161 := h25
          show Pa N 84 22 [(0, .ref 35), (1, .int yv)] [] (uI (uF (uI (uI (uI yA 35 4 ya) 35 3 ys) 35 5 yq) 37 yc) 37 ys.toInt.toNat yv) _
          refine Pa.mp 2 (pc' := 24) (l' := [(0, .ref 35), (1, .int yv)]) (st' := [.ref 35, .ref 35]) (by rfl) ?_
          refine Pa.gfI (v := ys) (by rfl) (by rfl) (.inl rfl) (by rfl) (by show (uI (uF (uI (uI (uI yA 35 4 ya) 35 3 ys) 35 5 yq) 37 yc) 37 ys.toInt.toNat yv).1 35 3 = ys; rw [uI_c (by decide), uF_c (by decide), uI_k (by decide), uI_h]) ?_
          refine Pa.ic (x := 1) (pc' := 28) (by rfl) (by rfl) (by decide) ?_
          refine Pa.mp 1 (pc' := 29) (l' := [(0, .ref 35), (1, .int yv)]) (st' := [.int (ys + 1), .ref 35]) (by rfl) ?_
          refine Pa.pfI (by rfl) (by rfl) (.inl rfl) (by rfl) ?_
          show Pa N 84 32 [(0, .ref 35), (1, .int yv)] [] (uI (uI (uF (uI (uI (uI yA 35 4 ya) 35 3 ys) 35 5 yq) 37 yc) 37 ys.toInt.toNat yv) 35 3 (ys + 1)) _
          refine Pa.vret (by rfl) ?_
          show Pa N 89 62 [(0, .ref 35), (1, .int yv), (2, .int yi)] [] (uI (uI (uF (uI (uI (uI yA 35 4 ya) 35 3 ys) 35 5 yq) 37 yc) 37 ys.toInt.toNat yv) 35 3 (ys + 1)) _
          refine Pa.vret (by rfl) ?_
          exact l4 h2 h7 h11 h12 h14 h21 h24 h25
        · have h22 : (yA.1 36 ya.toInt.toNat).toInt ≤ 57 := h22
          refine Pa.mp 1 (pc' := 29) (l' := [(0, .ref 35), (1, .int yv), (2, .int yi)]) (st' := [.int yv]) (by rfl) ?_
          refine Pa.ic (x := 10) (pc' := 31) (by rfl) (by rfl) (by decide) ?_
          refine Pa.mp 2 (pc' := 33) (l' := [(0, .ref 35), (1, .int yv), (2, .int yi)]) (st' := [.ref 35, .int (yv * 10)]) (by rfl) ?_
          refine Pa.inv (by rfl) (by rfl) (.inl rfl) (by rfl) ?_
          show Pa N 83 0 [(0, .ref 35)] [] (uF (uI (uI (uI yA 35 4 ya) 35 3 ys) 35 5 yq) 37 yc) _
          refine Pa.mp 1 (pc' := 1) (l' := [(0, .ref 35)]) (st' := [.ref 35]) (by rfl) ?_
          refine Pa.gfI (v := ya) (by rfl) (by rfl) (.inl rfl) (by rfl) (by show (uF (uI (uI (uI yA 35 4 ya) 35 3 ys) 35 5 yq) 37 yc).1 35 4 = ya; rw [uF_c (by decide), uI_k (by decide), uI_k (by decide), uI_h]) ?_
          refine Pa.mp 1 (pc' := 5) (l' := [(0, .ref 35)]) (st' := [.ref 35, .int ya]) (by rfl) ?_
          refine Pa.gfI (v := yA.1 35 2) (by rfl) (by rfl) (.inl rfl) (by rfl) (by show (uF (uI (uI (uI yA 35 4 ya) 35 3 ys) 35 5 yq) 37 yc).1 35 2 = yA.1 35 2; rw [uF_c (by decide), uI_k (by decide), uI_k (by decide), uI_k (by decide)]) ?_
          refine Pa.if2 (a := ya.toInt) (b := (yA.1 35 2).toInt) (t := 23) (by rfl) (by rfl) (rfl) (rfl) (fun yh => (by exfalso; have h' : (yA.1 35 2).toInt ≤ ya.toInt := yh; omega)) (fun _ => ?_)
          refine Pa.mp 1 (pc' := 12) (l' := [(0, .ref 35)]) (st' := [.ref 35]) (by rfl) ?_
          refine Pa.gfR (by rfl) (by rfl) (.inl rfl) (by rfl) ?_
          show Pa N 83 15 [(0, .ref 35)] [.ref 36] (uF (uI (uI (uI yA 35 4 ya) 35 3 ys) 35 5 yq) 37 yc) _
          refine Pa.mp 1 (pc' := 16) (l' := [(0, .ref 35)]) (st' := [.ref 35, .ref 36]) (by rfl) ?_
          refine Pa.gfI (v := ya) (by rfl) (by rfl) (.inl rfl) (by rfl) (by show (uF (uI (uI (uI yA 35 4 ya) 35 3 ys) 35 5 yq) 37 yc).1 35 4 = ya; rw [uF_c (by decide), uI_k (by decide), uI_k (by decide), uI_h]) ?_
          refine Pa.alds (v := yA.1 36 ya.toInt.toNat) (by rfl) (by rfl) (by show (uF (uI (uI (uI yA 35 4 ya) 35 3 ys) 35 5 yq) 37 yc).1 36 ya.toInt.toNat = yA.1 36 ya.toInt.toNat; rw [uF_c (by decide), uI_c (by decide), uI_c (by decide), uI_c (by decide)]) (fun h27 h28 => ?_)
          have h27 : 0 ≤ ya.toInt := h27
          have h28 : ya.toInt < 160 := h28
          refine Pa.mp 1 (pc' := 24) (l' := [(0, .ref 35)]) (st' := [.int (yA.1 36 ya.toInt.toNat)]) (by rfl) ?_
          refine Pa.iret (by rfl) ?_
          show Pa N 89 36 [(0, .ref 35), (1, .int yv), (2, .int yi)] [.int (yA.1 36 ya.toInt.toNat), .int (yv * 10)] (uF (uI (uI (uI yA 35 4 ya) 35 3 ys) 35 5 yq) 37 yc) _
          refine Pa.mp 1 (pc' := 37) (l' := [(0, .ref 35), (1, .int yv), (2, .int yi)]) (st' := [.int ((yv * 10) + (yA.1 36 ya.toInt.toNat))]) (by rfl) ?_
          refine Pa.ic (x := 48) (pc' := 39) (by rfl) (by rfl) (by decide) ?_
          refine Pa.mp 4 (pc' := 43) (l' := [(1, .int (((yv * 10) + (yA.1 36 ya.toInt.toNat)) - 48)), (0, .ref 35), (2, .int yi)]) (st' := [.ref 35, .ref 35]) (by rfl) ?_
          refine Pa.gfI (v := ya) (by rfl) (by rfl) (.inl rfl) (by rfl) (by show (uF (uI (uI (uI yA 35 4 ya) 35 3 ys) 35 5 yq) 37 yc).1 35 4 = ya; rw [uF_c (by decide), uI_k (by decide), uI_k (by decide), uI_h]) ?_
          refine Pa.ic (x := 1) (pc' := 47) (by rfl) (by rfl) (by decide) ?_
          refine Pa.mp 1 (pc' := 48) (l' := [(1, .int (((yv * 10) + (yA.1 36 ya.toInt.toNat)) - 48)), (0, .ref 35), (2, .int yi)]) (st' := [.int (ya + 1), .ref 35]) (by rfl) ?_
          refine Pa.pfI (by rfl) (by rfl) (.inl rfl) (by rfl) ?_
          show Pa N 89 51 [(1, .int (((yv * 10) + (yA.1 36 ya.toInt.toNat)) - 48)), (0, .ref 35), (2, .int yi)] [] (uI (uF (uI (uI (uI yA 35 4 ya) 35 3 ys) 35 5 yq) 37 yc) 35 4 (ya + 1)) _
          refine Pa.iinc (x := yi) (c := 1) (v := (yi + 1)) (l' := [(2, .int (yi + 1)), (1, .int (((yv * 10) + (yA.1 36 ya.toInt.toNat)) - 48)), (0, .ref 35)]) (by rfl) (by rfl) (by decide) (by rfl) (by rfl) ?_
          refine Pa.mp 1 (pc' := 4) (l' := [(2, .int (yi + 1)), (1, .int (((yv * 10) + (yA.1 36 ya.toInt.toNat)) - 48)), (0, .ref 35)]) (st' := []) (by rfl) ?_
          refine Pa.lv (l' := [(0, .ref 35), (1, .int (((yv * 10) + (yA.1 36 ya.toInt.toNat)) - 48)), (2, .int (yi + 1))]) (lvS_c rfl (lvS_c rfl (lvS_c rfl (lvS_nil)))) rfl ?_
          exact l5 h2 h7 h11 h12 h14 h22


theorem bx_pa0 {N : Nat} {yA : AW} {yQ : Option Value → AW → Prop} (l o : Int32)
    (l1 : l.toInt < 5 → Pa N 86 0 [(0, .ref 35), (1, .int (l + 1)), (2, .int o)] [] yA (fun yu A1 => Pa N 86 19 [(0, .ref 35), (1, .int l), (2, .int o)] (yu.toList ++ []) A1 yQ))
    (l2 : 5 ≤ l.toInt → Pa N 88 0 [(0, .ref 35), (1, .int o)] [] yA (fun yu A1 => Pa N 86 10 [(0, .ref 35), (1, .int l), (2, .int o)] (yu.toList ++ []) A1 yQ)) :
    Pa (N + 1) 86 0 [(0, .ref 35), (1, .int l), (2, .int o)] [] yA yQ := by
  refine Pa.mp1 0 (pc' := 1) (l' := [(0, .ref 35), (1, .int l), (2, .int o)]) (st' := [.int l]) (by rfl) ?_
  refine Pa.ic (x := 5) (pc' := 2) (by rfl) (by rfl) (by decide) ?_
  refine Pa.if2 (a := l.toInt) (b := 5) (t := 11) (by rfl) (by rfl) (rfl) (by decide) (fun h1 => ?_) (fun h2 => ?_)
  · have h1 : l.toInt < 5 := h1
    refine Pa.mp 2 (pc' := 13) (l' := [(0, .ref 35), (1, .int l), (2, .int o)]) (st' := [.int l, .ref 35]) (by rfl) ?_
    refine Pa.ic (x := 1) (pc' := 14) (by rfl) (by rfl) (by decide) ?_
    refine Pa.mp 2 (pc' := 16) (l' := [(0, .ref 35), (1, .int l), (2, .int o)]) (st' := [.int o, .int (l + 1), .ref 35]) (by rfl) ?_
    refine Pa.inv (by rfl) (by rfl) (.inl rfl) (by rfl) ?_
    exact l1 h1
  · have h2 : 5 ≤ l.toInt := h2
    refine Pa.mp 2 (pc' := 7) (l' := [(0, .ref 35), (1, .int l), (2, .int o)]) (st' := [.int o, .ref 35]) (by rfl) ?_
    refine Pa.inv (by rfl) (by rfl) (.inl rfl) (by rfl) ?_
    exact l2 h2


theorem bx_par {N : Nat} {yA : AW} {yQ : Option Value → AW → Prop} (l o : Int32)
    (l1 : yQ none yA) :
    Pa N 86 10 [(0, .ref 35), (1, .int l), (2, .int o)] [] yA yQ := by
  refine Pa.vret (by rfl) ?_
  exact l1


theorem bx_pal {N : Nat} {yA : AW} {yQ : Option Value → AW → Prop} (l o yg : Int32) (ya ys yq : Int32) (yc : Nat → Int32)
    (l1 : yq.toInt = 0 → yQ none (uF (uI (uI (uI yA 35 4 ya) 35 3 ys) 35 5 yq) 37 yc))
    (l2 : yq.toInt ≠ 0 → (yA.1 35 2).toInt ≤ ya.toInt → yQ none (uF (uI (uI (uI yA 35 4 ya) 35 3 ys) 35 5 yq) 37 yc))
    (l3 : yq.toInt ≠ 0 → ya.toInt < (yA.1 35 2).toInt → 0 ≤ ya.toInt → ya.toInt < 160 → (sgI (yA.1 36 ya.toInt.toNat) l).toInt = 0 → yQ none (uF (uI (uI (uI yA 35 4 ya) 35 3 ys) 35 5 yq) 37 yc))
    (l4 : yq.toInt ≠ 0 → ya.toInt < (yA.1 35 2).toInt → 0 ≤ ya.toInt → ya.toInt < 160 → (sgI (yA.1 36 ya.toInt.toNat) l).toInt ≠ 0 → Pa N 86 0 [(0, .ref 35), (1, .int (l + 1)), (2, .int o)] [] (uI (uF (uI (uI (uI yA 35 4 ya) 35 3 ys) 35 5 yq) 37 yc) 35 4 (ya + 1)) (fun yu A1 => Pa N 86 81 [(0, .ref 35), (1, .int l), (2, .int o), (3, .int (yA.1 36 ya.toInt.toNat))] (yu.toList ++ []) A1 yQ)) :
    Pa (N + 1) 86 19 [(0, .ref 35), (1, .int l), (2, .int o), (3, .int yg)] [] (uF (uI (uI (uI yA 35 4 ya) 35 3 ys) 35 5 yq) 37 yc) yQ := by
  refine Pa.mp1 0 (pc' := 20) (l' := [(0, .ref 35), (1, .int l), (2, .int o), (3, .int yg)]) (st' := [.ref 35]) (by rfl) ?_
  refine Pa.gfI (v := yq) (by rfl) (by rfl) (.inl rfl) (by rfl) (by show (uF (uI (uI (uI yA 35 4 ya) 35 3 ys) 35 5 yq) 37 yc).1 35 5 = yq; rw [uF_c (by decide), uI_h]) ?_
  refine Pa.if1 (a := yq.toInt) (t := 96) (by rfl) (by rfl) (rfl) (fun h1 => ?_) (fun h2 => ?_)
  · have h1 : yq.toInt = 0 := h1
    refine Pa.vret (by rfl) ?_
    exact l1 h1
  · have h2 : yq.toInt ≠ 0 := h2
    refine Pa.mp 1 (pc' := 27) (l' := [(0, .ref 35), (1, .int l), (2, .int o), (3, .int yg)]) (st' := [.ref 35]) (by rfl) ?_
    refine Pa.gfI (v := ya) (by rfl) (by rfl) (.inl rfl) (by rfl) (by show (uF (uI (uI (uI yA 35 4 ya) 35 3 ys) 35 5 yq) 37 yc).1 35 4 = ya; rw [uF_c (by decide), uI_k (by decide), uI_k (by decide), uI_h]) ?_
    refine Pa.mp 1 (pc' := 31) (l' := [(0, .ref 35), (1, .int l), (2, .int o), (3, .int yg)]) (st' := [.ref 35, .int ya]) (by rfl) ?_
    refine Pa.gfI (v := yA.1 35 2) (by rfl) (by rfl) (.inl rfl) (by rfl) (by show (uF (uI (uI (uI yA 35 4 ya) 35 3 ys) 35 5 yq) 37 yc).1 35 2 = yA.1 35 2; rw [uF_c (by decide), uI_k (by decide), uI_k (by decide), uI_k (by decide)]) ?_
    refine Pa.if2 (a := ya.toInt) (b := (yA.1 35 2).toInt) (t := 96) (by rfl) (by rfl) (rfl) (rfl) (fun h3 => ?_) (fun h4 => ?_)
    · have h3 : (yA.1 35 2).toInt ≤ ya.toInt := h3
      refine Pa.vret (by rfl) ?_
      exact l2 h2 h3
    · have h4 : ya.toInt < (yA.1 35 2).toInt := h4
      refine Pa.mp 1 (pc' := 38) (l' := [(0, .ref 35), (1, .int l), (2, .int o), (3, .int yg)]) (st' := [.ref 35]) (by rfl) ?_
      refine Pa.gfR (by rfl) (by rfl) (.inl rfl) (by rfl) ?_
      show Pa N 86 41 [(0, .ref 35), (1, .int l), (2, .int o), (3, .int yg)] [.ref 36] (uF (uI (uI (uI yA 35 4 ya) 35 3 ys) 35 5 yq) 37 yc) _
      refine Pa.mp 1 (pc' := 42) (l' := [(0, .ref 35), (1, .int l), (2, .int o), (3, .int yg)]) (st' := [.ref 35, .ref 36]) (by rfl) ?_
      refine Pa.gfI (v := ya) (by rfl) (by rfl) (.inl rfl) (by rfl) (by show (uF (uI (uI (uI yA 35 4 ya) 35 3 ys) 35 5 yq) 37 yc).1 35 4 = ya; rw [uF_c (by decide), uI_k (by decide), uI_k (by decide), uI_h]) ?_
      refine Pa.alds (v := yA.1 36 ya.toInt.toNat) (by rfl) (by rfl) (by show (uF (uI (uI (uI yA 35 4 ya) 35 3 ys) 35 5 yq) 37 yc).1 36 ya.toInt.toNat = yA.1 36 ya.toInt.toNat; rw [uF_c (by decide), uI_c (by decide), uI_c (by decide), uI_c (by decide)]) (fun h5 h6 => ?_)
      have h5 : 0 ≤ ya.toInt := h5
      have h6 : ya.toInt < 160 := h6
      refine Pa.mp 1 (pc' := 47) (l' := [(0, .ref 35), (1, .int l), (2, .int o), (3, .int yg)]) (st' := [.int l, .int (yA.1 36 ya.toInt.toNat)]) (by rfl) ?_
      refine Pa.ist (by rfl) (by rfl) (.inl rfl) (by rfl) (by rfl) ?_
      refine Pa.mono (c_sgn N (uF (uI (uI (uI yA 35 4 ya) 35 3 ys) 35 5 yq) 37 yc) (yA.1 36 ya.toInt.toNat) l) (fun yu A1 hu => ?_)
      obtain ⟨rfl, hu⟩ := hu
      rw [hu]
      show Pa N 86 50 [(0, .ref 35), (1, .int l), (2, .int o), (3, .int yg)] [.int (sgI (yA.1 36 ya.toInt.toNat) l)] (uF (uI (uI (uI yA 35 4 ya) 35 3 ys) 35 5 yq) 37 yc) _
      refine Pa.if1 (a := (sgI (yA.1 36 ya.toInt.toNat) l).toInt) (t := 96) (by rfl) (by rfl) (rfl) (fun h7 => ?_) (fun h8 => ?_)
      · have h7 : (sgI (yA.1 36 ya.toInt.toNat) l).toInt = 0 := h7
        refine Pa.vret (by rfl) ?_
        exact l3 h2 h4 h5 h6 h7
      · have h8 : (sgI (yA.1 36 ya.toInt.toNat) l).toInt ≠ 0 := h8
        refine Pa.mp 1 (pc' := 54) (l' := [(0, .ref 35), (1, .int l), (2, .int o), (3, .int yg)]) (st' := [.ref 35]) (by rfl) ?_
        refine Pa.gfR (by rfl) (by rfl) (.inl rfl) (by rfl) ?_
        show Pa N 86 57 [(0, .ref 35), (1, .int l), (2, .int o), (3, .int yg)] [.ref 36] (uF (uI (uI (uI yA 35 4 ya) 35 3 ys) 35 5 yq) 37 yc) _
        refine Pa.mp 1 (pc' := 58) (l' := [(0, .ref 35), (1, .int l), (2, .int o), (3, .int yg)]) (st' := [.ref 35, .ref 36]) (by rfl) ?_
        refine Pa.gfI (v := ya) (by rfl) (by rfl) (.inl rfl) (by rfl) (by show (uF (uI (uI (uI yA 35 4 ya) 35 3 ys) 35 5 yq) 37 yc).1 35 4 = ya; rw [uF_c (by decide), uI_k (by decide), uI_k (by decide), uI_h]) ?_
        refine Pa.alds (v := yA.1 36 ya.toInt.toNat) (by rfl) (by rfl) (by show (uF (uI (uI (uI yA 35 4 ya) 35 3 ys) 35 5 yq) 37 yc).1 36 ya.toInt.toNat = yA.1 36 ya.toInt.toNat; rw [uF_c (by decide), uI_c (by decide), uI_c (by decide), uI_c (by decide)]) (fun h9 h10 => ?_)
        have h9 : 0 ≤ ya.toInt := h9
        have h10 : ya.toInt < 160 := h10
        refine Pa.mp 3 (pc' := 65) (l' := [(3, .int (yA.1 36 ya.toInt.toNat)), (0, .ref 35), (1, .int l), (2, .int o)]) (st' := [.ref 35, .ref 35]) (by rfl) ?_
        refine Pa.gfI (v := ya) (by rfl) (by rfl) (.inl rfl) (by rfl) (by show (uF (uI (uI (uI yA 35 4 ya) 35 3 ys) 35 5 yq) 37 yc).1 35 4 = ya; rw [uF_c (by decide), uI_k (by decide), uI_k (by decide), uI_h]) ?_
        refine Pa.ic (x := 1) (pc' := 69) (by rfl) (by rfl) (by decide) ?_
        refine Pa.mp 1 (pc' := 70) (l' := [(3, .int (yA.1 36 ya.toInt.toNat)), (0, .ref 35), (1, .int l), (2, .int o)]) (st' := [.int (ya + 1), .ref 35]) (by rfl) ?_
        refine Pa.pfI (by rfl) (by rfl) (.inl rfl) (by rfl) ?_
        show Pa N 86 73 [(3, .int (yA.1 36 ya.toInt.toNat)), (0, .ref 35), (1, .int l), (2, .int o)] [] (uI (uF (uI (uI (uI yA 35 4 ya) 35 3 ys) 35 5 yq) 37 yc) 35 4 (ya + 1)) _
        refine Pa.mp 2 (pc' := 75) (l' := [(3, .int (yA.1 36 ya.toInt.toNat)), (0, .ref 35), (1, .int l), (2, .int o)]) (st' := [.int l, .ref 35]) (by rfl) ?_
        refine Pa.ic (x := 1) (pc' := 76) (by rfl) (by rfl) (by decide) ?_
        refine Pa.mp 2 (pc' := 78) (l' := [(3, .int (yA.1 36 ya.toInt.toNat)), (0, .ref 35), (1, .int l), (2, .int o)]) (st' := [.int o, .int (l + 1), .ref 35]) (by rfl) ?_
        refine Pa.lv (l' := [(0, .ref 35), (1, .int l), (2, .int o), (3, .int (yA.1 36 ya.toInt.toNat))]) (lvS_c rfl (lvS_c rfl (lvS_c rfl (lvS_c rfl (lvS_nil))))) rfl ?_
        refine Pa.inv (by rfl) (by rfl) (.inl rfl) (by rfl) ?_
        exact l4 h2 h4 h5 h6 h8


theorem bx_pam {N : Nat} {yA : AW} {yQ : Option Value → AW → Prop} (l o yg : Int32) (ya ys yq : Int32) (yc : Nat → Int32)
    (l1 : 161 ≤ ys.toInt → l.toInt ≠ 2 → Pa N 86 19 [(0, .ref 35), (1, .int l), (2, .int o), (3, .int yg)] [] (uF (uI (uI (uI yA 35 4 ya) 35 3 ys) 35 5 yq) 37 yc) yQ)
    (l2 : 161 ≤ ys.toInt → l.toInt = 2 → yQ none (uF (uI (uI (uI yA 35 4 ya) 35 3 ys) 35 5 yq) 37 yc))
    (l3 : ys.toInt < 161 → 0 ≤ ys.toInt → l.toInt ≠ 2 → Pa N 86 19 [(0, .ref 35), (1, .int l), (2, .int o), (3, .int yg)] [] (uI (uI (uF (uI (uI (uI yA 35 4 ya) 35 3 ys) 35 5 yq) 37 yc) 37 ys.toInt.toNat (-yg)) 35 3 (ys + 1)) yQ)
    (l4 : ys.toInt < 161 → 0 ≤ ys.toInt → l.toInt = 2 → yQ none (uI (uI (uF (uI (uI (uI yA 35 4 ya) 35 3 ys) 35 5 yq) 37 yc) 37 ys.toInt.toNat (-yg)) 35 3 (ys + 1))) :
    Pa N 86 81 [(0, .ref 35), (1, .int l), (2, .int o), (3, .int yg)] [] (uF (uI (uI (uI yA 35 4 ya) 35 3 ys) 35 5 yq) 37 yc) yQ := by
  refine Pa.mp 3 (pc' := 84) (l' := [(0, .ref 35), (1, .int l), (2, .int o), (3, .int yg)]) (st' := [.int (-yg), .ref 35]) (by rfl) ?_
  refine Pa.inv (by rfl) (by rfl) (.inl rfl) (by rfl) ?_
  show Pa N 84 0 [(0, .ref 35), (1, .int (-yg))] [] (uF (uI (uI (uI yA 35 4 ya) 35 3 ys) 35 5 yq) 37 yc) _
  refine Pa.mp 1 (pc' := 1) (l' := [(0, .ref 35), (1, .int (-yg))]) (st' := [.ref 35]) (by rfl) ?_
  refine Pa.gfI (v := ys) (by rfl) (by rfl) (.inl rfl) (by rfl) (by show (uF (uI (uI (uI yA 35 4 ya) 35 3 ys) 35 5 yq) 37 yc).1 35 3 = ys; rw [uF_c (by decide), uI_k (by decide), uI_h]) ?_
  refine Pa.mp 1 (pc' := 5) (l' := [(0, .ref 35), (1, .int (-yg))]) (st' := [.ref 35, .int ys]) (by rfl) ?_
  refine Pa.gfR (by rfl) (by rfl) (.inl rfl) (by rfl) ?_
  show Pa N 84 8 [(0, .ref 35), (1, .int (-yg))] [.ref 37, .int ys] (uF (uI (uI (uI yA 35 4 ya) 35 3 ys) 35 5 yq) 37 yc) _
  refine Pa.lens (x := 161) (by rfl) (by rfl) (by decide) ?_
  refine Pa.if2 (a := ys.toInt) (b := 161) (t := 32) (by rfl) (by rfl) (rfl) (by decide) (fun h1 => ?_) (fun h2 => ?_)
  · have h1 : 161 ≤ ys.toInt := h1
    refine Pa.vret (by rfl) ?_
    show Pa N 86 87 [(0, .ref 35), (1, .int l), (2, .int o), (3, .int yg)] [] (uF (uI (uI (uI yA 35 4 ya) 35 3 ys) 35 5 yq) 37 yc) _
    refine Pa.mp 1 (pc' := 88) (l' := [(0, .ref 35), (1, .int l), (2, .int o), (3, .int yg)]) (st' := [.int l]) (by rfl) ?_
    refine Pa.ic (x := 2) (pc' := 89) (by rfl) (by rfl) (by decide) ?_
    refine Pa.if2 (a := l.toInt) (b := 2) (t := 93) (by rfl) (by rfl) (rfl) (by decide) (fun h3 => ?_) (fun h4 => ?_)
    · have h3 : l.toInt ≠ 2 := h3
      refine Pa.mp 1 (pc' := 19) (l' := [(0, .ref 35), (1, .int l), (2, .int o), (3, .int yg)]) (st' := []) (by rfl) ?_
      refine Pa.lv (l' := [(0, .ref 35), (1, .int l), (2, .int o), (3, .int yg)]) (lvS_c rfl (lvS_c rfl (lvS_c rfl (lvS_c rfl (lvS_nil))))) rfl ?_
      exact l1 h1 h3
    · have h4 : l.toInt = 2 := h4
      refine Pa.vret (by rfl) ?_
      exact l2 h1 h4
  · have h2 : ys.toInt < 161 := h2
    refine Pa.mp 1 (pc' := 13) (l' := [(0, .ref 35), (1, .int (-yg))]) (st' := [.ref 35]) (by rfl) ?_
    refine Pa.gfR (by rfl) (by rfl) (.inl rfl) (by rfl) ?_
    show Pa N 84 16 [(0, .ref 35), (1, .int (-yg))] [.ref 37] (uF (uI (uI (uI yA 35 4 ya) 35 3 ys) 35 5 yq) 37 yc) _
    refine Pa.mp 1 (pc' := 17) (l' := [(0, .ref 35), (1, .int (-yg))]) (st' := [.ref 35, .ref 37]) (by rfl) ?_
    refine Pa.gfI (v := ys) (by rfl) (by rfl) (.inl rfl) (by rfl) (by show (uF (uI (uI (uI yA 35 4 ya) 35 3 ys) 35 5 yq) 37 yc).1 35 3 = ys; rw [uF_c (by decide), uI_k (by decide), uI_h]) ?_
    refine Pa.mp 1 (pc' := 21) (l' := [(0, .ref 35), (1, .int (-yg))]) (st' := [.int (-yg), .int ys, .ref 37]) (by rfl) ?_
    refine Pa.asts (j' := ys.toInt.toNat) (by rfl) (by rfl) (by rfl) (fun h5 h6 => ?_)
    have h5 : 0 ≤ ys.toInt := h5
    have h6 : ys.toInt < 161 := h6
    show Pa N 84 22 [(0, .ref 35), (1, .int (-yg))] [] (uI (uF (uI (uI (uI yA 35 4 ya) 35 3 ys) 35 5 yq) 37 yc) 37 ys.toInt.toNat (-yg)) _
    refine Pa.mp 2 (pc' := 24) (l' := [(0, .ref 35), (1, .int (-yg))]) (st' := [.ref 35, .ref 35]) (by rfl) ?_
    refine Pa.gfI (v := ys) (by rfl) (by rfl) (.inl rfl) (by rfl) (by show (uI (uF (uI (uI (uI yA 35 4 ya) 35 3 ys) 35 5 yq) 37 yc) 37 ys.toInt.toNat (-yg)).1 35 3 = ys; rw [uI_c (by decide), uF_c (by decide), uI_k (by decide), uI_h]) ?_
    refine Pa.ic (x := 1) (pc' := 28) (by rfl) (by rfl) (by decide) ?_
    refine Pa.mp 1 (pc' := 29) (l' := [(0, .ref 35), (1, .int (-yg))]) (st' := [.int (ys + 1), .ref 35]) (by rfl) ?_
    refine Pa.pfI (by rfl) (by rfl) (.inl rfl) (by rfl) ?_
    show Pa N 84 32 [(0, .ref 35), (1, .int (-yg))] [] (uI (uI (uF (uI (uI (uI yA 35 4 ya) 35 3 ys) 35 5 yq) 37 yc) 37 ys.toInt.toNat (-yg)) 35 3 (ys + 1)) _
    refine Pa.vret (by rfl) ?_
    show Pa N 86 87 [(0, .ref 35), (1, .int l), (2, .int o), (3, .int yg)] [] (uI (uI (uF (uI (uI (uI yA 35 4 ya) 35 3 ys) 35 5 yq) 37 yc) 37 ys.toInt.toNat (-yg)) 35 3 (ys + 1)) _
    refine Pa.mp 1 (pc' := 88) (l' := [(0, .ref 35), (1, .int l), (2, .int o), (3, .int yg)]) (st' := [.int l]) (by rfl) ?_
    refine Pa.ic (x := 2) (pc' := 89) (by rfl) (by rfl) (by decide) ?_
    refine Pa.if2 (a := l.toInt) (b := 2) (t := 93) (by rfl) (by rfl) (rfl) (by decide) (fun h7 => ?_) (fun h8 => ?_)
    · have h7 : l.toInt ≠ 2 := h7
      refine Pa.mp 1 (pc' := 19) (l' := [(0, .ref 35), (1, .int l), (2, .int o), (3, .int yg)]) (st' := []) (by rfl) ?_
      refine Pa.lv (l' := [(0, .ref 35), (1, .int l), (2, .int o), (3, .int yg)]) (lvS_c rfl (lvS_c rfl (lvS_c rfl (lvS_c rfl (lvS_nil))))) rfl ?_
      exact l3 h2 h5 h7
    · have h8 : l.toInt = 2 := h8
      refine Pa.vret (by rfl) ?_
      exact l4 h2 h5 h8


theorem bx_op {N : Nat} {yA : AW} {yQ : Option Value → AW → Prop} (o : Int32) (ya ys yq : Int32) (yc : Nat → Int32) (hs : ys.toInt < 161) (yhb : 0 ≤ (yA.1 36 ya.toInt.toNat).toInt) (hb2 : (yA.1 36 ya.toInt.toNat).toInt ≤ 255)
    (l1 : (yA.1 35 2).toInt ≤ ya.toInt → yQ none (uI (uF (uI (uI (uI yA 35 4 ya) 35 3 ys) 35 5 yq) 37 yc) 35 5 0))
    (l2 : ya.toInt < (yA.1 35 2).toInt → 0 ≤ ya.toInt → ya.toInt < 160 → (yA.1 36 ya.toInt.toNat).toInt < 48 → (nmX (yA.1 36 ya.toInt.toNat)).toInt < 0 → (yA.1 36 ya.toInt.toNat).toInt ≠ 33 → (yA.1 36 ya.toInt.toNat).toInt ≠ 40 → yQ none (uI (uF (uI (uI (uI yA 35 4 ya) 35 3 ys) 35 5 yq) 37 yc) 35 5 0))
    (l3 : ya.toInt < (yA.1 35 2).toInt → 0 ≤ ya.toInt → ya.toInt < 160 → (yA.1 36 ya.toInt.toNat).toInt < 48 → (nmX (yA.1 36 ya.toInt.toNat)).toInt < 0 → (yA.1 36 ya.toInt.toNat).toInt ≠ 33 → (yA.1 36 ya.toInt.toNat).toInt = 40 → 8 ≤ o.toInt → yQ none (uI (uF (uI (uI (uI yA 35 4 ya) 35 3 ys) 35 5 yq) 37 yc) 35 5 0))
    (l4 : ya.toInt < (yA.1 35 2).toInt → 0 ≤ ya.toInt → ya.toInt < 160 → (yA.1 36 ya.toInt.toNat).toInt < 48 → (nmX (yA.1 36 ya.toInt.toNat)).toInt < 0 → (yA.1 36 ya.toInt.toNat).toInt ≠ 33 → (yA.1 36 ya.toInt.toNat).toInt = 40 → o.toInt < 8 → Pa N 86 0 [(0, .ref 35), (1, .int 0), (2, .int (o + 1))] [] (uI (uF (uI (uI (uI yA 35 4 ya) 35 3 ys) 35 5 yq) 37 yc) 35 4 (ya + 1)) (fun yu A1 => Pa N 88 132 [(0, .ref 35), (1, .int o), (2, .int (yA.1 36 ya.toInt.toNat)), (3, .int (nmX (yA.1 36 ya.toInt.toNat)))] (yu.toList ++ []) A1 yQ))
    (l5 : ya.toInt < (yA.1 35 2).toInt → 0 ≤ ya.toInt → ya.toInt < 160 → (yA.1 36 ya.toInt.toNat).toInt < 48 → (nmX (yA.1 36 ya.toInt.toNat)).toInt < 0 → (yA.1 36 ya.toInt.toNat).toInt = 33 → 8 ≤ o.toInt → yQ none (uI (uF (uI (uI (uI yA 35 4 ya) 35 3 ys) 35 5 yq) 37 yc) 35 5 0))
    (l6 : ya.toInt < (yA.1 35 2).toInt → 0 ≤ ya.toInt → ya.toInt < 160 → (yA.1 36 ya.toInt.toNat).toInt < 48 → (nmX (yA.1 36 ya.toInt.toNat)).toInt < 0 → (yA.1 36 ya.toInt.toNat).toInt = 33 → o.toInt < 8 → Pa N 88 0 [(0, .ref 35), (1, .int (o + 1))] [] (uI (uF (uI (uI (uI yA 35 4 ya) 35 3 ys) 35 5 yq) 37 yc) 35 4 (ya + 1)) (fun yu A1 => Pa N 88 93 [(0, .ref 35), (1, .int o), (2, .int (yA.1 36 ya.toInt.toNat)), (3, .int (nmX (yA.1 36 ya.toInt.toNat)))] (yu.toList ++ []) A1 yQ))
    (l7 : ya.toInt < (yA.1 35 2).toInt → 0 ≤ ya.toInt → ya.toInt < 160 → (yA.1 36 ya.toInt.toNat).toInt < 48 → 0 ≤ (nmX (yA.1 36 ya.toInt.toNat)).toInt → 0 ≤ ys.toInt → ys.toInt < 161 → yQ none (uI (uI (uI (uF (uI (uI (uI yA 35 4 ya) 35 3 ys) 35 5 yq) 37 yc) 35 4 (ya + 1)) 37 ys.toInt.toNat ((-1) - (nmX (yA.1 36 ya.toInt.toNat)))) 35 3 (ys + 1)))
    (l8 : ya.toInt < (yA.1 35 2).toInt → 0 ≤ ya.toInt → ya.toInt < 160 → 48 ≤ (yA.1 36 ya.toInt.toNat).toInt → 57 < (yA.1 36 ya.toInt.toNat).toInt → (nmX (yA.1 36 ya.toInt.toNat)).toInt < 0 → yQ none (uI (uF (uI (uI (uI yA 35 4 ya) 35 3 ys) 35 5 yq) 37 yc) 35 5 0))
    (l9 : ya.toInt < (yA.1 35 2).toInt → 0 ≤ ya.toInt → ya.toInt < 160 → 48 ≤ (yA.1 36 ya.toInt.toNat).toInt → 57 < (yA.1 36 ya.toInt.toNat).toInt → 0 ≤ (nmX (yA.1 36 ya.toInt.toNat)).toInt → 0 ≤ ys.toInt → ys.toInt < 161 → yQ none (uI (uI (uI (uF (uI (uI (uI yA 35 4 ya) 35 3 ys) 35 5 yq) 37 yc) 35 4 (ya + 1)) 37 ys.toInt.toNat ((-1) - (nmX (yA.1 36 ya.toInt.toNat)))) 35 3 (ys + 1)))
    (l10 : ya.toInt < (yA.1 35 2).toInt → 0 ≤ ya.toInt → ya.toInt < 160 → 48 ≤ (yA.1 36 ya.toInt.toNat).toInt → (yA.1 36 ya.toInt.toNat).toInt ≤ 57 → Pa N 89 0 [(0, .ref 35)] [] (uF (uI (uI (uI yA 35 4 ya) 35 3 ys) 35 5 yq) 37 yc) (fun yu A1 => Pa N 88 37 [(0, .ref 35), (1, .int o), (2, .int (yA.1 36 ya.toInt.toNat)), (3, .int (nmX (yA.1 36 ya.toInt.toNat)))] (yu.toList ++ []) A1 yQ)) :
    Pa (N + 1) 88 0 [(0, .ref 35), (1, .int o)] [] (uF (uI (uI (uI yA 35 4 ya) 35 3 ys) 35 5 yq) 37 yc) yQ := by
  refine Pa.mp1 0 (pc' := 1) (l' := [(0, .ref 35), (1, .int o)]) (st' := [.ref 35]) (by rfl) ?_
  refine Pa.inv (by rfl) (by rfl) (.inl rfl) (by rfl) ?_
  show Pa N 83 0 [(0, .ref 35)] [] (uF (uI (uI (uI yA 35 4 ya) 35 3 ys) 35 5 yq) 37 yc) _
  refine Pa.mp 1 (pc' := 1) (l' := [(0, .ref 35)]) (st' := [.ref 35]) (by rfl) ?_
  refine Pa.gfI (v := ya) (by rfl) (by rfl) (.inl rfl) (by rfl) (by show (uF (uI (uI (uI yA 35 4 ya) 35 3 ys) 35 5 yq) 37 yc).1 35 4 = ya; rw [uF_c (by decide), uI_k (by decide), uI_k (by decide), uI_h]) ?_
  refine Pa.mp 1 (pc' := 5) (l' := [(0, .ref 35)]) (st' := [.ref 35, .int ya]) (by rfl) ?_
  refine Pa.gfI (v := yA.1 35 2) (by rfl) (by rfl) (.inl rfl) (by rfl) (by show (uF (uI (uI (uI yA 35 4 ya) 35 3 ys) 35 5 yq) 37 yc).1 35 2 = yA.1 35 2; rw [uF_c (by decide), uI_k (by decide), uI_k (by decide), uI_k (by decide)]) ?_
  refine Pa.if2 (a := ya.toInt) (b := (yA.1 35 2).toInt) (t := 23) (by rfl) (by rfl) (rfl) (rfl) (fun h1 => ?_) (fun h2 => ?_)
  · have h1 : (yA.1 35 2).toInt ≤ ya.toInt := h1
    refine Pa.ic (x := (-1)) (pc' := 24) (by rfl) (by rfl) (by decide) ?_
    refine Pa.iret (by rfl) ?_
    show Pa N 88 4 [(0, .ref 35), (1, .int o)] [.int (-1)] (uF (uI (uI (uI yA 35 4 ya) 35 3 ys) 35 5 yq) 37 yc) _
    refine Pa.mp 2 (pc' := 6) (l' := [(2, .int (-1)), (0, .ref 35), (1, .int o)]) (st' := [.int (-1)]) (by rfl) ?_
    refine Pa.if1k false (by rfl) (by rfl) (by decide) ?_
    show Pa N 88 9 [(2, .int (-1)), (0, .ref 35), (1, .int o)] [] (uF (uI (uI (uI yA 35 4 ya) 35 3 ys) 35 5 yq) 37 yc) _
    refine Pa.ic (x := (-1)) (pc' := 10) (by rfl) (by rfl) (by decide) ?_
    refine Pa.mp 3 (pc' := 22) (l' := [(3, .int (-1)), (2, .int (-1)), (0, .ref 35), (1, .int o)]) (st' := [.int (-1)]) (by rfl) ?_
    refine Pa.ic (x := 48) (pc' := 24) (by rfl) (by rfl) (by decide) ?_
    refine Pa.if2k true (by rfl) (by rfl) (by decide) ?_
    show Pa N 88 40 [(3, .int (-1)), (2, .int (-1)), (0, .ref 35), (1, .int o)] [] (uF (uI (uI (uI yA 35 4 ya) 35 3 ys) 35 5 yq) 37 yc) _
    refine Pa.mp 1 (pc' := 41) (l' := [(3, .int (-1)), (2, .int (-1)), (0, .ref 35), (1, .int o)]) (st' := [.int (-1)]) (by rfl) ?_
    refine Pa.if1k true (by rfl) (by rfl) (by decide) ?_
    show Pa N 88 64 [(3, .int (-1)), (2, .int (-1)), (0, .ref 35), (1, .int o)] [] (uF (uI (uI (uI yA 35 4 ya) 35 3 ys) 35 5 yq) 37 yc) _
    refine Pa.mp 1 (pc' := 65) (l' := [(3, .int (-1)), (2, .int (-1)), (0, .ref 35), (1, .int o)]) (st' := [.int (-1)]) (by rfl) ?_
    refine Pa.ic (x := 33) (pc' := 67) (by rfl) (by rfl) (by decide) ?_
    refine Pa.if2k true (by rfl) (by rfl) (by decide) ?_
    show Pa N 88 102 [(3, .int (-1)), (2, .int (-1)), (0, .ref 35), (1, .int o)] [] (uF (uI (uI (uI yA 35 4 ya) 35 3 ys) 35 5 yq) 37 yc) _
    refine Pa.mp 1 (pc' := 103) (l' := [(3, .int (-1)), (2, .int (-1)), (0, .ref 35), (1, .int o)]) (st' := [.int (-1)]) (by rfl) ?_
    refine Pa.ic (x := 40) (pc' := 105) (by rfl) (by rfl) (by decide) ?_
    refine Pa.if2k true (by rfl) (by rfl) (by decide) ?_
    show Pa N 88 177 [(3, .int (-1)), (2, .int (-1)), (0, .ref 35), (1, .int o)] [] (uF (uI (uI (uI yA 35 4 ya) 35 3 ys) 35 5 yq) 37 yc) _
    refine Pa.mp 1 (pc' := 178) (l' := [(3, .int (-1)), (2, .int (-1)), (0, .ref 35), (1, .int o)]) (st' := [.ref 35]) (by rfl) ?_
    refine Pa.ic (x := 0) (pc' := 179) (by rfl) (by rfl) (by decide) ?_
    refine Pa.pfI (by rfl) (by rfl) (.inl rfl) (by rfl) ?_
    show Pa N 88 182 [(3, .int (-1)), (2, .int (-1)), (0, .ref 35), (1, .int o)] [] (uI (uF (uI (uI (uI yA 35 4 ya) 35 3 ys) 35 5 yq) 37 yc) 35 5 0) _
    refine Pa.vret (by rfl) ?_
    exact l1 h1
  · have h2 : ya.toInt < (yA.1 35 2).toInt := h2
    refine Pa.mp 1 (pc' := 12) (l' := [(0, .ref 35)]) (st' := [.ref 35]) (by rfl) ?_
    refine Pa.gfR (by rfl) (by rfl) (.inl rfl) (by rfl) ?_
    show Pa N 83 15 [(0, .ref 35)] [.ref 36] (uF (uI (uI (uI yA 35 4 ya) 35 3 ys) 35 5 yq) 37 yc) _
    refine Pa.mp 1 (pc' := 16) (l' := [(0, .ref 35)]) (st' := [.ref 35, .ref 36]) (by rfl) ?_
    refine Pa.gfI (v := ya) (by rfl) (by rfl) (.inl rfl) (by rfl) (by show (uF (uI (uI (uI yA 35 4 ya) 35 3 ys) 35 5 yq) 37 yc).1 35 4 = ya; rw [uF_c (by decide), uI_k (by decide), uI_k (by decide), uI_h]) ?_
    refine Pa.alds (v := yA.1 36 ya.toInt.toNat) (by rfl) (by rfl) (by show (uF (uI (uI (uI yA 35 4 ya) 35 3 ys) 35 5 yq) 37 yc).1 36 ya.toInt.toNat = yA.1 36 ya.toInt.toNat; rw [uF_c (by decide), uI_c (by decide), uI_c (by decide), uI_c (by decide)]) (fun h3 h4 => ?_)
    have h3 : 0 ≤ ya.toInt := h3
    have h4 : ya.toInt < 160 := h4
    refine Pa.mp 1 (pc' := 24) (l' := [(0, .ref 35)]) (st' := [.int (yA.1 36 ya.toInt.toNat)]) (by rfl) ?_
    refine Pa.iret (by rfl) ?_
    show Pa N 88 4 [(0, .ref 35), (1, .int o)] [.int (yA.1 36 ya.toInt.toNat)] (uF (uI (uI (uI yA 35 4 ya) 35 3 ys) 35 5 yq) 37 yc) _
    refine Pa.mp 2 (pc' := 6) (l' := [(2, .int (yA.1 36 ya.toInt.toNat)), (0, .ref 35), (1, .int o)]) (st' := [.int (yA.1 36 ya.toInt.toNat)]) (by rfl) ?_
    refine Pa.if1 (a := (yA.1 36 ya.toInt.toNat).toInt) (t := 13) (by rfl) (by rfl) (rfl) (fun _ => ?_) (fun yh => (by exfalso; have h' : (yA.1 36 ya.toInt.toNat).toInt < 0 := yh; omega))
    refine Pa.cst (pc' := 15) (l' := [(2, .int (yA.1 36 ya.toInt.toNat)), (0, .ref 35), (1, .int o)]) (st' := .retAddr 4 :: []) (by rfl) (fun _ _ _ => by rfl) ?_
    refine Pa.mp 2 (pc' := 17) (l' := [(2, .int (yA.1 36 ya.toInt.toNat)), (0, .ref 35), (1, .int o)]) (st' := [.int (((yA.1 36 ya.toInt.toNat).toUInt32 % 65536).toInt32), .retAddr 4]) (by rfl) ?_
    refine Pa.inv (by rfl) (by rfl) (.inl rfl) (by rfl) ?_
    refine Pa.mono (c_ixOf N (uF (uI (uI (uI yA 35 4 ya) 35 3 ys) 35 5 yq) 37 yc) (yA.1 36 ya.toInt.toNat) yhb hb2) (fun yu A1 hu => ?_)
    obtain ⟨rfl, hu⟩ := hu
    rw [hu]
    show Pa N 88 20 [(2, .int (yA.1 36 ya.toInt.toNat)), (0, .ref 35), (1, .int o)] [.int (nmX (yA.1 36 ya.toInt.toNat))] (uF (uI (uI (uI yA 35 4 ya) 35 3 ys) 35 5 yq) 37 yc) _
    refine Pa.mp 2 (pc' := 22) (l' := [(3, .int (nmX (yA.1 36 ya.toInt.toNat))), (2, .int (yA.1 36 ya.toInt.toNat)), (0, .ref 35), (1, .int o)]) (st' := [.int (yA.1 36 ya.toInt.toNat)]) (by rfl) ?_
    refine Pa.ic (x := 48) (pc' := 24) (by rfl) (by rfl) (by decide) ?_
    refine Pa.if2 (a := (yA.1 36 ya.toInt.toNat).toInt) (b := 48) (t := 40) (by rfl) (by rfl) (rfl) (by decide) (fun h6 => ?_) (fun h7 => ?_)
    · have h6 : (yA.1 36 ya.toInt.toNat).toInt < 48 := h6
      refine Pa.mp 1 (pc' := 41) (l' := [(3, .int (nmX (yA.1 36 ya.toInt.toNat))), (2, .int (yA.1 36 ya.toInt.toNat)), (0, .ref 35), (1, .int o)]) (st' := [.int (nmX (yA.1 36 ya.toInt.toNat))]) (by rfl) ?_
      refine Pa.if1 (a := (nmX (yA.1 36 ya.toInt.toNat)).toInt) (t := 64) (by rfl) (by rfl) (rfl) (fun h8 => ?_) (fun h9 => ?_)
      · have h8 : (nmX (yA.1 36 ya.toInt.toNat)).toInt < 0 := h8
        refine Pa.mp 1 (pc' := 65) (l' := [(3, .int (nmX (yA.1 36 ya.toInt.toNat))), (2, .int (yA.1 36 ya.toInt.toNat)), (0, .ref 35), (1, .int o)]) (st' := [.int (yA.1 36 ya.toInt.toNat)]) (by rfl) ?_
        refine Pa.ic (x := 33) (pc' := 67) (by rfl) (by rfl) (by decide) ?_
        refine Pa.if2 (a := (yA.1 36 ya.toInt.toNat).toInt) (b := 33) (t := 102) (by rfl) (by rfl) (rfl) (by decide) (fun h10 => ?_) (fun h11 => ?_)
        · have h10 : (yA.1 36 ya.toInt.toNat).toInt ≠ 33 := h10
          refine Pa.mp 1 (pc' := 103) (l' := [(3, .int (nmX (yA.1 36 ya.toInt.toNat))), (2, .int (yA.1 36 ya.toInt.toNat)), (0, .ref 35), (1, .int o)]) (st' := [.int (yA.1 36 ya.toInt.toNat)]) (by rfl) ?_
          refine Pa.ic (x := 40) (pc' := 105) (by rfl) (by rfl) (by decide) ?_
          refine Pa.if2 (a := (yA.1 36 ya.toInt.toNat).toInt) (b := 40) (t := 177) (by rfl) (by rfl) (rfl) (by decide) (fun h12 => ?_) (fun h13 => ?_)
          · have h12 : (yA.1 36 ya.toInt.toNat).toInt ≠ 40 := h12
            refine Pa.mp 1 (pc' := 178) (l' := [(3, .int (nmX (yA.1 36 ya.toInt.toNat))), (2, .int (yA.1 36 ya.toInt.toNat)), (0, .ref 35), (1, .int o)]) (st' := [.ref 35]) (by rfl) ?_
            refine Pa.ic (x := 0) (pc' := 179) (by rfl) (by rfl) (by decide) ?_
            refine Pa.pfI (by rfl) (by rfl) (.inl rfl) (by rfl) ?_
            show Pa N 88 182 [(3, .int (nmX (yA.1 36 ya.toInt.toNat))), (2, .int (yA.1 36 ya.toInt.toNat)), (0, .ref 35), (1, .int o)] [] (uI (uF (uI (uI (uI yA 35 4 ya) 35 3 ys) 35 5 yq) 37 yc) 35 5 0) _
            refine Pa.vret (by rfl) ?_
            exact l2 h2 h3 h4 h6 h8 h10 h12
          · have h13 : (yA.1 36 ya.toInt.toNat).toInt = 40 := h13
            refine Pa.mp 1 (pc' := 109) (l' := [(3, .int (nmX (yA.1 36 ya.toInt.toNat))), (2, .int (yA.1 36 ya.toInt.toNat)), (0, .ref 35), (1, .int o)]) (st' := [.int o]) (by rfl) ?_
            refine Pa.ic (x := 8) (pc' := 111) (by rfl) (by rfl) (by decide) ?_
            refine Pa.if2 (a := o.toInt) (b := 8) (t := 177) (by rfl) (by rfl) (rfl) (by decide) (fun h14 => ?_) (fun h15 => ?_)
            · have h14 : 8 ≤ o.toInt := h14
              refine Pa.mp 1 (pc' := 178) (l' := [(3, .int (nmX (yA.1 36 ya.toInt.toNat))), (2, .int (yA.1 36 ya.toInt.toNat)), (0, .ref 35), (1, .int o)]) (st' := [.ref 35]) (by rfl) ?_
              refine Pa.ic (x := 0) (pc' := 179) (by rfl) (by rfl) (by decide) ?_
              refine Pa.pfI (by rfl) (by rfl) (.inl rfl) (by rfl) ?_
              show Pa N 88 182 [(3, .int (nmX (yA.1 36 ya.toInt.toNat))), (2, .int (yA.1 36 ya.toInt.toNat)), (0, .ref 35), (1, .int o)] [] (uI (uF (uI (uI (uI yA 35 4 ya) 35 3 ys) 35 5 yq) 37 yc) 35 5 0) _
              refine Pa.vret (by rfl) ?_
              exact l3 h2 h3 h4 h6 h8 h10 h13 h14
            · have h15 : o.toInt < 8 := h15
              refine Pa.mp 2 (pc' := 116) (l' := [(3, .int (nmX (yA.1 36 ya.toInt.toNat))), (2, .int (yA.1 36 ya.toInt.toNat)), (0, .ref 35), (1, .int o)]) (st' := [.ref 35, .ref 35]) (by rfl) ?_
              refine Pa.gfI (v := ya) (by rfl) (by rfl) (.inl rfl) (by rfl) (by show (uF (uI (uI (uI yA 35 4 ya) 35 3 ys) 35 5 yq) 37 yc).1 35 4 = ya; rw [uF_c (by decide), uI_k (by decide), uI_k (by decide), uI_h]) ?_
              refine Pa.ic (x := 1) (pc' := 120) (by rfl) (by rfl) (by decide) ?_
              refine Pa.mp 1 (pc' := 121) (l' := [(3, .int (nmX (yA.1 36 ya.toInt.toNat))), (2, .int (yA.1 36 ya.toInt.toNat)), (0, .ref 35), (1, .int o)]) (st' := [.int (ya + 1), .ref 35]) (by rfl) ?_
              refine Pa.pfI (by rfl) (by rfl) (.inl rfl) (by rfl) ?_
              show Pa N 88 124 [(3, .int (nmX (yA.1 36 ya.toInt.toNat))), (2, .int (yA.1 36 ya.toInt.toNat)), (0, .ref 35), (1, .int o)] [] (uI (uF (uI (uI (uI yA 35 4 ya) 35 3 ys) 35 5 yq) 37 yc) 35 4 (ya + 1)) _
              refine Pa.mp 1 (pc' := 125) (l' := [(3, .int (nmX (yA.1 36 ya.toInt.toNat))), (2, .int (yA.1 36 ya.toInt.toNat)), (0, .ref 35), (1, .int o)]) (st' := [.ref 35]) (by rfl) ?_
              refine Pa.ic (x := 0) (pc' := 126) (by rfl) (by rfl) (by decide) ?_
              refine Pa.mp 1 (pc' := 127) (l' := [(3, .int (nmX (yA.1 36 ya.toInt.toNat))), (2, .int (yA.1 36 ya.toInt.toNat)), (0, .ref 35), (1, .int o)]) (st' := [.int o, .int 0, .ref 35]) (by rfl) ?_
              refine Pa.ic (x := 1) (pc' := 128) (by rfl) (by rfl) (by decide) ?_
              refine Pa.mp 1 (pc' := 129) (l' := [(3, .int (nmX (yA.1 36 ya.toInt.toNat))), (2, .int (yA.1 36 ya.toInt.toNat)), (0, .ref 35), (1, .int o)]) (st' := [.int (o + 1), .int 0, .ref 35]) (by rfl) ?_
              refine Pa.lv (l' := [(0, .ref 35), (1, .int o), (2, .int (yA.1 36 ya.toInt.toNat)), (3, .int (nmX (yA.1 36 ya.toInt.toNat)))]) (lvS_c rfl (lvS_c rfl (lvS_c rfl (lvS_c rfl (lvS_nil))))) rfl ?_
              refine Pa.inv (by rfl) (by rfl) (.inl rfl) (by rfl) ?_
              exact l4 h2 h3 h4 h6 h8 h10 h13 h15
        · have h11 : (yA.1 36 ya.toInt.toNat).toInt = 33 := h11
          refine Pa.mp 1 (pc' := 71) (l' := [(3, .int (nmX (yA.1 36 ya.toInt.toNat))), (2, .int (yA.1 36 ya.toInt.toNat)), (0, .ref 35), (1, .int o)]) (st' := [.int o]) (by rfl) ?_
          refine Pa.ic (x := 8) (pc' := 73) (by rfl) (by rfl) (by decide) ?_
          refine Pa.if2 (a := o.toInt) (b := 8) (t := 102) (by rfl) (by rfl) (rfl) (by decide) (fun yh16 => ?_) (fun h17 => ?_)
          · have yh16 : 8 ≤ o.toInt := yh16
            refine Pa.mp 1 (pc' := 103) (l' := [(3, .int (nmX (yA.1 36 ya.toInt.toNat))), (2, .int (yA.1 36 ya.toInt.toNat)), (0, .ref 35), (1, .int o)]) (st' := [.int (yA.1 36 ya.toInt.toNat)]) (by rfl) ?_
            refine Pa.ic (x := 40) (pc' := 105) (by rfl) (by rfl) (by decide) ?_
            refine Pa.if2 (a := (yA.1 36 ya.toInt.toNat).toInt) (b := 40) (t := 177) (by rfl) (by rfl) (rfl) (by decide) (fun _ => ?_) (fun yh => (by exfalso; have h' : (yA.1 36 ya.toInt.toNat).toInt = 40 := yh; omega))
            refine Pa.mp 1 (pc' := 178) (l' := [(3, .int (nmX (yA.1 36 ya.toInt.toNat))), (2, .int (yA.1 36 ya.toInt.toNat)), (0, .ref 35), (1, .int o)]) (st' := [.ref 35]) (by rfl) ?_
            refine Pa.ic (x := 0) (pc' := 179) (by rfl) (by rfl) (by decide) ?_
            refine Pa.pfI (by rfl) (by rfl) (.inl rfl) (by rfl) ?_
            show Pa N 88 182 [(3, .int (nmX (yA.1 36 ya.toInt.toNat))), (2, .int (yA.1 36 ya.toInt.toNat)), (0, .ref 35), (1, .int o)] [] (uI (uF (uI (uI (uI yA 35 4 ya) 35 3 ys) 35 5 yq) 37 yc) 35 5 0) _
            refine Pa.vret (by rfl) ?_
            exact l5 h2 h3 h4 h6 h8 h11 yh16
          · have h17 : o.toInt < 8 := h17
            refine Pa.mp 2 (pc' := 78) (l' := [(3, .int (nmX (yA.1 36 ya.toInt.toNat))), (2, .int (yA.1 36 ya.toInt.toNat)), (0, .ref 35), (1, .int o)]) (st' := [.ref 35, .ref 35]) (by rfl) ?_
            refine Pa.gfI (v := ya) (by rfl) (by rfl) (.inl rfl) (by rfl) (by show (uF (uI (uI (uI yA 35 4 ya) 35 3 ys) 35 5 yq) 37 yc).1 35 4 = ya; rw [uF_c (by decide), uI_k (by decide), uI_k (by decide), uI_h]) ?_
            refine Pa.ic (x := 1) (pc' := 82) (by rfl) (by rfl) (by decide) ?_
            refine Pa.mp 1 (pc' := 83) (l' := [(3, .int (nmX (yA.1 36 ya.toInt.toNat))), (2, .int (yA.1 36 ya.toInt.toNat)), (0, .ref 35), (1, .int o)]) (st' := [.int (ya + 1), .ref 35]) (by rfl) ?_
            refine Pa.pfI (by rfl) (by rfl) (.inl rfl) (by rfl) ?_
            show Pa N 88 86 [(3, .int (nmX (yA.1 36 ya.toInt.toNat))), (2, .int (yA.1 36 ya.toInt.toNat)), (0, .ref 35), (1, .int o)] [] (uI (uF (uI (uI (uI yA 35 4 ya) 35 3 ys) 35 5 yq) 37 yc) 35 4 (ya + 1)) _
            refine Pa.mp 2 (pc' := 88) (l' := [(3, .int (nmX (yA.1 36 ya.toInt.toNat))), (2, .int (yA.1 36 ya.toInt.toNat)), (0, .ref 35), (1, .int o)]) (st' := [.int o, .ref 35]) (by rfl) ?_
            refine Pa.ic (x := 1) (pc' := 89) (by rfl) (by rfl) (by decide) ?_
            refine Pa.mp 1 (pc' := 90) (l' := [(3, .int (nmX (yA.1 36 ya.toInt.toNat))), (2, .int (yA.1 36 ya.toInt.toNat)), (0, .ref 35), (1, .int o)]) (st' := [.int (o + 1), .ref 35]) (by rfl) ?_
            refine Pa.lv (l' := [(0, .ref 35), (1, .int o), (2, .int (yA.1 36 ya.toInt.toNat)), (3, .int (nmX (yA.1 36 ya.toInt.toNat)))]) (lvS_c rfl (lvS_c rfl (lvS_c rfl (lvS_c rfl (lvS_nil))))) rfl ?_
            refine Pa.inv (by rfl) (by rfl) (.inl rfl) (by rfl) ?_
            exact l6 h2 h3 h4 h6 h8 h11 h17
      · have h9 : 0 ≤ (nmX (yA.1 36 ya.toInt.toNat)).toInt := h9
        refine Pa.mp 2 (pc' := 46) (l' := [(3, .int (nmX (yA.1 36 ya.toInt.toNat))), (2, .int (yA.1 36 ya.toInt.toNat)), (0, .ref 35), (1, .int o)]) (st' := [.ref 35, .ref 35]) (by rfl) ?_
        refine Pa.gfI (v := ya) (by rfl) (by rfl) (.inl rfl) (by rfl) (by show (uF (uI (uI (uI yA 35 4 ya) 35 3 ys) 35 5 yq) 37 yc).1 35 4 = ya; rw [uF_c (by decide), uI_k (by decide), uI_k (by decide), uI_h]) ?_
        refine Pa.ic (x := 1) (pc' := 50) (by rfl) (by rfl) (by decide) ?_
        refine Pa.mp 1 (pc' := 51) (l' := [(3, .int (nmX (yA.1 36 ya.toInt.toNat))), (2, .int (yA.1 36 ya.toInt.toNat)), (0, .ref 35), (1, .int o)]) (st' := [.int (ya + 1), .ref 35]) (by rfl) ?_
        refine Pa.pfI (by rfl) (by rfl) (.inl rfl) (by rfl) ?_
        show Pa N 88 54 [(3, .int (nmX (yA.1 36 ya.toInt.toNat))), (2, .int (yA.1 36 ya.toInt.toNat)), (0, .ref 35), (1, .int o)] [] (uI (uF (uI (uI (uI yA 35 4 ya) 35 3 ys) 35 5 yq) 37 yc) 35 4 (ya + 1)) _
        refine Pa.mp 1 (pc' := 55) (l' := [(3, .int (nmX (yA.1 36 ya.toInt.toNat))), (2, .int (yA.1 36 ya.toInt.toNat)), (0, .ref 35), (1, .int o)]) (st' := [.ref 35]) (by rfl) ?_
        refine Pa.ic (x := (-1)) (pc' := 56) (by rfl) (by rfl) (by decide) ?_
        refine Pa.mp 2 (pc' := 58) (l' := [(3, .int (nmX (yA.1 36 ya.toInt.toNat))), (2, .int (yA.1 36 ya.toInt.toNat)), (0, .ref 35), (1, .int o)]) (st' := [.int ((-1) - (nmX (yA.1 36 ya.toInt.toNat))), .ref 35]) (by rfl) ?_
        refine Pa.inv (by rfl) (by rfl) (.inl rfl) (by rfl) ?_
        show Pa N 84 0 [(0, .ref 35), (1, .int ((-1) - (nmX (yA.1 36 ya.toInt.toNat))))] [] (uI (uF (uI (uI (uI yA 35 4 ya) 35 3 ys) 35 5 yq) 37 yc) 35 4 (ya + 1)) _
        refine Pa.mp 1 (pc' := 1) (l' := [(0, .ref 35), (1, .int ((-1) - (nmX (yA.1 36 ya.toInt.toNat))))]) (st' := [.ref 35]) (by rfl) ?_
        refine Pa.gfI (v := ys) (by rfl) (by rfl) (.inl rfl) (by rfl) (by show (uI (uF (uI (uI (uI yA 35 4 ya) 35 3 ys) 35 5 yq) 37 yc) 35 4 (ya + 1)).1 35 3 = ys; rw [uI_k (by decide), uF_c (by decide), uI_k (by decide), uI_h]) ?_
        refine Pa.mp 1 (pc' := 5) (l' := [(0, .ref 35), (1, .int ((-1) - (nmX (yA.1 36 ya.toInt.toNat))))]) (st' := [.ref 35, .int ys]) (by rfl) ?_
        refine Pa.gfR (by rfl) (by rfl) (.inl rfl) (by rfl) ?_
        show Pa N 84 8 [(0, .ref 35), (1, .int ((-1) - (nmX (yA.1 36 ya.toInt.toNat))))] [.ref 37, .int ys] (uI (uF (uI (uI (uI yA 35 4 ya) 35 3 ys) 35 5 yq) 37 yc) 35 4 (ya + 1)) _
        refine Pa.lens (x := 161) (by rfl) (by rfl) (by decide) ?_
        refine Pa.if2 (a := ys.toInt) (b := 161) (t := 32) (by rfl) (by rfl) (rfl) (by decide) (fun yh => (by exfalso; have h' : 161 ≤ ys.toInt := yh; omega)) (fun _ => ?_)
        refine Pa.mp 1 (pc' := 13) (l' := [(0, .ref 35), (1, .int ((-1) - (nmX (yA.1 36 ya.toInt.toNat))))]) (st' := [.ref 35]) (by rfl) ?_
        refine Pa.gfR (by rfl) (by rfl) (.inl rfl) (by rfl) ?_
        show Pa N 84 16 [(0, .ref 35), (1, .int ((-1) - (nmX (yA.1 36 ya.toInt.toNat))))] [.ref 37] (uI (uF (uI (uI (uI yA 35 4 ya) 35 3 ys) 35 5 yq) 37 yc) 35 4 (ya + 1)) _
        refine Pa.mp 1 (pc' := 17) (l' := [(0, .ref 35), (1, .int ((-1) - (nmX (yA.1 36 ya.toInt.toNat))))]) (st' := [.ref 35, .ref 37]) (by rfl) ?_
        refine Pa.gfI (v := ys) (by rfl) (by rfl) (.inl rfl) (by rfl) (by show (uI (uF (uI (uI (uI yA 35 4 ya) 35 3 ys) 35 5 yq) 37 yc) 35 4 (ya + 1)).1 35 3 = ys; rw [uI_k (by decide), uF_c (by decide), uI_k (by decide), uI_h]) ?_
        refine Pa.mp 1 (pc' := 21) (l' := [(0, .ref 35), (1, .int ((-1) - (nmX (yA.1 36 ya.toInt.toNat))))]) (st' := [.int ((-1) - (nmX (yA.1 36 ya.toInt.toNat))), .int ys, .ref 37]) (by rfl) ?_
        refine Pa.asts (j' := ys.toInt.toNat) (by rfl) (by rfl) (by rfl) (fun h20 h21 => ?_)
        have h20 : 0 ≤ ys.toInt := h20
        have h21 : ys.toInt < 161 := h21
        show Pa N 84 22 [(0, .ref 35), (1, .int ((-1) - (nmX (yA.1 36 ya.toInt.toNat))))] [] (uI (uI (uF (uI (uI (uI yA 35 4 ya) 35 3 ys) 35 5 yq) 37 yc) 35 4 (ya + 1)) 37 ys.toInt.toNat ((-1) - (nmX (yA.1 36 ya.toInt.toNat)))) _
        refine Pa.mp 2 (pc' := 24) (l' := [(0, .ref 35), (1, .int ((-1) - (nmX (yA.1 36 ya.toInt.toNat))))]) (st' := [.ref 35, .ref 35]) (by rfl) ?_
        refine Pa.gfI (v := ys) (by rfl) (by rfl) (.inl rfl) (by rfl) (by show (uI (uI (uF (uI (uI (uI yA 35 4 ya) 35 3 ys) 35 5 yq) 37 yc) 35 4 (ya + 1)) 37 ys.toInt.toNat ((-1) - (nmX (yA.1 36 ya.toInt.toNat)))).1 35 3 = ys; rw [uI_c (by decide), uI_k (by decide), uF_c (by decide), uI_k (by decide), uI_h]) ?_
        refine Pa.ic (x := 1) (pc' := 28) (by rfl) (by rfl) (by decide) ?_
        refine Pa.mp 1 (pc' := 29) (l' := [(0, .ref 35), (1, .int ((-1) - (nmX (yA.1 36 ya.toInt.toNat))))]) (st' := [.int (ys + 1), .ref 35]) (by rfl) ?_
        refine Pa.pfI (by rfl) (by rfl) (.inl rfl) (by rfl) ?_
        show Pa N 84 32 [(0, .ref 35), (1, .int ((-1) - (nmX (yA.1 36 ya.toInt.toNat))))] [] (uI (uI (uI (uF (uI (uI (uI yA 35 4 ya) 35 3 ys) 35 5 yq) 37 yc) 35 4 (ya + 1)) 37 ys.toInt.toNat ((-1) - (nmX (yA.1 36 ya.toInt.toNat)))) 35 3 (ys + 1)) _
        refine Pa.vret (by rfl) ?_
        show Pa N 88 61 [(3, .int (nmX (yA.1 36 ya.toInt.toNat))), (2, .int (yA.1 36 ya.toInt.toNat)), (0, .ref 35), (1, .int o)] [] (uI (uI (uI (uF (uI (uI (uI yA 35 4 ya) 35 3 ys) 35 5 yq) 37 yc) 35 4 (ya + 1)) 37 ys.toInt.toNat ((-1) - (nmX (yA.1 36 ya.toInt.toNat)))) 35 3 (ys + 1)) _
        refine Pa.mp 1 (pc' := 182) (l' := [(3, .int (nmX (yA.1 36 ya.toInt.toNat))), (2, .int (yA.1 36 ya.toInt.toNat)), (0, .ref 35), (1, .int o)]) (st' := []) (by rfl) ?_
        refine Pa.vret (by rfl) ?_
        exact l7 h2 h3 h4 h6 h9 h20 h21
    · have h7 : 48 ≤ (yA.1 36 ya.toInt.toNat).toInt := h7
      refine Pa.mp 1 (pc' := 28) (l' := [(3, .int (nmX (yA.1 36 ya.toInt.toNat))), (2, .int (yA.1 36 ya.toInt.toNat)), (0, .ref 35), (1, .int o)]) (st' := [.int (yA.1 36 ya.toInt.toNat)]) (by rfl) ?_
      refine Pa.ic (x := 57) (pc' := 30) (by rfl) (by rfl) (by decide) ?_
      refine Pa.if2 (a := (yA.1 36 ya.toInt.toNat).toInt) (b := 57) (t := 40) (by rfl) (by rfl) (rfl) (by decide) (fun h22 => ?_) (fun h23 => ?_)
      · have h22 : 57 < (yA.1 36 ya.toInt.toNat).toInt := h22
        refine Pa.mp 1 (pc' := 41) (l' := [(3, .int (nmX (yA.1 36 ya.toInt.toNat))), (2, .int (yA.1 36 ya.toInt.toNat)), (0, .ref 35), (1, .int o)]) (st' := [.int (nmX (yA.1 36 ya.toInt.toNat))]) (by rfl) ?_
        refine Pa.if1 (a := (nmX (yA.1 36 ya.toInt.toNat)).toInt) (t := 64) (by rfl) (by rfl) (rfl) (fun h24 => ?_) (fun h25 => ?_)
        · have h24 : (nmX (yA.1 36 ya.toInt.toNat)).toInt < 0 := h24
          refine Pa.mp 1 (pc' := 65) (l' := [(3, .int (nmX (yA.1 36 ya.toInt.toNat))), (2, .int (yA.1 36 ya.toInt.toNat)), (0, .ref 35), (1, .int o)]) (st' := [.int (yA.1 36 ya.toInt.toNat)]) (by rfl) ?_
          refine Pa.ic (x := 33) (pc' := 67) (by rfl) (by rfl) (by decide) ?_
          refine Pa.if2 (a := (yA.1 36 ya.toInt.toNat).toInt) (b := 33) (t := 102) (by rfl) (by rfl) (rfl) (by decide) (fun _ => ?_) (fun yh => (by exfalso; have h' : (yA.1 36 ya.toInt.toNat).toInt = 33 := yh; omega))
          refine Pa.mp 1 (pc' := 103) (l' := [(3, .int (nmX (yA.1 36 ya.toInt.toNat))), (2, .int (yA.1 36 ya.toInt.toNat)), (0, .ref 35), (1, .int o)]) (st' := [.int (yA.1 36 ya.toInt.toNat)]) (by rfl) ?_
          refine Pa.ic (x := 40) (pc' := 105) (by rfl) (by rfl) (by decide) ?_
          refine Pa.if2 (a := (yA.1 36 ya.toInt.toNat).toInt) (b := 40) (t := 177) (by rfl) (by rfl) (rfl) (by decide) (fun _ => ?_) (fun yh => (by exfalso; have h' : (yA.1 36 ya.toInt.toNat).toInt = 40 := yh; omega))
          refine Pa.mp 1 (pc' := 178) (l' := [(3, .int (nmX (yA.1 36 ya.toInt.toNat))), (2, .int (yA.1 36 ya.toInt.toNat)), (0, .ref 35), (1, .int o)]) (st' := [.ref 35]) (by rfl) ?_
          refine Pa.ic (x := 0) (pc' := 179) (by rfl) (by rfl) (by decide) ?_
          refine Pa.pfI (by rfl) (by rfl) (.inl rfl) (by rfl) ?_
          show Pa N 88 182 [(3, .int (nmX (yA.1 36 ya.toInt.toNat))), (2, .int (yA.1 36 ya.toInt.toNat)), (0, .ref 35), (1, .int o)] [] (uI (uF (uI (uI (uI yA 35 4 ya) 35 3 ys) 35 5 yq) 37 yc) 35 5 0) _
          refine Pa.vret (by rfl) ?_
          exact l8 h2 h3 h4 h7 h22 h24
        · have h25 : 0 ≤ (nmX (yA.1 36 ya.toInt.toNat)).toInt := h25
          refine Pa.mp 2 (pc' := 46) (l' := [(3, .int (nmX (yA.1 36 ya.toInt.toNat))), (2, .int (yA.1 36 ya.toInt.toNat)), (0, .ref 35), (1, .int o)]) (st' := [.ref 35, .ref 35]) (by rfl) ?_
          refine Pa.gfI (v := ya) (by rfl) (by rfl) (.inl rfl) (by rfl) (by show (uF (uI (uI (uI yA 35 4 ya) 35 3 ys) 35 5 yq) 37 yc).1 35 4 = ya; rw [uF_c (by decide), uI_k (by decide), uI_k (by decide), uI_h]) ?_
          refine Pa.ic (x := 1) (pc' := 50) (by rfl) (by rfl) (by decide) ?_
          refine Pa.mp 1 (pc' := 51) (l' := [(3, .int (nmX (yA.1 36 ya.toInt.toNat))), (2, .int (yA.1 36 ya.toInt.toNat)), (0, .ref 35), (1, .int o)]) (st' := [.int (ya + 1), .ref 35]) (by rfl) ?_
          refine Pa.pfI (by rfl) (by rfl) (.inl rfl) (by rfl) ?_
          show Pa N 88 54 [(3, .int (nmX (yA.1 36 ya.toInt.toNat))), (2, .int (yA.1 36 ya.toInt.toNat)), (0, .ref 35), (1, .int o)] [] (uI (uF (uI (uI (uI yA 35 4 ya) 35 3 ys) 35 5 yq) 37 yc) 35 4 (ya + 1)) _
          refine Pa.mp 1 (pc' := 55) (l' := [(3, .int (nmX (yA.1 36 ya.toInt.toNat))), (2, .int (yA.1 36 ya.toInt.toNat)), (0, .ref 35), (1, .int o)]) (st' := [.ref 35]) (by rfl) ?_
          refine Pa.ic (x := (-1)) (pc' := 56) (by rfl) (by rfl) (by decide) ?_
          refine Pa.mp 2 (pc' := 58) (l' := [(3, .int (nmX (yA.1 36 ya.toInt.toNat))), (2, .int (yA.1 36 ya.toInt.toNat)), (0, .ref 35), (1, .int o)]) (st' := [.int ((-1) - (nmX (yA.1 36 ya.toInt.toNat))), .ref 35]) (by rfl) ?_
          refine Pa.inv (by rfl) (by rfl) (.inl rfl) (by rfl) ?_
          show Pa N 84 0 [(0, .ref 35), (1, .int ((-1) - (nmX (yA.1 36 ya.toInt.toNat))))] [] (uI (uF (uI (uI (uI yA 35 4 ya) 35 3 ys) 35 5 yq) 37 yc) 35 4 (ya + 1)) _
          refine Pa.mp 1 (pc' := 1) (l' := [(0, .ref 35), (1, .int ((-1) - (nmX (yA.1 36 ya.toInt.toNat))))]) (st' := [.ref 35]) (by rfl) ?_
          refine Pa.gfI (v := ys) (by rfl) (by rfl) (.inl rfl) (by rfl) (by show (uI (uF (uI (uI (uI yA 35 4 ya) 35 3 ys) 35 5 yq) 37 yc) 35 4 (ya + 1)).1 35 3 = ys; rw [uI_k (by decide), uF_c (by decide), uI_k (by decide), uI_h]) ?_
          refine Pa.mp 1 (pc' := 5) (l' := [(0, .ref 35), (1, .int ((-1) - (nmX (yA.1 36 ya.toInt.toNat))))]) (st' := [.ref 35, .int ys]) (by rfl) ?_
          refine Pa.gfR (by rfl) (by rfl) (.inl rfl) (by rfl) ?_
          show Pa N 84 8 [(0, .ref 35), (1, .int ((-1) - (nmX (yA.1 36 ya.toInt.toNat))))] [.ref 37, .int ys] (uI (uF (uI (uI (uI yA 35 4 ya) 35 3 ys) 35 5 yq) 37 yc) 35 4 (ya + 1)) _
          refine Pa.lens (x := 161) (by rfl) (by rfl) (by decide) ?_
          refine Pa.if2 (a := ys.toInt) (b := 161) (t := 32) (by rfl) (by rfl) (rfl) (by decide) (fun yh => (by exfalso; have h' : 161 ≤ ys.toInt := yh; omega)) (fun _ => ?_)
          refine Pa.mp 1 (pc' := 13) (l' := [(0, .ref 35), (1, .int ((-1) - (nmX (yA.1 36 ya.toInt.toNat))))]) (st' := [.ref 35]) (by rfl) ?_
          refine Pa.gfR (by rfl) (by rfl) (.inl rfl) (by rfl) ?_
          show Pa N 84 16 [(0, .ref 35), (1, .int ((-1) - (nmX (yA.1 36 ya.toInt.toNat))))] [.ref 37] (uI (uF (uI (uI (uI yA 35 4 ya) 35 3 ys) 35 5 yq) 37 yc) 35 4 (ya + 1)) _
          refine Pa.mp 1 (pc' := 17) (l' := [(0, .ref 35), (1, .int ((-1) - (nmX (yA.1 36 ya.toInt.toNat))))]) (st' := [.ref 35, .ref 37]) (by rfl) ?_
          refine Pa.gfI (v := ys) (by rfl) (by rfl) (.inl rfl) (by rfl) (by show (uI (uF (uI (uI (uI yA 35 4 ya) 35 3 ys) 35 5 yq) 37 yc) 35 4 (ya + 1)).1 35 3 = ys; rw [uI_k (by decide), uF_c (by decide), uI_k (by decide), uI_h]) ?_
          refine Pa.mp 1 (pc' := 21) (l' := [(0, .ref 35), (1, .int ((-1) - (nmX (yA.1 36 ya.toInt.toNat))))]) (st' := [.int ((-1) - (nmX (yA.1 36 ya.toInt.toNat))), .int ys, .ref 37]) (by rfl) ?_
          refine Pa.asts (j' := ys.toInt.toNat) (by rfl) (by rfl) (by rfl) (fun h29 h30 => ?_)
          have h29 : 0 ≤ ys.toInt := h29
          have h30 : ys.toInt < 161 := h30
          show Pa N 84 22 [(0, .ref 35), (1, .int ((-1) - (nmX (yA.1 36 ya.toInt.toNat))))] [] (uI (uI (uF (uI (uI (uI yA 35 4 ya) 35 3 ys) 35 5 yq) 37 yc) 35 4 (ya + 1)) 37 ys.toInt.toNat ((-1) - (nmX (yA.1 36 ya.toInt.toNat)))) _
          refine Pa.mp 2 (pc' := 24) (l' := [(0, .ref 35), (1, .int ((-1) - (nmX (yA.1 36 ya.toInt.toNat))))]) (st' := [.ref 35, .ref 35]) (by rfl) ?_
          refine Pa.gfI (v := ys) (by rfl) (by rfl) (.inl rfl) (by rfl) (by show (uI (uI (uF (uI (uI (uI yA 35 4 ya) 35 3 ys) 35 5 yq) 37 yc) 35 4 (ya + 1)) 37 ys.toInt.toNat ((-1) - (nmX (yA.1 36 ya.toInt.toNat)))).1 35 3 = ys; rw [uI_c (by decide), uI_k (by decide), uF_c (by decide), uI_k (by decide), uI_h]) ?_
          refine Pa.ic (x := 1) (pc' := 28) (by rfl) (by rfl) (by decide) ?_
          refine Pa.mp 1 (pc' := 29) (l' := [(0, .ref 35), (1, .int ((-1) - (nmX (yA.1 36 ya.toInt.toNat))))]) (st' := [.int (ys + 1), .ref 35]) (by rfl) ?_
          refine Pa.pfI (by rfl) (by rfl) (.inl rfl) (by rfl) ?_
          show Pa N 84 32 [(0, .ref 35), (1, .int ((-1) - (nmX (yA.1 36 ya.toInt.toNat))))] [] (uI (uI (uI (uF (uI (uI (uI yA 35 4 ya) 35 3 ys) 35 5 yq) 37 yc) 35 4 (ya + 1)) 37 ys.toInt.toNat ((-1) - (nmX (yA.1 36 ya.toInt.toNat)))) 35 3 (ys + 1)) _
          refine Pa.vret (by rfl) ?_
          show Pa N 88 61 [(3, .int (nmX (yA.1 36 ya.toInt.toNat))), (2, .int (yA.1 36 ya.toInt.toNat)), (0, .ref 35), (1, .int o)] [] (uI (uI (uI (uF (uI (uI (uI yA 35 4 ya) 35 3 ys) 35 5 yq) 37 yc) 35 4 (ya + 1)) 37 ys.toInt.toNat ((-1) - (nmX (yA.1 36 ya.toInt.toNat)))) 35 3 (ys + 1)) _
          refine Pa.mp 1 (pc' := 182) (l' := [(3, .int (nmX (yA.1 36 ya.toInt.toNat))), (2, .int (yA.1 36 ya.toInt.toNat)), (0, .ref 35), (1, .int o)]) (st' := []) (by rfl) ?_
          refine Pa.vret (by rfl) ?_
          exact l9 h2 h3 h4 h7 h22 h25 h29 h30
      · have h23 : (yA.1 36 ya.toInt.toNat).toInt ≤ 57 := h23
        refine Pa.mp 1 (pc' := 34) (l' := [(3, .int (nmX (yA.1 36 ya.toInt.toNat))), (2, .int (yA.1 36 ya.toInt.toNat)), (0, .ref 35), (1, .int o)]) (st' := [.ref 35]) (by rfl) ?_
        refine Pa.lv (l' := [(0, .ref 35), (1, .int o), (2, .int (yA.1 36 ya.toInt.toNat)), (3, .int (nmX (yA.1 36 ya.toInt.toNat)))]) (lvS_c rfl (lvS_c rfl (lvS_c rfl (lvS_c rfl (lvS_nil))))) rfl ?_
        refine Pa.inv (by rfl) (by rfl) (.inl rfl) (by rfl) ?_
        exact l10 h2 h3 h4 h7 h23


theorem bx_ope {N : Nat} {yA : AW} {yQ : Option Value → AW → Prop} (o : Int32) (ya ys yq : Int32) (yc : Nat → Int32) (hs : ys.toInt < 161) (he : (yA.1 35 2).toInt ≤ ya.toInt)
    (l1 : yQ none (uI (uF (uI (uI (uI yA 35 4 ya) 35 3 ys) 35 5 yq) 37 yc) 35 5 0)) :
    Pa (N + 1) 88 0 [(0, .ref 35), (1, .int o)] [] (uF (uI (uI (uI yA 35 4 ya) 35 3 ys) 35 5 yq) 37 yc) yQ := by
  refine Pa.mp1 0 (pc' := 1) (l' := [(0, .ref 35), (1, .int o)]) (st' := [.ref 35]) (by rfl) ?_
  refine Pa.inv (by rfl) (by rfl) (.inl rfl) (by rfl) ?_
  show Pa N 83 0 [(0, .ref 35)] [] (uF (uI (uI (uI yA 35 4 ya) 35 3 ys) 35 5 yq) 37 yc) _
  refine Pa.mp 1 (pc' := 1) (l' := [(0, .ref 35)]) (st' := [.ref 35]) (by rfl) ?_
  refine Pa.gfI (v := ya) (by rfl) (by rfl) (.inl rfl) (by rfl) (by show (uF (uI (uI (uI yA 35 4 ya) 35 3 ys) 35 5 yq) 37 yc).1 35 4 = ya; rw [uF_c (by decide), uI_k (by decide), uI_k (by decide), uI_h]) ?_
  refine Pa.mp 1 (pc' := 5) (l' := [(0, .ref 35)]) (st' := [.ref 35, .int ya]) (by rfl) ?_
  refine Pa.gfI (v := yA.1 35 2) (by rfl) (by rfl) (.inl rfl) (by rfl) (by show (uF (uI (uI (uI yA 35 4 ya) 35 3 ys) 35 5 yq) 37 yc).1 35 2 = yA.1 35 2; rw [uF_c (by decide), uI_k (by decide), uI_k (by decide), uI_k (by decide)]) ?_
  refine Pa.if2 (a := ya.toInt) (b := (yA.1 35 2).toInt) (t := 23) (by rfl) (by rfl) (rfl) (rfl) (fun _ => ?_) (fun yh => (by exfalso; have h' : ya.toInt < (yA.1 35 2).toInt := yh; omega))
  refine Pa.ic (x := (-1)) (pc' := 24) (by rfl) (by rfl) (by decide) ?_
  refine Pa.iret (by rfl) ?_
  show Pa N 88 4 [(0, .ref 35), (1, .int o)] [.int (-1)] (uF (uI (uI (uI yA 35 4 ya) 35 3 ys) 35 5 yq) 37 yc) _
  refine Pa.mp 2 (pc' := 6) (l' := [(2, .int (-1)), (0, .ref 35), (1, .int o)]) (st' := [.int (-1)]) (by rfl) ?_
  refine Pa.if1k false (by rfl) (by rfl) (by decide) ?_
  show Pa N 88 9 [(2, .int (-1)), (0, .ref 35), (1, .int o)] [] (uF (uI (uI (uI yA 35 4 ya) 35 3 ys) 35 5 yq) 37 yc) _
  refine Pa.ic (x := (-1)) (pc' := 10) (by rfl) (by rfl) (by decide) ?_
  refine Pa.mp 3 (pc' := 22) (l' := [(3, .int (-1)), (2, .int (-1)), (0, .ref 35), (1, .int o)]) (st' := [.int (-1)]) (by rfl) ?_
  refine Pa.ic (x := 48) (pc' := 24) (by rfl) (by rfl) (by decide) ?_
  refine Pa.if2k true (by rfl) (by rfl) (by decide) ?_
  show Pa N 88 40 [(3, .int (-1)), (2, .int (-1)), (0, .ref 35), (1, .int o)] [] (uF (uI (uI (uI yA 35 4 ya) 35 3 ys) 35 5 yq) 37 yc) _
  refine Pa.mp 1 (pc' := 41) (l' := [(3, .int (-1)), (2, .int (-1)), (0, .ref 35), (1, .int o)]) (st' := [.int (-1)]) (by rfl) ?_
  refine Pa.if1k true (by rfl) (by rfl) (by decide) ?_
  show Pa N 88 64 [(3, .int (-1)), (2, .int (-1)), (0, .ref 35), (1, .int o)] [] (uF (uI (uI (uI yA 35 4 ya) 35 3 ys) 35 5 yq) 37 yc) _
  refine Pa.mp 1 (pc' := 65) (l' := [(3, .int (-1)), (2, .int (-1)), (0, .ref 35), (1, .int o)]) (st' := [.int (-1)]) (by rfl) ?_
  refine Pa.ic (x := 33) (pc' := 67) (by rfl) (by rfl) (by decide) ?_
  refine Pa.if2k true (by rfl) (by rfl) (by decide) ?_
  show Pa N 88 102 [(3, .int (-1)), (2, .int (-1)), (0, .ref 35), (1, .int o)] [] (uF (uI (uI (uI yA 35 4 ya) 35 3 ys) 35 5 yq) 37 yc) _
  refine Pa.mp 1 (pc' := 103) (l' := [(3, .int (-1)), (2, .int (-1)), (0, .ref 35), (1, .int o)]) (st' := [.int (-1)]) (by rfl) ?_
  refine Pa.ic (x := 40) (pc' := 105) (by rfl) (by rfl) (by decide) ?_
  refine Pa.if2k true (by rfl) (by rfl) (by decide) ?_
  show Pa N 88 177 [(3, .int (-1)), (2, .int (-1)), (0, .ref 35), (1, .int o)] [] (uF (uI (uI (uI yA 35 4 ya) 35 3 ys) 35 5 yq) 37 yc) _
  refine Pa.mp 1 (pc' := 178) (l' := [(3, .int (-1)), (2, .int (-1)), (0, .ref 35), (1, .int o)]) (st' := [.ref 35]) (by rfl) ?_
  refine Pa.ic (x := 0) (pc' := 179) (by rfl) (by rfl) (by decide) ?_
  refine Pa.pfI (by rfl) (by rfl) (.inl rfl) (by rfl) ?_
  show Pa N 88 182 [(3, .int (-1)), (2, .int (-1)), (0, .ref 35), (1, .int o)] [] (uI (uF (uI (uI (uI yA 35 4 ya) 35 3 ys) 35 5 yq) 37 yc) 35 5 0) _
  refine Pa.vret (by rfl) ?_
  exact l1


theorem bx_opn {N : Nat} {yA : AW} {yQ : Option Value → AW → Prop} (o yx yy : Int32)
    (l1 : yQ none yA) :
    Pa N 88 37 [(0, .ref 35), (1, .int o), (2, .int yx), (3, .int yy)] [] yA yQ := by
  refine Pa.mp 1 (pc' := 182) (l' := [(0, .ref 35), (1, .int o), (2, .int yx), (3, .int yy)]) (st' := []) (by rfl) ?_
  refine Pa.vret (by rfl) ?_
  exact l1


theorem bx_opx {N : Nat} {yA : AW} {yQ : Option Value → AW → Prop} (o yx yy : Int32) (ya ys yq : Int32) (yc : Nat → Int32)
    (l1 : 161 ≤ ys.toInt → yQ none (uF (uI (uI (uI yA 35 4 ya) 35 3 ys) 35 5 yq) 37 yc))
    (l2 : ys.toInt < 161 → 0 ≤ ys.toInt → yQ none (uI (uI (uF (uI (uI (uI yA 35 4 ya) 35 3 ys) 35 5 yq) 37 yc) 37 ys.toInt.toNat (-33)) 35 3 (ys + 1))) :
    Pa N 88 93 [(0, .ref 35), (1, .int o), (2, .int yx), (3, .int yy)] [] (uF (uI (uI (uI yA 35 4 ya) 35 3 ys) 35 5 yq) 37 yc) yQ := by
  refine Pa.mp 1 (pc' := 94) (l' := [(0, .ref 35), (1, .int o), (2, .int yx), (3, .int yy)]) (st' := [.ref 35]) (by rfl) ?_
  refine Pa.ic (x := (-33)) (pc' := 96) (by rfl) (by rfl) (by decide) ?_
  refine Pa.inv (by rfl) (by rfl) (.inl rfl) (by rfl) ?_
  show Pa N 84 0 [(0, .ref 35), (1, .int (-33))] [] (uF (uI (uI (uI yA 35 4 ya) 35 3 ys) 35 5 yq) 37 yc) _
  refine Pa.mp 1 (pc' := 1) (l' := [(0, .ref 35), (1, .int (-33))]) (st' := [.ref 35]) (by rfl) ?_
  refine Pa.gfI (v := ys) (by rfl) (by rfl) (.inl rfl) (by rfl) (by show (uF (uI (uI (uI yA 35 4 ya) 35 3 ys) 35 5 yq) 37 yc).1 35 3 = ys; rw [uF_c (by decide), uI_k (by decide), uI_h]) ?_
  refine Pa.mp 1 (pc' := 5) (l' := [(0, .ref 35), (1, .int (-33))]) (st' := [.ref 35, .int ys]) (by rfl) ?_
  refine Pa.gfR (by rfl) (by rfl) (.inl rfl) (by rfl) ?_
  show Pa N 84 8 [(0, .ref 35), (1, .int (-33))] [.ref 37, .int ys] (uF (uI (uI (uI yA 35 4 ya) 35 3 ys) 35 5 yq) 37 yc) _
  refine Pa.lens (x := 161) (by rfl) (by rfl) (by decide) ?_
  refine Pa.if2 (a := ys.toInt) (b := 161) (t := 32) (by rfl) (by rfl) (rfl) (by decide) (fun h1 => ?_) (fun h2 => ?_)
  · have h1 : 161 ≤ ys.toInt := h1
    refine Pa.vret (by rfl) ?_
    show Pa N 88 99 [(0, .ref 35), (1, .int o), (2, .int yx), (3, .int yy)] [] (uF (uI (uI (uI yA 35 4 ya) 35 3 ys) 35 5 yq) 37 yc) _
    refine Pa.mp 1 (pc' := 182) (l' := [(0, .ref 35), (1, .int o), (2, .int yx), (3, .int yy)]) (st' := []) (by rfl) ?_
    refine Pa.vret (by rfl) ?_
    exact l1 h1
  · have h2 : ys.toInt < 161 := h2
    refine Pa.mp 1 (pc' := 13) (l' := [(0, .ref 35), (1, .int (-33))]) (st' := [.ref 35]) (by rfl) ?_
    refine Pa.gfR (by rfl) (by rfl) (.inl rfl) (by rfl) ?_
    show Pa N 84 16 [(0, .ref 35), (1, .int (-33))] [.ref 37] (uF (uI (uI (uI yA 35 4 ya) 35 3 ys) 35 5 yq) 37 yc) _
    refine Pa.mp 1 (pc' := 17) (l' := [(0, .ref 35), (1, .int (-33))]) (st' := [.ref 35, .ref 37]) (by rfl) ?_
    refine Pa.gfI (v := ys) (by rfl) (by rfl) (.inl rfl) (by rfl) (by show (uF (uI (uI (uI yA 35 4 ya) 35 3 ys) 35 5 yq) 37 yc).1 35 3 = ys; rw [uF_c (by decide), uI_k (by decide), uI_h]) ?_
    refine Pa.mp 1 (pc' := 21) (l' := [(0, .ref 35), (1, .int (-33))]) (st' := [.int (-33), .int ys, .ref 37]) (by rfl) ?_
    refine Pa.asts (j' := ys.toInt.toNat) (by rfl) (by rfl) (by rfl) (fun h3 h4 => ?_)
    have h3 : 0 ≤ ys.toInt := h3
    have h4 : ys.toInt < 161 := h4
    show Pa N 84 22 [(0, .ref 35), (1, .int (-33))] [] (uI (uF (uI (uI (uI yA 35 4 ya) 35 3 ys) 35 5 yq) 37 yc) 37 ys.toInt.toNat (-33)) _
    refine Pa.mp 2 (pc' := 24) (l' := [(0, .ref 35), (1, .int (-33))]) (st' := [.ref 35, .ref 35]) (by rfl) ?_
    refine Pa.gfI (v := ys) (by rfl) (by rfl) (.inl rfl) (by rfl) (by show (uI (uF (uI (uI (uI yA 35 4 ya) 35 3 ys) 35 5 yq) 37 yc) 37 ys.toInt.toNat (-33)).1 35 3 = ys; rw [uI_c (by decide), uF_c (by decide), uI_k (by decide), uI_h]) ?_
    refine Pa.ic (x := 1) (pc' := 28) (by rfl) (by rfl) (by decide) ?_
    refine Pa.mp 1 (pc' := 29) (l' := [(0, .ref 35), (1, .int (-33))]) (st' := [.int (ys + 1), .ref 35]) (by rfl) ?_
    refine Pa.pfI (by rfl) (by rfl) (.inl rfl) (by rfl) ?_
    show Pa N 84 32 [(0, .ref 35), (1, .int (-33))] [] (uI (uI (uF (uI (uI (uI yA 35 4 ya) 35 3 ys) 35 5 yq) 37 yc) 37 ys.toInt.toNat (-33)) 35 3 (ys + 1)) _
    refine Pa.vret (by rfl) ?_
    show Pa N 88 99 [(0, .ref 35), (1, .int o), (2, .int yx), (3, .int yy)] [] (uI (uI (uF (uI (uI (uI yA 35 4 ya) 35 3 ys) 35 5 yq) 37 yc) 37 ys.toInt.toNat (-33)) 35 3 (ys + 1)) _
    refine Pa.mp 1 (pc' := 182) (l' := [(0, .ref 35), (1, .int o), (2, .int yx), (3, .int yy)]) (st' := []) (by rfl) ?_
    refine Pa.vret (by rfl) ?_
    exact l2 h2 h3


theorem bx_opp {N : Nat} {yA : AW} {yQ : Option Value → AW → Prop} (o yx yy : Int32) (ya ys yq : Int32) (yc : Nat → Int32)
    (l1 : yq.toInt = 0 → yQ none (uI (uF (uI (uI (uI yA 35 4 ya) 35 3 ys) 35 5 yq) 37 yc) 35 5 0))
    (l2 : yq.toInt ≠ 0 → (yA.1 35 2).toInt ≤ ya.toInt → yQ none (uI (uF (uI (uI (uI yA 35 4 ya) 35 3 ys) 35 5 yq) 37 yc) 35 5 0))
    (l3 : yq.toInt ≠ 0 → ya.toInt < (yA.1 35 2).toInt → 0 ≤ ya.toInt → ya.toInt < 160 → (yA.1 36 ya.toInt.toNat).toInt ≠ 41 → yQ none (uI (uF (uI (uI (uI yA 35 4 ya) 35 3 ys) 35 5 yq) 37 yc) 35 5 0))
    (l4 : yq.toInt ≠ 0 → ya.toInt < (yA.1 35 2).toInt → 0 ≤ ya.toInt → ya.toInt < 160 → (yA.1 36 ya.toInt.toNat).toInt = 41 → yQ none (uI (uI (uF (uI (uI (uI yA 35 4 ya) 35 3 ys) 35 5 yq) 37 yc) 35 5 1) 35 4 (ya + 1))) :
    Pa N 88 132 [(0, .ref 35), (1, .int o), (2, .int yx), (3, .int yy)] [] (uF (uI (uI (uI yA 35 4 ya) 35 3 ys) 35 5 yq) 37 yc) yQ := by
  refine Pa.mp 2 (pc' := 134) (l' := [(0, .ref 35), (1, .int o), (2, .int yx), (3, .int yy)]) (st' := [.ref 35, .ref 35]) (by rfl) ?_
  refine Pa.gfI (v := yq) (by rfl) (by rfl) (.inl rfl) (by rfl) (by show (uF (uI (uI (uI yA 35 4 ya) 35 3 ys) 35 5 yq) 37 yc).1 35 5 = yq; rw [uF_c (by decide), uI_h]) ?_
  refine Pa.if1 (a := yq.toInt) (t := 153) (by rfl) (by rfl) (rfl) (fun h1 => ?_) (fun h2 => ?_)
  · have h1 : yq.toInt = 0 := h1
    refine Pa.ic (x := 0) (pc' := 154) (by rfl) (by rfl) (by decide) ?_
    refine Pa.pfI (by rfl) (by rfl) (.inl rfl) (by rfl) ?_
    show Pa N 88 157 [(0, .ref 35), (1, .int o), (2, .int yx), (3, .int yy)] [] (uI (uF (uI (uI (uI yA 35 4 ya) 35 3 ys) 35 5 yq) 37 yc) 35 5 0) _
    refine Pa.mp 1 (pc' := 158) (l' := [(0, .ref 35), (1, .int o), (2, .int yx), (3, .int yy)]) (st' := [.ref 35]) (by rfl) ?_
    refine Pa.gfI (v := 0) (by rfl) (by rfl) (.inl rfl) (by rfl) (by show (uI (uF (uI (uI (uI yA 35 4 ya) 35 3 ys) 35 5 yq) 37 yc) 35 5 0).1 35 5 = 0; rw [uI_h]) ?_
    refine Pa.if1k true (by rfl) (by rfl) (by decide) ?_
    show Pa N 88 182 [(0, .ref 35), (1, .int o), (2, .int yx), (3, .int yy)] [] (uI (uF (uI (uI (uI yA 35 4 ya) 35 3 ys) 35 5 yq) 37 yc) 35 5 0) _
    refine Pa.vret (by rfl) ?_
    exact l1 h1
  · have h2 : yq.toInt ≠ 0 := h2
    refine Pa.mp 1 (pc' := 141) (l' := [(0, .ref 35), (1, .int o), (2, .int yx), (3, .int yy)]) (st' := [.ref 35, .ref 35]) (by rfl) ?_
    refine Pa.inv (by rfl) (by rfl) (.inl rfl) (by rfl) ?_
    show Pa N 83 0 [(0, .ref 35)] [] (uF (uI (uI (uI yA 35 4 ya) 35 3 ys) 35 5 yq) 37 yc) _
    refine Pa.mp 1 (pc' := 1) (l' := [(0, .ref 35)]) (st' := [.ref 35]) (by rfl) ?_
    refine Pa.gfI (v := ya) (by rfl) (by rfl) (.inl rfl) (by rfl) (by show (uF (uI (uI (uI yA 35 4 ya) 35 3 ys) 35 5 yq) 37 yc).1 35 4 = ya; rw [uF_c (by decide), uI_k (by decide), uI_k (by decide), uI_h]) ?_
    refine Pa.mp 1 (pc' := 5) (l' := [(0, .ref 35)]) (st' := [.ref 35, .int ya]) (by rfl) ?_
    refine Pa.gfI (v := yA.1 35 2) (by rfl) (by rfl) (.inl rfl) (by rfl) (by show (uF (uI (uI (uI yA 35 4 ya) 35 3 ys) 35 5 yq) 37 yc).1 35 2 = yA.1 35 2; rw [uF_c (by decide), uI_k (by decide), uI_k (by decide), uI_k (by decide)]) ?_
    refine Pa.if2 (a := ya.toInt) (b := (yA.1 35 2).toInt) (t := 23) (by rfl) (by rfl) (rfl) (rfl) (fun h3 => ?_) (fun h4 => ?_)
    · have h3 : (yA.1 35 2).toInt ≤ ya.toInt := h3
      refine Pa.ic (x := (-1)) (pc' := 24) (by rfl) (by rfl) (by decide) ?_
      refine Pa.iret (by rfl) ?_
      show Pa N 88 144 [(0, .ref 35), (1, .int o), (2, .int yx), (3, .int yy)] [.int (-1), .ref 35] (uF (uI (uI (uI yA 35 4 ya) 35 3 ys) 35 5 yq) 37 yc) _
      refine Pa.ic (x := 41) (pc' := 146) (by rfl) (by rfl) (by decide) ?_
      refine Pa.if2k true (by rfl) (by rfl) (by decide) ?_
      show Pa N 88 153 [(0, .ref 35), (1, .int o), (2, .int yx), (3, .int yy)] [.ref 35] (uF (uI (uI (uI yA 35 4 ya) 35 3 ys) 35 5 yq) 37 yc) _
      refine Pa.ic (x := 0) (pc' := 154) (by rfl) (by rfl) (by decide) ?_
      refine Pa.pfI (by rfl) (by rfl) (.inl rfl) (by rfl) ?_
      show Pa N 88 157 [(0, .ref 35), (1, .int o), (2, .int yx), (3, .int yy)] [] (uI (uF (uI (uI (uI yA 35 4 ya) 35 3 ys) 35 5 yq) 37 yc) 35 5 0) _
      refine Pa.mp 1 (pc' := 158) (l' := [(0, .ref 35), (1, .int o), (2, .int yx), (3, .int yy)]) (st' := [.ref 35]) (by rfl) ?_
      refine Pa.gfI (v := 0) (by rfl) (by rfl) (.inl rfl) (by rfl) (by show (uI (uF (uI (uI (uI yA 35 4 ya) 35 3 ys) 35 5 yq) 37 yc) 35 5 0).1 35 5 = 0; rw [uI_h]) ?_
      refine Pa.if1k true (by rfl) (by rfl) (by decide) ?_
      show Pa N 88 182 [(0, .ref 35), (1, .int o), (2, .int yx), (3, .int yy)] [] (uI (uF (uI (uI (uI yA 35 4 ya) 35 3 ys) 35 5 yq) 37 yc) 35 5 0) _
      refine Pa.vret (by rfl) ?_
      exact l2 h2 h3
    · have h4 : ya.toInt < (yA.1 35 2).toInt := h4
      refine Pa.mp 1 (pc' := 12) (l' := [(0, .ref 35)]) (st' := [.ref 35]) (by rfl) ?_
      refine Pa.gfR (by rfl) (by rfl) (.inl rfl) (by rfl) ?_
      show Pa N 83 15 [(0, .ref 35)] [.ref 36] (uF (uI (uI (uI yA 35 4 ya) 35 3 ys) 35 5 yq) 37 yc) _
      refine Pa.mp 1 (pc' := 16) (l' := [(0, .ref 35)]) (st' := [.ref 35, .ref 36]) (by rfl) ?_
      refine Pa.gfI (v := ya) (by rfl) (by rfl) (.inl rfl) (by rfl) (by show (uF (uI (uI (uI yA 35 4 ya) 35 3 ys) 35 5 yq) 37 yc).1 35 4 = ya; rw [uF_c (by decide), uI_k (by decide), uI_k (by decide), uI_h]) ?_
      refine Pa.alds (v := yA.1 36 ya.toInt.toNat) (by rfl) (by rfl) (by show (uF (uI (uI (uI yA 35 4 ya) 35 3 ys) 35 5 yq) 37 yc).1 36 ya.toInt.toNat = yA.1 36 ya.toInt.toNat; rw [uF_c (by decide), uI_c (by decide), uI_c (by decide), uI_c (by decide)]) (fun h5 h6 => ?_)
      have h5 : 0 ≤ ya.toInt := h5
      have h6 : ya.toInt < 160 := h6
      refine Pa.mp 1 (pc' := 24) (l' := [(0, .ref 35)]) (st' := [.int (yA.1 36 ya.toInt.toNat)]) (by rfl) ?_
      refine Pa.iret (by rfl) ?_
      show Pa N 88 144 [(0, .ref 35), (1, .int o), (2, .int yx), (3, .int yy)] [.int (yA.1 36 ya.toInt.toNat), .ref 35] (uF (uI (uI (uI yA 35 4 ya) 35 3 ys) 35 5 yq) 37 yc) _
      refine Pa.ic (x := 41) (pc' := 146) (by rfl) (by rfl) (by decide) ?_
      refine Pa.if2 (a := (yA.1 36 ya.toInt.toNat).toInt) (b := 41) (t := 153) (by rfl) (by rfl) (rfl) (by decide) (fun h7 => ?_) (fun h8 => ?_)
      · have h7 : (yA.1 36 ya.toInt.toNat).toInt ≠ 41 := h7
        refine Pa.ic (x := 0) (pc' := 154) (by rfl) (by rfl) (by decide) ?_
        refine Pa.pfI (by rfl) (by rfl) (.inl rfl) (by rfl) ?_
        show Pa N 88 157 [(0, .ref 35), (1, .int o), (2, .int yx), (3, .int yy)] [] (uI (uF (uI (uI (uI yA 35 4 ya) 35 3 ys) 35 5 yq) 37 yc) 35 5 0) _
        refine Pa.mp 1 (pc' := 158) (l' := [(0, .ref 35), (1, .int o), (2, .int yx), (3, .int yy)]) (st' := [.ref 35]) (by rfl) ?_
        refine Pa.gfI (v := 0) (by rfl) (by rfl) (.inl rfl) (by rfl) (by show (uI (uF (uI (uI (uI yA 35 4 ya) 35 3 ys) 35 5 yq) 37 yc) 35 5 0).1 35 5 = 0; rw [uI_h]) ?_
        refine Pa.if1k true (by rfl) (by rfl) (by decide) ?_
        show Pa N 88 182 [(0, .ref 35), (1, .int o), (2, .int yx), (3, .int yy)] [] (uI (uF (uI (uI (uI yA 35 4 ya) 35 3 ys) 35 5 yq) 37 yc) 35 5 0) _
        refine Pa.vret (by rfl) ?_
        exact l3 h2 h4 h5 h6 h7
      · have h8 : (yA.1 36 ya.toInt.toNat).toInt = 41 := h8
        refine Pa.ic (x := 1) (pc' := 150) (by rfl) (by rfl) (by decide) ?_
        refine Pa.mp 1 (pc' := 154) (l' := [(0, .ref 35), (1, .int o), (2, .int yx), (3, .int yy)]) (st' := [.int 1, .ref 35]) (by rfl) ?_
        refine Pa.pfI (by rfl) (by rfl) (.inl rfl) (by rfl) ?_
        show Pa N 88 157 [(0, .ref 35), (1, .int o), (2, .int yx), (3, .int yy)] [] (uI (uF (uI (uI (uI yA 35 4 ya) 35 3 ys) 35 5 yq) 37 yc) 35 5 1) _
        refine Pa.mp 1 (pc' := 158) (l' := [(0, .ref 35), (1, .int o), (2, .int yx), (3, .int yy)]) (st' := [.ref 35]) (by rfl) ?_
        refine Pa.gfI (v := 1) (by rfl) (by rfl) (.inl rfl) (by rfl) (by show (uI (uF (uI (uI (uI yA 35 4 ya) 35 3 ys) 35 5 yq) 37 yc) 35 5 1).1 35 5 = 1; rw [uI_h]) ?_
        refine Pa.if1k false (by rfl) (by rfl) (by decide) ?_
        show Pa N 88 164 [(0, .ref 35), (1, .int o), (2, .int yx), (3, .int yy)] [] (uI (uF (uI (uI (uI yA 35 4 ya) 35 3 ys) 35 5 yq) 37 yc) 35 5 1) _
        refine Pa.mp 2 (pc' := 166) (l' := [(0, .ref 35), (1, .int o), (2, .int yx), (3, .int yy)]) (st' := [.ref 35, .ref 35]) (by rfl) ?_
        refine Pa.gfI (v := ya) (by rfl) (by rfl) (.inl rfl) (by rfl) (by show (uI (uF (uI (uI (uI yA 35 4 ya) 35 3 ys) 35 5 yq) 37 yc) 35 5 1).1 35 4 = ya; rw [uI_k (by decide), uF_c (by decide), uI_k (by decide), uI_k (by decide), uI_h]) ?_
        refine Pa.ic (x := 1) (pc' := 170) (by rfl) (by rfl) (by decide) ?_
        refine Pa.mp 1 (pc' := 171) (l' := [(0, .ref 35), (1, .int o), (2, .int yx), (3, .int yy)]) (st' := [.int (ya + 1), .ref 35]) (by rfl) ?_
        refine Pa.pfI (by rfl) (by rfl) (.inl rfl) (by rfl) ?_
        show Pa N 88 174 [(0, .ref 35), (1, .int o), (2, .int yx), (3, .int yy)] [] (uI (uI (uF (uI (uI (uI yA 35 4 ya) 35 3 ys) 35 5 yq) 37 yc) 35 5 1) 35 4 (ya + 1)) _
        refine Pa.mp 1 (pc' := 182) (l' := [(0, .ref 35), (1, .int o), (2, .int yx), (3, .int yy)]) (st' := []) (by rfl) ?_
        refine Pa.vret (by rfl) ?_
        exact l4 h2 h4 h5 h6 h8


theorem bx_li0 {N : Nat} {yA : AW} {yQ : Option Value → AW → Prop} 
    (l1 : Pa N 86 0 [(0, .ref 35), (1, .int 0), (2, .int 0)] [] yA (fun yu A1 => Pa N 85 6 [(0, .ref 35)] (yu.toList ++ []) A1 yQ)) :
    Pa N 85 0 [(0, .ref 35)] [] yA yQ := by
  refine Pa.mp 1 (pc' := 1) (l' := [(0, .ref 35)]) (st' := [.ref 35]) (by rfl) ?_
  refine Pa.ic (x := 0) (pc' := 2) (by rfl) (by rfl) (by decide) ?_
  refine Pa.ic (x := 0) (pc' := 3) (by rfl) (by rfl) (by decide) ?_
  refine Pa.inv (by rfl) (by rfl) (.inl rfl) (by rfl) ?_
  exact l1


theorem bx_li1 {N : Nat} {yA : AW} {yQ : Option Value → AW → Prop} (ya ys yq : Int32) (yc : Nat → Int32)
    (l1 : yq.toInt = 0 → 161 ≤ ys.toInt → yQ none (uF (uI (uI (uI yA 35 4 ya) 35 3 ys) 35 5 yq) 37 yc))
    (l2 : yq.toInt = 0 → ys.toInt < 161 → 0 ≤ ys.toInt → yQ none (uI (uI (uF (uI (uI (uI yA 35 4 ya) 35 3 ys) 35 5 yq) 37 yc) 37 ys.toInt.toNat (-59)) 35 3 (ys + 1)))
    (l3 : yq.toInt ≠ 0 → (yA.1 35 2).toInt ≤ ya.toInt → 161 ≤ ys.toInt → yQ none (uF (uI (uI (uI yA 35 4 ya) 35 3 ys) 35 5 yq) 37 yc))
    (l4 : yq.toInt ≠ 0 → (yA.1 35 2).toInt ≤ ya.toInt → ys.toInt < 161 → 0 ≤ ys.toInt → yQ none (uI (uI (uF (uI (uI (uI yA 35 4 ya) 35 3 ys) 35 5 yq) 37 yc) 37 ys.toInt.toNat (-59)) 35 3 (ys + 1)))
    (l5 : yq.toInt ≠ 0 → ya.toInt < (yA.1 35 2).toInt → 0 ≤ ya.toInt → ya.toInt < 160 → (yA.1 36 ya.toInt.toNat).toInt ≠ 63 → 161 ≤ ys.toInt → yQ none (uF (uI (uI (uI yA 35 4 ya) 35 3 ys) 35 5 yq) 37 yc))
    (l6 : yq.toInt ≠ 0 → ya.toInt < (yA.1 35 2).toInt → 0 ≤ ya.toInt → ya.toInt < 160 → (yA.1 36 ya.toInt.toNat).toInt ≠ 63 → ys.toInt < 161 → 0 ≤ ys.toInt → yQ none (uI (uI (uF (uI (uI (uI yA 35 4 ya) 35 3 ys) 35 5 yq) 37 yc) 37 ys.toInt.toNat (-59)) 35 3 (ys + 1)))
    (l7 : yq.toInt ≠ 0 → ya.toInt < (yA.1 35 2).toInt → 0 ≤ ya.toInt → ya.toInt < 160 → (yA.1 36 ya.toInt.toNat).toInt = 63 → 161 ≤ ys.toInt → Pa N 86 0 [(0, .ref 35), (1, .int 0), (2, .int 0)] [] (uI (uF (uI (uI (uI yA 35 4 ya) 35 3 ys) 35 5 yq) 37 yc) 35 4 (ya + 1)) (fun yu A1 => Pa N 85 44 [(0, .ref 35)] (yu.toList ++ []) A1 yQ))
    (l8 : yq.toInt ≠ 0 → ya.toInt < (yA.1 35 2).toInt → 0 ≤ ya.toInt → ya.toInt < 160 → (yA.1 36 ya.toInt.toNat).toInt = 63 → ys.toInt < 161 → 0 ≤ ys.toInt → Pa N 86 0 [(0, .ref 35), (1, .int 0), (2, .int 0)] [] (uI (uI (uI (uF (uI (uI (uI yA 35 4 ya) 35 3 ys) 35 5 yq) 37 yc) 35 4 (ya + 1)) 37 ys.toInt.toNat (-63)) 35 3 (ys + 1)) (fun yu A1 => Pa N 85 44 [(0, .ref 35)] (yu.toList ++ []) A1 yQ)) :
    Pa N 85 6 [(0, .ref 35)] [] (uF (uI (uI (uI yA 35 4 ya) 35 3 ys) 35 5 yq) 37 yc) yQ := by
  refine Pa.mp 1 (pc' := 7) (l' := [(0, .ref 35)]) (st' := [.ref 35]) (by rfl) ?_
  refine Pa.gfI (v := yq) (by rfl) (by rfl) (.inl rfl) (by rfl) (by show (uF (uI (uI (uI yA 35 4 ya) 35 3 ys) 35 5 yq) 37 yc).1 35 5 = yq; rw [uF_c (by decide), uI_h]) ?_
  refine Pa.if1 (a := yq.toInt) (t := 44) (by rfl) (by rfl) (rfl) (fun h1 => ?_) (fun h2 => ?_)
  · have h1 : yq.toInt = 0 := h1
    refine Pa.mp 1 (pc' := 45) (l' := [(0, .ref 35)]) (st' := [.ref 35]) (by rfl) ?_
    refine Pa.ic (x := (-59)) (pc' := 47) (by rfl) (by rfl) (by decide) ?_
    refine Pa.inv (by rfl) (by rfl) (.inl rfl) (by rfl) ?_
    show Pa N 84 0 [(0, .ref 35), (1, .int (-59))] [] (uF (uI (uI (uI yA 35 4 ya) 35 3 ys) 35 5 yq) 37 yc) _
    refine Pa.mp 1 (pc' := 1) (l' := [(0, .ref 35), (1, .int (-59))]) (st' := [.ref 35]) (by rfl) ?_
    refine Pa.gfI (v := ys) (by rfl) (by rfl) (.inl rfl) (by rfl) (by show (uF (uI (uI (uI yA 35 4 ya) 35 3 ys) 35 5 yq) 37 yc).1 35 3 = ys; rw [uF_c (by decide), uI_k (by decide), uI_h]) ?_
    refine Pa.mp 1 (pc' := 5) (l' := [(0, .ref 35), (1, .int (-59))]) (st' := [.ref 35, .int ys]) (by rfl) ?_
    refine Pa.gfR (by rfl) (by rfl) (.inl rfl) (by rfl) ?_
    show Pa N 84 8 [(0, .ref 35), (1, .int (-59))] [.ref 37, .int ys] (uF (uI (uI (uI yA 35 4 ya) 35 3 ys) 35 5 yq) 37 yc) _
    refine Pa.lens (x := 161) (by rfl) (by rfl) (by decide) ?_
    refine Pa.if2 (a := ys.toInt) (b := 161) (t := 32) (by rfl) (by rfl) (rfl) (by decide) (fun h3 => ?_) (fun h4 => ?_)
    · have h3 : 161 ≤ ys.toInt := h3
      refine Pa.vret (by rfl) ?_
      show Pa N 85 50 [(0, .ref 35)] [] (uF (uI (uI (uI yA 35 4 ya) 35 3 ys) 35 5 yq) 37 yc) _
      refine Pa.vret (by rfl) ?_
      exact l1 h1 h3
    · have h4 : ys.toInt < 161 := h4
      refine Pa.mp 1 (pc' := 13) (l' := [(0, .ref 35), (1, .int (-59))]) (st' := [.ref 35]) (by rfl) ?_
      refine Pa.gfR (by rfl) (by rfl) (.inl rfl) (by rfl) ?_
      show Pa N 84 16 [(0, .ref 35), (1, .int (-59))] [.ref 37] (uF (uI (uI (uI yA 35 4 ya) 35 3 ys) 35 5 yq) 37 yc) _
      refine Pa.mp 1 (pc' := 17) (l' := [(0, .ref 35), (1, .int (-59))]) (st' := [.ref 35, .ref 37]) (by rfl) ?_
      refine Pa.gfI (v := ys) (by rfl) (by rfl) (.inl rfl) (by rfl) (by show (uF (uI (uI (uI yA 35 4 ya) 35 3 ys) 35 5 yq) 37 yc).1 35 3 = ys; rw [uF_c (by decide), uI_k (by decide), uI_h]) ?_
      refine Pa.mp 1 (pc' := 21) (l' := [(0, .ref 35), (1, .int (-59))]) (st' := [.int (-59), .int ys, .ref 37]) (by rfl) ?_
      refine Pa.asts (j' := ys.toInt.toNat) (by rfl) (by rfl) (by rfl) (fun h5 h6 => ?_)
      have h5 : 0 ≤ ys.toInt := h5
      have h6 : ys.toInt < 161 := h6
      show Pa N 84 22 [(0, .ref 35), (1, .int (-59))] [] (uI (uF (uI (uI (uI yA 35 4 ya) 35 3 ys) 35 5 yq) 37 yc) 37 ys.toInt.toNat (-59)) _
      refine Pa.mp 2 (pc' := 24) (l' := [(0, .ref 35), (1, .int (-59))]) (st' := [.ref 35, .ref 35]) (by rfl) ?_
      refine Pa.gfI (v := ys) (by rfl) (by rfl) (.inl rfl) (by rfl) (by show (uI (uF (uI (uI (uI yA 35 4 ya) 35 3 ys) 35 5 yq) 37 yc) 37 ys.toInt.toNat (-59)).1 35 3 = ys; rw [uI_c (by decide), uF_c (by decide), uI_k (by decide), uI_h]) ?_
      refine Pa.ic (x := 1) (pc' := 28) (by rfl) (by rfl) (by decide) ?_
      refine Pa.mp 1 (pc' := 29) (l' := [(0, .ref 35), (1, .int (-59))]) (st' := [.int (ys + 1), .ref 35]) (by rfl) ?_
      refine Pa.pfI (by rfl) (by rfl) (.inl rfl) (by rfl) ?_
      show Pa N 84 32 [(0, .ref 35), (1, .int (-59))] [] (uI (uI (uF (uI (uI (uI yA 35 4 ya) 35 3 ys) 35 5 yq) 37 yc) 37 ys.toInt.toNat (-59)) 35 3 (ys + 1)) _
      refine Pa.vret (by rfl) ?_
      show Pa N 85 50 [(0, .ref 35)] [] (uI (uI (uF (uI (uI (uI yA 35 4 ya) 35 3 ys) 35 5 yq) 37 yc) 37 ys.toInt.toNat (-59)) 35 3 (ys + 1)) _
      refine Pa.vret (by rfl) ?_
      exact l2 h1 h4 h5
  · have h2 : yq.toInt ≠ 0 := h2
    refine Pa.mp 1 (pc' := 14) (l' := [(0, .ref 35)]) (st' := [.ref 35]) (by rfl) ?_
    refine Pa.inv (by rfl) (by rfl) (.inl rfl) (by rfl) ?_
    show Pa N 83 0 [(0, .ref 35)] [] (uF (uI (uI (uI yA 35 4 ya) 35 3 ys) 35 5 yq) 37 yc) _
    refine Pa.mp 1 (pc' := 1) (l' := [(0, .ref 35)]) (st' := [.ref 35]) (by rfl) ?_
    refine Pa.gfI (v := ya) (by rfl) (by rfl) (.inl rfl) (by rfl) (by show (uF (uI (uI (uI yA 35 4 ya) 35 3 ys) 35 5 yq) 37 yc).1 35 4 = ya; rw [uF_c (by decide), uI_k (by decide), uI_k (by decide), uI_h]) ?_
    refine Pa.mp 1 (pc' := 5) (l' := [(0, .ref 35)]) (st' := [.ref 35, .int ya]) (by rfl) ?_
    refine Pa.gfI (v := yA.1 35 2) (by rfl) (by rfl) (.inl rfl) (by rfl) (by show (uF (uI (uI (uI yA 35 4 ya) 35 3 ys) 35 5 yq) 37 yc).1 35 2 = yA.1 35 2; rw [uF_c (by decide), uI_k (by decide), uI_k (by decide), uI_k (by decide)]) ?_
    refine Pa.if2 (a := ya.toInt) (b := (yA.1 35 2).toInt) (t := 23) (by rfl) (by rfl) (rfl) (rfl) (fun h7 => ?_) (fun h8 => ?_)
    · have h7 : (yA.1 35 2).toInt ≤ ya.toInt := h7
      refine Pa.ic (x := (-1)) (pc' := 24) (by rfl) (by rfl) (by decide) ?_
      refine Pa.iret (by rfl) ?_
      show Pa N 85 17 [(0, .ref 35)] [.int (-1)] (uF (uI (uI (uI yA 35 4 ya) 35 3 ys) 35 5 yq) 37 yc) _
      refine Pa.ic (x := 63) (pc' := 19) (by rfl) (by rfl) (by decide) ?_
      refine Pa.if2k true (by rfl) (by rfl) (by decide) ?_
      show Pa N 85 44 [(0, .ref 35)] [] (uF (uI (uI (uI yA 35 4 ya) 35 3 ys) 35 5 yq) 37 yc) _
      refine Pa.mp 1 (pc' := 45) (l' := [(0, .ref 35)]) (st' := [.ref 35]) (by rfl) ?_
      refine Pa.ic (x := (-59)) (pc' := 47) (by rfl) (by rfl) (by decide) ?_
      refine Pa.inv (by rfl) (by rfl) (.inl rfl) (by rfl) ?_
      show Pa N 84 0 [(0, .ref 35), (1, .int (-59))] [] (uF (uI (uI (uI yA 35 4 ya) 35 3 ys) 35 5 yq) 37 yc) _
      refine Pa.mp 1 (pc' := 1) (l' := [(0, .ref 35), (1, .int (-59))]) (st' := [.ref 35]) (by rfl) ?_
      refine Pa.gfI (v := ys) (by rfl) (by rfl) (.inl rfl) (by rfl) (by show (uF (uI (uI (uI yA 35 4 ya) 35 3 ys) 35 5 yq) 37 yc).1 35 3 = ys; rw [uF_c (by decide), uI_k (by decide), uI_h]) ?_
      refine Pa.mp 1 (pc' := 5) (l' := [(0, .ref 35), (1, .int (-59))]) (st' := [.ref 35, .int ys]) (by rfl) ?_
      refine Pa.gfR (by rfl) (by rfl) (.inl rfl) (by rfl) ?_
      show Pa N 84 8 [(0, .ref 35), (1, .int (-59))] [.ref 37, .int ys] (uF (uI (uI (uI yA 35 4 ya) 35 3 ys) 35 5 yq) 37 yc) _
      refine Pa.lens (x := 161) (by rfl) (by rfl) (by decide) ?_
      refine Pa.if2 (a := ys.toInt) (b := 161) (t := 32) (by rfl) (by rfl) (rfl) (by decide) (fun h9 => ?_) (fun h10 => ?_)
      · have h9 : 161 ≤ ys.toInt := h9
        refine Pa.vret (by rfl) ?_
        show Pa N 85 50 [(0, .ref 35)] [] (uF (uI (uI (uI yA 35 4 ya) 35 3 ys) 35 5 yq) 37 yc) _
        refine Pa.vret (by rfl) ?_
        exact l3 h2 h7 h9
      · have h10 : ys.toInt < 161 := h10
        refine Pa.mp 1 (pc' := 13) (l' := [(0, .ref 35), (1, .int (-59))]) (st' := [.ref 35]) (by rfl) ?_
        refine Pa.gfR (by rfl) (by rfl) (.inl rfl) (by rfl) ?_
        show Pa N 84 16 [(0, .ref 35), (1, .int (-59))] [.ref 37] (uF (uI (uI (uI yA 35 4 ya) 35 3 ys) 35 5 yq) 37 yc) _
        refine Pa.mp 1 (pc' := 17) (l' := [(0, .ref 35), (1, .int (-59))]) (st' := [.ref 35, .ref 37]) (by rfl) ?_
        refine Pa.gfI (v := ys) (by rfl) (by rfl) (.inl rfl) (by rfl) (by show (uF (uI (uI (uI yA 35 4 ya) 35 3 ys) 35 5 yq) 37 yc).1 35 3 = ys; rw [uF_c (by decide), uI_k (by decide), uI_h]) ?_
        refine Pa.mp 1 (pc' := 21) (l' := [(0, .ref 35), (1, .int (-59))]) (st' := [.int (-59), .int ys, .ref 37]) (by rfl) ?_
        refine Pa.asts (j' := ys.toInt.toNat) (by rfl) (by rfl) (by rfl) (fun h11 h12 => ?_)
        have h11 : 0 ≤ ys.toInt := h11
        have h12 : ys.toInt < 161 := h12
        show Pa N 84 22 [(0, .ref 35), (1, .int (-59))] [] (uI (uF (uI (uI (uI yA 35 4 ya) 35 3 ys) 35 5 yq) 37 yc) 37 ys.toInt.toNat (-59)) _
        refine Pa.mp 2 (pc' := 24) (l' := [(0, .ref 35), (1, .int (-59))]) (st' := [.ref 35, .ref 35]) (by rfl) ?_
        refine Pa.gfI (v := ys) (by rfl) (by rfl) (.inl rfl) (by rfl) (by show (uI (uF (uI (uI (uI yA 35 4 ya) 35 3 ys) 35 5 yq) 37 yc) 37 ys.toInt.toNat (-59)).1 35 3 = ys; rw [uI_c (by decide), uF_c (by decide), uI_k (by decide), uI_h]) ?_
        refine Pa.ic (x := 1) (pc' := 28) (by rfl) (by rfl) (by decide) ?_
        refine Pa.mp 1 (pc' := 29) (l' := [(0, .ref 35), (1, .int (-59))]) (st' := [.int (ys + 1), .ref 35]) (by rfl) ?_
        refine Pa.pfI (by rfl) (by rfl) (.inl rfl) (by rfl) ?_
        show Pa N 84 32 [(0, .ref 35), (1, .int (-59))] [] (uI (uI (uF (uI (uI (uI yA 35 4 ya) 35 3 ys) 35 5 yq) 37 yc) 37 ys.toInt.toNat (-59)) 35 3 (ys + 1)) _
        refine Pa.vret (by rfl) ?_
        show Pa N 85 50 [(0, .ref 35)] [] (uI (uI (uF (uI (uI (uI yA 35 4 ya) 35 3 ys) 35 5 yq) 37 yc) 37 ys.toInt.toNat (-59)) 35 3 (ys + 1)) _
        refine Pa.vret (by rfl) ?_
        exact l4 h2 h7 h10 h11
    · have h8 : ya.toInt < (yA.1 35 2).toInt := h8
      refine Pa.mp 1 (pc' := 12) (l' := [(0, .ref 35)]) (st' := [.ref 35]) (by rfl) ?_
      refine Pa.gfR (by rfl) (by rfl) (.inl rfl) (by rfl) ?_
      show Pa N 83 15 [(0, .ref 35)] [.ref 36] (uF (uI (uI (uI yA 35 4 ya) 35 3 ys) 35 5 yq) 37 yc) _
      refine Pa.mp 1 (pc' := 16) (l' := [(0, .ref 35)]) (st' := [.ref 35, .ref 36]) (by rfl) ?_
      refine Pa.gfI (v := ya) (by rfl) (by rfl) (.inl rfl) (by rfl) (by show (uF (uI (uI (uI yA 35 4 ya) 35 3 ys) 35 5 yq) 37 yc).1 35 4 = ya; rw [uF_c (by decide), uI_k (by decide), uI_k (by decide), uI_h]) ?_
      refine Pa.alds (v := yA.1 36 ya.toInt.toNat) (by rfl) (by rfl) (by show (uF (uI (uI (uI yA 35 4 ya) 35 3 ys) 35 5 yq) 37 yc).1 36 ya.toInt.toNat = yA.1 36 ya.toInt.toNat; rw [uF_c (by decide), uI_c (by decide), uI_c (by decide), uI_c (by decide)]) (fun h13 h14 => ?_)
      have h13 : 0 ≤ ya.toInt := h13
      have h14 : ya.toInt < 160 := h14
      refine Pa.mp 1 (pc' := 24) (l' := [(0, .ref 35)]) (st' := [.int (yA.1 36 ya.toInt.toNat)]) (by rfl) ?_
      refine Pa.iret (by rfl) ?_
      show Pa N 85 17 [(0, .ref 35)] [.int (yA.1 36 ya.toInt.toNat)] (uF (uI (uI (uI yA 35 4 ya) 35 3 ys) 35 5 yq) 37 yc) _
      refine Pa.ic (x := 63) (pc' := 19) (by rfl) (by rfl) (by decide) ?_
      refine Pa.if2 (a := (yA.1 36 ya.toInt.toNat).toInt) (b := 63) (t := 44) (by rfl) (by rfl) (rfl) (by decide) (fun h15 => ?_) (fun yh16 => ?_)
      · have h15 : (yA.1 36 ya.toInt.toNat).toInt ≠ 63 := h15
        refine Pa.mp 1 (pc' := 45) (l' := [(0, .ref 35)]) (st' := [.ref 35]) (by rfl) ?_
        refine Pa.ic (x := (-59)) (pc' := 47) (by rfl) (by rfl) (by decide) ?_
        refine Pa.inv (by rfl) (by rfl) (.inl rfl) (by rfl) ?_
        show Pa N 84 0 [(0, .ref 35), (1, .int (-59))] [] (uF (uI (uI (uI yA 35 4 ya) 35 3 ys) 35 5 yq) 37 yc) _
        refine Pa.mp 1 (pc' := 1) (l' := [(0, .ref 35), (1, .int (-59))]) (st' := [.ref 35]) (by rfl) ?_
        refine Pa.gfI (v := ys) (by rfl) (by rfl) (.inl rfl) (by rfl) (by show (uF (uI (uI (uI yA 35 4 ya) 35 3 ys) 35 5 yq) 37 yc).1 35 3 = ys; rw [uF_c (by decide), uI_k (by decide), uI_h]) ?_
        refine Pa.mp 1 (pc' := 5) (l' := [(0, .ref 35), (1, .int (-59))]) (st' := [.ref 35, .int ys]) (by rfl) ?_
        refine Pa.gfR (by rfl) (by rfl) (.inl rfl) (by rfl) ?_
        show Pa N 84 8 [(0, .ref 35), (1, .int (-59))] [.ref 37, .int ys] (uF (uI (uI (uI yA 35 4 ya) 35 3 ys) 35 5 yq) 37 yc) _
        refine Pa.lens (x := 161) (by rfl) (by rfl) (by decide) ?_
        refine Pa.if2 (a := ys.toInt) (b := 161) (t := 32) (by rfl) (by rfl) (rfl) (by decide) (fun h17 => ?_) (fun h18 => ?_)
        · have h17 : 161 ≤ ys.toInt := h17
          refine Pa.vret (by rfl) ?_
          show Pa N 85 50 [(0, .ref 35)] [] (uF (uI (uI (uI yA 35 4 ya) 35 3 ys) 35 5 yq) 37 yc) _
          refine Pa.vret (by rfl) ?_
          exact l5 h2 h8 h13 h14 h15 h17
        · have h18 : ys.toInt < 161 := h18
          refine Pa.mp 1 (pc' := 13) (l' := [(0, .ref 35), (1, .int (-59))]) (st' := [.ref 35]) (by rfl) ?_
          refine Pa.gfR (by rfl) (by rfl) (.inl rfl) (by rfl) ?_
          show Pa N 84 16 [(0, .ref 35), (1, .int (-59))] [.ref 37] (uF (uI (uI (uI yA 35 4 ya) 35 3 ys) 35 5 yq) 37 yc) _
          refine Pa.mp 1 (pc' := 17) (l' := [(0, .ref 35), (1, .int (-59))]) (st' := [.ref 35, .ref 37]) (by rfl) ?_
          refine Pa.gfI (v := ys) (by rfl) (by rfl) (.inl rfl) (by rfl) (by show (uF (uI (uI (uI yA 35 4 ya) 35 3 ys) 35 5 yq) 37 yc).1 35 3 = ys; rw [uF_c (by decide), uI_k (by decide), uI_h]) ?_
          refine Pa.mp 1 (pc' := 21) (l' := [(0, .ref 35), (1, .int (-59))]) (st' := [.int (-59), .int ys, .ref 37]) (by rfl) ?_
          refine Pa.asts (j' := ys.toInt.toNat) (by rfl) (by rfl) (by rfl) (fun h19 h20 => ?_)
          have h19 : 0 ≤ ys.toInt := h19
          have h20 : ys.toInt < 161 := h20
          show Pa N 84 22 [(0, .ref 35), (1, .int (-59))] [] (uI (uF (uI (uI (uI yA 35 4 ya) 35 3 ys) 35 5 yq) 37 yc) 37 ys.toInt.toNat (-59)) _
          refine Pa.mp 2 (pc' := 24) (l' := [(0, .ref 35), (1, .int (-59))]) (st' := [.ref 35, .ref 35]) (by rfl) ?_
          refine Pa.gfI (v := ys) (by rfl) (by rfl) (.inl rfl) (by rfl) (by show (uI (uF (uI (uI (uI yA 35 4 ya) 35 3 ys) 35 5 yq) 37 yc) 37 ys.toInt.toNat (-59)).1 35 3 = ys; rw [uI_c (by decide), uF_c (by decide), uI_k (by decide), uI_h]) ?_
          refine Pa.ic (x := 1) (pc' := 28) (by rfl) (by rfl) (by decide) ?_
          refine Pa.mp 1 (pc' := 29) (l' := [(0, .ref 35), (1, .int (-59))]) (st' := [.int (ys + 1), .ref 35]) (by rfl) ?_
          refine Pa.pfI (by rfl) (by rfl) (.inl rfl) (by rfl) ?_
          show Pa N 84 32 [(0, .ref 35), (1, .int (-59))] [] (uI (uI (uF (uI (uI (uI yA 35 4 ya) 35 3 ys) 35 5 yq) 37 yc) 37 ys.toInt.toNat (-59)) 35 3 (ys + 1)) _
          refine Pa.vret (by rfl) ?_
          show Pa N 85 50 [(0, .ref 35)] [] (uI (uI (uF (uI (uI (uI yA 35 4 ya) 35 3 ys) 35 5 yq) 37 yc) 37 ys.toInt.toNat (-59)) 35 3 (ys + 1)) _
          refine Pa.vret (by rfl) ?_
          exact l6 h2 h8 h13 h14 h15 h18 h19
      · have yh16 : (yA.1 36 ya.toInt.toNat).toInt = 63 := yh16
        refine Pa.mp 2 (pc' := 24) (l' := [(0, .ref 35)]) (st' := [.ref 35, .ref 35]) (by rfl) ?_
        refine Pa.gfI (v := ya) (by rfl) (by rfl) (.inl rfl) (by rfl) (by show (uF (uI (uI (uI yA 35 4 ya) 35 3 ys) 35 5 yq) 37 yc).1 35 4 = ya; rw [uF_c (by decide), uI_k (by decide), uI_k (by decide), uI_h]) ?_
        refine Pa.ic (x := 1) (pc' := 28) (by rfl) (by rfl) (by decide) ?_
        refine Pa.mp 1 (pc' := 29) (l' := [(0, .ref 35)]) (st' := [.int (ya + 1), .ref 35]) (by rfl) ?_
        refine Pa.pfI (by rfl) (by rfl) (.inl rfl) (by rfl) ?_
        show Pa N 85 32 [(0, .ref 35)] [] (uI (uF (uI (uI (uI yA 35 4 ya) 35 3 ys) 35 5 yq) 37 yc) 35 4 (ya + 1)) _
        refine Pa.mp 1 (pc' := 33) (l' := [(0, .ref 35)]) (st' := [.ref 35]) (by rfl) ?_
        refine Pa.ic (x := (-63)) (pc' := 35) (by rfl) (by rfl) (by decide) ?_
        refine Pa.inv (by rfl) (by rfl) (.inl rfl) (by rfl) ?_
        show Pa N 84 0 [(0, .ref 35), (1, .int (-63))] [] (uI (uF (uI (uI (uI yA 35 4 ya) 35 3 ys) 35 5 yq) 37 yc) 35 4 (ya + 1)) _
        refine Pa.mp 1 (pc' := 1) (l' := [(0, .ref 35), (1, .int (-63))]) (st' := [.ref 35]) (by rfl) ?_
        refine Pa.gfI (v := ys) (by rfl) (by rfl) (.inl rfl) (by rfl) (by show (uI (uF (uI (uI (uI yA 35 4 ya) 35 3 ys) 35 5 yq) 37 yc) 35 4 (ya + 1)).1 35 3 = ys; rw [uI_k (by decide), uF_c (by decide), uI_k (by decide), uI_h]) ?_
        refine Pa.mp 1 (pc' := 5) (l' := [(0, .ref 35), (1, .int (-63))]) (st' := [.ref 35, .int ys]) (by rfl) ?_
        refine Pa.gfR (by rfl) (by rfl) (.inl rfl) (by rfl) ?_
        show Pa N 84 8 [(0, .ref 35), (1, .int (-63))] [.ref 37, .int ys] (uI (uF (uI (uI (uI yA 35 4 ya) 35 3 ys) 35 5 yq) 37 yc) 35 4 (ya + 1)) _
        refine Pa.lens (x := 161) (by rfl) (by rfl) (by decide) ?_
        refine Pa.if2 (a := ys.toInt) (b := 161) (t := 32) (by rfl) (by rfl) (rfl) (by decide) (fun h21 => ?_) (fun h22 => ?_)
        · have h21 : 161 ≤ ys.toInt := h21
          refine Pa.vret (by rfl) ?_
          show Pa N 85 38 [(0, .ref 35)] [] (uI (uF (uI (uI (uI yA 35 4 ya) 35 3 ys) 35 5 yq) 37 yc) 35 4 (ya + 1)) _
          refine Pa.mp 1 (pc' := 39) (l' := [(0, .ref 35)]) (st' := [.ref 35]) (by rfl) ?_
          refine Pa.ic (x := 0) (pc' := 40) (by rfl) (by rfl) (by decide) ?_
          refine Pa.ic (x := 0) (pc' := 41) (by rfl) (by rfl) (by decide) ?_
          refine Pa.inv (by rfl) (by rfl) (.inl rfl) (by rfl) ?_
          exact l7 h2 h8 h13 h14 yh16 h21
        · have h22 : ys.toInt < 161 := h22
          refine Pa.mp 1 (pc' := 13) (l' := [(0, .ref 35), (1, .int (-63))]) (st' := [.ref 35]) (by rfl) ?_
          refine Pa.gfR (by rfl) (by rfl) (.inl rfl) (by rfl) ?_
          show Pa N 84 16 [(0, .ref 35), (1, .int (-63))] [.ref 37] (uI (uF (uI (uI (uI yA 35 4 ya) 35 3 ys) 35 5 yq) 37 yc) 35 4 (ya + 1)) _
          refine Pa.mp 1 (pc' := 17) (l' := [(0, .ref 35), (1, .int (-63))]) (st' := [.ref 35, .ref 37]) (by rfl) ?_
          refine Pa.gfI (v := ys) (by rfl) (by rfl) (.inl rfl) (by rfl) (by show (uI (uF (uI (uI (uI yA 35 4 ya) 35 3 ys) 35 5 yq) 37 yc) 35 4 (ya + 1)).1 35 3 = ys; rw [uI_k (by decide), uF_c (by decide), uI_k (by decide), uI_h]) ?_
          refine Pa.mp 1 (pc' := 21) (l' := [(0, .ref 35), (1, .int (-63))]) (st' := [.int (-63), .int ys, .ref 37]) (by rfl) ?_
          refine Pa.asts (j' := ys.toInt.toNat) (by rfl) (by rfl) (by rfl) (fun h23 h24 => ?_)
          have h23 : 0 ≤ ys.toInt := h23
          have h24 : ys.toInt < 161 := h24
          show Pa N 84 22 [(0, .ref 35), (1, .int (-63))] [] (uI (uI (uF (uI (uI (uI yA 35 4 ya) 35 3 ys) 35 5 yq) 37 yc) 35 4 (ya + 1)) 37 ys.toInt.toNat (-63)) _
          refine Pa.mp 2 (pc' := 24) (l' := [(0, .ref 35), (1, .int (-63))]) (st' := [.ref 35, .ref 35]) (by rfl) ?_
          refine Pa.gfI (v := ys) (by rfl) (by rfl) (.inl rfl) (by rfl) (by show (uI (uI (uF (uI (uI (uI yA 35 4 ya) 35 3 ys) 35 5 yq) 37 yc) 35 4 (ya + 1)) 37 ys.toInt.toNat (-63)).1 35 3 = ys; rw [uI_c (by decide), uI_k (by decide), uF_c (by decide), uI_k (by decide), uI_h]) ?_
          refine Pa.ic (x := 1) (pc' := 28) (by rfl) (by rfl) (by decide) ?_
          refine Pa.mp 1 (pc' := 29) (l' := [(0, .ref 35), (1, .int (-63))]) (st' := [.int (ys + 1), .ref 35]) (by rfl) ?_
          refine Pa.pfI (by rfl) (by rfl) (.inl rfl) (by rfl) ?_
          show Pa N 84 32 [(0, .ref 35), (1, .int (-63))] [] (uI (uI (uI (uF (uI (uI (uI yA 35 4 ya) 35 3 ys) 35 5 yq) 37 yc) 35 4 (ya + 1)) 37 ys.toInt.toNat (-63)) 35 3 (ys + 1)) _
          refine Pa.vret (by rfl) ?_
          show Pa N 85 38 [(0, .ref 35)] [] (uI (uI (uI (uF (uI (uI (uI yA 35 4 ya) 35 3 ys) 35 5 yq) 37 yc) 35 4 (ya + 1)) 37 ys.toInt.toNat (-63)) 35 3 (ys + 1)) _
          refine Pa.mp 1 (pc' := 39) (l' := [(0, .ref 35)]) (st' := [.ref 35]) (by rfl) ?_
          refine Pa.ic (x := 0) (pc' := 40) (by rfl) (by rfl) (by decide) ?_
          refine Pa.ic (x := 0) (pc' := 41) (by rfl) (by rfl) (by decide) ?_
          refine Pa.inv (by rfl) (by rfl) (.inl rfl) (by rfl) ?_
          exact l8 h2 h8 h13 h14 yh16 h22 h23


theorem bx_li2 {N : Nat} {yA : AW} {yQ : Option Value → AW → Prop} (ya ys yq : Int32) (yc : Nat → Int32)
    (l1 : 161 ≤ ys.toInt → yQ none (uF (uI (uI (uI yA 35 4 ya) 35 3 ys) 35 5 yq) 37 yc))
    (l2 : ys.toInt < 161 → 0 ≤ ys.toInt → yQ none (uI (uI (uF (uI (uI (uI yA 35 4 ya) 35 3 ys) 35 5 yq) 37 yc) 37 ys.toInt.toNat (-59)) 35 3 (ys + 1))) :
    Pa N 85 44 [(0, .ref 35)] [] (uF (uI (uI (uI yA 35 4 ya) 35 3 ys) 35 5 yq) 37 yc) yQ := by
  refine Pa.mp 1 (pc' := 45) (l' := [(0, .ref 35)]) (st' := [.ref 35]) (by rfl) ?_
  refine Pa.ic (x := (-59)) (pc' := 47) (by rfl) (by rfl) (by decide) ?_
  refine Pa.inv (by rfl) (by rfl) (.inl rfl) (by rfl) ?_
  show Pa N 84 0 [(0, .ref 35), (1, .int (-59))] [] (uF (uI (uI (uI yA 35 4 ya) 35 3 ys) 35 5 yq) 37 yc) _
  refine Pa.mp 1 (pc' := 1) (l' := [(0, .ref 35), (1, .int (-59))]) (st' := [.ref 35]) (by rfl) ?_
  refine Pa.gfI (v := ys) (by rfl) (by rfl) (.inl rfl) (by rfl) (by show (uF (uI (uI (uI yA 35 4 ya) 35 3 ys) 35 5 yq) 37 yc).1 35 3 = ys; rw [uF_c (by decide), uI_k (by decide), uI_h]) ?_
  refine Pa.mp 1 (pc' := 5) (l' := [(0, .ref 35), (1, .int (-59))]) (st' := [.ref 35, .int ys]) (by rfl) ?_
  refine Pa.gfR (by rfl) (by rfl) (.inl rfl) (by rfl) ?_
  show Pa N 84 8 [(0, .ref 35), (1, .int (-59))] [.ref 37, .int ys] (uF (uI (uI (uI yA 35 4 ya) 35 3 ys) 35 5 yq) 37 yc) _
  refine Pa.lens (x := 161) (by rfl) (by rfl) (by decide) ?_
  refine Pa.if2 (a := ys.toInt) (b := 161) (t := 32) (by rfl) (by rfl) (rfl) (by decide) (fun h1 => ?_) (fun h2 => ?_)
  · have h1 : 161 ≤ ys.toInt := h1
    refine Pa.vret (by rfl) ?_
    show Pa N 85 50 [(0, .ref 35)] [] (uF (uI (uI (uI yA 35 4 ya) 35 3 ys) 35 5 yq) 37 yc) _
    refine Pa.vret (by rfl) ?_
    exact l1 h1
  · have h2 : ys.toInt < 161 := h2
    refine Pa.mp 1 (pc' := 13) (l' := [(0, .ref 35), (1, .int (-59))]) (st' := [.ref 35]) (by rfl) ?_
    refine Pa.gfR (by rfl) (by rfl) (.inl rfl) (by rfl) ?_
    show Pa N 84 16 [(0, .ref 35), (1, .int (-59))] [.ref 37] (uF (uI (uI (uI yA 35 4 ya) 35 3 ys) 35 5 yq) 37 yc) _
    refine Pa.mp 1 (pc' := 17) (l' := [(0, .ref 35), (1, .int (-59))]) (st' := [.ref 35, .ref 37]) (by rfl) ?_
    refine Pa.gfI (v := ys) (by rfl) (by rfl) (.inl rfl) (by rfl) (by show (uF (uI (uI (uI yA 35 4 ya) 35 3 ys) 35 5 yq) 37 yc).1 35 3 = ys; rw [uF_c (by decide), uI_k (by decide), uI_h]) ?_
    refine Pa.mp 1 (pc' := 21) (l' := [(0, .ref 35), (1, .int (-59))]) (st' := [.int (-59), .int ys, .ref 37]) (by rfl) ?_
    refine Pa.asts (j' := ys.toInt.toNat) (by rfl) (by rfl) (by rfl) (fun h3 h4 => ?_)
    have h3 : 0 ≤ ys.toInt := h3
    have h4 : ys.toInt < 161 := h4
    show Pa N 84 22 [(0, .ref 35), (1, .int (-59))] [] (uI (uF (uI (uI (uI yA 35 4 ya) 35 3 ys) 35 5 yq) 37 yc) 37 ys.toInt.toNat (-59)) _
    refine Pa.mp 2 (pc' := 24) (l' := [(0, .ref 35), (1, .int (-59))]) (st' := [.ref 35, .ref 35]) (by rfl) ?_
    refine Pa.gfI (v := ys) (by rfl) (by rfl) (.inl rfl) (by rfl) (by show (uI (uF (uI (uI (uI yA 35 4 ya) 35 3 ys) 35 5 yq) 37 yc) 37 ys.toInt.toNat (-59)).1 35 3 = ys; rw [uI_c (by decide), uF_c (by decide), uI_k (by decide), uI_h]) ?_
    refine Pa.ic (x := 1) (pc' := 28) (by rfl) (by rfl) (by decide) ?_
    refine Pa.mp 1 (pc' := 29) (l' := [(0, .ref 35), (1, .int (-59))]) (st' := [.int (ys + 1), .ref 35]) (by rfl) ?_
    refine Pa.pfI (by rfl) (by rfl) (.inl rfl) (by rfl) ?_
    show Pa N 84 32 [(0, .ref 35), (1, .int (-59))] [] (uI (uI (uF (uI (uI (uI yA 35 4 ya) 35 3 ys) 35 5 yq) 37 yc) 37 ys.toInt.toNat (-59)) 35 3 (ys + 1)) _
    refine Pa.vret (by rfl) ?_
    show Pa N 85 50 [(0, .ref 35)] [] (uI (uI (uF (uI (uI (uI yA 35 4 ya) 35 3 ys) 35 5 yq) 37 yc) 37 ys.toInt.toNat (-59)) 35 3 (ys + 1)) _
    refine Pa.vret (by rfl) ?_
    exact l2 h2 h3


theorem bx_co0 {N : Nat} {yA : AW} {yQ : Option Value → AW → Prop} 
    (l1 : Pa N 85 0 [(0, .ref 35)] [] (uI (uI (uI yA 35 4 0) 35 3 0) 35 5 1) (fun yu A1 => Pa N 82 19 [(0, .ref 35)] (yu.toList ++ []) A1 yQ)) :
    Pa N 82 0 [(0, .ref 35)] [] yA yQ := by
  refine Pa.mp 1 (pc' := 1) (l' := [(0, .ref 35)]) (st' := [.ref 35]) (by rfl) ?_
  refine Pa.ic (x := 0) (pc' := 2) (by rfl) (by rfl) (by decide) ?_
  refine Pa.pfI (by rfl) (by rfl) (.inl rfl) (by rfl) ?_
  show Pa N 82 5 [(0, .ref 35)] [] (uI yA 35 4 0) _
  refine Pa.mp 1 (pc' := 6) (l' := [(0, .ref 35)]) (st' := [.ref 35]) (by rfl) ?_
  refine Pa.ic (x := 0) (pc' := 7) (by rfl) (by rfl) (by decide) ?_
  refine Pa.pfI (by rfl) (by rfl) (.inl rfl) (by rfl) ?_
  show Pa N 82 10 [(0, .ref 35)] [] (uI (uI yA 35 4 0) 35 3 0) _
  refine Pa.mp 1 (pc' := 11) (l' := [(0, .ref 35)]) (st' := [.ref 35]) (by rfl) ?_
  refine Pa.ic (x := 1) (pc' := 12) (by rfl) (by rfl) (by decide) ?_
  refine Pa.pfI (by rfl) (by rfl) (.inl rfl) (by rfl) ?_
  show Pa N 82 15 [(0, .ref 35)] [] (uI (uI (uI yA 35 4 0) 35 3 0) 35 5 1) _
  refine Pa.mp 1 (pc' := 16) (l' := [(0, .ref 35)]) (st' := [.ref 35]) (by rfl) ?_
  refine Pa.inv (by rfl) (by rfl) (.inl rfl) (by rfl) ?_
  exact l1


theorem bx_co {N : Nat} {yA : AW} {yQ : Option Value → AW → Prop} (ya ys yq : Int32) (yc : Nat → Int32)
    (l1 : yq.toInt = 0 → yQ (some (.int ya)) (uF (uI (uI (uI yA 35 4 ya) 35 3 ys) 35 5 yq) 37 yc))
    (l2 : yq.toInt ≠ 0 → (yA.1 35 2).toInt ≤ ya.toInt → yQ (some (.int (-1))) (uF (uI (uI (uI yA 35 4 ya) 35 3 ys) 35 5 yq) 37 yc))
    (l3 : yq.toInt ≠ 0 → ya.toInt < (yA.1 35 2).toInt → 0 ≤ ya.toInt → ya.toInt < 160 → (yA.1 36 ya.toInt.toNat).toInt ≠ 59 → yQ (some (.int ya)) (uF (uI (uI (uI yA 35 4 ya) 35 3 ys) 35 5 yq) 37 yc))
    (l4 : yq.toInt ≠ 0 → ya.toInt < (yA.1 35 2).toInt → 0 ≤ ya.toInt → ya.toInt < 160 → (yA.1 36 ya.toInt.toNat).toInt = 59 → Pa N 85 0 [(0, .ref 35)] [] (uI (uF (uI (uI (uI yA 35 4 ya) 35 3 ys) 35 5 yq) 37 yc) 35 4 (ya + 1)) (fun yu A1 => Pa N 82 65 [(0, .ref 35)] (yu.toList ++ []) A1 yQ)) :
    Pa (N + 1) 82 19 [(0, .ref 35)] [] (uF (uI (uI (uI yA 35 4 ya) 35 3 ys) 35 5 yq) 37 yc) yQ := by
  refine Pa.mp1 0 (pc' := 20) (l' := [(0, .ref 35)]) (st' := [.ref 35]) (by rfl) ?_
  refine Pa.gfI (v := yq) (by rfl) (by rfl) (.inl rfl) (by rfl) (by show (uF (uI (uI (uI yA 35 4 ya) 35 3 ys) 35 5 yq) 37 yc).1 35 5 = yq; rw [uF_c (by decide), uI_h]) ?_
  refine Pa.if1 (a := yq.toInt) (t := 68) (by rfl) (by rfl) (rfl) (fun h1 => ?_) (fun h2 => ?_)
  · have h1 : yq.toInt = 0 := h1
    refine Pa.mp 1 (pc' := 69) (l' := [(0, .ref 35)]) (st' := [.ref 35]) (by rfl) ?_
    refine Pa.gfI (v := yq) (by rfl) (by rfl) (.inl rfl) (by rfl) (by show (uF (uI (uI (uI yA 35 4 ya) 35 3 ys) 35 5 yq) 37 yc).1 35 5 = yq; rw [uF_c (by decide), uI_h]) ?_
    refine Pa.if1 (a := yq.toInt) (t := 90) (by rfl) (by rfl) (rfl) (fun _ => ?_) (fun yh => (by exfalso; have h' : yq.toInt ≠ 0 := yh; omega))
    refine Pa.mp 1 (pc' := 91) (l' := [(0, .ref 35)]) (st' := [.ref 35]) (by rfl) ?_
    refine Pa.gfI (v := ya) (by rfl) (by rfl) (.inl rfl) (by rfl) (by show (uF (uI (uI (uI yA 35 4 ya) 35 3 ys) 35 5 yq) 37 yc).1 35 4 = ya; rw [uF_c (by decide), uI_k (by decide), uI_k (by decide), uI_h]) ?_
    refine Pa.iret (by rfl) ?_
    exact l1 h1
  · have h2 : yq.toInt ≠ 0 := h2
    refine Pa.mp 1 (pc' := 27) (l' := [(0, .ref 35)]) (st' := [.ref 35]) (by rfl) ?_
    refine Pa.gfI (v := ya) (by rfl) (by rfl) (.inl rfl) (by rfl) (by show (uF (uI (uI (uI yA 35 4 ya) 35 3 ys) 35 5 yq) 37 yc).1 35 4 = ya; rw [uF_c (by decide), uI_k (by decide), uI_k (by decide), uI_h]) ?_
    refine Pa.mp 1 (pc' := 31) (l' := [(0, .ref 35)]) (st' := [.ref 35, .int ya]) (by rfl) ?_
    refine Pa.gfI (v := yA.1 35 2) (by rfl) (by rfl) (.inl rfl) (by rfl) (by show (uF (uI (uI (uI yA 35 4 ya) 35 3 ys) 35 5 yq) 37 yc).1 35 2 = yA.1 35 2; rw [uF_c (by decide), uI_k (by decide), uI_k (by decide), uI_k (by decide)]) ?_
    refine Pa.if2 (a := ya.toInt) (b := (yA.1 35 2).toInt) (t := 68) (by rfl) (by rfl) (rfl) (rfl) (fun h4 => ?_) (fun h5 => ?_)
    · have h4 : (yA.1 35 2).toInt ≤ ya.toInt := h4
      refine Pa.mp 1 (pc' := 69) (l' := [(0, .ref 35)]) (st' := [.ref 35]) (by rfl) ?_
      refine Pa.gfI (v := yq) (by rfl) (by rfl) (.inl rfl) (by rfl) (by show (uF (uI (uI (uI yA 35 4 ya) 35 3 ys) 35 5 yq) 37 yc).1 35 5 = yq; rw [uF_c (by decide), uI_h]) ?_
      refine Pa.if1 (a := yq.toInt) (t := 90) (by rfl) (by rfl) (rfl) (fun yh => (by exfalso; have h' : yq.toInt = 0 := yh; omega)) (fun _ => ?_)
      refine Pa.mp 1 (pc' := 76) (l' := [(0, .ref 35)]) (st' := [.ref 35]) (by rfl) ?_
      refine Pa.gfI (v := ya) (by rfl) (by rfl) (.inl rfl) (by rfl) (by show (uF (uI (uI (uI yA 35 4 ya) 35 3 ys) 35 5 yq) 37 yc).1 35 4 = ya; rw [uF_c (by decide), uI_k (by decide), uI_k (by decide), uI_h]) ?_
      refine Pa.mp 1 (pc' := 80) (l' := [(0, .ref 35)]) (st' := [.ref 35, .int ya]) (by rfl) ?_
      refine Pa.gfI (v := yA.1 35 2) (by rfl) (by rfl) (.inl rfl) (by rfl) (by show (uF (uI (uI (uI yA 35 4 ya) 35 3 ys) 35 5 yq) 37 yc).1 35 2 = yA.1 35 2; rw [uF_c (by decide), uI_k (by decide), uI_k (by decide), uI_k (by decide)]) ?_
      refine Pa.if2 (a := ya.toInt) (b := (yA.1 35 2).toInt) (t := 90) (by rfl) (by rfl) (rfl) (rfl) (fun yh => (by exfalso; have h' : ya.toInt < (yA.1 35 2).toInt := yh; omega)) (fun _ => ?_)
      refine Pa.ic (x := (-1)) (pc' := 87) (by rfl) (by rfl) (by decide) ?_
      refine Pa.mp 1 (pc' := 94) (l' := [(0, .ref 35)]) (st' := [.int (-1)]) (by rfl) ?_
      refine Pa.iret (by rfl) ?_
      exact l2 h2 h4
    · have h5 : ya.toInt < (yA.1 35 2).toInt := h5
      refine Pa.mp 1 (pc' := 38) (l' := [(0, .ref 35)]) (st' := [.ref 35]) (by rfl) ?_
      refine Pa.gfR (by rfl) (by rfl) (.inl rfl) (by rfl) ?_
      show Pa N 82 41 [(0, .ref 35)] [.ref 36] (uF (uI (uI (uI yA 35 4 ya) 35 3 ys) 35 5 yq) 37 yc) _
      refine Pa.mp 1 (pc' := 42) (l' := [(0, .ref 35)]) (st' := [.ref 35, .ref 36]) (by rfl) ?_
      refine Pa.gfI (v := ya) (by rfl) (by rfl) (.inl rfl) (by rfl) (by show (uF (uI (uI (uI yA 35 4 ya) 35 3 ys) 35 5 yq) 37 yc).1 35 4 = ya; rw [uF_c (by decide), uI_k (by decide), uI_k (by decide), uI_h]) ?_
      refine Pa.alds (v := yA.1 36 ya.toInt.toNat) (by rfl) (by rfl) (by show (uF (uI (uI (uI yA 35 4 ya) 35 3 ys) 35 5 yq) 37 yc).1 36 ya.toInt.toNat = yA.1 36 ya.toInt.toNat; rw [uF_c (by decide), uI_c (by decide), uI_c (by decide), uI_c (by decide)]) (fun h8 h9 => ?_)
      have h8 : 0 ≤ ya.toInt := h8
      have h9 : ya.toInt < 160 := h9
      refine Pa.ic (x := 59) (pc' := 48) (by rfl) (by rfl) (by decide) ?_
      refine Pa.if2 (a := (yA.1 36 ya.toInt.toNat).toInt) (b := 59) (t := 68) (by rfl) (by rfl) (rfl) (by decide) (fun h10 => ?_) (fun h11 => ?_)
      · have h10 : (yA.1 36 ya.toInt.toNat).toInt ≠ 59 := h10
        refine Pa.mp 1 (pc' := 69) (l' := [(0, .ref 35)]) (st' := [.ref 35]) (by rfl) ?_
        refine Pa.gfI (v := yq) (by rfl) (by rfl) (.inl rfl) (by rfl) (by show (uF (uI (uI (uI yA 35 4 ya) 35 3 ys) 35 5 yq) 37 yc).1 35 5 = yq; rw [uF_c (by decide), uI_h]) ?_
        refine Pa.if1 (a := yq.toInt) (t := 90) (by rfl) (by rfl) (rfl) (fun yh => (by exfalso; have h' : yq.toInt = 0 := yh; omega)) (fun _ => ?_)
        refine Pa.mp 1 (pc' := 76) (l' := [(0, .ref 35)]) (st' := [.ref 35]) (by rfl) ?_
        refine Pa.gfI (v := ya) (by rfl) (by rfl) (.inl rfl) (by rfl) (by show (uF (uI (uI (uI yA 35 4 ya) 35 3 ys) 35 5 yq) 37 yc).1 35 4 = ya; rw [uF_c (by decide), uI_k (by decide), uI_k (by decide), uI_h]) ?_
        refine Pa.mp 1 (pc' := 80) (l' := [(0, .ref 35)]) (st' := [.ref 35, .int ya]) (by rfl) ?_
        refine Pa.gfI (v := yA.1 35 2) (by rfl) (by rfl) (.inl rfl) (by rfl) (by show (uF (uI (uI (uI yA 35 4 ya) 35 3 ys) 35 5 yq) 37 yc).1 35 2 = yA.1 35 2; rw [uF_c (by decide), uI_k (by decide), uI_k (by decide), uI_k (by decide)]) ?_
        refine Pa.if2 (a := ya.toInt) (b := (yA.1 35 2).toInt) (t := 90) (by rfl) (by rfl) (rfl) (rfl) (fun _ => ?_) (fun yh => (by exfalso; have h' : (yA.1 35 2).toInt ≤ ya.toInt := yh; omega))
        refine Pa.mp 1 (pc' := 91) (l' := [(0, .ref 35)]) (st' := [.ref 35]) (by rfl) ?_
        refine Pa.gfI (v := ya) (by rfl) (by rfl) (.inl rfl) (by rfl) (by show (uF (uI (uI (uI yA 35 4 ya) 35 3 ys) 35 5 yq) 37 yc).1 35 4 = ya; rw [uF_c (by decide), uI_k (by decide), uI_k (by decide), uI_h]) ?_
        refine Pa.iret (by rfl) ?_
        exact l3 h2 h5 h8 h9 h10
      · have h11 : (yA.1 36 ya.toInt.toNat).toInt = 59 := h11
        refine Pa.mp 2 (pc' := 53) (l' := [(0, .ref 35)]) (st' := [.ref 35, .ref 35]) (by rfl) ?_
        refine Pa.gfI (v := ya) (by rfl) (by rfl) (.inl rfl) (by rfl) (by show (uF (uI (uI (uI yA 35 4 ya) 35 3 ys) 35 5 yq) 37 yc).1 35 4 = ya; rw [uF_c (by decide), uI_k (by decide), uI_k (by decide), uI_h]) ?_
        refine Pa.ic (x := 1) (pc' := 57) (by rfl) (by rfl) (by decide) ?_
        refine Pa.mp 1 (pc' := 58) (l' := [(0, .ref 35)]) (st' := [.int (ya + 1), .ref 35]) (by rfl) ?_
        refine Pa.pfI (by rfl) (by rfl) (.inl rfl) (by rfl) ?_
        show Pa N 82 61 [(0, .ref 35)] [] (uI (uF (uI (uI (uI yA 35 4 ya) 35 3 ys) 35 5 yq) 37 yc) 35 4 (ya + 1)) _
        refine Pa.mp 1 (pc' := 62) (l' := [(0, .ref 35)]) (st' := [.ref 35]) (by rfl) ?_
        refine Pa.inv (by rfl) (by rfl) (.inl rfl) (by rfl) ?_
        exact l4 h2 h5 h8 h9 h11


theorem bx_cog {N : Nat} {yA : AW} {yQ : Option Value → AW → Prop} 
    (l1 : Pa N 82 19 [(0, .ref 35)] [] yA yQ) :
    Pa N 82 65 [(0, .ref 35)] [] yA yQ := by
  refine Pa.mp 1 (pc' := 19) (l' := [(0, .ref 35)]) (st' := []) (by rfl) ?_
  refine Pa.lv (l' := [(0, .ref 35)]) (lvS_c rfl (lvS_nil)) rfl ?_
  exact l1

section XRD
variable {yA : AW} {yn : Nat}
theorem c_num (hn : (yA.1 35 2).toInt = (yn : Int)) (hn2 : yn ≤ 160) : ∀ (N yk yi ya ys : Nat) (yv : Int32) (yc : Nat → Int32), yi + yk = 6 → ya ≤ yn → ys < 161 → Pa N 89 4 [(0, .ref 35), (1, .int yv), (2, .int (Int32.ofNat yi))] [] (rW yA (Int32.ofNat ya) (Int32.ofNat ys) 1 yc) (fun yu A1 => yu = none ∧ A1 = rW yA (Int32.ofNat (rdN (yA.1 36) yn yk ya yv).1) (Int32.ofNat (ys + 1)) 1 (apd yc ys [(rdN (yA.1 36) yn yk ya yv).2])) := by
  intro N
  induction N with
  | zero => intro yk yi ya ys yv yc _ _ _; exact Pa.zero
  | succ N yih =>
    intro yk yi ya ys yv yc yhi yha hs
    have ei : (Int32.ofNat yi).toInt = (yi : Int) := i32_nat (by omega)
    have ea : (Int32.ofNat ya).toInt = (ya : Int) := i32_nat (by omega)
    have es : (Int32.ofNat ys).toInt = (ys : Int) := i32_nat (by omega)
    have yfin : ¬ (48 ≤ rdC (yA.1 36) yn ya ∧ rdC (yA.1 36) yn ya ≤ 57) ∨ yk = 0 → uI (uI (rW yA (Int32.ofNat ya) (Int32.ofNat ys) 1 yc) 37 (Int32.ofNat ys).toInt.toNat yv) 35 3 (Int32.ofNat ys + 1) = rW yA (Int32.ofNat (rdN (yA.1 36) yn yk ya yv).1) (Int32.ofNat (ys + 1)) 1 (apd yc ys [(rdN (yA.1 36) yn yk ya yv).2]) := by
      intro yq
      have ye : rdN (yA.1 36) yn yk ya yv = (ya, yv) := by
        rcases yq with yq | yq
        · exact rdN_stop yq
        · subst yq; rfl
      rw [ye]
      show _ = rW yA (Int32.ofNat ya) (Int32.ofNat (ys + 1)) 1 (apd yc ys [yv])
      rw [rW_put, es, Int.toNat_natCast, on_succ]
    refine bx_num yv _ _ _ _ yc (by omega) (fun h1 h2 h3 => ?_) (fun h1 h2 h3 h4 => ?_) (fun h1 h2 h3 h4 h5 h6 h7 => ?_) (fun h1 h2 h3 h4 h5 h6 h7 h8 => ?_) (fun h1 h2 h3 h4 h5 h6 => ?_)
    · rw [ei] at h1
      exact ⟨rfl, yfin (.inr (by omega))⟩
    · rw [hn, ea] at h2
      exact ⟨rfl, yfin (.inl (by rw [rdC_out (by omega)]; omega))⟩
    · rw [hn, ea] at h2
      rw [ea, Int.toNat_natCast] at h5
      exact ⟨rfl, yfin (.inl (by rw [rdC_in (by omega)]; omega))⟩
    · rw [hn, ea] at h2
      rw [ea, Int.toNat_natCast] at h5 h6
      exact ⟨rfl, yfin (.inl (by rw [rdC_in (by omega)]; omega))⟩
    · rw [ei] at h1
      rw [hn, ea] at h2
      rw [ea, Int.toNat_natCast] at h5 h6
      obtain ⟨yk, rfl⟩ : ∃ k', yk = k' + 1 := ⟨yk - 1, by omega⟩
      have yq : 48 ≤ rdC (yA.1 36) yn ya ∧ rdC (yA.1 36) yn ya ≤ 57 := by rw [rdC_in (by omega)]; exact ⟨h5, h6⟩
      have yh := yih yk (yi + 1) (ya + 1) ys (yv * 10 + yA.1 36 ya - 48) yc (by omega) (by omega) hs
      rw [rdN_go yq]
      refine Pa.cg yh ?_ ?_
      · rw [ea, Int.toNat_natCast, on_succ yi]
      · rw [on_succ ya]; exact rW_at.symm
/-- what reading ya part leaves -/
def xQ (yA : AW) (yn ym o ya ys : Nat) (yc : Nat → Int32) (yu : Option Value) (A1 : AW) : Prop := yu = none ∧ ((∃ yb cs, RP (yA.1 36) yn ym o ya (yb, some cs) ∧ ya + cs.length ≤ yb ∧ yb ≤ yn ∧ A1 = rW yA (Int32.ofNat yb) (Int32.ofNat (ys + cs.length)) 1 (apd yc ys cs)) ∨ (∃ yb s' c', RP (yA.1 36) yn ym o ya (yb, none) ∧ yb ≤ yn ∧ A1 = rW yA (Int32.ofNat yb) s' 0 c'))
theorem rd_z0 : (0 : Int32).toInt = 0 := by decide
theorem rd_n1 : (1 : Int32).toInt ≠ 0 := by decide
theorem pal0 {N : Nat} {yQ : Option Value → AW → Prop} (l o yg yb s' : Int32) (c' : Nat → Int32) (yh : yQ none (rW yA yb s' 0 c')) : Pa N 86 19 [(0, .ref 35), (1, .int l), (2, .int o), (3, .int yg)] [] (rW yA yb s' 0 c') yQ :=
  (bx_pal (N := N) l o yg yb s' 0 c' (fun _ => yh) (fun yq => absurd rd_z0 yq) (fun yq => absurd rd_z0 yq) (fun yq => absurd rd_z0 yq)).weak (Nat.le_succ N)
theorem x_all (hn : (yA.1 35 2).toInt = (yn : Int)) (hn2 : yn ≤ 160) (yhb : ∀ yj, yj < 160 → 0 ≤ (yA.1 36 yj).toInt ∧ (yA.1 36 yj).toInt ≤ 255) : ∀ N : Nat,
    (∀ (ym o ya ys : Nat) (yc : Nat → Int32), ym ≤ 5 → o ≤ 8 → ya ≤ yn → ys ≤ ya → Pa N 86 0 [(0, .ref 35), (1, .int (Int32.ofNat ym)), (2, .int (Int32.ofNat o))] [] (rW yA (Int32.ofNat ya) (Int32.ofNat ys) 1 yc) (xQ yA yn ym o ya ys yc))
    ∧ (∀ (ym o ya ys : Nat) (yg : Int32) (yc : Nat → Int32), ym < 5 → o ≤ 8 → ya ≤ yn → ys ≤ ya → Pa N 86 19 [(0, .ref 35), (1, .int (Int32.ofNat ym)), (2, .int (Int32.ofNat o)), (3, .int yg)] [] (rW yA (Int32.ofNat ya) (Int32.ofNat ys) 1 yc) (xQ yA yn (ym + 10) o ya ys yc))
    ∧ (∀ (o ya ys : Nat) (yc : Nat → Int32), o ≤ 8 → ya ≤ yn → ys ≤ ya → Pa N 88 0 [(0, .ref 35), (1, .int (Int32.ofNat o))] [] (rW yA (Int32.ofNat ya) (Int32.ofNat ys) 1 yc) (xQ yA yn 5 o ya ys yc)) := by
  intro N
  induction N with
  | zero => exact ⟨fun ym o ya ys yc _ _ _ _ => Pa.zero, fun ym o ya ys yg yc _ _ _ _ => Pa.zero, fun o ya ys yc _ _ _ => Pa.zero⟩
  | succ N yih =>
    obtain ⟨ihP, ihL, ihO⟩ := yih
    refine ⟨fun ym o ya ys yc yhm ho yha hs => ?_, fun ym o ya ys yg yc yhm ho yha hs => ?_, fun o ya ys yc ho yha hs => ?_⟩
    · have em : (Int32.ofNat ym).toInt = (ym : Int) := i32_nat (by omega)
      refine bx_pa0 _ _ (fun h1 => ?_) (fun h1 => ?_) <;> rw [em] at h1
      · refine Pa.mono (Pa.cg (ihP (ym + 1) o ya ys yc (by omega) ho yha hs) (by rw [on_succ]) rfl) (fun yu A1 hu => ?_)
        obtain ⟨rfl, hu⟩ := hu
        show Pa N 86 19 [(0, .ref 35), (1, .int (Int32.ofNat ym)), (2, .int (Int32.ofNat o))] [] A1 _
        refine Pa.lv (l' := [(0, .ref 35), (1, .int (Int32.ofNat ym)), (2, .int (Int32.ofNat o)), (3, .int 0)]) (lvS_c rfl (lvS_c rfl (lvS_c rfl lvS_nil))) rfl ?_
        rcases hu with ⟨yb, cs, yr1, r2, r3, rfl⟩ | ⟨yb, s', c', yr1, r2, rfl⟩
        · refine Pa.mono (ihL ym o yb (ys + cs.length) 0 (apd yc ys cs) (by omega) ho r3 (by omega)) (fun yu A2 hu => ?_)
          obtain ⟨rfl, hu⟩ := hu
          refine ⟨rfl, ?_⟩
          rcases hu with ⟨yd, ds, yq1, yq2, yq3, rfl⟩ | ⟨yd, s', c', yq1, yq2, rfl⟩
          · refine .inl ⟨yd, cs ++ ds, RP.pY (by omega) yr1 yq1, by rw [List.length_append]; omega, yq3, ?_⟩
            rw [apd_app, List.length_append, Nat.add_assoc]
          · exact .inr ⟨yd, s', c', RP.pN2 (by omega) yr1 yq1, yq2, rfl⟩
        · exact pal0 _ _ _ _ _ _ ⟨rfl, .inr ⟨yb, s', c', RP.pN1 (by omega) yr1, r2, rfl⟩⟩
      · obtain rfl : ym = 5 := by omega
        refine Pa.mono (ihO o ya ys yc ho yha hs) (fun yu A1 hu => ?_)
        obtain ⟨rfl, hu⟩ := hu
        exact bx_par _ _ ⟨rfl, hu⟩
    · have em : (Int32.ofNat ym).toInt = (ym : Int) := i32_nat (by omega)
      have ea : (Int32.ofNat ya).toInt = (ya : Int) := i32_nat (by omega)
      refine bx_pal _ _ yg _ _ 1 yc (fun yq => absurd yq rd_n1) (fun _ h1 => ?_) (fun _ h1 h2 h3 h4 => ?_) (fun _ h1 h2 h3 h4 => ?_)
      · rw [hn, ea] at h1
        refine ⟨rfl, .inl ⟨ya, [], RP.l0 (by rw [rdC_out (by omega)]; unfold sgN; omega), Nat.le_refl _, yha, by rw [apd_nil]; rfl⟩⟩
      · rw [hn, ea] at h1
        have h5 := sgI_n h4
        rw [em, ea, Int.toNat_natCast] at h5
        refine ⟨rfl, .inl ⟨ya, [], RP.l0 (by rw [rdC_in (by omega)]; exact h5), Nat.le_refl _, yha, by rw [apd_nil]; rfl⟩⟩
      · rw [hn, ea] at h1
        have h5 := sgI_y h4
        rw [em, ea, Int.toNat_natCast] at h5
        have hsg : sgN (ym : Int) (rdC (yA.1 36) yn ya) := by rw [rdC_in (by omega)]; exact h5
        refine Pa.mono (Pa.cg (ihP (ym + 1) o (ya + 1) ys yc (by omega) ho (by omega) (by omega)) (by rw [on_succ ym]) (by rw [on_succ ya]; exact rW_at.symm)) (fun yu A1 hu => ?_)
        obtain ⟨rfl, hu⟩ := hu
        have eT : yA.1 36 (Int32.ofNat ya).toInt.toNat = yA.1 36 ya := by rw [ea, Int.toNat_natCast]
        rw [eT]
        show Pa N 86 81 [(0, .ref 35), (1, .int (Int32.ofNat ym)), (2, .int (Int32.ofNat o)), (3, .int (yA.1 36 ya))] [] A1 _
        rcases hu with ⟨yb, cs, yr1, r2, r3, rfl⟩ | ⟨yb, s', c', yr1, r2, rfl⟩
        · have es : (Int32.ofNat (ys + cs.length)).toInt = ((ys + cs.length : Nat) : Int) := i32_nat (by omega)
          have hw : uI (uI (rW yA (Int32.ofNat yb) (Int32.ofNat (ys + cs.length)) 1 (apd yc ys cs)) 37 (Int32.ofNat (ys + cs.length)).toInt.toNat (-(yA.1 36 ya))) 35 3 (Int32.ofNat (ys + cs.length) + 1) = rW yA (Int32.ofNat yb) (Int32.ofNat (ys + cs.length + 1)) 1 (apd yc ys (cs ++ [-(yA.1 36 ya)])) := by
            rw [rW_put, es, Int.toNat_natCast, apd_put, on_succ]
          refine bx_pam _ _ _ _ _ 1 _ (fun yq => ?_) (fun yq => ?_) (fun _ _ hm2 => ?_) (fun _ _ hm2 => ?_)
          · omega
          · omega
          · rw [em] at hm2
            refine Pa.mono (Pa.cg (ihL ym o yb (ys + cs.length + 1) (yA.1 36 ya) (apd yc ys (cs ++ [-(yA.1 36 ya)])) (by omega) ho r3 (by omega)) rfl hw.symm) (fun yu A2 hu => ?_)
            obtain ⟨rfl, hu⟩ := hu
            refine ⟨rfl, ?_⟩
            rcases hu with ⟨yd, ds, yq1, yq2, yq3, rfl⟩ | ⟨yd, s', c', yq1, yq2, rfl⟩
            · refine .inl ⟨yd, cs ++ -(yA.1 36 ya) :: ds, RP.lY hsg (by omega) yr1 yq1, by rw [List.length_append, List.length_cons]; omega, yq3, ?_⟩
              have ye1 : ys + cs.length + 1 = ys + (cs ++ [-(yA.1 36 ya)]).length := by rw [len1]; omega
              have ye2 : cs ++ -(yA.1 36 ya) :: ds = (cs ++ [-(yA.1 36 ya)]) ++ ds := by simp
              rw [ye2, List.length_append, ← Nat.add_assoc, ← ye1]
              congr 1
              rw [ye1, apd_app]
            · exact .inr ⟨yd, s', c', RP.lN2 hsg (by omega) yr1 yq1, yq2, rfl⟩
          · rw [em] at hm2
            refine ⟨rfl, .inl ⟨yb, cs ++ [-(yA.1 36 ya)], RP.lZ hsg (by omega) yr1, by rw [len1]; omega, r3, ?_⟩⟩
            rw [show ys + (cs ++ [-(yA.1 36 ya)]).length = ys + cs.length + 1 by rw [len1]; omega]
            exact hw
        · refine bx_pam _ _ _ _ _ 0 _ (fun _ _ => ?_) (fun _ _ => ?_) (fun _ _ _ => ?_) (fun _ _ _ => ?_)
          · exact pal0 _ _ _ _ _ _ ⟨rfl, .inr ⟨yb, s', c', RP.lN1 hsg yr1, r2, rfl⟩⟩
          · exact ⟨rfl, .inr ⟨yb, s', c', RP.lN1 hsg yr1, r2, rfl⟩⟩
          · exact Pa.cg (pal0 _ _ _ _ _ _ ⟨rfl, .inr ⟨yb, _, _, RP.lN1 hsg yr1, r2, rfl⟩⟩) rfl rW_put.symm
          · exact ⟨rfl, .inr ⟨yb, _, _, RP.lN1 hsg yr1, r2, rW_put⟩⟩
    · have eo : (Int32.ofNat o).toInt = (o : Int) := i32_nat (by omega)
      have ea : (Int32.ofNat ya).toInt = (ya : Int) := i32_nat (by omega)
      have es : (Int32.ofNat ys).toInt = (ys : Int) := i32_nat (by omega)
      have eT : yA.1 36 (Int32.ofNat ya).toInt.toNat = yA.1 36 ya := by rw [ea, Int.toNat_natCast]
      have ybad : RP (yA.1 36) yn 5 o ya (ya, none) → xQ yA yn 5 o ya ys yc none (uI (rW yA (Int32.ofNat ya) (Int32.ofNat ys) 1 yc) 35 5 0) := fun yh => ⟨rfl, .inr ⟨ya, _, _, yh, yha, rW_sd⟩⟩
      have nam : ya < yn → ¬ (48 ≤ (yA.1 36 ya).toInt ∧ (yA.1 36 ya).toInt ≤ 57) → 0 ≤ (nmX (yA.1 36 ya)).toInt → xQ yA yn 5 o ya ys yc none (uI (uI (uI (rW yA (Int32.ofNat ya) (Int32.ofNat ys) 1 yc) 35 4 (Int32.ofNat ya + 1)) 37 (Int32.ofNat ys).toInt.toNat (-1 - nmX (yA.1 36 ya))) 35 3 (Int32.ofNat ys + 1)) := by
        intro yq1 yq2 yq3
        refine ⟨rfl, .inl ⟨ya + 1, [-1 - nmX (yA.1 36 ya)], RP.nam (by rw [rdC_in yq1]; exact yq2) ⟨yq1, yq3⟩, Nat.le_refl _, yq1, ?_⟩⟩
        show _ = rW yA (Int32.ofNat (ya + 1)) (Int32.ofNat (ys + 1)) 1 (apd yc ys [-1 - nmX (yA.1 36 ya)])
        rw [rW_at, rW_put, es, Int.toNat_natCast, on_succ ya, on_succ ys]
      by_cases h160 : 160 ≤ ya
      · exact bx_ope _ _ _ 1 yc (by omega) (by omega) (ybad (RP.no (by rw [rdC_out (by omega)]; omega) (by omega) (by rw [rdC_out (by omega)]; omega) (by rw [rdC_out (by omega)]; omega)))
      refine bx_op _ _ _ 1 yc (by omega) (yhb _ (by rw [ea]; omega)).1 (yhb _ (by rw [ea]; omega)).2 ?_ ?_ ?_ ?_ ?_ ?_ ?_ ?_ ?_ ?_ <;> rw [hn, ea] <;> (try rw [Int.toNat_natCast]) <;> (try rw [eo]) 
      · intro h1
        exact ybad (RP.no (by rw [rdC_out (by omega)]; omega) (by omega) (by rw [rdC_out (by omega)]; omega) (by rw [rdC_out (by omega)]; omega))
      · intro h1 h2 h3 h4 h5 h6 h7
        exact ybad (RP.no (by rw [rdC_in (by omega)]; omega) (by omega) (by rw [rdC_in (by omega)]; omega) (by rw [rdC_in (by omega)]; omega))
      · intro h1 h2 h3 h4 h5 h6 h7 h8
        exact ybad (RP.no (by rw [rdC_in (by omega)]; omega) (by omega) (by rw [rdC_in (by omega)]; omega) (by rw [rdC_in (by omega)]; omega))
      · intro h1 h2 h3 h4 h5 h6 h7 h8
        refine Pa.mono (Pa.cg (ihP 0 (o + 1) (ya + 1) ys yc (by omega) (by omega) (by omega) (by omega)) (by rw [on_succ o]; first | done | rfl) (by rw [on_succ ya]; exact rW_at.symm)) (fun yu A1 hu => ?_)
        obtain ⟨rfl, hu⟩ := hu
        have yhc : rdC (yA.1 36) yn ya = 40 := by rw [rdC_in (by omega)]; exact h7
        have hno : ¬ (ya < yn ∧ 0 ≤ (nmX (yA.1 36 ya)).toInt) := by omega
        rcases hu with ⟨yb, cs, yr1, r2, r3, rfl⟩ | ⟨yb, s', c', yr1, r2, rfl⟩
        · have eb : (Int32.ofNat yb).toInt = (yb : Int) := i32_nat (by omega)
          refine bx_opp _ _ _ _ _ 1 _ (fun yq => absurd yq rd_n1) (fun _ yq1 => ?_) (fun _ yq1 yq2 yq3 yq4 => ?_) (fun _ yq1 yq2 yq3 yq4 => ?_)
          · rw [hn, eb] at yq1
            exact ⟨rfl, .inr ⟨yb, _, _, RP.paN2 hno ⟨yhc, by omega⟩ yr1 (by rw [rdC_out (by omega)]; omega), r3, rW_sd⟩⟩
          · rw [hn, eb] at yq1
            rw [eb, Int.toNat_natCast] at yq4
            exact ⟨rfl, .inr ⟨yb, _, _, RP.paN2 hno ⟨yhc, by omega⟩ yr1 (by rw [rdC_in (by omega)]; exact yq4), r3, rW_sd⟩⟩
          · rw [hn, eb] at yq1
            rw [eb, Int.toNat_natCast] at yq4
            refine ⟨rfl, .inl ⟨yb + 1, cs, RP.paY hno ⟨yhc, by omega⟩ yr1 (by rw [rdC_in (by omega)]; exact yq4), by omega, by omega, ?_⟩⟩
            rw [on_succ yb]
            show uI (uI (rW _ _ _ _ _) 35 5 1) 35 4 _ = _
            rw [rW_sd, rW_at]
        · refine bx_opp _ _ _ _ _ 0 _ (fun _ => ?_) (fun yq => absurd rd_z0 yq) (fun yq => absurd rd_z0 yq) (fun yq => absurd rd_z0 yq)
          exact ⟨rfl, .inr ⟨yb, _, _, RP.paN1 hno ⟨yhc, by omega⟩ yr1, r2, rW_sd⟩⟩
      · intro h1 h2 h3 h4 h5 h6 h7
        exact ybad (RP.no (by rw [rdC_in (by omega)]; omega) (by omega) (by rw [rdC_in (by omega)]; omega) (by rw [rdC_in (by omega)]; omega))
      · intro h1 h2 h3 h4 h5 h6 h7
        refine Pa.mono (Pa.cg (ihO (o + 1) (ya + 1) ys yc (by omega) (by omega) (by omega)) (by rw [on_succ o]) (by rw [on_succ ya]; exact rW_at.symm)) (fun yu A1 hu => ?_)
        obtain ⟨rfl, hu⟩ := hu
        have yhc : rdC (yA.1 36) yn ya = 33 := by rw [rdC_in (by omega)]; exact h6
        have hno : ¬ (ya < yn ∧ 0 ≤ (nmX (yA.1 36 ya)).toInt) := by omega
        rcases hu with ⟨yb, cs, yr1, r2, r3, rfl⟩ | ⟨yb, s', c', yr1, r2, rfl⟩
        · have es2 : (Int32.ofNat (ys + cs.length)).toInt = ((ys + cs.length : Nat) : Int) := i32_nat (by omega)
          refine bx_opx _ _ _ _ _ 1 _ (fun yq => ?_) (fun _ _ => ?_)
          · omega
          · refine ⟨rfl, .inl ⟨yb, cs ++ [-33], RP.ntY hno ⟨yhc, by omega⟩ yr1, by rw [len1]; omega, r3, ?_⟩⟩
            rw [len1, ← Nat.add_assoc, on_succ]
            show uI (uI (rW _ _ _ _ _) 37 _ _) 35 3 _ = _
            rw [rW_put, es2, Int.toNat_natCast, apd_put]
        · refine bx_opx _ _ _ _ _ 0 _ (fun _ => ?_) (fun _ _ => ?_)
          · exact ⟨rfl, .inr ⟨yb, s', c', RP.ntN hno ⟨yhc, by omega⟩ yr1, r2, rfl⟩⟩
          · exact ⟨rfl, .inr ⟨yb, _, _, RP.ntN hno ⟨yhc, by omega⟩ yr1, r2, rW_put⟩⟩
      · intro h1 h2 h3 h4 h5 h6 h7
        exact nam (by omega) (by omega) h5
      · intro h1 h2 h3 h4 h5 h6
        exact ybad (RP.no (by rw [rdC_in (by omega)]; omega) (by omega) (by rw [rdC_in (by omega)]; omega) (by rw [rdC_in (by omega)]; omega))
      · intro h1 h2 h3 h4 h5 h6 h7 h8
        exact nam (by omega) (by omega) h6
      · intro h1 h2 h3 h4 h5
        have yq : 48 ≤ rdC (yA.1 36) yn ya ∧ rdC (yA.1 36) yn ya ≤ 57 := by rw [rdC_in (by omega)]; exact ⟨h4, h5⟩
        refine bx_num0 (Pa.mono (c_num hn hn2 N 6 0 ya ys 0 yc (by omega) yha (by omega)) (fun yu A1 hu => ?_))
        obtain ⟨rfl, rfl⟩ := hu
        have hl := rdN_le (T := yA.1 36) (yn := yn) 5 (ya + 1) (0 * 10 + yA.1 36 ya - 48) (by omega)
        rw [← rdN_go (yk := 5) yq] at hl
        exact bx_opn _ _ _ ⟨rfl, .inl ⟨_, _, RP.num yq, by show ya + 1 ≤ _; exact hl.1, hl.2, rfl⟩⟩
end XRD
