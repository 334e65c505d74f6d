/-! GAINS -/
/-- ya film's costs of ya year, yas ya number -/
noncomputable def smI (yA : AW) (yf l yy yk : Int32) : Nat → Int
  | 0 => 0
  | yn + 1 => smI yA yf l yy yk yn + @ite _ (inB yA yf l (-1) yy yn) (Classical.propDecidable _) (cvV yA yn yk).toInt 0
theorem smI_1 {yA : AW} {yf l yy yk : Int32} {yn : Nat} (yh : inB yA yf l (-1) yy yn) : smI yA yf l yy yk (yn + 1) = smI yA yf l yy yk yn + (cvV yA yn yk).toInt := congrArg (smI yA yf l yy yk yn + ·) (@if_pos _ (Classical.propDecidable _) yh _ _ _)
theorem smI_0 {yA : AW} {yf l yy yk : Int32} {yn : Nat} (yh : ¬ inB yA yf l (-1) yy yn) : smI yA yf l yy yk (yn + 1) = smI yA yf l yy yk yn := (congrArg (smI yA yf l yy yk yn + ·) (@if_neg _ (Classical.propDecidable _) yh _ _ _)).trans (Int.add_zero _)
theorem smI_b {yA : AW} (yg : Rgx yA) (hp : Rpr yA) (yf l yy yk : Int32) : ∀ {yn : Nat}, yn ≤ cT yA → -9999801 * (yn : Int) ≤ smI yA yf l yy yk yn ∧ smI yA yf l yy yk yn ≤ 9999801 * (yn : Int)
  | 0, _ => by
    show -9999801 * ((0 : Nat) : Int) ≤ 0 ∧ (0 : Int) ≤ 9999801 * ((0 : Nat) : Int)
    omega
  | yn + 1, hn => by
    have yih := smI_b yg hp yf l yy yk (yn := yn) (by omega)
    have yh := cvV_rg yg hp (yc := yn) (by omega) yk
    by_cases yz : inB yA yf l (-1) yy yn
    · rw [smI_1 yz]
      omega
    · rw [smI_0 yz]
      omega
theorem Rgx.T5 {yA : AW} (yg : Rgx yA) : cT yA ≤ 150 := by
  have := yg.gl.T
  unfold cT
  omega
theorem smV_I {yA : AW} (yg : Rgx yA) (hp : Rpr yA) (yf l yy yk : Int32) : ∀ {yn : Nat}, yn ≤ cT yA → (smV yA yf l (-1) yy yk yn).toInt = smI yA yf l yy yk yn
  | 0, _ => by
    show (Int64.ofNat 0).toInt = 0
    decide
  | yn + 1, hn => by
    have yih := smV_I yg hp yf l yy yk (yn := yn) (by omega)
    have yh := cvV_rg yg hp (yc := yn) (by omega) yk
    have yhb := smI_b yg hp yf l yy yk (yn := yn) (by omega)
    have h5 := yg.T5
    by_cases yz : inB yA yf l (-1) yy yn
    · rw [smV_1 yz, smI_1 yz, Int64.toInt_add, yih, Int32.toInt_toInt64]
      exact z_bm1 ⟨by show (-9223372036854775808 : Int) ≤ _; omega, by show _ ≤ (9223372036854775807 : Int); omega⟩
    · rw [smV_0 yz, smI_0 yz, yih]
theorem i64_held : (1999999999 : Int64).toInt = 1999999999 := by decide
theorem bs_64 {yA : AW} (yg : Rgx yA) (hp : Rpr yA) (yf l yy yk : Int32) : (bsV yA yf l (-1) yy yk).toInt64 = smV yA yf l (-1) yy yk (cT yA) ∧ (smV yA yf l (-1) yy yk (cT yA)).toInt < 1999999999 := by
  have yh := smV_I yg hp yf l yy yk (Nat.le_refl (cT yA))
  have yhb := smI_b yg hp yf l yy yk (Nat.le_refl (cT yA))
  have h5 := yg.T5
  have ye : l_min (smV yA yf l (-1) yy yk (cT yA)) 1999999999 = smV yA yf l (-1) yy yk (cT yA) := by
    unfold l_min
    rw [if_neg (fun yq => by
      have := Int64.lt_iff_toInt_lt.mp yq
      rw [i64_held] at this
      omega)]
  refine ⟨?_, by omega⟩
  apply Int64.toInt_inj.mp
  unfold bsV
  rw [ye, Int32.toInt_toInt64, Int64.toInt_toInt32]
  exact z_bm0 ⟨by show (-2147483648 : Int) ≤ _; omega, by show _ ≤ (2147483647 : Int); omega⟩
/-- one ycost, over films -/
noncomputable def dI (yA : AW) (l yy yk : Int32) (yn : Nat) : Nat → Int
  | 0 => 0
  | yF + 1 => dI yA l yy yk yn yF + @ite _ (inB yA (Int32.ofNat yF) l (-1) yy yn) (Classical.propDecidable _) (cvV yA yn yk).toInt 0
noncomputable def gI (yA : AW) (l yy yk : Int32) (yn : Nat) : Nat → Int
  | 0 => 0
  | yF + 1 => gI yA l yy yk yn yF + smI yA (Int32.ofNat yF) l yy yk yn
theorem gI_s {yA : AW} {l yy yk : Int32} {yn : Nat} : ∀ {yF : Nat}, gI yA l yy yk (yn + 1) yF = gI yA l yy yk yn yF + dI yA l yy yk yn yF
  | 0 => rfl
  | yF + 1 => by
    have yih := gI_s (yA := yA) (l := l) (yy := yy) (yk := yk) (yn := yn) (yF := yF)
    have ye1 : gI yA l yy yk (yn + 1) (yF + 1) = gI yA l yy yk (yn + 1) yF + smI yA (Int32.ofNat yF) l yy yk (yn + 1) := rfl
    have ye2 : gI yA l yy yk yn (yF + 1) = gI yA l yy yk yn yF + smI yA (Int32.ofNat yF) l yy yk yn := rfl
    have ye3 : dI yA l yy yk yn (yF + 1) = dI yA l yy yk yn yF + @ite _ (inB yA (Int32.ofNat yF) l (-1) yy yn) (Classical.propDecidable _) (cvV yA yn yk).toInt 0 := rfl
    have ye4 : smI yA (Int32.ofNat yF) l yy yk (yn + 1) = smI yA (Int32.ofNat yF) l yy yk yn + @ite _ (inB yA (Int32.ofNat yF) l (-1) yy yn) (Classical.propDecidable _) (cvV yA yn yk).toInt 0 := rfl
    rw [ye1, ye2, ye3, ye4, yih]
    omega
theorem dI_b {yA : AW} (yg : Rgx yA) (hp : Rpr yA) (l yy yk : Int32) {yn : Nat} (hn : yn < cT yA) : ∀ {yF : Nat}, yF ≤ 20 → ((yF : Int) ≤ (yA.1 90 (7 * yn)).toInt → dI yA l yy yk yn yF = 0) ∧ dI yA l yy yk yn yF ≤ 9999801
  | 0, _ => ⟨fun _ => rfl, by show (0 : Int) ≤ 9999801; omega⟩
  | yF + 1, hF => by
    have yih := dI_b yg hp l yy yk hn (yF := yF) (by omega)
    have yh := cvV_rg yg hp hn yk
    have eF : (Int32.ofNat yF).toInt = (yF : Int) := i32_nat (by omega)
    by_cases yz : inB yA (Int32.ofNat yF) l (-1) yy yn
    · have ye : dI yA l yy yk yn (yF + 1) = dI yA l yy yk yn yF + (cvV yA yn yk).toInt := congrArg (dI yA l yy yk yn yF + ·) (@if_pos _ (Classical.propDecidable _) yz _ _ _)
      have z1 := yz.1
      rw [eF] at z1
      have yi0 := yih.1 (by omega)
      rw [ye, yi0]
      exact ⟨fun yq => by omega, by omega⟩
    · have ye : dI yA l yy yk yn (yF + 1) = dI yA l yy yk yn yF := (congrArg (dI yA l yy yk yn yF + ·) (@if_neg _ (Classical.propDecidable _) yz _ _ _)).trans (Int.add_zero _)
      rw [ye]
      exact ⟨fun yq => yih.1 (by omega), yih.2⟩
theorem gI_0 {yA : AW} {l yy yk : Int32} : ∀ {yF : Nat}, gI yA l yy yk 0 yF = 0
  | 0 => rfl
  | yF + 1 => by
    have ye : gI yA l yy yk 0 (yF + 1) = gI yA l yy yk 0 yF + 0 := rfl
    rw [ye, gI_0]
    rfl
theorem gI_b {yA : AW} (yg : Rgx yA) (hp : Rpr yA) (l yy yk : Int32) {yF : Nat} (hF : yF ≤ 20) : ∀ {yn : Nat}, yn ≤ cT yA → gI yA l yy yk yn yF ≤ 9999801 * (yn : Int)
  | 0, _ => by
    rw [gI_0]
    omega
  | yn + 1, hn => by
    have yih := gI_b yg hp l yy yk hF (yn := yn) (by omega)
    have yh := (dI_b yg hp l yy yk (yn := yn) (by omega) hF).2
    rw [gI_s]
    omega
theorem gI_c {yA : AW} (yg : Rgx yA) (hp : Rpr yA) (l yy yk : Int32) : ∀ {yF : Nat}, -1500000000 * (yF : Int) ≤ gI yA l yy yk (cT yA) yF ∧ gI yA l yy yk (cT yA) yF ≤ 1500000000 * (yF : Int)
  | 0 => by
    show -1500000000 * ((0 : Nat) : Int) ≤ 0 ∧ (0 : Int) ≤ 1500000000 * ((0 : Nat) : Int)
    omega
  | yF + 1 => by
    have yih := gI_c yg hp l yy yk (yF := yF)
    have yh := smI_b yg hp (Int32.ofNat yF) l yy yk (Nat.le_refl (cT yA))
    have h5 := yg.T5
    have ye2 : gI yA l yy yk (cT yA) (yF + 1) = gI yA l yy yk (cT yA) yF + smI yA (Int32.ofNat yF) l yy yk (cT yA) := rfl
    rw [ye2]
    omega
/-- what is spent, what is given yback -/
noncomputable def gsV (yA : AW) (l yy yk : Int32) : Nat → Int64
  | 0 => Int64.ofNat 0
  | yF + 1 => gsV yA l yy yk yF + (bsV yA (Int32.ofNat yF) l (-1) yy yk).toInt64
noncomputable def goV (yA : AW) (l yy yk : Int32) : Nat → Int64
  | 0 => Int64.ofNat 0
  | yF + 1 => goV yA l yy yk yF + ((bsV yA (Int32.ofNat yF) l (-1) yy yk).toInt64 * (lwV yA 1 l (Int32.ofNat yF) (((360 * yy) + 360) - 1) yk).toInt64) / 100
theorem gsV_I {yA : AW} (yg : Rgx yA) (hp : Rpr yA) (l yy yk : Int32) : ∀ {yF : Nat}, yF ≤ 20 → (gsV yA l yy yk yF).toInt = gI yA l yy yk (cT yA) yF
  | 0, _ => by
    show (Int64.ofNat 0).toInt = 0
    decide
  | yF + 1, hF => by
    have yih := gsV_I yg hp l yy yk (yF := yF) (by omega)
    have yh := smI_b yg hp (Int32.ofNat yF) l yy yk (Nat.le_refl (cT yA))
    have yhc := gI_c yg hp l yy yk (yF := yF)
    have h5 := yg.T5
    have ye1 : gsV yA l yy yk (yF + 1) = gsV yA l yy yk yF + (bsV yA (Int32.ofNat yF) l (-1) yy yk).toInt64 := rfl
    have ye2 : gI yA l yy yk (cT yA) (yF + 1) = gI yA l yy yk (cT yA) yF + smI yA (Int32.ofNat yF) l yy yk (cT yA) := rfl
    rw [ye1, ye2, (bs_64 yg hp (Int32.ofNat yF) l yy yk).1, Int64.toInt_add, yih, smV_I yg hp (Int32.ofNat yF) l yy yk (Nat.le_refl (cT yA))]
    exact z_bm1 ⟨by show (-9223372036854775808 : Int) ≤ _; omega, by show _ ≤ (9223372036854775807 : Int); omega⟩
theorem gs_held {yA : AW} (yg : Rgx yA) (hp : Rpr yA) (l yy yk : Int32) {yF : Nat} (hF : yF ≤ 20) : (gsV yA l yy yk yF).toInt ≤ 1999999999 := by
  have yh := gI_b yg hp l yy yk hF (Nat.le_refl (cT yA))
  have h5 := yg.T5
  rw [gsV_I yg hp l yy yk hF]
  omega
def fT (yA : AW) : Nat := (yA.1 69 11).toInt.toNat
noncomputable def gnV (yA : AW) (l yy yp yt yk : Int32) : Int32 := (((((gsV yA l yy yk (fT yA) * yp.toInt64) / 100) * yt.toInt64) / 100) - goV yA l yy yk (fT yA)).toInt32
theorem Rgx.fT9 {yA : AW} (yg : Rgx yA) : (yA.1 69 11).toInt = (fT yA : Int) ∧ fT yA ≤ 20 := by
  have yh := yg.tF
  unfold fT
  omega
/-! the class -/
theorem bx_ga0 {N : Nat} {yA : AW} {yQ : Option Value → AW → Prop} (l yy yp yt yk : Int32)
    (l1 : Pa N 18 22 [(0, .ref 46), (1, .int l), (2, .int yy), (3, .int yp), (4, .int yt), (5, .int yk), (6, .int (((yy * 360) + 360) - 1)), (7, .long (Int64.ofNat 0)), (9, .long (Int64.ofNat 0)), (11, .int 0), (12, .long (Int64.ofNat 0))] [] yA yQ) :
    Pa N 18 0 [(0, .ref 46), (1, .int l), (2, .int yy), (3, .int yp), (4, .int yt), (5, .int yk)] [] yA yQ := by
  refine Pa.mp 1 (pc' := 1) (l' := [(0, .ref 46), (1, .int l), (2, .int yy), (3, .int yp), (4, .int yt), (5, .int yk)]) (st' := [.int yy]) (by rfl) ?_
  refine Pa.ic (x := 360) (pc' := 4) (by rfl) (by rfl) (by decide) ?_
  refine Pa.mp 1 (pc' := 5) (l' := [(0, .ref 46), (1, .int l), (2, .int yy), (3, .int yp), (4, .int yt), (5, .int yk)]) (st' := [.int (yy * 360)]) (by rfl) ?_
  refine Pa.ic (x := 360) (pc' := 8) (by rfl) (by rfl) (by decide) ?_
  refine Pa.mp 1 (pc' := 9) (l' := [(0, .ref 46), (1, .int l), (2, .int yy), (3, .int yp), (4, .int yt), (5, .int yk)]) (st' := [.int ((yy * 360) + 360)]) (by rfl) ?_
  refine Pa.ic (x := 1) (pc' := 10) (by rfl) (by rfl) (by decide) ?_
  refine Pa.mp 6 (pc' := 19) (l' := [(9, .long (Int64.ofNat 0)), (7, .long (Int64.ofNat 0)), (6, .int (((yy * 360) + 360) - 1)), (0, .ref 46), (1, .int l), (2, .int yy), (3, .int yp), (4, .int yt), (5, .int yk)]) (st' := []) (by rfl) ?_
  refine Pa.ic (x := 0) (pc' := 20) (by rfl) (by rfl) (by decide) ?_
  refine Pa.mp 1 (pc' := 22) (l' := [(11, .int 0), (9, .long (Int64.ofNat 0)), (7, .long (Int64.ofNat 0)), (6, .int (((yy * 360) + 360) - 1)), (0, .ref 46), (1, .int l), (2, .int yy), (3, .int yp), (4, .int yt), (5, .int yk)]) (st' := []) (by rfl) ?_
  refine Pa.lv (l' := [(0, .ref 46), (1, .int l), (2, .int yy), (3, .int yp), (4, .int yt), (5, .int yk), (6, .int (((yy * 360) + 360) - 1)), (7, .long (Int64.ofNat 0)), (9, .long (Int64.ofNat 0)), (11, .int 0), (12, .long (Int64.ofNat 0))]) (lvS_c rfl (lvS_c rfl (lvS_c rfl (lvS_c rfl (lvS_c rfl (lvS_c rfl (lvS_c rfl (lvS_c rfl (lvS_c rfl (lvS_c rfl (lvS_nil))))))))))) rfl ?_
  exact l1

theorem bx_ga1 {N : Nat} {yA : AW} {yQ : Option Value → AW → Prop} (l yy yp yt yk ye yf : Int32) (ys yb yz : Int64)
    (l1 : (yA.1 5 6).toInt ≤ yf.toInt → yQ (some (.int ((((((ys * yp.toInt64) / 100) * yt.toInt64) / 100) - yb).toInt32))) yA)
    (l2 : yf.toInt < (yA.1 5 6).toInt → Pa N 16 0 [(0, .ref 46), (1, .int yf), (2, .int l), (3, .int (-1)), (4, .int yy), (5, .int yk)] [] yA (fun yu A1 => Pa N 18 45 [(0, .ref 46), (1, .int l), (2, .int yy), (3, .int yp), (4, .int yt), (5, .int yk), (6, .int ye), (7, .long ys), (9, .long yb), (11, .int yf), (12, .long yz)] (yu.toList ++ []) A1 yQ)) :
    Pa (N + 1) 18 22 [(0, .ref 46), (1, .int l), (2, .int yy), (3, .int yp), (4, .int yt), (5, .int yk), (6, .int ye), (7, .long ys), (9, .long yb), (11, .int yf), (12, .long yz)] [] yA yQ := by
  refine Pa.mp1 1 (pc' := 25) (l' := [(0, .ref 46), (1, .int l), (2, .int yy), (3, .int yp), (4, .int yt), (5, .int yk), (6, .int ye), (7, .long ys), (9, .long yb), (11, .int yf), (12, .long yz)]) (st' := [.ref 46, .int yf]) (by rfl) ?_
  refine Pa.gfR (by rfl) (by rfl) (.inl rfl) (by rfl) ?_
  show Pa N 18 28 [(0, .ref 46), (1, .int l), (2, .int yy), (3, .int yp), (4, .int yt), (5, .int yk), (6, .int ye), (7, .long ys), (9, .long yb), (11, .int yf), (12, .long yz)] [.ref 5, .int yf] yA _
  refine Pa.gfI (v := yA.1 5 6) (by rfl) (by rfl) (.inr rfl) (by rfl) (by rfl) ?_
  refine Pa.if2 (a := yf.toInt) (b := (yA.1 5 6).toInt) (t := 86) (by rfl) (by rfl) (rfl) (rfl) (fun h1 => ?_) (fun h2 => ?_)
  · have h1 : (yA.1 5 6).toInt ≤ yf.toInt := h1
    refine Pa.mp 4 (pc' := 91) (l' := [(0, .ref 46), (1, .int l), (2, .int yy), (3, .int yp), (4, .int yt), (5, .int yk), (6, .int ye), (7, .long ys), (9, .long yb), (11, .int yf), (12, .long yz)]) (st' := [.long (ys * yp.toInt64)]) (by rfl) ?_
    refine Pa.jcl (x := 100) (pc' := 94) (by rfl) (fun _ _ _ => by rfl) (by decide) ?_
    refine Pa.ldiv (by rfl) ?_
    refine Pa.mp 3 (pc' := 99) (l' := [(0, .ref 46), (1, .int l), (2, .int yy), (3, .int yp), (4, .int yt), (5, .int yk), (6, .int ye), (7, .long ys), (9, .long yb), (11, .int yf), (12, .long yz)]) (st' := [.long (((ys * yp.toInt64) / 100) * yt.toInt64)]) (by rfl) ?_
    refine Pa.jcl (x := 100) (pc' := 102) (by rfl) (fun _ _ _ => by rfl) (by decide) ?_
    refine Pa.ldiv (by rfl) ?_
    refine Pa.mp 3 (pc' := 107) (l' := [(0, .ref 46), (1, .int l), (2, .int yy), (3, .int yp), (4, .int yt), (5, .int yk), (6, .int ye), (7, .long ys), (9, .long yb), (11, .int yf), (12, .long yz)]) (st' := [.int ((((((ys * yp.toInt64) / 100) * yt.toInt64) / 100) - yb).toInt32)]) (by rfl) ?_
    refine Pa.iret (by rfl) ?_
    exact l1 h1
  · have h2 : yf.toInt < (yA.1 5 6).toInt := h2
    refine Pa.mp 3 (pc' := 38) (l' := [(0, .ref 46), (1, .int l), (2, .int yy), (3, .int yp), (4, .int yt), (5, .int yk), (6, .int ye), (7, .long ys), (9, .long yb), (11, .int yf), (12, .long yz)]) (st' := [.int l, .int yf, .ref 46]) (by rfl) ?_
    refine Pa.ic (x := (-1)) (pc' := 39) (by rfl) (by rfl) (by decide) ?_
    refine Pa.mp 2 (pc' := 42) (l' := [(0, .ref 46), (1, .int l), (2, .int yy), (3, .int yp), (4, .int yt), (5, .int yk), (6, .int ye), (7, .long ys), (9, .long yb), (11, .int yf), (12, .long yz)]) (st' := [.int yk, .int yy, .int (-1), .int l, .int yf, .ref 46]) (by rfl) ?_
    refine Pa.inv (by rfl) (by rfl) (.inl rfl) (by rfl) ?_
    exact l2 h2

theorem bx_ga2 {N : Nat} {yA : AW} {yQ : Option Value → AW → Prop} (l yy yp yt yk ye yf yv : Int32) (ys yb yz : Int64)
    (l1 : Pa N 15 0 [(0, .ref 46), (1, .int 1), (2, .int l), (3, .int yf), (4, .int ye), (5, .int yk)] [] yA (fun yu A1 => Pa N 18 71 [(0, .ref 46), (1, .int l), (2, .int yy), (3, .int yp), (4, .int yt), (5, .int yk), (6, .int ye), (7, .long (ys + yv.toInt64)), (9, .long yb), (11, .int yf), (12, .long yv.toInt64)] (yu.toList ++ [.long yv.toInt64, .long yb]) A1 yQ)) :
    Pa N 18 45 [(0, .ref 46), (1, .int l), (2, .int yy), (3, .int yp), (4, .int yt), (5, .int yk), (6, .int ye), (7, .long ys), (9, .long yb), (11, .int yf), (12, .long yz)] [.int yv] yA yQ := by
  refine Pa.mp 9 (pc' := 60) (l' := [(7, .long (ys + yv.toInt64)), (12, .long yv.toInt64), (0, .ref 46), (1, .int l), (2, .int yy), (3, .int yp), (4, .int yt), (5, .int yk), (6, .int ye), (9, .long yb), (11, .int yf)]) (st' := [.ref 46, .long yv.toInt64, .long yb]) (by rfl) ?_
  refine Pa.ic (x := 1) (pc' := 61) (by rfl) (by rfl) (by decide) ?_
  refine Pa.mp 4 (pc' := 68) (l' := [(7, .long (ys + yv.toInt64)), (12, .long yv.toInt64), (0, .ref 46), (1, .int l), (2, .int yy), (3, .int yp), (4, .int yt), (5, .int yk), (6, .int ye), (9, .long yb), (11, .int yf)]) (st' := [.int yk, .int ye, .int yf, .int l, .int 1, .ref 46, .long yv.toInt64, .long yb]) (by rfl) ?_
  refine Pa.lv (l' := [(0, .ref 46), (1, .int l), (2, .int yy), (3, .int yp), (4, .int yt), (5, .int yk), (6, .int ye), (7, .long (ys + yv.toInt64)), (9, .long yb), (11, .int yf), (12, .long yv.toInt64)]) (lvS_c rfl (lvS_c rfl (lvS_c rfl (lvS_c rfl (lvS_c rfl (lvS_c rfl (lvS_c rfl (lvS_c rfl (lvS_c rfl (lvS_c rfl (lvS_c rfl (lvS_nil)))))))))))) rfl ?_
  refine Pa.inv (by rfl) (by rfl) (.inl rfl) (by rfl) ?_
  exact l1

theorem bx_ga3 {N : Nat} {yA : AW} {yQ : Option Value → AW → Prop} (l yy yp yt yk ye yf yv : Int32) (ys yb yz : Int64)
    (l1 : Pa N 18 22 [(0, .ref 46), (1, .int l), (2, .int yy), (3, .int yp), (4, .int yt), (5, .int yk), (6, .int ye), (7, .long ys), (9, .long (yb + ((yz * yv.toInt64) / 100))), (11, .int (yf + 1)), (12, .long yz)] [] yA yQ) :
    Pa N 18 71 [(0, .ref 46), (1, .int l), (2, .int yy), (3, .int yp), (4, .int yt), (5, .int yk), (6, .int ye), (7, .long ys), (9, .long yb), (11, .int yf), (12, .long yz)] [.int yv, .long yz, .long yb] yA yQ := by
  refine Pa.mp 2 (pc' := 73) (l' := [(0, .ref 46), (1, .int l), (2, .int yy), (3, .int yp), (4, .int yt), (5, .int yk), (6, .int ye), (7, .long ys), (9, .long yb), (11, .int yf), (12, .long yz)]) (st' := [.long (yz * yv.toInt64), .long yb]) (by rfl) ?_
  refine Pa.jcl (x := 100) (pc' := 76) (by rfl) (fun _ _ _ => by rfl) (by decide) ?_
  refine Pa.ldiv (by rfl) ?_
  refine Pa.mp 2 (pc' := 80) (l' := [(9, .long (yb + ((yz * yv.toInt64) / 100))), (0, .ref 46), (1, .int l), (2, .int yy), (3, .int yp), (4, .int yt), (5, .int yk), (6, .int ye), (7, .long ys), (11, .int yf), (12, .long yz)]) (st' := []) (by rfl) ?_
  refine Pa.iinc (x := yf) (c := 1) (v := (yf + 1)) (l' := [(11, .int (yf + 1)), (9, .long (yb + ((yz * yv.toInt64) / 100))), (0, .ref 46), (1, .int l), (2, .int yy), (3, .int yp), (4, .int yt), (5, .int yk), (6, .int ye), (7, .long ys), (12, .long yz)]) (by rfl) (by rfl) (by decide) (by rfl) (by rfl) ?_
  refine Pa.mp 1 (pc' := 22) (l' := [(11, .int (yf + 1)), (9, .long (yb + ((yz * yv.toInt64) / 100))), (0, .ref 46), (1, .int l), (2, .int yy), (3, .int yp), (4, .int yt), (5, .int yk), (6, .int ye), (7, .long ys), (12, .long yz)]) (st' := []) (by rfl) ?_
  refine Pa.lv (l' := [(0, .ref 46), (1, .int l), (2, .int yy), (3, .int yp), (4, .int yt), (5, .int yk), (6, .int ye), (7, .long ys), (9, .long (yb + ((yz * yv.toInt64) / 100))), (11, .int (yf + 1)), (12, .long yz)]) (lvS_c rfl (lvS_c rfl (lvS_c rfl (lvS_c rfl (lvS_c rfl (lvS_c rfl (lvS_c rfl (lvS_c rfl (lvS_c rfl (lvS_c rfl (lvS_c rfl (lvS_nil)))))))))))) rfl ?_
  exact l1

theorem c_gaX {B9 yA yW : AW} (yg : Rgx yA) (hs : scX B9 yA yW) (l yy yp yt yk : Int32) (hk : yk.toInt ≤ 3599) (N : Nat) : Pa N 18 0 [(0, .ref 46), (1, .int l), (2, .int yy), (3, .int yp), (4, .int yt), (5, .int yk)] [] yW (fun yv A1 => yv = some (.int (gnV yA l yy yp yt yk)) ∧ scX B9 yA A1) := by
  have yhT := yg.fT9
  have ykey : ∀ (N yf : Nat) (yU : AW) (yz : Int64), yf ≤ fT yA → scX B9 yA yU → Pa N 18 22 [(0, .ref 46), (1, .int l), (2, .int yy), (3, .int yp), (4, .int yt), (5, .int yk), (6, .int (((360 * yy) + 360) - 1)), (7, .long (gsV yA l yy yk yf)), (9, .long (goV yA l yy yk yf)), (11, .int (Int32.ofNat yf)), (12, .long yz)] [] yU (fun yv A1 => yv = some (.int (gnV yA l yy yp yt yk)) ∧ scX B9 yA A1) := by
    intro N
    induction N with
    | zero => intros; exact Pa.zero
    | succ N yih =>
      intro yf yU yz hf hu
      have ef : (Int32.ofNat yf).toInt = (yf : Int) := i32_nat (by omega)
      have e56 : (yU.1 5 6).toInt = (fT yA : Int) := by rw [hu.1 5 6 (by decide), yg.gl.f5]; exact yhT.1
      refine bx_ga1 l yy yp yt yk _ (Int32.ofNat yf) _ _ yz ?_ ?_ <;> rw [e56, ef]
      · intro yq
        have ye : yf = fT yA := by omega
        subst ye
        exact ⟨rfl, hu⟩
      · intro yq
        refine Pa.mono (c_bsX yg hu (Int32.ofNat yf) l (-1) yy yk hk N) (fun yv A1 hv => ?_)
        obtain ⟨rfl, ys1⟩ := hv
        refine bx_ga2 l yy yp yt yk _ (Int32.ofNat yf) _ _ _ yz (Pa.mono (c_lawS yg ys1 1 l (Int32.ofNat yf) _ yk (by omega) (by omega) hk N) (fun yv A2 hv => ?_))
        obtain ⟨rfl, ys2, -⟩ := hv
        refine bx_ga3 l yy yp yt yk _ (Int32.ofNat yf) _ _ _ _ ?_
        have yh := yih (yf + 1) A2 ((bsV yA (Int32.ofNat yf) l (-1) yy yk).toInt64) (by omega) ys2
        rw [on_succ yf] at yh
        exact yh
  refine bx_ga0 l yy yp yt yk ?_
  rw [Int32.mul_comm yy 360]
  exact ykey N 0 yW _ (Nat.zero_le _) hs
/-! the reference -/
theorem bm_gn0 {N : Nat} {yA : AW} {yQ : Option Value → AW → Prop} (l yy ya yt yq : Int32)
    (l1 : l.toInt < 0 → yQ (some (.int (-2000000000))) yA)
    (l2 : 0 ≤ l.toInt → 5 < l.toInt → yQ (some (.int (-2000000000))) yA)
    (l3 : 0 ≤ l.toInt → l.toInt ≤ 5 → yy.toInt < 0 → yQ (some (.int (-2000000000))) yA)
    (l4 : 0 ≤ l.toInt → l.toInt ≤ 5 → 0 ≤ yy.toInt → 9 < yy.toInt → yQ (some (.int (-2000000000))) yA)
    (l5 : 0 ≤ l.toInt → l.toInt ≤ 5 → 0 ≤ yy.toInt → yy.toInt ≤ 9 → ya.toInt < 0 → yQ (some (.int (-2000000000))) yA)
    (l6 : 0 ≤ l.toInt → l.toInt ≤ 5 → 0 ≤ yy.toInt → yy.toInt ≤ 9 → 0 ≤ ya.toInt → 100 < (ya / 1000).toInt → yQ (some (.int (-2000000000))) yA)
    (l7 : 0 ≤ l.toInt → l.toInt ≤ 5 → 0 ≤ yy.toInt → yy.toInt ≤ 9 → 0 ≤ ya.toInt → (ya / 1000).toInt ≤ 100 → 100 < (ya - ya / 1000 * 1000).toInt → yQ (some (.int (-2000000000))) yA)
    (l8 : 0 ≤ l.toInt → l.toInt ≤ 5 → 0 ≤ yy.toInt → yy.toInt ≤ 9 → 0 ≤ ya.toInt → (ya / 1000).toInt ≤ 100 → (ya - ya / 1000 * 1000).toInt ≤ 100 → yt.toInt < 0 → yQ (some (.int (-2000000000))) yA)
    (l9 : 0 ≤ l.toInt → l.toInt ≤ 5 → 0 ≤ yy.toInt → yy.toInt ≤ 9 → 0 ≤ ya.toInt → (ya / 1000).toInt ≤ 100 → (ya - ya / 1000 * 1000).toInt ≤ 100 → 0 ≤ yt.toInt → 100 < yt.toInt → yQ (some (.int (-2000000000))) yA)
    (l10 : 0 ≤ l.toInt → l.toInt ≤ 5 → 0 ≤ yy.toInt → yy.toInt ≤ 9 → 0 ≤ ya.toInt → (ya / 1000).toInt ≤ 100 → (ya - ya / 1000 * 1000).toInt ≤ 100 → 0 ≤ yt.toInt → yt.toInt ≤ 100 → yq.toInt < 0 → yQ (some (.int (-2000000000))) yA)
    (l11 : 0 ≤ l.toInt → l.toInt ≤ 5 → 0 ≤ yy.toInt → yy.toInt ≤ 9 → 0 ≤ ya.toInt → (ya / 1000).toInt ≤ 100 → (ya - ya / 1000 * 1000).toInt ≤ 100 → 0 ≤ yt.toInt → yt.toInt ≤ 100 → 0 ≤ yq.toInt → 1 < yq.toInt → yQ (some (.int (-2000000000))) yA)
    (l12 : 0 ≤ l.toInt → l.toInt ≤ 5 → 0 ≤ yy.toInt → yy.toInt ≤ 9 → 0 ≤ ya.toInt → (ya / 1000).toInt ≤ 100 → (ya - ya / 1000 * 1000).toInt ≤ 100 → 0 ≤ yt.toInt → yt.toInt ≤ 100 → 0 ≤ yq.toInt → yq.toInt ≤ 1 → Pa N 240 72 [(0, .ref 69), (1, .int l), (2, .int yy), (3, .int ya), (4, .int yt), (5, .int yq), (6, .long (Int64.ofNat 0)), (8, .long (Int64.ofNat 0)), (10, .int 0), (11, .long (Int64.ofNat 0)), (13, .int 0)] [] yA yQ) :
    Pa N 240 0 [(0, .ref 69), (1, .int l), (2, .int yy), (3, .int ya), (4, .int yt), (5, .int yq)] [] yA yQ := by
  refine Pa.mp 1 (pc' := 1) (l' := [(0, .ref 69), (1, .int l), (2, .int yy), (3, .int ya), (4, .int yt), (5, .int yq)]) (st' := [.int l]) (by rfl) ?_
  refine Pa.ist (by rfl) (by rfl) (.inl rfl) (by rfl) (by rfl) ?_
  show Pa N 154 0 [(0, .int l)] [] yA _
  refine Pa.mp 1 (pc' := 1) (l' := [(0, .int l)]) (st' := [.int l]) (by rfl) ?_
  refine Pa.ic (x := 0) (pc' := 2) (by rfl) (by rfl) (by decide) ?_
  refine Pa.ic (x := 5) (pc' := 3) (by rfl) (by rfl) (by decide) ?_
  refine Pa.ist (by rfl) (by rfl) (.inl rfl) (by rfl) (by rfl) ?_
  show Pa N 152 0 [(0, .int l), (1, .int 0), (2, .int 5)] [] yA _
  refine Pa.mp 2 (pc' := 2) (l' := [(0, .int l), (1, .int 0), (2, .int 5)]) (st' := [.int 0, .int l]) (by rfl) ?_
  refine Pa.if2 (a := l.toInt) (b := 0) (t := 14) (by rfl) (by rfl) (rfl) (by decide) (fun h1 => ?_) (fun h2 => ?_)
  · have h1 : l.toInt < 0 := h1
    refine Pa.ic (x := 0) (pc' := 15) (by rfl) (by rfl) (by decide) ?_
    refine Pa.iret (by rfl) ?_
    show Pa N 154 6 [(0, .int l)] [.int 0] yA _
    refine Pa.iret (by rfl) ?_
    show Pa N 240 4 [(0, .ref 69), (1, .int l), (2, .int yy), (3, .int ya), (4, .int yt), (5, .int yq)] [.int 0] yA _
    refine Pa.if1k true (by rfl) (by rfl) (by decide) ?_
    show Pa N 240 59 [(0, .ref 69), (1, .int l), (2, .int yy), (3, .int ya), (4, .int yt), (5, .int yq)] [] yA _
    refine Pa.icl (x := (-2000000000)) (pc' := 62) (by rfl) (fun _ _ _ => by rfl) (by decide) ?_
    refine Pa.iret (by rfl) ?_
    exact l1 h1
  · have h2 : 0 ≤ l.toInt := h2
    refine Pa.mp 2 (pc' := 7) (l' := [(0, .int l), (1, .int 0), (2, .int 5)]) (st' := [.int 5, .int l]) (by rfl) ?_
    refine Pa.if2 (a := l.toInt) (b := 5) (t := 14) (by rfl) (by rfl) (rfl) (by decide) (fun h3 => ?_) (fun h4 => ?_)
    · have h3 : 5 < l.toInt := h3
      refine Pa.ic (x := 0) (pc' := 15) (by rfl) (by rfl) (by decide) ?_
      refine Pa.iret (by rfl) ?_
      show Pa N 154 6 [(0, .int l)] [.int 0] yA _
      refine Pa.iret (by rfl) ?_
      show Pa N 240 4 [(0, .ref 69), (1, .int l), (2, .int yy), (3, .int ya), (4, .int yt), (5, .int yq)] [.int 0] yA _
      refine Pa.if1k true (by rfl) (by rfl) (by decide) ?_
      show Pa N 240 59 [(0, .ref 69), (1, .int l), (2, .int yy), (3, .int ya), (4, .int yt), (5, .int yq)] [] yA _
      refine Pa.icl (x := (-2000000000)) (pc' := 62) (by rfl) (fun _ _ _ => by rfl) (by decide) ?_
      refine Pa.iret (by rfl) ?_
      exact l2 h2 h3
    · have h4 : l.toInt ≤ 5 := h4
      refine Pa.ic (x := 1) (pc' := 11) (by rfl) (by rfl) (by decide) ?_
      refine Pa.mp 1 (pc' := 15) (l' := [(0, .int l), (1, .int 0), (2, .int 5)]) (st' := [.int 1]) (by rfl) ?_
      refine Pa.iret (by rfl) ?_
      show Pa N 154 6 [(0, .int l)] [.int 1] yA _
      refine Pa.iret (by rfl) ?_
      show Pa N 240 4 [(0, .ref 69), (1, .int l), (2, .int yy), (3, .int ya), (4, .int yt), (5, .int yq)] [.int 1] yA _
      refine Pa.if1k false (by rfl) (by rfl) (by decide) ?_
      show Pa N 240 7 [(0, .ref 69), (1, .int l), (2, .int yy), (3, .int ya), (4, .int yt), (5, .int yq)] [] yA _
      refine Pa.mp 1 (pc' := 8) (l' := [(0, .ref 69), (1, .int l), (2, .int yy), (3, .int ya), (4, .int yt), (5, .int yq)]) (st' := [.int yy]) (by rfl) ?_
      refine Pa.ist (by rfl) (by rfl) (.inl rfl) (by rfl) (by rfl) ?_
      show Pa N 155 0 [(0, .int yy)] [] yA _
      refine Pa.mp 1 (pc' := 1) (l' := [(0, .int yy)]) (st' := [.int yy]) (by rfl) ?_
      refine Pa.ic (x := 0) (pc' := 2) (by rfl) (by rfl) (by decide) ?_
      refine Pa.ic (x := 9) (pc' := 4) (by rfl) (by rfl) (by decide) ?_
      refine Pa.ist (by rfl) (by rfl) (.inl rfl) (by rfl) (by rfl) ?_
      show Pa N 152 0 [(0, .int yy), (1, .int 0), (2, .int 9)] [] yA _
      refine Pa.mp 2 (pc' := 2) (l' := [(0, .int yy), (1, .int 0), (2, .int 9)]) (st' := [.int 0, .int yy]) (by rfl) ?_
      refine Pa.if2 (a := yy.toInt) (b := 0) (t := 14) (by rfl) (by rfl) (rfl) (by decide) (fun h5 => ?_) (fun h6 => ?_)
      · have h5 : yy.toInt < 0 := h5
        refine Pa.ic (x := 0) (pc' := 15) (by rfl) (by rfl) (by decide) ?_
        refine Pa.iret (by rfl) ?_
        show Pa N 155 7 [(0, .int yy)] [.int 0] yA _
        refine Pa.iret (by rfl) ?_
        show Pa N 240 11 [(0, .ref 69), (1, .int l), (2, .int yy), (3, .int ya), (4, .int yt), (5, .int yq)] [.int 0] yA _
        refine Pa.if1k true (by rfl) (by rfl) (by decide) ?_
        show Pa N 240 59 [(0, .ref 69), (1, .int l), (2, .int yy), (3, .int ya), (4, .int yt), (5, .int yq)] [] yA _
        refine Pa.icl (x := (-2000000000)) (pc' := 62) (by rfl) (fun _ _ _ => by rfl) (by decide) ?_
        refine Pa.iret (by rfl) ?_
        exact l3 h2 h4 h5
      · have h6 : 0 ≤ yy.toInt := h6
        refine Pa.mp 2 (pc' := 7) (l' := [(0, .int yy), (1, .int 0), (2, .int 9)]) (st' := [.int 9, .int yy]) (by rfl) ?_
        refine Pa.if2 (a := yy.toInt) (b := 9) (t := 14) (by rfl) (by rfl) (rfl) (by decide) (fun h7 => ?_) (fun h8 => ?_)
        · have h7 : 9 < yy.toInt := h7
          refine Pa.ic (x := 0) (pc' := 15) (by rfl) (by rfl) (by decide) ?_
          refine Pa.iret (by rfl) ?_
          show Pa N 155 7 [(0, .int yy)] [.int 0] yA _
          refine Pa.iret (by rfl) ?_
          show Pa N 240 11 [(0, .ref 69), (1, .int l), (2, .int yy), (3, .int ya), (4, .int yt), (5, .int yq)] [.int 0] yA _
          refine Pa.if1k true (by rfl) (by rfl) (by decide) ?_
          show Pa N 240 59 [(0, .ref 69), (1, .int l), (2, .int yy), (3, .int ya), (4, .int yt), (5, .int yq)] [] yA _
          refine Pa.icl (x := (-2000000000)) (pc' := 62) (by rfl) (fun _ _ _ => by rfl) (by decide) ?_
          refine Pa.iret (by rfl) ?_
          exact l4 h2 h4 h6 h7
        · have h8 : yy.toInt ≤ 9 := h8
          refine Pa.ic (x := 1) (pc' := 11) (by rfl) (by rfl) (by decide) ?_
          refine Pa.mp 1 (pc' := 15) (l' := [(0, .int yy), (1, .int 0), (2, .int 9)]) (st' := [.int 1]) (by rfl) ?_
          refine Pa.iret (by rfl) ?_
          show Pa N 155 7 [(0, .int yy)] [.int 1] yA _
          refine Pa.iret (by rfl) ?_
          show Pa N 240 11 [(0, .ref 69), (1, .int l), (2, .int yy), (3, .int ya), (4, .int yt), (5, .int yq)] [.int 1] yA _
          refine Pa.if1k false (by rfl) (by rfl) (by decide) ?_
          show Pa N 240 14 [(0, .ref 69), (1, .int l), (2, .int yy), (3, .int ya), (4, .int yt), (5, .int yq)] [] yA _
          refine Pa.mp 1 (pc' := 15) (l' := [(0, .ref 69), (1, .int l), (2, .int yy), (3, .int ya), (4, .int yt), (5, .int yq)]) (st' := [.int ya]) (by rfl) ?_
          refine Pa.if1 (a := ya.toInt) (t := 59) (by rfl) (by rfl) (rfl) (fun h9 => ?_) (fun h10 => ?_)
          · have h9 : ya.toInt < 0 := h9
            refine Pa.icl (x := (-2000000000)) (pc' := 62) (by rfl) (fun _ _ _ => by rfl) (by decide) ?_
            refine Pa.iret (by rfl) ?_
            exact l5 h2 h4 h6 h8 h9
          · have h10 : 0 ≤ ya.toInt := h10
            refine Pa.mp 1 (pc' := 19) (l' := [(0, .ref 69), (1, .int l), (2, .int yy), (3, .int ya), (4, .int yt), (5, .int yq)]) (st' := [.int ya]) (by rfl) ?_
            refine Pa.ic (x := 1000) (pc' := 22) (by rfl) (by rfl) (by decide) ?_
            refine Pa.idiv (by rfl) ?_
            refine Pa.ic (x := 100) (pc' := 25) (by rfl) (by rfl) (by decide) ?_
            refine Pa.if2 (a := (ya / 1000).toInt) (b := 100) (t := 59) (by rfl) (by rfl) (rfl) (by decide) (fun h11 => ?_) (fun h12 => ?_)
            · have h11 : 100 < (ya / 1000).toInt := h11
              refine Pa.icl (x := (-2000000000)) (pc' := 62) (by rfl) (fun _ _ _ => by rfl) (by decide) ?_
              refine Pa.iret (by rfl) ?_
              exact l6 h2 h4 h6 h8 h10 h11
            · have h12 : (ya / 1000).toInt ≤ 100 := h12
              refine Pa.mp 1 (pc' := 29) (l' := [(0, .ref 69), (1, .int l), (2, .int yy), (3, .int ya), (4, .int yt), (5, .int yq)]) (st' := [.int ya]) (by rfl) ?_
              refine Pa.ic (x := 1000) (pc' := 32) (by rfl) (by rfl) (by decide) ?_
              refine Pa.irem (by rfl) ?_
              refine Pa.ic (x := 100) (pc' := 35) (by rfl) (by rfl) (by decide) ?_
              refine Pa.if2 (a := (ya - ya / 1000 * 1000).toInt) (b := 100) (t := 59) (by rfl) (by rfl) (rfl) (by decide) (fun h13 => ?_) (fun h14 => ?_)
              · have h13 : 100 < (ya - ya / 1000 * 1000).toInt := h13
                refine Pa.icl (x := (-2000000000)) (pc' := 62) (by rfl) (fun _ _ _ => by rfl) (by decide) ?_
                refine Pa.iret (by rfl) ?_
                exact l7 h2 h4 h6 h8 h10 h12 h13
              · have h14 : (ya - ya / 1000 * 1000).toInt ≤ 100 := h14
                refine Pa.mp 1 (pc' := 40) (l' := [(0, .ref 69), (1, .int l), (2, .int yy), (3, .int ya), (4, .int yt), (5, .int yq)]) (st' := [.int yt]) (by rfl) ?_
                refine Pa.ic (x := 0) (pc' := 41) (by rfl) (by rfl) (by decide) ?_
                refine Pa.ic (x := 100) (pc' := 43) (by rfl) (by rfl) (by decide) ?_
                refine Pa.ist (by rfl) (by rfl) (.inl rfl) (by rfl) (by rfl) ?_
                show Pa N 152 0 [(0, .int yt), (1, .int 0), (2, .int 100)] [] yA _
                refine Pa.mp 2 (pc' := 2) (l' := [(0, .int yt), (1, .int 0), (2, .int 100)]) (st' := [.int 0, .int yt]) (by rfl) ?_
                refine Pa.if2 (a := yt.toInt) (b := 0) (t := 14) (by rfl) (by rfl) (rfl) (by decide) (fun h15 => ?_) (fun yh16 => ?_)
                · have h15 : yt.toInt < 0 := h15
                  refine Pa.ic (x := 0) (pc' := 15) (by rfl) (by rfl) (by decide) ?_
                  refine Pa.iret (by rfl) ?_
                  show Pa N 240 46 [(0, .ref 69), (1, .int l), (2, .int yy), (3, .int ya), (4, .int yt), (5, .int yq)] [.int 0] yA _
                  refine Pa.if1k true (by rfl) (by rfl) (by decide) ?_
                  show Pa N 240 59 [(0, .ref 69), (1, .int l), (2, .int yy), (3, .int ya), (4, .int yt), (5, .int yq)] [] yA _
                  refine Pa.icl (x := (-2000000000)) (pc' := 62) (by rfl) (fun _ _ _ => by rfl) (by decide) ?_
                  refine Pa.iret (by rfl) ?_
                  exact l8 h2 h4 h6 h8 h10 h12 h14 h15
                · have yh16 : 0 ≤ yt.toInt := yh16
                  refine Pa.mp 2 (pc' := 7) (l' := [(0, .int yt), (1, .int 0), (2, .int 100)]) (st' := [.int 100, .int yt]) (by rfl) ?_
                  refine Pa.if2 (a := yt.toInt) (b := 100) (t := 14) (by rfl) (by rfl) (rfl) (by decide) (fun h17 => ?_) (fun h18 => ?_)
                  · have h17 : 100 < yt.toInt := h17
                    refine Pa.ic (x := 0) (pc' := 15) (by rfl) (by rfl) (by decide) ?_
                    refine Pa.iret (by rfl) ?_
                    show Pa N 240 46 [(0, .ref 69), (1, .int l), (2, .int yy), (3, .int ya), (4, .int yt), (5, .int yq)] [.int 0] yA _
                    refine Pa.if1k true (by rfl) (by rfl) (by decide) ?_
                    show Pa N 240 59 [(0, .ref 69), (1, .int l), (2, .int yy), (3, .int ya), (4, .int yt), (5, .int yq)] [] yA _
                    refine Pa.icl (x := (-2000000000)) (pc' := 62) (by rfl) (fun _ _ _ => by rfl) (by decide) ?_
                    refine Pa.iret (by rfl) ?_
                    exact l9 h2 h4 h6 h8 h10 h12 h14 yh16 h17
                  · have h18 : yt.toInt ≤ 100 := h18
                    refine Pa.ic (x := 1) (pc' := 11) (by rfl) (by rfl) (by decide) ?_
                    refine Pa.mp 1 (pc' := 15) (l' := [(0, .int yt), (1, .int 0), (2, .int 100)]) (st' := [.int 1]) (by rfl) ?_
                    refine Pa.iret (by rfl) ?_
                    show Pa N 240 46 [(0, .ref 69), (1, .int l), (2, .int yy), (3, .int ya), (4, .int yt), (5, .int yq)] [.int 1] yA _
                    refine Pa.if1k false (by rfl) (by rfl) (by decide) ?_
                    show Pa N 240 49 [(0, .ref 69), (1, .int l), (2, .int yy), (3, .int ya), (4, .int yt), (5, .int yq)] [] yA _
                    refine Pa.mp 1 (pc' := 51) (l' := [(0, .ref 69), (1, .int l), (2, .int yy), (3, .int ya), (4, .int yt), (5, .int yq)]) (st' := [.int yq]) (by rfl) ?_
                    refine Pa.ic (x := 0) (pc' := 52) (by rfl) (by rfl) (by decide) ?_
                    refine Pa.ic (x := 1) (pc' := 53) (by rfl) (by rfl) (by decide) ?_
                    refine Pa.ist (by rfl) (by rfl) (.inl rfl) (by rfl) (by rfl) ?_
                    show Pa N 152 0 [(0, .int yq), (1, .int 0), (2, .int 1)] [] yA _
                    refine Pa.mp 2 (pc' := 2) (l' := [(0, .int yq), (1, .int 0), (2, .int 1)]) (st' := [.int 0, .int yq]) (by rfl) ?_
                    refine Pa.if2 (a := yq.toInt) (b := 0) (t := 14) (by rfl) (by rfl) (rfl) (by decide) (fun h19 => ?_) (fun h20 => ?_)
                    · have h19 : yq.toInt < 0 := h19
                      refine Pa.ic (x := 0) (pc' := 15) (by rfl) (by rfl) (by decide) ?_
                      refine Pa.iret (by rfl) ?_
                      show Pa N 240 56 [(0, .ref 69), (1, .int l), (2, .int yy), (3, .int ya), (4, .int yt), (5, .int yq)] [.int 0] yA _
                      refine Pa.if1k false (by rfl) (by rfl) (by decide) ?_
                      show Pa N 240 59 [(0, .ref 69), (1, .int l), (2, .int yy), (3, .int ya), (4, .int yt), (5, .int yq)] [] yA _
                      refine Pa.icl (x := (-2000000000)) (pc' := 62) (by rfl) (fun _ _ _ => by rfl) (by decide) ?_
                      refine Pa.iret (by rfl) ?_
                      exact l10 h2 h4 h6 h8 h10 h12 h14 yh16 h18 h19
                    · have h20 : 0 ≤ yq.toInt := h20
                      refine Pa.mp 2 (pc' := 7) (l' := [(0, .int yq), (1, .int 0), (2, .int 1)]) (st' := [.int 1, .int yq]) (by rfl) ?_
                      refine Pa.if2 (a := yq.toInt) (b := 1) (t := 14) (by rfl) (by rfl) (rfl) (by decide) (fun h21 => ?_) (fun h22 => ?_)
                      · have h21 : 1 < yq.toInt := h21
                        refine Pa.ic (x := 0) (pc' := 15) (by rfl) (by rfl) (by decide) ?_
                        refine Pa.iret (by rfl) ?_
                        show Pa N 240 56 [(0, .ref 69), (1, .int l), (2, .int yy), (3, .int ya), (4, .int yt), (5, .int yq)] [.int 0] yA _
                        refine Pa.if1k false (by rfl) (by rfl) (by decide) ?_
                        show Pa N 240 59 [(0, .ref 69), (1, .int l), (2, .int yy), (3, .int ya), (4, .int yt), (5, .int yq)] [] yA _
                        refine Pa.icl (x := (-2000000000)) (pc' := 62) (by rfl) (fun _ _ _ => by rfl) (by decide) ?_
                        refine Pa.iret (by rfl) ?_
                        exact l11 h2 h4 h6 h8 h10 h12 h14 yh16 h18 h20 h21
                      · have h22 : yq.toInt ≤ 1 := h22
                        refine Pa.ic (x := 1) (pc' := 11) (by rfl) (by rfl) (by decide) ?_
                        refine Pa.mp 1 (pc' := 15) (l' := [(0, .int yq), (1, .int 0), (2, .int 1)]) (st' := [.int 1]) (by rfl) ?_
                        refine Pa.iret (by rfl) ?_
                        show Pa N 240 56 [(0, .ref 69), (1, .int l), (2, .int yy), (3, .int ya), (4, .int yt), (5, .int yq)] [.int 1] yA _
                        refine Pa.if1k true (by rfl) (by rfl) (by decide) ?_
                        show Pa N 240 63 [(0, .ref 69), (1, .int l), (2, .int yy), (3, .int ya), (4, .int yt), (5, .int yq)] [] yA _
                        refine Pa.mp 4 (pc' := 69) (l' := [(8, .long (Int64.ofNat 0)), (6, .long (Int64.ofNat 0)), (0, .ref 69), (1, .int l), (2, .int yy), (3, .int ya), (4, .int yt), (5, .int yq)]) (st' := []) (by rfl) ?_
                        refine Pa.ic (x := 0) (pc' := 70) (by rfl) (by rfl) (by decide) ?_
                        refine Pa.mp 1 (pc' := 72) (l' := [(10, .int 0), (8, .long (Int64.ofNat 0)), (6, .long (Int64.ofNat 0)), (0, .ref 69), (1, .int l), (2, .int yy), (3, .int ya), (4, .int yt), (5, .int yq)]) (st' := []) (by rfl) ?_
                        refine Pa.lv (l' := [(0, .ref 69), (1, .int l), (2, .int yy), (3, .int ya), (4, .int yt), (5, .int yq), (6, .long (Int64.ofNat 0)), (8, .long (Int64.ofNat 0)), (10, .int 0), (11, .long (Int64.ofNat 0)), (13, .int 0)]) (lvS_c rfl (lvS_c rfl (lvS_c rfl (lvS_c rfl (lvS_c rfl (lvS_c rfl (lvS_c rfl (lvS_c rfl (lvS_c rfl (lvS_nil)))))))))) rfl ?_
                        exact l12 h2 h4 h6 h8 h10 h12 h14 yh16 h18 h20 h22

theorem bm_gn1 {N : Nat} {yA : AW} {yQ : Option Value → AW → Prop} (l yy ya yt yq yf yc : Int32) (ys yb yw : Int64)
    (l1 : (yA.1 69 11).toInt ≤ yf.toInt → (lg_cmp ys 1999999999).toInt ≤ 0 → yq.toInt ≠ 0 → yQ (some (.int ((((((ys * ((ya - ya / 1000 * 1000).toInt64)) / 100) * yt.toInt64) / 100) - yb).toInt32))) yA)
    (l2 : (yA.1 69 11).toInt ≤ yf.toInt → (lg_cmp ys 1999999999).toInt ≤ 0 → yq.toInt = 0 → yQ (some (.int ((((((ys * ((ya / 1000).toInt64)) / 100) * yt.toInt64) / 100) - yb).toInt32))) yA)
    (l3 : (yA.1 69 11).toInt ≤ yf.toInt → 0 < (lg_cmp ys 1999999999).toInt → yq.toInt ≠ 0 → yQ (some (.int ((((((1999999999 * ((ya - ya / 1000 * 1000).toInt64)) / 100) * yt.toInt64) / 100) - yb).toInt32))) yA)
    (l4 : (yA.1 69 11).toInt ≤ yf.toInt → 0 < (lg_cmp ys 1999999999).toInt → yq.toInt = 0 → yQ (some (.int ((((((1999999999 * ((ya / 1000).toInt64)) / 100) * yt.toInt64) / 100) - yb).toInt32))) yA)
    (l5 : yf.toInt < (yA.1 69 11).toInt → Pa N 240 87 [(0, .ref 69), (1, .int l), (2, .int yy), (3, .int ya), (4, .int yt), (5, .int yq), (6, .long ys), (8, .long yb), (10, .int yf), (11, .long (Int64.ofNat 0)), (13, .int 0)] [] yA yQ) :
    Pa (N + 1) 240 72 [(0, .ref 69), (1, .int l), (2, .int yy), (3, .int ya), (4, .int yt), (5, .int yq), (6, .long ys), (8, .long yb), (10, .int yf), (11, .long yw), (13, .int yc)] [] yA yQ := by
  refine Pa.mp1 1 (pc' := 75) (l' := [(0, .ref 69), (1, .int l), (2, .int yy), (3, .int ya), (4, .int yt), (5, .int yq), (6, .long ys), (8, .long yb), (10, .int yf), (11, .long yw), (13, .int yc)]) (st' := [.ref 69, .int yf]) (by rfl) ?_
  refine Pa.gfI (v := yA.1 69 11) (by rfl) (by rfl) (.inl rfl) (by rfl) (by rfl) ?_
  refine Pa.if2 (a := yf.toInt) (b := (yA.1 69 11).toInt) (t := 228) (by rfl) (by rfl) (rfl) (rfl) (fun h1 => ?_) (fun h2 => ?_)
  · have h1 : (yA.1 69 11).toInt ≤ yf.toInt := h1
    refine Pa.mp 1 (pc' := 230) (l' := [(0, .ref 69), (1, .int l), (2, .int yy), (3, .int ya), (4, .int yt), (5, .int yq), (6, .long ys), (8, .long yb), (10, .int yf), (11, .long yw), (13, .int yc)]) (st' := [.long ys]) (by rfl) ?_
    refine Pa.jcl (x := 1999999999) (pc' := 233) (by rfl) (fun _ _ _ => by rfl) (by decide) ?_
    refine Pa.mp 1 (pc' := 234) (l' := [(0, .ref 69), (1, .int l), (2, .int yy), (3, .int ya), (4, .int yt), (5, .int yq), (6, .long ys), (8, .long yb), (10, .int yf), (11, .long yw), (13, .int yc)]) (st' := [.int (lg_cmp ys 1999999999)]) (by rfl) ?_
    refine Pa.if1 (a := (lg_cmp ys 1999999999).toInt) (t := 243) (by rfl) (by rfl) (rfl) (fun h3 => ?_) (fun h4 => ?_)
    · have h3 : (lg_cmp ys 1999999999).toInt ≤ 0 := h3
      refine Pa.mp 3 (pc' := 249) (l' := [(6, .long ys), (0, .ref 69), (1, .int l), (2, .int yy), (3, .int ya), (4, .int yt), (5, .int yq), (8, .long yb), (10, .int yf), (11, .long yw), (13, .int yc)]) (st' := [.int yq]) (by rfl) ?_
      refine Pa.if1 (a := yq.toInt) (t := 260) (by rfl) (by rfl) (rfl) (fun h5 => ?_) (fun h6 => ?_)
      · have h5 : yq.toInt ≠ 0 := h5
        refine Pa.mp 1 (pc' := 261) (l' := [(6, .long ys), (0, .ref 69), (1, .int l), (2, .int yy), (3, .int ya), (4, .int yt), (5, .int yq), (8, .long yb), (10, .int yf), (11, .long yw), (13, .int yc)]) (st' := [.int ya]) (by rfl) ?_
        refine Pa.ic (x := 1000) (pc' := 264) (by rfl) (by rfl) (by decide) ?_
        refine Pa.irem (by rfl) ?_
        refine Pa.mp 5 (pc' := 273) (l' := [(10, .int (ya - ya / 1000 * 1000)), (6, .long ys), (0, .ref 69), (1, .int l), (2, .int yy), (3, .int ya), (4, .int yt), (5, .int yq), (8, .long yb), (11, .long yw), (13, .int yc)]) (st' := [.long (ys * ((ya - ya / 1000 * 1000).toInt64))]) (by rfl) ?_
        refine Pa.jcl (x := 100) (pc' := 276) (by rfl) (fun _ _ _ => by rfl) (by decide) ?_
        refine Pa.ldiv (by rfl) ?_
        refine Pa.mp 3 (pc' := 281) (l' := [(10, .int (ya - ya / 1000 * 1000)), (6, .long ys), (0, .ref 69), (1, .int l), (2, .int yy), (3, .int ya), (4, .int yt), (5, .int yq), (8, .long yb), (11, .long yw), (13, .int yc)]) (st' := [.long (((ys * ((ya - ya / 1000 * 1000).toInt64)) / 100) * yt.toInt64)]) (by rfl) ?_
        refine Pa.jcl (x := 100) (pc' := 284) (by rfl) (fun _ _ _ => by rfl) (by decide) ?_
        refine Pa.ldiv (by rfl) ?_
        refine Pa.mp 3 (pc' := 289) (l' := [(10, .int (ya - ya / 1000 * 1000)), (6, .long ys), (0, .ref 69), (1, .int l), (2, .int yy), (3, .int ya), (4, .int yt), (5, .int yq), (8, .long yb), (11, .long yw), (13, .int yc)]) (st' := [.int ((((((ys * ((ya - ya / 1000 * 1000).toInt64)) / 100) * yt.toInt64) / 100) - yb).toInt32)]) (by rfl) ?_
        refine Pa.iret (by rfl) ?_
        exact l1 h1 h3 h5
      · have h6 : yq.toInt = 0 := h6
        refine Pa.mp 1 (pc' := 253) (l' := [(6, .long ys), (0, .ref 69), (1, .int l), (2, .int yy), (3, .int ya), (4, .int yt), (5, .int yq), (8, .long yb), (10, .int yf), (11, .long yw), (13, .int yc)]) (st' := [.int ya]) (by rfl) ?_
        refine Pa.ic (x := 1000) (pc' := 256) (by rfl) (by rfl) (by decide) ?_
        refine Pa.idiv (by rfl) ?_
        refine Pa.mp 6 (pc' := 273) (l' := [(10, .int (ya / 1000)), (6, .long ys), (0, .ref 69), (1, .int l), (2, .int yy), (3, .int ya), (4, .int yt), (5, .int yq), (8, .long yb), (11, .long yw), (13, .int yc)]) (st' := [.long (ys * ((ya / 1000).toInt64))]) (by rfl) ?_
        refine Pa.jcl (x := 100) (pc' := 276) (by rfl) (fun _ _ _ => by rfl) (by decide) ?_
        refine Pa.ldiv (by rfl) ?_
        refine Pa.mp 3 (pc' := 281) (l' := [(10, .int (ya / 1000)), (6, .long ys), (0, .ref 69), (1, .int l), (2, .int yy), (3, .int ya), (4, .int yt), (5, .int yq), (8, .long yb), (11, .long yw), (13, .int yc)]) (st' := [.long (((ys * ((ya / 1000).toInt64)) / 100) * yt.toInt64)]) (by rfl) ?_
        refine Pa.jcl (x := 100) (pc' := 284) (by rfl) (fun _ _ _ => by rfl) (by decide) ?_
        refine Pa.ldiv (by rfl) ?_
        refine Pa.mp 3 (pc' := 289) (l' := [(10, .int (ya / 1000)), (6, .long ys), (0, .ref 69), (1, .int l), (2, .int yy), (3, .int ya), (4, .int yt), (5, .int yq), (8, .long yb), (11, .long yw), (13, .int yc)]) (st' := [.int ((((((ys * ((ya / 1000).toInt64)) / 100) * yt.toInt64) / 100) - yb).toInt32)]) (by rfl) ?_
        refine Pa.iret (by rfl) ?_
        exact l2 h1 h3 h6
    · have h4 : 0 < (lg_cmp ys 1999999999).toInt := h4
      refine Pa.jcl (x := 1999999999) (pc' := 240) (by rfl) (fun _ _ _ => by rfl) (by decide) ?_
      refine Pa.mp 3 (pc' := 249) (l' := [(6, .long 1999999999), (0, .ref 69), (1, .int l), (2, .int yy), (3, .int ya), (4, .int yt), (5, .int yq), (8, .long yb), (10, .int yf), (11, .long yw), (13, .int yc)]) (st' := [.int yq]) (by rfl) ?_
      refine Pa.if1 (a := yq.toInt) (t := 260) (by rfl) (by rfl) (rfl) (fun h7 => ?_) (fun h8 => ?_)
      · have h7 : yq.toInt ≠ 0 := h7
        refine Pa.mp 1 (pc' := 261) (l' := [(6, .long 1999999999), (0, .ref 69), (1, .int l), (2, .int yy), (3, .int ya), (4, .int yt), (5, .int yq), (8, .long yb), (10, .int yf), (11, .long yw), (13, .int yc)]) (st' := [.int ya]) (by rfl) ?_
        refine Pa.ic (x := 1000) (pc' := 264) (by rfl) (by rfl) (by decide) ?_
        refine Pa.irem (by rfl) ?_
        refine Pa.mp 5 (pc' := 273) (l' := [(10, .int (ya - ya / 1000 * 1000)), (6, .long 1999999999), (0, .ref 69), (1, .int l), (2, .int yy), (3, .int ya), (4, .int yt), (5, .int yq), (8, .long yb), (11, .long yw), (13, .int yc)]) (st' := [.long (1999999999 * ((ya - ya / 1000 * 1000).toInt64))]) (by rfl) ?_
        refine Pa.jcl (x := 100) (pc' := 276) (by rfl) (fun _ _ _ => by rfl) (by decide) ?_
        refine Pa.ldiv (by rfl) ?_
        refine Pa.mp 3 (pc' := 281) (l' := [(10, .int (ya - ya / 1000 * 1000)), (6, .long 1999999999), (0, .ref 69), (1, .int l), (2, .int yy), (3, .int ya), (4, .int yt), (5, .int yq), (8, .long yb), (11, .long yw), (13, .int yc)]) (st' := [.long (((1999999999 * ((ya - ya / 1000 * 1000).toInt64)) / 100) * yt.toInt64)]) (by rfl) ?_
        refine Pa.jcl (x := 100) (pc' := 284) (by rfl) (fun _ _ _ => by rfl) (by decide) ?_
        refine Pa.ldiv (by rfl) ?_
        refine Pa.mp 3 (pc' := 289) (l' := [(10, .int (ya - ya / 1000 * 1000)), (6, .long 1999999999), (0, .ref 69), (1, .int l), (2, .int yy), (3, .int ya), (4, .int yt), (5, .int yq), (8, .long yb), (11, .long yw), (13, .int yc)]) (st' := [.int ((((((1999999999 * ((ya - ya / 1000 * 1000).toInt64)) / 100) * yt.toInt64) / 100) - yb).toInt32)]) (by rfl) ?_
        refine Pa.iret (by rfl) ?_
        exact l3 h1 h4 h7
      · have h8 : yq.toInt = 0 := h8
        refine Pa.mp 1 (pc' := 253) (l' := [(6, .long 1999999999), (0, .ref 69), (1, .int l), (2, .int yy), (3, .int ya), (4, .int yt), (5, .int yq), (8, .long yb), (10, .int yf), (11, .long yw), (13, .int yc)]) (st' := [.int ya]) (by rfl) ?_
        refine Pa.ic (x := 1000) (pc' := 256) (by rfl) (by rfl) (by decide) ?_
        refine Pa.idiv (by rfl) ?_
        refine Pa.mp 6 (pc' := 273) (l' := [(10, .int (ya / 1000)), (6, .long 1999999999), (0, .ref 69), (1, .int l), (2, .int yy), (3, .int ya), (4, .int yt), (5, .int yq), (8, .long yb), (11, .long yw), (13, .int yc)]) (st' := [.long (1999999999 * ((ya / 1000).toInt64))]) (by rfl) ?_
        refine Pa.jcl (x := 100) (pc' := 276) (by rfl) (fun _ _ _ => by rfl) (by decide) ?_
        refine Pa.ldiv (by rfl) ?_
        refine Pa.mp 3 (pc' := 281) (l' := [(10, .int (ya / 1000)), (6, .long 1999999999), (0, .ref 69), (1, .int l), (2, .int yy), (3, .int ya), (4, .int yt), (5, .int yq), (8, .long yb), (11, .long yw), (13, .int yc)]) (st' := [.long (((1999999999 * ((ya / 1000).toInt64)) / 100) * yt.toInt64)]) (by rfl) ?_
        refine Pa.jcl (x := 100) (pc' := 284) (by rfl) (fun _ _ _ => by rfl) (by decide) ?_
        refine Pa.ldiv (by rfl) ?_
        refine Pa.mp 3 (pc' := 289) (l' := [(10, .int (ya / 1000)), (6, .long 1999999999), (0, .ref 69), (1, .int l), (2, .int yy), (3, .int ya), (4, .int yt), (5, .int yq), (8, .long yb), (11, .long yw), (13, .int yc)]) (st' := [.int ((((((1999999999 * ((ya / 1000).toInt64)) / 100) * yt.toInt64) / 100) - yb).toInt32)]) (by rfl) ?_
        refine Pa.iret (by rfl) ?_
        exact l4 h1 h4 h8
  · have h2 : yf.toInt < (yA.1 69 11).toInt := h2
    refine Pa.mp 2 (pc' := 84) (l' := [(11, .long (Int64.ofNat 0)), (0, .ref 69), (1, .int l), (2, .int yy), (3, .int ya), (4, .int yt), (5, .int yq), (6, .long ys), (8, .long yb), (10, .int yf), (13, .int yc)]) (st' := []) (by rfl) ?_
    refine Pa.ic (x := 0) (pc' := 85) (by rfl) (by rfl) (by decide) ?_
    refine Pa.mp 1 (pc' := 87) (l' := [(13, .int 0), (11, .long (Int64.ofNat 0)), (0, .ref 69), (1, .int l), (2, .int yy), (3, .int ya), (4, .int yt), (5, .int yq), (6, .long ys), (8, .long yb), (10, .int yf)]) (st' := []) (by rfl) ?_
    refine Pa.lv (l' := [(0, .ref 69), (1, .int l), (2, .int yy), (3, .int ya), (4, .int yt), (5, .int yq), (6, .long ys), (8, .long yb), (10, .int yf), (11, .long (Int64.ofNat 0)), (13, .int 0)]) (lvS_c rfl (lvS_c rfl (lvS_c rfl (lvS_c rfl (lvS_c rfl (lvS_c rfl (lvS_c rfl (lvS_c rfl (lvS_c rfl (lvS_c rfl (lvS_c rfl (lvS_nil)))))))))))) rfl ?_
    exact l5 h2

theorem bm_gn2 {N : Nat} {yA : AW} {yQ : Option Value → AW → Prop} (l yy ya yt yq yf yc : Int32) (ys yb yw : Int64)
    (l1 : (yA.1 69 31).toInt ≤ yc.toInt → (lg_cmp yw 1999999999).toInt ≤ 0 → Pa N 211 0 [(0, .ref 69), (1, .int l), (2, .int yf), (3, .int (((360 * yy) + 360) - 1)), (4, .int (yA.1 69 0)), (5, .int 1)] [] yA (fun yu A1 => Pa N 240 213 [(0, .ref 69), (1, .int l), (2, .int yy), (3, .int ya), (4, .int yt), (5, .int yq), (6, .long (ys + yw)), (8, .long yb), (10, .int yf), (11, .long yw), (13, .int yc)] (yu.toList ++ [.long yw, .long yb]) A1 yQ))
    (l2 : (yA.1 69 31).toInt ≤ yc.toInt → 0 < (lg_cmp yw 1999999999).toInt → Pa N 211 0 [(0, .ref 69), (1, .int l), (2, .int yf), (3, .int (((360 * yy) + 360) - 1)), (4, .int (yA.1 69 0)), (5, .int 1)] [] yA (fun yu A1 => Pa N 240 213 [(0, .ref 69), (1, .int l), (2, .int yy), (3, .int ya), (4, .int yt), (5, .int yq), (6, .long (ys + 1999999999)), (8, .long yb), (10, .int yf), (11, .long 1999999999), (13, .int yc)] (yu.toList ++ [.long 1999999999, .long yb]) A1 yQ))
    (l3 : yc.toInt < (yA.1 69 31).toInt → (ocM yA yc 0).toInt ≠ yf.toInt → Pa N 240 87 [(0, .ref 69), (1, .int l), (2, .int yy), (3, .int ya), (4, .int yt), (5, .int yq), (6, .long ys), (8, .long yb), (10, .int yf), (11, .long (yw + (Int64.ofNat 0))), (13, .int (yc + 1))] [] yA yQ)
    (l4 : yc.toInt < (yA.1 69 31).toInt → (ocM yA yc 0).toInt = yf.toInt → (ocM yA yc 2).toInt ≠ l.toInt → Pa N 240 87 [(0, .ref 69), (1, .int l), (2, .int yy), (3, .int ya), (4, .int yt), (5, .int yq), (6, .long ys), (8, .long yb), (10, .int yf), (11, .long (yw + (Int64.ofNat 0))), (13, .int (yc + 1))] [] yA yQ)
    (l5 : yc.toInt < (yA.1 69 31).toInt → (ocM yA yc 0).toInt = yf.toInt → (ocM yA yc 2).toInt = l.toInt → ((ocM yA yc 3) / 360).toInt ≠ yy.toInt → Pa N 240 87 [(0, .ref 69), (1, .int l), (2, .int yy), (3, .int ya), (4, .int yt), (5, .int yq), (6, .long ys), (8, .long yb), (10, .int yf), (11, .long (yw + (Int64.ofNat 0))), (13, .int (yc + 1))] [] yA yQ)
    (l6 : yc.toInt < (yA.1 69 31).toInt → (ocM yA yc 0).toInt = yf.toInt → (ocM yA yc 2).toInt = l.toInt → ((ocM yA yc 3) / 360).toInt = yy.toInt → Pa N 215 0 [(0, .ref 69), (1, .int yc), (2, .int (yA.1 69 0))] [] yA (fun yu A1 => Pa N 240 146 [(0, .ref 69), (1, .int l), (2, .int yy), (3, .int ya), (4, .int yt), (5, .int yq), (6, .long ys), (8, .long yb), (10, .int yf), (11, .long yw), (13, .int yc)] (yu.toList ++ [.long yw]) A1 yQ)) :
    Pa (N + 1) 240 87 [(0, .ref 69), (1, .int l), (2, .int yy), (3, .int ya), (4, .int yt), (5, .int yq), (6, .long ys), (8, .long yb), (10, .int yf), (11, .long yw), (13, .int yc)] [] yA yQ := by
  refine Pa.mp1 1 (pc' := 90) (l' := [(0, .ref 69), (1, .int l), (2, .int yy), (3, .int ya), (4, .int yt), (5, .int yq), (6, .long ys), (8, .long yb), (10, .int yf), (11, .long yw), (13, .int yc)]) (st' := [.ref 69, .int yc]) (by rfl) ?_
  refine Pa.gfI (v := yA.1 69 31) (by rfl) (by rfl) (.inl rfl) (by rfl) (by rfl) ?_
  refine Pa.if2 (a := yc.toInt) (b := (yA.1 69 31).toInt) (t := 160) (by rfl) (by rfl) (rfl) (rfl) (fun h1 => ?_) (fun h2 => ?_)
  · have h1 : (yA.1 69 31).toInt ≤ yc.toInt := h1
    refine Pa.mp 1 (pc' := 162) (l' := [(0, .ref 69), (1, .int l), (2, .int yy), (3, .int ya), (4, .int yt), (5, .int yq), (6, .long ys), (8, .long yb), (10, .int yf), (11, .long yw), (13, .int yc)]) (st' := [.long yw]) (by rfl) ?_
    refine Pa.jcl (x := 1999999999) (pc' := 165) (by rfl) (fun _ _ _ => by rfl) (by decide) ?_
    refine Pa.mp 1 (pc' := 166) (l' := [(0, .ref 69), (1, .int l), (2, .int yy), (3, .int ya), (4, .int yt), (5, .int yq), (6, .long ys), (8, .long yb), (10, .int yf), (11, .long yw), (13, .int yc)]) (st' := [.int (lg_cmp yw 1999999999)]) (by rfl) ?_
    refine Pa.if1 (a := (lg_cmp yw 1999999999).toInt) (t := 175) (by rfl) (by rfl) (rfl) (fun h3 => ?_) (fun h4 => ?_)
    · have h3 : (lg_cmp yw 1999999999).toInt ≤ 0 := h3
      refine Pa.mp 11 (pc' := 194) (l' := [(6, .long (ys + yw)), (11, .long yw), (0, .ref 69), (1, .int l), (2, .int yy), (3, .int ya), (4, .int yt), (5, .int yq), (8, .long yb), (10, .int yf), (13, .int yc)]) (st' := [.int yf, .int l, .ref 69, .long yw, .long yb]) (by rfl) ?_
      refine Pa.ic (x := 360) (pc' := 197) (by rfl) (by rfl) (by decide) ?_
      refine Pa.mp 2 (pc' := 199) (l' := [(6, .long (ys + yw)), (11, .long yw), (0, .ref 69), (1, .int l), (2, .int yy), (3, .int ya), (4, .int yt), (5, .int yq), (8, .long yb), (10, .int yf), (13, .int yc)]) (st' := [.int (360 * yy), .int yf, .int l, .ref 69, .long yw, .long yb]) (by rfl) ?_
      refine Pa.ic (x := 360) (pc' := 202) (by rfl) (by rfl) (by decide) ?_
      refine Pa.mp 1 (pc' := 203) (l' := [(6, .long (ys + yw)), (11, .long yw), (0, .ref 69), (1, .int l), (2, .int yy), (3, .int ya), (4, .int yt), (5, .int yq), (8, .long yb), (10, .int yf), (13, .int yc)]) (st' := [.int ((360 * yy) + 360), .int yf, .int l, .ref 69, .long yw, .long yb]) (by rfl) ?_
      refine Pa.ic (x := 1) (pc' := 204) (by rfl) (by rfl) (by decide) ?_
      refine Pa.mp 2 (pc' := 206) (l' := [(6, .long (ys + yw)), (11, .long yw), (0, .ref 69), (1, .int l), (2, .int yy), (3, .int ya), (4, .int yt), (5, .int yq), (8, .long yb), (10, .int yf), (13, .int yc)]) (st' := [.ref 69, .int (((360 * yy) + 360) - 1), .int yf, .int l, .ref 69, .long yw, .long yb]) (by rfl) ?_
      refine Pa.gfI (v := yA.1 69 0) (by rfl) (by rfl) (.inl rfl) (by rfl) (by rfl) ?_
      refine Pa.ic (x := 1) (pc' := 210) (by rfl) (by rfl) (by decide) ?_
      refine Pa.lv (l' := [(0, .ref 69), (1, .int l), (2, .int yy), (3, .int ya), (4, .int yt), (5, .int yq), (6, .long (ys + yw)), (8, .long yb), (10, .int yf), (11, .long yw), (13, .int yc)]) (lvS_c rfl (lvS_c rfl (lvS_c rfl (lvS_c rfl (lvS_c rfl (lvS_c rfl (lvS_c rfl (lvS_c rfl (lvS_c rfl (lvS_c rfl (lvS_c rfl (lvS_nil)))))))))))) rfl ?_
      refine Pa.inv (by rfl) (by rfl) (.inl rfl) (by rfl) ?_
      exact l1 h1 h3
    · have h4 : 0 < (lg_cmp yw 1999999999).toInt := h4
      refine Pa.jcl (x := 1999999999) (pc' := 172) (by rfl) (fun _ _ _ => by rfl) (by decide) ?_
      refine Pa.mp 11 (pc' := 194) (l' := [(6, .long (ys + 1999999999)), (11, .long 1999999999), (0, .ref 69), (1, .int l), (2, .int yy), (3, .int ya), (4, .int yt), (5, .int yq), (8, .long yb), (10, .int yf), (13, .int yc)]) (st' := [.int yf, .int l, .ref 69, .long 1999999999, .long yb]) (by rfl) ?_
      refine Pa.ic (x := 360) (pc' := 197) (by rfl) (by rfl) (by decide) ?_
      refine Pa.mp 2 (pc' := 199) (l' := [(6, .long (ys + 1999999999)), (11, .long 1999999999), (0, .ref 69), (1, .int l), (2, .int yy), (3, .int ya), (4, .int yt), (5, .int yq), (8, .long yb), (10, .int yf), (13, .int yc)]) (st' := [.int (360 * yy), .int yf, .int l, .ref 69, .long 1999999999, .long yb]) (by rfl) ?_
      refine Pa.ic (x := 360) (pc' := 202) (by rfl) (by rfl) (by decide) ?_
      refine Pa.mp 1 (pc' := 203) (l' := [(6, .long (ys + 1999999999)), (11, .long 1999999999), (0, .ref 69), (1, .int l), (2, .int yy), (3, .int ya), (4, .int yt), (5, .int yq), (8, .long yb), (10, .int yf), (13, .int yc)]) (st' := [.int ((360 * yy) + 360), .int yf, .int l, .ref 69, .long 1999999999, .long yb]) (by rfl) ?_
      refine Pa.ic (x := 1) (pc' := 204) (by rfl) (by rfl) (by decide) ?_
      refine Pa.mp 2 (pc' := 206) (l' := [(6, .long (ys + 1999999999)), (11, .long 1999999999), (0, .ref 69), (1, .int l), (2, .int yy), (3, .int ya), (4, .int yt), (5, .int yq), (8, .long yb), (10, .int yf), (13, .int yc)]) (st' := [.ref 69, .int (((360 * yy) + 360) - 1), .int yf, .int l, .ref 69, .long 1999999999, .long yb]) (by rfl) ?_
      refine Pa.gfI (v := yA.1 69 0) (by rfl) (by rfl) (.inl rfl) (by rfl) (by rfl) ?_
      refine Pa.ic (x := 1) (pc' := 210) (by rfl) (by rfl) (by decide) ?_
      refine Pa.lv (l' := [(0, .ref 69), (1, .int l), (2, .int yy), (3, .int ya), (4, .int yt), (5, .int yq), (6, .long (ys + 1999999999)), (8, .long yb), (10, .int yf), (11, .long 1999999999), (13, .int yc)]) (lvS_c rfl (lvS_c rfl (lvS_c rfl (lvS_c rfl (lvS_c rfl (lvS_c rfl (lvS_c rfl (lvS_c rfl (lvS_c rfl (lvS_c rfl (lvS_c rfl (lvS_nil)))))))))))) rfl ?_
      refine Pa.inv (by rfl) (by rfl) (.inl rfl) (by rfl) ?_
      exact l2 h1 h4
  · have h2 : yc.toInt < (yA.1 69 31).toInt := h2
    refine Pa.mp 3 (pc' := 101) (l' := [(0, .ref 69), (1, .int l), (2, .int yy), (3, .int ya), (4, .int yt), (5, .int yq), (6, .long ys), (8, .long yb), (10, .int yf), (11, .long yw), (13, .int yc)]) (st' := [.int yc, .ref 69, .long yw]) (by rfl) ?_
    refine Pa.ic (x := 0) (pc' := 102) (by rfl) (by rfl) (by decide) ?_
    refine Pa.inv (by rfl) (by rfl) (.inl rfl) (by rfl) ?_
    refine Pa.mono (c_oc N yA yA yc 0 (fun _ => by first | rfl | (repeat rw [uI_c (by decide)]))) (fun yu A1 hu => ?_)
    obtain ⟨rfl, hu⟩ := hu
    rw [hu]
    show Pa N 240 105 [(0, .ref 69), (1, .int l), (2, .int yy), (3, .int ya), (4, .int yt), (5, .int yq), (6, .long ys), (8, .long yb), (10, .int yf), (11, .long yw), (13, .int yc)] [.int (ocM yA yc 0), .long yw] yA _
    refine Pa.mp 1 (pc' := 107) (l' := [(0, .ref 69), (1, .int l), (2, .int yy), (3, .int ya), (4, .int yt), (5, .int yq), (6, .long ys), (8, .long yb), (10, .int yf), (11, .long yw), (13, .int yc)]) (st' := [.int yf, .int (ocM yA yc 0), .long yw]) (by rfl) ?_
    refine Pa.if2 (a := (ocM yA yc 0).toInt) (b := yf.toInt) (t := 150) (by rfl) (by rfl) (rfl) (rfl) (fun h5 => ?_) (fun h6 => ?_)
    · have h5 : (ocM yA yc 0).toInt ≠ yf.toInt := h5
      refine Pa.mp 3 (pc' := 154) (l' := [(11, .long (yw + (Int64.ofNat 0))), (0, .ref 69), (1, .int l), (2, .int yy), (3, .int ya), (4, .int yt), (5, .int yq), (6, .long ys), (8, .long yb), (10, .int yf), (13, .int yc)]) (st' := []) (by rfl) ?_
      refine Pa.iinc (x := yc) (c := 1) (v := (yc + 1)) (l' := [(13, .int (yc + 1)), (11, .long (yw + (Int64.ofNat 0))), (0, .ref 69), (1, .int l), (2, .int yy), (3, .int ya), (4, .int yt), (5, .int yq), (6, .long ys), (8, .long yb), (10, .int yf)]) (by rfl) (by rfl) (by decide) (by rfl) (by rfl) ?_
      refine Pa.mp 1 (pc' := 87) (l' := [(13, .int (yc + 1)), (11, .long (yw + (Int64.ofNat 0))), (0, .ref 69), (1, .int l), (2, .int yy), (3, .int ya), (4, .int yt), (5, .int yq), (6, .long ys), (8, .long yb), (10, .int yf)]) (st' := []) (by rfl) ?_
      refine Pa.lv (l' := [(0, .ref 69), (1, .int l), (2, .int yy), (3, .int ya), (4, .int yt), (5, .int yq), (6, .long ys), (8, .long yb), (10, .int yf), (11, .long (yw + (Int64.ofNat 0))), (13, .int (yc + 1))]) (lvS_c rfl (lvS_c rfl (lvS_c rfl (lvS_c rfl (lvS_c rfl (lvS_c rfl (lvS_c rfl (lvS_c rfl (lvS_c rfl (lvS_c rfl (lvS_c rfl (lvS_nil)))))))))))) rfl ?_
      exact l3 h2 h5
    · have h6 : (ocM yA yc 0).toInt = yf.toInt := h6
      refine Pa.mp 2 (pc' := 113) (l' := [(0, .ref 69), (1, .int l), (2, .int yy), (3, .int ya), (4, .int yt), (5, .int yq), (6, .long ys), (8, .long yb), (10, .int yf), (11, .long yw), (13, .int yc)]) (st' := [.int yc, .ref 69, .long yw]) (by rfl) ?_
      refine Pa.ic (x := 2) (pc' := 114) (by rfl) (by rfl) (by decide) ?_
      refine Pa.inv (by rfl) (by rfl) (.inl rfl) (by rfl) ?_
      refine Pa.mono (c_oc N yA yA yc 2 (fun _ => by first | rfl | (repeat rw [uI_c (by decide)]))) (fun yu A1 hu => ?_)
      obtain ⟨rfl, hu⟩ := hu
      rw [hu]
      show Pa N 240 117 [(0, .ref 69), (1, .int l), (2, .int yy), (3, .int ya), (4, .int yt), (5, .int yq), (6, .long ys), (8, .long yb), (10, .int yf), (11, .long yw), (13, .int yc)] [.int (ocM yA yc 2), .long yw] yA _
      refine Pa.mp 1 (pc' := 118) (l' := [(0, .ref 69), (1, .int l), (2, .int yy), (3, .int ya), (4, .int yt), (5, .int yq), (6, .long ys), (8, .long yb), (10, .int yf), (11, .long yw), (13, .int yc)]) (st' := [.int l, .int (ocM yA yc 2), .long yw]) (by rfl) ?_
      refine Pa.if2 (a := (ocM yA yc 2).toInt) (b := l.toInt) (t := 150) (by rfl) (by rfl) (rfl) (rfl) (fun h7 => ?_) (fun h8 => ?_)
      · have h7 : (ocM yA yc 2).toInt ≠ l.toInt := h7
        refine Pa.mp 3 (pc' := 154) (l' := [(11, .long (yw + (Int64.ofNat 0))), (0, .ref 69), (1, .int l), (2, .int yy), (3, .int ya), (4, .int yt), (5, .int yq), (6, .long ys), (8, .long yb), (10, .int yf), (13, .int yc)]) (st' := []) (by rfl) ?_
        refine Pa.iinc (x := yc) (c := 1) (v := (yc + 1)) (l' := [(13, .int (yc + 1)), (11, .long (yw + (Int64.ofNat 0))), (0, .ref 69), (1, .int l), (2, .int yy), (3, .int ya), (4, .int yt), (5, .int yq), (6, .long ys), (8, .long yb), (10, .int yf)]) (by rfl) (by rfl) (by decide) (by rfl) (by rfl) ?_
        refine Pa.mp 1 (pc' := 87) (l' := [(13, .int (yc + 1)), (11, .long (yw + (Int64.ofNat 0))), (0, .ref 69), (1, .int l), (2, .int yy), (3, .int ya), (4, .int yt), (5, .int yq), (6, .long ys), (8, .long yb), (10, .int yf)]) (st' := []) (by rfl) ?_
        refine Pa.lv (l' := [(0, .ref 69), (1, .int l), (2, .int yy), (3, .int ya), (4, .int yt), (5, .int yq), (6, .long ys), (8, .long yb), (10, .int yf), (11, .long (yw + (Int64.ofNat 0))), (13, .int (yc + 1))]) (lvS_c rfl (lvS_c rfl (lvS_c rfl (lvS_c rfl (lvS_c rfl (lvS_c rfl (lvS_c rfl (lvS_c rfl (lvS_c rfl (lvS_c rfl (lvS_c rfl (lvS_nil)))))))))))) rfl ?_
        exact l4 h2 h6 h7
      · have h8 : (ocM yA yc 2).toInt = l.toInt := h8
        refine Pa.mp 2 (pc' := 124) (l' := [(0, .ref 69), (1, .int l), (2, .int yy), (3, .int ya), (4, .int yt), (5, .int yq), (6, .long ys), (8, .long yb), (10, .int yf), (11, .long yw), (13, .int yc)]) (st' := [.int yc, .ref 69, .long yw]) (by rfl) ?_
        refine Pa.ic (x := 3) (pc' := 125) (by rfl) (by rfl) (by decide) ?_
        refine Pa.inv (by rfl) (by rfl) (.inl rfl) (by rfl) ?_
        refine Pa.mono (c_oc N yA yA yc 3 (fun _ => by first | rfl | (repeat rw [uI_c (by decide)]))) (fun yu A1 hu => ?_)
        obtain ⟨rfl, hu⟩ := hu
        rw [hu]
        show Pa N 240 128 [(0, .ref 69), (1, .int l), (2, .int yy), (3, .int ya), (4, .int yt), (5, .int yq), (6, .long ys), (8, .long yb), (10, .int yf), (11, .long yw), (13, .int yc)] [.int (ocM yA yc 3), .long yw] yA _
        refine Pa.ic (x := 360) (pc' := 131) (by rfl) (by rfl) (by decide) ?_
        refine Pa.idiv (by rfl) ?_
        refine Pa.mp 1 (pc' := 133) (l' := [(0, .ref 69), (1, .int l), (2, .int yy), (3, .int ya), (4, .int yt), (5, .int yq), (6, .long ys), (8, .long yb), (10, .int yf), (11, .long yw), (13, .int yc)]) (st' := [.int yy, .int ((ocM yA yc 3) / 360), .long yw]) (by rfl) ?_
        refine Pa.if2 (a := ((ocM yA yc 3) / 360).toInt) (b := yy.toInt) (t := 150) (by rfl) (by rfl) (rfl) (rfl) (fun h9 => ?_) (fun h10 => ?_)
        · have h9 : ((ocM yA yc 3) / 360).toInt ≠ yy.toInt := h9
          refine Pa.mp 3 (pc' := 154) (l' := [(11, .long (yw + (Int64.ofNat 0))), (0, .ref 69), (1, .int l), (2, .int yy), (3, .int ya), (4, .int yt), (5, .int yq), (6, .long ys), (8, .long yb), (10, .int yf), (13, .int yc)]) (st' := []) (by rfl) ?_
          refine Pa.iinc (x := yc) (c := 1) (v := (yc + 1)) (l' := [(13, .int (yc + 1)), (11, .long (yw + (Int64.ofNat 0))), (0, .ref 69), (1, .int l), (2, .int yy), (3, .int ya), (4, .int yt), (5, .int yq), (6, .long ys), (8, .long yb), (10, .int yf)]) (by rfl) (by rfl) (by decide) (by rfl) (by rfl) ?_
          refine Pa.mp 1 (pc' := 87) (l' := [(13, .int (yc + 1)), (11, .long (yw + (Int64.ofNat 0))), (0, .ref 69), (1, .int l), (2, .int yy), (3, .int ya), (4, .int yt), (5, .int yq), (6, .long ys), (8, .long yb), (10, .int yf)]) (st' := []) (by rfl) ?_
          refine Pa.lv (l' := [(0, .ref 69), (1, .int l), (2, .int yy), (3, .int ya), (4, .int yt), (5, .int yq), (6, .long ys), (8, .long yb), (10, .int yf), (11, .long (yw + (Int64.ofNat 0))), (13, .int (yc + 1))]) (lvS_c rfl (lvS_c rfl (lvS_c rfl (lvS_c rfl (lvS_c rfl (lvS_c rfl (lvS_c rfl (lvS_c rfl (lvS_c rfl (lvS_c rfl (lvS_c rfl (lvS_nil)))))))))))) rfl ?_
          exact l5 h2 h6 h8 h9
        · have h10 : ((ocM yA yc 3) / 360).toInt = yy.toInt := h10
          refine Pa.mp 3 (pc' := 140) (l' := [(0, .ref 69), (1, .int l), (2, .int yy), (3, .int ya), (4, .int yt), (5, .int yq), (6, .long ys), (8, .long yb), (10, .int yf), (11, .long yw), (13, .int yc)]) (st' := [.ref 69, .int yc, .ref 69, .long yw]) (by rfl) ?_
          refine Pa.gfI (v := yA.1 69 0) (by rfl) (by rfl) (.inl rfl) (by rfl) (by rfl) ?_
          refine Pa.inv (by rfl) (by rfl) (.inl rfl) (by rfl) ?_
          exact l6 h2 h6 h8 h10

theorem bm_gn3 {N : Nat} {yA : AW} {yQ : Option Value → AW → Prop} (l yy ya yt yq yf yc yv : Int32) (ys yb yw : Int64)
    (l1 : Pa N 240 87 [(0, .ref 69), (1, .int l), (2, .int yy), (3, .int ya), (4, .int yt), (5, .int yq), (6, .long ys), (8, .long yb), (10, .int yf), (11, .long (yw + yv.toInt64)), (13, .int (yc + 1))] [] yA yQ) :
    Pa N 240 146 [(0, .ref 69), (1, .int l), (2, .int yy), (3, .int ya), (4, .int yt), (5, .int yq), (6, .long ys), (8, .long yb), (10, .int yf), (11, .long yw), (13, .int yc)] [.int yv, .long yw] yA yQ := by
  refine Pa.mp 4 (pc' := 154) (l' := [(11, .long (yw + yv.toInt64)), (0, .ref 69), (1, .int l), (2, .int yy), (3, .int ya), (4, .int yt), (5, .int yq), (6, .long ys), (8, .long yb), (10, .int yf), (13, .int yc)]) (st' := []) (by rfl) ?_
  refine Pa.iinc (x := yc) (c := 1) (v := (yc + 1)) (l' := [(13, .int (yc + 1)), (11, .long (yw + yv.toInt64)), (0, .ref 69), (1, .int l), (2, .int yy), (3, .int ya), (4, .int yt), (5, .int yq), (6, .long ys), (8, .long yb), (10, .int yf)]) (by rfl) (by rfl) (by decide) (by rfl) (by rfl) ?_
  refine Pa.mp 1 (pc' := 87) (l' := [(13, .int (yc + 1)), (11, .long (yw + yv.toInt64)), (0, .ref 69), (1, .int l), (2, .int yy), (3, .int ya), (4, .int yt), (5, .int yq), (6, .long ys), (8, .long yb), (10, .int yf)]) (st' := []) (by rfl) ?_
  refine Pa.lv (l' := [(0, .ref 69), (1, .int l), (2, .int yy), (3, .int ya), (4, .int yt), (5, .int yq), (6, .long ys), (8, .long yb), (10, .int yf), (11, .long (yw + yv.toInt64)), (13, .int (yc + 1))]) (lvS_c rfl (lvS_c rfl (lvS_c rfl (lvS_c rfl (lvS_c rfl (lvS_c rfl (lvS_c rfl (lvS_c rfl (lvS_c rfl (lvS_c rfl (lvS_c rfl (lvS_nil)))))))))))) rfl ?_
  exact l1

theorem bm_gn4 {N : Nat} {yA : AW} {yQ : Option Value → AW → Prop} (l yy ya yt yq yf yc yv : Int32) (ys yb yw : Int64)
    (l1 : Pa N 240 72 [(0, .ref 69), (1, .int l), (2, .int yy), (3, .int ya), (4, .int yt), (5, .int yq), (6, .long ys), (8, .long (yb + ((yw * yv.toInt64) / 100))), (10, .int (yf + 1)), (11, .long yw), (13, .int yc)] [] yA yQ) :
    Pa N 240 213 [(0, .ref 69), (1, .int l), (2, .int yy), (3, .int ya), (4, .int yt), (5, .int yq), (6, .long ys), (8, .long yb), (10, .int yf), (11, .long yw), (13, .int yc)] [.int yv, .long yw, .long yb] yA yQ := by
  refine Pa.mp 2 (pc' := 215) (l' := [(0, .ref 69), (1, .int l), (2, .int yy), (3, .int ya), (4, .int yt), (5, .int yq), (6, .long ys), (8, .long yb), (10, .int yf), (11, .long yw), (13, .int yc)]) (st' := [.long (yw * yv.toInt64), .long yb]) (by rfl) ?_
  refine Pa.jcl (x := 100) (pc' := 218) (by rfl) (fun _ _ _ => by rfl) (by decide) ?_
  refine Pa.ldiv (by rfl) ?_
  refine Pa.mp 2 (pc' := 222) (l' := [(8, .long (yb + ((yw * yv.toInt64) / 100))), (0, .ref 69), (1, .int l), (2, .int yy), (3, .int ya), (4, .int yt), (5, .int yq), (6, .long ys), (10, .int yf), (11, .long yw), (13, .int yc)]) (st' := []) (by rfl) ?_
  refine Pa.iinc (x := yf) (c := 1) (v := (yf + 1)) (l' := [(10, .int (yf + 1)), (8, .long (yb + ((yw * yv.toInt64) / 100))), (0, .ref 69), (1, .int l), (2, .int yy), (3, .int ya), (4, .int yt), (5, .int yq), (6, .long ys), (11, .long yw), (13, .int yc)]) (by rfl) (by rfl) (by decide) (by rfl) (by rfl) ?_
  refine Pa.mp 1 (pc' := 72) (l' := [(10, .int (yf + 1)), (8, .long (yb + ((yw * yv.toInt64) / 100))), (0, .ref 69), (1, .int l), (2, .int yy), (3, .int ya), (4, .int yt), (5, .int yq), (6, .long ys), (11, .long yw), (13, .int yc)]) (st' := []) (by rfl) ?_
  refine Pa.lv (l' := [(0, .ref 69), (1, .int l), (2, .int yy), (3, .int ya), (4, .int yt), (5, .int yq), (6, .long ys), (8, .long (yb + ((yw * yv.toInt64) / 100))), (10, .int (yf + 1)), (11, .long yw), (13, .int yc)]) (lvS_c rfl (lvS_c rfl (lvS_c rfl (lvS_c rfl (lvS_c rfl (lvS_c rfl (lvS_c rfl (lvS_c rfl (lvS_c rfl (lvS_c rfl (lvS_c rfl (lvS_nil)))))))))))) rfl ?_
  exact l1
def okGn (l yy ya yt yq : Int32) : Prop := (0 ≤ l.toInt ∧ l.toInt ≤ 5) ∧ (0 ≤ yy.toInt ∧ yy.toInt ≤ 9) ∧ (0 ≤ yt.toInt ∧ yt.toInt ≤ 100) ∧ (0 ≤ yq.toInt ∧ yq.toInt ≤ 1) ∧ 0 ≤ ya.toInt ∧ (ya / 1000).toInt ≤ 100 ∧ (ya - ya / 1000 * 1000).toInt ≤ 100
noncomputable def gvn (yA : AW) (l yy ya yt yq : Int32) : Int32 := gnV yA l yy (if yq.toInt = 0 then ya / 1000 else ya - ya / 1000 * 1000) yt (yA.1 69 0)
theorem ab_rg (ya : Int32) : (0 ≤ ya.toInt ↔ 0 ≤ (ya / 1000).toInt ∧ 0 ≤ (ya - ya / 1000 * 1000).toInt) := by
  have yhb := i32_b ya
  have ye1 : (ya / 1000).toInt = ya.toInt.tdiv 1000 := by
    rw [Int32.toInt_div_of_ne_right ya 1000 (by decide), show (1000 : Int32).toInt = 1000 from by decide]
  have yt1 := tdv (yx := ya.toInt) (yb := 1000) (by omega)
  generalize hV : ya.toInt.tdiv 1000 = V at ye1 yt1
  have ye4 : V = if 0 ≤ ya.toInt then ya.toInt / 1000 else -((-ya.toInt) / 1000) := by
    rw [← hV]
    split
    · exact Int.tdiv_eq_ediv_of_nonneg (by omega)
    · rw [show ya.toInt = -(-ya.toInt) from by omega, Int.neg_tdiv, Int.tdiv_eq_ediv_of_nonneg (by omega), Int.neg_neg]
  have ye5 : -2147483648 ≤ V * 1000 ∧ V * 1000 ≤ 2147483647 := by
    split at ye4 <;> omega
  have ye2 : (ya / 1000 * 1000).toInt = V * 1000 := by
    rw [Int32.toInt_mul, ye1, show (1000 : Int32).toInt = 1000 from by decide]
    exact z_bm0 ⟨by show (-2147483648 : Int) ≤ _; omega, by show _ ≤ (2147483647 : Int); omega⟩
  have ye3 : (ya - ya / 1000 * 1000).toInt = ya.toInt - V * 1000 := by
    rw [Int32.toInt_sub, ye2]
    exact z_bm0 ⟨by show (-2147483648 : Int) ≤ _; (split at ye4 <;> omega), by show _ ≤ (2147483647 : Int); (split at ye4 <;> omega)⟩
  rw [ye1, ye3]
  split at ye4
  · constructor
    · intro _
      omega
    · intro _
      omega
  · constructor
    · intro yq
      omega
    · intro yq
      omega
theorem e_gain0 {yA yW : AW} (yg : Rgx yA) (hp : Rpr yA) (hs : smM yW yA yW) (N : Nat) (l yy ya yt yq : Int32) : Pa N 240 0 [(0, .ref 69), (1, .int l), (2, .int yy), (3, .int ya), (4, .int yt), (5, .int yq)] [] yW (fun yu _ => (¬ okGn l yy ya yt yq ∧ yu = some (.int (-2000000000))) ∨ (okGn l yy ya yt yq ∧ yu = some (.int (gvn yA l yy ya yt yq)))) := by
  have yhT := yg.fT9
  have h5 := yg.T5
  have yd9 := yg.gl.ok.fld (i := 69) (k := 0) (lo := 0) (hi := 3599) (by decide +kernel)
  obtain ⟨yk, ek⟩ : ∃ yk, yA.1 69 0 = yk := ⟨_, rfl⟩
  rw [ek] at yd9
  have ym1 : (-1 : Int32).toInt = -1 := by decide
  have ykey : okGn l yy ya yt yq → ∀ N : Nat, (∀ (yf : Nat) (yU : AW) (yu : Int64) (cc : Int32), yf ≤ fT yA → smM yW yA yU → Pa N 240 72 [(0, .ref 69), (1, .int l), (2, .int yy), (3, .int ya), (4, .int yt), (5, .int yq), (6, .long (gsV yA l yy yk yf)), (8, .long (goV yA l yy yk yf)), (10, .int (Int32.ofNat yf)), (11, .long yu), (13, .int cc)] [] yU (fun yu _ => (¬ okGn l yy ya yt yq ∧ yu = some (.int (-2000000000))) ∨ (okGn l yy ya yt yq ∧ yu = some (.int (gvn yA l yy ya yt yq))))) ∧ (∀ (yf yc : Nat) (yU : AW), yf < fT yA → yc ≤ cT yA → smM yW yA yU → Pa N 240 87 [(0, .ref 69), (1, .int l), (2, .int yy), (3, .int ya), (4, .int yt), (5, .int yq), (6, .long (gsV yA l yy yk yf)), (8, .long (goV yA l yy yk yf)), (10, .int (Int32.ofNat yf)), (11, .long (smV yA (Int32.ofNat yf) l (-1) yy yk yc)), (13, .int (Int32.ofNat yc))] [] yU (fun yu _ => (¬ okGn l yy ya yt yq ∧ yu = some (.int (-2000000000))) ∨ (okGn l yy ya yt yq ∧ yu = some (.int (gvn yA l yy ya yt yq))))) := by
    intro yok N
    induction N with
    | zero => exact ⟨fun _ _ _ _ _ _ => Pa.zero, fun _ _ _ _ _ _ => Pa.zero⟩
    | succ N yih =>
      refine ⟨fun yf yU yu cc hf hu => ?_, fun yf yc yU hf yhc hu => ?_⟩
      · have ef : (Int32.ofNat yf).toInt = (yf : Int) := i32_nat (by omega)
        have ye11 : (yU.1 69 11).toInt = (fT yA : Int) := by rw [hu.2.1 11 (by decide) (by decide) (by decide) (by decide) (by decide) (by decide) (by decide) (by decide)]; exact yhT.1
        have sg := lg_sign (gsV yA l yy yk yf) 1999999999
        have ysh := gs_held yg hp l yy yk (yF := yf) (by omega)
        rw [i64_held] at sg
        refine bm_gn1 l yy ya yt yq (Int32.ofNat yf) cc _ _ yu ?_ ?_ ?_ ?_ ?_ <;> rw [ye11, ef]
        · intro z1 _ z3
          have ye : yf = fT yA := by omega
          subst ye
          refine .inr ⟨yok, ?_⟩
          unfold gvn gnV
          rw [if_neg z3, ek]
        · intro z1 _ z3
          have ye : yf = fT yA := by omega
          subst ye
          refine .inr ⟨yok, ?_⟩
          unfold gvn gnV
          rw [if_pos z3, ek]
        · intro z1 z2
          exfalso
          omega
        · intro z1 z2
          exfalso
          omega
        · intro z1
          exact yih.2 yf 0 yU (by omega) (Nat.zero_le _) hu
      · have ef : (Int32.ofNat yf).toInt = (yf : Int) := i32_nat (by omega)
        have ec : (Int32.ofNat yc).toInt = (yc : Int) := i32_nat (by omega)
        have ye31 : (yU.1 69 31).toInt = (cT yA : Int) := by
          have := yg.gl.T
          rw [hu.2.1 31 (by decide) (by decide) (by decide) (by decide) (by decide) (by decide) (by decide) (by decide)]
          unfold cT
          omega
        have ye0 : yU.1 69 0 = yk := (hu.2.1 0 (by decide) (by decide) (by decide) (by decide) (by decide) (by decide) (by decide) (by decide)).trans ek
        have o : yc < cT yA → ∀ yn : Nat, yn < 7 → ∀ yx : Int32, yx.toInt = (yn : Int) → ocM yU (Int32.ofNat yc) yx = yA.1 90 (7 * yc + yn) := fun yh yn hn yx hx => ocM_at hu (by omega) hx hn
        have bs := bs_64 yg hp (Int32.ofNat yf) l yy yk
        have sg := lg_sign (smV yA (Int32.ofNat yf) l (-1) yy yk yc) 1999999999
        have ysb := smI_b yg hp (Int32.ofNat yf) l yy yk (yn := yc) yhc
        have sv := smV_I yg hp (Int32.ofNat yf) l yy yk (yn := yc) yhc
        rw [i64_held] at sg
        have yn0 : yc < cT yA → ¬ inB yA (Int32.ofNat yf) l (-1) yy yc → Pa N 240 87 [(0, .ref 69), (1, .int l), (2, .int yy), (3, .int ya), (4, .int yt), (5, .int yq), (6, .long (gsV yA l yy yk yf)), (8, .long (goV yA l yy yk yf)), (10, .int (Int32.ofNat yf)), (11, .long (smV yA (Int32.ofNat yf) l (-1) yy yk yc + Int64.ofNat 0)), (13, .int (Int32.ofNat yc + 1))] [] yU (fun yu _ => (¬ okGn l yy ya yt yq ∧ yu = some (.int (-2000000000))) ∨ (okGn l yy ya yt yq ∧ yu = some (.int (gvn yA l yy ya yt yq)))) := fun hc2 hn => by
          have yh := yih.2 yf (yc + 1) yU hf hc2 hu
          rw [smV_0 hn, on_succ yc] at yh
          have yz : smV yA (Int32.ofNat yf) l (-1) yy yk yc + Int64.ofNat 0 = smV yA (Int32.ofNat yf) l (-1) yy yk yc := Int64.add_zero _
          rw [yz]
          exact yh
        refine bm_gn2 l yy ya yt yq (Int32.ofNat yf) (Int32.ofNat yc) _ _ _ ?_ ?_ ?_ ?_ ?_ ?_ <;> rw [ye31, ec] <;> (try rw [ef])
        · intro z1 z2
          have ye : yc = cT yA := by omega
          subst ye
          rw [ye0]
          refine Pa.mono (c_lawR yg hu 1 l (Int32.ofNat yf) (((360 * yy) + 360) - 1) yk (by decide) (by decide) N) (fun yv A1 hv => ?_)
          obtain ⟨rfl, ys1⟩ := hv
          refine bm_gn4 l yy ya yt yq (Int32.ofNat yf) _ _ _ _ _ ?_
          have yh := yih.1 (yf + 1) A1 (smV yA (Int32.ofNat yf) l (-1) yy yk (cT yA)) (Int32.ofNat (cT yA)) (by omega) ys1
          have ye1 : gsV yA l yy yk (yf + 1) = gsV yA l yy yk yf + (bsV yA (Int32.ofNat yf) l (-1) yy yk).toInt64 := rfl
          have ye2 : goV yA l yy yk (yf + 1) = goV yA l yy yk yf + ((bsV yA (Int32.ofNat yf) l (-1) yy yk).toInt64 * (lwV yA 1 l (Int32.ofNat yf) (((360 * yy) + 360) - 1) yk).toInt64) / 100 := rfl
          rw [ye1, ye2, bs.1, on_succ yf] at yh
          exact yh
        · intro z1 z2
          exfalso
          omega
        · intro z1 z2
          rw [o (by omega) 0 (by decide) 0 (by decide)] at z2
          exact yn0 (by omega) (fun yz => z2 (yz.1.trans ef))
        · intro z1 z2 z3
          rw [o (by omega) 2 (by decide) 2 (by decide)] at z3
          exact yn0 (by omega) (fun yz => z3 yz.2.1)
        · intro z1 z2 z3 z4
          rw [o (by omega) 3 (by decide) 3 (by decide)] at z4
          exact yn0 (by omega) (fun yz => yz.2.2.1.elim (fun yw => by have := yok.2.1.1; omega) z4)
        · intro z1 z2 z3 z4
          rw [o (by omega) 0 (by decide) 0 (by decide)] at z2
          rw [o (by omega) 2 (by decide) 2 (by decide)] at z3
          rw [o (by omega) 3 (by decide) 3 (by decide)] at z4
          have hin : inB yA (Int32.ofNat yf) l (-1) yy yc := ⟨z2.trans ef.symm, z3, .inr z4, .inl ym1⟩
          rw [ye0]
          refine Pa.mono (c_cntM yg hu (by omega) yk yd9.1 yd9.2 N) (fun yv A1 hv => ?_)
          obtain ⟨rfl, ys1, -⟩ := hv
          refine bm_gn3 l yy ya yt yq (Int32.ofNat yf) _ _ _ _ _ ?_
          have yh := yih.2 yf (yc + 1) A1 hf (by omega) ys1
          rw [smV_1 hin, on_succ yc] at yh
          exact yh
  have ab := ab_rg ya
  refine bm_gn0 l yy ya yt yq ?_ ?_ ?_ ?_ ?_ ?_ ?_ ?_ ?_ ?_ ?_ ?_
  · exact fun _ => .inl ⟨fun yz => by unfold okGn at yz; omega, rfl⟩
  · exact fun _ _ => .inl ⟨fun yz => by unfold okGn at yz; omega, rfl⟩
  · exact fun _ _ _ => .inl ⟨fun yz => by unfold okGn at yz; omega, rfl⟩
  · exact fun _ _ _ _ => .inl ⟨fun yz => by unfold okGn at yz; omega, rfl⟩
  · exact fun _ _ _ _ _ => .inl ⟨fun yz => by unfold okGn at yz; omega, rfl⟩
  · exact fun _ _ _ _ _ _ => .inl ⟨fun yz => by unfold okGn at yz; omega, rfl⟩
  · exact fun _ _ _ _ _ _ _ => .inl ⟨fun yz => by unfold okGn at yz; omega, rfl⟩
  · exact fun _ _ _ _ _ _ _ _ => .inl ⟨fun yz => by unfold okGn at yz; omega, rfl⟩
  · exact fun _ _ _ _ _ _ _ _ _ => .inl ⟨fun yz => by unfold okGn at yz; omega, rfl⟩
  · exact fun _ _ _ _ _ _ _ _ _ _ => .inl ⟨fun yz => by unfold okGn at yz; omega, rfl⟩
  · exact fun _ _ _ _ _ _ _ _ _ _ _ => .inl ⟨fun yz => by unfold okGn at yz; omega, rfl⟩
  · intro y1 y2 y3 y4 y5 y6 y7 y8 y9 y10 y11
    exact (ykey ⟨⟨y1, y2⟩, ⟨y3, y4⟩, ⟨y8, y9⟩, ⟨y10, y11⟩, y5, y6, y7⟩ N).1 0 yW _ 0 (Nat.zero_le _) hs
/-! the ypair -/
def dGn (l yy ya yt yq : Int32) (yA : AW) (yu : Option Value) (A1 : AW) : Prop := (¬ okGn l yy ya yt yq ∧ yu = some (.int (-2000000000)) ∧ A1 = yA) ∨ (okGn l yy ya yt yq ∧ yu = some (.int (gvn yA l yy ya yt yq)) ∧ scX yA yA A1)
def eGn (l yy ya yt yq : Int32) (yW : AW) (yu : Option Value) (_ : AW) : Prop := ∀ yA, ((Rgx yA ∧ Rpr yA) ∧ smM yW yA yW) → (¬ okGn l yy ya yt yq ∧ yu = some (.int (-2000000000))) ∨ (okGn l yy ya yt yq ∧ yu = some (.int (gvn yA l yy ya yt yq)))
theorem bx_gn {N : Nat} {yA : AW} {yQ : Option Value → AW → Prop} (l yy ya yt yq : Int32)
    (l1 : l.toInt < 0 → yQ (some (.int (-2000000000))) yA)
    (l2 : 0 ≤ l.toInt → 5 < l.toInt → yQ (some (.int (-2000000000))) yA)
    (l3 : 0 ≤ l.toInt → l.toInt ≤ 5 → yy.toInt < 0 → yQ (some (.int (-2000000000))) yA)
    (l4 : 0 ≤ l.toInt → l.toInt ≤ 5 → 0 ≤ yy.toInt → 9 < yy.toInt → yQ (some (.int (-2000000000))) yA)
    (l5 : 0 ≤ l.toInt → l.toInt ≤ 5 → 0 ≤ yy.toInt → yy.toInt ≤ 9 → yt.toInt < 0 → yQ (some (.int (-2000000000))) yA)
    (l6 : 0 ≤ l.toInt → l.toInt ≤ 5 → 0 ≤ yy.toInt → yy.toInt ≤ 9 → 0 ≤ yt.toInt → 100 < yt.toInt → yQ (some (.int (-2000000000))) yA)
    (l7 : 0 ≤ l.toInt → l.toInt ≤ 5 → 0 ≤ yy.toInt → yy.toInt ≤ 9 → 0 ≤ yt.toInt → yt.toInt ≤ 100 → yq.toInt < 0 → yQ (some (.int (-2000000000))) yA)
    (l8 : 0 ≤ l.toInt → l.toInt ≤ 5 → 0 ≤ yy.toInt → yy.toInt ≤ 9 → 0 ≤ yt.toInt → yt.toInt ≤ 100 → 0 ≤ yq.toInt → 1 < yq.toInt → yQ (some (.int (-2000000000))) yA)
    (l9 : 0 ≤ l.toInt → l.toInt ≤ 5 → 0 ≤ yy.toInt → yy.toInt ≤ 9 → 0 ≤ yt.toInt → yt.toInt ≤ 100 → 0 ≤ yq.toInt → yq.toInt ≤ 1 → (ya / 1000).toInt < 0 → yQ (some (.int (-2000000000))) yA)
    (l10 : 0 ≤ l.toInt → l.toInt ≤ 5 → 0 ≤ yy.toInt → yy.toInt ≤ 9 → 0 ≤ yt.toInt → yt.toInt ≤ 100 → 0 ≤ yq.toInt → yq.toInt ≤ 1 → 0 ≤ (ya / 1000).toInt → 100 < (ya / 1000).toInt → yQ (some (.int (-2000000000))) yA)
    (l11 : 0 ≤ l.toInt → l.toInt ≤ 5 → 0 ≤ yy.toInt → yy.toInt ≤ 9 → 0 ≤ yt.toInt → yt.toInt ≤ 100 → 0 ≤ yq.toInt → yq.toInt ≤ 1 → 0 ≤ (ya / 1000).toInt → (ya / 1000).toInt ≤ 100 → (ya - ya / 1000 * 1000).toInt < 0 → yQ (some (.int (-2000000000))) yA)
    (l12 : 0 ≤ l.toInt → l.toInt ≤ 5 → 0 ≤ yy.toInt → yy.toInt ≤ 9 → 0 ≤ yt.toInt → yt.toInt ≤ 100 → 0 ≤ yq.toInt → yq.toInt ≤ 1 → 0 ≤ (ya / 1000).toInt → (ya / 1000).toInt ≤ 100 → 0 ≤ (ya - ya / 1000 * 1000).toInt → 100 < (ya - ya / 1000 * 1000).toInt → yQ (some (.int (-2000000000))) yA)
    (l13 : 0 ≤ l.toInt → l.toInt ≤ 5 → 0 ≤ yy.toInt → yy.toInt ≤ 9 → 0 ≤ yt.toInt → yt.toInt ≤ 100 → 0 ≤ yq.toInt → yq.toInt ≤ 1 → 0 ≤ (ya / 1000).toInt → (ya / 1000).toInt ≤ 100 → 0 ≤ (ya - ya / 1000 * 1000).toInt → (ya - ya / 1000 * 1000).toInt ≤ 100 → yq.toInt ≠ 0 → Pa N 18 0 [(0, .ref 46), (1, .int l), (2, .int yy), (3, .int (ya - ya / 1000 * 1000)), (4, .int yt), (5, .int (yA.1 0 10))] [] yA (fun yu A1 => Pa N 135 107 [(0, .ref 0), (1, .int l), (2, .int yy), (3, .int ya), (4, .int yt), (5, .int yq), (6, .int (ya / 1000)), (7, .int (ya - ya / 1000 * 1000))] (yu.toList ++ []) A1 yQ))
    (l14 : 0 ≤ l.toInt → l.toInt ≤ 5 → 0 ≤ yy.toInt → yy.toInt ≤ 9 → 0 ≤ yt.toInt → yt.toInt ≤ 100 → 0 ≤ yq.toInt → yq.toInt ≤ 1 → 0 ≤ (ya / 1000).toInt → (ya / 1000).toInt ≤ 100 → 0 ≤ (ya - ya / 1000 * 1000).toInt → (ya - ya / 1000 * 1000).toInt ≤ 100 → yq.toInt = 0 → Pa N 18 0 [(0, .ref 46), (1, .int l), (2, .int yy), (3, .int (ya / 1000)), (4, .int yt), (5, .int (yA.1 0 10))] [] yA (fun yu A1 => Pa N 135 107 [(0, .ref 0), (1, .int l), (2, .int yy), (3, .int ya), (4, .int yt), (5, .int yq), (6, .int (ya / 1000)), (7, .int (ya - ya / 1000 * 1000))] (yu.toList ++ []) A1 yQ)) :
    Pa N 135 0 [(0, .ref 0), (1, .int l), (2, .int yy), (3, .int ya), (4, .int yt), (5, .int yq)] [] yA yQ := by
  refine Pa.mp 1 (pc' := 1) (l' := [(0, .ref 0), (1, .int l), (2, .int yy), (3, .int ya), (4, .int yt), (5, .int yq)]) (st' := [.int l]) (by rfl) ?_
  refine Pa.ist (by rfl) (by rfl) (.inl rfl) (by rfl) (by rfl) ?_
  show Pa N 147 0 [(0, .int l)] [] yA _
  refine Pa.mp 1 (pc' := 1) (l' := [(0, .int l)]) (st' := [.int l]) (by rfl) ?_
  refine Pa.ic (x := 0) (pc' := 2) (by rfl) (by rfl) (by decide) ?_
  refine Pa.ic (x := 5) (pc' := 3) (by rfl) (by rfl) (by decide) ?_
  refine Pa.ist (by rfl) (by rfl) (.inl rfl) (by rfl) (by rfl) ?_
  show Pa N 146 0 [(0, .int l), (1, .int 0), (2, .int 5)] [] yA _
  refine Pa.mp 2 (pc' := 2) (l' := [(0, .int l), (1, .int 0), (2, .int 5)]) (st' := [.int 0, .int l]) (by rfl) ?_
  refine Pa.if2 (a := l.toInt) (b := 0) (t := 14) (by rfl) (by rfl) (rfl) (by decide) (fun h1 => ?_) (fun h2 => ?_)
  · have h1 : l.toInt < 0 := h1
    refine Pa.ic (x := 0) (pc' := 15) (by rfl) (by rfl) (by decide) ?_
    refine Pa.iret (by rfl) ?_
    show Pa N 147 6 [(0, .int l)] [.int 0] yA _
    refine Pa.iret (by rfl) ?_
    show Pa N 135 4 [(0, .ref 0), (1, .int l), (2, .int yy), (3, .int ya), (4, .int yt), (5, .int yq)] [.int 0] yA _
    refine Pa.if1k true (by rfl) (by rfl) (by decide) ?_
    show Pa N 135 38 [(0, .ref 0), (1, .int l), (2, .int yy), (3, .int ya), (4, .int yt), (5, .int yq)] [] yA _
    refine Pa.icl (x := (-2000000000)) (pc' := 40) (by rfl) (fun _ _ _ => by rfl) (by decide) ?_
    refine Pa.iret (by rfl) ?_
    exact l1 h1
  · have h2 : 0 ≤ l.toInt := h2
    refine Pa.mp 2 (pc' := 7) (l' := [(0, .int l), (1, .int 0), (2, .int 5)]) (st' := [.int 5, .int l]) (by rfl) ?_
    refine Pa.if2 (a := l.toInt) (b := 5) (t := 14) (by rfl) (by rfl) (rfl) (by decide) (fun h3 => ?_) (fun h4 => ?_)
    · have h3 : 5 < l.toInt := h3
      refine Pa.ic (x := 0) (pc' := 15) (by rfl) (by rfl) (by decide) ?_
      refine Pa.iret (by rfl) ?_
      show Pa N 147 6 [(0, .int l)] [.int 0] yA _
      refine Pa.iret (by rfl) ?_
      show Pa N 135 4 [(0, .ref 0), (1, .int l), (2, .int yy), (3, .int ya), (4, .int yt), (5, .int yq)] [.int 0] yA _
      refine Pa.if1k true (by rfl) (by rfl) (by decide) ?_
      show Pa N 135 38 [(0, .ref 0), (1, .int l), (2, .int yy), (3, .int ya), (4, .int yt), (5, .int yq)] [] yA _
      refine Pa.icl (x := (-2000000000)) (pc' := 40) (by rfl) (fun _ _ _ => by rfl) (by decide) ?_
      refine Pa.iret (by rfl) ?_
      exact l2 h2 h3
    · have h4 : l.toInt ≤ 5 := h4
      refine Pa.ic (x := 1) (pc' := 11) (by rfl) (by rfl) (by decide) ?_
      refine Pa.mp 1 (pc' := 15) (l' := [(0, .int l), (1, .int 0), (2, .int 5)]) (st' := [.int 1]) (by rfl) ?_
      refine Pa.iret (by rfl) ?_
      show Pa N 147 6 [(0, .int l)] [.int 1] yA _
      refine Pa.iret (by rfl) ?_
      show Pa N 135 4 [(0, .ref 0), (1, .int l), (2, .int yy), (3, .int ya), (4, .int yt), (5, .int yq)] [.int 1] yA _
      refine Pa.if1k false (by rfl) (by rfl) (by decide) ?_
      show Pa N 135 7 [(0, .ref 0), (1, .int l), (2, .int yy), (3, .int ya), (4, .int yt), (5, .int yq)] [] yA _
      refine Pa.mp 1 (pc' := 8) (l' := [(0, .ref 0), (1, .int l), (2, .int yy), (3, .int ya), (4, .int yt), (5, .int yq)]) (st' := [.int yy]) (by rfl) ?_
      refine Pa.ic (x := 0) (pc' := 9) (by rfl) (by rfl) (by decide) ?_
      refine Pa.ic (x := 9) (pc' := 11) (by rfl) (by rfl) (by decide) ?_
      refine Pa.ist (by rfl) (by rfl) (.inl rfl) (by rfl) (by rfl) ?_
      show Pa N 146 0 [(0, .int yy), (1, .int 0), (2, .int 9)] [] yA _
      refine Pa.mp 2 (pc' := 2) (l' := [(0, .int yy), (1, .int 0), (2, .int 9)]) (st' := [.int 0, .int yy]) (by rfl) ?_
      refine Pa.if2 (a := yy.toInt) (b := 0) (t := 14) (by rfl) (by rfl) (rfl) (by decide) (fun h5 => ?_) (fun h6 => ?_)
      · have h5 : yy.toInt < 0 := h5
        refine Pa.ic (x := 0) (pc' := 15) (by rfl) (by rfl) (by decide) ?_
        refine Pa.iret (by rfl) ?_
        show Pa N 135 14 [(0, .ref 0), (1, .int l), (2, .int yy), (3, .int ya), (4, .int yt), (5, .int yq)] [.int 0] yA _
        refine Pa.if1k true (by rfl) (by rfl) (by decide) ?_
        show Pa N 135 38 [(0, .ref 0), (1, .int l), (2, .int yy), (3, .int ya), (4, .int yt), (5, .int yq)] [] yA _
        refine Pa.icl (x := (-2000000000)) (pc' := 40) (by rfl) (fun _ _ _ => by rfl) (by decide) ?_
        refine Pa.iret (by rfl) ?_
        exact l3 h2 h4 h5
      · have h6 : 0 ≤ yy.toInt := h6
        refine Pa.mp 2 (pc' := 7) (l' := [(0, .int yy), (1, .int 0), (2, .int 9)]) (st' := [.int 9, .int yy]) (by rfl) ?_
        refine Pa.if2 (a := yy.toInt) (b := 9) (t := 14) (by rfl) (by rfl) (rfl) (by decide) (fun h7 => ?_) (fun h8 => ?_)
        · have h7 : 9 < yy.toInt := h7
          refine Pa.ic (x := 0) (pc' := 15) (by rfl) (by rfl) (by decide) ?_
          refine Pa.iret (by rfl) ?_
          show Pa N 135 14 [(0, .ref 0), (1, .int l), (2, .int yy), (3, .int ya), (4, .int yt), (5, .int yq)] [.int 0] yA _
          refine Pa.if1k true (by rfl) (by rfl) (by decide) ?_
          show Pa N 135 38 [(0, .ref 0), (1, .int l), (2, .int yy), (3, .int ya), (4, .int yt), (5, .int yq)] [] yA _
          refine Pa.icl (x := (-2000000000)) (pc' := 40) (by rfl) (fun _ _ _ => by rfl) (by decide) ?_
          refine Pa.iret (by rfl) ?_
          exact l4 h2 h4 h6 h7
        · have h8 : yy.toInt ≤ 9 := h8
          refine Pa.ic (x := 1) (pc' := 11) (by rfl) (by rfl) (by decide) ?_
          refine Pa.mp 1 (pc' := 15) (l' := [(0, .int yy), (1, .int 0), (2, .int 9)]) (st' := [.int 1]) (by rfl) ?_
          refine Pa.iret (by rfl) ?_
          show Pa N 135 14 [(0, .ref 0), (1, .int l), (2, .int yy), (3, .int ya), (4, .int yt), (5, .int yq)] [.int 1] yA _
          refine Pa.if1k false (by rfl) (by rfl) (by decide) ?_
          show Pa N 135 17 [(0, .ref 0), (1, .int l), (2, .int yy), (3, .int ya), (4, .int yt), (5, .int yq)] [] yA _
          refine Pa.mp 1 (pc' := 19) (l' := [(0, .ref 0), (1, .int l), (2, .int yy), (3, .int ya), (4, .int yt), (5, .int yq)]) (st' := [.int yt]) (by rfl) ?_
          refine Pa.ic (x := 0) (pc' := 20) (by rfl) (by rfl) (by decide) ?_
          refine Pa.ic (x := 100) (pc' := 22) (by rfl) (by rfl) (by decide) ?_
          refine Pa.ist (by rfl) (by rfl) (.inl rfl) (by rfl) (by rfl) ?_
          show Pa N 146 0 [(0, .int yt), (1, .int 0), (2, .int 100)] [] yA _
          refine Pa.mp 2 (pc' := 2) (l' := [(0, .int yt), (1, .int 0), (2, .int 100)]) (st' := [.int 0, .int yt]) (by rfl) ?_
          refine Pa.if2 (a := yt.toInt) (b := 0) (t := 14) (by rfl) (by rfl) (rfl) (by decide) (fun h9 => ?_) (fun h10 => ?_)
          · have h9 : yt.toInt < 0 := h9
            refine Pa.ic (x := 0) (pc' := 15) (by rfl) (by rfl) (by decide) ?_
            refine Pa.iret (by rfl) ?_
            show Pa N 135 25 [(0, .ref 0), (1, .int l), (2, .int yy), (3, .int ya), (4, .int yt), (5, .int yq)] [.int 0] yA _
            refine Pa.if1k true (by rfl) (by rfl) (by decide) ?_
            show Pa N 135 38 [(0, .ref 0), (1, .int l), (2, .int yy), (3, .int ya), (4, .int yt), (5, .int yq)] [] yA _
            refine Pa.icl (x := (-2000000000)) (pc' := 40) (by rfl) (fun _ _ _ => by rfl) (by decide) ?_
            refine Pa.iret (by rfl) ?_
            exact l5 h2 h4 h6 h8 h9
          · have h10 : 0 ≤ yt.toInt := h10
            refine Pa.mp 2 (pc' := 7) (l' := [(0, .int yt), (1, .int 0), (2, .int 100)]) (st' := [.int 100, .int yt]) (by rfl) ?_
            refine Pa.if2 (a := yt.toInt) (b := 100) (t := 14) (by rfl) (by rfl) (rfl) (by decide) (fun h11 => ?_) (fun h12 => ?_)
            · have h11 : 100 < yt.toInt := h11
              refine Pa.ic (x := 0) (pc' := 15) (by rfl) (by rfl) (by decide) ?_
              refine Pa.iret (by rfl) ?_
              show Pa N 135 25 [(0, .ref 0), (1, .int l), (2, .int yy), (3, .int ya), (4, .int yt), (5, .int yq)] [.int 0] yA _
              refine Pa.if1k true (by rfl) (by rfl) (by decide) ?_
              show Pa N 135 38 [(0, .ref 0), (1, .int l), (2, .int yy), (3, .int ya), (4, .int yt), (5, .int yq)] [] yA _
              refine Pa.icl (x := (-2000000000)) (pc' := 40) (by rfl) (fun _ _ _ => by rfl) (by decide) ?_
              refine Pa.iret (by rfl) ?_
              exact l6 h2 h4 h6 h8 h10 h11
            · have h12 : yt.toInt ≤ 100 := h12
              refine Pa.ic (x := 1) (pc' := 11) (by rfl) (by rfl) (by decide) ?_
              refine Pa.mp 1 (pc' := 15) (l' := [(0, .int yt), (1, .int 0), (2, .int 100)]) (st' := [.int 1]) (by rfl) ?_
              refine Pa.iret (by rfl) ?_
              show Pa N 135 25 [(0, .ref 0), (1, .int l), (2, .int yy), (3, .int ya), (4, .int yt), (5, .int yq)] [.int 1] yA _
              refine Pa.if1k false (by rfl) (by rfl) (by decide) ?_
              show Pa N 135 28 [(0, .ref 0), (1, .int l), (2, .int yy), (3, .int ya), (4, .int yt), (5, .int yq)] [] yA _
              refine Pa.mp 1 (pc' := 30) (l' := [(0, .ref 0), (1, .int l), (2, .int yy), (3, .int ya), (4, .int yt), (5, .int yq)]) (st' := [.int yq]) (by rfl) ?_
              refine Pa.ic (x := 0) (pc' := 31) (by rfl) (by rfl) (by decide) ?_
              refine Pa.ic (x := 1) (pc' := 32) (by rfl) (by rfl) (by decide) ?_
              refine Pa.ist (by rfl) (by rfl) (.inl rfl) (by rfl) (by rfl) ?_
              show Pa N 146 0 [(0, .int yq), (1, .int 0), (2, .int 1)] [] yA _
              refine Pa.mp 2 (pc' := 2) (l' := [(0, .int yq), (1, .int 0), (2, .int 1)]) (st' := [.int 0, .int yq]) (by rfl) ?_
              refine Pa.if2 (a := yq.toInt) (b := 0) (t := 14) (by rfl) (by rfl) (rfl) (by decide) (fun h13 => ?_) (fun h14 => ?_)
              · have h13 : yq.toInt < 0 := h13
                refine Pa.ic (x := 0) (pc' := 15) (by rfl) (by rfl) (by decide) ?_
                refine Pa.iret (by rfl) ?_
                show Pa N 135 35 [(0, .ref 0), (1, .int l), (2, .int yy), (3, .int ya), (4, .int yt), (5, .int yq)] [.int 0] yA _
                refine Pa.if1k false (by rfl) (by rfl) (by decide) ?_
                show Pa N 135 38 [(0, .ref 0), (1, .int l), (2, .int yy), (3, .int ya), (4, .int yt), (5, .int yq)] [] yA _
                refine Pa.icl (x := (-2000000000)) (pc' := 40) (by rfl) (fun _ _ _ => by rfl) (by decide) ?_
                refine Pa.iret (by rfl) ?_
                exact l7 h2 h4 h6 h8 h10 h12 h13
              · have h14 : 0 ≤ yq.toInt := h14
                refine Pa.mp 2 (pc' := 7) (l' := [(0, .int yq), (1, .int 0), (2, .int 1)]) (st' := [.int 1, .int yq]) (by rfl) ?_
                refine Pa.if2 (a := yq.toInt) (b := 1) (t := 14) (by rfl) (by rfl) (rfl) (by decide) (fun h15 => ?_) (fun yh16 => ?_)
                · have h15 : 1 < yq.toInt := h15
                  refine Pa.ic (x := 0) (pc' := 15) (by rfl) (by rfl) (by decide) ?_
                  refine Pa.iret (by rfl) ?_
                  show Pa N 135 35 [(0, .ref 0), (1, .int l), (2, .int yy), (3, .int ya), (4, .int yt), (5, .int yq)] [.int 0] yA _
                  refine Pa.if1k false (by rfl) (by rfl) (by decide) ?_
                  show Pa N 135 38 [(0, .ref 0), (1, .int l), (2, .int yy), (3, .int ya), (4, .int yt), (5, .int yq)] [] yA _
                  refine Pa.icl (x := (-2000000000)) (pc' := 40) (by rfl) (fun _ _ _ => by rfl) (by decide) ?_
                  refine Pa.iret (by rfl) ?_
                  exact l8 h2 h4 h6 h8 h10 h12 h14 h15
                · have yh16 : yq.toInt ≤ 1 := yh16
                  refine Pa.ic (x := 1) (pc' := 11) (by rfl) (by rfl) (by decide) ?_
                  refine Pa.mp 1 (pc' := 15) (l' := [(0, .int yq), (1, .int 0), (2, .int 1)]) (st' := [.int 1]) (by rfl) ?_
                  refine Pa.iret (by rfl) ?_
                  show Pa N 135 35 [(0, .ref 0), (1, .int l), (2, .int yy), (3, .int ya), (4, .int yt), (5, .int yq)] [.int 1] yA _
                  refine Pa.if1k true (by rfl) (by rfl) (by decide) ?_
                  show Pa N 135 41 [(0, .ref 0), (1, .int l), (2, .int yy), (3, .int ya), (4, .int yt), (5, .int yq)] [] yA _
                  refine Pa.mp 1 (pc' := 42) (l' := [(0, .ref 0), (1, .int l), (2, .int yy), (3, .int ya), (4, .int yt), (5, .int yq)]) (st' := [.int ya]) (by rfl) ?_
                  refine Pa.ic (x := 1000) (pc' := 45) (by rfl) (by rfl) (by decide) ?_
                  refine Pa.idiv (by rfl) ?_
                  refine Pa.mp 2 (pc' := 49) (l' := [(6, .int (ya / 1000)), (0, .ref 0), (1, .int l), (2, .int yy), (3, .int ya), (4, .int yt), (5, .int yq)]) (st' := [.int ya]) (by rfl) ?_
                  refine Pa.ic (x := 1000) (pc' := 52) (by rfl) (by rfl) (by decide) ?_
                  refine Pa.irem (by rfl) ?_
                  refine Pa.mp 2 (pc' := 57) (l' := [(7, .int (ya - ya / 1000 * 1000)), (6, .int (ya / 1000)), (0, .ref 0), (1, .int l), (2, .int yy), (3, .int ya), (4, .int yt), (5, .int yq)]) (st' := [.int (ya / 1000)]) (by rfl) ?_
                  refine Pa.ic (x := 0) (pc' := 58) (by rfl) (by rfl) (by decide) ?_
                  refine Pa.ic (x := 100) (pc' := 60) (by rfl) (by rfl) (by decide) ?_
                  refine Pa.ist (by rfl) (by rfl) (.inl rfl) (by rfl) (by rfl) ?_
                  show Pa N 146 0 [(0, .int (ya / 1000)), (1, .int 0), (2, .int 100)] [] yA _
                  refine Pa.mp 2 (pc' := 2) (l' := [(0, .int (ya / 1000)), (1, .int 0), (2, .int 100)]) (st' := [.int 0, .int (ya / 1000)]) (by rfl) ?_
                  refine Pa.if2 (a := (ya / 1000).toInt) (b := 0) (t := 14) (by rfl) (by rfl) (rfl) (by decide) (fun h17 => ?_) (fun h18 => ?_)
                  · have h17 : (ya / 1000).toInt < 0 := h17
                    refine Pa.ic (x := 0) (pc' := 15) (by rfl) (by rfl) (by decide) ?_
                    refine Pa.iret (by rfl) ?_
                    show Pa N 135 63 [(7, .int (ya - ya / 1000 * 1000)), (6, .int (ya / 1000)), (0, .ref 0), (1, .int l), (2, .int yy), (3, .int ya), (4, .int yt), (5, .int yq)] [.int 0] yA _
                    refine Pa.if1k true (by rfl) (by rfl) (by decide) ?_
                    show Pa N 135 77 [(7, .int (ya - ya / 1000 * 1000)), (6, .int (ya / 1000)), (0, .ref 0), (1, .int l), (2, .int yy), (3, .int ya), (4, .int yt), (5, .int yq)] [] yA _
                    refine Pa.icl (x := (-2000000000)) (pc' := 79) (by rfl) (fun _ _ _ => by rfl) (by decide) ?_
                    refine Pa.iret (by rfl) ?_
                    exact l9 h2 h4 h6 h8 h10 h12 h14 yh16 h17
                  · have h18 : 0 ≤ (ya / 1000).toInt := h18
                    refine Pa.mp 2 (pc' := 7) (l' := [(0, .int (ya / 1000)), (1, .int 0), (2, .int 100)]) (st' := [.int 100, .int (ya / 1000)]) (by rfl) ?_
                    refine Pa.if2 (a := (ya / 1000).toInt) (b := 100) (t := 14) (by rfl) (by rfl) (rfl) (by decide) (fun h19 => ?_) (fun h20 => ?_)
                    · have h19 : 100 < (ya / 1000).toInt := h19
                      refine Pa.ic (x := 0) (pc' := 15) (by rfl) (by rfl) (by decide) ?_
                      refine Pa.iret (by rfl) ?_
                      show Pa N 135 63 [(7, .int (ya - ya / 1000 * 1000)), (6, .int (ya / 1000)), (0, .ref 0), (1, .int l), (2, .int yy), (3, .int ya), (4, .int yt), (5, .int yq)] [.int 0] yA _
                      refine Pa.if1k true (by rfl) (by rfl) (by decide) ?_
                      show Pa N 135 77 [(7, .int (ya - ya / 1000 * 1000)), (6, .int (ya / 1000)), (0, .ref 0), (1, .int l), (2, .int yy), (3, .int ya), (4, .int yt), (5, .int yq)] [] yA _
                      refine Pa.icl (x := (-2000000000)) (pc' := 79) (by rfl) (fun _ _ _ => by rfl) (by decide) ?_
                      refine Pa.iret (by rfl) ?_
                      exact l10 h2 h4 h6 h8 h10 h12 h14 yh16 h18 h19
                    · have h20 : (ya / 1000).toInt ≤ 100 := h20
                      refine Pa.ic (x := 1) (pc' := 11) (by rfl) (by rfl) (by decide) ?_
                      refine Pa.mp 1 (pc' := 15) (l' := [(0, .int (ya / 1000)), (1, .int 0), (2, .int 100)]) (st' := [.int 1]) (by rfl) ?_
                      refine Pa.iret (by rfl) ?_
                      show Pa N 135 63 [(7, .int (ya - ya / 1000 * 1000)), (6, .int (ya / 1000)), (0, .ref 0), (1, .int l), (2, .int yy), (3, .int ya), (4, .int yt), (5, .int yq)] [.int 1] yA _
                      refine Pa.if1k false (by rfl) (by rfl) (by decide) ?_
                      show Pa N 135 66 [(7, .int (ya - ya / 1000 * 1000)), (6, .int (ya / 1000)), (0, .ref 0), (1, .int l), (2, .int yy), (3, .int ya), (4, .int yt), (5, .int yq)] [] yA _
                      refine Pa.mp 1 (pc' := 68) (l' := [(7, .int (ya - ya / 1000 * 1000)), (6, .int (ya / 1000)), (0, .ref 0), (1, .int l), (2, .int yy), (3, .int ya), (4, .int yt), (5, .int yq)]) (st' := [.int (ya - ya / 1000 * 1000)]) (by rfl) ?_
                      refine Pa.ic (x := 0) (pc' := 69) (by rfl) (by rfl) (by decide) ?_
                      refine Pa.ic (x := 100) (pc' := 71) (by rfl) (by rfl) (by decide) ?_
                      refine Pa.ist (by rfl) (by rfl) (.inl rfl) (by rfl) (by rfl) ?_
                      show Pa N 146 0 [(0, .int (ya - ya / 1000 * 1000)), (1, .int 0), (2, .int 100)] [] yA _
                      refine Pa.mp 2 (pc' := 2) (l' := [(0, .int (ya - ya / 1000 * 1000)), (1, .int 0), (2, .int 100)]) (st' := [.int 0, .int (ya - ya / 1000 * 1000)]) (by rfl) ?_
                      refine Pa.if2 (a := (ya - ya / 1000 * 1000).toInt) (b := 0) (t := 14) (by rfl) (by rfl) (rfl) (by decide) (fun h21 => ?_) (fun h22 => ?_)
                      · have h21 : (ya - ya / 1000 * 1000).toInt < 0 := h21
                        refine Pa.ic (x := 0) (pc' := 15) (by rfl) (by rfl) (by decide) ?_
                        refine Pa.iret (by rfl) ?_
                        show Pa N 135 74 [(7, .int (ya - ya / 1000 * 1000)), (6, .int (ya / 1000)), (0, .ref 0), (1, .int l), (2, .int yy), (3, .int ya), (4, .int yt), (5, .int yq)] [.int 0] yA _
                        refine Pa.if1k false (by rfl) (by rfl) (by decide) ?_
                        show Pa N 135 77 [(7, .int (ya - ya / 1000 * 1000)), (6, .int (ya / 1000)), (0, .ref 0), (1, .int l), (2, .int yy), (3, .int ya), (4, .int yt), (5, .int yq)] [] yA _
                        refine Pa.icl (x := (-2000000000)) (pc' := 79) (by rfl) (fun _ _ _ => by rfl) (by decide) ?_
                        refine Pa.iret (by rfl) ?_
                        exact l11 h2 h4 h6 h8 h10 h12 h14 yh16 h18 h20 h21
                      · have h22 : 0 ≤ (ya - ya / 1000 * 1000).toInt := h22
                        refine Pa.mp 2 (pc' := 7) (l' := [(0, .int (ya - ya / 1000 * 1000)), (1, .int 0), (2, .int 100)]) (st' := [.int 100, .int (ya - ya / 1000 * 1000)]) (by rfl) ?_
                        refine Pa.if2 (a := (ya - ya / 1000 * 1000).toInt) (b := 100) (t := 14) (by rfl) (by rfl) (rfl) (by decide) (fun h23 => ?_) (fun h24 => ?_)
                        · have h23 : 100 < (ya - ya / 1000 * 1000).toInt := h23
                          refine Pa.ic (x := 0) (pc' := 15) (by rfl) (by rfl) (by decide) ?_
                          refine Pa.iret (by rfl) ?_
                          show Pa N 135 74 [(7, .int (ya - ya / 1000 * 1000)), (6, .int (ya / 1000)), (0, .ref 0), (1, .int l), (2, .int yy), (3, .int ya), (4, .int yt), (5, .int yq)] [.int 0] yA _
                          refine Pa.if1k false (by rfl) (by rfl) (by decide) ?_
                          show Pa N 135 77 [(7, .int (ya - ya / 1000 * 1000)), (6, .int (ya / 1000)), (0, .ref 0), (1, .int l), (2, .int yy), (3, .int ya), (4, .int yt), (5, .int yq)] [] yA _
                          refine Pa.icl (x := (-2000000000)) (pc' := 79) (by rfl) (fun _ _ _ => by rfl) (by decide) ?_
                          refine Pa.iret (by rfl) ?_
                          exact l12 h2 h4 h6 h8 h10 h12 h14 yh16 h18 h20 h22 h23
                        · have h24 : (ya - ya / 1000 * 1000).toInt ≤ 100 := h24
                          refine Pa.ic (x := 1) (pc' := 11) (by rfl) (by rfl) (by decide) ?_
                          refine Pa.mp 1 (pc' := 15) (l' := [(0, .int (ya - ya / 1000 * 1000)), (1, .int 0), (2, .int 100)]) (st' := [.int 1]) (by rfl) ?_
                          refine Pa.iret (by rfl) ?_
                          show Pa N 135 74 [(7, .int (ya - ya / 1000 * 1000)), (6, .int (ya / 1000)), (0, .ref 0), (1, .int l), (2, .int yy), (3, .int ya), (4, .int yt), (5, .int yq)] [.int 1] yA _
                          refine Pa.if1k true (by rfl) (by rfl) (by decide) ?_
                          show Pa N 135 80 [(7, .int (ya - ya / 1000 * 1000)), (6, .int (ya / 1000)), (0, .ref 0), (1, .int l), (2, .int yy), (3, .int ya), (4, .int yt), (5, .int yq)] [] yA _
                          refine Pa.mp 1 (pc' := 81) (l' := [(7, .int (ya - ya / 1000 * 1000)), (6, .int (ya / 1000)), (0, .ref 0), (1, .int l), (2, .int yy), (3, .int ya), (4, .int yt), (5, .int yq)]) (st' := [.ref 0]) (by rfl) ?_
                          refine Pa.gfR (by rfl) (by rfl) (.inl rfl) (by rfl) ?_
                          show Pa N 135 84 [(7, .int (ya - ya / 1000 * 1000)), (6, .int (ya / 1000)), (0, .ref 0), (1, .int l), (2, .int yy), (3, .int ya), (4, .int yt), (5, .int yq)] [.ref 46] yA _
                          refine Pa.mp 3 (pc' := 88) (l' := [(7, .int (ya - ya / 1000 * 1000)), (6, .int (ya / 1000)), (0, .ref 0), (1, .int l), (2, .int yy), (3, .int ya), (4, .int yt), (5, .int yq)]) (st' := [.int yq, .int yy, .int l, .ref 46]) (by rfl) ?_
                          refine Pa.if1 (a := yq.toInt) (t := 96) (by rfl) (by rfl) (rfl) (fun h25 => ?_) (fun h26 => ?_)
                          · have h25 : yq.toInt ≠ 0 := h25
                            refine Pa.mp 3 (pc' := 101) (l' := [(7, .int (ya - ya / 1000 * 1000)), (6, .int (ya / 1000)), (0, .ref 0), (1, .int l), (2, .int yy), (3, .int ya), (4, .int yt), (5, .int yq)]) (st' := [.ref 0, .int yt, .int (ya - ya / 1000 * 1000), .int yy, .int l, .ref 46]) (by rfl) ?_
                            refine Pa.gfI (v := yA.1 0 10) (by rfl) (by rfl) (.inl rfl) (by rfl) (by rfl) ?_
                            refine Pa.lv (l' := [(0, .ref 0), (1, .int l), (2, .int yy), (3, .int ya), (4, .int yt), (5, .int yq), (6, .int (ya / 1000)), (7, .int (ya - ya / 1000 * 1000))]) (lvS_c rfl (lvS_c rfl (lvS_c rfl (lvS_c rfl (lvS_c rfl (lvS_c rfl (lvS_c rfl (lvS_c rfl (lvS_nil))))))))) rfl ?_
                            refine Pa.inv (by rfl) (by rfl) (.inr rfl) (by rfl) ?_
                            exact l13 h2 h4 h6 h8 h10 h12 h14 yh16 h18 h20 h22 h24 h25
                          · have h26 : yq.toInt = 0 := h26
                            refine Pa.mp 4 (pc' := 101) (l' := [(7, .int (ya - ya / 1000 * 1000)), (6, .int (ya / 1000)), (0, .ref 0), (1, .int l), (2, .int yy), (3, .int ya), (4, .int yt), (5, .int yq)]) (st' := [.ref 0, .int yt, .int (ya / 1000), .int yy, .int l, .ref 46]) (by rfl) ?_
                            refine Pa.gfI (v := yA.1 0 10) (by rfl) (by rfl) (.inl rfl) (by rfl) (by rfl) ?_
                            refine Pa.lv (l' := [(0, .ref 0), (1, .int l), (2, .int yy), (3, .int ya), (4, .int yt), (5, .int yq), (6, .int (ya / 1000)), (7, .int (ya - ya / 1000 * 1000))]) (lvS_c rfl (lvS_c rfl (lvS_c rfl (lvS_c rfl (lvS_c rfl (lvS_c rfl (lvS_c rfl (lvS_c rfl (lvS_nil))))))))) rfl ?_
                            refine Pa.inv (by rfl) (by rfl) (.inr rfl) (by rfl) ?_
                            exact l14 h2 h4 h6 h8 h10 h12 h14 yh16 h18 h20 h22 h24 h26

theorem d_gain {yA : AW} (yg : Rgx yA) (N : Nat) (l yy ya yt yq : Int32) : Pa N 135 0 [(0, .ref 0), (1, .int l), (2, .int yy), (3, .int ya), (4, .int yt), (5, .int yq)] [] yA (dGn l yy ya yt yq yA) := by
  have ab := ab_rg ya
  have yd9 := yg.gl.ok.fld (i := 69) (k := 0) (lo := 0) (hi := 3599) (by decide +kernel)
  have ed : yA.1 0 10 = yA.1 69 0 := yg.F11 ((0, 10), (69, 0)) (by simp [F11])
  refine bx_gn l yy ya yt yq ?_ ?_ ?_ ?_ ?_ ?_ ?_ ?_ ?_ ?_ ?_ ?_ ?_ ?_
  · exact fun _ => .inl ⟨fun yz => by unfold okGn at yz; omega, rfl, rfl⟩
  · exact fun _ _ => .inl ⟨fun yz => by unfold okGn at yz; omega, rfl, rfl⟩
  · exact fun _ _ _ => .inl ⟨fun yz => by unfold okGn at yz; omega, rfl, rfl⟩
  · exact fun _ _ _ _ => .inl ⟨fun yz => by unfold okGn at yz; omega, rfl, rfl⟩
  · exact fun _ _ _ _ _ => .inl ⟨fun yz => by unfold okGn at yz; omega, rfl, rfl⟩
  · exact fun _ _ _ _ _ _ => .inl ⟨fun yz => by unfold okGn at yz; omega, rfl, rfl⟩
  · exact fun _ _ _ _ _ _ _ => .inl ⟨fun yz => by unfold okGn at yz; omega, rfl, rfl⟩
  · exact fun _ _ _ _ _ _ _ _ => .inl ⟨fun yz => by unfold okGn at yz; omega, rfl, rfl⟩
  · exact fun _ _ _ _ _ _ _ _ z1 => .inl ⟨fun yz => by unfold okGn at yz; omega, rfl, rfl⟩
  · exact fun _ _ _ _ _ _ _ _ _ z1 => .inl ⟨fun yz => by unfold okGn at yz; omega, rfl, rfl⟩
  · exact fun _ _ _ _ _ _ _ _ _ _ z1 => .inl ⟨fun yz => by unfold okGn at yz; omega, rfl, rfl⟩
  · exact fun _ _ _ _ _ _ _ _ _ _ _ z1 => .inl ⟨fun yz => by unfold okGn at yz; omega, rfl, rfl⟩
  · intro y1 y2 y3 y4 y5 y6 y7 y8 y9 y10 y11 y12 y13
    rw [ed]
    refine Pa.mono (c_gaX yg (scX_refl yA) l yy _ yt (yA.1 69 0) yd9.2 N) (fun yv A1 hv => ?_)
    obtain ⟨rfl, ys1⟩ := hv
    refine Pa.iret (by rfl) (.inr ⟨⟨⟨y1, y2⟩, ⟨y3, y4⟩, ⟨y5, y6⟩, ⟨y7, y8⟩, ab.mpr ⟨y9, y11⟩, y10, y12⟩, ?_, ys1⟩)
    unfold gvn
    rw [if_neg y13]
  · intro y1 y2 y3 y4 y5 y6 y7 y8 y9 y10 y11 y12 y13
    rw [ed]
    refine Pa.mono (c_gaX yg (scX_refl yA) l yy _ yt (yA.1 69 0) yd9.2 N) (fun yv A1 hv => ?_)
    obtain ⟨rfl, ys1⟩ := hv
    refine Pa.iret (by rfl) (.inr ⟨⟨⟨y1, y2⟩, ⟨y3, y4⟩, ⟨y5, y6⟩, ⟨y7, y8⟩, ab.mpr ⟨y9, y11⟩, y10, y12⟩, ?_, ys1⟩)
    unfold gvn
    rw [if_pos y13]
theorem e_gain {yW : AW} (yg : Rgx yW) (hp : Rpr yW) (N : Nat) (l yy ya yt yq : Int32) : Pa N 240 0 [(0, .ref 69), (1, .int l), (2, .int yy), (3, .int ya), (4, .int yt), (5, .int yq)] [] yW (eGn l yy ya yt yq yW) := Pa.any (yP := fun yA => (Rgx yA ∧ Rpr yA) ∧ smM yW yA yW) (e_gain0 yg hp (smM_refl yW) N l yy ya yt yq) (fun yA hA => e_gain0 hA.1.1 hA.1.2 hA.2 N l yy ya yt yq)
def Ip : List Nat := [0, 1, 2, 3, 4, 5, 6, 7, 9]
theorem Rgx_p {yA : AW} (hA : okA yA) (hF : eqF Fg yA) (hR : eqRs Ag yA) (hX : RXL Ip yA) : Rgx yA ∧ Rpr yA := ⟨Rgx_of hA hF hR (fun yi yhi => hX yi (fsub_ok (yF := Ip) (F' := Ig) (by decide) yhi)), hX 9 (by decide)⟩
theorem h_gain {yp : zPr} (hp : yp.1 = 135 ∧ yp.2.1 = 240 ∧ yp.2.2.1 = 5) (yhc : c_rm yp = true) (yq1 : (ri_wr zZ Fg Ag (wX yp) && kXL Ip (wX yp)) = true) (yq2 : (ri_wr zZ Fg Ag (wM yp) && kXL Ip (wM yp)) = true) : PairOK (RR Fg Ag (RXL Ip)) yp := by
  obtain ⟨yp1, yp2, yp3⟩ := hp
  refine pairF (D := on5 dGn) (E := on5 eGn) (by decide +kernel) (by decide +kernel) yhc (keepXL Ip) yq1 yq2 (fun N yA yas o hF hR hX hl => ?_) (fun N yA yas o hF hR hX hl => ?_) (fun yA A1 A2 yas yx yy o _ _ hF hR hX _ _ _ hl ys1 ys2 _ => ?_)
  · rw [yp3] at hl
    obtain ⟨yf, l, ye, yk, yq, rfl⟩ := as5 hl
    rw [yp1]
    exact d_gain (Rgx_p o hF hR hX).1 N yf l ye yk yq
  · rw [yp3] at hl
    obtain ⟨yf, l, ye, yk, yq, rfl⟩ := as5 hl
    rw [yp2]
    exact e_gain (Rgx_p o hF hR hX).1 (Rgx_p o hF hR hX).2 N yf l ye yk yq
  · rw [yp3] at hl
    obtain ⟨yf, l, ye, yk, yq, rfl⟩ := as5 hl
    have yg := Rgx_p o hF hR hX
    rcases ys1 with ⟨ya1, a2, rfl⟩ | ⟨ya1, a2, ys⟩
    · rcases ys2 _ ⟨yg, smM_refl _⟩ with ⟨b1, b2⟩ | ⟨b1, b2⟩
      · rw [some_int a2, some_int b2]
      · exact absurd b1 ya1
    · rcases ys2 _ ⟨yg, smM_sc ys⟩ with ⟨b1, b2⟩ | ⟨b1, b2⟩
      · exact absurd ya1 b1
      · rw [some_int a2, some_int b2]
