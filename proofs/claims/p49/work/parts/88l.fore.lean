/-! GIVEN, FORETOLD: the reference, the pairs -/
/-- scratch alone is written, and nothing of the class -/
def smW (yB yA yW : AW) : Prop := smM yW yA yW ∧ ∀ yd yj, yd < 69 → yW.1 yd yj = yB.1 yd yj
theorem smW_refl {yA yW : AW} (yh : smM yW yA yW) : smW yW yA yW := ⟨yh, fun _ _ _ => rfl⟩
theorem smW_k {yB yA yW : AW} (yh : smW yB yA yW) {yc yq : Nat} {ym : Int32} (yhc : smQ yc) : smW yB yA (uI yW yc yq ym) := ⟨smM_k yh.1 yhc, fun yd yj yhd => (uI_c (by have yq : 118 ≤ yc ∧ yc ≤ 127 := yhc; omega)).trans (yh.2 yd yj yhd)⟩
theorem smW_rb {yB yA yU V : AW} (yh : smW yB yA yU) (ys : smM yU yA V) : smW yB yA V := ⟨smM_rb ys, fun yd yj yhd => (ys.2.2.2 yd yj (.inl yhd)).trans (yh.2 yd yj yhd)⟩
theorem bm_fdq0 {N : Nat} {yA : AW} {yQ : Option Value → AW → Prop} (l : Int32)
    (l1 : Pa N 222 2 [(0, .ref 69), (1, .int l), (2, .int 0)] [] yA yQ) :
    Pa N 222 0 [(0, .ref 69), (1, .int l)] [] yA yQ := by
  refine Pa.ic (x := 0) (pc' := 1) (by rfl) (by rfl) (by decide) ?_
  refine Pa.mp 1 (pc' := 2) (l' := [(2, .int 0), (0, .ref 69), (1, .int l)]) (st' := []) (by rfl) ?_
  refine Pa.lv (l' := [(0, .ref 69), (1, .int l), (2, .int 0)]) (lvS_c rfl (lvS_c rfl (lvS_c rfl (lvS_nil)))) rfl ?_
  exact l1

theorem bm_fdq {N : Nat} {yA : AW} {yQ : Option Value → AW → Prop} (l yi : Int32)
    (l1 : (yA.1 69 52).toInt ≤ yi.toInt → yQ none yA)
    (l2 : yi.toInt < (yA.1 69 52).toInt → 0 ≤ yi.toInt → yi.toInt < 60 → (yA.1 107 yi.toInt.toNat).toInt ≠ l.toInt → Pa N 222 2 [(0, .ref 69), (1, .int l), (2, .int (yi + 1))] [] (uI (uI yA 118 yi.toInt.toNat 0) 119 yi.toInt.toNat 0) yQ)
    (l3 : yi.toInt < (yA.1 69 52).toInt → 0 ≤ yi.toInt → yi.toInt < 60 → (yA.1 107 yi.toInt.toNat).toInt = l.toInt → Pa N 218 0 [(0, .ref 69), (1, .int (yA.1 106 yi.toInt.toNat)), (2, .int l), (3, .int (yA.1 69 0))] [] yA (fun yu A1 => Pa N 222 40 [(0, .ref 69), (1, .int l), (2, .int yi)] (yu.toList ++ [.int yi, .ref 118]) A1 yQ)) :
    Pa (N + 1) 222 2 [(0, .ref 69), (1, .int l), (2, .int yi)] [] yA yQ := by
  refine Pa.mp1 1 (pc' := 4) (l' := [(0, .ref 69), (1, .int l), (2, .int yi)]) (st' := [.ref 69, .int yi]) (by rfl) ?_
  refine Pa.gfI (v := yA.1 69 52) (by rfl) (by rfl) (.inl rfl) (by rfl) (by rfl) ?_
  refine Pa.if2 (a := yi.toInt) (b := (yA.1 69 52).toInt) (t := 58) (by rfl) (by rfl) (rfl) (rfl) (fun h1 => ?_) (fun h2 => ?_)
  · have h1 : (yA.1 69 52).toInt ≤ yi.toInt := h1
    refine Pa.vret (by rfl) ?_
    exact l1 h1
  · have h2 : yi.toInt < (yA.1 69 52).toInt := h2
    refine Pa.mp 1 (pc' := 11) (l' := [(0, .ref 69), (1, .int l), (2, .int yi)]) (st' := [.ref 69]) (by rfl) ?_
    refine Pa.gfR (by rfl) (by rfl) (.inl rfl) (by rfl) ?_
    show Pa N 222 14 [(0, .ref 69), (1, .int l), (2, .int yi)] [.ref 118] yA _
    refine Pa.mp 2 (pc' := 16) (l' := [(0, .ref 69), (1, .int l), (2, .int yi)]) (st' := [.ref 69, .int yi, .ref 118]) (by rfl) ?_
    refine Pa.gfR (by rfl) (by rfl) (.inl rfl) (by rfl) ?_
    show Pa N 222 19 [(0, .ref 69), (1, .int l), (2, .int yi)] [.ref 107, .int yi, .ref 118] yA _
    refine Pa.mp 1 (pc' := 20) (l' := [(0, .ref 69), (1, .int l), (2, .int yi)]) (st' := [.int yi, .ref 107, .int yi, .ref 118]) (by rfl) ?_
    refine Pa.alds (v := yA.1 107 yi.toInt.toNat) (by rfl) (by rfl) (by rfl) (fun h3 h4 => ?_)
    have h3 : 0 ≤ yi.toInt := h3
    have h4 : yi.toInt < 60 := h4
    refine Pa.mp 1 (pc' := 22) (l' := [(0, .ref 69), (1, .int l), (2, .int yi)]) (st' := [.int l, .int (yA.1 107 yi.toInt.toNat), .int yi, .ref 118]) (by rfl) ?_
    refine Pa.if2 (a := (yA.1 107 yi.toInt.toNat).toInt) (b := l.toInt) (t := 43) (by rfl) (by rfl) (rfl) (rfl) (fun h5 => ?_) (fun h6 => ?_)
    · have h5 : (yA.1 107 yi.toInt.toNat).toInt ≠ l.toInt := h5
      refine Pa.ic (x := 0) (pc' := 44) (by rfl) (by rfl) (by decide) ?_
      refine Pa.asts (j' := yi.toInt.toNat) (by rfl) (by rfl) (by rfl) (fun h7 h8 => ?_)
      have h7 : 0 ≤ yi.toInt := h7
      have h8 : yi.toInt < 60 := h8
      show Pa N 222 45 [(0, .ref 69), (1, .int l), (2, .int yi)] [] (uI yA 118 yi.toInt.toNat 0) _
      refine Pa.mp 1 (pc' := 46) (l' := [(0, .ref 69), (1, .int l), (2, .int yi)]) (st' := [.ref 69]) (by rfl) ?_
      refine Pa.gfR (by rfl) (by rfl) (.inl rfl) (by rfl) ?_
      show Pa N 222 49 [(0, .ref 69), (1, .int l), (2, .int yi)] [.ref 119] (uI yA 118 yi.toInt.toNat 0) _
      refine Pa.mp 1 (pc' := 50) (l' := [(0, .ref 69), (1, .int l), (2, .int yi)]) (st' := [.int yi, .ref 119]) (by rfl) ?_
      refine Pa.ic (x := 0) (pc' := 51) (by rfl) (by rfl) (by decide) ?_
      refine Pa.asts (j' := yi.toInt.toNat) (by rfl) (by rfl) (by rfl) (fun h9 h10 => ?_)
      have h9 : 0 ≤ yi.toInt := h9
      have h10 : yi.toInt < 60 := h10
      show Pa N 222 52 [(0, .ref 69), (1, .int l), (2, .int yi)] [] (uI (uI yA 118 yi.toInt.toNat 0) 119 yi.toInt.toNat 0) _
      refine Pa.iinc (x := yi) (c := 1) (v := (yi + 1)) (l' := [(2, .int (yi + 1)), (0, .ref 69), (1, .int l)]) (by rfl) (by rfl) (by decide) (by rfl) (by rfl) ?_
      refine Pa.mp 1 (pc' := 2) (l' := [(2, .int (yi + 1)), (0, .ref 69), (1, .int l)]) (st' := []) (by rfl) ?_
      refine Pa.lv (l' := [(0, .ref 69), (1, .int l), (2, .int (yi + 1))]) (lvS_c rfl (lvS_c rfl (lvS_c rfl (lvS_nil)))) rfl ?_
      exact l2 h2 h3 h4 h5
    · have h6 : (yA.1 107 yi.toInt.toNat).toInt = l.toInt := h6
      refine Pa.mp 2 (pc' := 27) (l' := [(0, .ref 69), (1, .int l), (2, .int yi)]) (st' := [.ref 69, .ref 69, .int yi, .ref 118]) (by rfl) ?_
      refine Pa.gfR (by rfl) (by rfl) (.inl rfl) (by rfl) ?_
      show Pa N 222 30 [(0, .ref 69), (1, .int l), (2, .int yi)] [.ref 106, .ref 69, .int yi, .ref 118] yA _
      refine Pa.mp 1 (pc' := 31) (l' := [(0, .ref 69), (1, .int l), (2, .int yi)]) (st' := [.int yi, .ref 106, .ref 69, .int yi, .ref 118]) (by rfl) ?_
      refine Pa.alds (v := yA.1 106 yi.toInt.toNat) (by rfl) (by rfl) (by rfl) (fun h11 h12 => ?_)
      have h11 : 0 ≤ yi.toInt := h11
      have h12 : yi.toInt < 60 := h12
      refine Pa.mp 2 (pc' := 34) (l' := [(0, .ref 69), (1, .int l), (2, .int yi)]) (st' := [.ref 69, .int l, .int (yA.1 106 yi.toInt.toNat), .ref 69, .int yi, .ref 118]) (by rfl) ?_
      refine Pa.gfI (v := yA.1 69 0) (by rfl) (by rfl) (.inl rfl) (by rfl) (by rfl) ?_
      refine Pa.inv (by rfl) (by rfl) (.inl rfl) (by rfl) ?_
      exact l3 h2 h3 h4 h6

theorem bm_fdq1 {N : Nat} {yA : AW} {yQ : Option Value → AW → Prop} (l yi yv : Int32)
    (l1 : 0 ≤ yi.toInt → yi.toInt < 60 → Pa N 222 2 [(0, .ref 69), (1, .int l), (2, .int (yi + 1))] [] (uI (uI yA 118 yi.toInt.toNat yv) 119 yi.toInt.toNat 0) yQ) :
    Pa N 222 40 [(0, .ref 69), (1, .int l), (2, .int yi)] [.int yv, .int yi, .ref 118] yA yQ := by
  refine Pa.mp 1 (pc' := 44) (l' := [(0, .ref 69), (1, .int l), (2, .int yi)]) (st' := [.int yv, .int yi, .ref 118]) (by rfl) ?_
  refine Pa.asts (j' := yi.toInt.toNat) (by rfl) (by rfl) (by rfl) (fun h1 h2 => ?_)
  have h1 : 0 ≤ yi.toInt := h1
  have h2 : yi.toInt < 60 := h2
  show Pa N 222 45 [(0, .ref 69), (1, .int l), (2, .int yi)] [] (uI yA 118 yi.toInt.toNat yv) _
  refine Pa.mp 1 (pc' := 46) (l' := [(0, .ref 69), (1, .int l), (2, .int yi)]) (st' := [.ref 69]) (by rfl) ?_
  refine Pa.gfR (by rfl) (by rfl) (.inl rfl) (by rfl) ?_
  show Pa N 222 49 [(0, .ref 69), (1, .int l), (2, .int yi)] [.ref 119] (uI yA 118 yi.toInt.toNat yv) _
  refine Pa.mp 1 (pc' := 50) (l' := [(0, .ref 69), (1, .int l), (2, .int yi)]) (st' := [.int yi, .ref 119]) (by rfl) ?_
  refine Pa.ic (x := 0) (pc' := 51) (by rfl) (by rfl) (by decide) ?_
  refine Pa.asts (j' := yi.toInt.toNat) (by rfl) (by rfl) (by rfl) (fun h3 h4 => ?_)
  have h3 : 0 ≤ yi.toInt := h3
  have h4 : yi.toInt < 60 := h4
  show Pa N 222 52 [(0, .ref 69), (1, .int l), (2, .int yi)] [] (uI (uI yA 118 yi.toInt.toNat yv) 119 yi.toInt.toNat 0) _
  refine Pa.iinc (x := yi) (c := 1) (v := (yi + 1)) (l' := [(2, .int (yi + 1)), (0, .ref 69), (1, .int l)]) (by rfl) (by rfl) (by decide) (by rfl) (by rfl) ?_
  refine Pa.mp 1 (pc' := 2) (l' := [(2, .int (yi + 1)), (0, .ref 69), (1, .int l)]) (st' := []) (by rfl) ?_
  refine Pa.lv (l' := [(0, .ref 69), (1, .int l), (2, .int (yi + 1))]) (lvS_c rfl (lvS_c rfl (lvS_c rfl (lvS_nil)))) rfl ?_
  exact l1 h1 h2

theorem c_fdM {yA yW : AW} (yg : Rqx yA) (hs : smM yW yA yW) (l : Int32) (N : Nat) : Pa N 222 0 [(0, .ref 69), (1, .int l)] [] yW (fun yv A1 => yv = none ∧ smW yW yA A1 ∧ ∀ yi, yi < qT yA → A1.1 118 yi = dqV yA l (yA.1 69 0) yi ∧ A1.1 119 yi = 0) := by
  have yhT := yg.tQ
  have ykey : ∀ (N yi : Nat) (yU : AW), yi ≤ qT yA → smW yW yA yU → (∀ yj, yj < yi → yU.1 118 yj = dqV yA l (yA.1 69 0) yj ∧ yU.1 119 yj = 0) → Pa N 222 2 [(0, .ref 69), (1, .int l), (2, .int (Int32.ofNat yi))] [] yU (fun yv A1 => yv = none ∧ smW yW yA A1 ∧ ∀ yi, yi < qT yA → A1.1 118 yi = dqV yA l (yA.1 69 0) yi ∧ A1.1 119 yi = 0) := by
    intro N
    induction N with
    | zero => intros; exact Pa.zero
    | succ N yih =>
      intro yi yU yhi hu h1
      have hq60 : qT yA ≤ 60 := by unfold qT; omega
      have ei : (Int32.ofNat yi).toInt = (yi : Int) := i32_nat (by omega)
      have e52 : (yU.1 69 52).toInt = (qT yA : Int) := by
        rw [hu.1.2.1 52 (by decide) (by decide) (by decide) (by decide) (by decide) (by decide) (by decide) (by decide)]
        unfold qT
        omega
      have ye0 : yU.1 69 0 = yA.1 69 0 := hu.1.2.1 0 (by decide) (by decide) (by decide) (by decide) (by decide) (by decide) (by decide) (by decide)
      have u7 : yU.1 107 yi = yA.1 107 yi := hu.1.lo (by decide) (by decide) yi
      have u6 : yU.1 106 yi = yA.1 106 yi := hu.1.lo (by decide) (by decide) yi
      have nx : ∀ (V : AW) (yx : Int32), yi < qT yA → smW yW yA V → (∀ yj, yj < yi → V.1 118 yj = dqV yA l (yA.1 69 0) yj ∧ V.1 119 yj = 0) → yx = dqV yA l (yA.1 69 0) yi → Pa N 222 2 [(0, .ref 69), (1, .int l), (2, .int (Int32.ofNat yi + 1))] [] (uI (uI V 118 yi yx) 119 yi 0) (fun yv A1 => yv = none ∧ smW yW yA A1 ∧ ∀ yi, yi < qT yA → A1.1 118 yi = dqV yA l (yA.1 69 0) yi ∧ A1.1 119 yi = 0) := fun V yx hiq hV hV1 hx => by
        have yh := yih (yi + 1) (uI (uI V 118 yi yx) 119 yi 0) (by omega) (smW_k (smW_k hV (by decide)) (by decide)) (fun yj hj => by
          rw [uI_c (by decide), uI_row, uI_row, uI_c (by decide)]
          by_cases ye : yj = yi
          · rw [if_pos ye, if_pos ye, ye]
            exact ⟨hx, rfl⟩
          · rw [if_neg ye, if_neg ye]
            exact hV1 yj (by omega))
        rw [on_succ yi] at yh
        exact yh
      refine bm_fdq l (Int32.ofNat yi) ?_ ?_ ?_ <;> rw [ei] <;> (try rw [e52]) <;> (try rw [Int.toNat_natCast])
      · intro yq
        exact ⟨rfl, hu, fun yj hj => h1 yj (by omega)⟩
      · intro yq1 yq2 yq3 yq4
        rw [u7] at yq4
        exact nx yU 0 (by omega) hu h1 (dqV_0 yq4).symm
      · intro yq1 yq2 yq3 yq4
        rw [u7] at yq4
        rw [u6, ye0]
        have iq : yi < qT yA := by omega
        refine Pa.mono (c_duM yg.gx hu.1 (yA.1 106 yi) l (yA.1 69 0) yg.d9.1 yg.d9.2 N) (fun yv A1 hv => ?_)
        obtain ⟨rfl, ys1⟩ := hv
        refine bm_fdq1 l (Int32.ofNat yi) _ ?_
        rw [ei, Int.toNat_natCast]
        exact fun _ _ => nx A1 _ iq (smW_rb hu ys1) (fun yj hj => by rw [ys1.2.2.2 118 yj (by decide), ys1.2.2.2 119 yj (by decide)]; exact h1 yj hj) (dqV_1 yq4).symm
  exact bm_fdq0 l (ykey N 0 yW (Nat.zero_le _) (smW_refl hs) (fun yj hj => absurd hj (Nat.not_lt_zero yj)))
theorem bm_gy0 {N : Nat} {yA : AW} {yQ : Option Value → AW → Prop} (l yy : Int32)
    (l1 : 0 ≤ ((10 * l) + yy).toInt → ((10 * l) + yy).toInt < 60 → Pa N 223 15 [(0, .ref 69), (1, .int l), (2, .int yy), (3, .int (yA.1 105 (((10 * l) + yy).toInt.toNat))), (4, .int 0), (5, .int 0)] [] yA yQ) :
    Pa N 223 0 [(0, .ref 69), (1, .int l), (2, .int yy)] [] yA yQ := by
  refine Pa.mp 1 (pc' := 1) (l' := [(0, .ref 69), (1, .int l), (2, .int yy)]) (st' := [.ref 69]) (by rfl) ?_
  refine Pa.gfR (by rfl) (by rfl) (.inl rfl) (by rfl) ?_
  show Pa N 223 4 [(0, .ref 69), (1, .int l), (2, .int yy)] [.ref 105] yA _
  refine Pa.ic (x := 10) (pc' := 6) (by rfl) (by rfl) (by decide) ?_
  refine Pa.mp 4 (pc' := 10) (l' := [(0, .ref 69), (1, .int l), (2, .int yy)]) (st' := [.int ((10 * l) + yy), .ref 105]) (by rfl) ?_
  refine Pa.alds (v := yA.1 105 (((10 * l) + yy).toInt.toNat)) (by rfl) (by rfl) (by rfl) (fun h1 h2 => ?_)
  have h1 : 0 ≤ ((10 * l) + yy).toInt := h1
  have h2 : ((10 * l) + yy).toInt < 60 := h2
  refine Pa.mp 1 (pc' := 12) (l' := [(3, .int (yA.1 105 (((10 * l) + yy).toInt.toNat))), (0, .ref 69), (1, .int l), (2, .int yy)]) (st' := []) (by rfl) ?_
  refine Pa.ic (x := 0) (pc' := 13) (by rfl) (by rfl) (by decide) ?_
  refine Pa.mp 1 (pc' := 15) (l' := [(4, .int 0), (3, .int (yA.1 105 (((10 * l) + yy).toInt.toNat))), (0, .ref 69), (1, .int l), (2, .int yy)]) (st' := []) (by rfl) ?_
  refine Pa.lv (l' := [(0, .ref 69), (1, .int l), (2, .int yy), (3, .int (yA.1 105 (((10 * l) + yy).toInt.toNat))), (4, .int 0), (5, .int 0)]) (lvS_c rfl (lvS_c rfl (lvS_c rfl (lvS_c rfl (lvS_c rfl (lvS_nil)))))) rfl ?_
  exact l1 h1 h2

theorem bm_gy {N : Nat} {yA : AW} {yQ : Option Value → AW → Prop} (l yy yt yi yg : Int32)
    (l1 : (yA.1 69 52).toInt ≤ yi.toInt → yQ none yA)
    (l2 : yi.toInt < (yA.1 69 52).toInt → 0 ≤ yi.toInt → yi.toInt < 60 → (yA.1 107 yi.toInt.toNat).toInt ≠ l.toInt → Pa N 223 15 [(0, .ref 69), (1, .int l), (2, .int yy), (3, .int yt), (4, .int (yi + 1)), (5, .int yg)] [] (uI yA 120 yi.toInt.toNat 0) yQ)
    (l3 : yi.toInt < (yA.1 69 52).toInt → 0 ≤ yi.toInt → yi.toInt < 60 → (yA.1 107 yi.toInt.toNat).toInt = l.toInt → yy.toInt < ((yA.1 108 yi.toInt.toNat) / 360).toInt → Pa N 223 15 [(0, .ref 69), (1, .int l), (2, .int yy), (3, .int yt), (4, .int (yi + 1)), (5, .int yg)] [] (uI yA 120 yi.toInt.toNat 0) yQ)
    (l4 : yi.toInt < (yA.1 69 52).toInt → 0 ≤ yi.toInt → yi.toInt < 60 → (yA.1 107 yi.toInt.toNat).toInt = l.toInt → ((yA.1 108 yi.toInt.toNat) / 360).toInt ≤ yy.toInt → yt.toInt ≤ ((yA.1 118 yi.toInt.toNat) - (yA.1 119 yi.toInt.toNat)).toInt → Pa N 223 15 [(0, .ref 69), (1, .int l), (2, .int yy), (3, .int (yt - yt)), (4, .int (yi + 1)), (5, .int yt)] [] (uI (uI (uI yA 120 yi.toInt.toNat 0) 120 yi.toInt.toNat yt) 119 yi.toInt.toNat ((yA.1 119 yi.toInt.toNat) + yt)) yQ)
    (l5 : yi.toInt < (yA.1 69 52).toInt → 0 ≤ yi.toInt → yi.toInt < 60 → (yA.1 107 yi.toInt.toNat).toInt = l.toInt → ((yA.1 108 yi.toInt.toNat) / 360).toInt ≤ yy.toInt → ((yA.1 118 yi.toInt.toNat) - (yA.1 119 yi.toInt.toNat)).toInt < yt.toInt → Pa N 223 15 [(0, .ref 69), (1, .int l), (2, .int yy), (3, .int (yt - ((yA.1 118 yi.toInt.toNat) - (yA.1 119 yi.toInt.toNat)))), (4, .int (yi + 1)), (5, .int ((yA.1 118 yi.toInt.toNat) - (yA.1 119 yi.toInt.toNat)))] [] (uI (uI (uI yA 120 yi.toInt.toNat 0) 120 yi.toInt.toNat ((yA.1 118 yi.toInt.toNat) - (yA.1 119 yi.toInt.toNat))) 119 yi.toInt.toNat ((yA.1 119 yi.toInt.toNat) + ((yA.1 118 yi.toInt.toNat) - (yA.1 119 yi.toInt.toNat)))) yQ) :
    Pa (N + 1) 223 15 [(0, .ref 69), (1, .int l), (2, .int yy), (3, .int yt), (4, .int yi), (5, .int yg)] [] yA yQ := by
  refine Pa.mp1 1 (pc' := 18) (l' := [(0, .ref 69), (1, .int l), (2, .int yy), (3, .int yt), (4, .int yi), (5, .int yg)]) (st' := [.ref 69, .int yi]) (by rfl) ?_
  refine Pa.gfI (v := yA.1 69 52) (by rfl) (by rfl) (.inl rfl) (by rfl) (by rfl) ?_
  refine Pa.if2 (a := yi.toInt) (b := (yA.1 69 52).toInt) (t := 121) (by rfl) (by rfl) (rfl) (rfl) (fun h1 => ?_) (fun h2 => ?_)
  · have h1 : (yA.1 69 52).toInt ≤ yi.toInt := h1
    refine Pa.vret (by rfl) ?_
    exact l1 h1
  · have h2 : yi.toInt < (yA.1 69 52).toInt := h2
    refine Pa.mp 1 (pc' := 25) (l' := [(0, .ref 69), (1, .int l), (2, .int yy), (3, .int yt), (4, .int yi), (5, .int yg)]) (st' := [.ref 69]) (by rfl) ?_
    refine Pa.gfR (by rfl) (by rfl) (.inl rfl) (by rfl) ?_
    show Pa N 223 28 [(0, .ref 69), (1, .int l), (2, .int yy), (3, .int yt), (4, .int yi), (5, .int yg)] [.ref 120] yA _
    refine Pa.mp 1 (pc' := 30) (l' := [(0, .ref 69), (1, .int l), (2, .int yy), (3, .int yt), (4, .int yi), (5, .int yg)]) (st' := [.int yi, .ref 120]) (by rfl) ?_
    refine Pa.ic (x := 0) (pc' := 31) (by rfl) (by rfl) (by decide) ?_
    refine Pa.asts (j' := yi.toInt.toNat) (by rfl) (by rfl) (by rfl) (fun h3 h4 => ?_)
    have h3 : 0 ≤ yi.toInt := h3
    have h4 : yi.toInt < 60 := h4
    show Pa N 223 32 [(0, .ref 69), (1, .int l), (2, .int yy), (3, .int yt), (4, .int yi), (5, .int yg)] [] (uI yA 120 yi.toInt.toNat 0) _
    refine Pa.mp 1 (pc' := 33) (l' := [(0, .ref 69), (1, .int l), (2, .int yy), (3, .int yt), (4, .int yi), (5, .int yg)]) (st' := [.ref 69]) (by rfl) ?_
    refine Pa.gfR (by rfl) (by rfl) (.inl rfl) (by rfl) ?_
    show Pa N 223 36 [(0, .ref 69), (1, .int l), (2, .int yy), (3, .int yt), (4, .int yi), (5, .int yg)] [.ref 107] (uI yA 120 yi.toInt.toNat 0) _
    refine Pa.mp 1 (pc' := 38) (l' := [(0, .ref 69), (1, .int l), (2, .int yy), (3, .int yt), (4, .int yi), (5, .int yg)]) (st' := [.int yi, .ref 107]) (by rfl) ?_
    refine Pa.alds (v := yA.1 107 yi.toInt.toNat) (by rfl) (by rfl) (by show (uI yA 120 yi.toInt.toNat 0).1 107 yi.toInt.toNat = yA.1 107 yi.toInt.toNat; rw [uI_c (by decide)]) (fun h5 h6 => ?_)
    have h5 : 0 ≤ yi.toInt := h5
    have h6 : yi.toInt < 60 := h6
    refine Pa.mp 1 (pc' := 40) (l' := [(0, .ref 69), (1, .int l), (2, .int yy), (3, .int yt), (4, .int yi), (5, .int yg)]) (st' := [.int l, .int (yA.1 107 yi.toInt.toNat)]) (by rfl) ?_
    refine Pa.if2 (a := (yA.1 107 yi.toInt.toNat).toInt) (b := l.toInt) (t := 115) (by rfl) (by rfl) (rfl) (rfl) (fun h7 => ?_) (fun h8 => ?_)
    · have h7 : (yA.1 107 yi.toInt.toNat).toInt ≠ l.toInt := h7
      refine Pa.iinc (x := yi) (c := 1) (v := (yi + 1)) (l' := [(4, .int (yi + 1)), (0, .ref 69), (1, .int l), (2, .int yy), (3, .int yt), (5, .int yg)]) (by rfl) (by rfl) (by decide) (by rfl) (by rfl) ?_
      refine Pa.mp 1 (pc' := 15) (l' := [(4, .int (yi + 1)), (0, .ref 69), (1, .int l), (2, .int yy), (3, .int yt), (5, .int yg)]) (st' := []) (by rfl) ?_
      refine Pa.lv (l' := [(0, .ref 69), (1, .int l), (2, .int yy), (3, .int yt), (4, .int (yi + 1)), (5, .int yg)]) (lvS_c rfl (lvS_c rfl (lvS_c rfl (lvS_c rfl (lvS_c rfl (lvS_c rfl (lvS_nil))))))) rfl ?_
      exact l2 h2 h3 h4 h7
    · have h8 : (yA.1 107 yi.toInt.toNat).toInt = l.toInt := h8
      refine Pa.mp 1 (pc' := 44) (l' := [(0, .ref 69), (1, .int l), (2, .int yy), (3, .int yt), (4, .int yi), (5, .int yg)]) (st' := [.ref 69]) (by rfl) ?_
      refine Pa.gfR (by rfl) (by rfl) (.inl rfl) (by rfl) ?_
      show Pa N 223 47 [(0, .ref 69), (1, .int l), (2, .int yy), (3, .int yt), (4, .int yi), (5, .int yg)] [.ref 108] (uI yA 120 yi.toInt.toNat 0) _
      refine Pa.mp 1 (pc' := 49) (l' := [(0, .ref 69), (1, .int l), (2, .int yy), (3, .int yt), (4, .int yi), (5, .int yg)]) (st' := [.int yi, .ref 108]) (by rfl) ?_
      refine Pa.alds (v := yA.1 108 yi.toInt.toNat) (by rfl) (by rfl) (by show (uI yA 120 yi.toInt.toNat 0).1 108 yi.toInt.toNat = yA.1 108 yi.toInt.toNat; rw [uI_c (by decide)]) (fun h9 h10 => ?_)
      have h9 : 0 ≤ yi.toInt := h9
      have h10 : yi.toInt < 60 := h10
      refine Pa.ic (x := 360) (pc' := 53) (by rfl) (by rfl) (by decide) ?_
      refine Pa.idiv (by rfl) ?_
      refine Pa.mp 1 (pc' := 55) (l' := [(0, .ref 69), (1, .int l), (2, .int yy), (3, .int yt), (4, .int yi), (5, .int yg)]) (st' := [.int yy, .int ((yA.1 108 yi.toInt.toNat) / 360)]) (by rfl) ?_
      refine Pa.if2 (a := ((yA.1 108 yi.toInt.toNat) / 360).toInt) (b := yy.toInt) (t := 115) (by rfl) (by rfl) (rfl) (rfl) (fun h11 => ?_) (fun h12 => ?_)
      · have h11 : yy.toInt < ((yA.1 108 yi.toInt.toNat) / 360).toInt := h11
        refine Pa.iinc (x := yi) (c := 1) (v := (yi + 1)) (l' := [(4, .int (yi + 1)), (0, .ref 69), (1, .int l), (2, .int yy), (3, .int yt), (5, .int yg)]) (by rfl) (by rfl) (by decide) (by rfl) (by rfl) ?_
        refine Pa.mp 1 (pc' := 15) (l' := [(4, .int (yi + 1)), (0, .ref 69), (1, .int l), (2, .int yy), (3, .int yt), (5, .int yg)]) (st' := []) (by rfl) ?_
        refine Pa.lv (l' := [(0, .ref 69), (1, .int l), (2, .int yy), (3, .int yt), (4, .int (yi + 1)), (5, .int yg)]) (lvS_c rfl (lvS_c rfl (lvS_c rfl (lvS_c rfl (lvS_c rfl (lvS_c rfl (lvS_nil))))))) rfl ?_
        exact l3 h2 h3 h4 h8 h11
      · have h12 : ((yA.1 108 yi.toInt.toNat) / 360).toInt ≤ yy.toInt := h12
        refine Pa.mp 1 (pc' := 59) (l' := [(0, .ref 69), (1, .int l), (2, .int yy), (3, .int yt), (4, .int yi), (5, .int yg)]) (st' := [.ref 69]) (by rfl) ?_
        refine Pa.gfR (by rfl) (by rfl) (.inl rfl) (by rfl) ?_
        show Pa N 223 62 [(0, .ref 69), (1, .int l), (2, .int yy), (3, .int yt), (4, .int yi), (5, .int yg)] [.ref 118] (uI yA 120 yi.toInt.toNat 0) _
        refine Pa.mp 1 (pc' := 64) (l' := [(0, .ref 69), (1, .int l), (2, .int yy), (3, .int yt), (4, .int yi), (5, .int yg)]) (st' := [.int yi, .ref 118]) (by rfl) ?_
        refine Pa.alds (v := yA.1 118 yi.toInt.toNat) (by rfl) (by rfl) (by show (uI yA 120 yi.toInt.toNat 0).1 118 yi.toInt.toNat = yA.1 118 yi.toInt.toNat; rw [uI_c (by decide)]) (fun h13 h14 => ?_)
        have h13 : 0 ≤ yi.toInt := h13
        have h14 : yi.toInt < 60 := h14
        refine Pa.mp 1 (pc' := 66) (l' := [(0, .ref 69), (1, .int l), (2, .int yy), (3, .int yt), (4, .int yi), (5, .int yg)]) (st' := [.ref 69, .int (yA.1 118 yi.toInt.toNat)]) (by rfl) ?_
        refine Pa.gfR (by rfl) (by rfl) (.inl rfl) (by rfl) ?_
        show Pa N 223 69 [(0, .ref 69), (1, .int l), (2, .int yy), (3, .int yt), (4, .int yi), (5, .int yg)] [.ref 119, .int (yA.1 118 yi.toInt.toNat)] (uI yA 120 yi.toInt.toNat 0) _
        refine Pa.mp 1 (pc' := 71) (l' := [(0, .ref 69), (1, .int l), (2, .int yy), (3, .int yt), (4, .int yi), (5, .int yg)]) (st' := [.int yi, .ref 119, .int (yA.1 118 yi.toInt.toNat)]) (by rfl) ?_
        refine Pa.alds (v := yA.1 119 yi.toInt.toNat) (by rfl) (by rfl) (by show (uI yA 120 yi.toInt.toNat 0).1 119 yi.toInt.toNat = yA.1 119 yi.toInt.toNat; rw [uI_c (by decide)]) (fun h15 yh16 => ?_)
        have h15 : 0 ≤ yi.toInt := h15
        have yh16 : yi.toInt < 60 := yh16
        refine Pa.mp 4 (pc' := 78) (l' := [(5, .int ((yA.1 118 yi.toInt.toNat) - (yA.1 119 yi.toInt.toNat))), (0, .ref 69), (1, .int l), (2, .int yy), (3, .int yt), (4, .int yi)]) (st' := [.int yt, .int ((yA.1 118 yi.toInt.toNat) - (yA.1 119 yi.toInt.toNat))]) (by rfl) ?_
        refine Pa.if2 (a := ((yA.1 118 yi.toInt.toNat) - (yA.1 119 yi.toInt.toNat)).toInt) (b := yt.toInt) (t := 86) (by rfl) (by rfl) (rfl) (rfl) (fun h17 => ?_) (fun h18 => ?_)
        · have h17 : yt.toInt ≤ ((yA.1 118 yi.toInt.toNat) - (yA.1 119 yi.toInt.toNat)).toInt := h17
          refine Pa.mp 3 (pc' := 90) (l' := [(5, .int yt), (0, .ref 69), (1, .int l), (2, .int yy), (3, .int yt), (4, .int yi)]) (st' := [.ref 69]) (by rfl) ?_
          refine Pa.gfR (by rfl) (by rfl) (.inl rfl) (by rfl) ?_
          show Pa N 223 93 [(5, .int yt), (0, .ref 69), (1, .int l), (2, .int yy), (3, .int yt), (4, .int yi)] [.ref 120] (uI yA 120 yi.toInt.toNat 0) _
          refine Pa.mp 2 (pc' := 97) (l' := [(5, .int yt), (0, .ref 69), (1, .int l), (2, .int yy), (3, .int yt), (4, .int yi)]) (st' := [.int yt, .int yi, .ref 120]) (by rfl) ?_
          refine Pa.asts (j' := yi.toInt.toNat) (by rfl) (by rfl) (by rfl) (fun h19 h20 => ?_)
          have h19 : 0 ≤ yi.toInt := h19
          have h20 : yi.toInt < 60 := h20
          show Pa N 223 98 [(5, .int yt), (0, .ref 69), (1, .int l), (2, .int yy), (3, .int yt), (4, .int yi)] [] (uI (uI yA 120 yi.toInt.toNat 0) 120 yi.toInt.toNat yt) _
          refine Pa.mp 1 (pc' := 99) (l' := [(5, .int yt), (0, .ref 69), (1, .int l), (2, .int yy), (3, .int yt), (4, .int yi)]) (st' := [.ref 69]) (by rfl) ?_
          refine Pa.gfR (by rfl) (by rfl) (.inl rfl) (by rfl) ?_
          show Pa N 223 102 [(5, .int yt), (0, .ref 69), (1, .int l), (2, .int yy), (3, .int yt), (4, .int yi)] [.ref 119] (uI (uI yA 120 yi.toInt.toNat 0) 120 yi.toInt.toNat yt) _
          refine Pa.mp 2 (pc' := 105) (l' := [(5, .int yt), (0, .ref 69), (1, .int l), (2, .int yy), (3, .int yt), (4, .int yi)]) (st' := [.int yi, .ref 119, .int yi, .ref 119]) (by rfl) ?_
          refine Pa.alds (v := yA.1 119 yi.toInt.toNat) (by rfl) (by rfl) (by show (uI (uI yA 120 yi.toInt.toNat 0) 120 yi.toInt.toNat yt).1 119 yi.toInt.toNat = yA.1 119 yi.toInt.toNat; rw [uI_c (by decide), uI_c (by decide)]) (fun h21 h22 => ?_)
          have h21 : 0 ≤ yi.toInt := h21
          have h22 : yi.toInt < 60 := h22
          refine Pa.mp 2 (pc' := 109) (l' := [(5, .int yt), (0, .ref 69), (1, .int l), (2, .int yy), (3, .int yt), (4, .int yi)]) (st' := [.int ((yA.1 119 yi.toInt.toNat) + yt), .int yi, .ref 119]) (by rfl) ?_
          refine Pa.asts (j' := yi.toInt.toNat) (by rfl) (by rfl) (by rfl) (fun h23 h24 => ?_)
          have h23 : 0 ≤ yi.toInt := h23
          have h24 : yi.toInt < 60 := h24
          show Pa N 223 110 [(5, .int yt), (0, .ref 69), (1, .int l), (2, .int yy), (3, .int yt), (4, .int yi)] [] (uI (uI (uI yA 120 yi.toInt.toNat 0) 120 yi.toInt.toNat yt) 119 yi.toInt.toNat ((yA.1 119 yi.toInt.toNat) + yt)) _
          refine Pa.mp 4 (pc' := 115) (l' := [(3, .int (yt - yt)), (5, .int yt), (0, .ref 69), (1, .int l), (2, .int yy), (4, .int yi)]) (st' := []) (by rfl) ?_
          refine Pa.iinc (x := yi) (c := 1) (v := (yi + 1)) (l' := [(4, .int (yi + 1)), (3, .int (yt - yt)), (5, .int yt), (0, .ref 69), (1, .int l), (2, .int yy)]) (by rfl) (by rfl) (by decide) (by rfl) (by rfl) ?_
          refine Pa.mp 1 (pc' := 15) (l' := [(4, .int (yi + 1)), (3, .int (yt - yt)), (5, .int yt), (0, .ref 69), (1, .int l), (2, .int yy)]) (st' := []) (by rfl) ?_
          refine Pa.lv (l' := [(0, .ref 69), (1, .int l), (2, .int yy), (3, .int (yt - yt)), (4, .int (yi + 1)), (5, .int yt)]) (lvS_c rfl (lvS_c rfl (lvS_c rfl (lvS_c rfl (lvS_c rfl (lvS_c rfl (lvS_nil))))))) rfl ?_
          exact l4 h2 h3 h4 h8 h12 h17
        · have h18 : ((yA.1 118 yi.toInt.toNat) - (yA.1 119 yi.toInt.toNat)).toInt < yt.toInt := h18
          refine Pa.mp 4 (pc' := 90) (l' := [(5, .int ((yA.1 118 yi.toInt.toNat) - (yA.1 119 yi.toInt.toNat))), (0, .ref 69), (1, .int l), (2, .int yy), (3, .int yt), (4, .int yi)]) (st' := [.ref 69]) (by rfl) ?_
          refine Pa.gfR (by rfl) (by rfl) (.inl rfl) (by rfl) ?_
          show Pa N 223 93 [(5, .int ((yA.1 118 yi.toInt.toNat) - (yA.1 119 yi.toInt.toNat))), (0, .ref 69), (1, .int l), (2, .int yy), (3, .int yt), (4, .int yi)] [.ref 120] (uI yA 120 yi.toInt.toNat 0) _
          refine Pa.mp 2 (pc' := 97) (l' := [(5, .int ((yA.1 118 yi.toInt.toNat) - (yA.1 119 yi.toInt.toNat))), (0, .ref 69), (1, .int l), (2, .int yy), (3, .int yt), (4, .int yi)]) (st' := [.int ((yA.1 118 yi.toInt.toNat) - (yA.1 119 yi.toInt.toNat)), .int yi, .ref 120]) (by rfl) ?_
          refine Pa.asts (j' := yi.toInt.toNat) (by rfl) (by rfl) (by rfl) (fun h25 h26 => ?_)
          have h25 : 0 ≤ yi.toInt := h25
          have h26 : yi.toInt < 60 := h26
          show Pa N 223 98 [(5, .int ((yA.1 118 yi.toInt.toNat) - (yA.1 119 yi.toInt.toNat))), (0, .ref 69), (1, .int l), (2, .int yy), (3, .int yt), (4, .int yi)] [] (uI (uI yA 120 yi.toInt.toNat 0) 120 yi.toInt.toNat ((yA.1 118 yi.toInt.toNat) - (yA.1 119 yi.toInt.toNat))) _
          refine Pa.mp 1 (pc' := 99) (l' := [(5, .int ((yA.1 118 yi.toInt.toNat) - (yA.1 119 yi.toInt.toNat))), (0, .ref 69), (1, .int l), (2, .int yy), (3, .int yt), (4, .int yi)]) (st' := [.ref 69]) (by rfl) ?_
          refine Pa.gfR (by rfl) (by rfl) (.inl rfl) (by rfl) ?_
          show Pa N 223 102 [(5, .int ((yA.1 118 yi.toInt.toNat) - (yA.1 119 yi.toInt.toNat))), (0, .ref 69), (1, .int l), (2, .int yy), (3, .int yt), (4, .int yi)] [.ref 119] (uI (uI yA 120 yi.toInt.toNat 0) 120 yi.toInt.toNat ((yA.1 118 yi.toInt.toNat) - (yA.1 119 yi.toInt.toNat))) _
          refine Pa.mp 2 (pc' := 105) (l' := [(5, .int ((yA.1 118 yi.toInt.toNat) - (yA.1 119 yi.toInt.toNat))), (0, .ref 69), (1, .int l), (2, .int yy), (3, .int yt), (4, .int yi)]) (st' := [.int yi, .ref 119, .int yi, .ref 119]) (by rfl) ?_
          refine Pa.alds (v := yA.1 119 yi.toInt.toNat) (by rfl) (by rfl) (by show (uI (uI yA 120 yi.toInt.toNat 0) 120 yi.toInt.toNat ((yA.1 118 yi.toInt.toNat) - (yA.1 119 yi.toInt.toNat))).1 119 yi.toInt.toNat = yA.1 119 yi.toInt.toNat; rw [uI_c (by decide), uI_c (by decide)]) (fun h27 h28 => ?_)
          have h27 : 0 ≤ yi.toInt := h27
          have h28 : yi.toInt < 60 := h28
          refine Pa.mp 2 (pc' := 109) (l' := [(5, .int ((yA.1 118 yi.toInt.toNat) - (yA.1 119 yi.toInt.toNat))), (0, .ref 69), (1, .int l), (2, .int yy), (3, .int yt), (4, .int yi)]) (st' := [.int ((yA.1 119 yi.toInt.toNat) + ((yA.1 118 yi.toInt.toNat) - (yA.1 119 yi.toInt.toNat))), .int yi, .ref 119]) (by rfl) ?_
          refine Pa.asts (j' := yi.toInt.toNat) (by rfl) (by rfl) (by rfl) (fun h29 h30 => ?_)
          have h29 : 0 ≤ yi.toInt := h29
          have h30 : yi.toInt < 60 := h30
          show Pa N 223 110 [(5, .int ((yA.1 118 yi.toInt.toNat) - (yA.1 119 yi.toInt.toNat))), (0, .ref 69), (1, .int l), (2, .int yy), (3, .int yt), (4, .int yi)] [] (uI (uI (uI yA 120 yi.toInt.toNat 0) 120 yi.toInt.toNat ((yA.1 118 yi.toInt.toNat) - (yA.1 119 yi.toInt.toNat))) 119 yi.toInt.toNat ((yA.1 119 yi.toInt.toNat) + ((yA.1 118 yi.toInt.toNat) - (yA.1 119 yi.toInt.toNat)))) _
          refine Pa.mp 4 (pc' := 115) (l' := [(3, .int (yt - ((yA.1 118 yi.toInt.toNat) - (yA.1 119 yi.toInt.toNat)))), (5, .int ((yA.1 118 yi.toInt.toNat) - (yA.1 119 yi.toInt.toNat))), (0, .ref 69), (1, .int l), (2, .int yy), (4, .int yi)]) (st' := []) (by rfl) ?_
          refine Pa.iinc (x := yi) (c := 1) (v := (yi + 1)) (l' := [(4, .int (yi + 1)), (3, .int (yt - ((yA.1 118 yi.toInt.toNat) - (yA.1 119 yi.toInt.toNat)))), (5, .int ((yA.1 118 yi.toInt.toNat) - (yA.1 119 yi.toInt.toNat))), (0, .ref 69), (1, .int l), (2, .int yy)]) (by rfl) (by rfl) (by decide) (by rfl) (by rfl) ?_
          refine Pa.mp 1 (pc' := 15) (l' := [(4, .int (yi + 1)), (3, .int (yt - ((yA.1 118 yi.toInt.toNat) - (yA.1 119 yi.toInt.toNat)))), (5, .int ((yA.1 118 yi.toInt.toNat) - (yA.1 119 yi.toInt.toNat))), (0, .ref 69), (1, .int l), (2, .int yy)]) (st' := []) (by rfl) ?_
          refine Pa.lv (l' := [(0, .ref 69), (1, .int l), (2, .int yy), (3, .int (yt - ((yA.1 118 yi.toInt.toNat) - (yA.1 119 yi.toInt.toNat)))), (4, .int (yi + 1)), (5, .int ((yA.1 118 yi.toInt.toNat) - (yA.1 119 yi.toInt.toNat)))]) (lvS_c rfl (lvS_c rfl (lvS_c rfl (lvS_c rfl (lvS_c rfl (lvS_c rfl (lvS_nil))))))) rfl ?_
          exact l5 h2 h3 h4 h8 h12 h18

/-- ya year of the queue, by the reference -/
theorem c_gyM {yA yW : AW} (yg : Rqx yA) (hs : smM yW yA yW) (yD yH V : Nat → Int32) {yy : Nat} (hy : yy < 10) (l : Int32) (h0 : 0 ≤ l.toInt) (h5 : l.toInt ≤ 5) (eD : ∀ yj, yj < qT yA → yW.1 118 yj = yD yj ∧ yW.1 119 yj = yH yj) (eV : ∀ yj, V yj = yD yj - yH yj) (N : Nat) : Pa N 223 0 [(0, .ref 69), (1, .int l), (2, .int (Int32.ofNat yy))] [] yW (fun yv A1 => yv = none ∧ smW yW yA A1 ∧ ∀ yi, yi < qT yA → A1.1 118 yi = yD yi ∧ A1.1 119 yi = yH yi + gtV yA l yy V (cpV yA l yy) yi ∧ A1.1 120 yi = gtV yA l yy V (cpV yA l yy) yi) := by
  have yhT := yg.tQ
  have ey : (Int32.ofNat yy).toInt = (yy : Int) := i32_nat (by omega)
  have ykey : ∀ (N yi : Nat) (yU : AW) (gg : Int32), yi ≤ qT yA → smW yW yA yU → (∀ yj, yj < qT yA → yU.1 118 yj = yD yj) → (∀ yj, yj < yi → yU.1 119 yj = yH yj + gtV yA l yy V (cpV yA l yy) yj ∧ yU.1 120 yj = gtV yA l yy V (cpV yA l yy) yj) → (∀ yj, yi ≤ yj → yj < qT yA → yU.1 119 yj = yH yj) → Pa N 223 15 [(0, .ref 69), (1, .int l), (2, .int (Int32.ofNat yy)), (3, .int (lfV yA l yy V (cpV yA l yy) yi)), (4, .int (Int32.ofNat yi)), (5, .int gg)] [] yU (fun yv A1 => yv = none ∧ smW yW yA A1 ∧ ∀ yi, yi < qT yA → A1.1 118 yi = yD yi ∧ A1.1 119 yi = yH yi + gtV yA l yy V (cpV yA l yy) yi ∧ A1.1 120 yi = gtV yA l yy V (cpV yA l yy) yi) := by
    intro N
    induction N with
    | zero => intros; exact Pa.zero
    | succ N yih =>
      intro yi yU gg yhi hu h1 h2 h3
      have hq60 : qT yA ≤ 60 := by unfold qT; omega
      have ei : (Int32.ofNat yi).toInt = (yi : Int) := i32_nat (by omega)
      have e52 : (yU.1 69 52).toInt = (qT yA : Int) := by
        rw [hu.1.2.1 52 (by decide) (by decide) (by decide) (by decide) (by decide) (by decide) (by decide) (by decide)]
        unfold qT
        omega
      have u7 : yU.1 107 yi = yA.1 107 yi := hu.1.lo (by decide) (by decide) yi
      have u8 : yU.1 108 yi = yA.1 108 yi := hu.1.lo (by decide) (by decide) yi
      have yn0 : yi < qT yA → ¬ qOk yA l yy yi → Pa N 223 15 [(0, .ref 69), (1, .int l), (2, .int (Int32.ofNat yy)), (3, .int (lfV yA l yy V (cpV yA l yy) yi)), (4, .int (Int32.ofNat yi + 1)), (5, .int gg)] [] (uI yU 120 yi 0) (fun yv A1 => yv = none ∧ smW yW yA A1 ∧ ∀ yi, yi < qT yA → A1.1 118 yi = yD yi ∧ A1.1 119 yi = yH yi + gtV yA l yy V (cpV yA l yy) yi ∧ A1.1 120 yi = gtV yA l yy V (cpV yA l yy) yi) := fun hiq hn => by
        have yh := yih (yi + 1) (uI yU 120 yi 0) gg (by omega) (smW_k hu (by decide)) (fun yj hj => by
          rw [uI_c (by decide)]
          exact h1 yj hj) (fun yj hj => by
          rw [uI_c (by decide), uI_row]
          by_cases ye : yj = yi
          · rw [if_pos ye, ye, gtV_0 hn, h3 yi (Nat.le_refl yi) hiq]
            exact ⟨(Int32.add_zero _).symm, rfl⟩
          · rw [if_neg ye]
            exact h2 yj (by omega)) (fun yj hj hjq => by
          rw [uI_c (by decide)]
          exact h3 yj (by omega) hjq)
        rw [lfV_s, gtV_0 hn, Int32.sub_zero, on_succ yi] at yh
        exact yh
      have yn1 : ∀ yx : Int32, yi < qT yA → yx = gtV yA l yy V (cpV yA l yy) yi → Pa N 223 15 [(0, .ref 69), (1, .int l), (2, .int (Int32.ofNat yy)), (3, .int (lfV yA l yy V (cpV yA l yy) yi - yx)), (4, .int (Int32.ofNat yi + 1)), (5, .int yx)] [] (uI (uI (uI yU 120 yi 0) 120 yi yx) 119 yi (yH yi + yx)) (fun yv A1 => yv = none ∧ smW yW yA A1 ∧ ∀ yi, yi < qT yA → A1.1 118 yi = yD yi ∧ A1.1 119 yi = yH yi + gtV yA l yy V (cpV yA l yy) yi ∧ A1.1 120 yi = gtV yA l yy V (cpV yA l yy) yi) := fun yx hiq hx => by
        have yh := yih (yi + 1) (uI (uI (uI yU 120 yi 0) 120 yi yx) 119 yi (yH yi + yx)) yx (by omega) (smW_k (smW_k (smW_k hu (by decide)) (by decide)) (by decide)) (fun yj hj => by
          rw [uI_c (by decide), uI_c (by decide), uI_c (by decide)]
          exact h1 yj hj) (fun yj hj => by
          rw [uI_row, uI_c (c' := 120) (by decide), uI_row, uI_c (c' := 119) (by decide), uI_c (c' := 119) (by decide)]
          by_cases ye : yj = yi
          · rw [if_pos ye, if_pos ye, ye, hx]
            exact ⟨rfl, rfl⟩
          · rw [if_neg ye, if_neg ye, uI_k ye]
            exact h2 yj (by omega)) (fun yj hj hjq => by
          rw [uI_k (by omega), uI_c (by decide), uI_c (by decide)]
          exact h3 yj (by omega) hjq)
        rw [lfV_s, ← hx, on_succ yi] at yh
        exact yh
      refine bm_gy l (Int32.ofNat yy) _ (Int32.ofNat yi) gg ?_ ?_ ?_ ?_ ?_ <;> rw [ei] <;> (try rw [e52]) <;> (try rw [Int.toNat_natCast]) <;> (try rw [ey])
      · intro yq
        exact ⟨rfl, hu, fun yj hj => ⟨h1 yj hj, (h2 yj (by omega)).1, (h2 yj (by omega)).2⟩⟩
      · intro yq1 yq2 yq3 yq4
        rw [u7] at yq4
        exact yn0 (by omega) (fun yz => yq4 yz.1)
      · intro yq1 yq2 yq3 yq4 yq5
        rw [u8] at yq5
        exact yn0 (by omega) (fun yz => by have := yz.2; omega)
      · intro yq1 yq2 yq3 yq4 yq5 yq6
        have iq : yi < qT yA := by omega
        rw [u7] at yq4
        rw [u8] at yq5
        rw [h1 yi iq, h3 yi (Nat.le_refl yi) iq, ← eV yi] at yq6
        rw [h3 yi (Nat.le_refl yi) iq]
        exact yn1 _ iq (by rw [gtV_1 ⟨yq4, yq5⟩, i_min1 yq6])
      · intro yq1 yq2 yq3 yq4 yq5 yq6
        have iq : yi < qT yA := by omega
        rw [u7] at yq4
        rw [u8] at yq5
        rw [h1 yi iq, h3 yi (Nat.le_refl yi) iq, ← eV yi] at yq6
        rw [h1 yi iq, h3 yi (Nat.le_refl yi) iq, ← eV yi]
        exact yn1 _ iq (by rw [gtV_1 ⟨yq4, yq5⟩, i_min2 yq6])
  refine bm_gy0 l (Int32.ofNat yy) (fun yq1 yq2 => ?_)
  have ye2 : yW.1 105 (10 * l + Int32.ofNat yy).toInt.toNat = cpV yA l yy := hs.lo (by decide) (by decide) _
  rw [ye2]
  exact ykey N 0 yW 0 (Nat.zero_le _) (smW_refl hs) (fun yj hj => (eD yj hj).1) (fun yj hj => absurd hj (Nat.not_lt_zero yj)) (fun yj _ hj => (eD yj hj).2)
/-- years of the queue -/
def qSt (yA : AW) (l : Int32) (yy : Nat) (yB yW : AW) : Prop := smW yB yA yW ∧ ∀ yj, yj < qT yA → yW.1 118 yj = dqV yA l (yA.1 69 0) yj ∧ yW.1 119 yj = hsV yA l (yA.1 69 0) yy yj
theorem c_gyQ {yB yA yW : AW} (yg : Rqx yA) {yy : Nat} (hy : yy < 10) (l : Int32) (h0 : 0 ≤ l.toInt) (h5 : l.toInt ≤ 5) (hs : qSt yA l yy yB yW) (N : Nat) : Pa N 223 0 [(0, .ref 69), (1, .int l), (2, .int (Int32.ofNat yy))] [] yW (fun yv A1 => yv = none ∧ qSt yA l (yy + 1) yB A1 ∧ ∀ yi, yi < qT yA → A1.1 120 yi = gyV yA l (yA.1 69 0) yy yi) := by
  refine Pa.mono (c_gyM yg hs.1.1 (dqV yA l (yA.1 69 0)) (hsV yA l (yA.1 69 0) yy) (wtV yA l (yA.1 69 0) yy) hy l h0 h5 hs.2 (fun yj => wt_hs) N) (fun yv A1 hv => ?_)
  obtain ⟨rfl, ys1, yh⟩ := hv
  exact ⟨rfl, ⟨⟨ys1.1, fun yd yj yhd => (ys1.2 yd yj yhd).trans (hs.1.2 yd yj yhd)⟩, fun yj hj => ⟨(yh yj hj).1, (yh yj hj).2.1⟩⟩, fun yj hj => (yh yj hj).2.2⟩
theorem c_fdQ {yA yW : AW} (yg : Rqx yA) (hs : smM yW yA yW) (l : Int32) (N : Nat) : Pa N 222 0 [(0, .ref 69), (1, .int l)] [] yW (fun yv A1 => yv = none ∧ qSt yA l 0 yW A1) := by
  refine Pa.mono (c_fdM yg hs l N) (fun yv A1 hv => ?_)
  obtain ⟨rfl, ys1, yh⟩ := hv
  exact ⟨rfl, ys1, yh⟩
theorem bm_gt0 {N : Nat} {yA : AW} {yQ : Option Value → AW → Prop} (yc : Int32)
    (l1 : 0 ≤ yc.toInt → yc.toInt < 60 → Pa N 222 0 [(0, .ref 69), (1, .int (yA.1 107 yc.toInt.toNat))] [] yA (fun yu A1 => Pa N 225 10 [(0, .ref 69), (1, .int yc)] (yu.toList ++ []) A1 yQ)) :
    Pa N 225 0 [(0, .ref 69), (1, .int yc)] [] yA yQ := by
  refine Pa.mp 2 (pc' := 2) (l' := [(0, .ref 69), (1, .int yc)]) (st' := [.ref 69, .ref 69]) (by rfl) ?_
  refine Pa.gfR (by rfl) (by rfl) (.inl rfl) (by rfl) ?_
  show Pa N 225 5 [(0, .ref 69), (1, .int yc)] [.ref 107, .ref 69] yA _
  refine Pa.mp 1 (pc' := 6) (l' := [(0, .ref 69), (1, .int yc)]) (st' := [.int yc, .ref 107, .ref 69]) (by rfl) ?_
  refine Pa.alds (v := yA.1 107 yc.toInt.toNat) (by rfl) (by rfl) (by rfl) (fun h1 h2 => ?_)
  have h1 : 0 ≤ yc.toInt := h1
  have h2 : yc.toInt < 60 := h2
  refine Pa.inv (by rfl) (by rfl) (.inl rfl) (by rfl) ?_
  exact l1 h1 h2

theorem bm_gt1 {N : Nat} {yA : AW} {yQ : Option Value → AW → Prop} (yc : Int32)
    (l1 : Pa N 225 12 [(0, .ref 69), (1, .int yc), (2, .int 0)] [] yA yQ) :
    Pa N 225 10 [(0, .ref 69), (1, .int yc)] [] yA yQ := by
  refine Pa.ic (x := 0) (pc' := 11) (by rfl) (by rfl) (by decide) ?_
  refine Pa.mp 1 (pc' := 12) (l' := [(2, .int 0), (0, .ref 69), (1, .int yc)]) (st' := []) (by rfl) ?_
  refine Pa.lv (l' := [(0, .ref 69), (1, .int yc), (2, .int 0)]) (lvS_c rfl (lvS_c rfl (lvS_c rfl (lvS_nil)))) rfl ?_
  exact l1

theorem bm_gt {N : Nat} {yA : AW} {yQ : Option Value → AW → Prop} (yc yy : Int32)
    (l1 : ((yA.1 69 0) / 360).toInt < yy.toInt → 0 ≤ yc.toInt → yc.toInt < 60 → yQ (some (.int (yA.1 119 yc.toInt.toNat))) yA)
    (l2 : yy.toInt ≤ ((yA.1 69 0) / 360).toInt → 0 ≤ yc.toInt → yc.toInt < 60 → Pa N 223 0 [(0, .ref 69), (1, .int (yA.1 107 yc.toInt.toNat)), (2, .int yy)] [] yA (fun yu A1 => Pa N 225 35 [(0, .ref 69), (1, .int yc), (2, .int yy)] (yu.toList ++ []) A1 yQ)) :
    Pa (N + 1) 225 12 [(0, .ref 69), (1, .int yc), (2, .int yy)] [] yA yQ := by
  refine Pa.mp1 1 (pc' := 14) (l' := [(0, .ref 69), (1, .int yc), (2, .int yy)]) (st' := [.ref 69, .int yy]) (by rfl) ?_
  refine Pa.gfI (v := yA.1 69 0) (by rfl) (by rfl) (.inl rfl) (by rfl) (by rfl) ?_
  refine Pa.ic (x := 360) (pc' := 20) (by rfl) (by rfl) (by decide) ?_
  refine Pa.idiv (by rfl) ?_
  refine Pa.if2 (a := yy.toInt) (b := ((yA.1 69 0) / 360).toInt) (t := 41) (by rfl) (by rfl) (rfl) (rfl) (fun h1 => ?_) (fun h2 => ?_)
  · have h1 : ((yA.1 69 0) / 360).toInt < yy.toInt := h1
    refine Pa.mp 1 (pc' := 42) (l' := [(0, .ref 69), (1, .int yc), (2, .int yy)]) (st' := [.ref 69]) (by rfl) ?_
    refine Pa.gfR (by rfl) (by rfl) (.inl rfl) (by rfl) ?_
    show Pa N 225 45 [(0, .ref 69), (1, .int yc), (2, .int yy)] [.ref 119] yA _
    refine Pa.mp 1 (pc' := 46) (l' := [(0, .ref 69), (1, .int yc), (2, .int yy)]) (st' := [.int yc, .ref 119]) (by rfl) ?_
    refine Pa.alds (v := yA.1 119 yc.toInt.toNat) (by rfl) (by rfl) (by rfl) (fun h3 h4 => ?_)
    have h3 : 0 ≤ yc.toInt := h3
    have h4 : yc.toInt < 60 := h4
    refine Pa.iret (by rfl) ?_
    exact l1 h1 h3 h4
  · have h2 : yy.toInt ≤ ((yA.1 69 0) / 360).toInt := h2
    refine Pa.mp 2 (pc' := 26) (l' := [(0, .ref 69), (1, .int yc), (2, .int yy)]) (st' := [.ref 69, .ref 69]) (by rfl) ?_
    refine Pa.gfR (by rfl) (by rfl) (.inl rfl) (by rfl) ?_
    show Pa N 225 29 [(0, .ref 69), (1, .int yc), (2, .int yy)] [.ref 107, .ref 69] yA _
    refine Pa.mp 1 (pc' := 30) (l' := [(0, .ref 69), (1, .int yc), (2, .int yy)]) (st' := [.int yc, .ref 107, .ref 69]) (by rfl) ?_
    refine Pa.alds (v := yA.1 107 yc.toInt.toNat) (by rfl) (by rfl) (by rfl) (fun h5 h6 => ?_)
    have h5 : 0 ≤ yc.toInt := h5
    have h6 : yc.toInt < 60 := h6
    refine Pa.mp 1 (pc' := 32) (l' := [(0, .ref 69), (1, .int yc), (2, .int yy)]) (st' := [.int yy, .int (yA.1 107 yc.toInt.toNat), .ref 69]) (by rfl) ?_
    refine Pa.inv (by rfl) (by rfl) (.inl rfl) (by rfl) ?_
    exact l2 h2 h5 h6

theorem bm_gt2 {N : Nat} {yA : AW} {yQ : Option Value → AW → Prop} (yc yy : Int32)
    (l1 : Pa N 225 12 [(0, .ref 69), (1, .int yc), (2, .int (yy + 1))] [] yA yQ) :
    Pa N 225 35 [(0, .ref 69), (1, .int yc), (2, .int yy)] [] yA yQ := by
  refine Pa.iinc (x := yy) (c := 1) (v := (yy + 1)) (l' := [(2, .int (yy + 1)), (0, .ref 69), (1, .int yc)]) (by rfl) (by rfl) (by decide) (by rfl) (by rfl) ?_
  refine Pa.mp 1 (pc' := 12) (l' := [(2, .int (yy + 1)), (0, .ref 69), (1, .int yc)]) (st' := []) (by rfl) ?_
  refine Pa.lv (l' := [(0, .ref 69), (1, .int yc), (2, .int (yy + 1))]) (lvS_c rfl (lvS_c rfl (lvS_c rfl (lvS_nil)))) rfl ?_
  exact l1

def yrV (yA : AW) : Nat := ((yA.1 69 0) / 360).toInt.toNat
theorem yr_9 {yA : AW} (yg : Rqx yA) : ((yA.1 69 0) / 360).toInt = (yrV yA : Int) ∧ yrV yA < 10 := by
  have yh := yg.d9
  have ye := i_d360 yh.1
  unfold yrV
  rw [ye]
  omega
theorem c_gtM {yA yW : AW} (yg : Rqx yA) (hs : smM yW yA yW) {yc : Nat} (yhc : yc < qT yA) (N : Nat) : Pa N 225 0 [(0, .ref 69), (1, .int (Int32.ofNat yc))] [] yW (fun yv A1 => yv = some (.int (hsV yA (yA.1 107 yc) (yA.1 69 0) (yrV yA + 1) yc)) ∧ smW yW yA A1) := by
  have yhT := yg.tQ
  have hc60 : yc < 60 := by unfold qT at yhc; omega
  have ec : (Int32.ofNat yc).toInt = (yc : Int) := i32_nat (by omega)
  have hl := yg.l5 hc60
  have hy := yr_9 yg
  obtain ⟨l, el⟩ : ∃ l, yA.1 107 yc = l := ⟨_, rfl⟩
  rw [el] at hl ⊢
  have ykey : ∀ (N yy : Nat) (yU : AW), yy ≤ yrV yA + 1 → qSt yA l yy yW yU → Pa N 225 12 [(0, .ref 69), (1, .int (Int32.ofNat yc)), (2, .int (Int32.ofNat yy))] [] yU (fun yv A1 => yv = some (.int (hsV yA l (yA.1 69 0) (yrV yA + 1) yc)) ∧ smW yW yA A1) := by
    intro N
    induction N with
    | zero => intros; exact Pa.zero
    | succ N yih =>
      intro yy yU hyy hu
      have ey : (Int32.ofNat yy).toInt = (yy : Int) := i32_nat (by omega)
      have ye0 : ((yU.1 69 0) / 360).toInt = (yrV yA : Int) := by rw [hu.1.1.2.1 0 (by decide) (by decide) (by decide) (by decide) (by decide) (by decide) (by decide) (by decide)]; exact hy.1
      have u7 : yU.1 107 yc = l := (hu.1.1.lo (by decide) (by decide) yc).trans el
      refine bm_gt (Int32.ofNat yc) (Int32.ofNat yy) ?_ ?_ <;> rw [ye0, ey, ec, Int.toNat_natCast]
      · intro yq _ _
        have ye : yy = yrV yA + 1 := by omega
        subst ye
        rw [(hu.2 yc yhc).2]
        exact ⟨rfl, hu.1⟩
      · intro yq _ _
        rw [u7]
        refine Pa.mono (c_gyQ yg (by omega) l hl.1 hl.2 hu N) (fun yv A1 hv => ?_)
        obtain ⟨rfl, ys1, -⟩ := hv
        refine bm_gt2 (Int32.ofNat yc) (Int32.ofNat yy) ?_
        have yh := yih (yy + 1) A1 (by omega) ys1
        rw [on_succ yy] at yh
        exact yh
  refine bm_gt0 (Int32.ofNat yc) ?_
  rw [ec, Int.toNat_natCast]
  intro _ _
  rw [hs.lo (by decide) (by decide) yc, el]
  refine Pa.mono (c_fdQ yg hs l N) (fun yv A1 hv => ?_)
  obtain ⟨rfl, ys1⟩ := hv
  exact bm_gt1 (Int32.ofNat yc) (ykey N 0 A1 (Nat.zero_le _) ys1)
/-! GIVEN -/
/-! FORETOLD -/
/-! the pairs -/
def Fq : zRF := Fg ++ [((47, 16), (69, 52))]
def Aq : zRA := Ag ++ [(49, 106), (50, 107), (48, 105)]
def Iq : List Nat := [0, 1, 2, 3, 4, 5, 6, 7, 8]
theorem Rqx_of {yA : AW} (hA : okA yA) (hF : eqF Fq yA) (hR : eqRs Aq yA) (hX : RXL Iq yA) : Rqx yA := by
  have gx : Rgx yA := Rgx_of hA (fun yp hp => hF yp (List.mem_append_left _ hp)) (fun yp hp => hR yp (List.mem_append_left _ hp)) (fun yi yhi => hX yi (fsub_ok (yF := Iq) (F' := Ig) (by decide) yhi))
  have yr : ∀ ya yb yn, (decide ((ya, yb) ∈ Aq)) = true → z_aP (ya, yb) = some yn → ∀ yj, yj < yn → yA.1 ya yj = yA.1 yb yj := fun ya yb yn yh h2 yj hj => hR (ya, yb) (of_decide_eq_true yh) yn h2 yj hj
  have yf : ∀ ya yb, (decide ((ya, yb) ∈ Fq)) = true → yA.1 ya.1 ya.2 = yA.1 yb.1 yb.2 := fun ya yb yh => hF (ya, yb) (of_decide_eq_true yh)
  exact ⟨gx, yf (47, 16) (69, 52) (by decide +kernel), yr 49 106 60 (by decide +kernel) (by decide +kernel), yr 50 107 60 (by decide +kernel) (by decide +kernel), yr 48 105 60 (by decide +kernel) (by decide +kernel), hX 8 (by decide)⟩
/-! films come; certificates asked -/
def qE (yA yB : AW) : Prop := (∀ yc yj, yc = 51 ∨ yc = 106 ∨ yc = 108 → yB.1 yc yj = yA.1 yc yj) ∧ yB.1 69 52 = yA.1 69 52
theorem qE_refl (yA : AW) : qE yA yA := ⟨fun _ _ _ => rfl, rfl⟩
theorem qE_tr {yA yB yC : AW} (yh : qE yA yB) (yg : qE yB yC) : qE yA yC := ⟨fun yc yj yz => (yg.1 yc yj yz).trans (yh.1 yc yj yz), yg.2.trans yh.2⟩
theorem qE_u {yA : AW} {yc yk : Nat} {yx : Int32} (yh : yc ≠ 51 ∧ yc ≠ 106 ∧ yc ≠ 108 ∧ (yc ≠ 69 ∨ yk ≠ 52)) : qE yA (uI yA yc yk yx) := by
  refine ⟨fun yd yj yz => uI_c (by omega), ?_⟩
  by_cases ye : yc = 69
  · rw [ye]
    exact uI_k (by omega)
  · exact uI_c (by omega)
def fqD (yA : AW) (_ : Option Value) (A1 : AW) : Prop := flE yA A1 ∧ qE yA A1
theorem fq_up {yA yB : AW} (yh : flE yA yB) (h2 : qE yA yB) (hX : Rq yA) : Rq yB := by
  refine ⟨fun yi yhi => ?_, fun yi yhi => ?_⟩
  · rw [h2.2] at yhi
    rw [h2.1 106 yi (by decide)]
    have := hX.1 yi yhi
    have := yh.2.2.2.2.1
    omega
  · rw [h2.1 51 yi (by decide), h2.1 108 yi (by decide)]
    exact hX.2 yi yhi
theorem Pa.and2 {N ymid pc : Nat} {lv : mL} {yst : List Value} {yA : AW} {yP yQ : Option Value → AW → Prop} (yh : Pa N ymid pc lv yst yA yP) (yg : Pa N ymid pc lv yst yA yQ) : Pa N ymid pc lv yst yA (fun yu A1 => yP yu A1 ∧ yQ yu A1) := fun yL xs yn yd yw hn yhS hA yv yw1 hr => ⟨(yh yL xs yn yd yw hn yhS hA yv yw1 hr).1, (yh yL xs yn yd yw hn yhS hA yv yw1 hr).2, (yg yL xs yn yd yw hn yhS hA yv yw1 hr).2⟩
theorem dq_film (N : Nat) (yA : AW) (yf yn : Int32) : Pa N 103 0 [(0, .ref 0), (1, .int yf), (2, .int yn)] [] yA (fqD yA) :=
  Pa.and2 (df_film N yA yf yn) (bxf_film yf yn (fun _ => qE_refl yA) (fun _ _ => qE_refl yA) (fun _ _ _ => qE_refl yA) (fun _ _ _ _ => qE_refl yA) (fun _ _ _ _ _ _ => qE_tr (qE_tr (qE_u (by omega)) (qE_u (by omega))) (qE_u (by omega))) (fun _ _ _ _ _ => qE_refl yA))
theorem eq_film (N : Nat) (yA : AW) (yf yn : Int32) : Pa N 167 0 [(0, .ref 69), (1, .int yf), (2, .int yn)] [] yA (fqD yA) :=
  Pa.and2 (ef_film N yA yf yn) (bmf_film yf yn (fun _ => qE_refl yA) (fun _ _ => qE_refl yA) (fun _ _ _ => qE_refl yA) (fun _ _ _ _ => qE_refl yA) (fun _ _ _ _ _ _ _ => qE_tr (qE_tr (qE_u (by omega)) (qE_u (by omega))) (qE_u (by omega))) (fun _ _ _ _ _ => qE_refl yA))
def F27q : zRF := F27 ++ [((0, 10), (69, 0))]
theorem k_askq {yA A1 A2 : AW} {yf l yx yy : Int32} (hA : okA yA) (hF : eqF F27q yA) (hX : Rq yA) (hxy : yx = yy) (ys1 : dAsk yf l yA (some (.int yx)) A1) (ys2 : eAsk yf l A1 (some (.int yy)) A2) : Rq A2 ∧ A2.1 0 10 = A2.1 69 0 := by
  have yf3 : yA.1 47 16 = yA.1 69 52 := hF ((47, 16), (69, 52)) (by simp [F27q, F27])
  have yf2 : yA.1 5 6 = yA.1 69 11 := hF ((5, 6), (69, 11)) (by simp [F27q, F27])
  have yfd : yA.1 0 10 = yA.1 69 0 := hF ((0, 10), (69, 0)) (by simp [F27q])
  have yg := hA.fld (i := 69) (k := 52) (lo := 0) (hi := 60) (by decide +kernel)
  have yn1 : ∀ yz : Int32, (some (Value.int yz) : Option Value) = some (.int (-1)) ∨ (some (Value.int yz) : Option Value) = some (.int (-2)) ∨ (some (Value.int yz) : Option Value) = some (.int (-3)) → yz.toInt < 0 := fun yz yh => by
    rcases yh with yh | yh | yh <;> rw [some_int yh] <;> decide
  have ysame : A1 = yA → A2 = A1 → Rq A2 ∧ A2.1 0 10 = A2.1 69 0 := fun ye1 ye2 => by
    rw [ye2, ye1]
    exact ⟨hX, yfd⟩
  have nX : A1 ≠ yA → 0 ≤ yx.toInt := fun hn => by
    rcases ys1 with ⟨ya1, a2, a3⟩ | ⟨ya1, ⟨a2, a3, a4⟩ | ⟨a2, a3, a4, a5⟩ | ⟨a2, a3, a4, a5, a6⟩⟩
    · exact absurd a3 hn
    · exact absurd a4 hn
    · exact absurd a5 hn
    · rw [some_int a5, Int32.add_sub_cancel]
      exact a4
  rcases ys2 with ⟨b1, b2, b3⟩ | ⟨b1, ⟨b2, b3, b4⟩ | ⟨b2, b3, b4, b5⟩ | ⟨b2, b3, b4, b5, b6⟩⟩
  · have yz := yn1 yy (.inl b2)
    exact ysame (Classical.byContradiction (fun yh => by have := nX yh; rw [hxy] at this; omega)) b3
  · have yz := yn1 yy (.inr (.inr b3))
    exact ysame (Classical.byContradiction (fun yh => by have := nX yh; rw [hxy] at this; omega)) b4
  · have yz := yn1 yy (.inr (.inl b4))
    exact ysame (Classical.byContradiction (fun yh => by have := nX yh; rw [hxy] at this; omega)) b5
  · have hy0 : 0 ≤ yy.toInt := by
      rw [some_int b5, Int32.add_sub_cancel]
      exact b4
    rcases ys1 with ⟨ya1, a2, a3⟩ | ⟨ya1, ⟨a2, a3, a4⟩ | ⟨a2, a3, a4, a5⟩ | ⟨a2, a3, a4, a5, a6⟩⟩
    · exact absurd (yn1 yx (.inl a2)) (by rw [hxy]; omega)
    · exact absurd (yn1 yx (.inr (.inr a3))) (by rw [hxy]; omega)
    · exact absurd (yn1 yx (.inr (.inl a4))) (by rw [hxy]; omega)
    · rw [yf3] at a3 a4 a6
      obtain ⟨yt, ht⟩ : ∃ yt, (yA.1 69 52).toInt.toNat = yt := ⟨_, rfl⟩
      rw [ht] at a6
      have ylow : ∀ yc yj, yc ≠ 47 → yc ≠ 49 → yc ≠ 50 → yc ≠ 51 → yc ≠ 52 → A1.1 yc yj = yA.1 yc yj := fun yc yj yq1 yq2 yq3 yq4 yq5 => by
        rw [a6, uI_c yq1, uI_c yq5, uI_c yq4, uI_c yq3, uI_c yq2]
      have e52 : A1.1 69 52 = yA.1 69 52 := ylow 69 52 (by decide) (by decide) (by decide) (by decide) (by decide)
      rw [e52, ht] at b6
      have ye0 : A1.1 69 0 = yA.1 69 0 := ylow 69 0 (by decide) (by decide) (by decide) (by decide) (by decide)
      have ed : A1.1 0 10 = yA.1 0 10 := ylow 0 10 (by decide) (by decide) (by decide) (by decide) (by decide)
      have r51 : ∀ yj, A2.1 51 yj = if yj = yt then yA.1 0 10 / 360 else yA.1 51 yj := fun yj => by
        rw [b6, uI_c (by decide), uI_c (by decide), uI_c (by decide), uI_c (by decide), uI_c (by decide), a6, uI_c (by decide), uI_c (by decide), uI_row, uI_c (by decide), uI_c (by decide)]
      have r108 : ∀ yj, A2.1 108 yj = if yj = yt then yA.1 69 0 else yA.1 108 yj := fun yj => by
        rw [b6, uI_c (by decide), uI_c (by decide), uI_row, uI_c (by decide), uI_c (by decide), ye0, ylow 108 yj (by decide) (by decide) (by decide) (by decide) (by decide)]
      have r106 : ∀ yj, A2.1 106 yj = if yj = yt then yf else yA.1 106 yj := fun yj => by
        rw [b6, uI_c (by decide), uI_c (by decide), uI_c (by decide), uI_c (by decide), uI_row, ylow 106 yj (by decide) (by decide) (by decide) (by decide) (by decide)]
      have r52 : A2.1 69 52 = yA.1 69 52 + 1 := by rw [b6, uI_h]
      have r11 : A2.1 69 11 = yA.1 69 11 := by
        rw [b6, uI_k (by decide), uI_c (by decide), uI_c (by decide), uI_c (by decide), uI_c (by decide)]
        exact ylow 69 11 (by decide) (by decide) (by decide) (by decide) (by decide)
      have r0 : A2.1 69 0 = yA.1 69 0 := by rw [b6, uI_k (by decide), uI_c (by decide), uI_c (by decide), uI_c (by decide), uI_c (by decide), ye0]
      have yrd : A2.1 0 10 = yA.1 0 10 := by rw [b6, uI_c (by decide), uI_c (by decide), uI_c (by decide), uI_c (by decide), uI_c (by decide), ed]
      have hT1 : (yA.1 69 52 + 1).toInt = (yA.1 69 52).toInt + 1 := i32_add1 (by omega)
      refine ⟨⟨fun yi yhi => ?_, fun yi yhi => ?_⟩, by rw [yrd, r0, yfd]⟩
      · rw [r52, hT1] at yhi
        rw [r106, r11]
        by_cases ye : yi = yt
        · rw [if_pos ye]
          have := ya1.2.1
          rw [yf2] at this
          exact this
        · rw [if_neg ye]
          exact hX.1 yi (by omega)
      · rw [r51, r108]
        by_cases ye : yi = yt
        · rw [if_pos ye, if_pos ye, yfd]
        · rw [if_neg ye, if_neg ye]
          exact hX.2 yi yhi
