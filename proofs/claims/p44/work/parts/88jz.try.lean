/-! TRYING yA TEXT -/
/-- ya field of ya world set to another number of its range -/
theorem w_set {yw : mWd} (hW : WI zZ yw) (yi yk : Nat) (ylo yhi : Int) (yx : Int32) (hz : z_fs zZ yi yk = some (0, ylo, yhi)) (h0 : ylo ≤ yx.toInt) (h1 : yx.toInt ≤ yhi) : ∃ w', WI zZ w' ∧ aw w' = uI (aw yw) yi yk yx ∧ fR [(z_cls zZ.1 yi, yk)] yw w' := by
  obtain ⟨l1, ci, fs, yy, yf1, yf2, yf3⟩ := z_fs_ok hW hz
  unfold z_fs at hz
  split at hz
  next cj yn sps hZ =>
    split at hz
    next sp2 hsp =>
      have ye9 : sp2 = (0, ylo, yhi) := by
        cases ye : (Nat.blt yk yn && (Nat.beq sp2.1 0 && Nat.blt yi 129)) with
        | false =>
          rw [ye] at hz
          cases hz
        | true =>
          rw [ye] at hz
          exact Option.some.inj hz
      obtain ⟨gs, g1, g2, yg3⟩ := WI_obj hW hZ
      rw [yf1] at g1
      have ye1 := Prod.mk.inj (Sum.inr.inj (Option.some.inj g1))
      have ec : z_cls zZ.1 yi = ci := by
        unfold z_cls
        rw [hZ]
        exact ye1.1.symm
      have hZ2 : zZ.1[yi]? = some (0, ci, yn, sps) := by
        rw [hZ, ye1.1]
      have hk : yk < fs.length := (List.getElem?_eq_some_iff.mp yf2).1
      refine ⟨yw.set yi (.inr (ci, fs.set yk (.int yx))), WI_setf hW hZ2 yf1 (fun ysp h2 => ?_), ?_, fR_setf yf1 ?_⟩
      · rw [hsp, ye9] at h2
        rw [← Option.some.inj h2]
        exact ⟨yx, rfl, h0, h1⟩
      · exact aw_setI (e' := .inr (ci, fs.set yk (.int yx))) (k := yk) (x := yx) yf1 (cI_setf hk) rfl rfl rfl
      · rw [ec]
        unfold z_wr
        rw [Nat.beq_refl, Nat.beq_refl]
        rfl
    next => cases hz
  next => cases hz
theorem Rgx_t {yw : mWd} (hW : WI zZ yw) (hR : RR Fg Ag (RXL Ig) yw) {yt : Int32} (h0 : 0 ≤ yt.toInt) (h1 : yt.toInt < ((aw yw).1 69 45).toInt) : Rgx (uI (aw yw) 38 8 yt) := by
  have gT := rg_fld hW (i := 69) (k := 45) (lo := 0) (hi := 20) (by decide +kernel)
  obtain ⟨yw2, ya1, a2, a3⟩ := w_set hW 38 8 (-1) 19 yt (by decide +kernel) (by omega) (by omega)
  have hR2 : RR Fg Ag (RXL Ih) yw := ⟨hR.1, fun yi yhi => hR.2 yi (fsub_ok (yF := Ig) (F' := Ih) (by decide) yhi)⟩
  have yh := kpRR (keepXL Ih) _ yw yw2 hW hR2 ya1 a3 (by decide +kernel)
  have hq := (RI_ofA ya1 (by decide +kernel) (by decide +kernel)).mp yh.1
  rw [← a2]
  exact Rgx_of ⟨yw2, ya1, rfl⟩ hq.1 hq.2 yh.2 (by
    rw [a2, uI_h, uI_c (by decide)]
    exact h1)
def okTt (yA : AW) (yt : Int32) : Prop := 0 ≤ yt.toInt ∧ yt.toInt < (yA.1 69 45).toInt ∧ ((yA.1 102 yt.toInt.toNat) - (yA.1 102 yt.toInt.toNat) / 10 * 10).toInt ≤ 1
/-- what all films together are due -/
noncomputable def tsV (yB : AW) (l yk : Int32) : Nat → Int64
  | 0 => Int64.ofNat 0
  | yn + 1 => tsV yB l yk yn + (duV yB (Int32.ofNat yn) l yk).toInt64
noncomputable def ttV (yA : AW) (yt : Int32) : Int32 := (l_min (tsV (uI yA 38 8 yt) ((yA.1 102 yt.toInt.toNat) / 10) (yA.1 69 0) (yA.1 69 11).toInt.toNat) 1999999999).toInt32
def dTt (yt : Int32) (yA : AW) (yu : Option Value) (A1 : AW) : Prop := (¬ okTt yA yt ∧ yu = some (.int (-1)) ∧ A1 = yA) ∨ (okTt yA yt ∧ yu = some (.int (ttV yA yt)) ∧ ∃ V, scX (uI yA 38 8 yt) (uI yA 38 8 yt) V ∧ A1 = uI V 38 8 (-1))
theorem bx_tt0 {N : Nat} {yA : AW} {yQ : Option Value → AW → Prop} (yt : Int32)
    (l1 : yt.toInt < 0 → yQ (some (.int (-1))) yA)
    (l2 : 0 ≤ yt.toInt → (yA.1 38 7).toInt ≤ yt.toInt → yQ (some (.int (-1))) yA)
    (l3 : 0 ≤ yt.toInt → yt.toInt < (yA.1 38 7).toInt → yt.toInt < 20 → ((yA.1 40 yt.toInt.toNat) - (yA.1 40 yt.toInt.toNat) / 10 * 10).toInt ≤ 1 → Pa N 140 42 [(0, .ref 0), (1, .int yt), (2, .long (Int64.ofNat 0)), (4, .int 0)] [] (uI yA 38 8 yt) yQ)
    (l4 : 0 ≤ yt.toInt → yt.toInt < (yA.1 38 7).toInt → yt.toInt < 20 → 1 < ((yA.1 40 yt.toInt.toNat) - (yA.1 40 yt.toInt.toNat) / 10 * 10).toInt → yQ (some (.int (-1))) yA) :
    Pa N 140 0 [(0, .ref 0), (1, .int yt)] [] yA yQ := by
  refine Pa.mp 1 (pc' := 1) (l' := [(0, .ref 0), (1, .int yt)]) (st' := [.ref 0]) (by rfl) ?_
  refine Pa.gfR (by rfl) (by rfl) (.inl rfl) (by rfl) ?_
  show Pa N 140 4 [(0, .ref 0), (1, .int yt)] [.ref 38] yA _
  refine Pa.mp 1 (pc' := 5) (l' := [(0, .ref 0), (1, .int yt)]) (st' := [.int yt, .ref 38]) (by rfl) ?_
  refine Pa.inv (by rfl) (by rfl) (.inr rfl) (by rfl) ?_
  show Pa N 1 0 [(0, .ref 38), (1, .int yt)] [] yA _
  refine Pa.mp 1 (pc' := 1) (l' := [(0, .ref 38), (1, .int yt)]) (st' := [.int yt]) (by rfl) ?_
  refine Pa.if1 (a := yt.toInt) (t := 16) (by rfl) (by rfl) (rfl) (fun h1 => ?_) (fun h2 => ?_)
  · have h1 : yt.toInt < 0 := h1
    refine Pa.ic (x := 0) (pc' := 17) (by rfl) (by rfl) (by decide) ?_
    refine Pa.iret (by rfl) ?_
    show Pa N 140 8 [(0, .ref 0), (1, .int yt)] [.int 0] yA _
    refine Pa.if1k true (by rfl) (by rfl) (by decide) ?_
    show Pa N 140 27 [(0, .ref 0), (1, .int yt)] [] yA _
    refine Pa.ic (x := (-1)) (pc' := 28) (by rfl) (by rfl) (by decide) ?_
    refine Pa.iret (by rfl) ?_
    exact l1 h1
  · have h2 : 0 ≤ yt.toInt := h2
    refine Pa.mp 2 (pc' := 6) (l' := [(0, .ref 38), (1, .int yt)]) (st' := [.ref 38, .int yt]) (by rfl) ?_
    refine Pa.gfI (v := yA.1 38 7) (by rfl) (by rfl) (.inl rfl) (by rfl) (by rfl) ?_
    refine Pa.if2 (a := yt.toInt) (b := (yA.1 38 7).toInt) (t := 16) (by rfl) (by rfl) (rfl) (rfl) (fun h3 => ?_) (fun h4 => ?_)
    · have h3 : (yA.1 38 7).toInt ≤ yt.toInt := h3
      refine Pa.ic (x := 0) (pc' := 17) (by rfl) (by rfl) (by decide) ?_
      refine Pa.iret (by rfl) ?_
      show Pa N 140 8 [(0, .ref 0), (1, .int yt)] [.int 0] yA _
      refine Pa.if1k true (by rfl) (by rfl) (by decide) ?_
      show Pa N 140 27 [(0, .ref 0), (1, .int yt)] [] yA _
      refine Pa.ic (x := (-1)) (pc' := 28) (by rfl) (by rfl) (by decide) ?_
      refine Pa.iret (by rfl) ?_
      exact l2 h2 h3
    · have h4 : yt.toInt < (yA.1 38 7).toInt := h4
      refine Pa.ic (x := 1) (pc' := 13) (by rfl) (by rfl) (by decide) ?_
      refine Pa.mp 1 (pc' := 17) (l' := [(0, .ref 38), (1, .int yt)]) (st' := [.int 1]) (by rfl) ?_
      refine Pa.iret (by rfl) ?_
      show Pa N 140 8 [(0, .ref 0), (1, .int yt)] [.int 1] yA _
      refine Pa.if1k false (by rfl) (by rfl) (by decide) ?_
      show Pa N 140 11 [(0, .ref 0), (1, .int yt)] [] yA _
      refine Pa.mp 1 (pc' := 12) (l' := [(0, .ref 0), (1, .int yt)]) (st' := [.ref 0]) (by rfl) ?_
      refine Pa.gfR (by rfl) (by rfl) (.inl rfl) (by rfl) ?_
      show Pa N 140 15 [(0, .ref 0), (1, .int yt)] [.ref 38] yA _
      refine Pa.gfR (by rfl) (by rfl) (.inr rfl) (by rfl) ?_
      show Pa N 140 18 [(0, .ref 0), (1, .int yt)] [.ref 40] yA _
      refine Pa.mp 1 (pc' := 19) (l' := [(0, .ref 0), (1, .int yt)]) (st' := [.int yt, .ref 40]) (by rfl) ?_
      refine Pa.alds (v := yA.1 40 yt.toInt.toNat) (by rfl) (by rfl) (by rfl) (fun h5 h6 => ?_)
      have h5 : 0 ≤ yt.toInt := h5
      have h6 : yt.toInt < 20 := h6
      refine Pa.ic (x := 10) (pc' := 22) (by rfl) (by rfl) (by decide) ?_
      refine Pa.irem (by rfl) ?_
      refine Pa.ic (x := 1) (pc' := 24) (by rfl) (by rfl) (by decide) ?_
      refine Pa.if2 (a := ((yA.1 40 yt.toInt.toNat) - (yA.1 40 yt.toInt.toNat) / 10 * 10).toInt) (b := 1) (t := 29) (by rfl) (by rfl) (rfl) (by decide) (fun h7 => ?_) (fun h8 => ?_)
      · have h7 : ((yA.1 40 yt.toInt.toNat) - (yA.1 40 yt.toInt.toNat) / 10 * 10).toInt ≤ 1 := h7
        refine Pa.mp 1 (pc' := 30) (l' := [(0, .ref 0), (1, .int yt)]) (st' := [.ref 0]) (by rfl) ?_
        refine Pa.gfR (by rfl) (by rfl) (.inl rfl) (by rfl) ?_
        show Pa N 140 33 [(0, .ref 0), (1, .int yt)] [.ref 38] yA _
        refine Pa.mp 1 (pc' := 34) (l' := [(0, .ref 0), (1, .int yt)]) (st' := [.int yt, .ref 38]) (by rfl) ?_
        refine Pa.pfI (by rfl) (by rfl) (.inr rfl) (by rfl) ?_
        show Pa N 140 37 [(0, .ref 0), (1, .int yt)] [] (uI yA 38 8 yt) _
        refine Pa.mp 2 (pc' := 39) (l' := [(2, .long (Int64.ofNat 0)), (0, .ref 0), (1, .int yt)]) (st' := []) (by rfl) ?_
        refine Pa.ic (x := 0) (pc' := 40) (by rfl) (by rfl) (by decide) ?_
        refine Pa.mp 1 (pc' := 42) (l' := [(4, .int 0), (2, .long (Int64.ofNat 0)), (0, .ref 0), (1, .int yt)]) (st' := []) (by rfl) ?_
        refine Pa.lv (l' := [(0, .ref 0), (1, .int yt), (2, .long (Int64.ofNat 0)), (4, .int 0)]) (lvS_c rfl (lvS_c rfl (lvS_c rfl (lvS_c rfl (lvS_nil))))) rfl ?_
        exact l3 h2 h4 h6 h7
      · have h8 : 1 < ((yA.1 40 yt.toInt.toNat) - (yA.1 40 yt.toInt.toNat) / 10 * 10).toInt := h8
        refine Pa.ic (x := (-1)) (pc' := 28) (by rfl) (by rfl) (by decide) ?_
        refine Pa.iret (by rfl) ?_
        exact l4 h2 h4 h6 h8

theorem bx_tt1 {N : Nat} {yA : AW} {yQ : Option Value → AW → Prop} (yt yf : Int32) (ys : Int64)
    (l1 : (yA.1 5 6).toInt ≤ yf.toInt → yQ (some (.int ((l_min ys 1999999999).toInt32))) (uI yA 38 8 (-1)))
    (l2 : yf.toInt < (yA.1 5 6).toInt → 0 ≤ yt.toInt → yt.toInt < 20 → Pa N 17 0 [(0, .ref 46), (1, .int yf), (2, .int ((yA.1 40 yt.toInt.toNat) / 10)), (3, .int (yA.1 0 10))] [] yA (fun yu A1 => Pa N 140 80 [(0, .ref 0), (1, .int yt), (2, .long ys), (4, .int yf)] (yu.toList ++ [.long ys]) A1 yQ)) :
    Pa (N + 1) 140 42 [(0, .ref 0), (1, .int yt), (2, .long ys), (4, .int yf)] [] yA yQ := by
  refine Pa.mp1 1 (pc' := 45) (l' := [(0, .ref 0), (1, .int yt), (2, .long ys), (4, .int yf)]) (st' := [.ref 0, .int yf]) (by rfl) ?_
  refine Pa.gfR (by rfl) (by rfl) (.inl rfl) (by rfl) ?_
  show Pa N 140 48 [(0, .ref 0), (1, .int yt), (2, .long ys), (4, .int yf)] [.ref 5, .int yf] yA _
  refine Pa.gfI (v := yA.1 5 6) (by rfl) (by rfl) (.inr rfl) (by rfl) (by rfl) ?_
  refine Pa.if2 (a := yf.toInt) (b := (yA.1 5 6).toInt) (t := 89) (by rfl) (by rfl) (rfl) (rfl) (fun h1 => ?_) (fun h2 => ?_)
  · have h1 : (yA.1 5 6).toInt ≤ yf.toInt := h1
    refine Pa.mp 1 (pc' := 90) (l' := [(0, .ref 0), (1, .int yt), (2, .long ys), (4, .int yf)]) (st' := [.ref 0]) (by rfl) ?_
    refine Pa.gfR (by rfl) (by rfl) (.inl rfl) (by rfl) ?_
    show Pa N 140 93 [(0, .ref 0), (1, .int yt), (2, .long ys), (4, .int yf)] [.ref 38] yA _
    refine Pa.ic (x := (-1)) (pc' := 94) (by rfl) (by rfl) (by decide) ?_
    refine Pa.pfI (by rfl) (by rfl) (.inr rfl) (by rfl) ?_
    show Pa N 140 97 [(0, .ref 0), (1, .int yt), (2, .long ys), (4, .int yf)] [] (uI yA 38 8 (-1)) _
    refine Pa.mp 1 (pc' := 98) (l' := [(0, .ref 0), (1, .int yt), (2, .long ys), (4, .int yf)]) (st' := [.long ys]) (by rfl) ?_
    refine Pa.jcl (x := 1999999999) (pc' := 101) (by rfl) (fun _ _ _ => by rfl) (by decide) ?_
    refine Pa.mth (by rfl) (by rfl) (by rfl) mm_lmin ?_
    refine Pa.mp 1 (pc' := 105) (l' := [(0, .ref 0), (1, .int yt), (2, .long ys), (4, .int yf)]) (st' := [.int ((l_min ys 1999999999).toInt32)]) (by rfl) ?_
    refine Pa.iret (by rfl) ?_
    exact l1 h1
  · have h2 : yf.toInt < (yA.1 5 6).toInt := h2
    refine Pa.mp 2 (pc' := 56) (l' := [(0, .ref 0), (1, .int yt), (2, .long ys), (4, .int yf)]) (st' := [.ref 0, .long ys]) (by rfl) ?_
    refine Pa.gfR (by rfl) (by rfl) (.inl rfl) (by rfl) ?_
    show Pa N 140 59 [(0, .ref 0), (1, .int yt), (2, .long ys), (4, .int yf)] [.ref 46, .long ys] yA _
    refine Pa.mp 2 (pc' := 62) (l' := [(0, .ref 0), (1, .int yt), (2, .long ys), (4, .int yf)]) (st' := [.ref 0, .int yf, .ref 46, .long ys]) (by rfl) ?_
    refine Pa.gfR (by rfl) (by rfl) (.inl rfl) (by rfl) ?_
    show Pa N 140 65 [(0, .ref 0), (1, .int yt), (2, .long ys), (4, .int yf)] [.ref 38, .int yf, .ref 46, .long ys] yA _
    refine Pa.gfR (by rfl) (by rfl) (.inr rfl) (by rfl) ?_
    show Pa N 140 68 [(0, .ref 0), (1, .int yt), (2, .long ys), (4, .int yf)] [.ref 40, .int yf, .ref 46, .long ys] yA _
    refine Pa.mp 1 (pc' := 69) (l' := [(0, .ref 0), (1, .int yt), (2, .long ys), (4, .int yf)]) (st' := [.int yt, .ref 40, .int yf, .ref 46, .long ys]) (by rfl) ?_
    refine Pa.alds (v := yA.1 40 yt.toInt.toNat) (by rfl) (by rfl) (by rfl) (fun h3 h4 => ?_)
    have h3 : 0 ≤ yt.toInt := h3
    have h4 : yt.toInt < 20 := h4
    refine Pa.ic (x := 10) (pc' := 72) (by rfl) (by rfl) (by decide) ?_
    refine Pa.idiv (by rfl) ?_
    refine Pa.mp 1 (pc' := 74) (l' := [(0, .ref 0), (1, .int yt), (2, .long ys), (4, .int yf)]) (st' := [.ref 0, .int ((yA.1 40 yt.toInt.toNat) / 10), .int yf, .ref 46, .long ys]) (by rfl) ?_
    refine Pa.gfI (v := yA.1 0 10) (by rfl) (by rfl) (.inl rfl) (by rfl) (by rfl) ?_
    refine Pa.inv (by rfl) (by rfl) (.inr rfl) (by rfl) ?_
    exact l2 h2 h3 h4

theorem bx_tt2 {N : Nat} {yA : AW} {yQ : Option Value → AW → Prop} (yt yf yv : Int32) (ys : Int64)
    (l1 : Pa N 140 42 [(0, .ref 0), (1, .int yt), (2, .long (ys + yv.toInt64)), (4, .int (yf + 1))] [] yA yQ) :
    Pa N 140 80 [(0, .ref 0), (1, .int yt), (2, .long ys), (4, .int yf)] [.int yv, .long ys] yA yQ := by
  refine Pa.mp 3 (pc' := 83) (l' := [(2, .long (ys + yv.toInt64)), (0, .ref 0), (1, .int yt), (4, .int yf)]) (st' := []) (by rfl) ?_
  refine Pa.iinc (x := yf) (c := 1) (v := (yf + 1)) (l' := [(4, .int (yf + 1)), (2, .long (ys + yv.toInt64)), (0, .ref 0), (1, .int yt)]) (by rfl) (by rfl) (by decide) (by rfl) (by rfl) ?_
  refine Pa.mp 1 (pc' := 42) (l' := [(4, .int (yf + 1)), (2, .long (ys + yv.toInt64)), (0, .ref 0), (1, .int yt)]) (st' := []) (by rfl) ?_
  refine Pa.lv (l' := [(0, .ref 0), (1, .int yt), (2, .long (ys + yv.toInt64)), (4, .int (yf + 1))]) (lvS_c rfl (lvS_c rfl (lvS_c rfl (lvS_c rfl (lvS_nil))))) rfl ?_
  exact l1

theorem bm_tt0 {N : Nat} {yA : AW} {yQ : Option Value → AW → Prop} (yt : Int32)
    (l1 : yt.toInt < 0 → yQ (some (.int (-1))) yA)
    (l2 : 0 ≤ yt.toInt → (yA.1 69 45).toInt ≤ yt.toInt → yQ (some (.int (-1))) yA)
    (l3 : 0 ≤ yt.toInt → yt.toInt < (yA.1 69 45).toInt → yt.toInt < 20 → ((yA.1 102 yt.toInt.toNat) - (yA.1 102 yt.toInt.toNat) / 10 * 10).toInt ≤ 1 → Pa N 248 37 [(0, .ref 69), (1, .int yt), (2, .long (Int64.ofNat 0)), (4, .int 0)] [] (uI yA 69 69 yt) yQ)
    (l4 : 0 ≤ yt.toInt → yt.toInt < (yA.1 69 45).toInt → yt.toInt < 20 → 1 < ((yA.1 102 yt.toInt.toNat) - (yA.1 102 yt.toInt.toNat) / 10 * 10).toInt → yQ (some (.int (-1))) yA) :
    Pa N 248 0 [(0, .ref 69), (1, .int yt)] [] yA yQ := by
  refine Pa.mp 1 (pc' := 1) (l' := [(0, .ref 69), (1, .int yt)]) (st' := [.int yt]) (by rfl) ?_
  refine Pa.if1 (a := yt.toInt) (t := 25) (by rfl) (by rfl) (rfl) (fun h1 => ?_) (fun h2 => ?_)
  · have h1 : yt.toInt < 0 := h1
    refine Pa.ic (x := (-1)) (pc' := 26) (by rfl) (by rfl) (by decide) ?_
    refine Pa.iret (by rfl) ?_
    exact l1 h1
  · have h2 : 0 ≤ yt.toInt := h2
    refine Pa.mp 2 (pc' := 6) (l' := [(0, .ref 69), (1, .int yt)]) (st' := [.ref 69, .int yt]) (by rfl) ?_
    refine Pa.gfI (v := yA.1 69 45) (by rfl) (by rfl) (.inl rfl) (by rfl) (by rfl) ?_
    refine Pa.if2 (a := yt.toInt) (b := (yA.1 69 45).toInt) (t := 25) (by rfl) (by rfl) (rfl) (rfl) (fun h3 => ?_) (fun h4 => ?_)
    · have h3 : (yA.1 69 45).toInt ≤ yt.toInt := h3
      refine Pa.ic (x := (-1)) (pc' := 26) (by rfl) (by rfl) (by decide) ?_
      refine Pa.iret (by rfl) ?_
      exact l2 h2 h3
    · have h4 : yt.toInt < (yA.1 69 45).toInt := h4
      refine Pa.mp 1 (pc' := 13) (l' := [(0, .ref 69), (1, .int yt)]) (st' := [.ref 69]) (by rfl) ?_
      refine Pa.gfR (by rfl) (by rfl) (.inl rfl) (by rfl) ?_
      show Pa N 248 16 [(0, .ref 69), (1, .int yt)] [.ref 102] yA _
      refine Pa.mp 1 (pc' := 17) (l' := [(0, .ref 69), (1, .int yt)]) (st' := [.int yt, .ref 102]) (by rfl) ?_
      refine Pa.alds (v := yA.1 102 yt.toInt.toNat) (by rfl) (by rfl) (by rfl) (fun h5 h6 => ?_)
      have h5 : 0 ≤ yt.toInt := h5
      have h6 : yt.toInt < 20 := h6
      refine Pa.ic (x := 10) (pc' := 20) (by rfl) (by rfl) (by decide) ?_
      refine Pa.irem (by rfl) ?_
      refine Pa.ic (x := 1) (pc' := 22) (by rfl) (by rfl) (by decide) ?_
      refine Pa.if2 (a := ((yA.1 102 yt.toInt.toNat) - (yA.1 102 yt.toInt.toNat) / 10 * 10).toInt) (b := 1) (t := 27) (by rfl) (by rfl) (rfl) (by decide) (fun h7 => ?_) (fun h8 => ?_)
      · have h7 : ((yA.1 102 yt.toInt.toNat) - (yA.1 102 yt.toInt.toNat) / 10 * 10).toInt ≤ 1 := h7
        refine Pa.mp 2 (pc' := 29) (l' := [(0, .ref 69), (1, .int yt)]) (st' := [.int yt, .ref 69]) (by rfl) ?_
        refine Pa.pfI (by rfl) (by rfl) (.inl rfl) (by rfl) ?_
        show Pa N 248 32 [(0, .ref 69), (1, .int yt)] [] (uI yA 69 69 yt) _
        refine Pa.mp 2 (pc' := 34) (l' := [(2, .long (Int64.ofNat 0)), (0, .ref 69), (1, .int yt)]) (st' := []) (by rfl) ?_
        refine Pa.ic (x := 0) (pc' := 35) (by rfl) (by rfl) (by decide) ?_
        refine Pa.mp 1 (pc' := 37) (l' := [(4, .int 0), (2, .long (Int64.ofNat 0)), (0, .ref 69), (1, .int yt)]) (st' := []) (by rfl) ?_
        refine Pa.lv (l' := [(0, .ref 69), (1, .int yt), (2, .long (Int64.ofNat 0)), (4, .int 0)]) (lvS_c rfl (lvS_c rfl (lvS_c rfl (lvS_c rfl (lvS_nil))))) rfl ?_
        exact l3 h2 h4 h6 h7
      · have h8 : 1 < ((yA.1 102 yt.toInt.toNat) - (yA.1 102 yt.toInt.toNat) / 10 * 10).toInt := h8
        refine Pa.ic (x := (-1)) (pc' := 26) (by rfl) (by rfl) (by decide) ?_
        refine Pa.iret (by rfl) ?_
        exact l4 h2 h4 h6 h8

theorem bm_tt1 {N : Nat} {yA : AW} {yQ : Option Value → AW → Prop} (yt yf : Int32) (ys : Int64)
    (l1 : (yA.1 69 11).toInt ≤ yf.toInt → (lg_cmp ys 1999999999).toInt ≤ 0 → yQ (some (.int ys.toInt32)) (uI yA 69 69 (-1)))
    (l2 : (yA.1 69 11).toInt ≤ yf.toInt → 0 < (lg_cmp ys 1999999999).toInt → yQ (some (.int (1999999999 : Int64).toInt32)) (uI yA 69 69 (-1)))
    (l3 : yf.toInt < (yA.1 69 11).toInt → 0 ≤ yt.toInt → yt.toInt < 20 → Pa N 218 0 [(0, .ref 69), (1, .int yf), (2, .int ((yA.1 102 yt.toInt.toNat) / 10)), (3, .int (yA.1 69 0))] [] yA (fun yu A1 => Pa N 248 66 [(0, .ref 69), (1, .int yt), (2, .long ys), (4, .int yf)] (yu.toList ++ [.long ys]) A1 yQ)) :
    Pa (N + 1) 248 37 [(0, .ref 69), (1, .int yt), (2, .long ys), (4, .int yf)] [] yA yQ := by
  refine Pa.mp1 1 (pc' := 40) (l' := [(0, .ref 69), (1, .int yt), (2, .long ys), (4, .int yf)]) (st' := [.ref 69, .int yf]) (by rfl) ?_
  refine Pa.gfI (v := yA.1 69 11) (by rfl) (by rfl) (.inl rfl) (by rfl) (by rfl) ?_
  refine Pa.if2 (a := yf.toInt) (b := (yA.1 69 11).toInt) (t := 75) (by rfl) (by rfl) (rfl) (rfl) (fun h1 => ?_) (fun h2 => ?_)
  · have h1 : (yA.1 69 11).toInt ≤ yf.toInt := h1
    refine Pa.mp 1 (pc' := 76) (l' := [(0, .ref 69), (1, .int yt), (2, .long ys), (4, .int yf)]) (st' := [.ref 69]) (by rfl) ?_
    refine Pa.ic (x := (-1)) (pc' := 77) (by rfl) (by rfl) (by decide) ?_
    refine Pa.pfI (by rfl) (by rfl) (.inl rfl) (by rfl) ?_
    show Pa N 248 80 [(0, .ref 69), (1, .int yt), (2, .long ys), (4, .int yf)] [] (uI yA 69 69 (-1)) _
    refine Pa.mp 1 (pc' := 81) (l' := [(0, .ref 69), (1, .int yt), (2, .long ys), (4, .int yf)]) (st' := [.long ys]) (by rfl) ?_
    refine Pa.jcl (x := 1999999999) (pc' := 84) (by rfl) (fun _ _ _ => by rfl) (by decide) ?_
    refine Pa.mp 1 (pc' := 85) (l' := [(0, .ref 69), (1, .int yt), (2, .long ys), (4, .int yf)]) (st' := [.int (lg_cmp ys 1999999999)]) (by rfl) ?_
    refine Pa.if1 (a := (lg_cmp ys 1999999999).toInt) (t := 94) (by rfl) (by rfl) (rfl) (fun h3 => ?_) (fun h4 => ?_)
    · have h3 : (lg_cmp ys 1999999999).toInt ≤ 0 := h3
      refine Pa.mp 2 (pc' := 96) (l' := [(0, .ref 69), (1, .int yt), (2, .long ys), (4, .int yf)]) (st' := [.int ys.toInt32]) (by rfl) ?_
      refine Pa.iret (by rfl) ?_
      exact l1 h1 h3
    · have h4 : 0 < (lg_cmp ys 1999999999).toInt := h4
      refine Pa.jcl (x := 1999999999) (pc' := 91) (by rfl) (fun _ _ _ => by rfl) (by decide) ?_
      refine Pa.mp 2 (pc' := 96) (l' := [(0, .ref 69), (1, .int yt), (2, .long ys), (4, .int yf)]) (st' := [.int (1999999999 : Int64).toInt32]) (by rfl) ?_
      refine Pa.iret (by rfl) ?_
      exact l2 h1 h4
  · have h2 : yf.toInt < (yA.1 69 11).toInt := h2
    refine Pa.mp 4 (pc' := 51) (l' := [(0, .ref 69), (1, .int yt), (2, .long ys), (4, .int yf)]) (st' := [.ref 69, .int yf, .ref 69, .long ys]) (by rfl) ?_
    refine Pa.gfR (by rfl) (by rfl) (.inl rfl) (by rfl) ?_
    show Pa N 248 54 [(0, .ref 69), (1, .int yt), (2, .long ys), (4, .int yf)] [.ref 102, .int yf, .ref 69, .long ys] yA _
    refine Pa.mp 1 (pc' := 55) (l' := [(0, .ref 69), (1, .int yt), (2, .long ys), (4, .int yf)]) (st' := [.int yt, .ref 102, .int yf, .ref 69, .long ys]) (by rfl) ?_
    refine Pa.alds (v := yA.1 102 yt.toInt.toNat) (by rfl) (by rfl) (by rfl) (fun h5 h6 => ?_)
    have h5 : 0 ≤ yt.toInt := h5
    have h6 : yt.toInt < 20 := h6
    refine Pa.ic (x := 10) (pc' := 58) (by rfl) (by rfl) (by decide) ?_
    refine Pa.idiv (by rfl) ?_
    refine Pa.mp 1 (pc' := 60) (l' := [(0, .ref 69), (1, .int yt), (2, .long ys), (4, .int yf)]) (st' := [.ref 69, .int ((yA.1 102 yt.toInt.toNat) / 10), .int yf, .ref 69, .long ys]) (by rfl) ?_
    refine Pa.gfI (v := yA.1 69 0) (by rfl) (by rfl) (.inl rfl) (by rfl) (by rfl) ?_
    refine Pa.inv (by rfl) (by rfl) (.inl rfl) (by rfl) ?_
    exact l3 h2 h5 h6

theorem bm_tt2 {N : Nat} {yA : AW} {yQ : Option Value → AW → Prop} (yt yf yv : Int32) (ys : Int64)
    (l1 : Pa N 248 37 [(0, .ref 69), (1, .int yt), (2, .long (ys + yv.toInt64)), (4, .int (yf + 1))] [] yA yQ) :
    Pa N 248 66 [(0, .ref 69), (1, .int yt), (2, .long ys), (4, .int yf)] [.int yv, .long ys] yA yQ := by
  refine Pa.mp 3 (pc' := 69) (l' := [(2, .long (ys + yv.toInt64)), (0, .ref 69), (1, .int yt), (4, .int yf)]) (st' := []) (by rfl) ?_
  refine Pa.iinc (x := yf) (c := 1) (v := (yf + 1)) (l' := [(4, .int (yf + 1)), (2, .long (ys + yv.toInt64)), (0, .ref 69), (1, .int yt)]) (by rfl) (by rfl) (by decide) (by rfl) (by rfl) ?_
  refine Pa.mp 1 (pc' := 37) (l' := [(4, .int (yf + 1)), (2, .long (ys + yv.toInt64)), (0, .ref 69), (1, .int yt)]) (st' := []) (by rfl) ?_
  refine Pa.lv (l' := [(0, .ref 69), (1, .int yt), (2, .long (ys + yv.toInt64)), (4, .int (yf + 1))]) (lvS_c rfl (lvS_c rfl (lvS_c rfl (lvS_c rfl (lvS_nil))))) rfl ?_
  exact l1
theorem d_tt {yA : AW} {yt : Int32} (f38 : yA.1 38 7 = yA.1 69 45) (r40 : ∀ yj, yj < 20 → yA.1 40 yj = yA.1 102 yj) (hg : okTt yA yt → Rgx (uI yA 38 8 yt)) (N : Nat) : Pa N 140 0 [(0, .ref 0), (1, .int yt)] [] yA (dTt yt yA) := by
  refine bx_tt0 yt (fun y1 => .inl ⟨fun yz => by have := yz.1; omega, rfl, rfl⟩) (fun y1 y2 => .inl ⟨fun yz => by have := yz.2.1; rw [f38] at y2; omega, rfl, rfl⟩) (fun y1 y2 y3 y4 => ?_) (fun y1 y2 y3 y4 => .inl ⟨fun yz => by have := yz.2.2; rw [r40 _ (by omega)] at y4; omega, rfl, rfl⟩)
  rw [f38] at y2
  rw [r40 _ (by omega)] at y4
  have yok : okTt yA yt := ⟨y1, y2, y4⟩
  obtain ⟨yB, yhB⟩ : ∃ yB, uI yA 38 8 yt = yB := ⟨_, rfl⟩
  have yg : Rgx yB := by
    rw [← yhB]
    exact hg yok
  have b69 : ∀ yj, yB.1 69 yj = yA.1 69 yj := fun yj => by rw [← yhB, uI_c (by decide)]
  have yd9 := yg.gl.ok.fld (i := 69) (k := 0) (lo := 0) (hi := 3599) (by decide +kernel)
  rw [b69] at yd9
  have gF := yg.tF
  rw [b69] at gF
  have ykey : ∀ (N yi : Nat) (V : AW), yi ≤ (yA.1 69 11).toInt.toNat → scX yB yB V → Pa N 140 42 [(0, .ref 0), (1, .int yt), (2, .long (tsV yB ((yA.1 102 yt.toInt.toNat) / 10) (yA.1 69 0) yi)), (4, .int (Int32.ofNat yi))] [] V (dTt yt yA) := by
    intro N
    induction N with
    | zero => intros; exact Pa.zero
    | succ N yih =>
      intro yi V yhi hV
      have ei : (Int32.ofNat yi).toInt = (yi : Int) := i32_nat (by omega)
      have e56 : V.1 5 6 = yA.1 69 11 := (hV.1 5 6 (by decide)).trans (yg.gl.f5.trans (b69 11))
      have e40 : V.1 40 yt.toInt.toNat = yA.1 102 yt.toInt.toNat := (hV.1 40 _ (by decide)).trans (by
        rw [← yhB, uI_c (by decide)]
        exact r40 _ (by omega))
      have ye0 : V.1 0 10 = yA.1 69 0 := (hV.1 0 10 (by decide)).trans ((yg.F11 ((0, 10), (69, 0)) (by simp [F11])).trans (b69 0))
      refine bx_tt1 yt (Int32.ofNat yi) _ (fun yz => ?_) (fun yz _ _ => ?_)
      · rw [e56, ei] at yz
        have ye : yi = (yA.1 69 11).toInt.toNat := by omega
        refine .inr ⟨yok, ?_, V, by rw [yhB]; exact hV, rfl⟩
        unfold ttV
        rw [yhB, ye]
      · rw [e56, ei] at yz
        rw [e40, ye0]
        refine Pa.mono (c_duX yg hV (Int32.ofNat yi) ((yA.1 102 yt.toInt.toNat) / 10) (yA.1 69 0) (by omega) (by rw [b69]; omega) yd9.2 N) (fun yv yU hv => ?_)
        obtain ⟨rfl, ys1⟩ := hv
        refine bx_tt2 yt (Int32.ofNat yi) _ _ ?_
        have yh := yih (yi + 1) yU (by omega) ys1
        rw [on_succ yi] at yh
        exact yh
  have yh := ykey N 0 yB (Nat.zero_le _) (scX_refl yB)
  rw [yhB]
  exact yh
theorem e_tt {yA yW : AW} {yt : Int32} (h45 : yW.1 69 45 = yA.1 69 45) (h102 : ∀ yj, yW.1 102 yj = yA.1 102 yj) (hg : okTt yA yt → Rgx (uI yA 38 8 yt) ∧ smM (uI yW 69 69 yt) (uI yA 38 8 yt) (uI yW 69 69 yt)) (N : Nat) : Pa N 248 0 [(0, .ref 69), (1, .int yt)] [] yW (fun yu _ => (¬ okTt yA yt ∧ yu = some (.int (-1))) ∨ (okTt yA yt ∧ yu = some (.int (ttV yA yt)))) := by
  refine bm_tt0 yt (fun y1 => .inl ⟨fun yz => by have := yz.1; omega, rfl⟩) (fun y1 y2 => .inl ⟨fun yz => by have := yz.2.1; rw [h45] at y2; omega, rfl⟩) (fun y1 y2 y3 y4 => ?_) (fun y1 y2 y3 y4 => .inl ⟨fun yz => by have := yz.2.2; rw [h102] at y4; omega, rfl⟩)
  rw [h45] at y2
  rw [h102] at y4
  have yok : okTt yA yt := ⟨y1, y2, y4⟩
  obtain ⟨yg, hs⟩ := hg yok
  obtain ⟨yB, yhB⟩ : ∃ yB, uI yA 38 8 yt = yB := ⟨_, rfl⟩
  obtain ⟨yC, hC⟩ : ∃ yC, uI yW 69 69 yt = yC := ⟨_, rfl⟩
  rw [yhB] at yg hs
  rw [hC] at hs ⊢
  have b69 : ∀ yj, yB.1 69 yj = yA.1 69 yj := fun yj => by rw [← yhB, uI_c (by decide)]
  have yd9 := yg.gl.ok.fld (i := 69) (k := 0) (lo := 0) (hi := 3599) (by decide +kernel)
  rw [b69] at yd9
  have gF := yg.tF
  rw [b69] at gF
  have ykey : ∀ (N yi : Nat) (V : AW), yi ≤ (yA.1 69 11).toInt.toNat → smM yC yB V → Pa N 248 37 [(0, .ref 69), (1, .int yt), (2, .long (tsV yB ((yA.1 102 yt.toInt.toNat) / 10) (yA.1 69 0) yi)), (4, .int (Int32.ofNat yi))] [] V (fun yu _ => (¬ okTt yA yt ∧ yu = some (.int (-1))) ∨ (okTt yA yt ∧ yu = some (.int (ttV yA yt)))) := by
    intro N
    induction N with
    | zero => intros; exact Pa.zero
    | succ N yih =>
      intro yi V yhi hV
      have ei : (Int32.ofNat yi).toInt = (yi : Int) := i32_nat (by omega)
      have ye11 : V.1 69 11 = yA.1 69 11 := (hV.2.1 11 (by decide) (by decide) (by decide) (by decide) (by decide) (by decide) (by decide) (by decide)).trans (b69 11)
      have ye102 : V.1 102 yt.toInt.toNat = yA.1 102 yt.toInt.toNat := (hV.lo (by decide) (by decide) _).trans (by rw [← yhB, uI_c (by decide)])
      have ye0 : V.1 69 0 = yA.1 69 0 := (hV.2.1 0 (by decide) (by decide) (by decide) (by decide) (by decide) (by decide) (by decide) (by decide)).trans (b69 0)
      refine bm_tt1 yt (Int32.ofNat yi) _ (fun yz z2 => .inr ⟨yok, ?_⟩) (fun yz z2 => .inr ⟨yok, ?_⟩) (fun yz _ _ => ?_)
      · rw [ye11, ei] at yz
        have ye : yi = (yA.1 69 11).toInt.toNat := by omega
        unfold ttV
        rw [yhB, ← ye, l_min_le z2]
      · rw [ye11, ei] at yz
        have ye : yi = (yA.1 69 11).toInt.toNat := by omega
        unfold ttV
        rw [yhB, ← ye, l_min_ge (by omega)]
      · rw [ye11, ei] at yz
        rw [ye102, ye0]
        refine Pa.mono (c_duM yg hV (Int32.ofNat yi) ((yA.1 102 yt.toInt.toNat) / 10) (yA.1 69 0) yd9.1 yd9.2 N) (fun yv yU hv => ?_)
        obtain ⟨rfl, ys1⟩ := hv
        refine bm_tt2 yt (Int32.ofNat yi) _ _ ?_
        have yh := yih (yi + 1) yU (by omega) ys1
        rw [on_succ yi] at yh
        exact yh
  exact ykey N 0 yC (Nat.zero_le _) hs
theorem tt_M {yw : mWd} (hW : WI zZ yw) (hR : RR Fg Ag (RXL Ig) yw) {yW : AW} {yt : Int32} {yu : Option Value} (ys1 : dTt yt (aw yw) yu yW) : (yW.1 69 45 = (aw yw).1 69 45) ∧ (∀ yj, yW.1 102 yj = (aw yw).1 102 yj) ∧ (okTt (aw yw) yt → Rgx (uI (aw yw) 38 8 yt) ∧ smM (uI yW 69 69 yt) (uI (aw yw) 38 8 yt) (uI yW 69 69 yt)) := by
  unfold dTt at ys1
  rcases ys1 with ⟨ya1, _, a3⟩ | ⟨ya1, _, V, a3, a4⟩
  · rw [a3]
    exact ⟨rfl, fun _ => rfl, fun yz => absurd yz ya1⟩
  · rw [a4]
    refine ⟨by rw [uI_c (by decide), a3.1 69 45 (by decide), uI_c (by decide)], fun yj => by rw [uI_c (by decide), a3.1 102 yj (by decide), uI_c (by decide)], fun yz => ⟨Rgx_t hW hR yz.1 yz.2.1, ?_⟩⟩
    refine ⟨fun yc yj yhc => ?_, fun yj _ _ _ _ _ _ _ h9 => ?_, fun yj => ⟨?_, ?_, ?_⟩, fun _ _ _ => rfl⟩
    · have h9 : 69 < yc := yhc.1
      rw [uI_c (by omega), uI_c (by omega)]
      exact a3.1 yc yj (scC_hi (by omega))
    · rw [uI_k h9.2, uI_c (by decide)]
      exact a3.1 69 yj (by decide)
    · rw [uI_c (by decide), uI_c (by decide)]
      exact a3.1 21 yj (by decide)
    · rw [uI_c (by decide), uI_c (by decide)]
      exact a3.1 23 yj (by decide)
    · rw [uI_h, uI_h]
theorem h_tryT {yp : zPr} (hp : yp.1 = 140 ∧ yp.2.1 = 248 ∧ yp.2.2.1 = 1) (yhc : c_rm yp = true) (yq1 : (ri_wr zZ Fg Ag (wX yp) && kXL (dmin Ig [6]) (wX yp)) = true) (yq2 : (ri_wr zZ Fg Ag (wM yp) && kXL (dmin Ig [6]) (wM yp)) = true) (yq3 : kpS ([(38, 8)], []) (wM yp) = true) (yq4 : kpS ([(69, 69)], []) (wX yp) = true) : PairOK (RR Fg Ag (RXL Ig)) yp := by
  obtain ⟨yp1, yp2, yp3⟩ := hp
  intro yL xs yd yhd yw yas hW hk hR hl
  have hq := (RI_ofA hW (by decide +kernel) (by decide +kernel)).mp hR.1
  have h0 := h_tryL (yF := Fg) (Ar := Ag) (yI := Ig) (yp := (yp.1, yp.2.1, yp.2.2.1, false, yp.2.2.2.2)) ⟨yp1, yp2, yp3, rfl⟩ yhc yq1 yq2 yq3 yq4 (by decide)
  have h1 : Rn yL xs yd yp.1 0 (lv_args 0 (.ref 0 :: yas.map Value.int)) [] yw (fun yv yw1 => WI zZ yw1 ∧ Rn yL xs yd yp.2.1 0 (lv_args 0 (.ref 69 :: yas.map Value.int)) [] yw1 (fun v2 yw2 => prQ3 zZ (RR Fg Ag (RXL Ig)) (yp.1, yp.2.1, yp.2.2.1, false, yp.2.2.2.2) yw yv v2 yw2)) := h0 yL xs yd yhd yw yas hW hk hR hl
  rw [yp3] at hl
  obtain ⟨yt, rfl⟩ := as1 hl
  have f38 : (aw yw).1 38 7 = (aw yw).1 69 45 := hq.1 ((38, 7), (69, 45)) (of_decide_eq_true (by decide +kernel))
  have r40 : ∀ yj, yj < 20 → (aw yw).1 40 yj = (aw yw).1 102 yj := hq.2 (40, 102) (of_decide_eq_true (by decide +kernel)) 20 (by decide +kernel)
  have yx1 : ∀ N, Pa N yp.1 0 (lv_args 0 (.ref 0 :: [yt].map Value.int)) [] (aw yw) (dTt yt (aw yw)) := fun N => by
    rw [yp1]
    exact d_tt f38 r40 (fun yz => Rgx_t hW hR yz.1 yz.2.1) N
  refine (h1.pa yx1 (SH_of hW)).mono (fun yv yw1 hv => ?_)
  obtain ⟨⟨ye4, h2⟩, ys1⟩ := hv
  have yhM := tt_M hW hR ys1
  have yx2 : ∀ N, Pa N yp.2.1 0 (lv_args 0 (.ref 69 :: [yt].map Value.int)) [] (aw yw1) (fun yu _ => (¬ okTt (aw yw) yt ∧ yu = some (.int (-1))) ∨ (okTt (aw yw) yt ∧ yu = some (.int (ttV (aw yw) yt)))) := fun N => by
    rw [yp2]
    exact e_tt yhM.1 yhM.2.1 yhM.2.2 N
  refine ⟨ye4, (h2.pa yx2 (SH_of ye4)).mono (fun v2 yw2 hv2 => ?_)⟩
  obtain ⟨⟨⟨yx, yy, rfl, rfl, _⟩, yf4⟩, ys2⟩ := hv2
  refine ⟨⟨yx, yy, rfl, rfl, fun _ => ?_⟩, yf4⟩
  unfold dTt at ys1
  rcases ys1 with ⟨ya1, a2, _⟩ | ⟨ya1, a2, _⟩
  · rcases ys2 with ⟨b1, b2⟩ | ⟨b1, b2⟩
    · rw [some_int a2, some_int b2]
    · exact absurd b1 ya1
  · rcases ys2 with ⟨b1, b2⟩ | ⟨b1, b2⟩
    · exact absurd ya1 b1
    · rw [some_int a2, some_int b2]
