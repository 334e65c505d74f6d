/-! WHAT IS SEEN AT THE ENDS yOF yA METHOD; ya ytext that is tried is yput back -/
def chkTP (yy : Nat) (yc : zKt) (yord : Nat) (yTS : List zTT) (ysp : Option (Nat × Nat)) (yF : Nat) (yf2 : sD → Bool) (yt : zTT) : Bool := match t_start yt.2.2.1 yt.2.2.2.1 (z_zip yt.2.1 (e_args (z_nE yc) yt.2.2.2.1.1)) yt.2.2.2.2.1 with
  | some yD => Nat.beq yt.2.2.1.length (z_nE yc) && chk zZ zT yy yc yord yTS ysp (some yt.2.2.2.2.2) (z_nE yc) (fun yD _ => yf2 yD) yF true yy yt.1 yD []
  | none => false
def chkMP (yC0 : sC) (yy : Nat) (yc : zKt) (yord : Nat) (yTS : List zTT) (ysp : Option (Nat × Nat)) (yF : Nat) (yf2 : sD → Bool) : Bool := (match t_start [(0, 0)] yc.1 (s_lv 0 (e_args 1 yc.1.1)) (0, 0) with
  | some yD => chk zZ zT yy yc yord yTS ysp none (z_nE yc) (fun yD _ => yf2 yD) yF false yy 0 (yD.1, yC0 ++ yD.2.1, yD.2.2) []
  | none => false) && (Nat.blt 0 yc.2.2.2.2.2.1 && yTS.all (chkTP yy yc yord yTS ysp yF yf2))
def zCallP (yL : Nat) (xs : Nat → Int32) (yy : Nat) (yc : zKt) (yC0 : sC) (yP : mWd → Prop) : Prop := ∀ (yD : Nat) (yw : mWd) (yargs : List Value) (V : List Int), WI zZ yw → wkR [] none yw → cRL (0 :: V) yw yC0 → tE [(0, 0)] yc.1 [0] V yw yargs → zRk yc.2.2.2.2.2.2 (0 :: V) 0 → yc.2.2.2.2.2.1 + 3 * 0 ≤ yD → Rn yL xs yD yy 0 (lv_args 0 yargs) [] yw (fun _ yw1 => yP yw1)
theorem meth_okP {yL : Nat} {xs : Nat → Int32} {yy : Nat} {yc : zKt} {yord yF : Nat} {yTS : List zTT} {ysp : Option (Nat × Nat)} {yC0 : sC} {yf2 : sD → Bool} {yP : mWd → Prop} (hP : ∀ (vs : List Int) (yD : sD) (yw : mWd), nK vs yD.1 → cRL vs yw yD.2.1 → yf2 yD = true → yP yw) (yh : chkMP yC0 yy yc yord yTS ysp yF yf2 = true) : zCallP yL xs yy yc yC0 yP := by
  have HC : ∀ y' ord' c', zT.getD y' none = some (ord', c') → ∀ r', (ord' < yord ∨ (ord' = yord ∧ r' < 0)) → zCall zZ yL xs y' c' r' := fun y' ord' c' yhT r' _ => z_all ord' r' y' c' yhT
  intro yD yw yargs V hW hwk hC0 hE hrk hD
  unfold chkMP at yh
  rw [Bool.and_eq_true, Bool.and_eq_true] at yh
  obtain ⟨h1, h2, h3⟩ := yh
  have yhb : 0 < yc.2.2.2.2.2.1 := Nat.le_of_ble_eq_true h2
  have hnE : (0 :: V).length = z_nE yc := by
    obtain ⟨⟨-, yn1, -⟩, -⟩ := hE
    simp only [List.length_append, List.length_cons, List.length_nil] at yn1
    unfold z_nE
    simp only [List.length_append, List.length_cons]
    omega
  have hgW : gW zZ yc.2.2.2.1 yw (0 :: V) (0, 0) none yw := ⟨hW, fR_refl _ yw, Nat.le_refl _, Nat.le_refl _, wkR_any hwk⟩
  have ycuts : ∀ (ym : Nat) (yt : zTT), yt ∈ yTS → ∀ (V' : List Int) (l : mL) (w' : mWd) (args' : List Value) (qv : List (Bool × Int)), (0 :: V).length = yt.2.2.1.length → tE yt.2.2.1 yt.2.2.2.1 (0 :: V) V' w' args' → kyR l yt.2.1 args' → gW zZ yc.2.2.2.1 yw [] yt.2.2.2.2.1 none w' → rkR ((0 :: V) ++ V') yt.2.2.2.2.2 qv → z_mu qv = ym → Rn yL xs yD yy yt.1 l [] w' (fun _ yw1 => yP yw1) := by
    intro ym
    induction ym using Nat.strongRecOn with
    | _ ym yih =>
      intro yt ht V' l w' args' qv hlen hE' hky hg hq yhm
      have h4 := List.all_eq_true.mp h3 yt ht
      unfold chkTP at h4
      split at h4
      next D1 hD1 =>
        rw [Bool.and_eq_true] at h4
        have hlv : lvR ((0 :: V) ++ V') w' (z_zip yt.2.1 (e_args (z_nE yc) yt.2.2.2.1.1)) l := by
          have := z_zip_ok (vs := (0 :: V) ++ V') (w := w') hky hE'.2.1
          rw [← hlen, hnE] at this
          exact this
        obtain ⟨D2, yd1, yd2⟩ := t_start_ok hE' hlen hlv (gW_any hg)
        rw [hD1] at yd1
        cases yd1
        refine chk_ok (M := some (z_mu qv)) (vsS := (0 :: V) ++ V') zN_ok HC hrk hnE hD (vL_app _ _) (fun os ho => ?_) (fun yh => by cases yh) (fun yt2 ht2 V2 l2 yw2 a2 yq2 yx1 yx2 x3 yx4 yx5 x6 => ?_) (fun vs2 D2 l2 yst2 yw2 o2 v2 y1 y2 y3 y4 => hP vs2 D2 yw2 y1.1 y1.2.1 y4) yF true yy yt.1 D1 [] h4.2 ((0 :: V) ++ V') l [] w' [] yD yd2 (vL_refl _) trivial (by simp) (by simpa using yhb)
        · cases ho
          exact ⟨qv, hq, rfl⟩
        · exact yih (z_mu yq2) (by rw [← yhm]; exact x6 _ rfl) yt2 ht2 V2 l2 yw2 a2 yq2 yx1 yx2 x3 yx4 yx5 rfl
      next => cases h4
  split at h1
  next D1 hD1 =>
    have hlv : lvR ([0] ++ V) yw (s_lv 0 (e_args 1 yc.1.1)) (lv_args 0 yargs) := s_lv_ok hE.2.1
    obtain ⟨D2, yd1, yd2⟩ := t_start_ok (lv := s_lv 0 (e_args 1 yc.1.1)) (l := lv_args 0 yargs) hE rfl hlv hgW
    rw [hD1] at yd1
    cases yd1
    refine chk_ok (M := none) (vsS := 0 :: V) zN_ok HC hrk hnE hD (vL_refl _) (fun os ho => by cases ho) (fun _ => rfl) (fun yt2 ht2 V2 l2 yw2 a2 yq2 yx1 yx2 x3 yx4 yx5 _ => ?_) (fun vs2 D2 l2 yst2 yw2 o2 v2 y1 y2 y3 y4 => hP vs2 D2 yw2 y1.1 y1.2.1 y4) yF false yy 0 _ [] h1 (0 :: V) (lv_args 0 yargs) [] yw [] yD ⟨yd2.1, fun ye he => (List.mem_append.mp he).elim (hC0 ye) (yd2.2.1 ye), yd2.2.2⟩ (vL_refl _) trivial (by simp) (by simpa using yhb)
    exact ycuts (z_mu yq2) yt2 ht2 V2 l2 yw2 a2 yq2 yx1 yx2 x3 yx4 yx5 rfl
  next => cases h1
def okPf (yC0 : sC) (yy : Nat) (yf2 : sD → Bool) : Bool := match zT.getD yy none with
  | none => false
  | some yq => chkMP yC0 yy yq.2 yq.1 (zU.getD yy ([], none)).1 (zU.getD yy ([], none)).2 4000 yf2
theorem l_P {yL : Nat} {xs : Nat → Int32} {yy ycell yn yd : Nat} {yw : mWd} {yas : List Int32} {yC0 : sC} {yf2 : sD → Bool} {yP : mWd → Prop} (hP : ∀ (vs : List Int) (yD : sD) (yw : mWd), nK vs yD.1 → cRL vs yw yD.2.1 → yf2 yD = true → yP yw) (ho : okPf yC0 yy yf2 = true) (yhc : c_is yy ycell yn = true) (hC0 : ∀ V, cRL (0 :: V) yw yC0) (hW : WI zZ yw) (hk : wkR [] none yw) (hl : yas.length = yn) (yhd : 700 ≤ yd) : Rn yL xs yd yy 0 (lv_args 0 (.ref ycell :: yas.map Value.int)) [] yw (fun _ yw1 => yP yw1) := by
  have hc2 := c_is_ok yhc
  unfold l_con at hc2
  split at hc2
  next yp hp =>
    obtain ⟨yord, tm, rs, ypost, ywr, yal, ybase, ymu, yrest⟩ := yp
    cases ye : (l_tm ycell yn tm && (Nat.beq ymu 0 && (Nat.beq rs.1 0 && Nat.ble ybase 700))) with
    | false =>
      simp only [ye] at hc2
      cases hc2
    | true =>
      rw [Bool.and_eq_true, Bool.and_eq_true, Bool.and_eq_true] at ye
      obtain ⟨ye1, ye2, ye3, ye4⟩ := ye
      have ye1 := l_tm_ok ye1
      subst ye1
      have hmu := Nat.eq_of_beq_eq_true ye2
      have yhb := Nat.le_of_ble_eq_true ye4
      unfold okPf at ho
      rw [hp] at ho
      have yh := meth_okP (yL := yL) (xs := xs) hP ho
      subst hl
      have hE : tE [(0, 0)] (l_ps ycell yas.length, [], [], []) [0] (yas.map Int32.toInt) yw (.ref ycell :: yas.map Value.int) := by
        have hiv : e_ivs (l_ps ycell yas.length) = List.replicate yas.length (-2147483648, 2147483647) := by
          show [] ++ e_ivs (List.replicate yas.length (0, -2147483648, 2147483647)) = _
          rw [l_ivs]
          rfl
        refine ⟨⟨rfl, ?_, ?_, fun yf hf => (by cases hf), fun yf hf => (by cases hf), fun yf hf => (by cases hf), fun yf hf => (by cases hf)⟩, ⟨rfl, ?_⟩, yas.map Int32.toInt, [], by simp, ?_, trivial⟩
        · show ([(0, 0)] ++ (e_ivs (l_ps ycell yas.length) ++ [])).length = _
          rw [hiv]
          simp
        · intro ya yx hx
          show (k_at ([(0, 0)] ++ (e_ivs (l_ps ycell yas.length) ++ [])) ya).1 ≤ yx ∧ yx ≤ (k_at ([(0, 0)] ++ (e_ivs (l_ps ycell yas.length) ++ [])) ya).2
          rw [hiv, List.append_nil]
          cases ya with
          | zero =>
            simp at hx
            subst hx
            exact ⟨Int.le_refl 0, Int.le_refl 0⟩
          | succ ya =>
            have hx' : (yas.map Int32.toInt)[ya]? = some yx := hx
            have hlt := (List.getElem?_eq_some_iff.mp hx').1
            rw [List.length_map] at hlt
            show (k_at (List.replicate yas.length (-2147483648, 2147483647)) ya).1 ≤ yx ∧ yx ≤ (k_at (List.replicate yas.length (-2147483648, 2147483647)) ya).2
            rw [k_at_rep _ _ _ hlt]
            rw [List.getElem?_map] at hx'
            obtain ⟨yz, hz1, hz2⟩ := Option.map_eq_some_iff.mp hx'
            subst hz2
            exact i32_rg yz
        · exact l_ent (cell := ycell) yas 1 _ (fun yi yx hx => by
            show (0 :: yas.map Int32.toInt)[1 + yi]? = some yx
            rw [show 1 + yi = yi + 1 by omega, List.getElem?_cons_succ]
            exact hx)
        · rw [hiv]; simp
      exact yh yd yw _ _ hW hk (hC0 _) hE (.inl ⟨hmu, rfl⟩) (by show ybase + 3 * 0 ≤ yd; omega)
  next => cases hc2
/-- ya field that is known to hold one number at the ends -/
def f2K (yi yk : Nat) (yv : Int) (yD : sD) : Bool := match c_get yD.2.1 (f_key yi yk) with
  | some ya => Nat.beq ya.1 0 && (z_le yv (k_iv yD.1 ya).1 && z_le (k_iv yD.1 ya).2 yv)
  | none => false
theorem f2K_ok {yi yk : Nat} {yv : Int} (vs : List Int) (yD : sD) (yw : mWd) (yhK : nK vs yD.1) (hC : cRL vs yw yD.2.1) (yh : f2K yi yk yv yD = true) : ((aw yw).1 yi yk).toInt = yv := by
  unfold f2K at yh
  split at yh
  next ya yha =>
    rw [Bool.and_eq_true, Bool.and_eq_true, z_le_iff, z_le_iff] at yh
    obtain ⟨-, ci, fs, yu, ya1, a2, a3⟩ := c_get_ok hC yha
    obtain ⟨yx, rfl, hx⟩ := dn_int a3 (by show k_tg 0 ya = true; unfold k_tg; rw [yh.1]; rfl)
    have := k_iv_ok yhK hx
    have a1' : yw[yi]? = some (.inr (ci, fs)) := ya1
    have a2' : fs[yk]? = some (.int yx) := a2
    rw [(aw_at a1').1]
    show (match fs[yk]? with | some (.int yx) => yx | _ => 0).toInt = yv
    rw [a2']
    have this' : (k_iv yD.1 ya).1 ≤ yx.toInt ∧ yx.toInt ≤ (k_iv yD.1 ya).2 := this
    show yx.toInt = yv
    omega
  next => cases yh
/-- ya field known at the start -/
theorem c0_ok {yw : mWd} (hW : WI zZ yw) {yi yk : Nat} {ylo yhi yv : Int} (hz : z_fs zZ yi yk = some (0, ylo, yhi)) (yh : ((aw yw).1 yi yk).toInt = yv) (V : List Int) : cRL (0 :: V) yw [(f_key yi yk, (0, 0, yv))] := by
  obtain ⟨l1, ci, fs, yx, b1, b2, -⟩ := z_fs_ok hW hz
  rw [(aw_at b1).1] at yh
  have h' : (match fs[yk]? with | some (.int yx) => yx | _ => 0).toInt = yv := yh
  rw [b2] at h'
  have h2 : yx.toInt = yv := h'
  intro ye he
  rcases List.mem_cons.mp he with rfl | he
  · exact ⟨l1, ci, fs, _, b1, b2, ⟨yx, rfl, 0, rfl, by show yx.toInt = 0 + yv; omega⟩⟩
  · cases he
def R24 (yA : AW) : Prop := (yA.1 38 8).toInt = -1 ∧ (yA.1 69 69).toInt = -1
def S24 : zSu := ([(38, 8), (69, 69)], [])
theorem R24_s (yA yB : AW) (yh : AgS S24 yA yB) (hX : R24 yA) : R24 yB := by
  unfold R24 at hX ⊢
  rw [← yh.1 (38, 8) (by simp [S24]), ← yh.1 (69, 69) (by simp [S24])]
  exact hX
theorem okPf140 : okPf [(f_key 38 8, (0, 0, -1))] 140 (f2K 38 8 (-1)) = true := by decide +kernel
theorem okPf248 : okPf [(f_key 69 69, (0, 0, -1))] 248 (f2K 69 69 (-1)) = true := by decide +kernel
/-- tryText writes what ya relation speaks of nowhere, and leaves no ytext tried -/
theorem h_try {yF : zRF} {Ar : zRA} {RX : AW → Prop} {kR : zWr → Bool} (hs : Keeps RX kR) {yp : zPr} (hp : yp.1 = 140 ∧ yp.2.1 = 248 ∧ yp.2.2.1 = 1 ∧ yp.2.2.2.1 = false) (yhc : c_rm yp = true) (yq1 : (ri_wr zZ yF Ar (c_get1 yp.1 0 yp.2.2.1).2.2.2 && kR (c_get1 yp.1 0 yp.2.2.1).2.2.2) = true) (yq2 : (ri_wr zZ yF Ar (c_get1 yp.2.1 69 yp.2.2.1).2.2.2 && kR (c_get1 yp.2.1 69 yp.2.2.1).2.2.2) = true) (yq3 : kpS ([(38, 8)], []) (c_get1 yp.2.1 69 yp.2.2.1).2.2.2 = true) (yq4 : kpS ([(69, 69)], []) (c_get1 yp.1 0 yp.2.2.1).2.2.2 = true) : PairOK (RR yF Ar (fun yA => RX yA ∧ R24 yA)) yp := by
  intro yL xs yd yhd yw yas hW hk hR hl
  unfold c_rm at yhc
  rw [Bool.and_eq_true, Bool.and_eq_true, Bool.and_eq_true] at yhc
  obtain ⟨yp1, yp2, yp3, yp4⟩ := hp
  have yb := l_cl (L := yL) (xs := xs) (c_is_ok yhc.1.1) hW hk hl yhd
  have bP := l_P (yL := yL) (xs := xs) (yy := yp.1) (ycell := 0) f2K_ok (by rw [yp1]; exact okPf140) yhc.1.1 (c0_ok hW (ylo := -1) (yhi := 19) (by decide +kernel) hR.2.2.1) hW hk hl yhd
  have hR0 : RR yF Ar RX yw := ⟨hR.1, hR.2.1⟩
  refine (yb.and bP).mono (fun yv yw1 hv => ?_)
  obtain ⟨⟨yx, rfl, ye2, ye3, ye4, ye5, ye6, ye7, e8⟩, ys1⟩ := hv
  refine ⟨ye4, ?_⟩
  have hR1 : RR yF Ar RX yw1 := kpRR hs _ yw yw1 hW hR0 ye4 e8 yq1
  have b2 := l_cl (L := yL) (xs := xs) (c_is_ok yhc.1.2) ye4 ye5 hl yhd
  have hz9 := (kpS_ok hW e8 yq4).1 (69, 69) (by simp)
  have b2P := l_P (yL := yL) (xs := xs) (yy := yp.2.1) (ycell := 69) f2K_ok (by rw [yp2]; exact okPf248) yhc.1.2 (c0_ok ye4 (ylo := -1) (yhi := 19) (by decide +kernel) (by rw [← hz9]; exact hR.2.2.2)) ye4 ye5 hl yhd
  refine (b2.and b2P).mono (fun v2 yw2 hv2 => ?_)
  obtain ⟨⟨yy, rfl, yf2, yf3, yf4, yf5, yf6, yf7, yf8⟩, ys2⟩ := hv2
  have hR2 : RR yF Ar RX yw2 := kpRR hs _ yw1 yw2 ye4 hR1 yf4 yf8 yq2
  have yha := Nat.le_of_ble_eq_true yhc.2.1
  have yhb := Nat.le_of_ble_eq_true yhc.2.2
  have hz := (kpS_ok ye4 yf8 yq3).1 (38, 8) (by simp)
  refine ⟨⟨yx, yy, rfl, rfl, fun yh => ?_⟩, yf4, yf5, ⟨hR2.1, hR2.2, ?_, ys2⟩, by omega, by omega⟩
  · rw [yp4] at yh
    cases yh
  · show ((aw yw2).1 38 8).toInt = -1
    rw [← hz]
    exact ys1
