/-! TEXTS: what is equal of them -/
def Ft : zRF := [((38, 7), (69, 45)), ((35, 2), (69, 39)), ((0, 10), (69, 0))]
def Art : zRA := [(40, 102), (41, 103), (42, 104), (36, 99)]
def tT (yA : AW) : Nat := (yA.1 69 45).toInt.toNat
/-- ya ytext: its codes in the class are what is read of its bytes in the reference -/
def txR (yA : AW) (yi : Nat) : Prop := ∃ (ya yn yd : Nat) (ds : List Int32), yA.2.2.1 39 yi = some ya ∧ 129 ≤ ya ∧ ya < yA.2.2.2.2 ∧ yA.1 101 yi = Int32.ofNat yn ∧ yn ≤ 160 ∧ RT (fun yj => yA.1 100 (160 * yi + yj)) yn 0 (yd, some ds) ∧ ds.length ≤ 161 ∧ yA.2.2.2.1 ya = ds.length ∧ (∀ yj, yj < ds.length → yA.1 ya yj = ds.getD yj 0) ∧ ((∃ yj, yj < ds.length ∧ ds.getD yj 0 = -5) → yA.1 43 yi ≠ 0)
def RXt (yA : AW) : Prop := (∀ yj, yj < 160 → 0 ≤ (yA.1 36 yj).toInt ∧ (yA.1 36 yj).toInt ≤ 255) ∧ ∀ yi, yi < tT yA → txR yA yi
/-! what keeps it -/
def kRt (ywr : zWr) : Bool := kpS ([(69, 45)], [36, 39, 43, 100, 101]) ywr && ywr.all (fun ye => !(Nat.beq ye.1 98) || Nat.blt ye.2 129)
theorem wr98 {ya : Nat} (yha : 129 ≤ ya) : ∀ {ywr : zWr}, ywr.all (fun ye => !(Nat.beq ye.1 98) || Nat.blt ye.2 129) = true → z_wr ywr 98 ya = false
  | [], _ => rfl
  | yq :: yr, yh => by
    rw [List.all_cons, Bool.and_eq_true] at yh
    show ((Nat.beq yq.1 98 && Nat.beq yq.2 ya) || z_wr yr 98 ya) = false
    rw [wr98 yha yh.2, Bool.or_false, Bool.and_eq_false_iff]
    rcases (Bool.or_eq_true _ _).mp yh.1 with yq1 | yq1
    · rw [Bool.not_eq_true'] at yq1
      exact .inl yq1
    · have h2 : yq.2 < 129 := Nat.le_of_ble_eq_true yq1
      refine .inr ?_
      rcases yhb : Nat.beq yq.2 ya with _ | _
      · rfl
      · have := Nat.eq_of_beq_eq_true yhb
        omega
theorem text_wT {yw : mWd} (hW : WI zZ yw) {yc ya : Nat} (yhc : yc < 20) (yh : (aw yw).2.2.1 39 yc = some ya) : ∃ yn, wT yw ya yn := by
  have hz : zZ.1[39]? = some (1, 4, 20, [(4, 0, 0)]) := by rfl
  obtain ⟨ye, ye1, ye2, ye3⟩ := WI_arr hW hz
  have hx := ye3 yc yhc
  obtain ⟨yf, hf⟩ : ∃ yf, ye = .inr (.inr (.inr (.inr yf))) := by
    unfold shp at ye2
    split at ye2
    all_goals first
      | (cases ye2; done)
      | (rename_i yf hq; cases hq; exact ⟨_, rfl⟩)
  subst hf
  rw [(aw_at ye1).2.2.1] at yh
  have h' : yf yc = some ya := yh
  have hx' : okV yw (4, 0, 0) (m_opt yf yc) := hx
  unfold m_opt at hx'
  rw [h'] at hx'
  rcases hx' with hx' | ⟨yi, yn, yhi, hw⟩
  · cases hx'
  · cases yhi; exact ⟨yn, hw⟩
theorem text_keep {ywr : zWr} {yw yw1 : mWd} (hf : fR ywr yw yw1) (hk : ywr.all (fun ye => !(Nat.beq ye.1 98) || Nat.blt ye.2 129) = true) {ya yn : Nat} (yha : wT yw ya yn) : (∀ yj, (aw yw1).1 ya yj = (aw yw).1 ya yj) ∧ (aw yw1).2.2.2.1 ya = (aw yw).2.2.2.1 ya := by
  obtain ⟨h9, -, yc, h2, h3⟩ := yha
  obtain ⟨yf, ye1⟩ := shp_int h3
  subst ye1
  obtain ⟨c', yd1, -, -, yd4⟩ := hf _ _ h2
  have := yd4 _ rfl (wr98 h9 hk)
  subst this
  exact ⟨fun yj => by rw [(aw_at h2).1, (aw_at yd1).1], by rw [(aw_at h2).2.2.2, (aw_at yd1).2.2.2]⟩
theorem RXt_keep : Keeps RXt kRt := by
  intro ywr yw yw1 hW hW1 hf hk yh
  unfold kRt at hk
  rw [Bool.and_eq_true] at hk
  have hs := kpS_ok hW hf hk.1
  have yf1 := hs.1 (69, 45) (by simp)
  have a36 := (hs.2 36 (by simp)).1
  have a39 := (hs.2 39 (by simp)).2.2
  have a43 := (hs.2 43 (by simp)).1
  have a100 := (hs.2 100 (by simp)).1
  have a101 := (hs.2 101 (by simp)).1
  simp only at yf1
  have yhT : tT (aw yw1) = tT (aw yw) := by unfold tT; rw [yf1]
  have hT2 : tT (aw yw) ≤ 20 := by
    have := (rg_fld hW (i := 69) (k := 45) (lo := 0) (hi := 20) (by decide +kernel)).2
    unfold tT; omega
  have hlen : (aw yw).2.2.2.2 ≤ (aw yw1).2.2.2.2 := by
    show yw.length ≤ yw1.length
    rcases Nat.lt_or_ge yw1.length yw.length with yq | yq
    · obtain ⟨c', h1, -⟩ := hf yw1.length _ (List.getElem?_eq_getElem yq)
      have := (List.getElem?_eq_some_iff.mp h1).1
      omega
    · exact yq
  obtain ⟨yr1, r2⟩ := yh
  refine ⟨by rw [← a36]; exact yr1, fun yi yhi => ?_⟩
  rw [yhT] at yhi
  obtain ⟨ya, yn, yd, ds, b1, b2, b3, b4, b5, b6, b7, b8, b9, b10⟩ := r2 yi yhi
  obtain ⟨ym, hw⟩ := text_wT hW (by omega) b1
  obtain ⟨yk1, yk2⟩ := text_keep hf hk.2 hw
  exact ⟨ya, yn, yd, ds, by rw [← a39]; exact b1, b2, by omega, by rw [← a101]; exact b4, b5, by rw [← a100]; exact b6, b7, by rw [yk2]; exact b8, fun yj hj => by rw [yk1]; exact b9 yj hj, fun yq => by rw [← a43]; exact b10 yq⟩
/-! FEED keeps it -/
theorem k_feed {yA A1 A2 : AW} {yn yv yx yy : Int32} (hA : okA yA) (hF : eqF Ft yA) (hR : eqRs Art yA) (hX : RXt yA) (ys1 : fdQ 36 35 2 byX yn yv yA (some (.int yx)) A1) (ys2 : fdQ 99 69 39 byM yn yv A1 (some (.int yy)) A2) : eqF Ft A2 ∧ eqRs Art A2 ∧ RXt A2 ∧ yx = yy := by
  have yf2 : yA.1 35 2 = yA.1 69 39 := hF ((35, 2), (69, 39)) (by simp [Ft])
  have yg := hA.fld (i := 35) (k := 2) (lo := 0) (hi := 160) (by decide +kernel)
  rcases ys1 with ⟨ya1, a2, rfl⟩ | ⟨ya1, a2, a3, a4, rfl⟩ | ⟨ya1, a2, a3, a4, rfl⟩
  · rcases ys2 with ⟨b1, b2, rfl⟩ | ⟨b1, b2, b3, b4, rfl⟩ | ⟨b1, b2, b3, b4, rfl⟩
    · exact ⟨hF, hR, hX, by rw [some_int a2, some_int b2]⟩
    · exact absurd ⟨b1, b2⟩ ya1
    · exact absurd ⟨b1, b2⟩ ya1
  · rw [yf2] at a3
    rcases ys2 with ⟨b1, b2, rfl⟩ | ⟨b1, b2, b3, b4, rfl⟩ | ⟨b1, b2, b3, b4, rfl⟩
    · exact absurd ⟨ya1, a2⟩ b1
    · exact ⟨hF, hR, hX, by rw [some_int a4, some_int b4]⟩
    · omega
  · have m39 : (pgl 36 35 2 (fdL (byX yv) 0 yn.toInt.toNat) (yA.1 35 2).toInt.toNat yA).1 69 39 = yA.1 69 39 := pgl_c (by decide) (by decide)
    unfold fdQ at ys2
    rw [m39] at ys2
    rcases ys2 with ⟨b1, b2, rfl⟩ | ⟨b1, b2, b3, b4, rfl⟩ | ⟨b1, b2, b3, b4, rfl⟩
    · exact absurd ⟨ya1, a2⟩ b1
    · rw [yf2] at a3
      omega
    · obtain ⟨ys, hs⟩ : ∃ ys, (yA.1 35 2).toInt.toNat = ys := ⟨_, rfl⟩
      obtain ⟨ym, yhm⟩ : ∃ ym, yn.toInt.toNat = ym := ⟨_, rfl⟩
      have hm4 : ym ≤ 4 := by omega
      have hsm : ys + ym ≤ 160 := by omega
      rw [← yf2] at b4 ⊢
      rw [hs, yhm] at a4 b4 ⊢
      have lx : (fdL (byX yv) 0 ym).length = ym := fdL_len _ ym 0
      have lm : (fdL (byM yv) 0 ym).length = ym := fdL_len _ ym 0
      have ye0 : yA.1 35 2 = Int32.ofNat ys := by rw [← hs]; exact (i32_of yg.1).symm
      have ylo : ∀ yc yj, yc ≠ 36 → yc ≠ 35 → yc ≠ 99 → yc ≠ 69 → (pgl 99 69 39 (fdL (byM yv) 0 ym) ys (pgl 36 35 2 (fdL (byX yv) 0 ym) ys yA)).1 yc yj = yA.1 yc yj := fun yc yj yp1 yp2 yp3 yp4 => by
        rw [pgl_c yp3 yp4, pgl_c yp1 yp2]
      have lo69 : ∀ yj, yj ≠ 39 → (pgl 99 69 39 (fdL (byM yv) 0 ym) ys (pgl 36 35 2 (fdL (byX yv) 0 ym) ys yA)).1 69 yj = yA.1 69 yj := fun yj yp => by
        rw [pgl_f (by decide) yp, pgl_c (by decide) (by decide)]
      have ye2 : (pgl 99 69 39 (fdL (byM yv) 0 ym) ys (pgl 36 35 2 (fdL (byX yv) 0 ym) ys yA)).2 = yA.2 := by
        rw [pgl_o, pgl_o]
      have yc36 : ∀ yj, (pgl 99 69 39 (fdL (byM yv) 0 ym) ys (pgl 36 35 2 (fdL (byX yv) 0 ym) ys yA)).1 36 yj = if ys ≤ yj ∧ yj < ys + ym then byX yv (yj - ys) else yA.1 36 yj := fun yj => by
        rw [pgl_c (by decide) (by decide)]
        by_cases yq1 : yj < ys
        · rw [if_neg (by omega), pgl_lo (by decide) yq1]
        · by_cases yq2 : yj < ys + ym
          · rw [if_pos (by omega), pgl_at (by decide) (by omega) (by rw [lx]; exact yq2), fdL_at _ _ _ _ (by omega), Nat.zero_add]
          · rw [if_neg (by omega), pgl_hi (by decide) (by rw [lx]; omega)]
      have c99 : ∀ yj, (pgl 99 69 39 (fdL (byM yv) 0 ym) ys (pgl 36 35 2 (fdL (byX yv) 0 ym) ys yA)).1 99 yj = if ys ≤ yj ∧ yj < ys + ym then byM yv (yj - ys) else yA.1 99 yj := fun yj => by
        by_cases yq1 : yj < ys
        · rw [if_neg (by omega), pgl_lo (by decide) yq1, pgl_c (by decide) (by decide)]
        · by_cases yq2 : yj < ys + ym
          · rw [if_pos (by omega), pgl_at (by decide) (by omega) (by rw [lm]; exact yq2), fdL_at _ _ _ _ (by omega), Nat.zero_add]
          · rw [if_neg (by omega), pgl_hi (by decide) (by rw [lm]; omega), pgl_c (by decide) (by decide)]
      have yc35 : (pgl 99 69 39 (fdL (byM yv) 0 ym) ys (pgl 36 35 2 (fdL (byX yv) 0 ym) ys yA)).1 35 2 = Int32.ofNat (ys + ym) := by
        rw [pgl_c (by decide) (by decide), pgl_n (by decide) ye0, lx]
      have c69 : (pgl 99 69 39 (fdL (byM yv) 0 ym) ys (pgl 36 35 2 (fdL (byX yv) 0 ym) ys yA)).1 69 39 = Int32.ofNat (ys + ym) := by
        rw [pgl_n (by decide) (by rw [pgl_c (by decide) (by decide), ← yf2]; exact ye0), lm]
      generalize pgl 99 69 39 (fdL (byM yv) 0 ym) ys (pgl 36 35 2 (fdL (byX yv) 0 ym) ys yA) = yB at *
      refine ⟨?_, ?_, ⟨fun yj hj => ?_, fun yi yhi => ?_⟩, by rw [some_int a4, some_int b4]⟩
      · intro yq hq
        have hq0 := hF yq hq
        simp only [Ft, List.mem_cons, List.not_mem_nil, or_false] at hq
        rcases hq with rfl | rfl | rfl
        · show yB.1 38 7 = yB.1 69 45
          rw [ylo 38 7 (by decide) (by decide) (by decide) (by decide), lo69 45 (by decide)]
          exact hq0
        · show yB.1 35 2 = yB.1 69 39
          rw [yc35, c69]
        · show yB.1 0 10 = yB.1 69 0
          rw [ylo 0 10 (by decide) (by decide) (by decide) (by decide), lo69 0 (by decide)]
          exact hq0
      · intro yq hq yk hk yj hj
        have hq0 := hR yq hq yk hk yj hj
        simp only [Art, List.mem_cons, List.not_mem_nil, or_false] at hq
        rcases hq with rfl | rfl | rfl | rfl
        · show yB.1 40 yj = yB.1 102 yj
          rw [ylo 40 yj (by decide) (by decide) (by decide) (by decide), ylo 102 yj (by decide) (by decide) (by decide) (by decide)]
          exact hq0
        · show yB.1 41 yj = yB.1 103 yj
          rw [ylo 41 yj (by decide) (by decide) (by decide) (by decide), ylo 103 yj (by decide) (by decide) (by decide) (by decide)]
          exact hq0
        · show yB.1 42 yj = yB.1 104 yj
          rw [ylo 42 yj (by decide) (by decide) (by decide) (by decide), ylo 104 yj (by decide) (by decide) (by decide) (by decide)]
          exact hq0
        · show yB.1 36 yj = yB.1 99 yj
          rw [yc36, c99]
          by_cases yq : ys ≤ yj ∧ yj < ys + ym
          · rw [if_pos yq, if_pos yq]
            exact by_eq yv (yj - ys) (by omega)
          · rw [if_neg yq, if_neg yq]
            exact hq0
      · rw [yc36]
        by_cases yq : ys ≤ yj ∧ yj < ys + ym
        · rw [if_pos yq]
          exact and255 _
        · rw [if_neg yq]
          exact hX.1 yj hj
      · have yhT : tT yB = tT yA := by unfold tT; rw [lo69 45 (by decide)]
        rw [yhT] at yhi
        obtain ⟨ya, n', yd, ds, yr1, r2, r3, r4, yr5, r6, r7, r8, r9, r10⟩ := hX.2 yi yhi
        refine ⟨ya, n', yd, ds, by rw [ye2]; exact yr1, r2, by rw [ye2]; exact r3, by rw [ylo 101 yi (by decide) (by decide) (by decide) (by decide)]; exact r4, yr5, RT_cg (fun yj _ => ?_) r6, r7, by rw [ye2]; exact r8, fun yj hj => ?_, fun yq => ?_⟩
        · exact (ylo 100 _ (by decide) (by decide) (by decide) (by decide)).symm
        · rw [ylo ya yj (by omega) (by omega) (by omega) (by omega)]
          exact r9 yj hj
        · rw [ylo 43 yi (by decide) (by decide) (by decide) (by decide)]
          exact r10 yq
theorem h_feed {yp : zPr} (hp : yp.1 = 118 ∧ yp.2.1 = 190 ∧ yp.2.2.1 = 2) (yhc : c_rm yp = true) : PairOK (RR Ft Art RXt) yp := by
  obtain ⟨yp1, yp2, yp3⟩ := hp
  refine pairK (D := on2 (fdQ 36 35 2 byX)) (E := on2 (fdQ 99 69 39 byM)) (by decide +kernel) (by decide +kernel) yhc (fun N yA yas o hl => ?_) (fun N yA yas o hl => ?_) (fun yA A1 A2 yas yx yy o _ _ hF hR hX hl ys1 ys2 => ?_)
  · rw [yp3] at hl
    obtain ⟨ya, yb, rfl⟩ := as2 hl
    have yg := o.fld (i := 35) (k := 2) (lo := 0) (hi := 160) (by decide +kernel)
    rw [yp1]
    exact d_feed N yA ya yb yg.1 yg.2
  · rw [yp3] at hl
    obtain ⟨ya, yb, rfl⟩ := as2 hl
    have yg := o.fld (i := 69) (k := 39) (lo := 0) (hi := 160) (by decide +kernel)
    rw [yp2]
    exact e_feed N yA ya yb yg.1 yg.2
  · rw [yp3] at hl
    obtain ⟨ya, yb, rfl⟩ := as2 hl
    obtain ⟨yq1, yq2, yq3, yq4⟩ := k_feed o hF hR hX ys1 ys2
    exact ⟨yq1, yq2, yq3, fun _ => yq4⟩
