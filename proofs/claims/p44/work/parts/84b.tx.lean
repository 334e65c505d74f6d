/-! LINES AND TEXTS: what is read of ya whole tape -/
noncomputable def rLn (T : Nat → Int32) (yn yf ya : Nat) : rRs := rB (rP T yn yf 0 0 ya) (fun yb cs => rIf (rdC T yn yb = 63) (rB (rP T yn yf 0 0 (yb + 1)) (fun yd ds => some (yd, some (cs ++ -63 :: (ds ++ [-59]))))) (some (yb, some (cs ++ [-59]))))
noncomputable def rTx (T : Nat → Int32) (yn : Nat) : Nat → Nat → rRs
  | 0, _ => none
  | yf + 1, ya => rB (rLn T yn yf ya) (fun yb cs => rIf (rdC T yn yb = 59) (rB (rTx T yn yf (yb + 1)) (fun yd ds => some (yd, some (cs ++ ds)))) (rIf (yb < yn) (some (yb, none)) (some (yb, some cs))))
def RL (T : Nat → Int32) (yn ya : Nat) (yr : Nat × Option (List Int32)) : Prop := ∃ yf, rLn T yn yf ya = some yr
def RT (T : Nat → Int32) (yn ya : Nat) (yr : Nat × Option (List Int32)) : Prop := ∃ yf, rTx T yn yf ya = some yr
section RLS
variable {T : Nat → Int32} {yn ya yb yd : Nat} {cs ds : List Int32}
theorem rTx_s (yf ya : Nat) : rTx T yn (yf + 1) ya = rB (rLn T yn yf ya) (fun yb cs => rIf (rdC T yn yb = 59) (rB (rTx T yn yf (yb + 1)) (fun yd ds => some (yd, some (cs ++ ds)))) (rIf (yb < yn) (some (yb, none)) (some (yb, some cs)))) := rfl
theorem rLn_m (yf ya : Nat) : rLe (rLn T yn yf ya) (rLn T yn (yf + 1) ya) :=
  rLe_B (rP_m yf _ _ _) (fun yb cs => rLe_I (fun _ => rLe_B (rP_m yf _ _ _) (fun yd ds => rLe_r _)) (fun _ => rLe_r _))
theorem rTx_m : ∀ yf ya, rLe (rTx T yn yf ya) (rTx T yn (yf + 1) ya)
  | 0, _ => rLe_n _
  | yf + 1, ya => by
    rw [rTx_s yf ya, rTx_s (yf + 1) ya]
    exact rLe_B (rLn_m yf _) (fun yb cs => rLe_I (fun _ => rLe_B (rTx_m yf _) (fun yd ds => rLe_r _)) (fun _ => rLe_r _))
theorem rLn_up {yf : Nat} {yr : Nat × Option (List Int32)} (yh : rLn T yn yf ya = some yr) : ∀ yg, yf ≤ yg → rLn T yn yg ya = some yr := by
  intro yg hg
  obtain ⟨yk, rfl⟩ := Nat.exists_eq_add_of_le hg
  clear hg
  induction yk with
  | zero => exact yh
  | succ yk yih => exact rLn_m (yf + yk) ya yr yih
theorem rTx_up {yf : Nat} {yr : Nat × Option (List Int32)} (yh : rTx T yn yf ya = some yr) : ∀ yg, yf ≤ yg → rTx T yn yg ya = some yr := by
  intro yg hg
  obtain ⟨yk, rfl⟩ := Nat.exists_eq_add_of_le hg
  clear hg
  induction yk with
  | zero => exact yh
  | succ yk yih => exact rTx_m (yf + yk) ya yr yih
theorem RT.one {yr yq : Nat × Option (List Int32)} (h1 : RT T yn ya yr) (h2 : RT T yn ya yq) : yr = yq := by
  obtain ⟨yf, hf⟩ := h1
  obtain ⟨yg, hg⟩ := h2
  have ya1 := rTx_up hf (yf + yg) (by omega)
  have a2 := rTx_up hg (yf + yg) (by omega)
  rw [ya1] at a2
  cases a2
  rfl
theorem RL.s (h1 : RP T yn 0 0 ya (yb, some cs)) (yh : ¬ rdC T yn yb = 63) : RL T yn ya (yb, some (cs ++ [-59])) := by
  obtain ⟨yf, yq1⟩ := h1
  refine ⟨yf, ?_⟩
  unfold rLn
  rw [yq1]
  show rIf (rdC T yn yb = 63) _ _ = _
  rw [rIf_0 yh]
theorem RL.q (h1 : RP T yn 0 0 ya (yb, some cs)) (yh : rdC T yn yb = 63) (h2 : RP T yn 0 0 (yb + 1) (yd, some ds)) : RL T yn ya (yd, some (cs ++ -63 :: (ds ++ [-59]))) := by
  obtain ⟨yf, yq1, yq2⟩ := h1.two h2
  refine ⟨yf, ?_⟩
  unfold rLn
  rw [yq1]
  show rIf (rdC T yn yb = 63) _ _ = _
  rw [rIf_1 yh, yq2]
  rfl
theorem RL.n1 (h1 : RP T yn 0 0 ya (yb, none)) : RL T yn ya (yb, none) := by
  obtain ⟨yf, yq1⟩ := h1
  refine ⟨yf, ?_⟩
  unfold rLn
  rw [yq1]
  rfl
theorem RL.n2 (h1 : RP T yn 0 0 ya (yb, some cs)) (yh : rdC T yn yb = 63) (h2 : RP T yn 0 0 (yb + 1) (yd, none)) : RL T yn ya (yd, none) := by
  obtain ⟨yf, yq1, yq2⟩ := h1.two h2
  refine ⟨yf, ?_⟩
  unfold rLn
  rw [yq1]
  show rIf (rdC T yn yb = 63) _ _ = _
  rw [rIf_1 yh, yq2]
  rfl
/-- what follows ya line -/
def RTr (T : Nat → Int32) (yn yb : Nat) (yr : Nat × Option (List Int32)) : Prop := (rdC T yn yb = 59 ∧ RT T yn (yb + 1) yr) ∨ (¬ rdC T yn yb = 59 ∧ yb < yn ∧ yr = (yb, none)) ∨ (¬ rdC T yn yb = 59 ∧ ¬ yb < yn ∧ yr = (yb, some []))
theorem RT.ok (h1 : RL T yn ya (yb, some cs)) (h2 : RTr T yn yb (yd, some ds)) : RT T yn ya (yd, some (cs ++ ds)) := by
  obtain ⟨yf, yq1⟩ := h1
  rcases h2 with ⟨ye, yg, yq2⟩ | ⟨ye, ye2, yq⟩ | ⟨ye, ye2, yq⟩
  · refine ⟨yf + yg + 1, ?_⟩
    rw [rTx_s, rLn_up yq1 (yf + yg) (by omega)]
    show rIf (rdC T yn yb = 59) _ _ = _
    rw [rIf_1 ye, rTx_up yq2 (yf + yg) (by omega)]
    rfl
  · cases yq
  · cases yq
    refine ⟨yf + 1, ?_⟩
    rw [rTx_s, yq1]
    show rIf (rdC T yn yb = 59) _ _ = _
    rw [rIf_0 ye, rIf_0 ye2, List.append_nil]
theorem RT.no (h1 : RL T yn ya (yb, some cs)) (h2 : RTr T yn yb (yd, none)) : RT T yn ya (yd, none) := by
  obtain ⟨yf, yq1⟩ := h1
  rcases h2 with ⟨ye, yg, yq2⟩ | ⟨ye, ye2, yq⟩ | ⟨ye, ye2, yq⟩
  · refine ⟨yf + yg + 1, ?_⟩
    rw [rTx_s, rLn_up yq1 (yf + yg) (by omega)]
    show rIf (rdC T yn yb = 59) _ _ = _
    rw [rIf_1 ye, rTx_up yq2 (yf + yg) (by omega)]
    rfl
  · cases yq
    refine ⟨yf + 1, ?_⟩
    rw [rTx_s, yq1]
    show rIf (rdC T yn yb = 59) _ _ = _
    rw [rIf_0 ye, rIf_1 ye2]
  · cases yq
theorem RT.n1 (h1 : RL T yn ya (yb, none)) : RT T yn ya (yb, none) := by
  obtain ⟨yf, yq1⟩ := h1
  exact ⟨yf + 1, by rw [rTx_s, yq1]; rfl⟩
end RLS
section XTX
variable {yA : AW} {yn : Nat}
def xL (yA : AW) (yn ya ys : Nat) (yc : Nat → Int32) (yu : Option Value) (A1 : AW) : Prop := yu = none ∧ ((∃ yb cs, RL (yA.1 36) yn ya (yb, some cs) ∧ ya + cs.length ≤ yb + 1 ∧ yb ≤ yn ∧ A1 = rW yA (Int32.ofNat yb) (Int32.ofNat (ys + cs.length)) 1 (apd yc ys cs)) ∨ (∃ yb s' c', RL (yA.1 36) yn ya (yb, none) ∧ yb ≤ yn ∧ A1 = rW yA (Int32.ofNat yb) s' 0 c'))
theorem c_line (hn : (yA.1 35 2).toInt = (yn : Int)) (hn2 : yn ≤ 160) (yhb : ∀ yj, yj < 160 → 0 ≤ (yA.1 36 yj).toInt ∧ (yA.1 36 yj).toInt ≤ 255) (N ya ys : Nat) (yc : Nat → Int32) (yha : ya ≤ yn) (hs : ys ≤ ya) : Pa N 85 0 [(0, .ref 35)] [] (rW yA (Int32.ofNat ya) (Int32.ofNat ys) 1 yc) (xL yA yn ya ys yc) := by
  refine bx_li0 (Pa.mono (Pa.cg ((x_all hn hn2 yhb N).1 0 0 ya ys yc (by omega) (by omega) yha hs) rfl rfl) (fun yu A1 hu => ?_))
  obtain ⟨rfl, hu⟩ := hu
  rcases hu with ⟨yb, cs, yr1, r2, r3, rfl⟩ | ⟨yb, s', c', yr1, r2, rfl⟩
  · have eb : (Int32.ofNat yb).toInt = (yb : Int) := i32_nat (by omega)
    have es : (Int32.ofNat (ys + cs.length)).toInt = ((ys + cs.length : Nat) : Int) := i32_nat (by omega)
    have yfin : ¬ rdC (yA.1 36) yn yb = 63 → xL yA yn ya ys yc none (uI (uI (rW yA (Int32.ofNat yb) (Int32.ofNat (ys + cs.length)) 1 (apd yc ys cs)) 37 (Int32.ofNat (ys + cs.length)).toInt.toNat (-59)) 35 3 (Int32.ofNat (ys + cs.length) + 1)) := by
      intro yq
      refine ⟨rfl, .inl ⟨yb, cs ++ [-59], RL.s yr1 yq, by rw [len1]; omega, r3, ?_⟩⟩
      rw [len1, ← Nat.add_assoc, on_succ, rW_put, es, Int.toNat_natCast, apd_put]
    refine bx_li1 _ _ 1 _ (fun yq => absurd yq rd_n1) (fun yq => absurd yq rd_n1) (fun _ h1 h2 => ?_) (fun _ h1 h2 h3 => ?_) (fun _ h1 h2 h3 h4 h5 => ?_) (fun _ h1 h2 h3 h4 h5 h6 => ?_) (fun _ h1 h2 h3 h4 h5 => ?_) (fun _ h1 h2 h3 h4 h5 h6 => ?_)
    · omega
    · rw [hn, eb] at h1
      exact yfin (by rw [rdC_out (by omega)]; omega)
    · omega
    · rw [hn, eb] at h1
      rw [eb, Int.toNat_natCast] at h4
      exact yfin (by rw [rdC_in (by omega)]; exact h4)
    · omega
    · rw [hn, eb] at h1
      rw [eb, Int.toNat_natCast] at h4
      have yhc : rdC (yA.1 36) yn yb = 63 := by rw [rdC_in (by omega)]; exact h4
      have hw : uI (uI (uI (rW yA (Int32.ofNat yb) (Int32.ofNat (ys + cs.length)) 1 (apd yc ys cs)) 35 4 (Int32.ofNat yb + 1)) 37 (Int32.ofNat (ys + cs.length)).toInt.toNat (-63)) 35 3 (Int32.ofNat (ys + cs.length) + 1) = rW yA (Int32.ofNat (yb + 1)) (Int32.ofNat (ys + cs.length + 1)) 1 (apd yc ys (cs ++ [-63])) := by
        rw [rW_at, rW_put, es, Int.toNat_natCast, apd_put, on_succ yb, on_succ (ys + cs.length)]
      refine Pa.mono (Pa.cg ((x_all hn hn2 yhb N).1 0 0 (yb + 1) (ys + cs.length + 1) (apd yc ys (cs ++ [-63])) (by omega) (by omega) (by omega) (by omega)) rfl hw.symm) (fun yu A2 hu => ?_)
      obtain ⟨rfl, hu⟩ := hu
      have ye1 : ys + cs.length + 1 = ys + (cs ++ [-63]).length := by rw [len1]; omega
      rcases hu with ⟨yd, ds, yq1, yq2, yq3, rfl⟩ | ⟨yd, s', c', yq1, yq2, rfl⟩
      · have es2 : (Int32.ofNat (ys + cs.length + 1 + ds.length)).toInt = ((ys + cs.length + 1 + ds.length : Nat) : Int) := i32_nat (by omega)
        refine bx_li2 _ _ 1 _ (fun yq => ?_) (fun _ _ => ?_)
        · omega
        · refine ⟨rfl, .inl ⟨yd, cs ++ -63 :: (ds ++ [-59]), RL.q yr1 yhc yq1, by simp only [List.length_append, List.length_cons, List.length_nil]; omega, yq3, ?_⟩⟩
          have ye2 : cs ++ -63 :: (ds ++ [-59]) = (cs ++ [-63]) ++ (ds ++ [-59]) := by simp
          have ye3 : ys + (cs ++ -63 :: (ds ++ [-59])).length = ys + cs.length + 1 + ds.length + 1 := by simp only [List.length_append, List.length_cons, List.length_nil]; omega
          rw [ye3, ye2]
          show uI (uI (rW _ _ _ _ _) 37 _ _) 35 3 _ = _
          rw [rW_put, es2, Int.toNat_natCast, apd_put, on_succ]
          congr 1
          rw [ye1, apd_app]
      · refine bx_li2 _ _ 0 _ (fun _ => ?_) (fun _ _ => ?_)
        · exact ⟨rfl, .inr ⟨yd, s', c', RL.n2 yr1 yhc yq1, yq2, rfl⟩⟩
        · exact ⟨rfl, .inr ⟨yd, _, _, RL.n2 yr1 yhc yq1, yq2, rW_put⟩⟩
  · refine bx_li1 _ _ 0 _ (fun _ _ => ?_) (fun _ _ _ => ?_) (fun yq => absurd rd_z0 yq) (fun yq => absurd rd_z0 yq) (fun yq => absurd rd_z0 yq) (fun yq => absurd rd_z0 yq) (fun yq => absurd rd_z0 yq) (fun yq => absurd rd_z0 yq)
    · exact ⟨rfl, .inr ⟨yb, s', c', RL.n1 yr1, r2, rfl⟩⟩
    · exact ⟨rfl, .inr ⟨yb, _, _, RL.n1 yr1, r2, rW_put⟩⟩
def xT (yA : AW) (yn yb ys : Nat) (yc : Nat → Int32) (yu : Option Value) (A1 : AW) : Prop := (∃ yd ds, RTr (yA.1 36) yn yb (yd, some ds) ∧ ys + ds.length ≤ yd + 1 ∧ yd ≤ yn ∧ yu = some (.int (-1)) ∧ A1 = rW yA (Int32.ofNat yd) (Int32.ofNat (ys + ds.length)) 1 (apd yc ys ds)) ∨ (∃ yd s' q' c', RTr (yA.1 36) yn yb (yd, none) ∧ yd ≤ yn ∧ yu = some (.int (Int32.ofNat yd)) ∧ A1 = rW yA (Int32.ofNat yd) s' q' c')
theorem c_text (hn : (yA.1 35 2).toInt = (yn : Int)) (hn2 : yn ≤ 160) (yhb : ∀ yj, yj < 160 → 0 ≤ (yA.1 36 yj).toInt ∧ (yA.1 36 yj).toInt ≤ 255) : ∀ (N yb ys : Nat) (yc : Nat → Int32), yb ≤ yn → ys ≤ yb + 1 → Pa N 82 19 [(0, .ref 35)] [] (rW yA (Int32.ofNat yb) (Int32.ofNat ys) 1 yc) (xT yA yn yb ys yc) := by
  intro N
  induction N with
  | zero => intro yb ys yc _ _; exact Pa.zero
  | succ N yih =>
    intro yb ys yc hbn hs
    have eb : (Int32.ofNat yb).toInt = (yb : Int) := i32_nat (by omega)
    refine bx_co _ _ 1 yc (fun yq => absurd yq rd_n1) (fun _ h1 => ?_) (fun _ h1 h2 h3 h4 => ?_) (fun _ h1 h2 h3 h4 => ?_)
    · rw [hn, eb] at h1
      exact .inl ⟨yb, [], .inr (.inr ⟨by rw [rdC_out (by omega)]; omega, by omega, rfl⟩), hs, hbn, rfl, by rw [apd_nil]; rfl⟩
    · rw [hn, eb] at h1
      rw [eb, Int.toNat_natCast] at h4
      exact .inr ⟨yb, _, _, _, .inr (.inl ⟨by rw [rdC_in (by omega)]; exact h4, by omega, rfl⟩), hbn, rfl, rfl⟩
    · rw [hn, eb] at h1
      rw [eb, Int.toNat_natCast] at h4
      have yhc : rdC (yA.1 36) yn yb = 59 := by rw [rdC_in (by omega)]; exact h4
      refine Pa.mono (Pa.cg (c_line hn hn2 yhb N (yb + 1) ys yc (by omega) hs) rfl (by rw [on_succ yb]; exact rW_at.symm)) (fun yu A1 hu => ?_)
      obtain ⟨rfl, hu⟩ := hu
      refine bx_cog ?_
      rcases hu with ⟨yd, ds, yq1, yq2, yq3, rfl⟩ | ⟨yd, s', c', yq1, yq2, rfl⟩
      · refine Pa.mono (yih yd (ys + ds.length) (apd yc ys ds) yq3 (by omega)) (fun yu A2 hu => ?_)
        rcases hu with ⟨ye, es, yp1, yp2, yp3, yp4, rfl⟩ | ⟨ye, s', q', c', yp1, yp2, yp3, rfl⟩
        · refine .inl ⟨ye, ds ++ es, .inl ⟨yhc, RT.ok yq1 yp1⟩, by rw [List.length_append]; omega, yp3, yp4, ?_⟩
          rw [apd_app, List.length_append, Nat.add_assoc]
        · exact .inr ⟨ye, s', q', c', .inl ⟨yhc, RT.no yq1 yp1⟩, yp2, yp3, rfl⟩
      · refine (bx_co (N := N) _ _ 0 _ (fun _ => ?_) (fun yq => absurd rd_z0 yq) (fun yq => absurd rd_z0 yq) (fun yq => absurd rd_z0 yq)).weak (Nat.le_succ N)
        exact .inr ⟨yd, s', 0, c', .inl ⟨yhc, RT.n1 yq1⟩, yq2, rfl, rfl⟩
/-- what compiling leaves: the codes, or the place of the fault -/
def xC (yA : AW) (yn : Nat) (yu : Option Value) (A1 : AW) : Prop := (∃ yd ds, RT (yA.1 36) yn 0 (yd, some ds) ∧ ds.length ≤ yn + 1 ∧ yu = some (.int (-1)) ∧ A1 = rW yA (Int32.ofNat yd) (Int32.ofNat ds.length) 1 (apd (yA.1 37) 0 ds)) ∨ (∃ yd s' q' c', RT (yA.1 36) yn 0 (yd, none) ∧ yd ≤ yn ∧ yu = some (.int (Int32.ofNat yd)) ∧ A1 = rW yA (Int32.ofNat yd) s' q' c')
theorem c_comp (hn : (yA.1 35 2).toInt = (yn : Int)) (hn2 : yn ≤ 160) (yhb : ∀ yj, yj < 160 → 0 ≤ (yA.1 36 yj).toInt ∧ (yA.1 36 yj).toInt ≤ 255) (N : Nat) : Pa N 82 0 [(0, .ref 35)] [] yA (xC yA yn) := by
  refine bx_co0 (Pa.mono (Pa.cg (c_line hn hn2 yhb N 0 0 (yA.1 37) (by omega) (by omega)) rfl rW_mk.symm) (fun yu A1 hu => ?_))
  obtain ⟨rfl, hu⟩ := hu
  show Pa N 82 19 [(0, .ref 35)] [] A1 _
  rcases hu with ⟨yd, ds, yq1, yq2, yq3, rfl⟩ | ⟨yd, s', c', yq1, yq2, rfl⟩
  · rw [Nat.zero_add] at yq2 ⊢
    refine Pa.mono (c_text hn hn2 yhb N yd ds.length (apd (yA.1 37) 0 ds) yq3 (by omega)) (fun yu A2 hu => ?_)
    rcases hu with ⟨ye, es, yp1, yp2, yp3, yp4, rfl⟩ | ⟨ye, s', q', c', yp1, yp2, yp3, rfl⟩
    · refine .inl ⟨ye, ds ++ es, RT.ok yq1 yp1, by rw [List.length_append]; omega, yp4, ?_⟩
      rw [List.length_append]
      congr 1
      have yh := apd_app (yc := yA.1 37) (ys := 0) (cs := ds) (ds := es)
      rw [Nat.zero_add] at yh
      exact yh
    · exact .inr ⟨ye, s', q', c', RT.no yq1 yp1, yp2, yp3, rfl⟩
  · refine (bx_co (N := N) _ _ 0 _ (fun _ => ?_) (fun yq => absurd rd_z0 yq) (fun yq => absurd rd_z0 yq) (fun yq => absurd rd_z0 yq)).weak (Nat.le_succ N)
    exact .inr ⟨yd, s', 0, c', RT.n1 yq1, yq2, rfl, rfl⟩
end XTX
