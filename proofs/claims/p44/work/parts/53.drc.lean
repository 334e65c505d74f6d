/-! the contract of draw; all contracts -/
theorem zN_ok (w : mWd) : w_okD zZ.2.1 w (.inr (2, pgDf 2)) := by
  refine .inl ⟨pgDf 2, rfl, by decide +kernel, ?_⟩
  intro k sp v hsp hv
  have key : ∀ k, k < 13 → ∃ lo hi : Int, zGS[k]? = some (0, lo, hi) ∧ lo ≤ 0 ∧ 0 ≤ hi ∧ (pgDf 2)[k]? = some (.int 0) := by
    intro k hk
    match k, hk with
    | 0, _ => exact ⟨_, _, rfl, by decide, by decide, rfl⟩
    | 1, _ => exact ⟨_, _, rfl, by decide, by decide, rfl⟩
    | 2, _ => exact ⟨_, _, rfl, by decide, by decide, rfl⟩
    | 3, _ => exact ⟨_, _, rfl, by decide, by decide, rfl⟩
    | 4, _ => exact ⟨_, _, rfl, by decide, by decide, rfl⟩
    | 5, _ => exact ⟨_, _, rfl, by decide, by decide, rfl⟩
    | 6, _ => exact ⟨_, _, rfl, by decide, by decide, rfl⟩
    | 7, _ => exact ⟨_, _, rfl, by decide, by decide, rfl⟩
    | 8, _ => exact ⟨_, _, rfl, by decide, by decide, rfl⟩
    | 9, _ => exact ⟨_, _, rfl, by decide, by decide, rfl⟩
    | 10, _ => exact ⟨_, _, rfl, by decide, by decide, rfl⟩
    | 11, _ => exact ⟨_, _, rfl, by decide, by decide, rfl⟩
    | 12, _ => exact ⟨_, _, rfl, by decide, by decide, rfl⟩
  have hk : k < 13 := (List.getElem?_eq_some_iff.mp hsp).1
  obtain ⟨lo, hi, e1, e2, e3, e4⟩ := key k hk
  have hsp' : zGS[k]? = some sp := hsp
  rw [e1] at hsp'
  rw [e4] at hv
  cases hsp'
  cases hv
  exact ⟨0, rfl, by show lo ≤ (0 : Int32).toInt; rw [show (0 : Int32).toInt = 0 by decide]; exact e2, by show (0 : Int32).toInt ≤ hi; rw [show (0 : Int32).toInt = 0 by decide]; exact e3⟩
theorem dr_call {L : Nat} {xs : Nat → Int32} {r : Nat} : zCall zZ L xs 245 zC245.2 r := by
  intro D w args V hW hwk hE hrk hD
  obtain ⟨hn, hd, V1, V2, hV, hl1, hf⟩ := hE
  have hd' : dnL ([0] ++ V) w [(2, 69, 0), (0, 1, 0)] args := hd
  obtain ⟨v1, r1, e1, d1, hr1⟩ := dnL_cons hd'
  obtain ⟨v2, r2, e2, d2, hr2⟩ := dnL_cons hr1
  have e3 := dnL_nil hr2
  subst e3 e2 e1
  have hv1 : v1 = .ref 69 := d1
  subst hv1
  obtain ⟨f, hf1, -⟩ := d2
  subst hf1
  have hD' : 5 + 3 * r ≤ D := hD
  obtain ⟨d, rfl⟩ : ∃ d, D = d + 3 := ⟨D - 3, by omega⟩
  obtain ⟨sps, hsps⟩ : ∃ sps, zZ.1[69]? = some (0, 12, 87, sps) := ⟨_, rfl⟩
  obtain ⟨fs, f1, f2, f3⟩ := WI_obj hW hsps
  have fld : ∀ (k : Nat) (sp : zSp), z_fs zZ 69 k = some sp → ∃ x : Int32, fs[k]? = some (.int x) ∧ okV w sp (.int x) := by
    intro k sp hk
    obtain ⟨-, ci, fs', x, a1, a2, a3⟩ := z_fs_ok hW hk
    rw [f1] at a1
    cases a1
    exact ⟨x, a2, a3⟩
  obtain ⟨z, z1, -⟩ := fld 1 (0, -2147483648, 2147483647) rfl
  obtain ⟨nf, n1, -⟩ := fld 11 (0, 0, 20) rfl
  obtain ⟨cN, c1, x, cx, c2, c3⟩ := fld 31 (0, 0, 150) rfl
  cases cx
  have rfd : ∀ (k q : Nat), sps[k]? = some (2, (q : Int), 0) → k < 87 → fs[k]? = some (.ref q) := by
    intro k q hk hlt
    have hg : fs[k]? = some (fs[k]'(by omega)) := List.getElem?_eq_getElem (by omega)
    have := f3 k _ _ hk hg
    have hv : fs[k]'(by omega) = .ref q := this
    rw [hg, hv]
  have hsp2 : sps = (match zZ.1[69]? with
    | some s => s.2.2.2
    | none => []) := by rw [hsps]
  have w27 := rfd 27 90 (by rw [hsp2]; rfl) (by decide)
  have w30 := rfd 30 93 (by rw [hsp2]; rfl) (by decide)
  obtain ⟨a90, g1, g2, -⟩ := WI_arr (i := 90) (t := 0) (n := 1050) (e := (7, 0, 0)) hW rfl
  obtain ⟨a93, h1, h2, -⟩ := WI_arr (i := 93) (t := 0) (n := 150) (e := (0, -2147483648, 2147483647)) hW rfl
  obtain ⟨g, hg⟩ := shp_int g2
  cases hg
  obtain ⟨a, ha⟩ := shp_int h2
  cases ha
  have hc : cN = Int32.ofNat cN.toInt.toNat := by
    apply Int32.toInt_inj.mp
    have c2' : (0 : Int) ≤ cN.toInt := c2
    have c3' : cN.toInt ≤ 150 := c3
    rw [i32_nat (by omega)]
    omega
  have hN : cN.toInt.toNat ≤ 150 := by
    have c3' : cN.toInt ≤ 150 := c3
    omega
  have hDW : drW w fs g a cN.toInt.toNat := ⟨f1, by rw [← hc]; exact c1, w27, w30, g1, h1, hN⟩
  have gW0 : gW zZ zC245.2.2.2.2.1 w [] zC245.2.2.2.2.2.1 none w := ⟨hW, fR_refl _ w, Nat.le_refl _, Nat.le_refl _, wkR_any hwk⟩
  show Rn L xs (d + 3) 245 0 [(0, .ref 69), (1, .int f)] [] w _
  refine dr_all hDW z1 n1 f2 ?_ ?_ ?_
  · exact ⟨gW0, -1, [], ⟨_, rfl, by decide, by decide, by decide⟩, trivial, fun q hq => by cases hq⟩
  · exact ⟨gW0, -4, [], ⟨_, rfl, by decide, by decide, by decide⟩, trivial, fun q hq => by cases hq⟩
  · intro k z' hk
    have hW' : WI zZ (w.set 69 (.inr (12, fs.set 1 (.int z')))) := WI_setf hW hsps f1 (fun sp hsp => by
      have : sps[1]? = some (0, -2147483648, 2147483647) := by rw [hsp2]; rfl
      rw [this] at hsp
      cases hsp
      exact ⟨z', rfl, (i32_rg z').1, (i32_rg z').2⟩)
    refine ⟨gW_setf gW0 f1 hW' (fR_setf f1 (by rfl)) (by simp), k, [], ⟨_, rfl, i32_nat (by omega), ?_, ?_⟩, trivial, fun q hq => by cases hq⟩
    · show (-4 : Int) ≤ (k : Int); omega
    · show (k : Int) ≤ (2147483647 : Int); omega
theorem z_all {L : Nat} {xs : Nat → Int32} : ∀ (o r y : Nat) (c : zKt), zT.getD y none = some (o, c) → zCall zZ L xs y c r := by
  refine all_ok (fun y ord c hT r HC => ?_)
  by_cases hy : y < 275
  · by_cases h245 : y = 245
    · subst h245
      rw [zc245] at hT
      have : zC245 = (ord, c) := by injection hT
      have hc : c = zC245.2 := by rw [this]
      rw [hc]
      exact dr_call
    · have h := okz_all y hy
      unfold okZ at h
      rw [beq_ne h245, Bool.false_or] at h
      unfold okY at h
      rw [hT] at h
      exact meth_ok zN_ok HC h
  · have hlen : zT.length = 275 := by decide +kernel
    have hn : zT.getD y none = none := by
      rw [List.getD_eq_getElem?_getD, List.getElem?_eq_none (by omega)]
      rfl
    rw [hn] at hT
    cases hT
