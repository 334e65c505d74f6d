/-! THE RUN, FOR ANY RELATION; what ya program sees of the start -/
def s3_ok (bst : mWd → Bool) : Bool := match m_tA 18 20000 800 274 0 [(0, .retAddr 0)] [] [] with
  | some yq => b_all zZ.1 zZ.2.2 yq && bst yq.2.2
  | none => false
theorem lw_run3 {yR : mWd → Prop} {ykp : zWr → Bool} {yPS : List zPr} {bst : mWd → Bool} (hkp : ∀ (ywr : zWr) (yw yw1 : mWd), WI zZ yw → yR yw → WI zZ yw1 → fR ywr yw yw1 → ykp ywr = true → yR yw1) (hps : ∀ (yL : Nat) (xs : Nat → Int32) (yd : Nat), 700 ≤ yd → ∀ yp ∈ yPS, ∀ (yw : mWd) (yas : List Int32), WI zZ yw → wkR [] none yw → yR yw → yas.length = yp.2.2.1 → Rn yL xs yd yp.1 0 (lv_args 0 (.ref 0 :: yas.map Value.int)) [] yw (fun yv yw1 => WI zZ yw1 ∧ Rn yL xs yd yp.2.1 0 (lv_args 0 (.ref 69 :: yas.map Value.int)) [] yw1 (fun v2 yw2 => prQ3 zZ yR yp yw yv v2 yw2))) (yhb : ∀ yw, WI zZ yw → bst yw = true → yR yw) (hs : s3_ok bst = true) (hlk : lk3 zZ zT ykp yPS 3000 27 [] (0, 0) none = true) : lw_Run := by
  intro yL xs hL
  have yh := hs
  unfold s3_ok at yh
  split at yh
  next yq hq =>
    rw [Bool.and_eq_true] at yh
    obtain ⟨yh, hRI⟩ := yh
    unfold b_all at yh
    rw [Bool.and_eq_true, Bool.and_eq_true, Bool.and_eq_true] at yh
    obtain ⟨⟨h1, h2⟩, h3, h4⟩ := yh
    have hlenZ : zZ.1.length = 129 := by decide +kernel
    obtain ⟨yc1, yc2⟩ := b_cells_ok (w0 := yq.2.2) h1
    have hwl : yq.2.2.length = 129 := by rw [yc1, hlenZ]
    have hW : WI zZ yq.2.2 := ⟨hlenZ, yc2, fun yi yc yhi yhc => by
      have := (List.getElem?_eq_some_iff.mp yhc).1
      omega⟩
    have hk : wkR [] none yq.2.2 := by
      unfold b_kind at h2
      split at h2
      next yt yn yf hf =>
        rw [Bool.and_eq_true] at h2
        refine ⟨0, (fun (yj : sV) (hj : none = some yj) => (nomatch hj)), ?_⟩
        intro f' yg n' m' t' u' hf' hg yc yhc _ hkind
        rw [hf] at hf'
        cases hf'
        have := z_eq_iff.mp (List.all_eq_true.mp h2.2 yc (List.mem_range.mpr yhc))
        omega
      next => cases h2
    have yhm := m_tA_ok (L := yL) (xs := xs) _ _ _ _ _ _ _ _ hq
    have hst : yq.1 = lL (Int32.ofNat (6 * 0)) ∧ yq.2.1 = [] := by
      obtain ⟨l, yst, yw⟩ := yq
      simp only at h4 ⊢
      split at h4
      next yi =>
        have yhi : yi = Int32.ofNat (6 * 0) := Int32.toInt_inj.mp (by rw [z_eq_iff.mp h4]; rfl)
        subst yhi
        exact ⟨rfl, rfl⟩
      next => cases h4
    have hl := l_loop3 (Z := zZ) (T := zT) (kp := ykp) (R := yR) (PS := yPS) (L := yL) (xs := xs) (d := 799) (N := 3000) (wS := yq.2.2) hkp z_all (by decide) (hps yL xs 799 (by decide)) hL hlk 512 0 yq.2.2 rfl ⟨hW, hk, Nat.le_refl _, Nat.le_refl _⟩ (yhb _ hW hRI)
    rw [← hst.1] at hl
    have hst2 := hst.2
    have hrun := m_to_ok _ _ _ _ _ _ _ _ yhm (Q := fun yv yw1 => yv = some (.int 1) ∧ LW zZ yq.2.2 (512, 161 * 512) yw1) (by rw [hst2]; exact hl)
    obtain ⟨yn, yv, yw1, yr1, rfl, r2⟩ := hrun
    refine ⟨yn, yw1, yr1, ?_, ?_⟩
    · have := r2.2.2.1
      simp only at this
      omega
    · have := r2.2.2.2
      have h5 := Nat.le_of_ble_eq_true h3
      simp only at this
      omega
  next => cases yh
/-! ya field's number, two fields, two yrows, at the start -/
def b_i (yc yk : Nat) (yx : Int) (yw : mWd) : Bool := match yw[yc]? with
  | some (.inr (_, fs)) => (match fs[yk]? with
    | some (.int yy) => z_eq yy.toInt yx
    | _ => false)
  | _ => false
theorem b_i_ok {yc yk : Nat} {yx : Int} {yw : mWd} (yh : b_i yc yk yx yw = true) : ((aw yw).1 yc yk).toInt = yx := by
  unfold b_i at yh
  split at yh
  next ci fs h1 =>
    split at yh
    next yy h2 =>
      have : (aw yw).1 yc yk = yy := by
        rw [(aw_at h1).1]
        show (match fs[yk]? with | some (.int yx) => yx | _ => 0) = yy
        rw [h2]
      rw [this]
      exact z_eq_iff.mp yh
    next => cases yh
  next => cases yh
def b_e (yp : (Nat × Nat) × (Nat × Nat)) (yw : mWd) : Bool := match yw[yp.1.1]?, yw[yp.2.1]? with
  | some (.inr (_, fs)), some (.inr (_, gs)) => (match fs[yp.1.2]?, gs[yp.2.2]? with
    | some (.int yx), some (.int yy) => z_eq yx.toInt yy.toInt
    | _, _ => false)
  | _, _ => false
theorem b_e_ok {yp : (Nat × Nat) × (Nat × Nat)} {yw : mWd} (yh : b_e yp yw = true) : (aw yw).1 yp.1.1 yp.1.2 = (aw yw).1 yp.2.1 yp.2.2 := by
  unfold b_e at yh
  split at yh
  next ci fs cj gs h1 h2 =>
    split at yh
    next yx yy h3 h4 =>
      have ye1 : (aw yw).1 yp.1.1 yp.1.2 = yx := by
        rw [(aw_at h1).1]
        show (match fs[yp.1.2]? with | some (.int yx) => yx | _ => 0) = yx
        rw [h3]
      have ye2 : (aw yw).1 yp.2.1 yp.2.2 = yy := by
        rw [(aw_at h2).1]
        show (match gs[yp.2.2]? with | some (.int yx) => yx | _ => 0) = yy
        rw [h4]
      rw [ye1, ye2]
      exact i32_ext (z_eq_iff.mp yh)
    next => cases yh
  next => cases yh
def b_rl (yf yg : Nat → Int32) : Nat → Bool
  | 0 => true
  | yn + 1 => z_eq (yf yn).toInt (yg yn).toInt && b_rl yf yg yn
theorem b_rl_ok {yf yg : Nat → Int32} : ∀ {yn : Nat}, b_rl yf yg yn = true → ∀ yj, yj < yn → yf yj = yg yj
  | 0, _, yj, hj => by omega
  | yn + 1, yh, yj, hj => by
    unfold b_rl at yh
    rw [Bool.and_eq_true] at yh
    by_cases ye : yj = yn
    · subst ye; exact i32_ext (z_eq_iff.mp yh.1)
    · exact b_rl_ok yh.2 yj (by omega)
def b_r (yn yc c' : Nat) (yw : mWd) : Bool := match yw[yc]?, yw[c']? with
  | some (.inl (_, _, .inl yf)), some (.inl (_, _, .inl yg)) => b_rl yf yg yn
  | _, _ => false
theorem b_r_ok {yn yc c' : Nat} {yw : mWd} (yh : b_r yn yc c' yw = true) : ∀ yj, yj < yn → (aw yw).1 yc yj = (aw yw).1 c' yj := by
  unfold b_r at yh
  split at yh
  next yt ym yf t' m' yg h1 h2 =>
    intro yj hj
    rw [(aw_at h1).1, (aw_at h2).1]
    exact b_rl_ok yh yj hj
  next => cases yh
def b_rn (yp : Nat × Nat) (yw : mWd) : Bool := match z_aP yp with
  | some yn => b_r yn yp.1 yp.2 yw
  | none => false
theorem b_rn_ok {yp : Nat × Nat} {yn : Nat} {yw : mWd} (yh : b_rn yp yw = true) (hn : z_aP yp = some yn) : eqR yn yp (aw yw) := by
  unfold b_rn at yh
  rw [hn] at yh
  exact b_r_ok yh
