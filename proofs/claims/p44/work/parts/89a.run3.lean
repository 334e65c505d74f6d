/-! THE RUN, FOR ANY RELATION; what a program sees of the start -/
def s3_ok (bst : mWd → Bool) : Bool := match m_tA 18 20000 800 274 0 [(0, .retAddr 0)] [] [] with
  | some q => b_all zZ.1 zZ.2.2 q && bst q.2.2
  | none => false
theorem lw_run3 {R : mWd → Prop} {kp : zWr → Bool} {PS : List zPr} {bst : mWd → Bool} (hkp : ∀ (wr : zWr) (w w1 : mWd), WI zZ w → R w → WI zZ w1 → fR wr w w1 → kp wr = true → R w1) (hps : ∀ (L : Nat) (xs : Nat → Int32) (d : Nat), 700 ≤ d → ∀ p ∈ PS, ∀ (w : mWd) (as : List Int32), WI zZ w → wkR [] none w → R w → as.length = p.2.2.1 → Rn L xs d p.1 0 (lv_args 0 (.ref 0 :: as.map Value.int)) [] w (fun v w1 => WI zZ w1 ∧ Rn L xs d p.2.1 0 (lv_args 0 (.ref 69 :: as.map Value.int)) [] w1 (fun v2 w2 => prQ3 zZ R p w v v2 w2))) (hb : ∀ w, WI zZ w → bst w = true → R w) (hs : s3_ok bst = true) (hlk : lk3 zZ zT kp PS 3000 27 [] (0, 0) none = true) : lw_Run := by
  intro L xs hL
  have h := hs
  unfold s3_ok at h
  split at h
  next q hq =>
    rw [Bool.and_eq_true] at h
    obtain ⟨h, hRI⟩ := h
    unfold b_all at h
    rw [Bool.and_eq_true, Bool.and_eq_true, Bool.and_eq_true] at h
    obtain ⟨⟨h1, h2⟩, h3, h4⟩ := h
    have hlenZ : zZ.1.length = 129 := by decide +kernel
    obtain ⟨c1, c2⟩ := b_cells_ok (w0 := q.2.2) h1
    have hwl : q.2.2.length = 129 := by rw [c1, hlenZ]
    have hW : WI zZ q.2.2 := ⟨hlenZ, c2, fun i c hi hc => by
      have := (List.getElem?_eq_some_iff.mp hc).1
      omega⟩
    have hk : wkR [] none q.2.2 := by
      unfold b_kind at h2
      split at h2
      next t n f hf =>
        rw [Bool.and_eq_true] at h2
        refine ⟨0, (fun (j : sV) (hj : none = some j) => (nomatch hj)), ?_⟩
        intro f' g n' m' t' u' hf' hg c hc _ hkind
        rw [hf] at hf'
        cases hf'
        have := z_eq_iff.mp (List.all_eq_true.mp h2.2 c (List.mem_range.mpr hc))
        omega
      next => cases h2
    have hm := m_tA_ok (L := L) (xs := xs) _ _ _ _ _ _ _ _ hq
    have hst : q.1 = lL (Int32.ofNat (6 * 0)) ∧ q.2.1 = [] := by
      obtain ⟨l, st, w⟩ := q
      simp only at h4 ⊢
      split at h4
      next i =>
        have hi : i = Int32.ofNat (6 * 0) := Int32.toInt_inj.mp (by rw [z_eq_iff.mp h4]; rfl)
        subst hi
        exact ⟨rfl, rfl⟩
      next => cases h4
    have hl := l_loop3 (Z := zZ) (T := zT) (kp := kp) (R := R) (PS := PS) (L := L) (xs := xs) (d := 799) (N := 3000) (wS := q.2.2) hkp z_all (by decide) (hps L xs 799 (by decide)) hL hlk 512 0 q.2.2 rfl ⟨hW, hk, Nat.le_refl _, Nat.le_refl _⟩ (hb _ hW hRI)
    rw [← hst.1] at hl
    have hst2 := hst.2
    have hrun := m_to_ok _ _ _ _ _ _ _ _ hm (Q := fun v w1 => v = some (.int 1) ∧ LW zZ q.2.2 (512, 161 * 512) w1) (by rw [hst2]; exact hl)
    obtain ⟨n, v, w1, r1, rfl, r2⟩ := hrun
    refine ⟨n, w1, r1, ?_, ?_⟩
    · have := r2.2.2.1
      simp only at this
      omega
    · have := r2.2.2.2
      have h5 := Nat.le_of_ble_eq_true h3
      simp only at this
      omega
  next => cases h
/-! a field's number, two fields, two rows, at the start -/
def b_i (c k : Nat) (x : Int) (w : mWd) : Bool := match w[c]? with
  | some (.inr (_, fs)) => (match fs[k]? with
    | some (.int y) => z_eq y.toInt x
    | _ => false)
  | _ => false
theorem b_i_ok {c k : Nat} {x : Int} {w : mWd} (h : b_i c k x w = true) : ((aw w).1 c k).toInt = x := by
  unfold b_i at h
  split at h
  next ci fs h1 =>
    split at h
    next y h2 =>
      have : (aw w).1 c k = y := by
        rw [(aw_at h1).1]
        show (match fs[k]? with | some (.int x) => x | _ => 0) = y
        rw [h2]
      rw [this]
      exact z_eq_iff.mp h
    next => cases h
  next => cases h
def b_e (p : (Nat × Nat) × (Nat × Nat)) (w : mWd) : Bool := match w[p.1.1]?, w[p.2.1]? with
  | some (.inr (_, fs)), some (.inr (_, gs)) => (match fs[p.1.2]?, gs[p.2.2]? with
    | some (.int x), some (.int y) => z_eq x.toInt y.toInt
    | _, _ => false)
  | _, _ => false
theorem b_e_ok {p : (Nat × Nat) × (Nat × Nat)} {w : mWd} (h : b_e p w = true) : (aw w).1 p.1.1 p.1.2 = (aw w).1 p.2.1 p.2.2 := by
  unfold b_e at h
  split at h
  next ci fs cj gs h1 h2 =>
    split at h
    next x y h3 h4 =>
      have e1 : (aw w).1 p.1.1 p.1.2 = x := by
        rw [(aw_at h1).1]
        show (match fs[p.1.2]? with | some (.int x) => x | _ => 0) = x
        rw [h3]
      have e2 : (aw w).1 p.2.1 p.2.2 = y := by
        rw [(aw_at h2).1]
        show (match gs[p.2.2]? with | some (.int x) => x | _ => 0) = y
        rw [h4]
      rw [e1, e2]
      exact i32_ext (z_eq_iff.mp h)
    next => cases h
  next => cases h
def b_rl (f g : Nat → Int32) : Nat → Bool
  | 0 => true
  | n + 1 => z_eq (f n).toInt (g n).toInt && b_rl f g n
theorem b_rl_ok {f g : Nat → Int32} : ∀ {n : Nat}, b_rl f g n = true → ∀ j, j < n → f j = g j
  | 0, _, j, hj => by omega
  | n + 1, h, j, hj => by
    unfold b_rl at h
    rw [Bool.and_eq_true] at h
    by_cases e : j = n
    · subst e; exact i32_ext (z_eq_iff.mp h.1)
    · exact b_rl_ok h.2 j (by omega)
def b_r (n c c' : Nat) (w : mWd) : Bool := match w[c]?, w[c']? with
  | some (.inl (_, _, .inl f)), some (.inl (_, _, .inl g)) => b_rl f g n
  | _, _ => false
theorem b_r_ok {n c c' : Nat} {w : mWd} (h : b_r n c c' w = true) : ∀ j, j < n → (aw w).1 c j = (aw w).1 c' j := by
  unfold b_r at h
  split at h
  next t m f t' m' g h1 h2 =>
    intro j hj
    rw [(aw_at h1).1, (aw_at h2).1]
    exact b_rl_ok h j hj
  next => cases h
def b_rn (p : Nat × Nat) (w : mWd) : Bool := match z_aP p with
  | some n => b_r n p.1 p.2 w
  | none => false
theorem b_rn_ok {p : Nat × Nat} {n : Nat} {w : mWd} (h : b_rn p w = true) (hn : z_aP p = some n) : eqR n p (aw w) := by
  unfold b_rn at h
  rw [hn] at h
  exact b_r_ok h
