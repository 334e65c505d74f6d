/-! A STEP OF THE CHECKER: locals and stack alone -/
def z_KC : Nat := 89
def z_WC : Nat := 90
abbrev sD : Type := sK × sC × sL × List sV × (Nat × Nat) × Option sV
abbrev sN : Type := Nat × sD
/-- of a cost whose kind goes to a house, who gets it is a house; but of the cost that is being written -/
def wkR (vs : List Int) (wk : Option sV) (w : mWd) : Prop := ∃ K0 : Int, (∀ j, wk = some j → vN vs j K0) ∧ ∀ (f g : Nat → Int32) (n m t u : Nat), w[z_KC]? = some (.inl (t, n, .inl f)) → w[z_WC]? = some (.inl (u, m, .inl g)) → ∀ c : Nat, c < 150 → (wk = none ∨ (c : Int) ≠ K0) → ((f c).toInt = 2 ∨ (f c).toInt = 3 ∨ (f c).toInt = 5) → (g (7 * c + 4)).toInt ≤ 19
def gW (Z : zDt) (wr : zWr) (w0 : mWd) (vs : List Int) (al : Nat × Nat) (wk : Option sV) (w : mWd) : Prop := WI Z w ∧ fR wr w0 w ∧ w.length ≤ w0.length + al.1 ∧ m_sl w ≤ m_sl w0 + al.2 ∧ wkR vs wk w
def gD (Z : zDt) (wr : zWr) (w0 : mWd) (vs : List Int) (D : sD) (l : mL) (st : List Value) (w : mWd) : Prop := nK vs D.1 ∧ cRL vs w D.2.1 ∧ lvR vs w D.2.2.1 l ∧ dnL vs w D.2.2.2.1 st ∧ gW Z wr w0 vs D.2.2.2.2.1 D.2.2.2.2.2 w
theorem wkR_up {vs vs' : List Int} (hv : vL vs vs') {wk : Option sV} {w : mWd} (h : wkR vs wk w) : wkR vs' wk w := by
  obtain ⟨K0, h1, h2⟩ := h
  exact ⟨K0, fun j hj => vN_up hv (h1 j hj), h2⟩
theorem gW_up {Z : zDt} {wr : zWr} {w0 : mWd} {vs vs' : List Int} (hv : vL vs vs') {al : Nat × Nat} {wk : Option sV} {w : mWd} (h : gW Z wr w0 vs al wk w) : gW Z wr w0 vs' al wk w := ⟨h.1, h.2.1, h.2.2.1, h.2.2.2.1, wkR_up hv h.2.2.2.2⟩
/-- one of the states told is that of the step -/
def sOK (Z : zDt) (wr : zWr) (w0 : mWd) (vs : List Int) (w : mWd) (out : List sN) (r : Option (Nat × mL × List Value)) : Prop := ∃ (x : sN) (vs' : List Int) (l' : mL) (st' : List Value), x ∈ out ∧ r = some (x.1, l', st') ∧ vL vs vs' ∧ gD Z wr w0 vs' x.2 l' st' w
section PURE
variable {Z : zDt} {wr : zWr} {w0 w : mWd} {vs : List Int} {K : sK} {C : sC} {lv : sL} {ss : List sV} {al : Nat × Nat} {wk : Option sV} {l : mL} {st : List Value}
/-- the same world: new numbers, locals, stack -/
theorem gD_new (h : gD Z wr w0 vs (K, C, lv, ss, al, wk) l st w) {vs' : List Int} (hv : vL vs vs') {K' : sK} (hK : nK vs' K') {lv' : sL} {l' : mL} (hl : lvR vs' w lv' l') {ss' : List sV} {st' : List Value} (hs : dnL vs' w ss' st') : gD Z wr w0 vs' (K', C, lv', ss', al, wk) l' st' w :=
  ⟨hK, cRL_up hv h.2.1, hl, hs, gW_up hv h.2.2.2.2⟩
theorem gD_lv (h : gD Z wr w0 vs (K, C, lv, ss, al, wk) l st w) {vs' : List Int} (hv : vL vs vs') : lvR vs' w lv l := lvR_up hv (w_le_refl w) h.2.2.1
theorem sOK_one {pc : Nat} {D' : sD} {vs' : List Int} {l' : mL} {st' : List Value} (hv : vL vs vs') (h : gD Z wr w0 vs' D' l' st' w) : sOK Z wr w0 vs w [(pc, D')] (some (pc, l', st')) := ⟨(pc, D'), vs', l', st', List.mem_singleton.mpr rfl, rfl, hv, h⟩
def h_push (pc : Nat) (s : sV) (D : sD) : Option (List sN) := some [(pc, (D.1, D.2.1, D.2.2.1, s :: D.2.2.2.1, D.2.2.2.2))]
theorem h_push_ok {pc : Nat} {s : sV} {v : Value} {out : List sN} (h : gD Z wr w0 vs (K, C, lv, ss, al, wk) l st w) (hs : dn vs w s v) (ho : h_push pc s (K, C, lv, ss, al, wk) = some out) : sOK Z wr w0 vs w out (some (pc, l, v :: st)) := by
  cases ho
  exact sOK_one (vL_refl vs) (gD_new h (vL_refl vs) h.1 h.2.2.1 ⟨hs, h.2.2.2.1⟩)
theorem vN_cst (h : nK vs K) {t : Nat} (ht : Nat.beq t 7 = false) (c : Int) : vN vs (t, 0, c) c := ⟨0, h.1, by
  show c = (bif Nat.beq t 7 then 7 * 0 else 0) + c
  rw [ht]; simp⟩
def h_cst (pc : Nat) (lo hi n : Int) (D : sD) : Option (List sN) := bif (z_le lo n && z_le n hi) then h_push pc (0, 0, n) D else none
theorem h_cst_ok {pc : Nat} {lo hi n : Int} {i : Int32} {out : List sN} (h : gD Z wr w0 vs (K, C, lv, ss, al, wk) l st w) (hi' : lo ≤ n → n ≤ hi → i.toInt = n) (ho : h_cst pc lo hi n (K, C, lv, ss, al, wk) = some out) : sOK Z wr w0 vs w out (some (pc, l, .int i :: st)) := by
  unfold h_cst at ho
  cases e : (z_le lo n && z_le n hi) with
  | false => rw [e] at ho; cases ho
  | true =>
    rw [e] at ho
    rw [Bool.and_eq_true, z_le_iff, z_le_iff] at e
    have := hi' e.1 e.2
    exact h_push_ok (s := (0, 0, n)) h ⟨i, rfl, by rw [this]; exact vN_cst h.1 rfl n⟩ ho
def h_lcst (pc : Nat) (n : Int) (D : sD) : Option (List sN) := bif z_in 1 n n then h_push pc (1, 0, n) D else none
theorem h_lcst_ok {pc : Nat} {n : Int} {i : Int64} {out : List sN} (h : gD Z wr w0 vs (K, C, lv, ss, al, wk) l st w) (hi' : z_rg 1 n → i.toInt = n) (ho : h_lcst pc n (K, C, lv, ss, al, wk) = some out) : sOK Z wr w0 vs w out (some (pc, l, .long i :: st)) := by
  unfold h_lcst at ho
  cases e : z_in 1 n n with
  | false => rw [e] at ho; cases ho
  | true =>
    rw [e] at ho
    have := hi' (z_in_iff.mp e)
    exact h_push_ok (s := (1, 0, n)) h ⟨i, rfl, by rw [this]; exact vN_cst h.1 rfl n⟩ ho
/-- may the value be loaded or stored as of this type: 0 int, 1 long, 2 reference -/
def h_ty (ty : Nat) (s : sV) : Bool := match ty with
  | 0 => Nat.beq s.1 0
  | 1 => Nat.beq s.1 1
  | _ => Nat.beq s.1 2 || (Nat.beq s.1 3 || (Nat.beq s.1 4 || (Nat.beq s.1 5 || Nat.beq s.1 8)))
theorem h_ty2 {s : sV} {v : Value} {n : Nat} (h : dn vs w s v) (ht : h_ty (n + 2) s = true) : (∃ i, v = .ref i) ∨ (∃ k, v = .retAddr k) ∨ v = .null := by
  obtain ⟨t, a, c⟩ := s
  simp only [h_ty, Bool.or_eq_true] at ht
  rcases ht with ht | ht | ht | ht | ht
  · have := Nat.eq_of_beq_eq_true ht; subst this; exact .inl ⟨_, h⟩
  · have := Nat.eq_of_beq_eq_true ht; subst this
    obtain ⟨u, -, h2⟩ := h
    rcases h2 with ⟨-, h2⟩ | ⟨-, i, h2, -⟩
    · exact .inr (.inr h2)
    · exact .inl ⟨i, h2⟩
  · have := Nat.eq_of_beq_eq_true ht; subst this
    obtain ⟨u, -, h2⟩ := h
    rcases h2 with ⟨-, h2⟩ | ⟨-, i, n, h2, -⟩
    · exact .inr (.inr h2)
    · exact .inl ⟨i, h2⟩
  · have := Nat.eq_of_beq_eq_true ht; subst this; exact .inr (.inl ⟨_, h⟩)
  · have := Nat.eq_of_beq_eq_true ht; subst this; exact .inr (.inr h)
def h_load (ty i pc : Nat) (D : sD) : Option (List sN) := match s_get D.2.2.1 i with
  | some s => bif h_ty ty s then h_push pc s D else none
  | none => none
theorem h_load_ok {ty i pc : Nat} {out : List sN} (hty : ty < 3) (h : gD Z wr w0 vs (K, C, lv, ss, al, wk) l st w) (ho : h_load ty i pc (K, C, lv, ss, al, wk) = some out) : sOK Z wr w0 vs w out (m_ld ty l i pc st) := by
  unfold h_load at ho
  split at ho
  next s hs =>
    obtain ⟨v, hg, hd⟩ := lvR_get h.2.2.1 hs
    cases e : h_ty ty s with
    | false => rw [e] at ho; cases ho
    | true =>
      rw [e] at ho
      have r := h_push_ok h hd ho
      unfold m_ld
      rw [hg]
      match ty, hty, e with
      | 0, _, e =>
        obtain ⟨t, a, c⟩ := s
        have := Nat.eq_of_beq_eq_true (show Nat.beq t 0 = true from e)
        subst this
        obtain ⟨x, hx, -⟩ := hd
        subst hx
        exact r
      | 1, _, e =>
        obtain ⟨t, a, c⟩ := s
        have := Nat.eq_of_beq_eq_true (show Nat.beq t 1 = true from e)
        subst this
        obtain ⟨x, hx, -⟩ := hd
        subst hx
        exact r
      | 2, _, e =>
        rcases h_ty2 (n := 0) hd e with ⟨x, hx⟩ | ⟨x, hx⟩ | hx <;> (subst hx; exact r)
  next => cases ho
def h_store (nL ty i pc : Nat) (D : sD) : Option (List sN) := match D with
  | (K, C, lv, s :: ss, r) => bif (h_ty ty s && (bif Nat.beq ty 1 then Nat.blt (i + 1) nL else Nat.blt i nL)) then some [(pc, (K, C, (i, s) :: (bif Nat.beq ty 1 then s_rm2 i lv else s_rm1 i lv), ss, r))] else none
  | _ => none
theorem h_store_ok {nL ty i pc : Nat} {out : List sN} (hty : ty < 3) (h : gD Z wr w0 vs (K, C, lv, ss, al, wk) l st w) (ho : h_store nL ty i pc (K, C, lv, ss, al, wk) = some out) : sOK Z wr w0 vs w out (m_st nL ty l i pc st) := by
  unfold h_store at ho
  cases ss with
  | nil => cases ho
  | cons s ss =>
    obtain ⟨v, r, hst, hd, hr⟩ := dnL_cons h.2.2.2.1
    subst hst
    simp only at ho
    cases e : (h_ty ty s && (bif Nat.beq ty 1 then Nat.blt (i + 1) nL else Nat.blt i nL)) with
    | false => rw [e] at ho; cases ho
    | true =>
      rw [e] at ho
      cases ho
      rw [Bool.and_eq_true] at e
      obtain ⟨e1, e2⟩ := e
      unfold m_st
      match ty, hty, e1, e2 with
      | 0, _, e1, e2 =>
        obtain ⟨t, a, c⟩ := s
        have := Nat.eq_of_beq_eq_true (show Nat.beq t 0 = true from e1)
        subst this
        obtain ⟨x, hx, hx2⟩ := id hd
        subst hx
        have hlt : i < nL := Nat.le_of_ble_eq_true e2
        simp only [true_and, if_pos hlt]
        exact sOK_one (vL_refl vs) (gD_new h (vL_refl vs) h.1 (lvR_put1 h.2.2.1 hd) hr)
      | 1, _, e1, e2 =>
        obtain ⟨t, a, c⟩ := s
        have := Nat.eq_of_beq_eq_true (show Nat.beq t 1 = true from e1)
        subst this
        obtain ⟨x, hx, hx2⟩ := id hd
        subst hx
        have hlt : i + 1 < nL := Nat.le_of_ble_eq_true e2
        simp only [true_and, if_pos hlt]
        exact sOK_one (vL_refl vs) (gD_new h (vL_refl vs) h.1 (lvR_put2 h.2.2.1 hd) hr)
      | 2, _, e1, e2 =>
        have hlt : i < nL := Nat.le_of_ble_eq_true e2
        rcases h_ty2 (n := 0) hd e1 with ⟨x, hx⟩ | ⟨x, hx⟩ | hx <;>
          (subst hx; simp only [true_and, if_pos hlt]; exact sOK_one (vL_refl vs) (gD_new h (vL_refl vs) h.1 (lvR_put1 h.2.2.1 hd) hr))
def h_iinc (nL i : Nat) (n : Int) (pc : Nat) (D : sD) : Option (List sN) := match s_get D.2.2.1 i with
  | some s => bif (z_in 0 n n && (Nat.beq s.1 0 && Nat.blt i nL)) then (match k_bin 0 0 D.1 s (0, 0, n) with
    | some r => some [(pc + 3, (r.1, D.2.1, (i, r.2) :: s_rm1 i D.2.2.1, D.2.2.2))]
    | none => none) else none
  | none => none
theorem h_iinc_ok {nL i : Nat} {n : Int} {pc : Nat} {out : List sN} (h : gD Z wr w0 vs (K, C, lv, ss, al, wk) l st w) (ho : h_iinc nL i n pc (K, C, lv, ss, al, wk) = some out) : sOK Z wr w0 vs w out (m_pure nL (.iinc i n) pc l st) := by
  unfold h_iinc at ho
  split at ho
  next s hs =>
    obtain ⟨v, hg, hd⟩ := lvR_get h.2.2.1 hs
    cases e : (z_in 0 n n && (Nat.beq s.1 0 && Nat.blt i nL)) with
    | false => rw [e] at ho; cases ho
    | true =>
      rw [e] at ho
      rw [Bool.and_eq_true, Bool.and_eq_true] at e
      obtain ⟨e0, e1, e2⟩ := e
      simp only [cond_true] at ho
      split at ho
      next r hr =>
        cases ho
        have hlt : i < nL := Nat.le_of_ble_eq_true e2
        obtain ⟨t, a, c⟩ := s
        have := Nat.eq_of_beq_eq_true (show Nat.beq t 0 = true from e1)
        subst this
        obtain ⟨x, hx, hx2⟩ := hd
        subst hx
        have hn := z_in_iff.mp e0
        have hy : (Int32.ofInt n).toInt = n := by rw [Int32.toInt_ofInt]; exact z_bm0 hn
        have hyN : vN vs (0, 0, n) (Int32.ofInt n).toInt := by rw [hy]; exact vN_cst h.1 rfl n
        obtain ⟨z, hz1, hz2⟩ := m_i2_op (ins := .iadd) (o := 0) rfl x (Int32.ofInt n) (by simp)
        obtain ⟨vs', v1, v2, v3, v4⟩ := k_bin_ok (.inl rfl) h.1 hx2 hyN hr hz2
        simp only [m_pure, hg, if_pos hlt]
        have : z = x + Int32.ofInt n := by simp only [m_i2, Option.some.injEq] at hz1; exact hz1.symm
        subst this
        exact sOK_one v1 (gD_new h v1 v2 (lvR_put1 (gD_lv h v1) (dn_of_int v4 v3)) (dnL_up v1 (w_le_refl w) h.2.2.2.1))
      next => cases ho
  next => cases ho
def h_bi (ins : Instr) (pc : Nat) (D : sD) : Option (List sN) := match k_oi ins, D with
  | some o, (K, C, lv, y :: x :: ss, r) => (match k_bin o 0 K x y with
    | some q => some [(pc + 1, (q.1, C, lv, q.2 :: ss, r))]
    | none => none)
  | _, _ => none
theorem h_bi_ok {ins : Instr} {pc : Nat} {out : List sN} (h : gD Z wr w0 vs (K, C, lv, ss, al, wk) l st w) (ho : h_bi ins pc (K, C, lv, ss, al, wk) = some out) : sOK Z wr w0 vs w out (m_bi ins pc l st) := by
  unfold h_bi at ho
  split at ho
  next o K' C' lv' y x ss' r hi hD =>
    cases hD
    split at ho
    next q hq =>
      cases ho
      obtain ⟨vy, r1, e1, dy, hr1⟩ := dnL_cons h.2.2.2.1
      obtain ⟨vx, r2, e2, dx, hr2⟩ := dnL_cons hr1
      subst e1 e2
      obtain ⟨gx, gy⟩ := k_bin_tg hq
      obtain ⟨yi, ey, ny⟩ := dn_int dy gy
      obtain ⟨xi, ex, nx⟩ := dn_int dx gx
      subst ey ex
      obtain ⟨z, hz1, hz2⟩ := m_i2_op hi xi yi (k_bin_nz h.1 ny hq)
      obtain ⟨vs', v1, v2, v3, v4⟩ := k_bin_ok (.inl rfl) h.1 nx ny hq hz2
      simp only [m_bi, hz1]
      exact sOK_one v1 (gD_new h v1 v2 (gD_lv h v1) ⟨dn_of_int v4 v3, dnL_up v1 (w_le_refl w) hr2⟩)
    next => cases ho
  next => cases ho
def h_bl (ins : Instr) (pc : Nat) (D : sD) : Option (List sN) := match k_ol ins, D with
  | some o, (K, C, lv, y :: x :: ss, r) => (match k_bin o 1 K x y with
    | some q => some [(pc + 1, (q.1, C, lv, q.2 :: ss, r))]
    | none => none)
  | _, _ => none
theorem h_bl_ok {ins : Instr} {pc : Nat} {out : List sN} (h : gD Z wr w0 vs (K, C, lv, ss, al, wk) l st w) (ho : h_bl ins pc (K, C, lv, ss, al, wk) = some out) : sOK Z wr w0 vs w out (m_bl ins pc l st) := by
  unfold h_bl at ho
  split at ho
  next o K' C' lv' y x ss' r hi hD =>
    cases hD
    split at ho
    next q hq =>
      cases ho
      obtain ⟨vy, r1, e1, dy, hr1⟩ := dnL_cons h.2.2.2.1
      obtain ⟨vx, r2, e2, dx, hr2⟩ := dnL_cons hr1
      subst e1 e2
      obtain ⟨gx, gy⟩ := k_bin_tg hq
      obtain ⟨yi, ey, ny⟩ := dn_lng dy gy
      obtain ⟨xi, ex, nx⟩ := dn_lng dx gx
      subst ey ex
      obtain ⟨z, hz1, hz2⟩ := m_l2_op hi xi yi (k_bin_nz h.1 ny hq)
      obtain ⟨vs', v1, v2, v3, v4⟩ := k_bin_ok (.inr rfl) h.1 nx ny hq hz2
      simp only [m_bl, hz1]
      exact sOK_one v1 (gD_new h v1 v2 (gD_lv h v1) ⟨dn_of_lng v4 v3, dnL_up v1 (w_le_refl w) hr2⟩)
    next => cases ho
  next => cases ho
end PURE
