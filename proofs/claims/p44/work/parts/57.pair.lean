/-! PAIRS: the class's method and then the reference's, at the same ints, from a world where some fields and arrays of the two are equal -/
abbrev zRF : Type := List ((Nat × Nat) × (Nat × Nat))
abbrev zRA : Type := List (Nat × Nat)
def rF (w : mWd) (p : (Nat × Nat) × (Nat × Nat)) : Prop := (p.1.1 < 129 ∧ p.2.1 < 129) ∧ ∃ (ci cj : Nat) (fs gs : List Value) (x : Int32), w[p.1.1]? = some (.inr (ci, fs)) ∧ fs[p.1.2]? = some (.int x) ∧ w[p.2.1]? = some (.inr (cj, gs)) ∧ gs[p.2.2]? = some (.int x)
def rA (w : mWd) (p : Nat × Nat) : Prop := ∃ (t n : Nat) (a : zCt) (t' : Nat) (b : zCt), w[p.1]? = some (.inl (t, n, a)) ∧ w[p.2]? = some (.inl (t', n, b)) ∧ ∀ j, j < n → m_el a j = m_el b j
def RI (F : zRF) (A : zRA) (w : mWd) : Prop := (∀ p ∈ F, rF w p) ∧ (∀ p ∈ A, rA w p)
section PAIR
variable {Z : zDt} {F : zRF} {A : zRA} {w w0 : mWd} {vs : List Int} {K : sK} {C : sC} {L : Nat} {xs : Nat → Int32}
/-- what does not write them keeps them -/
def ri_wr (Z : zDt) (F : zRF) (A : zRA) (wr : zWr) : Bool := F.all (fun p => !(z_wr wr (z_cls Z.1 p.1.1) p.1.2) && !(z_wr wr (z_cls Z.1 p.2.1) p.2.2)) && A.all (fun p => !(z_wr wr 98 p.1) && !(z_wr wr 98 p.2))
theorem cls_of (hW : WI Z w) {i ci : Nat} {fs : List Value} (hl : i < 129) (h : w[i]? = some (.inr (ci, fs))) : z_cls Z.1 i = ci := by
  have hlt : i < Z.1.length := by rw [hW.1]; exact hl
  obtain ⟨c, c1, c2⟩ := hW.2.1 i _ (List.getElem?_eq_getElem hlt)
  rw [h] at c1
  cases c1
  unfold z_cls
  rw [List.getElem?_eq_getElem hlt]
  unfold w_okC at c2
  split at c2
  · obtain ⟨fs', b1, -⟩ := c2
    cases b1; rfl
  · obtain ⟨-, b, b1, -⟩ := c2
    cases b1
theorem ri_keep {wr : zWr} {w1 : mWd} (hW : WI Z w) (h : RI F A w) (hf : fR wr w w1) (hk : ri_wr Z F A wr = true) : RI F A w1 := by
  unfold ri_wr at hk
  rw [Bool.and_eq_true] at hk
  refine ⟨fun p hp => ?_, fun p hp => ?_⟩
  · have h1 := List.all_eq_true.mp hk.1 p hp
    rw [Bool.and_eq_true, Bool.not_eq_true', Bool.not_eq_true'] at h1
    obtain ⟨⟨l1, l2⟩, ci, cj, fs, gs, x, a1, a2, a3, a4⟩ := h.1 p hp
    rw [cls_of hW l1 a1, cls_of hW l2 a3] at h1
    obtain ⟨c1, d1, -, d3, -⟩ := hf _ _ a1
    obtain ⟨fs', rfl, d4⟩ := d3 ci fs rfl
    obtain ⟨c2, g1, -, g3, -⟩ := hf _ _ a3
    obtain ⟨gs', rfl, g4⟩ := g3 cj gs rfl
    exact ⟨⟨l1, l2⟩, ci, cj, fs', gs', x, d1, by rw [d4 _ h1.1]; exact a2, g1, by rw [g4 _ h1.2]; exact a4⟩
  · have h1 := List.all_eq_true.mp hk.2 p hp
    rw [Bool.and_eq_true, Bool.not_eq_true', Bool.not_eq_true'] at h1
    obtain ⟨t, n, a, t', b, a1, a2, a3⟩ := h.2 p hp
    obtain ⟨c1, d1, -, -, d4⟩ := hf _ _ a1
    have := d4 _ rfl h1.1
    subst this
    obtain ⟨c2, g1, -, -, g4⟩ := hf _ _ a2
    have := g4 _ rfl h1.2
    subst this
    exact ⟨t, n, a, t', b, d1, g1, a3⟩
/-- the numbers of the equal fields, and what is known of both -/
def pr_ivs (Z : zDt) : zRF → Option kI
  | [] => some []
  | p :: F => (match z_fs Z p.1.1 p.1.2, pr_ivs Z F with
    | some sp, some E => some ((sp.2.1, sp.2.2) :: E)
    | _, _ => none)
def pr_ent (n : Nat) : zRF → sC
  | [] => []
  | p :: F => (f_key p.1.1 p.1.2, (0, n, 0)) :: (f_key p.2.1 p.2.2, (0, n, 0)) :: pr_ent (n + 1) F
def pr_arr : zRA → sC
  | [] => []
  | p :: A => ((5, p.1, (0, p.2, 0)), (0, 0, 0)) :: pr_arr A
theorem pr_fld (hW : WI Z w) : ∀ {F : zRF} {E : kI}, pr_ivs Z F = some E → (∀ p ∈ F, rF w p) → ∃ V : List Int, V.length = E.length ∧ (∀ i x, V[i]? = some x → (k_at E i).1 ≤ x ∧ x ≤ (k_at E i).2) ∧ ∀ (vs : List Int) (n : Nat), (∀ i x, V[i]? = some x → vs[n + i]? = some x) → cRL vs w (pr_ent n F)
  | [], E, h, _ => by
    cases h
    exact ⟨[], rfl, fun i x hx => by simp at hx, fun _ _ _ e he => by cases he⟩
  | p :: F, E, h, hF => by
    unfold pr_ivs at h
    split at h
    next sp E' h1 h2 =>
      cases h
      obtain ⟨V, v1, v2, v3⟩ := pr_fld hW h2 (fun q hq => hF q (List.mem_cons_of_mem _ hq))
      obtain ⟨⟨l1, l2⟩, ci, cj, fs, gs, x, a1, a2, a3, a4⟩ := hF p List.mem_cons_self
      obtain ⟨-, ci', fs', x', b1, b2, b3⟩ := z_fs_ok hW h1
      rw [a1] at b1
      cases b1
      rw [a2] at b2
      cases b2
      have hb : sp.2.1 ≤ x.toInt ∧ x.toInt ≤ sp.2.2 := by
        obtain ⟨t, lo, hi⟩ := sp
        unfold okV at b3
        match t, b3 with
        | 0, ⟨i, hi, h5, h6⟩ => cases hi; exact ⟨h5, h6⟩
        | 1, ⟨i, hi⟩ => cases hi
        | 2, hi => cases hi
        | 3, hi => rcases hi with hi | ⟨_, hi, _⟩ <;> cases hi
        | 4, hi => rcases hi with hi | ⟨_, _, hi, _⟩ <;> cases hi
        | n + 5, hi => exact hi.elim
      refine ⟨x.toInt :: V, by simp [v1], fun i y hy => ?_, fun vs n hv e he => ?_⟩
      · cases i with
        | zero =>
          simp at hy
          subst hy
          exact hb
        | succ i => exact v2 i y (by simpa using hy)
      · have hx : dn vs w (0, n, 0) (.int x) := ⟨x, rfl, x.toInt, hv 0 _ rfl, (Int.add_zero _).symm⟩
        rcases List.mem_cons.mp he with rfl | he
        · exact ⟨l1, ci, fs, _, a1, a2, hx⟩
        · rcases List.mem_cons.mp he with rfl | he
          · exact ⟨l2, cj, gs, _, a3, a4, hx⟩
          · refine v3 vs (n + 1) (fun i y hy => ?_) e he
            rw [show n + 1 + i = n + (i + 1) by omega]
            exact hv (i + 1) y (by simpa using hy)
    next => cases h
theorem pr_arr_ok : ∀ {A : zRA}, (∀ p ∈ A, rA w p) → cRL vs w (pr_arr A)
  | [], _ => fun e he => by cases he
  | p :: A, h => fun e he => by
    rcases List.mem_cons.mp he with rfl | he
    · exact h p List.mem_cons_self
    · exact pr_arr_ok (fun q hq => h q (List.mem_cons_of_mem _ hq)) e he
/-- two values are equal numbers -/
def s_same (K : sK) (x y : sV) : Bool := (n7 x && n7 y) && (s_eq x y || (z_le (k_df K x y) 0 && z_le (k_df K y x) 0))
theorem s_same_ok {x y : sV} {X Y : Int} (hK : nK vs K) (hx : vN vs x X) (hy : vN vs y Y) (h : s_same K x y = true) : X = Y := by
  unfold s_same at h
  rw [Bool.and_eq_true, Bool.and_eq_true, Bool.or_eq_true, Bool.and_eq_true, z_le_iff, z_le_iff] at h
  obtain ⟨⟨h1, h2⟩, h3⟩ := h
  rcases h3 with h3 | ⟨h3, h4⟩
  · rw [s_eq_ok h3] at hx
    exact vN_fun hx hy
  · have a := k_df_ok hK h1 h2 hx hy
    have b := k_df_ok hK h2 h1 hy hx
    omega
/-- equal ints of two known entries -/
def c_eq2 (K : sK) (C : sC) (k1 k2 : cK) : Bool := match c_get C k1, c_get C k2 with
  | some a, some b => (Nat.beq a.1 0 && Nat.beq b.1 0) && s_same K a b
  | _, _ => false
def pr_finF (K : sK) (C : sC) (F : zRF) : Bool := F.all (fun p => (Nat.blt p.1.1 129 && Nat.blt p.2.1 129) && c_eq2 K C (f_key p.1.1 p.1.2) (f_key p.2.1 p.2.2))
/-- the arrays are equal: still, or again where one element of each was written -/
def pr_find (i j : Nat) : sC → Option (Nat × sV)
  | [] => none
  | e :: C => bif (Nat.beq e.1.2.1 i && (Nat.beq e.1.2.2.2.1 j && (Nat.beq e.1.1 5 || Nat.beq e.1.1 6))) then some (e.1.1, e.2) else pr_find i j C
theorem pr_find_ok {i j : Nat} {q : Nat × sV} : ∀ {C : sC}, cRL vs w C → pr_find i j C = some q → ∃ (t n : Nat) (a : zCt) (t' : Nat) (b : zCt), w[i]? = some (.inl (t, n, a)) ∧ w[j]? = some (.inl (t', n, b)) ∧ ∀ k : Nat, k < n → (q.1 = 5 ∨ ¬ vN vs q.2 (k : Int)) → m_el a k = m_el b k
  | [], _, h => by cases h
  | e :: C, hC, h => by
    unfold pr_find at h
    cases eq : (Nat.beq e.1.2.1 i && (Nat.beq e.1.2.2.2.1 j && (Nat.beq e.1.1 5 || Nat.beq e.1.1 6))) with
    | false =>
      rw [eq] at h
      exact pr_find_ok (fun x hx => hC x (List.mem_cons_of_mem _ hx)) h
    | true =>
      rw [eq] at h
      cases h
      rw [Bool.and_eq_true, Bool.and_eq_true, Bool.or_eq_true] at eq
      obtain ⟨e1, e2, e3⟩ := eq
      have he := hC e List.mem_cons_self
      have e1 := Nat.eq_of_beq_eq_true e1
      have e2 := Nat.eq_of_beq_eq_true e2
      unfold cR at he
      rcases e3 with e3 | e3
      · rw [Nat.eq_of_beq_eq_true e3] at he
        obtain ⟨t, n, a, t', b, h1, h2, h3⟩ := he
        rw [e1] at h1
        rw [e2] at h2
        exact ⟨t, n, a, t', b, h1, h2, fun k hk _ => h3 k hk⟩
      · rw [Nat.eq_of_beq_eq_true e3] at he
        obtain ⟨t, n, a, t', b, h1, h2, h3⟩ := he
        rw [e1] at h1
        rw [e2] at h2
        refine ⟨t, n, a, t', b, h1, h2, fun k hk hn => h3 k hk ?_⟩
        rcases hn with hn | hn
        · have := Nat.eq_of_beq_eq_true e3
          have hn' : e.1.1 = 5 := hn
          omega
        · exact hn
def pr_finA (K : sK) (C : sC) (A : zRA) : Bool := A.all (fun p => match pr_find p.1 p.2 C with
  | some q => Nat.beq q.1 5 || c_eq2 K C (2, p.1, q.2) (2, p.2, q.2)
  | none => false)
theorem el_int {a : zCt} {k : Nat} {x : Int32} (h : m_el a k = .int x) : ∃ f, a = .inl f ∧ f k = x := by
  match a, h with
  | .inl f, h => exact ⟨f, rfl, by injection h⟩
  | .inr (.inl f), h => cases h
  | .inr (.inr (.inl f)), h => cases h
  | .inr (.inr (.inr (.inl f))), h => cases h
  | .inr (.inr (.inr (.inr f))), h =>
    have h' : m_opt f k = .int x := h
    unfold m_opt at h'
    split at h' <;> cases h'
theorem pr_fin_ok (hK : nK vs K) (hC : cRL vs w C) (h1 : pr_finF K C F = true) (h2 : pr_finA K C A = true) : RI F A w := by
  refine ⟨fun p hp => ?_, fun p hp => ?_⟩
  · have h := List.all_eq_true.mp h1 p hp
    rw [Bool.and_eq_true, Bool.and_eq_true] at h
    obtain ⟨⟨l1, l2⟩, h⟩ := h
    unfold c_eq2 at h
    split at h
    next a b ha hb =>
      rw [Bool.and_eq_true, Bool.and_eq_true] at h
      obtain ⟨-, ci, fs, v, a1, a2, a3⟩ := c_get_ok hC ha
      obtain ⟨-, cj, gs, u, b1, b2, b3⟩ := c_get_ok hC hb
      obtain ⟨x, rfl, hx⟩ := dn_int a3 (by show k_tg 0 a = true; unfold k_tg; rw [h.1.1]; rfl)
      obtain ⟨y, rfl, hy⟩ := dn_int b3 (by show k_tg 0 b = true; unfold k_tg; rw [h.1.2]; rfl)
      have := Int32.toInt_inj.mp (s_same_ok hK hx hy h.2)
      subst this
      exact ⟨⟨Nat.le_of_ble_eq_true l1, Nat.le_of_ble_eq_true l2⟩, ci, cj, fs, gs, x, a1, a2, b1, b2⟩
    next => cases h
  · have h := List.all_eq_true.mp h2 p hp
    split at h
    next q hq =>
      obtain ⟨t, n, a, t', b, p1, p2, p3⟩ := pr_find_ok hC hq
      refine ⟨t, n, a, t', b, p1, p2, fun k hk => ?_⟩
      rw [Bool.or_eq_true] at h
      rcases h with h | h
      · exact p3 k hk (.inl (Nat.eq_of_beq_eq_true h))
      · by_cases hn : vN vs q.2 (k : Int)
        · unfold c_eq2 at h
          split at h
          next x y hx hy =>
            rw [Bool.and_eq_true, Bool.and_eq_true] at h
            obtain ⟨t1, n1, a1, J, c1, c2, c3, c4⟩ := c_get_ok hC hx
            obtain ⟨t2, n2, a2, J2, d1, d2, d3, d4⟩ := c_get_ok hC hy
            have c1' : w[p.1]? = some (.inl (t1, n1, a1)) := c1
            have d1' : w[p.2]? = some (.inl (t2, n2, a2)) := d1
            rw [p1] at c1'
            cases c1'
            rw [p2] at d1'
            cases d1'
            have eJ := vN_fun hn c2
            have eJ2 := vN_fun hn d2
            subst eJ
            rw [← eJ2] at d4
            obtain ⟨u, hu, hU⟩ := dn_int c4 (by show k_tg 0 x = true; unfold k_tg; rw [h.1.1]; rfl)
            obtain ⟨v, hv, hV⟩ := dn_int d4 (by show k_tg 0 y = true; unfold k_tg; rw [h.1.2]; rfl)
            have := Int32.toInt_inj.mp (s_same_ok hK hU hV h.2)
            subst this
            have hkk : ((k : Int)).toNat = k := rfl
            rw [hkk] at hu hv
            rw [hu, hv]
          next => cases h
        · exact p3 k hk (.inr hn)
    next => cases h
/-- the contracts less some (these are gone into) -/
def t_rm (rm : List Nat) : Nat → zTb → zTb
  | _, [] => []
  | i, x :: T => (bif rm.any (Nat.beq i) then none else x) :: t_rm rm (i + 1) T
theorem t_rm_ok {rm : List Nat} {q : Nat × zKt} : ∀ {T : zTb} {i y : Nat}, (t_rm rm i T).getD y none = some q → T.getD y none = some q
  | [], _, _, h => by simp [t_rm] at h
  | x :: T, i, 0, h => by
    simp only [t_rm, List.getD_cons_zero] at h ⊢
    cases e : rm.any (Nat.beq i) with
    | true => rw [e] at h; cases h
    | false => rw [e] at h; exact h
  | x :: T, i, y + 1, h => by
    simp only [t_rm, List.getD_cons_succ] at h ⊢
    exact t_rm_ok h
/-- a pair's data: the class's method and the reference's, how many ints, whether the answers must be equal, what is gone into, what is written, the room, where a small number is taken one by one -/
abbrev zPr : Type := Nat × Nat × Nat × Bool × List Nat × zWr × (Nat × Nat) × Option (Nat × Nat) × Option (Nat × Nat)
def pr_con (p : zPr) : zKt := (([], [], [], []), (0, 0, 0), [], p.2.2.2.2.2.1, p.2.2.2.2.2.2.1, 700, (0, 0, (0, 0, 0), (0, 0, 0)))
def pr_args (n : Nat) : List sV := e_args 1 (List.replicate n (0, -2147483648, 2147483647))
def pr_f2 (F : zRF) (A : zRA) (p : zPr) (s : sV) (D : sD) (o : Option sV) : Bool := match o with
  | some s2 => ((Nat.beq s.1 0 && Nat.beq s2.1 0) && (!(p.2.2.2.1) || s_same D.1 s s2)) && ((k_wkk D.1 D.2.1 D.2.2.2.2.2 && (Nat.ble D.2.2.2.2.1.1 p.2.2.2.2.2.2.1.1 && Nat.ble D.2.2.2.2.1.2 p.2.2.2.2.2.2.1.2)) && (pr_finF D.1 D.2.1 F && pr_finA D.1 D.2.1 A))
  | none => false
def pr_f1 (Z : zDt) (T : zTb) (F : zRF) (A : zRA) (p : zPr) (nE n : Nat) (D : sD) (o : Option sV) : Bool := match o with
  | some s => chk Z T p.2.1 (pr_con p) 1000 [] p.2.2.2.2.2.2.2.2 none nE (pr_f2 F A p s) n false p.2.1 0 (D.1, D.2.1, s_lv 0 ((2, 69, 0) :: pr_args p.2.2.1), [], D.2.2.2.2) []
  | none => false
def pairB (Z : zDt) (T : zTb) (F : zRF) (A : zRA) (p : zPr) (n : Nat) : Bool := match pr_ivs Z F with
  | some E => chk Z (t_rm p.2.2.2.2.1 0 T) p.1 (pr_con p) 1000 [] p.2.2.2.2.2.2.2.1 none (1 + p.2.2.1 + E.length) (pr_f1 Z (t_rm p.2.2.2.2.1 0 T) F A p (1 + p.2.2.1 + E.length) n) n false p.1 0 (((0, 0) :: (List.replicate p.2.2.1 (-2147483648, 2147483647) ++ E), [], [], [], []), pr_ent (1 + p.2.2.1) F ++ pr_arr A, s_lv 0 ((2, 0, 0) :: pr_args p.2.2.1), [], (0, 0), none) []
  | none => false
def prQ2 (Z : zDt) (F : zRF) (A : zRA) (p : zPr) (w : mWd) (v v2 : Option Value) (w2 : mWd) : Prop := (∃ x y : Int32, v = some (.int x) ∧ v2 = some (.int y) ∧ (p.2.2.2.1 = true → x = y)) ∧ WI Z w2 ∧ wkR [] none w2 ∧ RI F A w2 ∧ w2.length ≤ w.length + p.2.2.2.2.2.2.1.1 ∧ m_sl w2 ≤ m_sl w + p.2.2.2.2.2.2.1.2
theorem pair_ok {T : zTb} {p : zPr} {n d : Nat} {as : List Int32} (hN : ∀ w, w_okD Z.2.1 w (.inr (2, pgDf 2))) (hall : ∀ (o r y : Nat) (c : zKt), T.getD y none = some (o, c) → zCall Z L xs y c r) (h : pairB Z T F A p n = true) (hW : WI Z w) (hk : wkR [] none w) (hR : RI F A w) (hl : as.length = p.2.2.1) (hd : 700 ≤ d) : Rn L xs d p.1 0 (lv_args 0 (.ref 0 :: as.map Value.int)) [] w (fun v w1 => WI Z w1 ∧ Rn L xs d p.2.1 0 (lv_args 0 (.ref 69 :: as.map Value.int)) [] w1 (fun v2 w2 => prQ2 Z F A p w v v2 w2)) := by
  unfold pairB at h
  split at h
  next E hE =>
    obtain ⟨V, v1, v2, v3⟩ := pr_fld hW hE hR.1
    have hlen : (as.map Int32.toInt).length = p.2.2.1 := by rw [List.length_map, hl]
    have hVg : ∀ i x, V[i]? = some x → (0 :: (as.map Int32.toInt ++ V))[1 + p.2.2.1 + i]? = some x := by
      intro i x hx
      rw [show 1 + p.2.2.1 + i = (p.2.2.1 + i) + 1 by omega, List.getElem?_cons_succ, List.getElem?_append_right (by omega), show p.2.2.1 + i - (as.map Int32.toInt).length = i by omega]
      exact hx
    have hAg : ∀ i x, (as.map Int32.toInt)[i]? = some x → (0 :: (as.map Int32.toInt ++ V))[1 + i]? = some x := by
      intro i x hx
      rw [show 1 + i = i + 1 by omega, List.getElem?_cons_succ, List.getElem?_append_left (List.getElem?_eq_some_iff.mp hx).1]
      exact hx
    have hargs : ∀ w', dnL (0 :: (as.map Int32.toInt ++ V)) w' (pr_args p.2.2.1) (as.map Value.int) := by
      intro w'
      have := l_ent (w := w') (cell := 0) as 1 (0 :: (as.map Int32.toInt ++ V)) hAg
      rw [hl] at this
      exact this
    have hnE : (0 :: (as.map Int32.toInt ++ V)).length = 1 + p.2.2.1 + E.length := by
      rw [List.length_cons, List.length_append, hlen, v1]; omega
    have hK0 : nK (0 :: (as.map Int32.toInt ++ V)) ((0, 0) :: (List.replicate p.2.2.1 (-2147483648, 2147483647) ++ E), [], [], [], []) := by
      refine ⟨rfl, ?_, ?_, fun f hf => absurd hf (by simp), fun f hf => absurd hf (by simp), fun f hf => absurd hf (by simp), fun f hf => absurd hf (by simp)⟩
      · rw [hnE]
        simp only [List.length_cons, List.length_append, List.length_replicate]
        omega
      · intro a x hx
        cases a with
        | zero =>
          simp at hx
          subst hx
          exact ⟨Int.le_refl 0, Int.le_refl 0⟩
        | succ a =>
          rw [List.getElem?_cons_succ] at hx
          show (k_at (List.replicate p.2.2.1 (-2147483648, 2147483647) ++ E) a).1 ≤ x ∧ x ≤ (k_at (List.replicate p.2.2.1 (-2147483648, 2147483647) ++ E) a).2
          rw [k_at_app2, List.length_replicate]
          by_cases ha : a < p.2.2.1
          · rw [if_pos ha, k_at_rep _ _ _ ha]
            rw [List.getElem?_append_left (by omega), List.getElem?_map] at hx
            obtain ⟨z, hz1, hz2⟩ := Option.map_eq_some_iff.mp hx
            subst hz2
            exact i32_rg z
          · rw [if_neg ha]
            rw [List.getElem?_append_right (by omega), hlen] at hx
            exact v2 _ x hx
    have hC0 : cRL (0 :: (as.map Int32.toInt ++ V)) w (pr_ent (1 + p.2.2.1) F ++ pr_arr A) := by
      intro e he
      rcases List.mem_append.mp he with he | he
      · exact v3 _ _ hVg e he
      · exact pr_arr_ok hR.2 e he
    have HC : ∀ y' ord' c', (t_rm p.2.2.2.2.1 0 T).getD y' none = some (ord', c') → ∀ r', (ord' < 1000 ∨ (ord' = 1000 ∧ r' < 0)) → zCall Z L xs y' c' r' := fun y' ord' c' hT r' _ => hall ord' r' y' c' (t_rm_ok hT)
    have hrk : zRk (pr_con p).2.2.2.2.2.2 (0 :: (as.map Int32.toInt ++ V)) 0 := .inl ⟨rfl, rfl⟩
    have hg0 : gD Z (pr_con p).2.2.2.1 w (0 :: (as.map Int32.toInt ++ V)) (((0, 0) :: (List.replicate p.2.2.1 (-2147483648, 2147483647) ++ E), [], [], [], []), pr_ent (1 + p.2.2.1) F ++ pr_arr A, s_lv 0 ((2, 0, 0) :: pr_args p.2.2.1), [], (0, 0), none) (lv_args 0 (.ref 0 :: as.map Value.int)) [] w :=
      ⟨hK0, hC0, s_lv_ok (show dnL _ w ((2, 0, 0) :: pr_args p.2.2.1) (.ref 0 :: as.map Value.int) from ⟨rfl, hargs w⟩), trivial, hW, fR_refl _ w, Nat.le_refl _, Nat.le_refl _, wkR_any hk⟩
    refine chk_ok (M := none) (r := 0) (D0 := d) (Q := fun v w1 => WI Z w1 ∧ Rn L xs d p.2.1 0 (lv_args 0 (.ref 69 :: as.map Value.int)) [] w1 (fun v2 w2 => prQ2 Z F A p w v v2 w2)) (vsS := 0 :: (as.map Int32.toInt ++ V)) hN HC hrk hnE (by show 700 + 3 * 0 ≤ d; omega) (vL_refl _) (fun os ho => by cases ho) (fun _ => rfl) (fun t ht => by cases ht) ?_ n false p.1 0 _ [] h (0 :: (as.map Int32.toInt ++ V)) _ [] w [] d hg0 (vL_refl _) trivial (by simp) (by show 0 < 700 - 0; omega)
    intro vs1 D1 l1 st1 w1 o1 u1 g1 hv1 ho1 hf1
    unfold pr_f1 at hf1
    split at hf1
    next s =>
      cases u1 with
      | none => exact ho1.elim
      | some v =>
        have hd1 : dn vs1 w1 s v := ho1
        obtain ⟨K1, C1, lv1, ss1, al1, wk1⟩ := D1
        have hg1 : gD Z (pr_con p).2.2.2.1 w vs1 (K1, C1, s_lv 0 ((2, 69, 0) :: pr_args p.2.2.1), [], al1, wk1) (lv_args 0 (.ref 69 :: as.map Value.int)) [] w1 :=
          ⟨g1.1, g1.2.1, s_lv_ok (show dnL _ w1 ((2, 69, 0) :: pr_args p.2.2.1) (.ref 69 :: as.map Value.int) from ⟨rfl, dnL_up hv1 (w_le_refl w1) (hargs w1)⟩), trivial, g1.2.2.2.2⟩
        refine ⟨g1.2.2.2.2.1, ?_⟩
        refine chk_ok (M := none) (r := 0) (D0 := d) (Q := fun v2 w2 => prQ2 Z F A p w (some v) v2 w2) (vsS := vs1) hN HC hrk hnE (by show 700 + 3 * 0 ≤ d; omega) hv1 (fun os ho => by cases ho) (fun _ => rfl) (fun t ht => by cases ht) ?_ n false p.2.1 0 _ [] hf1 vs1 _ [] w1 [] d hg1 (vL_refl _) trivial (by simp) (by show 0 < 700 - 0; omega)
        intro vs2 D2 l2 st2 w2 o2 u2 g2 hv2 ho2 hf2
        unfold pr_f2 at hf2
        split at hf2
        next s2 =>
          cases u2 with
          | none => exact ho2.elim
          | some v2 =>
            rw [Bool.and_eq_true, Bool.and_eq_true, Bool.and_eq_true, Bool.and_eq_true, Bool.and_eq_true, Bool.and_eq_true, Bool.and_eq_true] at hf2
            obtain ⟨⟨⟨t1, t2⟩, teq⟩, ⟨a1, a2, a3⟩, a4, a5⟩ := hf2
            obtain ⟨x, hx, hX⟩ := dn_int hd1 (by unfold k_tg; rw [t1]; rfl)
            obtain ⟨y, hy, hY⟩ := dn_int ho2 (by unfold k_tg; rw [t2]; rfl)
            refine ⟨⟨x, y, by rw [hx], by rw [hy], fun he => ?_⟩, g2.2.2.2.2.1, k_wkk_ok g2.1 g2.2.1 g2.2.2.2.2.2.2.2.2 a1, pr_fin_ok g2.1 g2.2.1 a4 a5, ?_, ?_⟩
            · rw [he] at teq
              simp only [Bool.not_true, Bool.false_or] at teq
              exact Int32.toInt_inj.mp (s_same_ok g2.1 (vN_up hv2 hX) hY teq)
            · have h1 := g2.2.2.2.2.2.2.1
              have h2 := Nat.le_of_ble_eq_true a2
              omega
            · have h1 := g2.2.2.2.2.2.2.2.1
              have h2 := Nat.le_of_ble_eq_true a3
              omega
        next => cases hf2
    next => cases hf1
  next => cases h
end PAIR
