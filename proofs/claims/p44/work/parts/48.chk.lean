/-! THE CHECKER -/
section FILLC
variable {Z : zDt} {wr : zWr} {w0 w : mWd} {vs : List Int} {K : sK} {C : sC} {lv : sL} {ss : List sV} {al : Nat × Nat} {wk : Option sV} {l : mL} {st : List Value} {L mid pc : Nat} {xs : Nat → Int32}
def h_fill (Z : zDt) (wr : zWr) (args rest : List sV) (D : sD) : Option sD := match args, D with
  | [a, x], (K, C, lv, _, r) => bif (Nat.beq a.1 2 && (z_wr wr 98 a.2.1 && (!(Nat.beq a.2.1 z_KC) && !(Nat.beq a.2.1 z_WC)))) then (match Z.1[a.2.1]? with
    | some (1, 0, n, [e]) => bif (Nat.beq e.1 0 && (k_fit K e x && (Nat.beq x.1 0 && Nat.blt n 2147483648))) then some (K, c_kl a.2.1 C, lv, rest, r) else none
    | _ => none) else none
  | _, _ => none
theorem h_fill_ok {args rest : List sV} {as rst : List Value} {D' : sD} (h : gD Z wr w0 vs (K, C, lv, ss, al, wk) l st w) (ha : dnL vs w args as) (hr : dnL vs w rest rst) (ho : h_fill Z wr args rest (K, C, lv, ss, al, wk) = some D') : ∃ i x n f, as = [.ref i, .int x] ∧ w[i]? = some (.inl (0, n, .inl f)) ∧ n < 2147483648 ∧ ∀ g' : Nat → Int32, (∀ j, g' j = if j < n then x else f j) → w_le w (w.set i (.inl (0, n, .inl g'))) ∧ gD Z wr w0 vs D' l rst (w.set i (.inl (0, n, .inl g'))) := by
  unfold h_fill at ho
  split at ho
  next a x K' C' lv' ss' r hD =>
    cases hD
    obtain ⟨va, r1, e1, d1, hr1⟩ := dnL_cons ha
    obtain ⟨vx, r2, e2, d2, hr2⟩ := dnL_cons hr1
    have e3 := dnL_nil hr2
    subst e3 e2 e1
    cases e : (Nat.beq a.1 2 && (z_wr wr 98 a.2.1 && (!(Nat.beq a.2.1 z_KC) && !(Nat.beq a.2.1 z_WC)))) with
    | false => rw [e] at ho; cases ho
    | true =>
      rw [e] at ho
      simp only [cond_true] at ho
      rw [Bool.and_eq_true, Bool.and_eq_true, Bool.and_eq_true, Bool.not_eq_true', Bool.not_eq_true'] at e
      obtain ⟨e1, e2, e3, e4⟩ := e
      split at ho
      next n e hZ =>
        cases eb : (Nat.beq e.1 0 && (k_fit K e x && (Nat.beq x.1 0 && Nat.blt n 2147483648))) with
        | false => rw [eb] at ho; cases ho
        | true =>
          rw [eb] at ho
          cases ho
          rw [Bool.and_eq_true, Bool.and_eq_true, Bool.and_eq_true] at eb
          obtain ⟨b1, b2, b3, b4⟩ := eb
          obtain ⟨ta, aa, ca⟩ := a
          have := Nat.eq_of_beq_eq_true e1
          simp only at this
          subst this
          have hva : va = .ref aa := d1
          subst hva
          obtain ⟨xi, hx, hN⟩ := dn_int d2 (by unfold k_tg; rw [b3]; rfl)
          have hfit := k_fit_ok h.1 d2 b2
          subst hx
          obtain ⟨a', f1, f2, f3⟩ := WI_arr h.2.2.2.2.1 hZ
          obtain ⟨f, hf⟩ := shp_int f2
          cases hf
          refine ⟨aa, xi, n, f, rfl, f1, Nat.le_of_ble_eq_true b4, fun g' hg' => ?_⟩
          have hsh : shp (.inl (0, n, .inl g')) = shp (.inl (0, n, .inl f)) := rfl
          have hwl := w_le_set (c' := .inl (0, n, .inl g')) f1 hsh
          have he7 : Nat.beq e.1 7 = false := by rw [Nat.eq_of_beq_eq_true b1]; rfl
          have hW := WI_seta (b := .inl g') h.2.2.2.2.1 hZ f1 hsh (fun j hj => by
            unfold z_es
            rw [he7]
            show okV w e (.int (g' j))
            rw [hg' j, if_pos hj]
            exact hfit)
          refine ⟨hwl, h.1, cRL_fill f1 hsh h.2.1, lvR_up (vL_refl vs) hwl h.2.2.1, dnL_up (vL_refl vs) hwl hr, hW, fR_trans h.2.2.2.2.2.1 (fR_seta f1 hsh e2), ?_, ?_, wkR_oth f1 (Nat.ne_of_beq_eq_false e3) (Nat.ne_of_beq_eq_false e4) h.2.2.2.2.2.2.2.2⟩
          · have := h.2.2.2.2.2.2.1
            simpa using this
          · have h9 := h.2.2.2.2.2.2.2.1
            rw [m_sl_set (c := .inl (0, n, .inl g')) f1 rfl]
            exact h9
      next => cases ho
  next => cases ho
def h_cpy (Z : zDt) (args rest : List sV) (D : sD) : Option sD := match args, D with
  | [a, x], (K, C, lv, _, al, wk) => bif (Nat.beq a.1 2 && (Nat.beq x.1 0 && (z_le 0 (k_iv K x).1 && z_le (k_iv K x).2 161))) then (match Z.1[a.2.1]? with
    | some (1, 0, n, [_]) => bif Nat.blt n 2147483648 then some (k_new (k_new K 0 0) 0 161, C, lv, (4, K.1.length, Int.ofNat (K.1.length + 1)) :: rest, (al.1 + 1, al.2 + 161), wk) else none
    | _ => none) else none
  | _, _ => none
theorem h_cpy_ok {args rest : List sV} {as rst : List Value} {D' : sD} (h : gD Z wr w0 vs (K, C, lv, ss, al, wk) l st w) (ha : dnL vs w args as) (hr : dnL vs w rest rst) (ho : h_cpy Z args rest (K, C, lv, ss, al, wk) = some D') : ∃ i k n f, as = [.ref i, .int (Int32.ofNat k)] ∧ w[i]? = some (.inl (0, n, .inl f)) ∧ n < 2147483648 ∧ k ≤ 161 ∧ ∀ g : Nat → Int32, ∃ vs', vL vs vs' ∧ w_le w (w ++ [.inl (0, k, .inl g)]) ∧ gD Z wr w0 vs' D' l (.ref w.length :: rst) (w ++ [.inl (0, k, .inl g)]) := by
  unfold h_cpy at ho
  split at ho
  next a x K' C' lv' ss' al' wk' hD =>
    cases hD
    obtain ⟨va, r1, e1, d1, hr1⟩ := dnL_cons ha
    obtain ⟨vx, r2, e2, d2, hr2⟩ := dnL_cons hr1
    have e3 := dnL_nil hr2
    subst e3 e2 e1
    cases e : (Nat.beq a.1 2 && (Nat.beq x.1 0 && (z_le 0 (k_iv K x).1 && z_le (k_iv K x).2 161))) with
    | false => rw [e] at ho; cases ho
    | true =>
      rw [e] at ho
      simp only [cond_true] at ho
      rw [Bool.and_eq_true, Bool.and_eq_true, Bool.and_eq_true, z_le_iff, z_le_iff] at e
      obtain ⟨e1, e2, e3, e4⟩ := e
      split at ho
      next n e hZ =>
        cases eb : Nat.blt n 2147483648 with
        | false => rw [eb] at ho; cases ho
        | true =>
          rw [eb] at ho
          cases ho
          obtain ⟨ta, aa, ca⟩ := a
          have := Nat.eq_of_beq_eq_true e1
          simp only at this
          subst this
          have hva : va = .ref aa := d1
          subst hva
          obtain ⟨xi, hx, hN⟩ := dn_int d2 (by unfold k_tg; rw [e2]; rfl)
          subst hx
          have hK : nK vs K := h.1
          have b := k_iv_ok hK hN
          obtain ⟨a', f1, f2, f3⟩ := WI_arr h.2.2.2.2.1 hZ
          obtain ⟨f, hf⟩ := shp_int f2
          cases hf
          have hk : xi = Int32.ofNat xi.toInt.toNat := by
            apply Int32.toInt_inj.mp
            rw [i32_nat (by omega)]
            omega
          have hk2 : xi.toInt.toNat ≤ 161 := by omega
          refine ⟨aa, xi.toInt.toNat, n, f, by rw [← hk], f1, Nat.le_of_ble_eq_true eb, hk2, fun g => ?_⟩
          have hW := h.2.2.2.2.1
          have hw := w_le_app w (.inl (0, xi.toInt.toNat, .inl g))
          have n1 := nK_new (lo := 0) (hi := 0) (v := 0) hK (by decide) (by decide)
          have n2 := nK_new (lo := 0) (hi := 161) (v := (xi.toInt.toNat : Int)) n1 (by omega) (by omega)
          have hv : vL vs (vs ++ [0] ++ [(xi.toInt.toNat : Int)]) := vL_trans (vL_app vs [0]) (vL_app _ _)
          refine ⟨_, hv, hw, n2, cRL_app (cRL_up hv h.2.1), lvR_up hv hw h.2.2.1, ⟨?_, dnL_up hv hw hr⟩, ?_⟩
          · refine ⟨0, vL_app _ _ _ _ (vL_new hK _), .inr ⟨rfl, w.length, xi.toInt.toNat, rfl, ⟨hW.len, hk2, .inl (0, xi.toInt.toNat, .inl g), by simp, rfl⟩, ?_⟩⟩
            show (vs ++ [0] ++ [(xi.toInt.toNat : Int)])[K.1.length + 1]? = some (xi.toInt.toNat : Int)
            have := vL_new n1 (xi.toInt.toNat : Int)
            rw [show (k_new K 0 0).1.length = K.1.length + 1 by simp [k_new]] at this
            exact this
          · exact gW_up hv (gW_app h.2.2.2.2 (.inr ⟨_, g, rfl, hk2⟩) hk2)
      next => cases ho
  next => cases ho
end FILLC
def s_nil (fr : List sFr) : Bool := match fr with
  | [] => true
  | _ => false
def z_cut (pc : Nat) : List zTT → Bool
  | [] => false
  | t :: ts => Nat.beq t.1 pc || z_cut pc ts
def z_spK (K : sK) (a : Nat) : Int → Nat → List sK
  | _, 0 => []
  | lo, n + 1 => (match k_ref K a lo lo with
    | some K' => K' :: z_spK K a (lo + 1) n
    | none => z_spK K a (lo + 1) n)
theorem z_spK_ok {vs : List Int} {K : sK} {a : Nat} {u : Int} (hK : nK vs K) (ha : vs[a]? = some u) : ∀ (n : Nat) (lo : Int), lo ≤ u → u < lo + n → ∃ K' ∈ z_spK K a lo n, nK vs K'
  | 0, lo, h1, h2 => by omega
  | n + 1, lo, h1, h2 => by
    unfold z_spK
    by_cases e : u = lo
    · obtain ⟨K', k1, k2⟩ := k_ref_ok hK (lo := lo) (hi := lo) ha (by omega) (by omega)
      rw [k1]
      exact ⟨K', List.mem_cons_self, k2⟩
    · obtain ⟨K', k1, k2⟩ := z_spK_ok hK ha n (lo + 1) (by omega) (by omega)
      split
      · exact ⟨K', List.mem_cons_of_mem _ k1, k2⟩
      · exact ⟨K', k1, k2⟩
/-- where a small number is taken one by one -/
def z_spl (sp : Option (Nat × Nat)) (pc : Nat) (D : sD) : Option (List sK) := match sp with
  | some q => bif Nat.beq q.1 pc then (match s_get D.2.2.1 q.2 with
    | some s => bif (Nat.beq s.1 0 && (!(k_single (k_iv D.1 s)) && z_le ((k_iv D.1 s).2 - (k_iv D.1 s).1) 8)) then some (z_spK D.1 s.2.1 ((k_iv D.1 s).1 - s.2.2) ((k_iv D.1 s).2 - (k_iv D.1 s).1 + 1).toNat) else none
    | none => none) else none
  | none => none
theorem z_spl_ok {vs : List Int} {w : mWd} {l : mL} {sp : Option (Nat × Nat)} {pc : Nat} {D : sD} {Ks : List sK} (hK : nK vs D.1) (hl : lvR vs w D.2.2.1 l) (h : z_spl sp pc D = some Ks) : ∃ K' ∈ Ks, nK vs K' := by
  unfold z_spl at h
  split at h
  next q =>
    cases e : Nat.beq q.1 pc with
    | false => rw [e] at h; cases h
    | true =>
      rw [e] at h
      simp only [cond_true] at h
      split at h
      next s hs =>
        cases e2 : (Nat.beq s.1 0 && (!(k_single (k_iv D.1 s)) && z_le ((k_iv D.1 s).2 - (k_iv D.1 s).1) 8)) with
        | false => rw [e2] at h; cases h
        | true =>
          rw [e2] at h
          cases h
          rw [Bool.and_eq_true] at e2
          obtain ⟨v, v1, v2⟩ := hl _ _ hs
          obtain ⟨i, i1, i2⟩ := dn_int v2 (by unfold k_tg; rw [e2.1]; rfl)
          have b := k_iv_ok hK i2
          obtain ⟨u, hu, hX⟩ := i2
          rw [Nat.eq_of_beq_eq_true e2.1] at hX
          have hX' : i.toInt = u + s.2.2 := hX
          exact z_spK_ok hK hu _ _ (by omega) (by omega)
      next => cases h
  next => cases h
def chk (Z : zDt) (T : zTb) (y : Nat) (c : zKt) (ord : Nat) (TS : List zTT) (sp : Option (Nat × Nat)) (src : Option (List (Bool × sV))) (nE : Nat) (fin : sD → Option sV → Bool) : Nat → Bool → Nat → Nat → sD → List sFr → Bool
  | 0, _, _, _, _, _ => false
  | n + 1, first, mid, pc, D, fr =>
    bif (!first && (s_nil fr && (Nat.beq mid y && z_cut pc TS))) then k_arr Z nE src pc D TS else (match (bif (!first && s_nil fr) then z_spl sp pc D else none) with
    | some Ks => Ks.all (fun K' => chk Z T y c ord TS sp src nE fin n true mid pc (K', D.2) fr)
    | none => (match pgF mid pc with
      | none => false
      | some (ins, _) => (match s_inv Z mid ins D.1 D.2.2.2.1 with
        | some (y', args, rest) => bif Nat.beq y' 272 then (bif Nat.blt (fr.length + 1) c.2.2.2.2.2.1 then (match h_fill Z c.2.2.2.1 args rest D with
            | some D' => chk Z T y c ord TS sp src nE fin n false mid (pc + 3) D' fr
            | none => false) else false) else (bif Nat.beq y' 273 then (bif Nat.blt (fr.length + 1) c.2.2.2.2.2.1 then (match h_cpy Z args rest D with
            | some D' => chk Z T y c ord TS sp src nE fin n false mid (pc + 3) D' fr
            | none => false) else false) else (match T.getD y' none with
            | some (ord', c') => bif s_non D.2.2.2.2.2 then (match t_chk Z D.1 D.2.1 [(0, 0)] c'.1 args with
              | some r => bif (z_sub c'.2.2.2.1 c.2.2.2.1 && k_dep r.1 c c' ord ord' fr.length r.2.2) then (match k_aft Z c' r.1 r.2.1 r.2.2 D.2.2.1 rest D.2.2.2.2.1 with
                | some D' => chk Z T y c ord TS sp src nE fin n false mid (pc + 3) D' fr
                | none => false) else false
              | none => false) else false
            | none => bif Nat.blt (fr.length + 1) c.2.2.2.2.2.1 then chk Z T y c ord TS sp src nE fin n false y' 0 (D.1, D.2.1, s_lv 0 args, [], D.2.2.2.2) ((mid, pc + 3, D.2.2.1, rest) :: fr) else false))
        | none => (match s_ret mid ins D.1 D.2.2.2.1 with
          | some o => (match fr with
            | [] => fin D o
            | f :: fr' => chk Z T y c ord TS sp src nE fin n false f.1 f.2.1 (D.1, D.2.1, f.2.2.1, o.toList ++ f.2.2.2, D.2.2.2.2) fr')
          | none => (match s_step Z c.2.2.2.1 mid ins pc D with
            | none => false
            | some [x] => chk Z T y c ord TS sp src nE fin n false mid x.1 x.2 fr
            | some out => out.all (fun x => chk Z T y c ord TS sp src nE fin n false mid x.1 x.2 fr))))))
def frR (vs : List Int) (w : mWd) : List sFr → List cF → Prop
  | [], [] => True
  | f :: fr, g :: gs => (f.1 = g.1 ∧ f.2.1 = g.2.1 ∧ lvR vs w f.2.2.1 g.2.2.1 ∧ dnL vs w f.2.2.2 g.2.2.2) ∧ frR vs w fr gs
  | _, _ => False
theorem frR_up {vs vs' : List Int} {w w' : mWd} (hv : vL vs vs') (hw : w_le w w') : ∀ {fr : List sFr} {gs : List cF}, frR vs w fr gs → frR vs' w' fr gs
  | [], [], h => h
  | _ :: _, _ :: _, h => ⟨⟨h.1.1, h.1.2.1, lvR_up hv hw h.1.2.2.1, dnL_up hv hw h.1.2.2.2⟩, frR_up hv hw h.2⟩
  | [], _ :: _, h => h.elim
  | _ :: _, [], h => h.elim
theorem frR_len {vs : List Int} {w : mWd} : ∀ {fr : List sFr} {gs : List cF}, frR vs w fr gs → fr.length = gs.length
  | [], [], _ => rfl
  | _ :: _, _ :: _, h => by simp [frR_len h.2]
  | [], _ :: _, h => h.elim
  | _ :: _, [], h => h.elim
def kont (L : Nat) (xs : Nat → Int32) (Q : Option Value → mWd → Prop) : Nat → List cF → Option Value → mWd → Prop
  | _, [] => Q
  | d, g :: gs => fun v w => Rn L xs (d + 1) g.1 g.2.1 g.2.2.1 (v.toList ++ g.2.2.2) w (kont L xs Q (d + 1) gs)
theorem chk_ok {Z : zDt} {T : zTb} {L : Nat} {xs : Nat → Int32} {y : Nat} {c : zKt} {ord r D0 nE : Nat} {TS : List zTT} {sp : Option (Nat × Nat)} {src : Option (List (Bool × sV))} {w0 : mWd} {vs0 vsS : List Int} {M : Option Nat} {Q : Option Value → mWd → Prop} {fin : sD → Option sV → Bool}
    (hN : ∀ w, w_okD Z.2.1 w (.inr (2, pgDf 2))) (HC : ∀ y' ord' c', T.getD y' none = some (ord', c') → ∀ r', (ord' < ord ∨ (ord' = ord ∧ r' < r)) → zCall Z L xs y' c' r') (hrk : zRk c.2.2.2.2.2.2 vs0 r) (hl : vs0.length = nE) (hD : c.2.2.2.2.2.1 + 3 * r ≤ D0) (hvS : vL vs0 vsS) (hs : ∀ os, src = some os → ∃ ov, rkR vsS os ov ∧ M = some (z_mu ov)) (hM : src = none → M = none) (hT : zHT Z L xs y c w0 vs0 D0 TS M Q) (hfin : ∀ (vs : List Int) (D : sD) (l : mL) (st : List Value) (w : mWd) (o : Option sV) (v : Option Value), gD Z c.2.2.2.1 w0 vs D l st w → vL vsS vs → oR vs w o v → fin D o = true → Q v w) :
    ∀ (n : Nat) (first : Bool) (mid pc : Nat) (D : sD) (fr : List sFr), chk Z T y c ord TS sp src nE fin n first mid pc D fr = true → ∀ (vs : List Int) (l : mL) (st : List Value) (w : mWd) (gs : List cF) (d : Nat), gD Z c.2.2.2.1 w0 vs D l st w → vL vsS vs → frR vs w fr gs → d + gs.length = D0 → 0 < c.2.2.2.2.2.1 - gs.length → Rn L xs d mid pc l st w (kont L xs Q d gs) := by
  intro n
  induction n with
  | zero => intro first mid pc D fr h; cases h
  | succ n ih =>
    intro first mid pc D fr h vs l st w gs d hg hv hfr hd hb
    have hlen := frR_len hfr
    have hdpos : ∃ d', d = d' + 1 := ⟨d - 1, by omega⟩
    obtain ⟨d, rfl⟩ := hdpos
    unfold chk at h
    cases e1 : (!first && (s_nil fr && (Nat.beq mid y && z_cut pc TS))) with
    | true =>
      rw [e1] at h
      simp only [cond_true] at h
      rw [Bool.and_eq_true, Bool.and_eq_true, Bool.and_eq_true] at e1
      obtain ⟨-, e2, e3, -⟩ := e1
      have hm := Nat.eq_of_beq_eq_true e3
      subst hm
      cases fr with
      | cons _ _ => cases e2
      | nil =>
        cases gs with
        | cons _ _ => exact hfr.elim
        | nil =>
          have : d + 1 = D0 := by simpa using hd
          subst this
          refine k_arr_ok hg (vL_trans hvS hv) hl (fun os ho => ?_) hM hT TS (fun t ht => ht) h
          obtain ⟨ov, o1, o2⟩ := hs os ho
          exact ⟨ov, rkR_up hv o1, o2⟩
    | false =>
      rw [e1] at h
      simp only [cond_false] at h
      obtain ⟨K, C, lv, ss, al, wk⟩ := D
      split at h
      next Ks hKs =>
        have hKs' : z_spl sp pc (K, C, lv, ss, al, wk) = some Ks := by
          cases e5 : (!first && s_nil fr) with
          | true => rw [e5] at hKs; exact hKs
          | false => rw [e5] at hKs; cases hKs
        obtain ⟨K', k1, k2⟩ := z_spl_ok hg.1 hg.2.2.1 hKs'
        have h' := List.all_eq_true.mp h K' k1
        exact ih _ _ _ _ _ h' vs l st w gs (d + 1) ⟨k2, hg.2⟩ hv hfr hd hb
      next =>
        split at h
        next => cases h
        next ins kk hf =>
          split at h
          next y' args rest hinv =>
            obtain ⟨as, rst, s1, s2, s3⟩ := s_inv_ok (L := L) (xs := xs) (pc := pc) (l := l) hg.2.2.2.2.1 hg.1 hg.2.2.2.1 hinv
            simp only at s1 s2 s3
            cases e272 : Nat.beq y' 272 with
            | true =>
              rw [e272] at h
              have hy := Nat.eq_of_beq_eq_true e272
              subst hy
              simp only [cond_true] at h
              cases eb : Nat.blt (fr.length + 1) c.2.2.2.2.2.1 with
              | false => rw [eb] at h; cases h
              | true =>
                rw [eb] at h
                simp only [cond_true] at h
                have hbl : fr.length + 1 < c.2.2.2.2.2.1 := Nat.le_of_ble_eq_true eb
                split at h
                next D' hD' =>
                  obtain ⟨i, x, k, f, a1, a2, a3, a4⟩ := h_fill_ok hg s2 s3 hD'
                  subst a1
                  have hd2 : ∃ d', d = d' + 1 := ⟨d - 1, by omega⟩
                  obtain ⟨d, rfl⟩ := hd2
                  refine Rn.call hf s1 ?_
                  refine rn_fill a3 a2 (fun g' hg' => ?_)
                  obtain ⟨b1, b2⟩ := a4 g' hg'
                  exact ih _ _ _ _ _ h vs l rst _ gs (d + 1 + 1) b2 hv (frR_up (vL_refl vs) b1 hfr) hd hb
                next => cases h
            | false =>
              rw [e272] at h
              simp only [cond_false] at h
              cases e273 : Nat.beq y' 273 with
              | true =>
                rw [e273] at h
                have hy := Nat.eq_of_beq_eq_true e273
                subst hy
                simp only [cond_true] at h
                cases eb : Nat.blt (fr.length + 1) c.2.2.2.2.2.1 with
                | false => rw [eb] at h; cases h
                | true =>
                  rw [eb] at h
                  simp only [cond_true] at h
                  have hbl : fr.length + 1 < c.2.2.2.2.2.1 := Nat.le_of_ble_eq_true eb
                  split at h
                  next D' hD' =>
                    obtain ⟨i, x, k, f, a1, a2, a3, a4, a5⟩ := h_cpy_ok hg s2 s3 hD'
                    subst a1
                    have hd2 : ∃ d', d = d' + 1 := ⟨d - 1, by omega⟩
                    obtain ⟨d, rfl⟩ := hd2
                    refine Rn.call hf s1 ?_
                    refine rn_copyOf a2 a3 (by omega) (fun g' _ => ?_)
                    obtain ⟨vs', v1, b1, b2⟩ := a5 g'
                    exact ih _ _ _ _ _ h vs' l (.ref w.length :: rst) _ gs (d + 1 + 1) b2 (vL_trans hv v1) (frR_up v1 b1 hfr) hd hb
                  next => cases h
              | false =>
                rw [e273] at h
                simp only [cond_false] at h
                split at h
                next ord' c' hT' =>
                  cases ew : s_non wk with
                  | false => simp only [ew] at h; cases h
                  | true =>
                    have hwk : wk = none := by cases wk with
                      | none => rfl
                      | some _ => cases ew
                    subst hwk
                    simp only [s_non, cond_true] at h
                    split at h
                    next q hq =>
                      cases ed : (z_sub c'.2.2.2.1 c.2.2.2.1 && k_dep q.1 c c' ord ord' fr.length q.2.2) with
                      | false => rw [ed] at h; cases h
                      | true =>
                        rw [ed] at h
                        simp only [cond_true] at h
                        rw [Bool.and_eq_true] at ed
                        split at h
                        next D' hD' =>
                          obtain ⟨vs1, V, t1, t2, t3, t4, t5, t6, t7⟩ := t_chk_ok hg.2.2.2.2.1 hg.1 hg.2.1 s2 hq
                          have htk : vs.take 1 = [0] := by
                            match vs, hg.1.1 with
                            | x :: r, h0 =>
                              simp at h0
                              subst h0
                              rfl
                          have t7' : tE [(0, 0)] c'.1 [0] V w as := by
                            have : vs.take ([(0, 0)] : kI).length = [0] := htk
                            rw [this] at t7
                            exact t7
                          have hvS1 := vL_trans hv t1
                          obtain ⟨r', r1, r2, r3⟩ := k_dep_ok (d := d) t2 t4 (zRk_up (vL_trans hvS hvS1) hrk) hD (by omega) ed.2
                          have hcall := HC y' ord' c' hT' r' r3 d w as V hg.2.2.2.2.1 (wkR_any hg.2.2.2.2.2.2.2.2) t7' r1 r2
                          refine Rn.call hf s1 (hcall.mono ?_)
                          intro v w1 hP
                          obtain ⟨vs', v1, v2, v3⟩ := k_aft_ok hg.2.2.2.2 hg.2.2.1 s3 t1 t2 t3 t4 ed.1 hP hD'
                          exact ih _ _ _ _ _ h vs' l (v.toList ++ rst) w1 gs (d + 1) v3 (vL_trans hv v1) (frR_up v1 v2 hfr) hd hb
                        next => cases h
                    next => cases h
                next hT' =>
                  cases eb : Nat.blt (fr.length + 1) c.2.2.2.2.2.1 with
                  | false => rw [eb] at h; cases h
                  | true =>
                    rw [eb] at h
                    simp only [cond_true] at h
                    have hbl : fr.length + 1 < c.2.2.2.2.2.1 := Nat.le_of_ble_eq_true eb
                    refine Rn.call hf s1 ?_
                    exact ih _ _ _ _ _ h vs (lv_args 0 as) [] w ((mid, pc + 3, l, rst) :: gs) d ⟨hg.1, hg.2.1, s_lv_ok s2, trivial, hg.2.2.2.2⟩ hv ⟨⟨rfl, rfl, hg.2.2.1, s3⟩, hfr⟩ (by simp; omega) (by simp; omega)
          next hinv =>
            split at h
            next o hro =>
              obtain ⟨v, v1, v2⟩ := s_ret_ok (L := L) (xs := xs) (pc := pc) (l := l) hg.1 hg.2.2.2.1 hro
              refine Rn.ret hf v1 ?_
              split at h
              next =>
                cases gs with
                | cons _ _ => exact hfr.elim
                | nil => exact hfin vs _ l st w o v hg hv v2 h
              next f fr' =>
                cases gs with
                | nil => exact hfr.elim
                | cons g gs =>
                  obtain ⟨⟨f1, f2, f3, f4⟩, f5⟩ := hfr
                  show Rn L xs (d + 1 + 1) g.1 g.2.1 g.2.2.1 (v.toList ++ g.2.2.2) w (kont L xs Q (d + 1 + 1) gs)
                  rw [← f1, ← f2]
                  have hov : dnL vs w o.toList v.toList := by
                    match o, v, v2 with
                    | some s, some x, h2 => exact ⟨h2, trivial⟩
                    | none, none, _ => trivial
                  exact ih _ _ _ _ _ h vs g.2.2.1 (v.toList ++ g.2.2.2) w gs (d + 1 + 1) ⟨hg.1, hg.2.1, f3, dnL_app hov f4, hg.2.2.2.2⟩ hv f5 (by simp at hd; omega) (by simp at hb; omega)
            next hro =>
              split at h
              next => cases h
              next x hst =>
                obtain ⟨z, vs', l', st', w', m1, m2, m3, m4, m5⟩ := s_step_ok (L := L) (xs := xs) hN hg hst
                have := List.mem_singleton.mp m1
                subst this
                exact Rn.step hf m2 (ih _ _ _ _ _ h vs' l' st' w' gs (d + 1) m5 (vL_trans hv m3) (frR_up m3 m4 hfr) hd hb)
              next out _ hst =>
                obtain ⟨z, vs', l', st', w', m1, m2, m3, m4, m5⟩ := s_step_ok (L := L) (xs := xs) hN hg hst
                have h' := List.all_eq_true.mp h z m1
                exact Rn.step hf m2 (ih _ _ _ _ _ h' vs' l' st' w' gs (d + 1) m5 (vL_trans hv m3) (frR_up m3 m4 hfr) hd hb)
