/-! CONTRACTS: where a method begins, what it leaves; ranks -/
def c_leF : kF → sK → Option sK
  | [], K => some K
  | f :: F, K => (match k_leA K f.1 f.2.1 f.2.2 with
    | some K' => c_leF F K'
    | none => none)
def f_ents (n : Nat) : zFl → sC
  | [] => []
  | f :: fl => (f_key f.1 f.2.1, (0, n, 0)) :: f_ents (n + 1) fl
def t_start (Ep : kI) (tm : zTm) (lv : sL) (al : Nat × Nat) : Option sD := match c_leF tm.2.2.1 (Ep ++ (e_ivs tm.1 ++ f_ivs tm.2.1), [], tm.2.2.2, [], []) with
  | some K => some (K, f_ents (Ep.length + (e_ivs tm.1).length) tm.2.1, lv, [], al, none)
  | none => none
section CON
variable {vs : List Int} {w w0 : mWd} {K : sK} {C : sC} {Z : zDt} {wr : zWr}
theorem c_leF_ok : ∀ {F : kF} {K : sK}, nK vs K → (∀ f ∈ F, ∃ x y, vs[f.1]? = some x ∧ vs[f.2.1]? = some y ∧ x - y ≤ f.2.2) → ∃ K', c_leF F K = some K' ∧ nK vs K'
  | [], K, hK, _ => ⟨K, rfl, hK⟩
  | f :: F, K, hK, hF => by
    obtain ⟨x, y, h1, h2, h3⟩ := hF f List.mem_cons_self
    obtain ⟨K1, e1, n1⟩ := k_leA_ok hK h1 h2 h3
    unfold c_leF
    rw [e1]
    exact c_leF_ok n1 (fun g hg => hF g (List.mem_cons_of_mem _ hg))
theorem f_ents_ok : ∀ {fl : zFl} {V : List Int} {n : Nat}, fvR w fl V → (∀ i x, V[i]? = some x → vs[n + i]? = some x) → cRL vs w (f_ents n fl)
  | [], [], _, _, _ => fun e he => by cases he
  | f :: fl, X :: V, n, h, hv => by
    obtain ⟨⟨hl, ci, fs, x, f1, f2, f3⟩, hr⟩ := h
    intro e he
    rcases List.mem_cons.mp he with rfl | he
    · refine ⟨hl, ci, fs, .int x, f1, f2, ⟨x, rfl, X, hv 0 X rfl, ?_⟩⟩
      show x.toInt = X + 0
      omega
    · refine f_ents_ok hr (fun i y hy => ?_) e he
      rw [show n + 1 + i = n + (i + 1) by omega]
      exact hv (i + 1) y (by rw [List.getElem?_cons_succ]; exact hy)
  | [], _ :: _, _, h, _ => h.elim
  | _ :: _, [], _, h, _ => h.elim
theorem t_start_ok {Ep : kI} {tm : zTm} {vp V : List Int} {args : List Value} {lv : sL} {l : mL} {al : Nat × Nat} (hE : tE Ep tm vp V w args) (hp : vp.length = Ep.length) (hl : lvR (vp ++ V) w lv l) (hw : gW Z wr w0 (vp ++ V) al none w) : ∃ D, t_start Ep tm lv al = some D ∧ gD Z wr w0 (vp ++ V) D l [] w := by
  obtain ⟨hn, hd, V1, V2, rfl, h1, h2⟩ := hE
  obtain ⟨n0, n1, n2, n3, n4, n5, n6⟩ := hn
  obtain ⟨K, e, hK⟩ := c_leF_ok (F := tm.2.2.1) (K := (Ep ++ (e_ivs tm.1 ++ f_ivs tm.2.1), [], tm.2.2.2, [], [])) ⟨n0, n1, n2, fun f hf => absurd hf (by simp), n4, n5, n6⟩ n3
  unfold t_start
  rw [e]
  refine ⟨_, rfl, hK, ?_, hl, trivial, hw⟩
  refine f_ents_ok h2 (fun i x hx => ?_)
  rw [List.getElem?_append_right (by omega), hp, List.getElem?_append_right (by omega), show Ep.length + (e_ivs tm.1).length + i - Ep.length - V1.length = i by omega]
  exact hx
def kyR (l : mL) : List Nat → List Value → Prop
  | [], [] => True
  | k :: ks, v :: vv => m_get l k = some v ∧ kyR l ks vv
  | _, _ => False
def c_keys (lv : sL) : List Nat → Option (List sV)
  | [] => some []
  | k :: ks => (match s_get lv k, c_keys lv ks with
    | some s, some ss => some (s :: ss)
    | _, _ => none)
theorem c_keys_ok {lv : sL} {l : mL} (hl : lvR vs w lv l) : ∀ {ks : List Nat} {ss : List sV}, c_keys lv ks = some ss → ∃ args, dnL vs w ss args ∧ kyR l ks args
  | [], ss, h => by cases h; exact ⟨[], trivial, trivial⟩
  | k :: ks, ss, h => by
    unfold c_keys at h
    split at h
    next s ss' h1 h2 =>
      cases h
      obtain ⟨v, v1, v2⟩ := hl k s h1
      obtain ⟨args, a1, a2⟩ := c_keys_ok hl h2
      exact ⟨v :: args, ⟨v2, a1⟩, ⟨v1, a2⟩⟩
    next => cases h
def z_zip : List Nat → List sV → sL
  | k :: ks, s :: ss => (k, s) :: z_zip ks ss
  | _, _ => []
theorem z_zip_ok {l : mL} : ∀ {ks : List Nat} {ss : List sV} {args : List Value}, kyR l ks args → dnL vs w ss args → lvR vs w (z_zip ks ss) l
  | [], ss, args, h, hd => fun i s hs => by
    cases ss <;> cases hs
  | k :: ks, [], args, h, hd => fun i s hs => by cases hs
  | k :: ks, s :: ss, [], h, hd => h.elim
  | k :: ks, s :: ss, v :: args, h, hd => fun i t ht => by
    unfold z_zip s_get at ht
    cases e : Nat.beq k i with
    | true =>
      simp only [e] at ht
      cases ht
      have := Nat.eq_of_beq_eq_true e
      subst this
      exact ⟨v, h.1, hd.1⟩
    | false =>
      simp only [e] at ht
      exact z_zip_ok h.2 hd.2 i t ht
/-- the locals where a method begins -/
def s_lv : Nat → List sV → sL
  | _, [] => []
  | i, s :: ss => (i, s) :: s_lv (i + s_cat s) ss
theorem s_lv_ok : ∀ {ss : List sV} {args : List Value} {i : Nat}, dnL vs w ss args → lvR vs w (s_lv i ss) (lv_args i args)
  | [], args, i, h => fun j s hs => by cases hs
  | s :: ss, [], i, h => h.elim
  | s :: ss, v :: args, i, h => fun j t ht => by
    unfold s_lv s_get at ht
    have hc := dn_cat h.1
    have hu : lv_args i (v :: args) = (i, v) :: lv_args (i + s_cat s) args := by
      show (i, v) :: lv_args (if v.category = 2 then i + 2 else i + 1) args = _
      rw [hc]
      unfold s_cat
      cases Nat.beq s.1 1 <;> rfl
    rw [hu]
    unfold m_get
    cases e : Nat.beq i j with
    | true =>
      simp only [e] at ht
      cases ht
      exact ⟨v, rfl, h.1⟩
    | false =>
      simp only [e] at ht
      exact s_lv_ok h.2 j t ht
abbrev zRm : Type := Nat × Int × sV × sV
abbrev zKt : Type := zTm × zSp × kF × zWr × (Nat × Nat) × Nat × zRm
def zRk (rm : zRm) (vs : List Int) (r : Nat) : Prop := (rm.1 = 0 ∧ r = 0) ∨ (rm.1 ≠ 0 ∧ ∃ V1 V2 : Int, (n7 rm.2.2.1 = true ∧ vN vs rm.2.2.1 V1) ∧ (n7 rm.2.2.2 = true ∧ vN vs rm.2.2.2 V2) ∧ V1 ≤ rm.2.1 ∧ 0 ≤ V2 ∧ V2 < (rm.1 : Int) ∧ (r : Int) = (rm.1 : Int) * (rm.2.1 - V1) + ((rm.1 : Int) - 1 - V2))
theorem zRk_up {rm : zRm} {vs vs' : List Int} {r : Nat} (hv : vL vs vs') (h : zRk rm vs r) : zRk rm vs' r := by
  rcases h with h | ⟨h0, V1, V2, ⟨a0, a1⟩, ⟨b0, b1⟩, h2⟩
  · exact .inl h
  · exact .inr ⟨h0, V1, V2, ⟨a0, vN_up hv a1⟩, ⟨b0, vN_up hv b1⟩, h2⟩
/-- what is answered, and its number -/
def resR (rs : zSp) (v : Option Value) (R : Int) : Prop := match rs.1 with
  | 9 => v = none ∧ R = 0
  | 0 => ∃ i : Int32, v = some (.int i) ∧ i.toInt = R ∧ rs.2.1 ≤ R ∧ R ≤ rs.2.2
  | 1 => ∃ i : Int64, v = some (.long i) ∧ i.toInt = R ∧ rs.2.1 ≤ R ∧ R ≤ rs.2.2
  | _ => False
def zPost (Z : zDt) (c : zKt) (w0 : mWd) (vs0 : List Int) (v : Option Value) (w1 : mWd) : Prop := gW Z c.2.2.2.1 w0 [] c.2.2.2.2.1 none w1 ∧ ∃ (R : Int) (V : List Int), resR c.2.1 v R ∧ fvR w1 c.1.2.1 V ∧ ∀ f ∈ c.2.2.1, ∃ x y, (vs0 ++ R :: V)[f.1]? = some x ∧ (vs0 ++ R :: V)[f.2.1]? = some y ∧ x - y ≤ f.2.2
/-- the contract of the method y holds at rank r -/
def zCall (Z : zDt) (L : Nat) (xs : Nat → Int32) (y : Nat) (c : zKt) (r : Nat) : Prop := ∀ (D : Nat) (w : mWd) (args : List Value) (V : List Int), WI Z w → wkR [] none w → tE [(0, 0)] c.1 [0] V w args → zRk c.2.2.2.2.2.2 (0 :: V) r → c.2.2.2.2.2.1 + 3 * r ≤ D → Rn L xs D y 0 (lv_args 0 args) [] w (zPost Z c w (0 :: V))
theorem wkR_any {vs vs' : List Int} (h : wkR vs none w) : wkR vs' none w := by
  obtain ⟨K0, h1, h2⟩ := h
  exact ⟨K0, (fun (j : sV) (hj : none = some j) => (nomatch hj)), h2⟩
theorem gW_any {vs vs' : List Int} {al : Nat × Nat} (h : gW Z wr w0 vs al none w) : gW Z wr w0 vs' al none w := ⟨h.1, h.2.1, h.2.2.1, h.2.2.2.1, wkR_any h.2.2.2.2⟩
theorem gW_al {vs : List Int} {al al' : Nat × Nat} {wk : Option sV} (h : gW Z wr w0 vs al wk w) (h1 : al.1 ≤ al'.1) (h2 : al.2 ≤ al'.2) : gW Z wr w0 vs al' wk w := ⟨h.1, h.2.1, by have := h.2.2.1; omega, by have := h.2.2.2.1; omega, h.2.2.2.2⟩
/-- behind a call -/
theorem gW_call {vs : List Int} {al al' : Nat × Nat} {wr' : zWr} {w1 : mWd} (h : gW Z wr w0 vs al none w) (hs : z_sub wr' wr = true) (h1 : gW Z wr' w [] al' none w1) : gW Z wr w0 vs (al.1 + al'.1, al.2 + al'.2) none w1 := by
  obtain ⟨a1, a2, a3, a4, a5⟩ := h
  obtain ⟨b1, b2, b3, b4, b5⟩ := h1
  refine ⟨b1, fR_trans a2 (fR_sub hs b2), ?_, ?_, wkR_any b5⟩
  · show w1.length ≤ w0.length + (al.1 + al'.1); omega
  · show m_sl w1 ≤ m_sl w0 + (al.2 + al'.2); omega
/-- facts as a contract leaves them -/
def c_leP (n : Nat) (m : List sV) : kF → sK → Option sK
  | [], K => some K
  | f :: F, K => (match c_sv n m f.1, c_sv n m f.2.1 with
    | some x, some y => (match k_le K x y f.2.2 with
      | some K' => c_leP n m F K'
      | none => none)
    | _, _ => none)
theorem c_leP_ok {n : Nat} {m : List sV} {V : List Int} (hn : n ≤ vs.length) (hm : mvR vs m V) : ∀ {F : kF} {K r : sK}, nK vs K → (∀ f ∈ F, ∃ x y, (vs.take n ++ V)[f.1]? = some x ∧ (vs.take n ++ V)[f.2.1]? = some y ∧ x - y ≤ f.2.2) → c_leP n m F K = some r → nK vs r
  | [], K, r, hK, _, h => by cases h; exact hK
  | f :: F, K, r, hK, hF, h => by
    unfold c_leP at h
    split at h
    next x y hx hy =>
      obtain ⟨X, Y, a1, a2, a3⟩ := hF f List.mem_cons_self
      obtain ⟨X', b1, b2, b3⟩ := c_sv_ok hn hm hx
      obtain ⟨Y', c1, c2, c3⟩ := c_sv_ok hn hm hy
      rw [b1] at a1
      rw [c1] at a2
      cases a1
      cases a2
      obtain ⟨K1, e1, n1⟩ := k_le_ok hK b2 c2 b3 c3 a3
      rw [e1] at h
      exact c_leP_ok hn hm n1 (fun g hg => hF g (List.mem_cons_of_mem _ hg)) h
    next => cases h
/-- the number and value of an answer -/
def c_res (K : sK) (rs : zSp) : Option (sK × sV × List sV) := match rs.1 with
  | 9 => some (K, (0, 0, 0), [])
  | 0 => some (k_new K rs.2.1 rs.2.2, (0, K.1.length, 0), [(0, K.1.length, 0)])
  | 1 => some (k_new K rs.2.1 rs.2.2, (0, K.1.length, 0), [(1, K.1.length, 0)])
  | _ => none
theorem c_res_ok {rs : zSp} {v : Option Value} {R : Int} {q : sK × sV × List sV} (hK : nK vs K) (hr : resR rs v R) (h : c_res K rs = some q) : ∃ vs', vL vs vs' ∧ nK vs' q.1 ∧ n7 q.2.1 = true ∧ vN vs' q.2.1 R ∧ ∀ w', dnL vs' w' q.2.2 v.toList := by
  obtain ⟨t, lo, hi⟩ := rs
  unfold c_res at h
  unfold resR at hr
  match t, h, hr with
  | 9, h, ⟨h1, h2⟩ =>
    cases h
    subst h1 h2
    exact ⟨vs, vL_refl vs, hK, rfl, vN_0 hK.1 0 rfl 0, fun _ => trivial⟩
  | 0, h, ⟨i, h1, h2, h3, h4⟩ =>
    cases h
    subst h1 h2
    refine ⟨vs ++ [i.toInt], vL_app vs _, nK_new hK h3 h4, rfl, ⟨_, vL_new hK _, (Int.add_zero _).symm⟩, fun w' => ⟨⟨i, rfl, ⟨_, vL_new hK _, (Int.add_zero _).symm⟩⟩, trivial⟩⟩
  | 1, h, ⟨i, h1, h2, h3, h4⟩ =>
    cases h
    subst h1 h2
    refine ⟨vs ++ [i.toInt], vL_app vs _, nK_new hK h3 h4, rfl, ⟨_, vL_new hK _, (Int.add_zero _).symm⟩, fun w' => ⟨⟨i, rfl, ⟨_, vL_new hK _, (Int.add_zero _).symm⟩⟩, trivial⟩⟩
  | 2, _, h => exact h.elim
  | 3, _, h => exact h.elim
  | 4, _, h => exact h.elim
  | 5, _, h => exact h.elim
  | 6, _, h => exact h.elim
  | 7, _, h => exact h.elim
  | 8, _, h => exact h.elim
  | n + 10, _, h => exact h.elim
end CON
