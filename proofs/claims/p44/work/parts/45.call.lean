/-! A CALL by contract: the rank falls or the order does, what is known behind it -/
def c_vs (n : Nat) (m : List sV) (v : sV) : Option sV := match c_sv n m v.2.1 with
  | some s => some (s.1, s.2.1, s.2.2 + v.2.2)
  | none => none
def k_dep (K : sK) (c c' : zKt) (ord ord' nfr : Nat) (m : List sV) : Bool := bif Nat.beq c'.2.2.2.2.2.2.1 0 then (Nat.blt ord' ord && Nat.ble (c'.2.2.2.2.2.1 + nfr + 1) c.2.2.2.2.2.1) else (match c_vs 1 m c'.2.2.2.2.2.2.2.2.1, c_vs 1 m c'.2.2.2.2.2.2.2.2.2 with
  | some a1, some a2 => (n7 c'.2.2.2.2.2.2.2.2.1 && n7 c'.2.2.2.2.2.2.2.2.2) && ((z_le (k_iv K a1).2 c'.2.2.2.2.2.2.2.1 && (z_le 0 (k_iv K a2).1 && z_le (k_iv K a2).2 (Int.ofNat c'.2.2.2.2.2.2.1 - 1))) && ((Nat.blt ord' ord && Nat.ble (c'.2.2.2.2.2.1 + 3 * (Int.ofNat c'.2.2.2.2.2.2.1 * (c'.2.2.2.2.2.2.2.1 - (k_iv K a1).1) + Int.ofNat c'.2.2.2.2.2.2.1).toNat + nfr + 1) c.2.2.2.2.2.1) || (Nat.beq ord' ord && (Nat.beq c'.2.2.2.2.2.1 c.2.2.2.2.2.1 && (Nat.ble nfr 2 && (Nat.beq c'.2.2.2.2.2.2.1 c.2.2.2.2.2.2.1 && (z_eq c'.2.2.2.2.2.2.2.1 c.2.2.2.2.2.2.2.1 && (z_le (k_df K c.2.2.2.2.2.2.2.2.1 a1) (-1) || (z_le (k_df K c.2.2.2.2.2.2.2.2.1 a1) 0 && z_le (k_df K c.2.2.2.2.2.2.2.2.2 a2) (-1))))))))))
  | _, _ => false)
section CALL
variable {vs : List Int} {w w0 : mWd} {K : sK} {C : sC} {Z : zDt} {wr : zWr}
theorem c_vs_ok {m : List sV} {V : List Int} {v s : sV} (h1 : 1 ≤ vs.length) (h0 : vs[0]? = some 0) (hm : mvR vs m V) (hv : n7 v = true) (h : c_vs 1 m v = some s) : ∃ X, vN (0 :: V) v X ∧ n7 s = true ∧ vN vs s X := by
  unfold c_vs at h
  split at h
  next t ht =>
    cases h
    obtain ⟨X, a1, a2, a3⟩ := c_sv_ok h1 hm ht
    have e : vs.take 1 = [0] := by
      match vs, h0 with
      | x :: r, h0 =>
        simp at h0
        subst h0
        rfl
    rw [e] at a1
    refine ⟨X + v.2.2, ⟨X, a1, ?_⟩, a2, vN_off a3 _ rfl⟩
    unfold n7 at hv
    rw [Bool.not_eq_true'] at hv
    rw [hv]
    rfl
  next => cases h
theorem k_dep_ok {c c' : zKt} {ord ord' nfr r D d : Nat} {m : List sV} {V : List Int} (hK : nK vs K) (hm : mvR vs m V) (hr : zRk c.2.2.2.2.2.2 vs r) (hD : c.2.2.2.2.2.1 + 3 * r ≤ D) (hd : d + 1 + nfr = D) (h : k_dep K c c' ord ord' nfr m = true) : ∃ r', zRk c'.2.2.2.2.2.2 (0 :: V) r' ∧ c'.2.2.2.2.2.1 + 3 * r' ≤ d ∧ (ord' < ord ∨ (ord' = ord ∧ r' < r)) := by
  have h1 : 1 ≤ vs.length := (List.getElem?_eq_some_iff.mp hK.1).1
  unfold k_dep at h
  obtain ⟨tm', rs', post', wr', al', base', mu', top', v1', v2'⟩ := c'
  obtain ⟨tm, rs, post, wrr, al, base, mu, top, v1, v2⟩ := c
  simp only at h hr hD ⊢
  cases e0 : Nat.beq mu' 0 with
  | true =>
    rw [e0] at h
    simp only [cond_true, Bool.and_eq_true] at h
    have := Nat.le_of_ble_eq_true h.1
    have := Nat.le_of_ble_eq_true h.2
    exact ⟨0, .inl ⟨Nat.eq_of_beq_eq_true e0, rfl⟩, by omega, .inl (Nat.le_of_ble_eq_true h.1)⟩
  | false =>
    rw [e0] at h
    have hmu := Nat.ne_of_beq_eq_false e0
    simp only [cond_false] at h
    split at h
    next a1 a2 ha1 ha2 =>
      rw [Bool.and_eq_true, Bool.and_eq_true, Bool.and_eq_true, Bool.and_eq_true, Bool.and_eq_true, z_le_iff, z_le_iff, z_le_iff, Bool.or_eq_true] at h
      obtain ⟨⟨g1, g2⟩, ⟨g3, g4, g5⟩, g6⟩ := h
      obtain ⟨V1, x1, x2, x3⟩ := c_vs_ok h1 hK.1 hm g1 ha1
      obtain ⟨V2, y1, y2, y3⟩ := c_vs_ok h1 hK.1 hm g2 ha2
      have b1 := k_iv_ok hK x3
      have b2 := k_iv_ok hK y3
      have g5' : (k_iv K a2).2 ≤ (mu' : Int) - 1 := g5
      have hp : (0 : Int) ≤ (mu' : Int) * (top' - V1) := Int.mul_nonneg (by omega) (by omega)
      have hr' : ((((mu' : Int) * (top' - V1) + ((mu' : Int) - 1 - V2)).toNat : Nat) : Int) = (mu' : Int) * (top' - V1) + ((mu' : Int) - 1 - V2) := by omega
      refine ⟨((mu' : Int) * (top' - V1) + ((mu' : Int) - 1 - V2)).toNat, .inr ⟨hmu, V1, V2, ⟨g1, x1⟩, ⟨g2, y1⟩, (show V1 ≤ top' by omega), (show 0 ≤ V2 by omega), (show V2 < (mu' : Int) by omega), hr'⟩, ?_⟩
      rcases g6 with g6 | g6
      · rw [Bool.and_eq_true] at g6
        have l1 := Nat.le_of_ble_eq_true g6.1
        have l2 := Nat.le_of_ble_eq_true g6.2
        have hmono : (mu' : Int) * (top' - V1) ≤ (mu' : Int) * (top' - (k_iv K a1).1) := Int.mul_le_mul_of_nonneg_left (by omega) (by omega)
        have l2' : base' + 3 * ((mu' : Int) * (top' - (k_iv K a1).1) + (mu' : Int)).toNat + nfr + 1 ≤ base := l2
        exact ⟨by omega, .inl l1⟩
      · rw [Bool.and_eq_true, Bool.and_eq_true, Bool.and_eq_true, Bool.and_eq_true, Bool.and_eq_true, Bool.or_eq_true, Bool.and_eq_true, z_eq_iff, z_le_iff, z_le_iff, z_le_iff] at g6
        obtain ⟨q1, q2, q3, q4, q5, q6⟩ := g6
        have e1 := Nat.eq_of_beq_eq_true q1
        have e2 := Nat.eq_of_beq_eq_true q2
        have e3 := Nat.le_of_ble_eq_true q3
        have e4 := Nat.eq_of_beq_eq_true q4
        subst e1 e2 e4 q5
        rcases hr with ⟨z1, z2⟩ | ⟨-, W1, W2, ⟨w1, w2⟩, ⟨w3, w4⟩, w5, w6, w7, w8⟩
        · exact absurd z1 hmu
        · have d1 : W1 - V1 ≤ k_df K v1 a1 := k_df_ok hK w1 x2 w2 x3
          have d2 : W2 - V2 ≤ k_df K v2 a2 := k_df_ok hK w3 y2 w4 y3
          have w5' : W1 ≤ top' := w5
          have w7' : W2 < (mu' : Int) := w7
          have w8' : (r : Int) = (mu' : Int) * (top' - W1) + ((mu' : Int) - 1 - W2) := w8
          have hlt : (mu' : Int) * (top' - V1) + ((mu' : Int) - 1 - V2) < (mu' : Int) * (top' - W1) + ((mu' : Int) - 1 - W2) := by
            rcases q6 with q6 | ⟨q6, q7⟩
            · have hm1 : (mu' : Int) * (top' - V1) ≤ (mu' : Int) * (top' - W1 - 1) := Int.mul_le_mul_of_nonneg_left (by omega) (by omega)
              have hm2 : (mu' : Int) * (top' - W1 - 1) = (mu' : Int) * (top' - W1) - (mu' : Int) := by rw [Int.mul_sub, Int.mul_one]
              omega
            · have hm1 : (mu' : Int) * (top' - V1) ≤ (mu' : Int) * (top' - W1) := Int.mul_le_mul_of_nonneg_left (by omega) (by omega)
              omega
          exact ⟨by omega, .inr ⟨rfl, by omega⟩⟩
    next => cases h
/-- the state behind the call -/
def k_aft (Z : zDt) (c' : zKt) (K1 : sK) (C1 : sC) (m : List sV) (lv : sL) (rest : List sV) (al : Nat × Nat) : Option sD := match c_res K1 c'.2.1 with
  | some q => (match c_flds Z q.1 (c_kw Z.1 c'.2.2.2.1 C1) c'.1.2.1 with
    | some r => (match c_leP 1 (m ++ (q.2.1 :: r.2.2)) c'.2.2.1 r.1 with
      | some K4 => some (K4, r.2.1, lv, q.2.2 ++ rest, (al.1 + c'.2.2.2.2.1.1, al.2 + c'.2.2.2.2.1.2), none)
      | none => none)
    | none => none)
  | none => none
theorem dnL_app {vs : List Int} {w : mWd} : ∀ {a : List sV} {a' : List Value} {b : List sV} {b' : List Value}, dnL vs w a a' → dnL vs w b b' → dnL vs w (a ++ b) (a' ++ b')
  | [], [], _, _, _, h => h
  | _ :: _, _ :: _, _, _, h, h' => ⟨h.1, dnL_app h.2 h'⟩
  | [], _ :: _, _, _, h, _ => h.elim
  | _ :: _, [], _, _, h, _ => h.elim
theorem k_aft_ok {c' : zKt} {vs1 : List Int} {K1 : sK} {C1 : sC} {m : List sV} {V : List Int} {lv : sL} {l : mL} {rest : List sV} {rst : List Value} {al : Nat × Nat} {D' : sD} {v : Option Value} {w1 : mWd} (hW : gW Z wr w0 vs al none w) (hl : lvR vs w lv l) (hrest : dnL vs w rest rst) (hv1 : vL vs vs1) (hK : nK vs1 K1) (hC : cRL vs1 w C1) (hm : mvR vs1 m V) (hs : z_sub c'.2.2.2.1 wr = true) (hP : zPost Z c' w (0 :: V) v w1) (h : k_aft Z c' K1 C1 m lv rest al = some D') : ∃ vs', vL vs vs' ∧ w_le w w1 ∧ gD Z wr w0 vs' D' l (v.toList ++ rst) w1 := by
  obtain ⟨hg, R, Vp, hr, hf, hfa⟩ := hP
  have hwl := fR_le hg.2.1
  unfold k_aft at h
  split at h
  next q hq =>
    obtain ⟨vs2, u1, u2, u3, u4, u5⟩ := c_res_ok hK hr hq
    split at h
    next r hrr =>
      have hC2 : cRL vs2 w1 (c_kw Z.1 c'.2.2.2.1 C1) := cRL_up u1 (cRL_kw hW.1 hg.2.1 hC)
      obtain ⟨vs3, V3, t1, t2, t3, t4, t5⟩ := c_flds_ok hg.1 u2 hC2 hrr
      have := fvR_fun t5 hf
      subst this
      split at h
      next K4 hK4 =>
        cases h
        have hv3 := vL_trans hv1 (vL_trans u1 t1)
        have hmm : mvR vs3 (m ++ (q.2.1 :: r.2.2)) (V ++ (R :: V3)) := mvR_app (mvR_up (vL_trans u1 t1) hm) ⟨⟨u3, vN_up t1 u4⟩, t4⟩
        have h1 : 1 ≤ vs3.length := (List.getElem?_eq_some_iff.mp t2.1).1
        have e : vs3.take 1 = [0] := by
          match vs3, t2.1 with
          | x :: r, h0 =>
            simp at h0
            subst h0
            rfl
        have hK4' := c_leP_ok h1 hmm t2 (fun f hf => by
          rw [e]
          exact hfa f hf) hK4
        exact ⟨vs3, hv3, hwl, hK4', t3, lvR_up hv3 hwl hl, dnL_app (dnL_up t1 (w_le_refl w1) (u5 w1)) (dnL_up hv3 hwl hrest), gW_up hv3 (gW_call hW hs hg)⟩
      next => cases h
    next => cases h
  next => cases h
end CALL
