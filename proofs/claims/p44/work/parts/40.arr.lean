/-! A STEP OF THE CHECKER: arrays -/
/-- the outer cells of the class: contents -/
def h_xt (k : Nat) : List Int := match k with
  | 1 => [-1, 0, 0, 2, 0, 2, 4]
  | 2 => [10, 0, 30, 0, 0, 60, 0, 11, 20, 0, 0, 50, 0, 70, 12, 0, 0, 40, 0, 61, 0]
  | 3 => [100, 30, 0, 99999999, 0]
  | 5 => [107, 115, 99, 101, 108, 114, 121, 112, 110, 106]
  | _ => []
def h_xo (k : Nat) : Nat := bif Nat.beq k 5 then 1 else 0
theorem h_xt1 : ∀ j, j < 7 → (h_xt 1)[j]? = some ((([-1, 0, 0, 2, 0, 2, 4] : List Int32).getD j 0).toInt) := by decide
theorem h_xt2 : ∀ j, j < 21 → (h_xt 2)[j]? = some ((([10, 0, 30, 0, 0, 60, 0, 11, 20, 0, 0, 50, 0, 70, 12, 0, 0, 40, 0, 61, 0] : List Int32).getD j 0).toInt) := by decide
theorem h_xt3 : ∀ j, j < 5 → (h_xt 3)[j]? = some ((([100, 30, 0, 99999999, 0] : List Int32).getD j 0).toInt) := by decide
theorem h_xt5 : ∀ j, j < 10 → (h_xt 5)[j]? = some ((([107, 115, 99, 101, 108, 114, 121, 112, 110, 106] : List Int32).getD j 0).toInt) := by decide
theorem h_xt_ok {L k n : Nat} {xs : Nat → Int32} (hn : (h_xt k).length = n) (h0 : 0 < n) : ∃ t f, pgX L xs k = some (t, n, f) ∧ ((h_xo k = 0 ∧ t = 0) ∨ (h_xo k = 1 ∧ t = 5)) ∧ ∀ j, j < n → (h_xt k)[j]? = some (f j).toInt := by
  match k with
  | 0 => simp [h_xt] at hn; omega
  | 1 => subst hn; exact ⟨0, _, rfl, .inl ⟨rfl, rfl⟩, h_xt1⟩
  | 2 => subst hn; exact ⟨0, _, rfl, .inl ⟨rfl, rfl⟩, h_xt2⟩
  | 3 => subst hn; exact ⟨0, _, rfl, .inl ⟨rfl, rfl⟩, h_xt3⟩
  | 4 => simp [h_xt] at hn; omega
  | 5 => subst hn; exact ⟨5, _, rfl, .inr ⟨rfl, rfl⟩, h_xt5⟩
  | k + 6 => simp [h_xt] at hn; omega
theorem m_nb_ok {j : Int32} {n : Nat} (h0 : 0 ≤ j.toInt) (h1 : j.toInt < n) : m_in j n = true ∧ (j.toNatClampNeg : Int) = j.toInt ∧ j.toNatClampNeg < n ∧ j.toNatClampNeg = j.toInt.toNat := by
  have e : j.toNatClampNeg = j.toInt.toNat := rfl
  refine ⟨?_, by omega, by omega, e⟩
  unfold m_in
  rw [decide_eq_true_eq]
  intro h
  rcases h with h | h
  · have := Int32.lt_iff_toInt_lt.mp h
    have e0 : (0 : Int32).toInt = 0 := by decide
    omega
  · omega
def z_lo : List Int → Int
  | [] => 0
  | [x] => x
  | x :: y :: r => z_min x (z_lo (y :: r))
def z_hi : List Int → Int
  | [] => 0
  | [x] => x
  | x :: y :: r => z_max x (z_hi (y :: r))
theorem z_lohi : ∀ {l : List Int} {z : Int}, z ∈ l → z_lo l ≤ z ∧ z ≤ z_hi l
  | [x], z, h => by
    rw [List.mem_singleton] at h
    subst h
    exact ⟨Int.le_refl _, Int.le_refl _⟩
  | x :: y :: r, z, h => by
    unfold z_lo z_hi
    rcases List.mem_cons.mp h with rfl | h
    · exact ⟨z_min_l, z_max_l⟩
    · have := z_lohi h
      exact ⟨Int.le_trans z_min_r this.1, Int.le_trans this.2 z_max_r⟩
section ARR
variable {Z : zDt} {wr : zWr} {w0 w : mWd} {vs : List Int} {K : sK} {C : sC} {lv : sL} {ss : List sV} {al : Nat × Nat} {wk : Option sV} {l : mL} {st : List Value} {out : List sN} {L mid pc : Nat} {xs : Nat → Int32}
def k_nb (K : sK) (j : sV) (n : Nat) : Bool := k_tg 0 j && (z_le 0 (k_iv K j).1 && z_le (k_iv K j).2 (Int.ofNat n - 1))
theorem k_nb_ok {j : sV} {n : Nat} {v : Value} (h : nK vs K) (hd : dn vs w j v) (hb : k_nb K j n = true) : ∃ i : Int32, v = .int i ∧ vN vs j i.toInt ∧ 0 ≤ i.toInt ∧ i.toInt < n := by
  unfold k_nb at hb
  rw [Bool.and_eq_true, Bool.and_eq_true, z_le_iff, z_le_iff] at hb
  obtain ⟨i, hi, hN⟩ := dn_int hd hb.1
  have b := k_iv_ok h hN
  have h2 : (k_iv K j).2 ≤ (n : Int) - 1 := hb.2.2
  exact ⟨i, hi, hN, by omega, by omega⟩
/-- the spec of the element: of the seven by the index; of who gets it by the kind -/
def h_es (W : List (Int × Int)) (b : Bool) (K : sK) (C : sC) (j : sV) (e : zSp) : Option zSp := bif Nat.beq e.1 7 then (bif Nat.beq j.1 7 then (bif (z_eq (j.2.2 % 7) 4) then (match c_get C (2, z_KC, (0, j.2.1, j.2.2 / 7)) with
    | some kv => bif (b && (Nat.beq kv.1 0 && (k_single (k_iv K kv) && (z_eq (k_iv K kv).1 2 || (z_eq (k_iv K kv).1 3 || z_eq (k_iv K kv).1 5))))) then some (0, (W.getD 4 (0, 0)).1, 19) else some (0, W.getD 4 (0, 0))
    | none => some (0, W.getD 4 (0, 0))) else some (0, W.getD (j.2.2 % 7).toNat (0, 0))) else none) else some e
/-- which code of load a cell's type has -/
def h_o (o t : Nat) : Bool := match o with
  | 0 => Nat.beq t 0
  | 1 => Nat.beq t 1
  | 2 => Nat.beq t 2
  | _ => Nat.beq t 3 || Nat.beq t 4
theorem shp_of {t n : Nat} {a : zCt} (h : shp (.inl (t, n, a)) = (z_kd t, t, n)) : (z_kd t = 0 → ∃ f, a = .inl f) ∧ (z_kd t = 1 → ∃ f, a = .inr (.inl f)) ∧ (z_kd t = 4 → ∃ f, a = .inr (.inr (.inr (.inr f)))) := by
  match a with
  | .inl f => exact ⟨fun _ => ⟨f, rfl⟩, fun e => by rw [e] at h; simp [shp] at h, fun e => by rw [e] at h; simp [shp] at h⟩
  | .inr (.inl f) => exact ⟨fun e => by rw [e] at h; simp [shp] at h, fun _ => ⟨f, rfl⟩, fun e => by rw [e] at h; simp [shp] at h⟩
  | .inr (.inr (.inl f)) => exact ⟨fun e => by rw [e] at h; simp [shp] at h, fun e => by rw [e] at h; simp [shp] at h, fun e => by rw [e] at h; simp [shp] at h⟩
  | .inr (.inr (.inr (.inl f))) => exact ⟨fun e => by rw [e] at h; simp [shp] at h, fun e => by rw [e] at h; simp [shp] at h, fun e => by rw [e] at h; simp [shp] at h⟩
  | .inr (.inr (.inr (.inr f))) => exact ⟨fun e => by rw [e] at h; simp [shp] at h, fun e => by rw [e] at h; simp [shp] at h, fun _ => ⟨f, rfl⟩⟩
theorem m_ald_ok {o t n i : Nat} {a : zCt} {j : Int32} (ho : h_o o t = true) (ho3 : o ≤ 3) (hi : w[i]? = some (.inl (t, n, a))) (hs : shp (.inl (t, n, a)) = (z_kd t, t, n)) (h0 : 0 ≤ j.toInt) (h1 : j.toInt < n) : m_ald o i j w = some (m_el a j.toInt.toNat) := by
  obtain ⟨m1, m2, m3, m4⟩ := m_nb_ok h0 h1
  obtain ⟨s0, s1, s4⟩ := shp_of hs
  match o, ho, ho3 with
  | 0, ho, _ =>
    have := Nat.eq_of_beq_eq_true ho
    subst this
    obtain ⟨f, rfl⟩ := s0 rfl
    have e : m_ald 0 i j w = (if m_in j n = true ∧ 0 = 0 ∧ 0 < 2 then some (.int (f j.toNatClampNeg)) else none) := by unfold m_ald; rw [hi]
    rw [e, if_pos ⟨m1, rfl, by decide⟩, m4]
    rfl
  | 1, ho, _ =>
    have := Nat.eq_of_beq_eq_true ho
    subst this
    obtain ⟨f, rfl⟩ := s0 rfl
    have e : m_ald 1 i j w = (if m_in j n = true ∧ 1 = 1 ∧ 1 < 2 then some (.int (f j.toNatClampNeg)) else none) := by unfold m_ald; rw [hi]
    rw [e, if_pos ⟨m1, rfl, by decide⟩, m4]
    rfl
  | 2, ho, _ =>
    have := Nat.eq_of_beq_eq_true ho
    subst this
    obtain ⟨f, rfl⟩ := s1 rfl
    have e : m_ald 2 i j w = (if m_in j n = true ∧ 2 = 2 ∧ 2 = 2 then some (.long (f j.toNatClampNeg)) else none) := by unfold m_ald; rw [hi]
    rw [e, if_pos ⟨m1, rfl, rfl⟩, m4]
    rfl
  | 3, ho, _ =>
    simp only [h_o, Bool.or_eq_true] at ho
    have ht : t = 3 ∨ t = 4 := by
      rcases ho with ho | ho
      · exact .inl (Nat.eq_of_beq_eq_true ho)
      · exact .inr (Nat.eq_of_beq_eq_true ho)
    have hz : z_kd t = 4 := by rcases ht with rfl | rfl <;> rfl
    obtain ⟨f, rfl⟩ := s4 hz
    have e : m_ald 3 i j w = (if m_in j n = true ∧ 3 = 3 ∧ (t = 3 ∨ t = 4) then some (m_opt f j.toNatClampNeg) else none) := by unfold m_ald; rw [hi]
    rw [e, if_pos ⟨m1, rfl, ht⟩, m4]
    rfl
theorem h_es_ok {b0 : Bool} {j : sV} {J : Int} {e sp : zSp} {i t n : Nat} {a : zCt} (hC : cRL vs w C) (hK : nK vs K) (hk : b0 = true → wkR vs none w) (hi : w[i]? = some (.inl (t, n, a))) (hs : shp (.inl (t, n, a)) = (z_kd t, t, n)) (hj : vN vs j J) (h0 : 0 ≤ J) (he : Nat.beq e.1 7 = true → i = z_WC ∧ t = 0 ∧ J < 1050) (hv : okV w (z_es Z.2.2 e J.toNat) (m_el a J.toNat)) (ho : h_es Z.2.2 b0 K C j e = some sp) : okV w sp (m_el a J.toNat) := by
  unfold h_es at ho
  unfold z_es at hv
  cases e7 : Nat.beq e.1 7 with
  | false =>
    rw [e7] at ho hv
    cases ho
    exact hv
  | true =>
    rw [e7] at ho hv
    obtain ⟨hiW, ht, hJb⟩ := he e7
    subst hiW ht
    simp only [cond_true] at ho hv
    cases ej : Nat.beq j.1 7 with
    | false => rw [ej] at ho; cases ho
    | true =>
      rw [ej] at ho
      simp only [cond_true] at ho
      obtain ⟨u, hu, hJ⟩ := hj
      rw [ej] at hJ
      simp only [cond_true] at hJ
      have hmod : J.toNat % 7 = (j.2.2 % 7).toNat := by omega
      rw [hmod] at hv
      cases e4 : z_eq (j.2.2 % 7) 4 with
      | false =>
        rw [e4] at ho
        cases ho
        exact hv
      | true =>
        rw [e4] at ho
        have e4' := z_eq_iff.mp e4
        rw [show (j.2.2 % 7).toNat = 4 by omega] at hv
        simp only [cond_true] at ho
        split at ho
        next kv hkv =>
          cases e5 : (b0 && (Nat.beq kv.1 0 && (k_single (k_iv K kv) && (z_eq (k_iv K kv).1 2 || (z_eq (k_iv K kv).1 3 || z_eq (k_iv K kv).1 5))))) with
          | false =>
            rw [e5] at ho
            cases ho
            exact hv
          | true =>
            rw [e5] at ho
            cases ho
            rw [Bool.and_eq_true, Bool.and_eq_true, Bool.and_eq_true, Bool.or_eq_true, Bool.or_eq_true, z_eq_iff, z_eq_iff, z_eq_iff] at e5
            obtain ⟨k0, k1, k2, k3⟩ := e5
            have k2 := z_sgl k2
            obtain ⟨f, rfl⟩ := (shp_of hs).1 rfl
            obtain ⟨i', hi', lo', hi''⟩ := hv
            have hkc := c_get_ok hC hkv
            obtain ⟨t', n', b, J', c1, c2, c3, c4⟩ := hkc
            have c1' : w[z_KC]? = some (.inl (t', n', b)) := c1
            obtain ⟨u', hu', hJ'⟩ := c2
            have hu'' : vs[j.2.1]? = some u' := hu'
            rw [hu] at hu''
            cases hu''
            have hJ'' : J' = u + j.2.2 / 7 := hJ'
            obtain ⟨kk, hkk, hN⟩ := dn_int c4 (by unfold k_tg; rw [k1]; rfl)
            have bk : (k_iv K kv).1 ≤ kk.toInt ∧ kk.toInt ≤ (k_iv K kv).2 := k_iv_ok hK hN
            match b, hkk, c1' with
            | .inl g, hkk, c1' =>
              have hkk' : Value.int (g J'.toNat) = Value.int kk := hkk
              cases hkk'
              obtain ⟨K0, _, hr⟩ := hk k0
              have hi2 : Value.int (f J.toNat) = Value.int i' := hi'
              cases hi2
              refine ⟨_, hi', lo', ?_⟩
              have hq := hr g f _ _ _ _ c1' hi J'.toNat (by omega) (.inl rfl) (by omega)
              have hJ7 : J.toNat = 7 * J'.toNat + 4 := by omega
              rw [hJ7]
              exact hq
            | .inr (.inl g), hkk, _ => cases hkk
            | .inr (.inr (.inl g)), hkk, _ => cases hkk
            | .inr (.inr (.inr (.inl g))), hkk, _ => cases hkk
            | .inr (.inr (.inr (.inr g))), hkk, _ =>
              have hkk' : m_opt g J'.toNat = Value.int kk := hkk
              unfold m_opt at hkk'
              split at hkk' <;> cases hkk'
        next =>
          cases ho
          exact hv
end ARR
