/-! the pairs of this part, and what is equal at the start of every round -/
def zPF : zRF := [((1, 3), (69, 7)), ((5, 6), (69, 11))]
def zPA : zRA := [(6, 76)]
def zPS : List zPr := [(101, 164, 1, false, [], [(5, 3), (12, 7), (98, 2), (98, 73)], (0, 0), none, none), (103, 167, 2, false, [], [(4, 6), (12, 11), (98, 6), (98, 7), (98, 76), (98, 77)], (0, 0), none, none), (104, 168, 2, true, [], [(98, 6), (98, 76)], (0, 0), none, none)]
theorem zPS_t : zPS.all (fun p => pairB zZ zT zPF zPA p 2000) = true := by decide +kernel
theorem zPS_ok {L : Nat} {xs : Nat → Int32} {d : Nat} (hd : 700 ≤ d) : ∀ p ∈ zPS, ∀ (w : mWd) (as : List Int32), WI zZ w → wkR [] none w → RI zPF zPA w → as.length = p.2.2.1 → Rn L xs d p.1 0 (lv_args 0 (.ref 0 :: as.map Value.int)) [] w (fun v w1 => WI zZ w1 ∧ Rn L xs d p.2.1 0 (lv_args 0 (.ref 69 :: as.map Value.int)) [] w1 (fun v2 w2 => prQ2 zZ zPF zPA p w v v2 w2)) := by
  intro p hp w as hW hk hR hl
  exact pair_ok zN_ok z_all (List.all_eq_true.mp zPS_t p hp) hW hk hR hl hd
/-- they are equal in a given world -/
def b_veq : Value → Value → Bool
  | .int x, .int y => z_eq x.toInt y.toInt
  | _, _ => false
theorem b_veq_ok {u v : Value} (h : b_veq u v = true) : ∃ x : Int32, u = .int x ∧ v = .int x := by
  unfold b_veq at h
  split at h
  next x y => exact ⟨x, rfl, by rw [Int32.toInt_inj.mp (z_eq_iff.mp h)]⟩
  next => cases h
def b_rf (w : mWd) (p : (Nat × Nat) × (Nat × Nat)) : Bool := (Nat.blt p.1.1 129 && Nat.blt p.2.1 129) && (match w[p.1.1]?, w[p.2.1]? with
  | some (.inr (_, fs)), some (.inr (_, gs)) => (match fs[p.1.2]?, gs[p.2.2]? with
    | some u, some v => b_veq u v
    | _, _ => false)
  | _, _ => false)
theorem b_rf_ok {w : mWd} {p : (Nat × Nat) × (Nat × Nat)} (h : b_rf w p = true) : rF w p := by
  unfold b_rf at h
  rw [Bool.and_eq_true, Bool.and_eq_true] at h
  obtain ⟨⟨l1, l2⟩, h⟩ := h
  split at h
  next ci fs cj gs h1 h2 =>
    split at h
    next u v h3 h4 =>
      obtain ⟨x, rfl, rfl⟩ := b_veq_ok h
      exact ⟨⟨Nat.le_of_ble_eq_true l1, Nat.le_of_ble_eq_true l2⟩, ci, cj, fs, gs, x, h1, h3, h2, h4⟩
    next => cases h
  next => cases h
def b_rel (a b : zCt) : Nat → Bool
  | 0 => true
  | n + 1 => b_veq (m_el a n) (m_el b n) && b_rel a b n
theorem b_rel_ok {a b : zCt} : ∀ {n : Nat}, b_rel a b n = true → ∀ j, j < n → m_el a j = m_el b j
  | 0, _, j, hj => by omega
  | n + 1, h, j, hj => by
    unfold b_rel at h
    rw [Bool.and_eq_true] at h
    by_cases e : j = n
    · subst e
      obtain ⟨x, h1, h2⟩ := b_veq_ok h.1
      rw [h1, h2]
    · exact b_rel_ok h.2 j (by omega)
def b_ra (w : mWd) (p : Nat × Nat) : Bool := match w[p.1]?, w[p.2]? with
  | some (.inl (_, n, a)), some (.inl (_, n', b)) => Nat.beq n n' && b_rel a b n
  | _, _ => false
theorem b_ra_ok {w : mWd} {p : Nat × Nat} (h : b_ra w p = true) : rA w p := by
  unfold b_ra at h
  split at h
  next t n a t' n' b h1 h2 =>
    rw [Bool.and_eq_true] at h
    have e := Nat.eq_of_beq_eq_true h.1
    subst e
    exact ⟨t, n, a, t', b, h1, h2, b_rel_ok h.2⟩
  next => cases h
def b_RI (F : zRF) (A : zRA) (w : mWd) : Bool := F.all (b_rf w) && A.all (b_ra w)
theorem b_RI_ok {F : zRF} {A : zRA} {w : mWd} (h : b_RI F A w = true) : RI F A w := by
  unfold b_RI at h
  rw [Bool.and_eq_true] at h
  exact ⟨fun p hp => b_rf_ok (List.all_eq_true.mp h.1 p hp), fun p hp => b_ra_ok (List.all_eq_true.mp h.2 p hp)⟩
