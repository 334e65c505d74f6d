/-! THE CHECKER'S NUMBERS: atoms with intervals, differences, values that one is not, quotients, sums -/
abbrev sV : Type := Nat × Nat × Int
abbrev kI : Type := List (Int × Int)
abbrev kF : Type := List (Nat × Nat × Int)
abbrev kN : Type := List (Nat × Int)
abbrev kD : Type := List (Nat × Nat × Int × Int)
abbrev kS : Type := List (sV × sV × Nat)
abbrev sK : Type := kI × kF × kN × kD × kS
def z_le (a b : Int) : Bool := match a, b with
  | .ofNat m, .ofNat n => Nat.ble m n
  | .ofNat _, .negSucc _ => false
  | .negSucc _, .ofNat _ => true
  | .negSucc m, .negSucc n => Nat.ble n m
theorem z_le_iff {a b : Int} : z_le a b = true ↔ a ≤ b := by
  match a, b with
  | .ofNat m, .ofNat n =>
    show Nat.ble m n = true ↔ (m : Int) ≤ (n : Int)
    rw [Nat.ble_eq]; omega
  | .ofNat m, .negSucc n =>
    show false = true ↔ (m : Int) ≤ Int.negSucc n
    simp only [Bool.false_eq_true, false_iff]; omega
  | .negSucc m, .ofNat n =>
    show true = true ↔ Int.negSucc m ≤ (n : Int)
    simp only [true_iff]; omega
  | .negSucc m, .negSucc n =>
    show Nat.ble n m = true ↔ Int.negSucc m ≤ Int.negSucc n
    rw [Nat.ble_eq]; omega
def z_eq (a b : Int) : Bool := match a, b with
  | .ofNat m, .ofNat n => Nat.beq m n
  | .negSucc m, .negSucc n => Nat.beq m n
  | _, _ => false
theorem z_eq_iff {a b : Int} : z_eq a b = true ↔ a = b := by
  cases a <;> cases b <;> simp [z_eq] <;> omega
def z_min (a b : Int) : Int := bif z_le a b then a else b
def z_max (a b : Int) : Int := bif z_le a b then b else a
theorem z_min_le {x a b : Int} (h1 : x ≤ a) (h2 : x ≤ b) : x ≤ z_min a b := by
  unfold z_min; cases z_le a b <;> assumption
theorem z_le_max {x a b : Int} (h1 : a ≤ x) (h2 : b ≤ x) : z_max a b ≤ x := by
  unfold z_max; cases z_le a b <;> assumption
theorem z_min_l {a b : Int} : z_min a b ≤ a := by
  unfold z_min
  cases h : z_le a b with
  | true => exact Int.le_refl a
  | false =>
    have : ¬ a ≤ b := fun h' => by rw [z_le_iff.mpr h'] at h; cases h
    simp only [cond_false]; omega
theorem z_min_r {a b : Int} : z_min a b ≤ b := by
  unfold z_min
  cases h : z_le a b with
  | true => exact z_le_iff.mp h
  | false => exact Int.le_refl b
def k_at : kI → Nat → Int × Int
  | [], _ => (0, 0)
  | b :: _, 0 => b
  | _ :: E, a + 1 => k_at E a
theorem k_at_app : ∀ (E : kI) (b : Int × Int) (a : Nat), k_at (E ++ [b]) a = if a < E.length then k_at E a else if a = E.length then b else (0, 0)
  | [], b, 0 => rfl
  | [], b, a + 1 => by simp [k_at]
  | c :: E, b, 0 => by simp [k_at]
  | c :: E, b, a + 1 => by
    simp only [List.cons_append, k_at, List.length_cons, k_at_app E b a, Nat.add_lt_add_iff_right, Nat.add_right_cancel_iff]
theorem k_at_set : ∀ (E : kI) (b : Int × Int) (i a : Nat), k_at (E.set i b) a = if a = i ∧ i < E.length then b else k_at E a
  | [], b, i, a => by simp [k_at]
  | c :: E, b, 0, 0 => by simp [k_at]
  | c :: E, b, 0, a + 1 => by simp [k_at]
  | c :: E, b, i + 1, 0 => by simp [k_at]
  | c :: E, b, i + 1, a + 1 => by
    simp only [List.set_cons_succ, k_at, List.length_cons, k_at_set E b i a, Nat.add_lt_add_iff_right, Nat.add_right_cancel_iff]
/-- what a store says of the atoms' values -/
def nK (vs : List Int) (K : sK) : Prop :=
  vs[0]? = some 0 ∧ K.1.length = vs.length ∧
  (∀ a x, vs[a]? = some x → (k_at K.1 a).1 ≤ x ∧ x ≤ (k_at K.1 a).2) ∧
  (∀ f ∈ K.2.1, ∃ x y, vs[f.1]? = some x ∧ vs[f.2.1]? = some y ∧ x - y ≤ f.2.2) ∧
  (∀ q ∈ K.2.2.1, ∃ x, vs[q.1]? = some x ∧ x ≠ q.2) ∧
  (∀ d ∈ K.2.2.2.1, ∃ x y, vs[d.1]? = some x ∧ vs[d.2.1]? = some y ∧ 0 < d.2.2.2 ∧ y + d.2.2.1 < (x + 1) * d.2.2.2) ∧
  (∀ s ∈ K.2.2.2.2, ∃ x y z, vs[s.1.2.1]? = some x ∧ vs[s.2.1.2.1]? = some y ∧ vs[s.2.2]? = some z ∧ z = (x + s.1.2.2) + (y + s.2.1.2.2))
def vL (vs vs' : List Int) : Prop := ∀ (a : Nat) (x : Int), vs[a]? = some x → vs'[a]? = some x
theorem vL_refl (vs : List Int) : vL vs vs := fun _ _ h => h
theorem vL_trans {a b c : List Int} (h1 : vL a b) (h2 : vL b c) : vL a c := fun i x h => h2 i x (h1 i x h)
theorem vL_app (vs es : List Int) : vL vs (vs ++ es) := fun a x h => by
  rw [List.getElem?_append_left (List.getElem?_eq_some_iff.mp h).1]; exact h
theorem vL_last (vs : List Int) (v : Int) : (vs ++ [v])[vs.length]? = some v := by simp
def k_new (K : sK) (lo hi : Int) : sK := (K.1 ++ [(lo, hi)], K.2)
section NUM
variable {vs : List Int} {K : sK}
theorem nK.len (h : nK vs K) : K.1.length = vs.length := h.2.1
theorem nK.at (h : nK vs K) {a : Nat} {x : Int} (hx : vs[a]? = some x) : (k_at K.1 a).1 ≤ x ∧ x ≤ (k_at K.1 a).2 := h.2.2.1 a x hx
theorem nK_new (h : nK vs K) {lo hi v : Int} (h1 : lo ≤ v) (h2 : v ≤ hi) : nK (vs ++ [v]) (k_new K lo hi) := by
  obtain ⟨h0, hl, hE, hF, hN, hD, hS⟩ := h
  have up := vL_app vs [v]
  refine ⟨up _ _ h0, by simp [k_new, hl], ?_, ?_, ?_, ?_, ?_⟩
  · intro a x hx
    show (k_at (K.1 ++ [(lo, hi)]) a).1 ≤ x ∧ x ≤ (k_at (K.1 ++ [(lo, hi)]) a).2
    rw [k_at_app]
    have hb := (List.getElem?_eq_some_iff.mp hx).1
    rw [List.length_append, List.length_singleton] at hb
    by_cases ha : a < K.1.length
    · rw [if_pos ha]
      refine hE a x ?_
      rw [List.getElem?_append_left (by omega)] at hx
      exact hx
    · have he : a = vs.length := by omega
      subst he
      rw [if_neg ha, if_pos hl.symm]
      rw [vL_last] at hx
      cases hx
      exact ⟨h1, h2⟩
  · intro f hf
    obtain ⟨x, y, a1, a2, a3⟩ := hF f hf
    exact ⟨x, y, up _ _ a1, up _ _ a2, a3⟩
  · intro q hq
    obtain ⟨x, a1, a2⟩ := hN q hq
    exact ⟨x, up _ _ a1, a2⟩
  · intro d hd
    obtain ⟨x, y, a1, a2, a3⟩ := hD d hd
    exact ⟨x, y, up _ _ a1, up _ _ a2, a3⟩
  · intro s hs
    obtain ⟨x, y, z, a1, a2, a3, a4⟩ := hS s hs
    exact ⟨x, y, z, up _ _ a1, up _ _ a2, up _ _ a3, a4⟩
end NUM
def k_chain (b q : Nat) (c : Int) : kF → Int → Int
  | [], m => m
  | f :: F, m => k_chain b q c F (bif (Nat.beq f.1 q && Nat.beq f.2.1 b) then z_min m (c + f.2.2) else m)
def k_dfF (E : kI) (F0 : kF) (a b : Nat) (lb : Int) : kF → Int → Int
  | [], m => m
  | f :: F, m => k_dfF E F0 a b lb F (bif Nat.beq f.1 a then (bif Nat.beq f.2.1 b then z_min m f.2.2 else k_chain b f.2.1 f.2.2 F0 (z_min m (f.2.2 + (k_at E f.2.1).2 - lb))) else m)
/-- a bound from above of the difference of two atoms -/
def k_diff (K : sK) (a b : Nat) : Int := k_dfF K.1 K.2.1 a b (k_at K.1 b).1 K.2.1 (bif Nat.beq a b then z_min ((k_at K.1 a).2 - (k_at K.1 b).1) 0 else (k_at K.1 a).2 - (k_at K.1 b).1)
theorem k_chain_ok {vs : List Int} {b q : Nat} {c z x y : Int} (hq : vs[q]? = some x) (hb : vs[b]? = some y) (hc : z - x ≤ c) : ∀ (F : kF) (m : Int), (∀ f ∈ F, ∃ x y, vs[f.1]? = some x ∧ vs[f.2.1]? = some y ∧ x - y ≤ f.2.2) → z - y ≤ m → z - y ≤ k_chain b q c F m
  | [], m, _, hm => hm
  | f :: F, m, hF, hm => by
    refine k_chain_ok hq hb hc F _ (fun g hg => hF g (List.mem_cons_of_mem _ hg)) ?_
    cases hbq : (Nat.beq f.1 q && Nat.beq f.2.1 b) with
    | false => exact hm
    | true =>
      rw [Bool.and_eq_true] at hbq
      have e1 := Nat.eq_of_beq_eq_true hbq.1
      have e2 := Nat.eq_of_beq_eq_true hbq.2
      obtain ⟨x', y', a1, a2, a3⟩ := hF f List.mem_cons_self
      rw [e1, hq] at a1
      rw [e2, hb] at a2
      cases a1
      cases a2
      exact z_min_le hm (by omega)
theorem k_dfF_ok {vs : List Int} {E : kI} {F0 : kF} {a b : Nat} {lb x y : Int} (ha : vs[a]? = some x) (hb : vs[b]? = some y) (hlb : lb ≤ y) (hE : ∀ a x, vs[a]? = some x → (k_at E a).1 ≤ x ∧ x ≤ (k_at E a).2) (hF0 : ∀ f ∈ F0, ∃ x y, vs[f.1]? = some x ∧ vs[f.2.1]? = some y ∧ x - y ≤ f.2.2) : ∀ (F : kF) (m : Int), (∀ f ∈ F, ∃ x y, vs[f.1]? = some x ∧ vs[f.2.1]? = some y ∧ x - y ≤ f.2.2) → x - y ≤ m → x - y ≤ k_dfF E F0 a b lb F m
  | [], m, _, hm => hm
  | f :: F, m, hF, hm => by
    refine k_dfF_ok ha hb hlb hE hF0 F _ (fun g hg => hF g (List.mem_cons_of_mem _ hg)) ?_
    cases h1 : Nat.beq f.1 a with
    | false => exact hm
    | true =>
      obtain ⟨x', y', a1, a2, a3⟩ := hF f List.mem_cons_self
      have e1 := Nat.eq_of_beq_eq_true h1
      rw [e1, ha] at a1
      cases a1
      cases h2 : Nat.beq f.2.1 b with
      | true =>
        have e2 := Nat.eq_of_beq_eq_true h2
        rw [e2, hb] at a2
        cases a2
        exact z_min_le hm a3
      | false =>
        refine k_chain_ok a2 hb a3 F0 _ hF0 ?_
        have := (hE _ _ a2).2
        exact z_min_le hm (by omega)
section NUM2
variable {vs : List Int} {K : sK}
theorem k_diff_ok (h : nK vs K) {a b : Nat} {x y : Int} (ha : vs[a]? = some x) (hb : vs[b]? = some y) : x - y ≤ k_diff K a b := by
  have hA := h.at ha
  have hB := h.at hb
  refine k_dfF_ok ha hb hB.1 h.2.2.1 h.2.2.2.1 _ _ h.2.2.2.1 ?_
  cases e : Nat.beq a b with
  | false => simp only [cond_false]; omega
  | true =>
    have := Nat.eq_of_beq_eq_true e
    subst this
    rw [ha] at hb
    cases hb
    exact z_min_le (by omega) (by omega)
end NUM2
def k_ref1 (K : sK) (a : Nat) (lo hi : Int) : Option sK := bif z_le (z_max (k_at K.1 a).1 lo) (z_min (k_at K.1 a).2 hi) then some (K.1.set a (z_max (k_at K.1 a).1 lo, z_min (k_at K.1 a).2 hi), K.2) else none
theorem k_ref1_ok {vs : List Int} {K : sK} (h : nK vs K) {a : Nat} {x lo hi : Int} (ha : vs[a]? = some x) (h1 : lo ≤ x) (h2 : x ≤ hi) : ∃ K', k_ref1 K a lo hi = some K' ∧ nK vs K' ∧ K'.2 = K.2 := by
  have hA := h.at ha
  have b1 : z_max (k_at K.1 a).1 lo ≤ x := z_le_max hA.1 h1
  have b2 : x ≤ z_min (k_at K.1 a).2 hi := z_min_le hA.2 h2
  refine ⟨(K.1.set a (z_max (k_at K.1 a).1 lo, z_min (k_at K.1 a).2 hi), K.2), ?_, ?_, rfl⟩
  · unfold k_ref1
    rw [z_le_iff.mpr (Int.le_trans b1 b2)]
    rfl
  · obtain ⟨h0, hl, hE, hR⟩ := h
    refine ⟨h0, by simp [hl], ?_, hR⟩
    intro c y hy
    show (k_at (K.1.set a _) c).1 ≤ y ∧ y ≤ (k_at (K.1.set a _) c).2
    rw [k_at_set]
    by_cases e : c = a ∧ a < K.1.length
    · rw [if_pos e]
      rw [e.1, ha] at hy
      cases hy
      exact ⟨b1, b2⟩
    · rw [if_neg e]
      exact hE c y hy
def k_refD (z : Nat) (h : Int) : kD → sK → Option sK
  | [], K => some K
  | d :: D, K => bif Nat.beq d.1 z then (match k_ref1 K d.2.1 (k_at K.1 d.2.1).1 ((h + 1) * d.2.2.2 - 1 - d.2.2.1) with
    | some K' => k_refD z h D K'
    | none => none) else k_refD z h D K
theorem k_refD_ok {vs : List Int} {z : Nat} {h x : Int} (hz : vs[z]? = some x) (hx : x ≤ h) : ∀ (D : kD) (K : sK), nK vs K → (∀ d ∈ D, ∃ x y, vs[d.1]? = some x ∧ vs[d.2.1]? = some y ∧ 0 < d.2.2.2 ∧ y + d.2.2.1 < (x + 1) * d.2.2.2) → ∃ K', k_refD z h D K = some K' ∧ nK vs K'
  | [], K, hK, _ => ⟨K, rfl, hK⟩
  | d :: D, K, hK, hD => by
    have ih := fun K hK => k_refD_ok hz hx D K hK (fun e he => hD e (List.mem_cons_of_mem _ he))
    unfold k_refD
    cases e : Nat.beq d.1 z with
    | false => exact ih K hK
    | true =>
      obtain ⟨x', y, a1, a2, a3, a4⟩ := hD d List.mem_cons_self
      rw [Nat.eq_of_beq_eq_true e, hz] at a1
      cases a1
      have hm : (x + 1) * d.2.2.2 ≤ (h + 1) * d.2.2.2 := Int.mul_le_mul_of_nonneg_right (by omega) (by omega)
      obtain ⟨K', e1, e2, -⟩ := k_ref1_ok hK (lo := (k_at K.1 d.2.1).1) (hi := (h + 1) * d.2.2.2 - 1 - d.2.2.1) a2 (hK.at a2).1 (by omega)
      simp only [cond_true, e1]
      exact ih K' e2
def k_ref (K : sK) (a : Nat) (lo hi : Int) : Option sK := match k_ref1 K a lo hi with
  | some K' => k_refD a (k_at K'.1 a).2 K'.2.2.2.1 K'
  | none => none
theorem k_ref_ok {vs : List Int} {K : sK} (h : nK vs K) {a : Nat} {x lo hi : Int} (ha : vs[a]? = some x) (h1 : lo ≤ x) (h2 : x ≤ hi) : ∃ K', k_ref K a lo hi = some K' ∧ nK vs K' := by
  obtain ⟨K', e1, e2, -⟩ := k_ref1_ok h ha h1 h2
  unfold k_ref
  rw [e1]
  exact k_refD_ok ha (e2.at ha).2 _ K' e2 e2.2.2.2.2.2.1
/-- what is known says that it can't be -/
def k_no (a b : Nat) (k : Int) : kF → Bool
  | [] => false
  | f :: F => bif (Nat.beq f.1 b && (Nat.beq f.2.1 a && z_le (f.2.2 + k) (-1))) then true else k_no a b k F
theorem k_no_ok {vs : List Int} {a b : Nat} {x y k : Int} (ha : vs[a]? = some x) (hb : vs[b]? = some y) (hk : x - y ≤ k) : ∀ {F : kF}, (∀ f ∈ F, ∃ x y, vs[f.1]? = some x ∧ vs[f.2.1]? = some y ∧ x - y ≤ f.2.2) → k_no a b k F = false
  | [], _ => rfl
  | f :: F, h => by
    unfold k_no
    cases e : (Nat.beq f.1 b && (Nat.beq f.2.1 a && z_le (f.2.2 + k) (-1))) with
    | false => exact k_no_ok ha hb hk (fun g hg => h g (List.mem_cons_of_mem _ hg))
    | true =>
      rw [Bool.and_eq_true, Bool.and_eq_true, z_le_iff] at e
      obtain ⟨u, v, h1, h2, h3⟩ := h f List.mem_cons_self
      rw [Nat.eq_of_beq_eq_true e.1, hb] at h1
      rw [Nat.eq_of_beq_eq_true e.2.1, ha] at h2
      cases h1
      cases h2
      have := e.2.2
      omega
/-- atom a less atom b is at most k -/
def k_leA (K : sK) (a b : Nat) (k : Int) : Option sK := bif k_no a b k K.2.1 then none else (match k_ref K a (k_at K.1 a).1 ((k_at K.1 b).2 + k) with
  | some K1 => (match k_ref K1 b ((k_at K.1 a).1 - k) (k_at K.1 b).2 with
    | some K2 => some (bif (Nat.beq a b || (Nat.beq a 0 || Nat.beq b 0)) then K2 else (K2.1, (a, b, k) :: K2.2.1, K2.2.2))
    | none => none)
  | none => none)
theorem k_leA_ok {vs : List Int} {K : sK} (h : nK vs K) {a b : Nat} {x y k : Int} (ha : vs[a]? = some x) (hb : vs[b]? = some y) (hk : x - y ≤ k) : ∃ K', k_leA K a b k = some K' ∧ nK vs K' := by
  have hA := h.at ha
  have hB := h.at hb
  obtain ⟨K1, e1, n1⟩ := k_ref_ok h (lo := (k_at K.1 a).1) (hi := (k_at K.1 b).2 + k) ha hA.1 (by omega)
  obtain ⟨K2, e2, n2⟩ := k_ref_ok n1 (lo := (k_at K.1 a).1 - k) (hi := (k_at K.1 b).2) hb (by omega) hB.2
  unfold k_leA
  rw [k_no_ok ha hb hk h.2.2.2.1]
  simp only [cond_false, e1, e2]
  refine ⟨_, rfl, ?_⟩
  cases (Nat.beq a b || (Nat.beq a 0 || Nat.beq b 0)) with
  | true => exact n2
  | false =>
    obtain ⟨h0, hl, hE, hF, hR⟩ := n2
    refine ⟨h0, hl, hE, ?_, hR⟩
    intro f hf
    rcases List.mem_cons.mp hf with rfl | hf
    · exact ⟨x, y, ha, hb, hk⟩
    · exact hF f hf
def k_le (K : sK) (x y : sV) (c : Int) : Option sK := k_leA K x.2.1 y.2.1 (c - x.2.2 + y.2.2)
def k_ne (K : sK) (a : Nat) (v : Int) : Option sK := bif z_eq (k_at K.1 a).1 v then k_ref K a (v + 1) (k_at K.1 a).2 else (bif z_eq (k_at K.1 a).2 v then k_ref K a (k_at K.1 a).1 (v - 1) else some (K.1, K.2.1, (a, v) :: K.2.2.1, K.2.2.2))
theorem k_ne_ok {vs : List Int} {K : sK} (h : nK vs K) {a : Nat} {x v : Int} (ha : vs[a]? = some x) (hk : x ≠ v) : ∃ K', k_ne K a v = some K' ∧ nK vs K' := by
  have hA := h.at ha
  unfold k_ne
  cases e1 : z_eq (k_at K.1 a).1 v with
  | true =>
    have := z_eq_iff.mp e1
    exact k_ref_ok h ha (by omega) hA.2
  | false =>
    cases e2 : z_eq (k_at K.1 a).2 v with
    | true =>
      have := z_eq_iff.mp e2
      exact k_ref_ok h ha hA.1 (by omega)
    | false =>
      refine ⟨_, rfl, ?_⟩
      obtain ⟨h0, hl, hE, hF, hN, hR⟩ := h
      refine ⟨h0, hl, hE, hF, ?_, hR⟩
      intro f hf
      rcases List.mem_cons.mp hf with rfl | hf
      · exact ⟨x, ha, hk⟩
      · exact hN f hf
/-- a value's number: an atom and so much; of kind 7 seven times the atom -/
def vN (vs : List Int) (s : sV) (X : Int) : Prop := ∃ u, vs[s.2.1]? = some u ∧ X = (bif Nat.beq s.1 7 then 7 * u else u) + s.2.2
def k_iv (K : sK) (s : sV) : Int × Int := bif Nat.beq s.1 7 then (7 * (k_at K.1 s.2.1).1 + s.2.2, 7 * (k_at K.1 s.2.1).2 + s.2.2) else ((k_at K.1 s.2.1).1 + s.2.2, (k_at K.1 s.2.1).2 + s.2.2)
def k_df (K : sK) (x y : sV) : Int := k_diff K x.2.1 y.2.1 + x.2.2 - y.2.2
def n7 (s : sV) : Bool := !(Nat.beq s.1 7)
section NUM3
variable {vs : List Int} {K : sK} {s x y : sV} {X Y : Int}
theorem k_iv_ok (h : nK vs K) (hx : vN vs s X) : (k_iv K s).1 ≤ X ∧ X ≤ (k_iv K s).2 := by
  obtain ⟨u, hu, rfl⟩ := hx
  have hA := h.at hu
  unfold k_iv
  cases Nat.beq s.1 7 <;> simp only [cond_true, cond_false] <;> omega
theorem vN_n7 (h7 : n7 s = true) (hx : vN vs s X) : ∃ u, vs[s.2.1]? = some u ∧ X = u + s.2.2 := by
  obtain ⟨u, hu, hX⟩ := hx
  unfold n7 at h7
  rw [Bool.not_eq_true'] at h7
  rw [h7] at hX
  exact ⟨u, hu, hX⟩
theorem k_df_ok (h : nK vs K) (hx7 : n7 x = true) (hy7 : n7 y = true) (hx : vN vs x X) (hy : vN vs y Y) : X - Y ≤ k_df K x y := by
  obtain ⟨u, hu, rfl⟩ := vN_n7 hx7 hx
  obtain ⟨v, hv, rfl⟩ := vN_n7 hy7 hy
  have := k_diff_ok h hu hv
  unfold k_df
  omega
theorem k_le_ok (h : nK vs K) (hx7 : n7 x = true) (hy7 : n7 y = true) (hx : vN vs x X) (hy : vN vs y Y) {c : Int} (hc : X - Y ≤ c) : ∃ K', k_le K x y c = some K' ∧ nK vs K' := by
  obtain ⟨u, hu, rfl⟩ := vN_n7 hx7 hx
  obtain ⟨v, hv, rfl⟩ := vN_n7 hy7 hy
  exact k_leA_ok h hu hv (by omega)
theorem vN_up {vs' : List Int} (hv : vL vs vs') (hx : vN vs s X) : vN vs' s X := by
  obtain ⟨u, hu, h⟩ := hx
  exact ⟨u, hv _ _ hu, h⟩
end NUM3
def k_single (b : Int × Int) : Bool := z_eq b.1 b.2
/-- so is x to y: what follows, or none if it can't be -/
def k_asm (K : sK) (cd : Jvm.ClassFile.Cond) (x y : sV) : Option sK := match cd with
  | .lt => k_le K x y (-1)
  | .le => k_le K x y 0
  | .gt => k_le K y x (-1)
  | .ge => k_le K y x 0
  | .eq => (match k_le K x y 0 with
    | some K1 => k_le K1 y x 0
    | none => none)
  | .ne => bif k_single (k_iv K y) then k_ne K x.2.1 ((k_iv K y).1 - x.2.2) else (bif k_single (k_iv K x) then k_ne K y.2.1 ((k_iv K x).1 - y.2.2) else (bif z_le (k_df K x y) 0 then k_le K x y (-1) else (bif z_le (k_df K y x) 0 then k_le K y x (-1) else some K)))
def z_hold (cd : Jvm.ClassFile.Cond) (X Y : Int) : Prop := match cd with
  | .lt => X < Y
  | .le => X ≤ Y
  | .gt => Y < X
  | .ge => Y ≤ X
  | .eq => X = Y
  | .ne => X ≠ Y
theorem k_asm_ok {vs : List Int} {K : sK} {x y : sV} {X Y : Int} {cd : Jvm.ClassFile.Cond} (h : nK vs K) (hx7 : n7 x = true) (hy7 : n7 y = true) (hx : vN vs x X) (hy : vN vs y Y) (hc : z_hold cd X Y) : ∃ K', k_asm K cd x y = some K' ∧ nK vs K' := by
  cases cd with
  | lt => exact k_le_ok h hx7 hy7 hx hy (by simp only [z_hold] at hc; omega)
  | le => exact k_le_ok h hx7 hy7 hx hy (by simp only [z_hold] at hc; omega)
  | gt => exact k_le_ok h hy7 hx7 hy hx (by simp only [z_hold] at hc; omega)
  | ge => exact k_le_ok h hy7 hx7 hy hx (by simp only [z_hold] at hc; omega)
  | eq =>
    simp only [z_hold] at hc
    obtain ⟨K1, e1, n1⟩ := k_le_ok h hx7 hy7 hx hy (c := 0) (by omega)
    simp only [k_asm, e1]
    exact k_le_ok n1 hy7 hx7 hy hx (by omega)
  | ne =>
    simp only [z_hold] at hc
    have hX := k_iv_ok h hx
    have hY := k_iv_ok h hy
    simp only [k_asm]
    cases e1 : k_single (k_iv K y) with
    | true =>
      have := z_eq_iff.mp e1
      obtain ⟨u, hu, rfl⟩ := vN_n7 hx7 hx
      exact k_ne_ok h hu (by omega)
    | false =>
      cases e2 : k_single (k_iv K x) with
      | true =>
        have := z_eq_iff.mp e2
        obtain ⟨u, hu, rfl⟩ := vN_n7 hy7 hy
        exact k_ne_ok h hu (by omega)
      | false =>
        cases e3 : z_le (k_df K x y) 0 with
        | true =>
          have := z_le_iff.mp e3
          have := k_df_ok h hx7 hy7 hx hy
          exact k_le_ok h hx7 hy7 hx hy (by omega)
        | false =>
          cases e4 : z_le (k_df K y x) 0 with
          | true =>
            have := z_le_iff.mp e4
            have := k_df_ok h hy7 hx7 hy hx
            exact k_le_ok h hy7 hx7 hy hx (by omega)
          | false => exact ⟨K, rfl, h⟩
/-- the value is not 0 -/
def k_nz (K : sK) (x : sV) : Bool := z_le 1 (k_iv K x).1 || (z_le (k_iv K x).2 (-1) || (n7 x && K.2.2.1.any (fun q => Nat.beq q.1 x.2.1 && z_eq q.2 (-x.2.2))))
theorem k_nz_ok {vs : List Int} {K : sK} {x : sV} {X : Int} (h : nK vs K) (hx : vN vs x X) (hz : k_nz K x = true) : X ≠ 0 := by
  have hX := k_iv_ok h hx
  unfold k_nz at hz
  rw [Bool.or_eq_true, Bool.or_eq_true, Bool.and_eq_true] at hz
  rcases hz with hz | hz | ⟨h7, hz⟩
  · have := z_le_iff.mp hz; omega
  · have := z_le_iff.mp hz; omega
  · obtain ⟨q, hq, hq2⟩ := List.any_eq_true.mp hz
    rw [Bool.and_eq_true] at hq2
    have e1 := Nat.eq_of_beq_eq_true hq2.1
    have e2 := z_eq_iff.mp hq2.2
    obtain ⟨u, hu, rfl⟩ := vN_n7 h7 hx
    obtain ⟨v, hv, hne⟩ := h.2.2.2.2.1 q hq
    rw [e1, hu] at hv
    cases hv
    omega
