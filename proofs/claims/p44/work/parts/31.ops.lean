/-! THE CHECKER'S OPERATIONS on numbers -/
def z_mn (t : Nat) : Int := bif Nat.beq t 1 then -9223372036854775808 else -2147483648
def z_mx (t : Nat) : Int := bif Nat.beq t 1 then 9223372036854775807 else 2147483647
def z_in (t : Nat) (lo hi : Int) : Bool := z_le (z_mn t) lo && z_le hi (z_mx t)
theorem z_in_iff {t : Nat} {lo hi : Int} : z_in t lo hi = true ↔ z_mn t ≤ lo ∧ hi ≤ z_mx t := by
  unfold z_in; rw [Bool.and_eq_true, z_le_iff, z_le_iff]
def z_rg (t : Nat) (Z : Int) : Prop := z_mn t ≤ Z ∧ Z ≤ z_mx t
/-- may a value be an int (t 0) or a long (t 1) -/
def k_tg (t : Nat) (s : sV) : Bool := bif Nat.beq t 0 then (Nat.beq s.1 0 || Nat.beq s.1 7) else Nat.beq s.1 1
def opR (o t : Nat) (X Y Z : Int) : Prop := z_rg t Z ∧ (match o with
  | 0 => z_rg t (X + Y) → Z = X + Y
  | 1 => z_rg t (X - Y) → Z = X - Y
  | 2 => z_rg t (X * Y) → Z = X * Y
  | 3 => 0 ≤ X → 0 < Y → Z = X / Y
  | 4 => 0 ≤ X → 0 < Y → Z = X % Y
  | 5 => (0 ≤ X → 0 ≤ Z ∧ Z ≤ X) ∧ (0 ≤ Y → 0 ≤ Z ∧ Z ≤ Y)
  | 6 => 0 ≤ X → 0 ≤ Z ∧ Z ≤ X
  | 7 => 1 ≤ Y → Y ≤ 31 → 0 ≤ Z
  | _ => True)
def k_mk (t : Nat) (K : sK) (lo hi : Int) : sK × sV := (k_new K lo hi, (t, K.1.length, 0))
def k_all (t : Nat) (K : sK) : sK × sV := k_mk t K (z_mn t) (z_mx t)
def s_eq (x y : sV) : Bool := Nat.beq x.1 y.1 && (Nat.beq x.2.1 y.2.1 && z_eq x.2.2 y.2.2)
theorem s_eq_ok {x y : sV} (h : s_eq x y = true) : x = y := by
  obtain ⟨a, b, c⟩ := x
  obtain ⟨a', b', c'⟩ := y
  unfold s_eq at h
  rw [Bool.and_eq_true, Bool.and_eq_true] at h
  have e1 : a = a' := Nat.eq_of_beq_eq_true h.1
  have e2 : b = b' := Nat.eq_of_beq_eq_true h.2.1
  have e3 : c = c' := z_eq_iff.mp h.2.2
  rw [e1, e2, e3]
def k_cs (x y : sV) : kS → Option Nat
  | [] => none
  | s :: S => bif (s_eq s.1 x && s_eq s.2.1 y) then some s.2.2 else k_cs x y S
def k_sm (K : sK) (x y : sV) (r : sK × sV) : sK × sV := bif (n7 x && n7 y) then ((r.1.1, r.1.2.1, r.1.2.2.1, r.1.2.2.2.1, (x, y, r.2.2.1) :: r.1.2.2.2.2), r.2) else r
def k_add (t : Nat) (K : sK) (x y : sV) (bx b : Int × Int) : sK × sV := bif z_in t (bx.1 + b.1) (bx.2 + b.2) then (bif k_single b then (K, (x.1, x.2.1, x.2.2 + b.1)) else (bif k_single bx then (K, (y.1, y.2.1, y.2.2 + bx.1)) else (match bif (n7 x && n7 y) then k_cs x y K.2.2.2.2 else none with
  | some z => (K, (t, z, 0))
  | none => k_sm K x y (k_mk t K (bx.1 + b.1) (bx.2 + b.2))))) else k_all t K
def k_sub (t : Nat) (K : sK) (x y : sV) (bx b : Int × Int) : sK × sV := bif (k_single b && z_in t (bx.1 - b.1) (bx.2 - b.1)) then (K, (x.1, x.2.1, x.2.2 - b.1)) else (bif (n7 x && (n7 y && z_in t (-(k_df K y x)) (k_df K x y))) then k_mk t K (-(k_df K y x)) (k_df K x y) else k_all t K)
def z_min4 (a b c d : Int) : Int := z_min (z_min a b) (z_min c d)
def z_max4 (a b c d : Int) : Int := z_max (z_max a b) (z_max c d)
def k_is7 (b : Int × Int) : Bool := z_eq b.1 7 && z_eq b.2 7
def k_mul (t : Nat) (K : sK) (x y : sV) (bx b : Int × Int) (lo hi : Int) : sK × sV := bif z_in t lo hi then (bif (Nat.beq t 0 && (k_is7 bx && (Nat.beq y.1 0 && !(k_single b)))) then (K, (7, y.2.1, 7 * y.2.2)) else (bif (Nat.beq t 0 && (k_is7 b && (Nat.beq x.1 0 && !(k_single bx)))) then (K, (7, x.2.1, 7 * x.2.2)) else k_mk t K lo hi)) else k_all t K
def k_qt (x : sV) (c : Int) (r : sK × sV) : sK × sV := bif n7 x then ((r.1.1, r.1.2.1, r.1.2.2.1, (r.2.2.1, x.2.1, x.2.2, c) :: r.1.2.2.2.1, r.1.2.2.2.2), r.2) else r
def k_div (t : Nat) (K : sK) (x : sV) (bx b : Int × Int) : sK × sV := bif (z_le 0 bx.1 && z_le 1 b.1) then (bif k_single b then k_qt x b.1 (k_mk t K (bx.1 / b.1) (bx.2 / b.1)) else k_mk t K 0 bx.2) else k_all t K
def k_rem (t : Nat) (K : sK) (bx b : Int × Int) : sK × sV := bif (z_le 0 bx.1 && z_le 1 b.1) then k_mk t K 0 (z_min bx.2 (b.2 - 1)) else k_all t K
def k_and (t : Nat) (K : sK) (bx b : Int × Int) : sK × sV := bif z_le 0 bx.1 then k_mk t K 0 (bif z_le 0 b.1 then z_min bx.2 b.2 else bx.2) else (bif z_le 0 b.1 then k_mk t K 0 b.2 else k_all t K)
def k_op (o t : Nat) (K : sK) (x y : sV) (bx b : Int × Int) : sK × sV := match o with
  | 0 => k_add t K x y bx b
  | 1 => k_sub t K x y bx b
  | 2 => k_mul t K x y bx b (z_min4 (bx.1 * b.1) (bx.1 * b.2) (bx.2 * b.1) (bx.2 * b.2)) (z_max4 (bx.1 * b.1) (bx.1 * b.2) (bx.2 * b.1) (bx.2 * b.2))
  | 3 => k_div t K x bx b
  | 4 => k_rem t K bx b
  | 5 => k_and t K bx b
  | 6 => bif z_le 0 bx.1 then k_mk t K 0 bx.2 else k_all t K
  | 7 => bif (z_le 1 b.1 && z_le b.2 31) then k_mk t K 0 (z_mx t) else k_all t K
  | _ => k_all t K
def k_bin (o t : Nat) (K : sK) (x y : sV) : Option (sK × sV) := bif (k_tg t x && (k_tg t y && (!(Nat.beq o 3 || Nat.beq o 4) || k_nz K y))) then some (k_op o t K x y (k_iv K x) (k_iv K y)) else none
/-- the new store and value hold the number Z -/
def k_out (vs : List Int) (t : Nat) (r : sK × sV) (Z : Int) : Prop := ∃ vs', vL vs vs' ∧ nK vs' r.1 ∧ vN vs' r.2 Z ∧ k_tg t r.2 = true
section OPS
variable {vs : List Int} {K : sK} {x y : sV} {X Y Z : Int} {t : Nat}
theorem k_mk_at (h : nK vs K) {lo hi : Int} (h1 : lo ≤ Z) (h2 : Z ≤ hi) : nK (vs ++ [Z]) (k_mk t K lo hi).1 ∧ (vs ++ [Z])[(k_mk t K lo hi).2.2.1]? = some Z := by
  refine ⟨nK_new h h1 h2, ?_⟩
  show (vs ++ [Z])[K.1.length]? = some Z
  rw [h.len]
  exact vL_last vs Z
theorem k_tgt (ht : t = 0 ∨ t = 1) (a : Nat) (c : Int) : k_tg t (t, a, c) = true := by rcases ht with rfl | rfl <;> rfl
theorem k_t7 (ht : t = 0 ∨ t = 1) : Nat.beq t 7 = false := by rcases ht with rfl | rfl <;> rfl
theorem k_mk_ok (ht : t = 0 ∨ t = 1) (h : nK vs K) {lo hi : Int} (h1 : lo ≤ Z) (h2 : Z ≤ hi) : k_out vs t (k_mk t K lo hi) Z := by
  obtain ⟨a1, a2⟩ := k_mk_at (t := t) h h1 h2
  refine ⟨vs ++ [Z], vL_app vs [Z], a1, ⟨Z, a2, ?_⟩, k_tgt ht _ _⟩
  show Z = (bif Nat.beq t 7 then 7 * Z else Z) + 0
  rw [k_t7 ht]
  simp
theorem k_all_ok (ht : t = 0 ∨ t = 1) (h : nK vs K) (hZ : z_rg t Z) : k_out vs t (k_all t K) Z := k_mk_ok ht h hZ.1 hZ.2
theorem k_id_ok (h : nK vs K) {s : sV} (hs : vN vs s Z) (hg : k_tg t s = true) : k_out vs t (K, s) Z := ⟨vs, vL_refl vs, h, hs, hg⟩
theorem vN_off (hx : vN vs x X) (c : Int) (e : Z = X + c) : vN vs (x.1, x.2.1, x.2.2 + c) Z := by
  obtain ⟨u, hu, rfl⟩ := hx
  exact ⟨u, hu, by simp only [e]; omega⟩
theorem k_cs_ok : ∀ (S : kS) {z : Nat}, k_cs x y S = some z → ∃ s ∈ S, s.1 = x ∧ s.2.1 = y ∧ s.2.2 = z
  | [], _, h => by cases h
  | s :: S, z, h => by
    unfold k_cs at h
    cases e : (s_eq s.1 x && s_eq s.2.1 y) with
    | true =>
      rw [e] at h
      rw [Bool.and_eq_true] at e
      cases h
      exact ⟨s, List.mem_cons_self, s_eq_ok e.1, s_eq_ok e.2, rfl⟩
    | false =>
      rw [e] at h
      obtain ⟨s', h1, h2⟩ := k_cs_ok S h
      exact ⟨s', List.mem_cons_of_mem _ h1, h2⟩
theorem z_sgl {b : Int × Int} (h : k_single b = true) : b.1 = b.2 := z_eq_iff.mp h
theorem k_add_ok (ht : t = 0 ∨ t = 1) (h : nK vs K) (gx : k_tg t x = true) (gy : k_tg t y = true) (hx : vN vs x X) (hy : vN vs y Y) (hZ : opR 0 t X Y Z) : k_out vs t (k_add t K x y (k_iv K x) (k_iv K y)) Z := by
  have bX := k_iv_ok h hx
  have bY := k_iv_ok h hy
  obtain ⟨hr, hz⟩ := hZ
  unfold k_add
  cases e : z_in t ((k_iv K x).1 + (k_iv K y).1) ((k_iv K x).2 + (k_iv K y).2) with
  | false => exact k_all_ok ht h hr
  | true =>
    have hi := z_in_iff.mp e
    have hZe : Z = X + Y := hz ⟨by omega, by omega⟩
    simp only [cond_true]
    cases e1 : k_single (k_iv K y) with
    | true =>
      have := z_sgl e1
      exact k_id_ok h (vN_off hx _ (by omega)) gx
    | false =>
      cases e2 : k_single (k_iv K x) with
      | true =>
        have := z_sgl e2
        exact k_id_ok h (vN_off hy _ (by omega)) gy
      | false =>
        simp only [cond_false]
        cases e7 : (n7 x && n7 y) with
        | false =>
          simp only [cond_false, k_sm, e7]
          exact k_mk_ok ht h (by omega) (by omega)
        | true =>
          rw [Bool.and_eq_true] at e7
          obtain ⟨u, hu, hXe⟩ := vN_n7 e7.1 hx
          obtain ⟨v, hv, hYe⟩ := vN_n7 e7.2 hy
          simp only [cond_true]
          cases e3 : k_cs x y K.2.2.2.2 with
          | some z =>
            obtain ⟨s, hs, s1, s2, s3⟩ := k_cs_ok _ e3
            obtain ⟨a, b, c, a1, a2, a3, a4⟩ := h.2.2.2.2.2.2 s hs
            rw [s1, hu] at a1
            rw [s2, hv] at a2
            cases a1
            cases a2
            rw [s3] at a3
            rw [s1, s2] at a4
            refine k_id_ok h ⟨c, a3, ?_⟩ (k_tgt ht _ _)
            show Z = (bif Nat.beq t 7 then 7 * c else c) + 0
            rw [k_t7 ht]
            simp only [cond_false]
            omega
          | none =>
            simp only [k_sm, e7.1, e7.2, Bool.and_self, cond_true]
            obtain ⟨a1, a2⟩ := k_mk_at (Z := Z) (t := t) h (lo := (k_iv K x).1 + (k_iv K y).1) (hi := (k_iv K x).2 + (k_iv K y).2) (by omega) (by omega)
            refine ⟨vs ++ [Z], vL_app vs [Z], ?_, ⟨Z, a2, ?_⟩, k_tgt ht _ _⟩
            · obtain ⟨b0, b1, b2, b3, b4, b5, b6⟩ := a1
              refine ⟨b0, b1, b2, b3, b4, b5, ?_⟩
              intro s hs
              rcases List.mem_cons.mp hs with rfl | hs
              · exact ⟨u, v, Z, vL_app vs [Z] _ _ hu, vL_app vs [Z] _ _ hv, a2, by show Z = (u + x.2.2) + (v + y.2.2); omega⟩
              · exact b6 s hs
            · show Z = (bif Nat.beq t 7 then 7 * Z else Z) + 0
              rw [k_t7 ht]
              simp
theorem k_sub_ok (ht : t = 0 ∨ t = 1) (h : nK vs K) (gx : k_tg t x = true) (hx : vN vs x X) (hy : vN vs y Y) (hZ : opR 1 t X Y Z) : k_out vs t (k_sub t K x y (k_iv K x) (k_iv K y)) Z := by
  have bX := k_iv_ok h hx
  have bY := k_iv_ok h hy
  obtain ⟨hr, hz⟩ := hZ
  unfold k_sub
  cases e : (k_single (k_iv K y) && z_in t ((k_iv K x).1 - (k_iv K y).1) ((k_iv K x).2 - (k_iv K y).1)) with
  | true =>
    rw [Bool.and_eq_true] at e
    have hi := z_in_iff.mp e.2
    have := z_sgl e.1
    have hZe : Z = X - Y := hz ⟨by omega, by omega⟩
    have hv := vN_off (Z := Z) hx (-(k_iv K y).1) (by omega)
    rw [← Int.sub_eq_add_neg] at hv
    exact k_id_ok h hv gx
  | false =>
    simp only [cond_false]
    cases e1 : (n7 x && (n7 y && z_in t (-(k_df K y x)) (k_df K x y))) with
    | false => exact k_all_ok ht h hr
    | true =>
      rw [Bool.and_eq_true, Bool.and_eq_true] at e1
      have h1 := k_df_ok h e1.1 e1.2.1 hx hy
      have h2 := k_df_ok h e1.2.1 e1.1 hy hx
      have hi := z_in_iff.mp e1.2.2
      have hZe : Z = X - Y := hz ⟨by omega, by omega⟩
      exact k_mk_ok ht h (by omega) (by omega)
theorem z_mulb {a b X Y : Int} (h1 : a ≤ X) (h2 : X ≤ b) : z_min (a * Y) (b * Y) ≤ X * Y ∧ X * Y ≤ z_max (a * Y) (b * Y) := by
  rcases Int.le_total 0 Y with hY | hY
  · have m1 := Int.mul_le_mul_of_nonneg_right h1 hY
    have m2 := Int.mul_le_mul_of_nonneg_right h2 hY
    constructor
    · exact Int.le_trans z_min_l m1
    · unfold z_max; cases e : z_le (a * Y) (b * Y) with
      | true => exact m2
      | false =>
        have : ¬ (a * Y ≤ b * Y) := fun h' => by rw [z_le_iff.mpr h'] at e; cases e
        exact absurd (Int.le_trans m1 m2) this
  · have m1 := Int.mul_le_mul_of_nonpos_right h1 hY
    have m2 := Int.mul_le_mul_of_nonpos_right h2 hY
    constructor
    · exact Int.le_trans z_min_r m2
    · unfold z_max; cases e : z_le (a * Y) (b * Y) with
      | true =>
        have := z_le_iff.mp e
        simp only [cond_true]; omega
      | false => exact m1
theorem z_max_l {a b : Int} : a ≤ z_max a b := by
  unfold z_max
  cases h : z_le a b with
  | true => exact z_le_iff.mp h
  | false => exact Int.le_refl a
theorem z_max_r {a b : Int} : b ≤ z_max a b := by
  unfold z_max
  cases h : z_le a b with
  | true => exact Int.le_refl b
  | false =>
    have : ¬ a ≤ b := fun h' => by rw [z_le_iff.mpr h'] at h; cases h
    simp only [cond_false]; omega
theorem z_mul4 {a b c d X Y : Int} (h1 : a ≤ X) (h2 : X ≤ b) (h3 : c ≤ Y) (h4 : Y ≤ d) : z_min4 (a * c) (a * d) (b * c) (b * d) ≤ X * Y ∧ X * Y ≤ z_max4 (a * c) (a * d) (b * c) (b * d) := by
  have m := z_mulb (Y := Y) h1 h2
  have ma := z_mulb (Y := a) h3 h4
  have mb := z_mulb (Y := b) h3 h4
  rw [Int.mul_comm c a, Int.mul_comm d a, Int.mul_comm Y a] at ma
  rw [Int.mul_comm c b, Int.mul_comm d b, Int.mul_comm Y b] at mb
  have l1 : z_min (z_min (a * c) (a * d)) (z_min (b * c) (b * d)) ≤ a * Y := Int.le_trans z_min_l ma.1
  have l2 : z_min (z_min (a * c) (a * d)) (z_min (b * c) (b * d)) ≤ b * Y := Int.le_trans z_min_r mb.1
  have l3 : a * Y ≤ z_max (z_max (a * c) (a * d)) (z_max (b * c) (b * d)) := Int.le_trans ma.2 z_max_l
  have l4 : b * Y ≤ z_max (z_max (a * c) (a * d)) (z_max (b * c) (b * d)) := Int.le_trans mb.2 z_max_r
  exact ⟨Int.le_trans (z_min_le l1 l2) m.1, Int.le_trans m.2 (z_le_max l3 l4)⟩
theorem k_is7_ok {b : Int × Int} (h : k_is7 b = true) : b.1 = 7 ∧ b.2 = 7 := by
  unfold k_is7 at h
  rw [Bool.and_eq_true] at h
  exact ⟨z_eq_iff.mp h.1, z_eq_iff.mp h.2⟩
theorem vN_seven {s : sV} {S : Int} (hs : vN vs s S) (h0 : Nat.beq s.1 0 = true) (e : Z = 7 * S) : vN vs (7, s.2.1, 7 * s.2.2) Z := by
  obtain ⟨u, hu, rfl⟩ := hs
  have := Nat.eq_of_beq_eq_true h0
  refine ⟨u, hu, ?_⟩
  rw [this] at e
  show Z = 7 * u + 7 * s.2.2
  rw [e]
  show 7 * (u + s.2.2) = 7 * u + 7 * s.2.2
  omega
theorem k_mul_ok (ht : t = 0 ∨ t = 1) (h : nK vs K) (hx : vN vs x X) (hy : vN vs y Y) (hZ : opR 2 t X Y Z) {lo hi : Int} (hl : lo ≤ X * Y) (hh : X * Y ≤ hi) : k_out vs t (k_mul t K x y (k_iv K x) (k_iv K y) lo hi) Z := by
  have bX := k_iv_ok h hx
  have bY := k_iv_ok h hy
  obtain ⟨hr, hz⟩ := hZ
  unfold k_mul
  cases e : z_in t lo hi with
  | false => exact k_all_ok ht h hr
  | true =>
    have hi := z_in_iff.mp e
    have hZe : Z = X * Y := hz ⟨by omega, by omega⟩
    simp only [cond_true]
    cases e1 : (Nat.beq t 0 && (k_is7 (k_iv K x) && (Nat.beq y.1 0 && !(k_single (k_iv K y))))) with
    | true =>
      rw [Bool.and_eq_true, Bool.and_eq_true, Bool.and_eq_true] at e1
      have h7 := k_is7_ok e1.2.1
      have hX : X = 7 := by omega
      have ht0 := Nat.eq_of_beq_eq_true e1.1
      subst ht0
      exact k_id_ok h (vN_seven hy e1.2.2.1 (by rw [hZe, hX])) rfl
    | false =>
      simp only [cond_false]
      cases e2 : (Nat.beq t 0 && (k_is7 (k_iv K y) && (Nat.beq x.1 0 && !(k_single (k_iv K x))))) with
      | true =>
        rw [Bool.and_eq_true, Bool.and_eq_true, Bool.and_eq_true] at e2
        have h7 := k_is7_ok e2.2.1
        have hY : Y = 7 := by omega
        have ht0 := Nat.eq_of_beq_eq_true e2.1
        subst ht0
        exact k_id_ok h (vN_seven hx e2.2.2.1 (by rw [hZe, hY, Int.mul_comm])) rfl
      | false => exact k_mk_ok ht h (by omega) (by omega)
theorem k_div_ok (ht : t = 0 ∨ t = 1) (h : nK vs K) (hx : vN vs x X) (hy : vN vs y Y) (hZ : opR 3 t X Y Z) : k_out vs t (k_div t K x (k_iv K x) (k_iv K y)) Z := by
  have bX := k_iv_ok h hx
  have bY := k_iv_ok h hy
  obtain ⟨hr, hz⟩ := hZ
  unfold k_div
  cases e : (z_le 0 (k_iv K x).1 && z_le 1 (k_iv K y).1) with
  | false => exact k_all_ok ht h hr
  | true =>
    rw [Bool.and_eq_true, z_le_iff, z_le_iff] at e
    have hX0 : 0 ≤ X := by omega
    have hY0 : 0 < Y := by omega
    have hZe : Z = X / Y := hz hX0 hY0
    simp only [cond_true]
    cases e1 : k_single (k_iv K y) with
    | true =>
      have := z_sgl e1
      have hYe : Y = (k_iv K y).1 := by omega
      rw [hYe] at hZe
      rw [hYe] at hY0
      have d1 : (k_iv K x).1 / (k_iv K y).1 ≤ Z := by rw [hZe]; exact Int.ediv_le_ediv hY0 bX.1
      have d2 : Z ≤ (k_iv K x).2 / (k_iv K y).1 := by rw [hZe]; exact Int.ediv_le_ediv hY0 bX.2
      simp only [cond_true]
      unfold k_qt
      cases e7 : n7 x with
      | false => exact k_mk_ok ht h d1 d2
      | true =>
        obtain ⟨u, hu, hXe⟩ := vN_n7 e7 hx
        obtain ⟨a1, a2⟩ := k_mk_at (Z := Z) (t := t) h d1 d2
        simp only [cond_true]
        refine ⟨vs ++ [Z], vL_app vs [Z], ?_, ⟨Z, a2, ?_⟩, k_tgt ht _ _⟩
        · obtain ⟨b0, b1, b2, b3, b4, b5, b6⟩ := a1
          refine ⟨b0, b1, b2, b3, b4, ?_, b6⟩
          intro s hs
          rcases List.mem_cons.mp hs with rfl | hs
          · refine ⟨Z, u, a2, vL_app vs [Z] _ _ hu, hY0, ?_⟩
            show u + x.2.2 < (Z + 1) * (k_iv K y).1
            rw [← hXe, hZe]
            exact Int.lt_ediv_add_one_mul_self X hY0
          · exact b5 s hs
        · show Z = (bif Nat.beq t 7 then 7 * Z else Z) + 0
          rw [k_t7 ht]
          simp
    | false =>
      refine k_mk_ok ht h ?_ ?_
      · rw [hZe]; exact Int.ediv_nonneg hX0 (by omega)
      · rw [hZe]; exact Int.le_trans (Int.ediv_le_self Y hX0) bX.2
theorem k_rem_ok (ht : t = 0 ∨ t = 1) (h : nK vs K) (hx : vN vs x X) (hy : vN vs y Y) (hZ : opR 4 t X Y Z) : k_out vs t (k_rem t K (k_iv K x) (k_iv K y)) Z := by
  have bX := k_iv_ok h hx
  have bY := k_iv_ok h hy
  obtain ⟨hr, hz⟩ := hZ
  unfold k_rem
  cases e : (z_le 0 (k_iv K x).1 && z_le 1 (k_iv K y).1) with
  | false => exact k_all_ok ht h hr
  | true =>
    rw [Bool.and_eq_true, z_le_iff, z_le_iff] at e
    have hX0 : 0 ≤ X := by omega
    have hY0 : 0 < Y := by omega
    have hZe : Z = X % Y := hz hX0 hY0
    have r1 := Int.emod_nonneg X (show Y ≠ 0 by omega)
    have r2 := Int.emod_lt_of_pos X hY0
    have r3 : X % Y ≤ X := by
      have := Int.mul_ediv_add_emod X Y
      have h4 := Int.mul_nonneg (Int.le_of_lt hY0) (Int.ediv_nonneg hX0 (Int.le_of_lt hY0))
      omega
    exact k_mk_ok ht h (by omega) (z_min_le (by omega) (by omega))
theorem k_and_ok (ht : t = 0 ∨ t = 1) (h : nK vs K) (hx : vN vs x X) (hy : vN vs y Y) (hZ : opR 5 t X Y Z) : k_out vs t (k_and t K (k_iv K x) (k_iv K y)) Z := by
  have bX := k_iv_ok h hx
  have bY := k_iv_ok h hy
  obtain ⟨hr, hz1, hz2⟩ := hZ
  unfold k_and
  cases e : z_le 0 (k_iv K x).1 with
  | true =>
    have := z_le_iff.mp e
    have a := hz1 (by omega)
    refine k_mk_ok ht h a.1 ?_
    cases e2 : z_le 0 (k_iv K y).1 with
    | true =>
      have := z_le_iff.mp e2
      have b := hz2 (by omega)
      exact z_min_le (by omega) (by omega)
    | false => simp only [cond_false]; omega
  | false =>
    simp only [cond_false]
    cases e2 : z_le 0 (k_iv K y).1 with
    | true =>
      have := z_le_iff.mp e2
      have b := hz2 (by omega)
      exact k_mk_ok ht h b.1 (by omega)
    | false => exact k_all_ok ht h hr
theorem k_bin_ok {o : Nat} {r : sK × sV} (ht : t = 0 ∨ t = 1) (h : nK vs K) (hx : vN vs x X) (hy : vN vs y Y) (hb : k_bin o t K x y = some r) (hZ : opR o t X Y Z) : k_out vs t r Z := by
  unfold k_bin at hb
  cases e : (k_tg t x && (k_tg t y && (!(Nat.beq o 3 || Nat.beq o 4) || k_nz K y))) with
  | false => rw [e] at hb; cases hb
  | true =>
    rw [e] at hb
    cases hb
    rw [Bool.and_eq_true, Bool.and_eq_true] at e
    have bX := k_iv_ok h hx
    have bY := k_iv_ok h hy
    have gx := e.1
    have gy := e.2.1
    match o, hZ with
    | 0, hZ => exact k_add_ok ht h gx gy hx hy hZ
    | 1, hZ => exact k_sub_ok ht h gx hx hy hZ
    | 2, hZ => exact k_mul_ok ht h hx hy hZ (z_mul4 bX.1 bX.2 bY.1 bY.2).1 (z_mul4 bX.1 bX.2 bY.1 bY.2).2
    | 3, hZ => exact k_div_ok ht h hx hy hZ
    | 4, hZ => exact k_rem_ok ht h hx hy hZ
    | 5, hZ => exact k_and_ok ht h hx hy hZ
    | 6, hZ =>
      simp only [k_op]
      cases e6 : z_le 0 (k_iv K x).1 with
      | true =>
        have := z_le_iff.mp e6
        have a := hZ.2 (by omega)
        exact k_mk_ok ht h a.1 (by omega)
      | false => exact k_all_ok ht h hZ.1
    | 7, hZ =>
      simp only [k_op]
      cases e7 : (z_le 1 (k_iv K y).1 && z_le (k_iv K y).2 31) with
      | true =>
        rw [Bool.and_eq_true, z_le_iff, z_le_iff] at e7
        have a := hZ.2 (by omega) (by omega)
        exact k_mk_ok ht h a hZ.1.2
      | false => exact k_all_ok ht h hZ.1
    | n + 8, hZ => exact k_all_ok ht h hZ.1
theorem k_bin_nz {o : Nat} {r : sK × sV} (h : nK vs K) (hy : vN vs y Y) (hb : k_bin o t K x y = some r) (ho : o = 3 ∨ o = 4) : Y ≠ 0 := by
  unfold k_bin at hb
  cases e : (k_tg t x && (k_tg t y && (!(Nat.beq o 3 || Nat.beq o 4) || k_nz K y))) with
  | false => rw [e] at hb; cases hb
  | true =>
    rw [Bool.and_eq_true, Bool.and_eq_true] at e
    have h3 := e.2.2
    have : (Nat.beq o 3 || Nat.beq o 4) = true := by rcases ho with rfl | rfl <;> rfl
    rw [this] at h3
    exact k_nz_ok h hy h3
theorem k_bin_tg {o : Nat} {r : sK × sV} (hb : k_bin o t K x y = some r) : k_tg t x = true ∧ k_tg t y = true := by
  unfold k_bin at hb
  cases e : (k_tg t x && (k_tg t y && (!(Nat.beq o 3 || Nat.beq o 4) || k_nz K y))) with
  | false => rw [e] at hb; cases hb
  | true =>
    rw [Bool.and_eq_true, Bool.and_eq_true] at e
    exact ⟨e.1, e.2.1⟩
end OPS
