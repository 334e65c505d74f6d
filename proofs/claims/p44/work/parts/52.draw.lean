/-! THE REFERENCE'S draw, by hand: the left-th open cost of the film is there, for there are more -/
def dr_cnt (p : Nat → Bool) : Nat → Nat
  | 0 => 0
  | n + 1 => dr_cnt p n + (bif p n then 1 else 0)
theorem dr_cnt_le (p : Nat → Bool) : ∀ n, dr_cnt p n ≤ n
  | 0 => Nat.le_refl 0
  | n + 1 => by
    have := dr_cnt_le p n
    unfold dr_cnt
    cases p n <;> simp only [cond_true, cond_false] <;> omega
theorem dr_cnt_sub (p q : Nat → Bool) (hq : ∀ i, q i = true → p i = true) : ∀ n, dr_cnt p n = dr_cnt q n + dr_cnt (fun i => p i && !(q i)) n
  | 0 => rfl
  | n + 1 => by
    have := dr_cnt_sub p q hq n
    unfold dr_cnt
    have h := hq n
    cases hp : p n <;> cases hqn : q n <;> rw [hp, hqn] at h <;> simp only [cond_true, cond_false, Bool.not_true, Bool.not_false, Bool.and_true, Bool.and_false, Bool.true_and, Bool.false_and] <;> first | omega | (exact absurd (h rfl) (by decide))
section DRAW
variable {L : Nat} {xs : Nat → Int32} {d : Nat} {w : mWd} {fs : List Value} {g a : Nat → Int32} {N : Nat} {Q : Option Value → mWd → Prop}
def drW (w : mWd) (fs : List Value) (g a : Nat → Int32) (N : Nat) : Prop := w[69]? = some (.inr (12, fs)) ∧ fs[31]? = some (.int (Int32.ofNat N)) ∧ fs[27]? = some (.ref 90) ∧ fs[30]? = some (.ref 93) ∧ w[90]? = some (.inl (0, 1050, .inl g)) ∧ w[93]? = some (.inl (0, 150, .inl a)) ∧ N ≤ 150
theorem st_getf {mid ix ci i pc k : Nat} {l : mL} {r : List Value} {v : Value} {fs : List Value} (hR : pgRs mid ix = some (0, ci, Int.ofNat k)) (hw : w[i]? = some (.inr (ci, fs))) (hk : fs[k]? = some v) : m_step L xs mid pc l (.ref i :: r) w (.getfield ix) = some (.inl (pc + 3, l, v :: r, w)) := by
  have hk2 : fs[(Int.ofNat k).toNat]? = some v := hk
  simp only [m_step, hR, m_getf, hw, if_true, hk2]
  rfl
theorem st_ald {mid i n pc : Nat} {j : Int32} {l : mL} {r : List Value} {f : Nat → Int32} {k : Nat} (hw : w[i]? = some (.inl (0, n, .inl f))) (hj : j.toInt = (k : Int)) (hk : k < n) : m_step L xs mid pc l (.int j :: .ref i :: r) w .iaload = some (.inl (pc + 1, l, .int (f k) :: r, w)) := by
  have h := m_ald_ok (o := 0) (j := j) (by rfl) (by decide) hw rfl (by omega) (by omega)
  simp only [m_step, h]
  have e : j.toInt.toNat = k := by omega
  rw [e]
  rfl
theorem st_call {mid ix pc : Nat} {l : mL} {st : List Value} {a b : Int32} {fs : List Value} {q : Int} (hR : pgRs mid ix = some (6, 181, q)) (hw : w[69]? = some (.inr (12, fs))) (hc : m_cat st ≤ 8) : m_step L xs mid pc l (.int b :: .int a :: .ref 69 :: st) w (.invokevirtual ix) = some (.inr (.inl (181, [.ref 69, .int a, .int b], st))) := by
  have hp : m_pop (pgA 181) (.int b :: .int a :: .ref 69 :: st) [] = some ([.int a, .int b], .ref 69 :: st) := rfl
  have hr : m_rcv 181 (.ref 69) w = true := by
    simp only [m_rcv, hw]
    rfl
  simp only [m_step, hR, hp, hr, if_true]
  unfold m_call
  rw [if_pos ⟨hc, (show 3 ≤ pgL 181 by decide), rfl⟩]
theorem st_call1 {y mid ix pc : Nat} {l : mL} {st : List Value} {a : Int32} {fs : List Value} {q : Int} (hR : pgRs mid ix = some (6, y, q)) (hA : pgA y = 1) (hO : pgOw y = 12) (hL : 2 ≤ pgL y) (hp : m_pl y = true) (hw : w[69]? = some (.inr (12, fs))) (hc : m_cat st ≤ 8) : m_step L xs mid pc l (.int a :: .ref 69 :: st) w (.invokevirtual ix) = some (.inr (.inl (y, [.ref 69, .int a], st))) := by
  have hpp : m_pop (pgA y) (.int a :: .ref 69 :: st) [] = some ([.int a], .ref 69 :: st) := by rw [hA]; rfl
  have hr : m_rcv y (.ref 69) w = true := by
    simp only [m_rcv, hw, hO]
    rfl
  simp only [m_step, hR, hpp, hr, if_true]
  unfold m_call
  rw [if_pos ⟨hc, hL, hp⟩]
theorem dr_of {k : Nat} (hk : k < 150) (hW : drW w fs g a N) (h : Q (some (.int (g (7 * k)))) w) : Rn L xs (d + 1) 181 0 [(0, .ref 69), (1, .int (Int32.ofNat k)), (2, .int (Int32.ofInt 0))] [] w Q := by
  obtain ⟨h1, h2, h3, h4, h5, h6, h7⟩ := hW
  refine Rn.step (hf := by rfl) (hs := by rfl) ?_
  refine Rn.step (hf := by rfl) (hs := st_getf (by rfl) h1 h3) ?_
  refine Rn.step (hf := by rfl) (hs := by rfl) ?_
  refine Rn.step (hf := by rfl) (hs := by rfl) ?_
  refine Rn.step (hf := by rfl) (hs := by rfl) ?_
  refine Rn.step (hf := by rfl) (hs := by rfl) ?_
  refine Rn.step (hf := by rfl) (hs := by rfl) ?_
  have hidx : ((Int8.ofInt 7).toInt32 * Int32.ofNat k + Int32.ofInt 0).toInt = ((7 * k : Nat) : Int) := by
    have e7 : (Int8.ofInt 7).toInt32.toInt = 7 := by decide
    have e0 : (Int32.ofInt 0).toInt = 0 := by decide
    have hk' := i32_nat (show k < 2147483648 by omega)
    rw [Int32.toInt_add, Int32.toInt_mul, e7, e0, hk', z_bm0 (x := 7 * (k : Int)) ⟨by show (-2147483648 : Int) ≤ _; omega, by show _ ≤ (2147483647 : Int); omega⟩, z_bm0 ⟨by show (-2147483648 : Int) ≤ _; omega, by show _ ≤ (2147483647 : Int); omega⟩]
    omega
  refine Rn.step (hf := by rfl) (hs := st_ald h5 hidx (by omega)) ?_
  exact Rn.ret (hf := by rfl) (hs := by rfl) h
theorem i32_p0 (x : Int32) : x + Int32.ofInt 0 = x := by
  apply Int32.toInt_inj.mp
  rw [Int32.toInt_add, show (Int32.ofInt 0).toInt = 0 by decide, Int.add_zero, z_bm0 (i32_rg x)]
theorem m_cmp_ne (x y : Int32) : m_cmp .ne x y = !(decide (x = y)) := rfl
def drF (g : Nat → Int32) (f : Int32) (k : Nat) : Bool := decide (g (7 * k) = f)
theorem co_loop {f : Int32} (hW : drW w fs g a N) (hQ : Q (some (.int (Int32.ofNat (dr_cnt (drF g f) N)))) w) : ∀ m k, k + m = N → Rn L xs (d + 2) 244 4 [(3, .int (Int32.ofNat k)), (2, .int (Int32.ofNat (dr_cnt (drF g f) k))), (0, .ref 69), (1, .int f)] [] w Q := by
  have hW' := hW
  obtain ⟨h1, h2, h3, h4, h5, h6, h7⟩ := hW'
  intro m
  induction m with
  | zero =>
    intro k hk
    have hk' : k = N := by omega
    subst hk'
    have hc := i32_ge (show k < 2147483648 by omega) (show k < 2147483648 by omega)
    refine Rn.step (hf := by rfl) (hs := by rfl) ?_
    refine Rn.step (hf := by rfl) (hs := by rfl) ?_
    refine Rn.step (hf := by rfl) (hs := st_getf (by rfl) h1 h2) ?_
    refine Rn.step (hf := by rfl) (hs := by simp only [m_step, m_pure]; rfl) ?_
    rw [hc, decide_eq_true (Nat.le_refl k)]
    refine Rn.step (hf := by rfl) (hs := by rfl) ?_
    exact Rn.ret (hf := by rfl) (hs := by rfl) hQ
  | succ m ih =>
    intro k hk
    have hc := i32_ge (show k < 2147483648 by omega) (show N < 2147483648 by omega)
    have hs := i32_succ (show k + 1 < 2147483648 by omega)
    have hle := dr_cnt_le (drF g f) k
    have hs2 := i32_succ (show dr_cnt (drF g f) k + 1 < 2147483648 by omega)
    refine Rn.step (hf := by rfl) (hs := by rfl) ?_
    refine Rn.step (hf := by rfl) (hs := by rfl) ?_
    refine Rn.step (hf := by rfl) (hs := st_getf (by rfl) h1 h2) ?_
    refine Rn.step (hf := by rfl) (hs := by simp only [m_step, m_pure]; rfl) ?_
    rw [hc, decide_eq_false (show ¬ N ≤ k by omega)]
    refine Rn.step (hf := by rfl) (hs := by rfl) ?_
    refine Rn.step (hf := by rfl) (hs := by rfl) ?_
    refine Rn.step (hf := by rfl) (hs := by rfl) ?_
    refine Rn.step (hf := by rfl) (hs := by rfl) ?_
    refine Rn.call (hf := by rfl) (hs := st_call (by rfl) h1 (Nat.le_of_ble_eq_true rfl)) ?_
    refine dr_of (show k < 150 by omega) hW ?_
    refine Rn.step (hf := by rfl) (hs := by rfl) ?_
    refine Rn.step (hf := by rfl) (hs := by simp only [m_step, m_pure]; rfl) ?_
    rw [m_cmp_ne]
    have ih := ih (k + 1) (by omega)
    have hd : drF g f k = decide (g (7 * k) = f) := rfl
    by_cases e : g (7 * k) = f
    · rw [decide_eq_true e]
      rw [decide_eq_true e] at hd
      refine Rn.step (hf := by rfl) (hs := by rfl) ?_
      refine Rn.step (hf := by rfl) (hs := by rfl) ?_
      refine Rn.step (hf := by rfl) (hs := by rfl) ?_
      refine Rn.step (hf := by rfl) (hs := by rfl) ?_
      refine Rn.step (hf := by rfl) (hs := by rfl) ?_
      refine Rn.step (hf := by rfl) (hs := by rfl) ?_
      have e2 : dr_cnt (drF g f) (k + 1) = dr_cnt (drF g f) k + 1 := by
        show _ + (bif drF g f k then 1 else 0) = _
        rw [hd]; rfl
      rw [e2, ← hs2, ← hs] at ih
      exact ih
    · rw [decide_eq_false e]
      rw [decide_eq_false e] at hd
      refine Rn.step (hf := by rfl) (hs := by rfl) ?_
      refine Rn.step (hf := by rfl) (hs := by rfl) ?_
      refine Rn.step (hf := by rfl) (hs := by rfl) ?_
      refine Rn.step (hf := by rfl) (hs := by rfl) ?_
      refine Rn.step (hf := by rfl) (hs := by rfl) ?_
      have e2 : dr_cnt (drF g f) (k + 1) = dr_cnt (drF g f) k := by
        show _ + (bif drF g f k then 1 else 0) = _
        rw [hd]; rfl
      rw [e2, ← hs, ← i32_p0 (Int32.ofNat (dr_cnt (drF g f) k))] at ih
      exact ih
theorem co_all {f : Int32} (hW : drW w fs g a N) (hQ : Q (some (.int (Int32.ofNat (dr_cnt (drF g f) N)))) w) : Rn L xs (d + 2) 244 0 [(0, .ref 69), (1, .int f)] [] w Q := by
  refine Rn.step (hf := by rfl) (hs := by rfl) ?_
  refine Rn.step (hf := by rfl) (hs := by rfl) ?_
  refine Rn.step (hf := by rfl) (hs := by rfl) ?_
  refine Rn.step (hf := by rfl) (hs := by rfl) ?_
  exact co_loop hW hQ N 0 (by omega)
def drA (g a : Nat → Int32) (f : Int32) (k : Nat) : Bool := decide (g (7 * k) = f) && decide (0 ≤ (a k).toInt)
theorem m_cmp_lt0 (x : Int32) : m_cmp .lt x 0 = decide (x.toInt < 0) := by
  unfold m_cmp
  rw [Bool.eq_iff_iff]
  simp [Int32.lt_iff_toInt_lt]
theorem au_loop {f : Int32} (hf0 : 0 ≤ f.toInt) (hW : drW w fs g a N) (hQ : Q (some (.int (Int32.ofNat (dr_cnt (drA g a f) N)))) w) : ∀ m k, k + m = N → Rn L xs (d + 2) 241 4 [(3, .int (Int32.ofNat k)), (2, .int (Int32.ofNat (dr_cnt (drA g a f) k))), (0, .ref 69), (1, .int f)] [] w Q := by
  have hW' := hW
  obtain ⟨h1, h2, h3, h4, h5, h6, h7⟩ := hW'
  intro m
  induction m with
  | zero =>
    intro k hk
    have hk' : k = N := by omega
    subst hk'
    have hc := i32_ge (show k < 2147483648 by omega) (show k < 2147483648 by omega)
    refine Rn.step (hf := by rfl) (hs := by rfl) ?_
    refine Rn.step (hf := by rfl) (hs := by rfl) ?_
    refine Rn.step (hf := by rfl) (hs := st_getf (by rfl) h1 h2) ?_
    refine Rn.step (hf := by rfl) (hs := by simp only [m_step, m_pure]; rfl) ?_
    rw [hc, decide_eq_true (Nat.le_refl k)]
    refine Rn.step (hf := by rfl) (hs := by rfl) ?_
    exact Rn.ret (hf := by rfl) (hs := by rfl) hQ
  | succ m ih =>
    intro k hk
    have hc := i32_ge (show k < 2147483648 by omega) (show N < 2147483648 by omega)
    have hs := i32_succ (show k + 1 < 2147483648 by omega)
    have hle := dr_cnt_le (drA g a f) k
    have hs2 := i32_succ (show dr_cnt (drA g a f) k + 1 < 2147483648 by omega)
    have hkk := i32_nat (show k < 2147483648 by omega)
    refine Rn.step (hf := by rfl) (hs := by rfl) ?_
    refine Rn.step (hf := by rfl) (hs := by rfl) ?_
    refine Rn.step (hf := by rfl) (hs := st_getf (by rfl) h1 h2) ?_
    refine Rn.step (hf := by rfl) (hs := by simp only [m_step, m_pure]; rfl) ?_
    rw [hc, decide_eq_false (show ¬ N ≤ k by omega)]
    refine Rn.step (hf := by rfl) (hs := by rfl) ?_
    refine Rn.step (hf := by rfl) (hs := by rfl) ?_
    refine Rn.step (hf := by rfl) (hs := by simp only [m_step, m_pure]; rfl) ?_
    rw [m_cmp_lt0, decide_eq_false (show ¬ f.toInt < 0 by omega)]
    refine Rn.step (hf := by rfl) (hs := by rfl) ?_
    refine Rn.step (hf := by rfl) (hs := by rfl) ?_
    refine Rn.step (hf := by rfl) (hs := by rfl) ?_
    refine Rn.call (hf := by rfl) (hs := st_call (by rfl) h1 (Nat.le_of_ble_eq_true rfl)) ?_
    refine dr_of (show k < 150 by omega) hW ?_
    refine Rn.step (hf := by rfl) (hs := by rfl) ?_
    refine Rn.step (hf := by rfl) (hs := by simp only [m_step, m_pure]; rfl) ?_
    rw [m_cmp_ne]
    have ih := ih (k + 1) (by omega)
    have hd : drA g a f k = (decide (g (7 * k) = f) && decide (0 ≤ (a k).toInt)) := rfl
    have e0 : drA g a f k = false → Rn L xs (d + 2) 241 40 [(3, .int (Int32.ofNat k)), (2, .int (Int32.ofNat (dr_cnt (drA g a f) k))), (0, .ref 69), (1, .int f)] [.int (Int32.ofNat (dr_cnt (drA g a f) k))] w Q := by
      intro hd
      refine Rn.step (hf := by rfl) (hs := by rfl) ?_
      refine Rn.step (hf := by rfl) (hs := by rfl) ?_
      refine Rn.step (hf := by rfl) (hs := by rfl) ?_
      refine Rn.step (hf := by rfl) (hs := by rfl) ?_
      refine Rn.step (hf := by rfl) (hs := by rfl) ?_
      have e2 : dr_cnt (drA g a f) (k + 1) = dr_cnt (drA g a f) k := by
        show _ + (bif drA g a f k then 1 else 0) = _
        rw [hd]; rfl
      rw [e2, ← hs, ← i32_p0 (Int32.ofNat (dr_cnt (drA g a f) k))] at ih
      exact ih
    by_cases e : g (7 * k) = f
    · rw [decide_eq_true e]
      rw [decide_eq_true e] at hd
      refine Rn.step (hf := by rfl) (hs := by rfl) ?_
      refine Rn.step (hf := by rfl) (hs := st_getf (by rfl) h1 h4) ?_
      refine Rn.step (hf := by rfl) (hs := by rfl) ?_
      refine Rn.step (hf := by rfl) (hs := st_ald h6 hkk (by omega)) ?_
      refine Rn.step (hf := by rfl) (hs := by simp only [m_step, m_pure]; rfl) ?_
      rw [m_cmp_lt0]
      by_cases ea : (a k).toInt < 0
      · rw [decide_eq_true ea]
        exact e0 (by rw [hd, decide_eq_false (show ¬ 0 ≤ (a k).toInt by omega)]; rfl)
      · rw [decide_eq_false ea]
        rw [decide_eq_true (show 0 ≤ (a k).toInt by omega)] at hd
        refine Rn.step (hf := by rfl) (hs := by rfl) ?_
        refine Rn.step (hf := by rfl) (hs := by rfl) ?_
        refine Rn.step (hf := by rfl) (hs := by rfl) ?_
        refine Rn.step (hf := by rfl) (hs := by rfl) ?_
        refine Rn.step (hf := by rfl) (hs := by rfl) ?_
        refine Rn.step (hf := by rfl) (hs := by rfl) ?_
        have e2 : dr_cnt (drA g a f) (k + 1) = dr_cnt (drA g a f) k + 1 := by
          show _ + (bif drA g a f k then 1 else 0) = _
          rw [hd]; rfl
        rw [e2, ← hs2, ← hs] at ih
        exact ih
    · rw [decide_eq_false e]
      exact e0 (by rw [hd, decide_eq_false e]; rfl)
theorem au_all {f : Int32} (hf0 : 0 ≤ f.toInt) (hW : drW w fs g a N) (hQ : Q (some (.int (Int32.ofNat (dr_cnt (drA g a f) N)))) w) : Rn L xs (d + 2) 241 0 [(0, .ref 69), (1, .int f)] [] w Q := by
  refine Rn.step (hf := by rfl) (hs := by rfl) ?_
  refine Rn.step (hf := by rfl) (hs := by rfl) ?_
  refine Rn.step (hf := by rfl) (hs := by rfl) ?_
  refine Rn.step (hf := by rfl) (hs := by rfl) ?_
  exact au_loop hf0 hW hQ N 0 (by omega)
end DRAW
