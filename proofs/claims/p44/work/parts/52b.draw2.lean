/-! THE REFERENCE'S draw: the search, and all of it -/
section DRAW2
variable {L : Nat} {xs : Nat → Int32} {d : Nat} {w : mWd} {fs : List Value} {g a : Nat → Int32} {N : Nat} {Q : Option Value → mWd → Prop}
def drO (g a : Nat → Int32) (f : Int32) (k : Nat) : Bool := drF g f k && !(drA g a f k)
theorem m_cmp_ge0 (x : Int32) : m_cmp .ge x 0 = decide (0 ≤ x.toInt) := by
  unfold m_cmp
  rw [Bool.eq_iff_iff]
  simp [Int32.le_iff_toInt_le]
theorem m_cmp_le0 (x : Int32) : m_cmp .le x 0 = decide (x.toInt ≤ 0) := by
  unfold m_cmp
  rw [Bool.eq_iff_iff]
  simp [Int32.le_iff_toInt_le]
theorem dr_tail {k : Nat} {f left mm : Int32} (hk : k < 150) (hW : drW w fs g a N) (h : Rn L xs (d + 2) 245 58 [(4, .int (Int32.ofNat (k + 1))), (3, .int (left - Int32.ofInt (bif drO g a f k then 1 else 0))), (2, .int mm), (0, .ref 69), (1, .int f)] [] w Q) : Rn L xs (d + 2) 245 83 [(4, .int (Int32.ofNat k)), (3, .int left), (2, .int mm), (0, .ref 69), (1, .int f)] [] w Q := by
  have hW' := hW
  obtain ⟨h1, h2, h3, h4, h5, h6, h7⟩ := hW'
  have hs := i32_succ (show k + 1 < 2147483648 by omega)
  have hkk := i32_nat (show k < 2147483648 by omega)
  have hd : drO g a f k = (decide (g (7 * k) = f) && !(decide (g (7 * k) = f) && decide (0 ≤ (a k).toInt))) := rfl
  rw [← hs] at h
  refine Rn.step (hf := by rfl) (hs := by rfl) ?_
  refine Rn.step (hf := by rfl) (hs := by rfl) ?_
  refine Rn.step (hf := by rfl) (hs := by rfl) ?_
  refine Rn.step (hf := by rfl) (hs := by rfl) ?_
  refine Rn.call (hf := by rfl) (hs := st_call (by rfl) h1 (Nat.le_of_ble_eq_true rfl)) ?_
  refine dr_of hk hW ?_
  refine Rn.step (hf := by rfl) (hs := by rfl) ?_
  refine Rn.step (hf := by rfl) (hs := by simp only [m_step, m_pure]; rfl) ?_
  rw [m_cmp_ne]
  have e0 : drO g a f k = false → Rn L xs (d + 2) 245 109 [(4, .int (Int32.ofNat k)), (3, .int left), (2, .int mm), (0, .ref 69), (1, .int f)] [.int left] w Q := by
    intro hd
    rw [hd] at h
    refine Rn.step (hf := by rfl) (hs := by rfl) ?_
    refine Rn.step (hf := by rfl) (hs := by rfl) ?_
    refine Rn.step (hf := by rfl) (hs := by rfl) ?_
    refine Rn.step (hf := by rfl) (hs := by rfl) ?_
    refine Rn.step (hf := by rfl) (hs := by rfl) ?_
    exact h
  by_cases e : g (7 * k) = f
  · rw [decide_eq_true e]
    rw [decide_eq_true e] at hd
    refine Rn.step (hf := by rfl) (hs := by rfl) ?_
    refine Rn.step (hf := by rfl) (hs := st_getf (by rfl) h1 h4) ?_
    refine Rn.step (hf := by rfl) (hs := by rfl) ?_
    refine Rn.step (hf := by rfl) (hs := st_ald h6 hkk (by omega)) ?_
    refine Rn.step (hf := by rfl) (hs := by simp only [m_step, m_pure]; rfl) ?_
    rw [m_cmp_ge0]
    by_cases ea : 0 ≤ (a k).toInt
    · rw [decide_eq_true ea]
      exact e0 (by rw [hd, decide_eq_true ea]; rfl)
    · rw [decide_eq_false ea]
      rw [decide_eq_false ea] at hd
      rw [hd] at h
      refine Rn.step (hf := by rfl) (hs := by rfl) ?_
      refine Rn.step (hf := by rfl) (hs := by rfl) ?_
      refine Rn.step (hf := by rfl) (hs := by rfl) ?_
      refine Rn.step (hf := by rfl) (hs := by rfl) ?_
      refine Rn.step (hf := by rfl) (hs := by rfl) ?_
      refine Rn.step (hf := by rfl) (hs := by rfl) ?_
      exact h
  · rw [decide_eq_false e]
    exact e0 (by rw [hd, decide_eq_false e]; rfl)
theorem dr_loop {f mm : Int32} (hW : drW w fs g a N) (hQ : ∀ k, k < 150 → Q (some (.int (Int32.ofNat k))) w) : ∀ m k (left : Int32), k + m = N → 0 ≤ left.toInt → left.toInt + (dr_cnt (drO g a f) k : Int) < (dr_cnt (drO g a f) N : Int) → Rn L xs (d + 2) 245 58 [(4, .int (Int32.ofNat k)), (3, .int left), (2, .int mm), (0, .ref 69), (1, .int f)] [] w Q := by
  have hW' := hW
  obtain ⟨h1, h2, h3, h4, h5, h6, h7⟩ := hW'
  intro m
  induction m with
  | zero =>
    intro k left hk h0 hlt
    have hk' : k = N := by omega
    subst hk'
    omega
  | succ m ih =>
    intro k left hk h0 hlt
    have hkk := i32_nat (show k < 2147483648 by omega)
    have hk150 : k < 150 := by omega
    have hd : drO g a f k = (decide (g (7 * k) = f) && !(decide (g (7 * k) = f) && decide (0 ≤ (a k).toInt))) := rfl
    have hcs : dr_cnt (drO g a f) (k + 1) = dr_cnt (drO g a f) k + (bif drO g a f k then 1 else 0) := rfl
    have hr := i32_rg left
    have hr1 : left.toInt ≤ 2147483647 := hr.2
    refine Rn.step (hf := by rfl) (hs := by rfl) ?_
    refine Rn.step (hf := by rfl) (hs := by rfl) ?_
    refine Rn.step (hf := by rfl) (hs := by rfl) ?_
    refine Rn.call (hf := by rfl) (hs := st_call (by rfl) h1 (Nat.le_of_ble_eq_true rfl)) ?_
    refine dr_of hk150 hW ?_
    refine Rn.step (hf := by rfl) (hs := by rfl) ?_
    refine Rn.step (hf := by rfl) (hs := by simp only [m_step, m_pure]; rfl) ?_
    rw [m_cmp_ne]
    have same : drO g a f k = false → Rn L xs (d + 2) 245 83 [(4, .int (Int32.ofNat k)), (3, .int left), (2, .int mm), (0, .ref 69), (1, .int f)] [] w Q := by
      intro hd
      rw [hd] at hcs
      refine dr_tail hk150 hW ?_
      rw [hd]
      have e : left - Int32.ofInt (bif false then 1 else 0) = left := by
        apply Int32.toInt_inj.mp
        rw [Int32.toInt_sub, show (Int32.ofInt (bif false then 1 else 0)).toInt = 0 by decide, Int.sub_zero, z_bm0 hr]
      rw [e]
      exact ih (k + 1) left (by omega) h0 (by rw [hcs]; simp only [cond_false]; omega)
    by_cases e : g (7 * k) = f
    · rw [decide_eq_true e]
      rw [decide_eq_true e] at hd
      refine Rn.step (hf := by rfl) (hs := by rfl) ?_
      refine Rn.step (hf := by rfl) (hs := st_getf (by rfl) h1 h4) ?_
      refine Rn.step (hf := by rfl) (hs := by rfl) ?_
      refine Rn.step (hf := by rfl) (hs := st_ald h6 hkk (by omega)) ?_
      refine Rn.step (hf := by rfl) (hs := by simp only [m_step, m_pure]; rfl) ?_
      rw [m_cmp_ge0]
      by_cases ea : 0 ≤ (a k).toInt
      · rw [decide_eq_true ea]
        exact same (by rw [hd, decide_eq_true ea]; rfl)
      · rw [decide_eq_false ea]
        rw [decide_eq_false ea] at hd
        refine Rn.step (hf := by rfl) (hs := by rfl) ?_
        refine Rn.step (hf := by rfl) (hs := by simp only [m_step, m_pure]; rfl) ?_
        rw [m_cmp_le0]
        by_cases el : left.toInt ≤ 0
        · rw [decide_eq_true el]
          refine Rn.step (hf := by rfl) (hs := by rfl) ?_
          exact Rn.ret (hf := by rfl) (hs := by rfl) (hQ k hk150)
        · rw [decide_eq_false el]
          have hd' : drO g a f k = true := by rw [hd]; rfl
          rw [hd'] at hcs
          refine dr_tail hk150 hW ?_
          rw [hd']
          have e1 : (left - Int32.ofInt (bif true then 1 else 0)).toInt = left.toInt - 1 := by
            rw [Int32.toInt_sub, show (Int32.ofInt (bif true then 1 else 0)).toInt = 1 by decide, z_bm0 ⟨by show (-2147483648 : Int) ≤ _; omega, by show _ ≤ (2147483647 : Int); omega⟩]
          exact ih (k + 1) _ (by omega) (by rw [e1]; omega) (by rw [hcs, e1]; simp only [cond_true]; omega)
    · rw [decide_eq_false e]
      exact same (by rw [hd, decide_eq_false e]; rfl)
theorem is_film {f nf : Int32} (hw : w[69]? = some (.inr (12, fs))) (hn : fs[11]? = some (.int nf)) (h0 : Q (some (.int (Int32.ofInt 0))) w) (h1 : 0 ≤ f.toInt → Q (some (.int (Int32.ofInt 1))) w) : Rn L xs (d + 1) 157 0 [(0, .ref 69), (1, .int f)] [] w Q := by
  refine Rn.step (hf := by rfl) (hs := by rfl) ?_
  refine Rn.step (hf := by rfl) (hs := by simp only [m_step, m_pure]; rfl) ?_
  rw [m_cmp_lt0]
  by_cases e : f.toInt < 0
  · rw [decide_eq_true e]
    refine Rn.step (hf := by rfl) (hs := by rfl) ?_
    exact Rn.ret (hf := by rfl) (hs := by rfl) h0
  · rw [decide_eq_false e]
    refine Rn.step (hf := by rfl) (hs := by rfl) ?_
    refine Rn.step (hf := by rfl) (hs := by rfl) ?_
    refine Rn.step (hf := by rfl) (hs := st_getf (by rfl) hw hn) ?_
    refine Rn.step (hf := by rfl) (hs := by simp only [m_step, m_pure]; rfl) ?_
    cases m_cmp .ge f nf with
    | true =>
      refine Rn.step (hf := by rfl) (hs := by rfl) ?_
      exact Rn.ret (hf := by rfl) (hs := by rfl) h0
    | false =>
      refine Rn.step (hf := by rfl) (hs := by rfl) ?_
      refine Rn.step (hf := by rfl) (hs := by rfl) ?_
      exact Rn.ret (hf := by rfl) (hs := by rfl) (h1 (by omega))
theorem st_putf {mid ix ci i pc : Nat} (k : Nat) {l : mL} {r : List Value} {v : Value} {fs : List Value} (hR : pgRs mid ix = some (0, ci, Int.ofNat k)) (hm : m_may mid ci k false = true) (hft : m_fits (m_fty ci k) v = true) (hw : w[i]? = some (.inr (ci, fs))) (hk : k < fs.length) : m_step L xs mid pc l (v :: .ref i :: r) w (.putfield ix) = some (.inl (pc + 3, l, r, w.set i (.inr (ci, fs.set k v)))) := by
  have e : (Int.ofNat k).toNat = k := rfl
  simp only [m_step, hR, m_putf, hw, e, hm, hft, hk, and_self, if_true]
  rfl
/-- all of it: -1, -4, or a cost's number; nothing but z is written -/
theorem dr_all {f z nf : Int32} (hW : drW w fs g a N) (hz : fs[1]? = some (.int z)) (hn : fs[11]? = some (.int nf)) (hlen : fs.length = 87) (hQ1 : Q (some (.int (Int32.ofInt (-1)))) w) (hQ4 : Q (some (.int (Int8.ofInt (-4)).toInt32)) w) (hQ : ∀ k z', k < 150 → Q (some (.int (Int32.ofNat k))) (w.set 69 (.inr (12, fs.set 1 (.int z'))))) : Rn L xs (d + 3) 245 0 [(0, .ref 69), (1, .int f)] [] w Q := by
  have hW' := hW
  obtain ⟨h1, h2, h3, h4, h5, h6, h7⟩ := hW'
  refine Rn.step (hf := by rfl) (hs := by rfl) ?_
  refine Rn.step (hf := by rfl) (hs := by rfl) ?_
  refine Rn.call (hf := by rfl) (hs := st_call1 (by rfl) (by rfl) (by rfl) (by decide) (by rfl) h1 (Nat.le_of_ble_eq_true rfl)) ?_
  refine is_film h1 hn ?_ (fun hf0 => ?_)
  · refine Rn.step (hf := by rfl) (hs := by rfl) ?_
    refine Rn.step (hf := by rfl) (hs := by rfl) ?_
    exact Rn.ret (hf := by rfl) (hs := by rfl) hQ1
  · refine Rn.step (hf := by rfl) (hs := by rfl) ?_
    refine Rn.step (hf := by rfl) (hs := by rfl) ?_
    refine Rn.step (hf := by rfl) (hs := by rfl) ?_
    refine Rn.call (hf := by rfl) (hs := st_call1 (by rfl) (by rfl) (by rfl) (by decide) (by rfl) h1 (Nat.le_of_ble_eq_true rfl)) ?_
    refine co_all hW ?_
    refine Rn.step (hf := by rfl) (hs := by rfl) ?_
    refine Rn.step (hf := by rfl) (hs := by rfl) ?_
    refine Rn.call (hf := by rfl) (hs := st_call1 (by rfl) (by rfl) (by rfl) (by decide) (by rfl) h1 (Nat.le_of_ble_eq_true rfl)) ?_
    refine au_all hf0 hW ?_
    have hsub := dr_cnt_sub (drF g f) (drA g a f) (fun i hi => by
      unfold drA at hi
      rw [Bool.and_eq_true] at hi
      exact hi.1) N
    have hO : dr_cnt (fun i => drF g f i && !(drA g a f i)) N = dr_cnt (drO g a f) N := rfl
    rw [hO] at hsub
    have hleF := dr_cnt_le (drF g f) N
    have hm : Int32.ofNat (dr_cnt (drF g f) N) - Int32.ofNat (dr_cnt (drA g a f) N) = Int32.ofNat (dr_cnt (drO g a f) N) := by
      apply Int32.toInt_inj.mp
      rw [Int32.toInt_sub, i32_nat (by omega), i32_nat (by omega), i32_nat (by omega), z_bm0 ⟨by show (-2147483648 : Int) ≤ _; omega, by show _ ≤ (2147483647 : Int); omega⟩]
      omega
    have hmi : (Int32.ofNat (dr_cnt (drO g a f) N)).toInt = (dr_cnt (drO g a f) N : Int) := i32_nat (by omega)
    refine Rn.step (hf := by rfl) (hs := by rfl) ?_
    rw [hm]
    refine Rn.step (hf := by rfl) (hs := by rfl) ?_
    refine Rn.step (hf := by rfl) (hs := by rfl) ?_
    refine Rn.step (hf := by rfl) (hs := by simp only [m_step, m_pure]; rfl) ?_
    have hne : m_cmp .ne (Int32.ofNat (dr_cnt (drO g a f) N)) 0 = !(decide (dr_cnt (drO g a f) N = 0)) := by
      rw [m_cmp_ne]
      congr 1
      rw [Bool.eq_iff_iff, decide_eq_true_eq, decide_eq_true_eq]
      constructor
      · intro h
        have := congrArg Int32.toInt h
        rw [hmi] at this
        have e0 : (0 : Int32).toInt = 0 := by decide
        omega
      · intro h
        rw [h]
        rfl
    rw [hne]
    by_cases e0 : dr_cnt (drO g a f) N = 0
    · rw [decide_eq_true e0]
      refine Rn.step (hf := by rfl) (hs := by rfl) ?_
      exact Rn.ret (hf := by rfl) (hs := by rfl) hQ4
    · rw [decide_eq_false e0]
      refine Rn.step (hf := by rfl) (hs := by rfl) ?_
      refine Rn.step (hf := by rfl) (hs := by rfl) ?_
      refine Rn.step (hf := by rfl) (hs := st_getf (by rfl) h1 hz) ?_
      refine Rn.step (hf := by rfl) (hs := by rfl) ?_
      refine Rn.step (hf := by rfl) (hs := by rfl) ?_
      refine Rn.step (hf := by rfl) (hs := by rfl) ?_
      refine Rn.step (hf := by rfl) (hs := by rfl) ?_
      refine Rn.step (hf := by rfl) (hs := st_putf 1 (by rfl) (by rfl) (by rfl) h1 (by rw [hlen]; decide)) ?_
      generalize hzz : z * Int32.ofInt 1103515245 + (Int16.ofInt 12345).toInt32 = z1
      have hWn : drW (w.set 69 (.inr (12, fs.set 1 (.int z1)))) (fs.set 1 (.int z1)) g a N := by
        refine ⟨by rw [getE_set h1]; exact if_pos rfl, by rw [List.getElem?_set_ne (by decide)]; exact h2, by rw [List.getElem?_set_ne (by decide)]; exact h3, by rw [List.getElem?_set_ne (by decide)]; exact h4, by rw [getE_set h1, if_neg (by decide)]; exact h5, by rw [getE_set h1, if_neg (by decide)]; exact h6, h7⟩
      have hz1 : (fs.set 1 (.int z1))[1]? = some (.int z1) := by rw [List.getElem?_set_self (by omega)]
      have hw1 := hWn.1
      refine Rn.step (hf := by rfl) (hs := by rfl) ?_
      refine Rn.step (hf := by rfl) (hs := st_getf (by rfl) hw1 hz1) ?_
      refine Rn.step (hf := by rfl) (hs := by rfl) ?_
      refine Rn.step (hf := by rfl) (hs := by rfl) ?_
      refine Rn.step (hf := by rfl) (hs := by rfl) ?_
      have hu := i32_ushr (x := z1) (y := (Int8.ofInt 8).toInt32) (by decide) (by decide)
      have hMne : (Int32.ofNat (dr_cnt (drO g a f) N)).toInt ≠ 0 := by omega
      obtain ⟨q, q1, q2⟩ := m_i2_op (ins := .irem) (o := 4) rfl ((z1.toUInt32 >>> ((Int8.ofInt 8).toInt32.toUInt32 &&& Int32.toUInt32 31)).toInt32) (Int32.ofNat (dr_cnt (drO g a f) N)) (fun _ => hMne)
      have q3 := q2.2 hu (by omega)
      have q4 := Int.emod_nonneg ((z1.toUInt32 >>> ((Int8.ofInt 8).toInt32.toUInt32 &&& Int32.toUInt32 31)).toInt32).toInt hMne
      have q5 := Int.emod_lt_of_pos ((z1.toUInt32 >>> ((Int8.ofInt 8).toInt32.toUInt32 &&& Int32.toUInt32 31)).toInt32).toInt (show 0 < (Int32.ofNat (dr_cnt (drO g a f) N)).toInt by omega)
      refine Rn.step (hf := by rfl) (hs := by simp only [m_step, m_pure, m_bi, q1]; rfl) ?_
      refine Rn.step (hf := by rfl) (hs := by rfl) ?_
      refine Rn.step (hf := by rfl) (hs := by rfl) ?_
      refine Rn.step (hf := by rfl) (hs := by rfl) ?_
      exact dr_loop hWn (fun k hk => hQ k z1 hk) N 0 q (by omega) (by omega) (by show q.toInt + (0 : Int) < _; omega)
end DRAW2
