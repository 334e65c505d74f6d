/-! WHOLE ARRAYS AS FUNCTIONS, pairs whose relation no call writes -/
theorem uI_uG {A : AW} {c k : Nat} {g : Nat → Int32} {x : Int32} : uI (uF A c g) c k x = uF A c (fun j => if j = k then x else g j) := by
  refine Prod.ext ?_ rfl
  funext c' k'
  show (if c' = c ∧ k' = k then x else (if c' = c then g k' else A.1 c' k')) = (if c' = c then (if k' = k then x else g k') else A.1 c' k')
  by_cases e : c' = c
  · by_cases e2 : k' = k
    · rw [if_pos ⟨e, e2⟩, if_pos e, if_pos e2]
    · rw [if_neg (fun q => e2 q.2), if_pos e, if_pos e, if_neg e2]
  · rw [if_neg (fun q => e q.1), if_neg e, if_neg e]
theorem uG_self {A : AW} {c : Nat} : uF A c (A.1 c) = A := by
  refine Prod.ext ?_ rfl
  funext c' k'
  show (if c' = c then A.1 c k' else A.1 c' k') = A.1 c' k'
  by_cases e : c' = c
  · rw [if_pos e, e]
  · rw [if_neg e]
theorem i_subx {c f : Int32} {x : Int} (h : c.toInt - f.toInt = x) (h0 : -1000000 ≤ x) (h1 : x ≤ 1000000) : (c - f).toInt = x := by
  rw [Int32.toInt_sub, h]
  exact z_bm0 ⟨by show (-2147483648 : Int) ≤ _; omega, by show _ ≤ (2147483647 : Int); omega⟩
theorem i_addx {c f : Int32} {x : Int} (h : c.toInt + f.toInt = x) (h0 : -1000000 ≤ x) (h1 : x ≤ 1000000) : (c + f).toInt = x := by
  rw [Int32.toInt_add, h]
  exact z_bm0 ⟨by show (-2147483648 : Int) ≤ _; omega, by show _ ≤ (2147483647 : Int); omega⟩
theorem i_pre {t : Int32} {b : Nat} (h : t.toInt = ((b + 1 : Nat) : Int)) (hb : b < 100000) : (t - 1).toInt = (b : Int) ∧ (t + (-1)).toInt = (b : Int) :=
  ⟨i_subx (by rw [show (1 : Int32).toInt = 1 from by decide]; omega) (by omega) (by omega), i_addx (by rw [show (-1 : Int32).toInt = -1 from by decide]; omega) (by omega) (by omega)⟩
theorem rg_per {w : mWd} (hW : WI zZ w) {i t n j : Nat} {a b lo hi : Int} (h : zZ.1[i]? = some (1, t, n, [(7, a, b)])) (hj : j < n) (hw : z_es zZ.2.2 (7, a, b) j = (0, lo, hi)) : lo ≤ ((aw w).1 i j).toInt ∧ ((aw w).1 i j).toInt ≤ hi := by
  obtain ⟨q, h1, h2, h3⟩ := WI_arr hW h
  have h4 := h3 j hj
  rw [hw] at h4
  obtain ⟨x, hx, b1, b2⟩ := h4
  have : (aw w).1 i j = x := by
    rw [(aw_at h1).1]
    obtain ⟨f, hf, hfx⟩ := el_int hx
    subst hf
    exact hfx
  rw [this]
  exact ⟨b1, b2⟩
theorem okA.per {A : AW} (h : okA A) {i t n j : Nat} {a b lo hi : Int} (hz : zZ.1[i]? = some (1, t, n, [(7, a, b)])) (hj : j < n) (hw : z_es zZ.2.2 (7, a, b) j = (0, lo, hi)) : lo ≤ (A.1 i j).toInt ∧ (A.1 i j).toInt ≤ hi := by
  obtain ⟨w, hW, rfl⟩ := h
  exact rg_per hW hz hj hw
theorem uI_row {A : AW} {c j k : Nat} {x : Int32} : (uI A c k x).1 c j = if j = k then x else A.1 c j := by
  show (if c = c ∧ j = k then x else A.1 c j) = if j = k then x else A.1 c j
  by_cases e : j = k
  · rw [if_pos ⟨rfl, e⟩, if_pos e]
  · rw [if_neg (fun q => e q.2), if_neg e]
theorem i_abs90 {x : Int32} (h0 : -1000000 ≤ x.toInt) (h1 : x.toInt ≤ 1000000) : (i_abs x).toInt ≤ 90 ↔ ((-90) ≤ x.toInt ∧ x.toInt ≤ 90) := by
  unfold i_abs
  have z : (0 : Int32).toInt = 0 := by decide
  by_cases h : 0 ≤ x
  · have h2 := Int32.le_iff_toInt_le.mp h
    rw [if_pos h]
    omega
  · have h2 : ¬ (0 : Int32).toInt ≤ x.toInt := fun q => h (Int32.le_iff_toInt_le.mpr q)
    rw [if_neg h, i_subx (x := 0 - x.toInt) (by rw [z]) (by omega) (by omega)]
    omega
theorem PairOK.ex0 {F : zRF} {Ar : zRA} {R1 R2 : AW → Prop} {k2 : zWr → Bool} {p : zPr} (h : PairOK (RR F Ar R1) p) (hc : c_rm p = true) (hs : Keeps R2 k2) (q1 : k2 (c_get1 p.1 0 p.2.2.1).2.2.2 = true) (q2 : k2 (c_get1 p.2.1 69 p.2.2.1).2.2.2 = true) : PairOK (RR F Ar (fun A => R1 A ∧ R2 A)) p :=
  (PairOK.fr (R2 := fun w => R2 (aw w)) (k2 := k2) h hc (fun wr w w1 a b c e f => hs wr w w1 a c e f b) q1 q2).cong (fun w => ⟨fun q => ⟨q.1.1, q.1.2, q.2⟩, fun q => ⟨⟨q.1, q.2.1⟩, q.2.2⟩⟩)
