/-! WHOLE ARRAYS AS FUNCTIONS, pairs whose relation no call writes -/
theorem uG_self {A : AW} {c : Nat} : uF A c (A.1 c) = A := by
  refine Prod.ext ?_ rfl
  funext c' k'
  show (if c' = c then A.1 c k' else A.1 c' k') = A.1 c' k'
  by_cases e : c' = c
  · rw [if_pos e, e]
  · rw [if_neg e]
theorem i_subx {c f : Int32} {x : Int} (h : c.toInt - f.toInt = x) (h0 : -1000000 ≤ x) (h1 : x ≤ 1000000) : (c - f).toInt = x := by
  rw [Int32.toInt_sub, h]
  exact z_bm0 ⟨by show (-2147483648 : Int) ≤ _; omega, by show _ ≤ (2147483647 : Int); omega⟩
theorem i_addx {c f : Int32} {x : Int} (h : c.toInt + f.toInt = x) (h0 : -1000000 ≤ x) (h1 : x ≤ 1000000) : (c + f).toInt = x := by
  rw [Int32.toInt_add, h]
  exact z_bm0 ⟨by show (-2147483648 : Int) ≤ _; omega, by show _ ≤ (2147483647 : Int); omega⟩
theorem rg_per {w : mWd} (hW : WI zZ w) {i t n j : Nat} {a b lo hi : Int} (h : zZ.1[i]? = some (1, t, n, [(7, a, b)])) (hj : j < n) (hw : z_es zZ.2.2 (7, a, b) j = (0, lo, hi)) : lo ≤ ((aw w).1 i j).toInt ∧ ((aw w).1 i j).toInt ≤ hi := by
  obtain ⟨q, h1, h2, h3⟩ := WI_arr hW h
  have h4 := h3 j hj
  rw [hw] at h4
  obtain ⟨x, hx, b1, b2⟩ := h4
  have : (aw w).1 i j = x := by
    rw [(aw_at h1).1]
    obtain ⟨f, hf, hfx⟩ := el_int hx
    subst hf
    exact hfx
  rw [this]
  exact ⟨b1, b2⟩
theorem okA.per {A : AW} (h : okA A) {i t n j : Nat} {a b lo hi : Int} (hz : zZ.1[i]? = some (1, t, n, [(7, a, b)])) (hj : j < n) (hw : z_es zZ.2.2 (7, a, b) j = (0, lo, hi)) : lo ≤ (A.1 i j).toInt ∧ (A.1 i j).toInt ≤ hi := by
  obtain ⟨w, hW, rfl⟩ := h
  exact rg_per hW hz hj hw
/-- a pair whose calls write nothing that the relation speaks of: the answers alone are left -/
theorem pairF {p : zPr} {F : zRF} {Ar : zRA} {RX : AW → Prop} {kR : zWr → Bool} {D E : List Int32 → AW → Option Value → AW → Prop} (hF : okFs F = true) (hA : okRs Ar = true) (hc : c_rm p = true) (hs : Keeps RX kR) (q1 : (ri_wr zZ F Ar (c_get1 p.1 0 p.2.2.1).2.2.2 && kR (c_get1 p.1 0 p.2.2.1).2.2.2) = true) (q2 : (ri_wr zZ F Ar (c_get1 p.2.1 69 p.2.2.1).2.2.2 && kR (c_get1 p.2.1 69 p.2.2.1).2.2.2) = true)
    (hX : ∀ (N : Nat) (A : AW) (as : List Int32), okA A → eqF F A → eqRs Ar A → RX A → as.length = p.2.2.1 → Pa N p.1 0 (lv_args 0 (.ref 0 :: as.map Value.int)) [] A (D as A))
    (hM : ∀ (N : Nat) (A : AW) (as : List Int32), okA A → eqF F A → eqRs Ar A → RX A → as.length = p.2.2.1 → Pa N p.2.1 0 (lv_args 0 (.ref 69 :: as.map Value.int)) [] A (E as A))
    (hK : ∀ (A A1 A2 : AW) (as : List Int32) (x y : Int32), okA A → okA A1 → okA A2 → eqF F A → eqRs Ar A → RX A → eqF F A1 → eqRs Ar A1 → RX A1 → as.length = p.2.2.1 → D as A (some (.int x)) A1 → E as A1 (some (.int y)) A2 → p.2.2.2.1 = true → x = y) : PairOK (RR F Ar RX) p := by
  intro L xs d hd w as hW hk hR hl
  unfold c_rm at hc
  rw [Bool.and_eq_true, Bool.and_eq_true, Bool.and_eq_true] at hc
  have b := l_cl (L := L) (xs := xs) (c_is_ok hc.1.1) hW hk hl hd
  have hq := (RI_ofA hW hF hA).mp hR.1
  refine (b.pa (fun N => hX N (aw w) as ⟨w, hW, rfl⟩ hq.1 hq.2 hR.2 hl) (SH_of hW)).mono (fun v w1 hv => ?_)
  obtain ⟨⟨x, rfl, e2, e3, e4, e5, e6, e7, e8⟩, s1⟩ := hv
  refine ⟨e4, ?_⟩
  have hR1 : RR F Ar RX w1 := kpRR hs _ w w1 hW hR e4 e8 q1
  have hq1 := (RI_ofA e4 hF hA).mp hR1.1
  have b2 := l_cl (L := L) (xs := xs) (c_is_ok hc.1.2) e4 e5 hl hd
  refine (b2.pa (fun N => hM N (aw w1) as ⟨w1, e4, rfl⟩ hq1.1 hq1.2 hR1.2 hl) (SH_of e4)).mono (fun v2 w2 hv2 => ?_)
  obtain ⟨⟨y, rfl, f2, f3, f4, f5, f6, f7, f8⟩, s2⟩ := hv2
  have hR2 : RR F Ar RX w2 := kpRR hs _ w1 w2 e4 hR1 f4 f8 q2
  have ha := Nat.le_of_ble_eq_true hc.2.1
  have hb := Nat.le_of_ble_eq_true hc.2.2
  exact ⟨⟨x, y, rfl, rfl, fun h => hK (aw w) (aw w1) (aw w2) as x y ⟨w, hW, rfl⟩ ⟨w1, e4, rfl⟩ ⟨w2, f4, rfl⟩ hq.1 hq.2 hR.2 hq1.1 hq1.2 hR1.2 hl s1 s2 h⟩, f4, f5, hR2, by omega, by omega⟩
theorem uI_row {A : AW} {c j k : Nat} {x : Int32} : (uI A c k x).1 c j = if j = k then x else A.1 c j := by
  show (if c = c ∧ j = k then x else A.1 c j) = if j = k then x else A.1 c j
  by_cases e : j = k
  · rw [if_pos ⟨rfl, e⟩, if_pos e]
  · rw [if_neg (fun q => e q.2), if_neg e]
theorem PairOK.ex0 {F : zRF} {Ar : zRA} {R1 R2 : AW → Prop} {k2 : zWr → Bool} {p : zPr} (h : PairOK (RR F Ar R1) p) (hc : c_rm p = true) (hs : Keeps R2 k2) (q1 : k2 (c_get1 p.1 0 p.2.2.1).2.2.2 = true) (q2 : k2 (c_get1 p.2.1 69 p.2.2.1).2.2.2 = true) : PairOK (RR F Ar (fun A => R1 A ∧ R2 A)) p :=
  (PairOK.fr (R2 := fun w => R2 (aw w)) (k2 := k2) h hc (fun wr w w1 a b c e f => hs wr w w1 a c e f b) q1 q2).cong (fun w => ⟨fun q => ⟨q.1.1, q.1.2, q.2⟩, fun q => ⟨⟨q.1, q.2.1⟩, q.2.2⟩⟩)
