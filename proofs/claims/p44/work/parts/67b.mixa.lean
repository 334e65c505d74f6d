/-! EQUAL ROWS BY THE FUNCTIONS; ANY KEEPER -/
def okA (A : AW) : Prop := ∃ w, WI zZ w ∧ aw w = A
theorem okA.fld {A : AW} (h : okA A) {i k : Nat} {lo hi : Int} (hz : z_fs zZ i k = some (0, lo, hi)) : lo ≤ (A.1 i k).toInt ∧ (A.1 i k).toInt ≤ hi := by
  obtain ⟨w, hW, rfl⟩ := h
  exact rg_fld hW hz
theorem okA.arr {A : AW} (h : okA A) {i t n j : Nat} {lo hi : Int} (hz : zZ.1[i]? = some (1, t, n, [(0, lo, hi)])) (hj : j < n) : lo ≤ (A.1 i j).toInt ∧ (A.1 i j).toInt ≤ hi := by
  obtain ⟨w, hW, rfl⟩ := h
  exact rg_arr hW hz hj
def eqF (F : zRF) (A : AW) : Prop := ∀ p ∈ F, A.1 p.1.1 p.1.2 = A.1 p.2.1 p.2.2
def z_aI (c : Nat) : Option Nat := match zZ.1[c]? with
  | some (1, t, n, [(0, _, _)]) => bif Nat.blt t 2 then some n else none
  | _ => none
theorem z_aI_ok {w : mWd} (hW : WI zZ w) {c n : Nat} (h : z_aI c = some n) : ∃ t f, w[c]? = some (.inl (t, n, .inl f)) ∧ ∀ j, (aw w).1 c j = f j := by
  unfold z_aI at h
  split at h
  next t n' lo hi hz =>
    cases e : Nat.blt t 2 with
    | false => rw [e] at h; cases h
    | true =>
      rw [e] at h
      cases h
      have ht : t < 2 := Nat.le_of_ble_eq_true e
      obtain ⟨a, h1, h2, -⟩ := WI_arr hW hz
      have h3 : shp (.inl (t, n, a)) = (0, t, n) := by
        rw [h2]
        rcases (by omega : t = 0 ∨ t = 1) with q | q <;> subst q <;> rfl
      obtain ⟨f, hf⟩ := shp_int h3
      cases hf
      exact ⟨t, f, h1, fun j => by rw [(aw_at h1).1]; rfl⟩
  next => cases h
/-- two rows of one length are equal -/
def eqR (n : Nat) (p : Nat × Nat) (A : AW) : Prop := ∀ j, j < n → A.1 p.1 j = A.1 p.2 j
def z_aP (p : Nat × Nat) : Option Nat := match z_aI p.1, z_aI p.2 with
  | some n, some m => bif Nat.beq n m then some n else none
  | _, _ => none
theorem z_aP_ok {p : Nat × Nat} {n : Nat} (h : z_aP p = some n) : z_aI p.1 = some n ∧ z_aI p.2 = some n := by
  unfold z_aP at h
  split at h
  next a b h1 h2 =>
    cases e : Nat.beq a b with
    | true =>
      rw [e] at h
      cases h
      have := Nat.eq_of_beq_eq_true e
      rw [← this] at h2
      exact ⟨h1, h2⟩
    | false => rw [e] at h; cases h
  next => cases h
theorem rA_of {w : mWd} (hW : WI zZ w) {p : Nat × Nat} {n : Nat} (h : z_aP p = some n) : rA w p ↔ eqR n p (aw w) := by
  obtain ⟨h1, h2⟩ := z_aP_ok h
  obtain ⟨t1, f, f1, f2⟩ := z_aI_ok hW h1
  obtain ⟨t2, g, g1, g2⟩ := z_aI_ok hW h2
  constructor
  · rintro ⟨t, m, a, t', b, c1, c2, c3⟩ j hj
    rw [f1] at c1; cases c1
    rw [g1] at c2; cases c2
    have := c3 j hj
    rw [f2, g2]
    have h9 : Value.int (f j) = .int (g j) := this
    injection h9
  · intro hq
    refine ⟨t1, n, .inl f, t2, .inl g, f1, g1, fun j hj => ?_⟩
    have := hq j hj
    rw [f2, g2] at this
    show Value.int (f j) = .int (g j)
    rw [this]
def eqRs (Ar : zRA) (A : AW) : Prop := ∀ p ∈ Ar, ∀ n, z_aP p = some n → eqR n p A
def okRs (Ar : zRA) : Bool := Ar.all (fun p => match z_aP p with
  | some _ => true
  | none => false)
def okFs (F : zRF) : Bool := F.all (fun p => z_isI p.1.1 p.1.2 && z_isI p.2.1 p.2.2)
theorem RI_ofA {w : mWd} {F : zRF} {Ar : zRA} (hW : WI zZ w) (hF : okFs F = true) (hA : okRs Ar = true) : RI F Ar w ↔ ((∀ p ∈ F, (aw w).1 p.1.1 p.1.2 = (aw w).1 p.2.1 p.2.2) ∧ eqRs Ar (aw w)) := by
  constructor
  · intro h
    exact ⟨fun p hp => (rF_of hW (List.all_eq_true.mp hF p hp)).mp (h.1 p hp), fun p hp n hn => (rA_of hW hn).mp (h.2 p hp)⟩
  · intro h
    refine ⟨fun p hp => (rF_of hW (List.all_eq_true.mp hF p hp)).mpr (h.1 p hp), fun p hp => ?_⟩
    have hq := List.all_eq_true.mp hA p hp
    cases hz : z_aP p with
    | none => rw [hz] at hq; cases hq
    | some n => exact (rA_of hW hz).mpr (h.2 p hp n hz)
/-- a relation and what keeps it -/
def Keeps (RX : AW → Prop) (kR : zWr → Bool) : Prop := ∀ (wr : zWr) (w w1 : mWd), WI zZ w → WI zZ w1 → fR wr w w1 → kR wr = true → RX (aw w) → RX (aw w1)
theorem Keeps.of {RX : AW → Prop} {S : zSu} (hs : ∀ A B, AgS S A B → RX A → RX B) : Keeps RX (kpS S) := fun _ _ _ hW _ hf hk h => hs _ _ (kpS_ok hW hf hk) h
theorem Keeps.and {R1 R2 : AW → Prop} {k1 k2 : zWr → Bool} (h1 : Keeps R1 k1) (h2 : Keeps R2 k2) : Keeps (fun A => R1 A ∧ R2 A) (fun wr => k1 wr && k2 wr) := fun wr w w1 hW hW1 hf hk h => by
  rw [Bool.and_eq_true] at hk
  exact ⟨h1 wr w w1 hW hW1 hf hk.1 h.1, h2 wr w w1 hW hW1 hf hk.2 h.2⟩
/-- the relation of a claim -/
def RR (F : zRF) (Ar : zRA) (RX : AW → Prop) (w : mWd) : Prop := RI F Ar w ∧ RX (aw w)
/-- what a pair owes -/
def PairOK (R : mWd → Prop) (p : zPr) : Prop := ∀ (L : Nat) (xs : Nat → Int32) (d : Nat), 700 ≤ d → ∀ (w : mWd) (as : List Int32), WI zZ w → wkR [] none w → R w → as.length = p.2.2.1 → Rn L xs d p.1 0 (lv_args 0 (.ref 0 :: as.map Value.int)) [] w (fun v w1 => WI zZ w1 ∧ Rn L xs d p.2.1 0 (lv_args 0 (.ref 69 :: as.map Value.int)) [] w1 (fun v2 w2 => prQ3 zZ R p w v v2 w2))
def c_get1 (y cell n : Nat) : Int × Int × (Nat × Nat) × zWr := match l_con zT y cell n with
  | some q => q
  | none => (0, 0, (0, 0), [])
def c_is (y cell n : Nat) : Bool := match l_con zT y cell n with
  | some _ => true
  | none => false
theorem c_is_ok {y cell n : Nat} (h : c_is y cell n = true) : l_con zT y cell n = some (c_get1 y cell n) := by
  unfold c_is at h
  unfold c_get1
  split at h
  next q hq => rw [hq]
  next => cases h
/-- the room of a pair -/
def c_rm (p : zPr) : Bool := (c_is p.1 0 p.2.2.1 && c_is p.2.1 69 p.2.2.1) && (Nat.ble ((c_get1 p.1 0 p.2.2.1).2.2.1.1 + (c_get1 p.2.1 69 p.2.2.1).2.2.1.1) p.2.2.2.2.2.2.1.1 && Nat.ble ((c_get1 p.1 0 p.2.2.1).2.2.1.2 + (c_get1 p.2.1 69 p.2.2.1).2.2.1.2) p.2.2.2.2.2.2.1.2)
theorem pairC {p : zPr} {F : zRF} {Ar : zRA} {n : Nat} {RX : AW → Prop} {kR : zWr → Bool} (h : pairB zZ zT F Ar p n = true) (hc : c_rm p = true) (hs : Keeps RX kR) (k1 : kR (c_get1 p.1 0 p.2.2.1).2.2.2 = true) (k2 : kR (c_get1 p.2.1 69 p.2.2.1).2.2.2 = true) : PairOK (RR F Ar RX) p := by
  intro L xs d hd w as hW hk hR hl
  unfold c_rm at hc
  rw [Bool.and_eq_true, Bool.and_eq_true] at hc
  have a := pair_ok (L := L) (xs := xs) (d := d) zN_ok z_all h hW hk hR.1 hl hd
  have b := l_cl (L := L) (xs := xs) (c_is_ok hc.1.1) hW hk hl hd
  refine (a.and b).mono (fun v w1 hq => ?_)
  obtain ⟨⟨c1, c2⟩, x, e1, e2, e3, e4, e5, e6, e7, e8⟩ := hq
  refine ⟨c1, ?_⟩
  have b2 := l_cl (L := L) (xs := xs) (c_is_ok hc.1.2) e4 e5 hl hd
  refine (c2.and b2).mono (fun v2 w2 hq2 => ?_)
  obtain ⟨⟨f1, f2, f3, f4, f5, f6⟩, y, g1, g2, g3, g4, g5, g6, g7, g8⟩ := hq2
  exact ⟨f1, f2, f3, ⟨f4, hs _ _ _ e4 f2 g8 k2 (hs _ _ _ hW e4 e8 k1 hR.2)⟩, f5, f6⟩
theorem pairK2 {p : zPr} {F : zRF} {Ar : zRA} {RX : AW → Prop} {D E : List Int32 → AW → Option Value → AW → Prop} (hF : okFs F = true) (hA : okRs Ar = true) (hc : c_rm p = true)
    (hX : ∀ (N : Nat) (A : AW) (as : List Int32), okA A → eqF F A → eqRs Ar A → RX A → as.length = p.2.2.1 → Pa N p.1 0 (lv_args 0 (.ref 0 :: as.map Value.int)) [] A (D as A))
    (hM : ∀ (N : Nat) (A A1 : AW) (as : List Int32) (x : Int32), okA A → okA A1 → eqF F A → eqRs Ar A → RX A → as.length = p.2.2.1 → D as A (some (.int x)) A1 → Pa N p.2.1 0 (lv_args 0 (.ref 69 :: as.map Value.int)) [] A1 (E as A1))
    (hK : ∀ (A A1 A2 : AW) (as : List Int32) (x y : Int32), okA A → okA A1 → okA A2 → eqF F A → eqRs Ar A → RX A → as.length = p.2.2.1 → D as A (some (.int x)) A1 → E as A1 (some (.int y)) A2 → eqF F A2 ∧ eqRs Ar A2 ∧ RX A2 ∧ (p.2.2.2.1 = true → x = y)) : PairOK (RR F Ar RX) p := by
  intro L xs d hd w as hW hk hR hl
  unfold c_rm at hc
  rw [Bool.and_eq_true, Bool.and_eq_true, Bool.and_eq_true] at hc
  refine pa_pair (R := RR F Ar RX) (S1 := D) (S2 := E) (c_is_ok hc.1.1) (c_is_ok hc.1.2) hc.2.1 hc.2.2 (fun N w as hW hR hl => ?_) (fun N w w1 as x hW hW1 hR hl hs => ?_) ?_ hd w as hW hk hR hl
  · have hq := (RI_ofA hW hF hA).mp hR.1
    exact hX N (aw w) as ⟨w, hW, rfl⟩ hq.1 hq.2 hR.2 hl
  · have hq := (RI_ofA hW hF hA).mp hR.1
    exact hM N (aw w) (aw w1) as x ⟨w, hW, rfl⟩ ⟨w1, hW1, rfl⟩ hq.1 hq.2 hR.2 hl hs
  · intro w w1 w2 as x y hW hW1 hW2 hR hl _ _ _ _ _ _ s1 s2
    have hq := (RI_ofA hW hF hA).mp hR.1
    obtain ⟨k1, k2, k3, k4⟩ := hK (aw w) (aw w1) (aw w2) as x y ⟨w, hW, rfl⟩ ⟨w1, hW1, rfl⟩ ⟨w2, hW2, rfl⟩ hq.1 hq.2 hR.2 hl s1 s2
    exact ⟨⟨(RI_ofA hW2 hF hA).mpr ⟨k1, k2⟩, k3⟩, k4⟩
theorem pairK {p : zPr} {F : zRF} {Ar : zRA} {RX : AW → Prop} {D E : List Int32 → AW → Option Value → AW → Prop} (hF : okFs F = true) (hA : okRs Ar = true) (hc : c_rm p = true)
    (hX : ∀ (N : Nat) (A : AW) (as : List Int32), okA A → as.length = p.2.2.1 → Pa N p.1 0 (lv_args 0 (.ref 0 :: as.map Value.int)) [] A (D as A))
    (hM : ∀ (N : Nat) (A : AW) (as : List Int32), okA A → as.length = p.2.2.1 → Pa N p.2.1 0 (lv_args 0 (.ref 69 :: as.map Value.int)) [] A (E as A))
    (hK : ∀ (A A1 A2 : AW) (as : List Int32) (x y : Int32), okA A → okA A1 → okA A2 → eqF F A → eqRs Ar A → RX A → as.length = p.2.2.1 → D as A (some (.int x)) A1 → E as A1 (some (.int y)) A2 → eqF F A2 ∧ eqRs Ar A2 ∧ RX A2 ∧ (p.2.2.2.1 = true → x = y)) : PairOK (RR F Ar RX) p :=
  pairK2 hF hA hc (fun N A as h _ _ _ hl => hX N A as h hl) (fun N _ A1 as _ _ h _ _ _ hl _ => hM N A1 as h hl) hK
theorem kpRR {F : zRF} {Ar : zRA} {RX : AW → Prop} {kR : zWr → Bool} (hs : Keeps RX kR) (wr : zWr) (w w1 : mWd) (hW : WI zZ w) (hR : RR F Ar RX w) (hW1 : WI zZ w1) (hf : fR wr w w1) (hk : (ri_wr zZ F Ar wr && kR wr) = true) : RR F Ar RX w1 := by
  rw [Bool.and_eq_true] at hk
  exact ⟨ri_keep hW hR.1 hf hk.1, hs wr w w1 hW hW1 hf hk.2 hR.2⟩
