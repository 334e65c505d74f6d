/-! PAIRS BY THE CHECKER AND PAIRS BY HAND, TOGETHER -/
theorem Rn.and {L : Nat} {xs : Nat → Int32} {d mid pc : Nat} {lv : mL} {st : List Value} {w : mWd} {P Q : Option Value → mWd → Prop} (h : Rn L xs d mid pc lv st w P) (h2 : Rn L xs d mid pc lv st w Q) : Rn L xs d mid pc lv st w (fun v w1 => P v w1 ∧ Q v w1) := by
  obtain ⟨n, v, w1, a1, a2⟩ := h
  obtain ⟨m, u, w2, b1, b2⟩ := h2
  have c1 := m_run_more n m _ _ _ _ _ _ _ a1
  have c2 := m_run_more m n _ _ _ _ _ _ _ b1
  rw [Nat.add_comm m n] at c2
  rw [c1] at c2
  cases c2
  exact ⟨n, v, w1, a1, a2, b2⟩
/-- what a call of the face leaves, by its contract -/
theorem l_cl {L : Nat} {xs : Nat → Int32} {y cell n d : Nat} {q : Int × Int × (Nat × Nat) × zWr} {w : mWd} {as : List Int32} (hc : l_con zT y cell n = some q) (hW : WI zZ w) (hk : wkR [] none w) (hl : as.length = n) (hd : 700 ≤ d) : Rn L xs d y 0 (lv_args 0 (.ref cell :: as.map Value.int)) [] w (fun v w1 => ∃ x : Int32, v = some (.int x) ∧ q.1 ≤ x.toInt ∧ x.toInt ≤ q.2.1 ∧ WI zZ w1 ∧ wkR [] none w1 ∧ w1.length ≤ w.length + q.2.2.1.1 ∧ m_sl w1 ≤ m_sl w + q.2.2.1.2 ∧ fR q.2.2.2 w w1) := by
  refine l_call z_all hc hW hk hl hd (fun x w1 b1 b2 b3 b4 b5 b6 b7 => ?_)
  exact ⟨x, rfl, b1, b2, b3, b4, b5, b6, b7⟩
theorem pair_mix {p : zPr} {F : zRF} {Ar : zRA} {n : Nat} {RX : AW → Prop} {S : zSu} {L : Nat} {xs : Nat → Int32} {d : Nat} {q1 q2 : Int × Int × (Nat × Nat) × zWr} (h : pairB zZ zT F Ar p n = true) (h1 : l_con zT p.1 0 p.2.2.1 = some q1) (h2 : l_con zT p.2.1 69 p.2.2.1 = some q2) (hs : ∀ A B, AgS S A B → RX A → RX B) (k1 : kpS S q1.2.2.2 = true) (k2 : kpS S q2.2.2.2 = true) (hd : 700 ≤ d) (w : mWd) (as : List Int32) (hW : WI zZ w) (hk : wkR [] none w) (hR : RI F Ar w ∧ RX (aw w)) (hl : as.length = p.2.2.1) : Rn L xs d p.1 0 (lv_args 0 (.ref 0 :: as.map Value.int)) [] w (fun v w1 => WI zZ w1 ∧ Rn L xs d p.2.1 0 (lv_args 0 (.ref 69 :: as.map Value.int)) [] w1 (fun v2 w2 => prQ3 zZ (fun w => RI F Ar w ∧ RX (aw w)) p w v v2 w2)) := by
  have a := pair_ok (L := L) (xs := xs) (d := d) zN_ok z_all h hW hk hR.1 hl hd
  have b := l_cl (L := L) (xs := xs) h1 hW hk hl hd
  refine (a.and b).mono (fun v w1 hq => ?_)
  obtain ⟨⟨c1, c2⟩, x, e1, e2, e3, e4, e5, e6, e7, e8⟩ := hq
  refine ⟨c1, ?_⟩
  have b2 := l_cl (L := L) (xs := xs) h2 e4 e5 hl hd
  refine (c2.and b2).mono (fun v2 w2 hq2 => ?_)
  obtain ⟨⟨f1, f2, f3, f4, f5, f6⟩, y, g1, g2, g3, g4, g5, g6, g7, g8⟩ := hq2
  exact ⟨f1, f2, f3, ⟨f4, hs _ _ (kpS_ok e4 g8 k2) (hs _ _ (kpS_ok hW e8 k1) hR.2)⟩, f5, f6⟩
/-- the other calls keep it all -/
theorem kp_mix {F : zRF} {Ar : zRA} {RX : AW → Prop} {S : zSu} (hs : ∀ A B, AgS S A B → RX A → RX B) (wr : zWr) (w w1 : mWd) (hW : WI zZ w) (hR : RI F Ar w ∧ RX (aw w)) (_ : WI zZ w1) (hf : fR wr w w1) (hk : (ri_wr zZ F Ar wr && kpS S wr) = true) : RI F Ar w1 ∧ RX (aw w1) := by
  rw [Bool.and_eq_true] at hk
  exact ⟨ri_keep hW hR.1 hf hk.1, hs _ _ (kpS_ok hW hf hk.2) hR.2⟩
/-- equal fields, by the functions -/
def z_isI (i k : Nat) : Bool := match z_fs zZ i k with
  | some (0, _, _) => true
  | _ => false
theorem z_isI_ok {w : mWd} (hW : WI zZ w) {i k : Nat} (h : z_isI i k = true) : i < 129 ∧ ∃ ci fs, w[i]? = some (.inr (ci, fs)) ∧ fs[k]? = some (.int ((aw w).1 i k)) := by
  unfold z_isI at h
  split at h
  next lo hi hz =>
    obtain ⟨l, ci, fs, x, h1, h2, h3⟩ := z_fs_ok hW hz
    refine ⟨l, ci, fs, h1, ?_⟩
    have : (aw w).1 i k = x := by
      rw [(aw_at h1).1]
      show (match fs[k]? with | some (.int x) => x | _ => 0) = x
      rw [h2]
    rw [this]
    exact h2
  next => cases h
theorem rF_of {w : mWd} (hW : WI zZ w) {p : (Nat × Nat) × (Nat × Nat)} (h : (z_isI p.1.1 p.1.2 && z_isI p.2.1 p.2.2) = true) : rF w p ↔ (aw w).1 p.1.1 p.1.2 = (aw w).1 p.2.1 p.2.2 := by
  rw [Bool.and_eq_true] at h
  obtain ⟨l1, ci, fs, a1, a2⟩ := z_isI_ok hW h.1
  obtain ⟨l2, cj, gs, b1, b2⟩ := z_isI_ok hW h.2
  constructor
  · rintro ⟨-, ci', cj', fs', gs', x, c1, c2, c3, c4⟩
    rw [a1] at c1; cases c1
    rw [b1] at c3; cases c3
    rw [a2] at c2
    rw [b2] at c4
    have e1 : (aw w).1 p.1.1 p.1.2 = x := by injection c2 with c2; injection c2
    have e2 : (aw w).1 p.2.1 p.2.2 = x := by injection c4 with c4; injection c4
    rw [e1, e2]
  · intro e
    exact ⟨⟨l1, l2⟩, ci, cj, fs, gs, _, a1, a2, b1, by rw [e]; exact b2⟩
theorem RI_of {w : mWd} {F : zRF} (hW : WI zZ w) (hF : F.all (fun p => z_isI p.1.1 p.1.2 && z_isI p.2.1 p.2.2) = true) : RI F [] w ↔ ∀ p ∈ F, (aw w).1 p.1.1 p.1.2 = (aw w).1 p.2.1 p.2.2 := by
  constructor
  · intro h p hp
    exact (rF_of hW (List.all_eq_true.mp hF p hp)).mp (h.1 p hp)
  · intro h
    exact ⟨fun p hp => (rF_of hW (List.all_eq_true.mp hF p hp)).mpr (h p hp), fun p hp => by cases hp⟩
