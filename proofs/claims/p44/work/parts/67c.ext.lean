/-! PAIRS OF A PART OF THE RELATION, where the rest is kept -/
theorem RI_app {F1 F2 : zRF} {A1 A2 : zRA} {w : mWd} : RI (F1 ++ F2) (A1 ++ A2) w ↔ RI F1 A1 w ∧ RI F2 A2 w := by
  constructor
  · intro h
    exact ⟨⟨fun p hp => h.1 p (List.mem_append_left _ hp), fun p hp => h.2 p (List.mem_append_left _ hp)⟩, ⟨fun p hp => h.1 p (List.mem_append_right _ hp), fun p hp => h.2 p (List.mem_append_right _ hp)⟩⟩
  · intro h
    refine ⟨fun p hp => ?_, fun p hp => ?_⟩
    · rcases List.mem_append.mp hp with q | q
      · exact h.1.1 p q
      · exact h.2.1 p q
    · rcases List.mem_append.mp hp with q | q
      · exact h.1.2 p q
      · exact h.2.2 p q
theorem RR_app {F1 F2 : zRF} {A1 A2 : zRA} {R1 R2 : AW → Prop} {w : mWd} : RR (F1 ++ F2) (A1 ++ A2) (fun A => R1 A ∧ R2 A) w ↔ RR F1 A1 R1 w ∧ RR F2 A2 R2 w := by
  unfold RR
  rw [RI_app]
  constructor
  · rintro ⟨⟨a, b⟩, c, d⟩; exact ⟨⟨a, c⟩, b, d⟩
  · rintro ⟨⟨a, c⟩, b, d⟩; exact ⟨⟨a, b⟩, c, d⟩
theorem PairOK.cong {R R' : mWd → Prop} {p : zPr} (h : PairOK R p) (hR : ∀ w, R w ↔ R' w) : PairOK R' p := by
  have e : R = R' := funext fun w => propext (hR w)
  subst e
  exact h
theorem PairOK.fr {R1 R2 : mWd → Prop} {k2 : zWr → Bool} {p : zPr} (h : PairOK R1 p) (hc : c_rm p = true) (hk2 : ∀ (wr : zWr) (w w1 : mWd), WI zZ w → R2 w → WI zZ w1 → fR wr w w1 → k2 wr = true → R2 w1) (q1 : k2 (c_get1 p.1 0 p.2.2.1).2.2.2 = true) (q2 : k2 (c_get1 p.2.1 69 p.2.2.1).2.2.2 = true) : PairOK (fun w => R1 w ∧ R2 w) p := by
  intro L xs d hd w as hW hk hR hl
  unfold c_rm at hc
  rw [Bool.and_eq_true, Bool.and_eq_true] at hc
  have a := h L xs d hd w as hW hk hR.1 hl
  have b := l_cl (L := L) (xs := xs) (c_is_ok hc.1.1) hW hk hl hd
  refine (a.and b).mono (fun v w1 hq => ?_)
  obtain ⟨⟨c1, c2⟩, x, e1, e2, e3, e4, e5, e6, e7, e8⟩ := hq
  refine ⟨c1, ?_⟩
  have b2 := l_cl (L := L) (xs := xs) (c_is_ok hc.1.2) e4 e5 hl hd
  refine (c2.and b2).mono (fun v2 w2 hq2 => ?_)
  obtain ⟨⟨f1, f2, f3, f4, f5, f6⟩, y, g1, g2, g3, g4, g5, g6, g7, g8⟩ := hq2
  exact ⟨f1, f2, f3, ⟨f4, hk2 _ _ _ e4 (hk2 _ _ _ hW hR.2 e4 e8 q1) f2 g8 q2⟩, f5, f6⟩
theorem PairOK.ext {F1 F2 : zRF} {A1 A2 : zRA} {R1 R2 : AW → Prop} {k2 : zWr → Bool} {p : zPr} (h : PairOK (RR F1 A1 R1) p) (hc : c_rm p = true) (hs : Keeps R2 k2) (q1 : (ri_wr zZ F2 A2 (c_get1 p.1 0 p.2.2.1).2.2.2 && k2 (c_get1 p.1 0 p.2.2.1).2.2.2) = true) (q2 : (ri_wr zZ F2 A2 (c_get1 p.2.1 69 p.2.2.1).2.2.2 && k2 (c_get1 p.2.1 69 p.2.2.1).2.2.2) = true) : PairOK (RR (F1 ++ F2) (A1 ++ A2) (fun A => R1 A ∧ R2 A)) p :=
  (PairOK.fr (k2 := fun wr => ri_wr zZ F2 A2 wr && k2 wr) h hc (fun wr w w1 a b c e f => kpRR hs wr w w1 a b c e f) q1 q2).cong (fun w => RR_app.symm)
theorem PairOK.and {R1 R2 : mWd → Prop} {p : zPr} (h1 : PairOK R1 p) (h2 : PairOK R2 p) : PairOK (fun w => R1 w ∧ R2 w) p := by
  intro L xs d hd w as hW hk hR hl
  refine ((h1 L xs d hd w as hW hk hR.1 hl).and (h2 L xs d hd w as hW hk hR.2 hl)).mono (fun v w1 hq => ?_)
  obtain ⟨⟨c1, c2⟩, c3, c4⟩ := hq
  refine ⟨c1, (c2.and c4).mono (fun v2 w2 hq2 => ?_)⟩
  obtain ⟨⟨f1, f2, f3, f4, f5, f6⟩, g1, g2, g3, g4, g5, g6⟩ := hq2
  exact ⟨f1, f2, f3, ⟨f4, g4⟩, f5, f6⟩
