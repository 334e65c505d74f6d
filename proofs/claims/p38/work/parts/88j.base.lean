/-! SUMS yOF COSTS, WHAT IS DUE -/
/-! the class -/
/-! the reference -/
theorem c_lawMD (N : Nat) (yA : AW) (yu l yf yd yk : Int32) (h8 : (yA.1 69 69).toInt = -1) (hs0 : 0 ≤ (yA.1 69 45).toInt) (hs1 : (yA.1 69 45).toInt ≤ 20) (hx : ∀ yi, yi < (yA.1 69 45).toInt.toNat → ∃ ds, txD yA yi ds) (yhT : (yA.1 69 31).toInt ≤ 150) (hu1 : 1 ≤ yu.toInt) (hu2 : yu.toInt ≤ 3) : Pa N 211 0 [(0, .ref 69), (1, .int l), (2, .int yf), (3, .int yd), (4, .int yk), (5, .int yu)] [] yA (lmP yA yu l yf yd yk) := by
  refine bm_lo l yf yd yk yu ?_
  refine Pa.mono (c_nameF N yA l yf yd yk yhT) (fun yv yB hv => ?_)
  obtain ⟨rfl, hn⟩ := hv
  have e45 := hn.2.2.2.1 45 (by decide)
  have gi : ∀ u' o ym, Pa N 210 0 [(0, .ref 69), (1, .int l), (2, .int u'), (3, .int yd), (4, .int yk), (5, .int o), (6, .int ym)] [] yB (giP yB (10 * l + u') yd yk o ym (lwE yd (ptsM yA yf l yk) (yA.1 77 yf.toInt.toNat) (cnM (lnB yA yf (cT yA))))) := fun u' o ym => c_givesD N yB l u' yd yk o ym _ (by rw [hn.2.2.2.1 69 (by decide)]; exact h8) (by rw [e45]; exact hs0) (by rw [e45]; exact hs1) (fun yi yhi => by obtain ⟨ds, yhd⟩ := hx yi (by rw [e45] at yhi; exact yhi); exact ⟨ds, txD_cg (hn.2.2.1 101 yi (by decide) (by decide)) (fun yj => hn.2.2.1 100 yj (by decide) (by decide)) yhd⟩) 0 (nm_loc hn) (nm_ev hn)
  refine bm_lo1 l yf yd yk yu (fun yq1 yq2 => ?_) (fun yq1 yq2 => ?_) (fun yq1 => ?_)
  · have hu : yu = 3 := i32_ext (by rw [show (3 : Int32).toInt = 3 from by decide]; omega)
    subst hu
    refine Pa.mono (gi 3 99999999 99999999) (fun yv A1 hv => ?_)
    obtain ⟨yy, rfl, g1, g2⟩ := gi_up hn hv
    refine Pa.iret (by rfl) ?_
    refine ⟨yy, rfl, g1, ?_⟩
    rcases g2 with ⟨b1, b2, -⟩ | ⟨yq, ds, b1, b2, b3, -⟩
    · exact .inl ⟨b1, by rw [b2, if_neg (by decide), if_neg (by decide)]⟩
    · exact .inr ⟨yq, ds, b1, b2, by rw [b3, if_neg (by decide)]⟩
  · have hu : yu = 2 := i32_ext (by rw [show (2 : Int32).toInt = 2 from by decide]; omega)
    subst hu
    refine Pa.mono (gi 2 0 99999999) (fun yv A1 hv => ?_)
    obtain ⟨yy, rfl, g1, g2⟩ := gi_up hn hv
    refine Pa.mp 1 (pc' := 65) (l' := [(0, .ref 69), (1, .int l), (2, .int yf), (3, .int yd), (4, .int yk), (5, .int 2)]) (st' := [.int yy]) (by rfl) ?_
    refine Pa.iret (by rfl) ?_
    refine ⟨yy, rfl, g1, ?_⟩
    rcases g2 with ⟨b1, b2, -⟩ | ⟨yq, ds, b1, b2, b3, -⟩
    · exact .inl ⟨b1, by rw [b2, if_neg (by decide), if_pos (by decide)]⟩
    · exact .inr ⟨yq, ds, b1, b2, by rw [b3, if_neg (by decide)]⟩
  · have hu : yu = 1 := i32_ext (by rw [show (1 : Int32).toInt = 1 from by decide]; omega)
    subst hu
    refine Pa.mono (gi 1 30 100) (fun yv A1 hv => ?_)
    obtain ⟨yy, rfl, g1, g2⟩ := gi_up hn hv
    refine Pa.mp 1 (pc' := 65) (l' := [(0, .ref 69), (1, .int l), (2, .int yf), (3, .int yd), (4, .int yk), (5, .int 1)]) (st' := [.int yy]) (by rfl) ?_
    refine Pa.iret (by rfl) ?_
    refine ⟨yy, rfl, g1, ?_⟩
    rcases g2 with ⟨b1, b2, -⟩ | ⟨yq, ds, b1, b2, b3, -⟩
    · exact .inl ⟨b1, by rw [b2, if_pos (by decide)]⟩
    · exact .inr ⟨yq, ds, b1, b2, by rw [b3, if_pos (by decide)]⟩
theorem c_lawR {B9 yA yW : AW} (yg : Rgx yA) (hs : smM B9 yA yW) (yu l yf yd yk : Int32) (hu1 : 1 ≤ yu.toInt) (hu2 : yu.toInt ≤ 3) (N : Nat) : Pa N 211 0 [(0, .ref 69), (1, .int l), (2, .int yf), (3, .int yd), (4, .int yk), (5, .int yu)] [] yW (fun yv A1 => yv = some (.int (lwV yA yu l yf yd yk)) ∧ smM B9 yA A1) := by
  have hh := sm_h yg hs
  refine Pa.mono (c_lawMD N yW yu l yf yd yk hh.1 hh.2.1.1 hh.2.1.2 (fun yi yhi => by
    obtain ⟨ds, yhd⟩ := txD_of (yg.tx yi (by unfold tT; rw [← hs.2.1 45 (by decide) (by decide) (by decide) (by decide) (by decide) (by decide) (by decide) (by decide)]; exact yhi))
    exact ⟨ds, (sm_txD hs).mpr yhd⟩) hh.2.2 hu1 hu2) (fun yv A1 hv => ?_)
  obtain ⟨yy, rfl, hw, hy⟩ := hv
  refine ⟨?_, smM_lm hs hw⟩
  rw [sm_fn hs] at hy
  rcases hy with ⟨b1, b2⟩ | ⟨yq, ds, b1, b2, b3⟩
  · rw [b2, lwV_0 (txO_0 b1), tab_eq hu1 hu2]
  · have ye := sm_env hs yf l yd yk
    unfold fmE at ye
    rw [b3, ye, lwV_1 (txO_1 b1 ((sm_txD hs).mp b2)), cl_eq hu1 hu2]
    rfl
/-! BASE -/
