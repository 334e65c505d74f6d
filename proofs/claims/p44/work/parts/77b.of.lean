/-! yOF, TAKEN; audit yas ya pair -/
theorem h_audit {yp : zPr} (hp : yp.1 = 136 ∧ yp.2.1 = 242 ∧ yp.2.2.1 = 2) (yhc : c_rm yp = true) : PairOK (RR Fc Arc RZc) yp := by
  obtain ⟨yp1, yp2, yp3⟩ := hp
  refine pairK (D := on2 dAudit) (E := on2 eAudit) (by decide +kernel) (by decide +kernel) yhc (fun N yA yas _ hl => ?_) (fun N yA yas o hl => ?_) (fun yA A1 A2 yas yx yy o1 _ _ hF hR hX hl ys1 ys2 => ?_)
  · rw [yp3] at hl
    obtain ⟨ya, yb, rfl⟩ := as2 hl
    rw [yp1]
    exact d_audit N yA ya yb
  · rw [yp3] at hl
    obtain ⟨ya, yb, rfl⟩ := as2 hl
    rw [yp2]
    exact e_audit N yA ya yb (o.fld (i := 69) (k := 31) (lo := 0) (hi := 150) (by decide +kernel)).2
  · rw [yp3] at hl
    obtain ⟨ya, yb, rfl⟩ := as2 hl
    obtain ⟨yr1, r2, r3, r4⟩ := k_audit (yc := ya) (yk := yb) o1 hF hR hX ys1 ys2
    exact ⟨yr1, r2, r3, fun _ => r4⟩
/-! TAKEN -/
