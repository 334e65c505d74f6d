theorem lw_run : lw_Run := by
  intro L xs hL
  have h := l_s18_t
  unfold l_s18r at h
  split at h
  next q hq =>
    rw [Bool.and_eq_true] at h
    obtain ⟨h, hRI⟩ := h
    unfold b_all at h
    rw [Bool.and_eq_true, Bool.and_eq_true, Bool.and_eq_true] at h
    obtain ⟨⟨h1, h2⟩, h3, h4⟩ := h
    have hlenZ : zZ.1.length = 129 := by decide +kernel
    obtain ⟨c1, c2⟩ := b_cells_ok (w0 := q.2.2) h1
    have hwl : q.2.2.length = 129 := by rw [c1, hlenZ]
    have hW : WI zZ q.2.2 := ⟨hlenZ, c2, fun i c hi hc => by
      have := (List.getElem?_eq_some_iff.mp hc).1
      omega⟩
    have hk : wkR [] none q.2.2 := by
      unfold b_kind at h2
      split at h2
      next t n f hf =>
        rw [Bool.and_eq_true] at h2
        refine ⟨0, (fun (j : sV) (hj : none = some j) => (nomatch hj)), ?_⟩
        intro f' g n' m' t' u' hf' hg c hc _ hkind
        rw [hf] at hf'
        cases hf'
        have := z_eq_iff.mp (List.all_eq_true.mp h2.2 c (List.mem_range.mpr hc))
        omega
      next => cases h2
    have hm := m_tA_ok (L := L) (xs := xs) _ _ _ _ _ _ _ _ hq
    have hst : q.1 = lL (Int32.ofNat (6 * 0)) ∧ q.2.1 = [] := by
      obtain ⟨l, st, w⟩ := q
      simp only at h4 ⊢
      split at h4
      next i =>
        have hi : i = Int32.ofNat (6 * 0) := Int32.toInt_inj.mp (by rw [z_eq_iff.mp h4]; rfl)
        subst hi
        exact ⟨rfl, rfl⟩
      next => cases h4
    have hl := l_loop2 (Z := zZ) (T := zT) (F := zPF) (A := zPA) (PS := zPS) (L := L) (xs := xs) (d := 799) (N := 3000) (wS := q.2.2) z_all (by decide) (zPS_ok (by decide)) hL lk_t 512 0 q.2.2 rfl ⟨hW, hk, Nat.le_refl _, Nat.le_refl _⟩ (b_RI_ok hRI)
    rw [← hst.1] at hl
    have hst2 := hst.2
    have hrun := m_to_ok _ _ _ _ _ _ _ _ hm (Q := fun v w1 => v = some (.int 1) ∧ LW zZ q.2.2 (512, 161 * 512) w1) (by rw [hst2]; exact hl)
    obtain ⟨n, v, w1, r1, rfl, r2⟩ := hrun
    refine ⟨n, w1, r1, ?_, ?_⟩
    · have := r2.2.2.1
      simp only at this
      omega
    · have := r2.2.2.2
      have h5 := Nat.le_of_ble_eq_true h3
      simp only at this
      omega
  next => cases h
