theorem m_call_ne {y : Nat} {as r : List Value} {q : Nat × mL × List Value × mWd} (h : m_call y as r = some (.inl q)) : False := by
  unfold m_call at h
  split at h
  · cases h
  · cases h
theorem m_call_nr {y : Nat} {as r : List Value} {q : Option Value} (h : m_call y as r = some (.inr (.inr q))) : False := by
  unfold m_call at h
  split at h
  · cases h
  · cases h
theorem m_call_eq {y y' : Nat} {as r as' r' : List Value} (h : m_call y as r = some (.inr (.inl (y', as', r')))) : y = y' ∧ as = as' ∧ r = r' ∧ m_cat r ≤ 8 ∧ m_cat as ≤ pgL y ∧ m_pl y = true := by
  unfold m_call at h
  split at h
  next hc => cases h; exact ⟨rfl, rfl, rfl, hc.1, hc.2.1, hc.2.2⟩
  next => cases h
section RN
variable {pc n : Nat} {B L mid : Nat} {xs : Nat → Int32} {X : Nat → Nat} {dT : Nat → ClassId} {D : va_G} {w w1 : mWd} {lv lv' : mL} {st st' : List Value} {pc' ix : Nat}
theorem mn_invokestatic (hdg : decode (pgB mid) pc = .ok (.invokestatic ix, 3)) (h : m_step L xs mid pc lv st w (.invokestatic ix) = some (.inl (pc', lv', st', w1))) : mNext B L xs X dT D mid pc lv st w pc' lv' st' w1 := by
  simp only [m_step] at h
  split at h
  next y b hr =>
    split at h
    next =>
      split at h
      next => exact (m_call_ne h).elim
      next => cases h
    next =>
      split at h
      next sz hz =>
        cases h
        exact ⟨0, 0, rfl, rfl, fun p l e R s m args below meth c H locs cells slots Q ls F h1 h2 h3 h4 hok hS hl kk => r_math F hr hz hl.1 h1 h2 h3 h4 hdg (kk H locs ls hok hS hl)⟩
      next => cases h
  next y b hr =>
    split at h
    next => exact (m_call_ne h).elim
    next => cases h
  next y b hr =>
    split at h
    next ln dp d sp a r =>
      split at h
      next ca cd ha hd =>
        split at h
        next ce hce =>
          split at h
          next hc =>
            cases h
            refine ⟨0, 0, by rw [List.length_set]; rfl, ?_, fun p l e R s m args below meth c H locs cells slots Q ls F h1 h2 _ _ hok hS hl kk => r_copy F hok hS hl.1 hr ha hd hce (by rw [m_cat_map]; exact hc.2) h1 h2 hdg (fun H1 locs1 g1 g2 _ => kk H1 locs1 ls g1 g2 hl)⟩
            unfold m_copy at hce
            split at hce
            next t n0 f u k g =>
              split at hce
              next hq => cases hce; exact m_sl_set hd rfl
              next => cases hce
            next => cases hce
          next => cases h
        next => cases h
      next => cases h
    next => cases h
  next => cases h
theorem mn_invokevirtual (hdg : decode (pgB mid) pc = .ok (.invokevirtual ix, 3)) (h : m_step L xs mid pc lv st w (.invokevirtual ix) = some (.inl (pc', lv', st', w1))) : mNext B L xs X dT D mid pc lv st w pc' lv' st' w1 := by
  simp only [m_step] at h
  split at h
  next y b hr =>
    split at h
    next =>
      split at h
      next => exact (m_call_ne h).elim
      next => cases h
    next => cases h
  next y b hr =>
    split at h
    next =>
      split at h
      next => exact (m_call_ne h).elim
      next => cases h
    next => cases h
  next y b hr =>
    split at h
    next i r =>
      split at h
      next k f hw =>
        split at h
        next hc =>
          cases h
          exact ⟨1, k, by rw [List.length_append]; rfl, m_sl_app w _, fun p l e R s m args below meth c H locs cells slots Q ls F h1 h2 h3 h4 hok hS hl kk => r_clone F hok hS hl.1 hr hw (by rw [m_cat_map]; exact hc) h1 h2 h3 h4 hdg (fun H1 g1 g2 => kk H1 locs ls g1 g2 hl)⟩
        next => cases h
      next => cases h
    next => cases h
  next => cases h
theorem mn_invokespecial (hdg : decode (pgB mid) pc = .ok (.invokespecial ix, 3)) (h : m_step L xs mid pc lv st w (.invokespecial ix) = some (.inl (pc', lv', st', w1))) : mNext B L xs X dT D mid pc lv st w pc' lv' st' w1 := by
  simp only [m_step] at h
  split at h
  next y b hr =>
    split at h
    next => exact (m_call_ne h).elim
    next => cases h
  next y b hr =>
    split at h
    next => exact (m_call_ne h).elim
    next => cases h
  next y b hr =>
    split at h
    next i r =>
      split at h
      next hc =>
        cases h
        exact ⟨0, 0, rfl, rfl, fun p l e R s m args below meth c H locs cells slots Q ls F h1 h2 h3 h4 hok hS hl kk => by
          obtain ⟨hm, -⟩ := pgRs_ok hr
          simp only [pgW] at hm
          have F' := F
          obtain ⟨hx, hb, hmL, -, -, hown, -, G, Nw, K, E, -⟩ := F'
          have hwr : ((st'.map (mv B X)).map fun v => v.category).sum ≤ 8 := by rw [m_cat_map]; exact hc
          have hwr2 := lv_room (m := m) (pc := pc) (ls := ls) (rest := .ref (B + i) :: st'.map (mv B X)) hwr
          refine W.objInit hx hb hown (G _ hm rfl _) (G _ aw_oi rfl _) (G _ aw_oc rfl _) (g := F0 m pc ls (.ref (B + i) :: st'.map (mv B X))) rfl (by rw [hmL]; exact hl.1) rfl hdg h1 (by omega) ?_
          exact kk H locs ls hok hS hl⟩
      next => cases h
    next => cases h
  next => cases h
end RN
