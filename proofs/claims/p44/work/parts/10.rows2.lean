theorem pgTy_ok {ci : Nat} {C : String} {T : u_T} {N : Nat} (h : vwCl[ci]? = some (C, T, N)) : (∀ k, k < N → parseFieldDescriptor (T k).2.2.1 = some (m_fty ci k)) ∧ (∀ a, a < N → ∀ b, b < N → a ≠ b → (T a).2.1 ≠ (T b).2.1) := by
  have hi : ci < 13 := (List.getElem?_eq_some_iff.mp h).1
  rcases (by omega : ci = 0 ∨ ci = 1 ∨ ci = 2 ∨ ci = 3 ∨ ci = 4 ∨ ci = 5 ∨ ci = 6 ∨ ci = 7 ∨ ci = 8 ∨ ci = 9 ∨ ci = 10 ∨ ci = 11 ∨ ci = 12) with e | e | e | e | e | e | e | e | e | e | e | e | e <;> subst e <;> cases h
  · exact ⟨tyX0_ok, nmX0⟩
  · exact ⟨tyX1_ok, nmX1⟩
  · exact ⟨tyX2_ok, nmX2⟩
  · exact ⟨tyX3_ok, nmX3⟩
  · exact ⟨tyX4_ok, nmX4⟩
  · exact ⟨tyX5_ok, nmX5⟩
  · exact ⟨tyX6_ok, nmX6⟩
  · exact ⟨tyX7_ok, nmX7⟩
  · exact ⟨tyX8_ok, nmX8⟩
  · exact ⟨tyX9_ok, nmX9⟩
  · exact ⟨tyX10_ok, nmX10⟩
  · exact ⟨tyX11_ok, nmX11⟩
  · exact ⟨tyX12_ok, nmX12⟩
section RW2
variable {p : Program} {l : Launch} {e : Env} {R : Room} {s : State} {m : MethodId} {args : Array Value} {below : List Frame} {meth : Method} {c : Code} {H : Heap} {locs : List Loc} {cells slots : Nat} {Q : State → Prop}
variable {pc : Nat} {ls : Array Slot} {B L mid : Nat} {xs : Nat → Int32} {X : Nat → Nat} {dT : Nat → ClassId} {D : va_G} {w : mWd} {rest : List Value}
theorem m_optv (f : Nat → Option Nat) (j : Nat) : va_rf ((f j).map (fun a => B + a)) = mv B X (m_opt f j) := by
  unfold m_opt
  cases f j <;> rfl
theorem r_putf (F : mFr p s m meth c mid B L xs X dT D) (hok : mOK B X dT D w H) (hS : va_S (fun q : Nat => B ≤ q) s.heap H locs) {ix ci i : Nat} {k : Int} {nest : Bool} {fs : List Value} {v : Value} (hr : pgRs mid ix = some (if nest = true then 1 else 0, ci, k)) (hw : w[i]? = some (.inr (ci, fs))) (hmay : m_may mid ci k.toNat nest = true) (hfit : m_fits (m_fty ci k.toNat) v = true) (hl : k.toNat < fs.length) (hdg : decode (pgB mid) pc = .ok (.putfield ix, 3))
    (kk : ∀ (H1 : Heap) (locs1 : List Loc), mOK B X dT D (w.set i (.inr (ci, fs.set k.toNat v))) H1 → va_S (fun q : Nat => B ≤ q) s.heap H1 locs1 → W p l e R s m args below meth c H1 locs1 cells slots Q (F0 m (pc + 3) ls rest)) : W p l e R s m args below meth c H locs cells slots Q (F0 m pc ls (mv B X v :: .ref (B + i) :: rest)) := by
  obtain ⟨hx, hb, -, -, -, hown, hmn, G, Nw, K, -⟩ := F
  obtain ⟨C, T, N, hc, hk, hT, hlay, h⟩ := r_fld (mid := mid) (ix := ix) (ci := ci) (k := k) (by cases nest; exact Or.inl hr; exact Or.inr hr)
  have hts : ∀ w ∈ u_ws C T N, w.before args s = true := fun w hw => by
    obtain ⟨k, -, rfl⟩ := List.mem_map.mp hw
    exact G _ (hlay _ hw) (m_layg C T k) _
  obtain ⟨hty, hnm⟩ := pgTy_ok hc
  have hap := va_apart (own := "") hts (fun _ h => h) (m_fty ci) hty hnm K hc
  obtain ⟨r, h1, cell, q1, q2, q3, q4⟩ := hok.2 i _ (mZ_at hw)
  have hrr : r = (C, T, N) := Option.some.inj (h1.symm.trans hc)
  subst hrr
  obtain ⟨hSl, hfc, kC, hkC, hkind⟩ := K.1 ci _ hc
  obtain ⟨cf, kf, fi, f, hi, hsl⟩ := hSl k.toNat hk
  obtain ⟨hn, hft⟩ := m_fits_ok (B := B) (X := X) hfit
  have hlay1 := hts _ (u_in_lay (C := C) (T := T) hk)
  have hst := (u_facts hfc hkC (u_lays hts (fun _ h => h) hk) hi).1
  have hsame : ∀ x, s.fieldFound? (T k.toNat).1 (T k.toNat).2.1 (T k.toNat).2.2.1 = some x → s.fieldFound? C (T k.toNat).2.1 (T k.toNat).2.2.1 = some x := fun x h => by rw [hT] at h; exact h
  have fin : ∀ H' : Heap, H'[B + i]? = some (cell.setSlot (D.2 ci k.toNat) (mv B X v)) → H'.size = H.size → (∀ q, q ≠ B + i → H'[q]? = H[q]?) → mOK B X dT D (w.set i (.inr (ci, fs.set k.toNat v))) H' := fun H' e1 e2 e3 => by
    refine hok.set hw ?_ e2 e3
    rw [mc_set]
    exact ⟨_, hc, t_OB.to (V := updV (vp_V (fs.map (mv B X))) k.toNat (mv B X v)) ⟨_, e1, q2, q3, t_set q4 hap hk (mv B X v)⟩ (fun j _ => vp_updV_set (by rw [List.length_map]; exact hl) (mv B X v) j)⟩
  unfold m_may at hmay
  rw [hc] at hmay
  dsimp only at hmay
  by_cases hfn : (T k.toNat).2.2.2 = true
  · rw [if_pos hfn] at hmay
    simp only [Bool.and_eq_true, Bool.not_eq_true', decide_eq_true_eq] at hmay
    obtain ⟨⟨hne, hin⟩, hcls⟩ := hmay
    subst hne
    rcases h with ⟨-, h⟩ | ⟨hz, -⟩ | ⟨hz, -⟩
    · unfold u_lay at hlay1
      rw [if_pos hfn] at hlay1
      have hcf : m.cls = cf := by
        obtain ⟨_, _, c', _, _, _, -, -, hf', -, -, -, hown2, -⟩ := Cond.laysFinal_spec hlay1
        have e1 : c' = cf := by have := hi.symm.trans hf'; simp at this; exact this.1.symm
        have hk2 : mid < 275 := by
          rcases Nat.lt_or_ge mid 275 with q | q
          · exact q
          · exfalso
            have hz : pgN mid = pgD.1 := by
              unfold pgN pgRw
              rw [List.getD_eq_getElem?_getD, List.getD_eq_getElem?_getD]
              rcases Nat.lt_or_ge (mid / 16) 18 with q1 | q1
              · have q2 : mid / 16 = 17 := by omega
                have q3 : 3 ≤ mid % 16 := by omega
                rw [q2, List.getElem?_eq_none (show ((pgMs[17]?).getD []).length ≤ mid % 16 from q3)]
                rfl
              · rw [List.getElem?_eq_none (show pgMs.length ≤ mid / 16 from q1)]
                rfl
            rw [hz] at hin
            exact absurd hin (by decide +kernel)
        have ho : pgO.getD (pgOw mid) "" = (pgN mid).cls := pgOw_ok hk2
        rw [ho, ← hcls] at hown
        rw [← e1]; exact Option.some.inj (hown.symm.trans hown2)
      have h6 := u_fits hfc hkC hkind (Or.inr hlay1) hi (hty _ hk) hn hft
      refine W.putFinK hx hb hown (G _ h rfl _) (hsame _ hi) hst hcf (hmn.trans hin) (by rw [q2]; exact h6) q1 q3 (by rw [hsl]; exact k2_hasslot (q4 _ hk)) rfl rfl hdg fun H' e1 e2 e3 => ?_
      rw [hsl] at e1 ⊢
      exact kk H' _ (fin H' e1 e2 e3) (mS_put hS e2 e3)
    · rw [hr] at hz; cases hz
    · rw [hr] at hz; cases hz
  · have hfn2 : (T k.toNat).2.2.2 = false := by simpa using hfn
    unfold u_lay at hlay1
    rw [if_neg hfn] at hlay1
    have h6 := u_store hfc hkC hkind hlay1 hi (hty _ hk) hn hft
    rcases h with ⟨-, h⟩ | ⟨-, -, h⟩ | ⟨-, h⟩
    · refine W.putK hx hb (f := f) ⟨hown, G _ h rfl _, ⟨_, _, _, hsame _ hi⟩, hst⟩ (by rw [q2]; exact h6) q1 q3 (by rw [hsl]; exact k2_hasslot (q4 _ hk)) rfl rfl hdg fun H' e1 e2 e3 => ?_
      rw [hsl] at e1 ⊢
      exact kk H' _ (fin H' e1 e2 e3) (mS_put hS e2 e3)
    · refine va_WputK hx hb (f := f) hown (va_Nw.use rfl (Nw _ h rfl)) (hsame _ hi) hst (by rw [q2]; exact h6) q1 q3 (by rw [hsl]; exact k2_hasslot (q4 _ hk)) rfl rfl hdg fun H' e1 e2 e3 => ?_
      rw [hsl] at e1 ⊢
      exact kk H' _ (fin H' e1 e2 e3) (mS_put hS e2 e3)
    · refine va_WputK hx hb (f := f) hown (va_Nw.use rfl (Nw _ h rfl)) (hsame _ hi) hst (by rw [q2]; exact h6) q1 q3 (by rw [hsl]; exact k2_hasslot (q4 _ hk)) rfl rfl hdg fun H' e1 e2 e3 => ?_
      rw [hsl] at e1 ⊢
      exact kk H' _ (fin H' e1 e2 e3) (mS_put hS e2 e3)
theorem r_ald (F : mFr p s m meth c mid B L xs X dT D) (hok : mOK B X dT D w H) {o i : Nat} {j : Int32} {v : Value} {ins : Instr} (ho : (o = 0 ∧ ins = .iaload) ∨ (o = 1 ∧ ins = .baload) ∨ (o = 2 ∧ ins = .laload) ∨ (o = 3 ∧ ins = .aaload)) (h : m_ald o i j w = some v) (hdg : decode (pgB mid) pc = .ok (ins, 1))
    (kk : W p l e R s m args below meth c H locs cells slots Q (F0 m (pc + 1) ls (mv B X v :: rest))) : W p l e R s m args below meth c H locs cells slots Q (F0 m pc ls (.int j :: .ref (B + i) :: rest)) := by
  obtain ⟨hx, hb, -, -, -, hown, hmn, G, Nw, K, -⟩ := F
  unfold m_ald at h
  split at h
  next t n f hw =>
    split at h
    next hc =>
      obtain ⟨hin, rfl, ht⟩ := hc
      cases h
      rcases ho with ⟨rfl, rfl⟩ | ⟨rfl, rfl⟩ | ⟨rfl, -⟩ | ⟨rfl, -⟩
      · exact va_iald hx hb K hok.2 i 0 (mZ_at hw) rfl (m_in_ok hin) hdg kk
      · exact va_zald hx hb K hok.2 i 1 (mZ_at hw) rfl (m_in_ok hin) hdg kk
      · exact absurd ht (by decide)
      · exact absurd ht (by decide)
    next => cases h
  next t n f hw =>
    split at h
    next hc =>
      obtain ⟨hin, rfl, ht⟩ := hc
      cases h
      subst ht
      rcases ho with ⟨hz, rfl⟩ | ⟨hz, rfl⟩ | ⟨-, rfl⟩ | ⟨hz, -⟩
      · cases hz
      · cases hz
      · exact va_lald hx hb K hok.2 i 2 (mZ_at hw) rfl (m_in_ok hin) hdg kk
      · cases hz
    next => cases h
  next t n f hw =>
    split at h
    next hc =>
      obtain ⟨hin, ht, ht2⟩ := hc
      cases h
      subst ht
      rcases ho with ⟨hz, rfl⟩ | ⟨hz, rfl⟩ | ⟨hz, rfl⟩ | ⟨-, rfl⟩
      · cases hz
      · cases hz
      · cases hz
      · rw [← m_optv] at kk
        rcases ht2 with rfl | rfl
        · exact va_aldq hx hb K hok.2 i 3 (mZ_at hw) rfl (m_in_ok hin) hdg kk
        · have hlt : j.toNatClampNeg < n := Nat.not_le.mp fun q => (m_in_ok hin) (Or.inr q)
          exact W.aald (v := va_rf ((f j.toNatClampNeg).map (fun a => B + a))) (ty := .array .int) hx hb (hok.2 i _ (mZ_at hw)) ((K.2 4 _ rfl).1 n (fun j => va_rf ((f j).map (fun a => B + a)))) rfl (fun q => by cases q) (by show ¬ (j < 0 ∨ (arrV _ _ _).slots.size ≤ _); rw [arrV_size]; exact m_in_ok hin) (by show (arrV _ _ _).slots[_]? = _; rw [arrV_read _ _ hlt]) rfl rfl hdg kk
    next => cases h
  next => cases h
theorem r_xld (F : mFr p s m meth c mid B L xs X dT D) (hS : va_S (fun q : Nat => B ≤ q) s.heap H locs) {o k : Nat} {j : Int32} {v : Value} {ins : Instr} (ho : (o = 0 ∧ ins = .iaload) ∨ (o = 1 ∧ ins = .baload)) (h : m_xld L xs o k j = some v) (hdg : decode (pgB mid) pc = .ok (ins, 1))
    (kk : W p l e R s m args below meth c H locs cells slots Q (F0 m (pc + 1) ls (mv B X v :: rest))) : W p l e R s m args below meth c H locs cells slots Q (F0 m pc ls (.int j :: .ref (X k) :: rest)) := by
  obtain ⟨hx, hb, -, -, -, hown, hmn, G, Nw, K, E, -⟩ := F
  unfold m_xld at h
  split at h
  next t n f hk =>
    split at h
    next hc =>
      obtain ⟨hin, ht⟩ := hc
      cases h
      have hT := E.1 k t n f hk
      rcases ht with ⟨rfl, rfl⟩ | ⟨rfl, rfl⟩
      · rcases ho with ⟨-, rfl⟩ | ⟨hz, -⟩
        · exact va_ti hx hb hT hS (m_in_ok hin) rfl hdg kk
        · cases hz
      · rcases ho with ⟨hz, -⟩ | ⟨-, rfl⟩
        · cases hz
        · exact va_tb hx hb hT hS (m_in_ok hin) rfl hdg kk
    next => cases h
  next => cases h
theorem r_len (F : mFr p s m meth c mid B L xs X dT D) (hok : mOK B X dT D w H) (hS : va_S (fun q : Nat => B ≤ q) s.heap H locs) {n : Nat} {v : Value} (h : m_len1 L xs v w = some n) (hdg : decode (pgB mid) pc = .ok (.arraylength, 1))
    (kk : W p l e R s m args below meth c H locs cells slots Q (F0 m (pc + 1) ls (.int (Int32.ofNat n) :: rest))) : W p l e R s m args below meth c H locs cells slots Q (F0 m pc ls (mv B X v :: rest)) := by
  obtain ⟨hx, hb, -, -, -, hown, hmn, G, Nw, K, E, -⟩ := F
  unfold m_len1 at h
  split at h
  next i =>
    split at h
    next t n f hw =>
      have ht5 : t < 5 := by
        by_cases q : t < 5
        · exact q
        · rw [if_neg q] at h; cases h
      rw [if_pos ht5] at h
      cases h
      have hty : ∃ ty, (pgTys dT)[t]? = some (dT t, ty) := by
        rcases (by omega : t = 0 ∨ t = 1 ∨ t = 2 ∨ t = 3 ∨ t = 4) with e | e | e | e | e <;> subst e <;> exact ⟨_, rfl⟩
      obtain ⟨ty, hty⟩ := hty
      rcases f with f1 | f1 | f1 | f1 | f1
      · exact va_alen hx hb K hok.2 i t (mZ_at hw) hty rfl hdg kk
      · exact va_alen hx hb K hok.2 i t (mZ_at hw) hty rfl hdg kk
      · exact va_alen hx hb K hok.2 i t (mZ_at hw) hty rfl hdg kk
      · exact va_alen hx hb K hok.2 i t (mZ_at hw) hty rfl hdg kk
      · exact va_alen hx hb K hok.2 i t (mZ_at hw) hty rfl hdg kk
    next => cases h
  next k =>
    split at h
    next t n f hk =>
      cases h
      exact va_tlen hx hb (E.1 k t _ f hk) hS rfl hdg kk
    next => cases h
  next => cases h
end RW2
