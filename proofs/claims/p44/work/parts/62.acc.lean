/-! READING AND WRITING, seen from the functions -/
section PAC
variable {N mid pc : Nat} {lv : mL} {A : AW} {Q : Option Value → AW → Prop} {k : Nat} {r : List Value}
theorem a_in_ok {j : Int32} {n : Nat} (h : m_in j n = true) : 0 ≤ j.toInt ∧ j.toInt < (n : Int) ∧ j.toNatClampNeg = j.toInt.toNat := by
  unfold m_in at h
  have h := of_decide_eq_true h
  have h1 : ¬ j < 0 := fun q => h (.inl q)
  have h2 : ¬ n ≤ j.toNatClampNeg := fun q => h (.inr q)
  have e : j.toNatClampNeg = j.toInt.toNat := rfl
  rw [Int32.lt_iff_toInt_lt, show (0 : Int32).toInt = 0 from rfl] at h1
  rw [e] at h2
  exact ⟨by omega, by omega, e⟩
theorem getf_s {L : Nat} {xs : Nat → Int32} {ix t ci i : Nat} {kk : Int} {w : mWd} {o : mOut} (hr : pgRs mid ix = some (t, ci, kk)) (ht : t = 0 ∨ t = 1) (h : m_step L xs mid pc lv (.ref i :: r) w (.getfield ix) = some o) : ∃ fs v, w[i]? = some (.inr (ci, fs)) ∧ fs[kk.toNat]? = some v ∧ o = .inl (pc + 3, lv, v :: r, w) := by
  have hs : m_step L xs mid pc lv (.ref i :: r) w (.getfield ix) = m_getf ci kk.toNat i pc lv r w := by
    rcases ht with e | e <;> subst e <;> simp only [m_step, hr]
  rw [hs] at h
  unfold m_getf at h
  split at h
  next cj fs h1 =>
    split at h
    next e =>
      subst e
      split at h
      next v h2 => cases h; exact ⟨fs, v, h1, h2, rfl⟩
      next => cases h
    next => cases h
  next => cases h
theorem Pa.gfI {ix t ci i : Nat} {kk lo hi : Int} (hf : pgF mid pc = some (.getfield ix, k)) (hr : pgRs mid ix = some (t, ci, kk)) (ht : t = 0 ∨ t = 1) (hs : (c_sps ci)[kk.toNat]? = some (0, lo, hi)) {v : Int32} (he : A.1 i kk.toNat = v) (h : Pa N mid (pc + 3) lv (.int v :: r) A Q) : Pa N mid pc lv (.ref i :: r) A Q := by
  subst he
  refine Pa.stp hf (fun L xs w hS hA o ho => ?_)
  obtain ⟨fs, v, h1, h2, rfl⟩ := getf_s hr ht ho
  obtain ⟨x, hx, -⟩ := SH_fld hS h1 h2 hs
  subst hx
  refine ⟨hS, ?_⟩
  rw [hA]
  have : A.1 i kk.toNat = x := by
    rw [← hA, (aw_at h1).1]
    show (match fs[kk.toNat]? with | some (.int x) => x | _ => 0) = x
    rw [h2]
  rw [← this]
  exact h
theorem Pa.gfR {ix t ci i : Nat} {kk c z : Int} (hf : pgF mid pc = some (.getfield ix, k)) (hr : pgRs mid ix = some (t, ci, kk)) (ht : t = 0 ∨ t = 1) (hs : (c_sps ci)[kk.toNat]? = some (2, c, z)) (h : Pa N mid (pc + 3) lv (.ref c.toNat :: r) A Q) : Pa N mid pc lv (.ref i :: r) A Q := by
  refine Pa.stp hf (fun L xs w hS hA o ho => ?_)
  obtain ⟨fs, v, h1, h2, rfl⟩ := getf_s hr ht ho
  have hx : v = .ref c.toNat := SH_fld hS h1 h2 hs
  subst hx
  exact ⟨hS, by rw [hA]; exact h⟩
theorem cI_setf {ci k0 : Nat} {fs : List Value} {x : Int32} (hk : k0 < fs.length) (k' : Nat) : cI (.inr (ci, fs.set k0 (.int x))) k' = if k' = k0 then x else cI (.inr (ci, fs)) k' := by
  show (match (fs.set k0 (.int x))[k']? with | some (.int x) => x | _ => 0) = if k' = k0 then x else (match fs[k']? with | some (.int x) => x | _ => 0)
  rw [List.getElem?_set]
  by_cases e : k0 = k'
  · subst e; rw [if_pos rfl, if_pos hk, if_pos rfl]
  · rw [if_neg e, if_neg (fun q => e q.symm)]
theorem Pa.pfI {ix t ci i : Nat} {kk lo hi : Int} {x : Int32} (hf : pgF mid pc = some (.putfield ix, k)) (hr : pgRs mid ix = some (t, ci, kk)) (ht : t = 0 ∨ t = 1) (hs : (c_sps ci)[kk.toNat]? = some (0, lo, hi)) (h : Pa N mid (pc + 3) lv r (uI A i kk.toNat x) Q) : Pa N mid pc lv (.int x :: .ref i :: r) A Q := by
  refine Pa.stp hf (fun L xs w hS hA o ho => ?_)
  have key : ∃ b ty, m_putf b ci kk.toNat i (.int x) ty pc lv r w = some o := by
    rcases ht with e | e <;> subst e <;> simp only [m_step, hr] at ho <;> exact ⟨_, _, ho⟩
  obtain ⟨b, ty, ho⟩ := key
  unfold m_putf at ho
  split at ho
  next cj fs h1 =>
    split at ho
    next hc =>
      obtain ⟨e, -, -, hk⟩ := hc
      subst e
      cases ho
      have hfull : ∀ w' : mWd, okV w' (0, -2147483648, 2147483647) (.int x) := fun w' => ⟨x, rfl, (i32_rg x).1, (i32_rg x).2⟩
      refine ⟨?_, ?_⟩
      · by_cases hil : i < 129
        · have hlt : i < zD.1.length := by rw [zD_len]; exact hil
          obtain ⟨c, c1, c2⟩ := hS.2.1 i _ (List.getElem?_eq_getElem hlt)
          have ht2 := List.all_eq_true.mp c_sps_t _ (List.getElem_mem hlt)
          have hg : zD.1[i]? = some (zD.1[i]'hlt) := List.getElem?_eq_getElem hlt
          generalize zD.1[i]'hlt = s at c2 ht2 hg
          obtain ⟨tt, a, b', sps⟩ := s
          rw [h1] at c1
          cases c1
          cases tt with
          | zero =>
            obtain ⟨fs', f1, f2, f3⟩ := c2
            have ht3 : (!(Nat.beq a 2) && sps_eq (c_sps a) sps) = true := ht2
            rw [Bool.and_eq_true] at ht3
            have e1 : cj = a := (Prod.mk.inj (Sum.inr.inj f1)).1
            have e9 := sps_eq_ok ht3.2
            rw [← e1] at e9 hg
            refine WI_setf hS hg h1 (fun sp hsp => ?_)
            rw [← e9, hs] at hsp
            cases hsp
            have : okV w (z_wd (0, lo, hi)) (.int x) := ⟨x, rfl, (i32_rg x).1, (i32_rg x).2⟩
            have hz : (0, lo, hi) = z_wd (0, lo, hi) := by
              have : (0, lo, hi) ∈ c_sps cj := List.mem_of_getElem? hs
              unfold c_sps at this
              have hall : ∀ sp : zSp, sp ∈ sps → ∃ sp0, sp = z_wd sp0 := by
                intro sp hsp
                have hm := List.mem_of_getElem? hg
                rw [show zD.1 = zSH.map z_wS from rfl] at hm
                obtain ⟨s0, -, hs0⟩ := List.mem_map.mp hm
                have : sps = s0.2.2.2.map z_wd := by rw [← show (z_wS s0).2.2.2 = s0.2.2.2.map z_wd from rfl, hs0]
                rw [this] at hsp
                obtain ⟨sp0, -, h0⟩ := List.mem_map.mp hsp
                exact ⟨sp0, h0.symm⟩
              obtain ⟨sp0, h0⟩ := hall (0, lo, hi) (by rw [← e9]; exact List.mem_of_getElem? hs)
              rw [h0]
              obtain ⟨t0, a0, b0⟩ := sp0
              unfold z_wd at h0 ⊢
              simp only at h0 ⊢
              split at h0 <;> first | rfl | (cases h0; rfl) | skip
              simp_all
            rw [hz]
            exact this
          | succ tt =>
            obtain ⟨-, a', f2, -⟩ := c2
            cases f2
        · rcases hS.2.2 i _ (by omega) h1 with ⟨fs', f1, f2, f3⟩ | ⟨n, f, f1, -⟩
          · cases f1
            refine WI_setg hS ⟨by omega, _, h1, by show (5, 2, fs.length) = _; rw [f2]⟩ h1 (fun sp hsp => ?_)
            rw [show zD.2.1 = zGS.map z_wd from rfl, List.getElem?_map] at hsp
            obtain ⟨sp0, h0, rfl⟩ := Option.map_eq_some_iff.mp hsp
            have hk13 : kk.toNat < 13 := by omega
            have key : ∀ q, q < 13 → ∃ lo hi : Int, zGS[q]? = some (0, lo, hi) := by
              intro q hq
              match q, hq with
              | 0, _ => exact ⟨_, _, rfl⟩
              | 1, _ => exact ⟨_, _, rfl⟩
              | 2, _ => exact ⟨_, _, rfl⟩
              | 3, _ => exact ⟨_, _, rfl⟩
              | 4, _ => exact ⟨_, _, rfl⟩
              | 5, _ => exact ⟨_, _, rfl⟩
              | 6, _ => exact ⟨_, _, rfl⟩
              | 7, _ => exact ⟨_, _, rfl⟩
              | 8, _ => exact ⟨_, _, rfl⟩
              | 9, _ => exact ⟨_, _, rfl⟩
              | 10, _ => exact ⟨_, _, rfl⟩
              | 11, _ => exact ⟨_, _, rfl⟩
              | 12, _ => exact ⟨_, _, rfl⟩
            obtain ⟨lo', hi', e0⟩ := key _ hk13
            rw [e0] at h0
            cases h0
            exact ⟨x, rfl, (i32_rg x).1, (i32_rg x).2⟩
          · cases f1
      · rw [aw_setI (e' := .inr (cj, fs.set kk.toNat (.int x))) (k := kk.toNat) (x := x) h1 (cI_setf hk) rfl rfl rfl, hA]
        exact h
    next => cases ho
  next => cases ho
/-! arrays -/
theorem Pa.ald {j v : Int32} {i : Nat} (hf : pgF mid pc = some (.iaload, k)) (he : A.1 i j.toInt.toNat = v) (h : 0 ≤ j.toInt → j.toInt < (A.2.2.2.1 i : Int) → Pa N mid (pc + 1) lv (.int v :: r) A Q) : Pa N mid pc lv (.int j :: .ref i :: r) A Q := by
  subst he
  refine Pa.stp hf (fun L xs w hS hA o ho => ?_)
  have hs : m_step L xs mid pc lv (.int j :: .ref i :: r) w .iaload = (match m_ald 0 i j w with | some v => mNx (pc + 1) lv (v :: r) w | none => none) := rfl
  rw [hs] at ho
  split at ho
  next v hv =>
    cases ho
    unfold m_ald at hv
    split at hv
    next t n f h1 =>
      split at hv
      next hc =>
        cases hv
        obtain ⟨a1, a2, a3⟩ := a_in_ok hc.1
        have hN : A.2.2.2.1 i = n := by rw [← hA, (aw_at h1).2.2.2]; rfl
        have hI : A.1 i j.toInt.toNat = f j.toNatClampNeg := by rw [← hA, (aw_at h1).1, a3]; rfl
        have hp := h a1 (by rw [hN]; exact a2)
        rw [hI] at hp
        exact ⟨hS, by rw [hA]; exact hp⟩
      next => cases hv
    next t n f h1 =>
      split at hv
      next hc => omega
      next => cases hv
    next t n f h1 =>
      split at hv
      next hc => omega
      next => cases hv
    next => cases hv
  next => cases ho
theorem AN_len {w : mWd} (hS : SH w) {i t n q : Nat} (h : z_ln i = some (t, n, q)) : (aw w).2.2.2.1 i = n := by
  obtain ⟨e, a, -, -, h1, -⟩ := SH_arr hS h
  rw [(aw_at h1).2.2.2]; rfl
/-- a static array's length is known -/
theorem Pa.shape (h : (∀ i t n q, z_ln i = some (t, n, q) → A.2.2.2.1 i = n) → Pa N mid pc lv r A Q) : Pa N mid pc lv r A Q := by
  intro L xs n d w hn hS hA
  exact h (fun i t n q hz => by rw [← hA]; exact AN_len hS hz) L xs n d w hn hS hA
theorem Pa.alds {j v : Int32} {i t n q : Nat} (hf : pgF mid pc = some (.iaload, k)) (hz : z_ln i = some (t, n, q)) (he : A.1 i j.toInt.toNat = v) (h : 0 ≤ j.toInt → j.toInt < (n : Int) → Pa N mid (pc + 1) lv (.int v :: r) A Q) : Pa N mid pc lv (.int j :: .ref i :: r) A Q :=
  Pa.shape fun hh => Pa.ald hf he (fun a b => h a (by rw [hh i t n q hz] at b; exact b))
theorem Pa.blds {j v : Int32} {i t n q : Nat} (hf : pgF mid pc = some (.baload, k)) (hz : z_ln i = some (t, n, q)) (he : A.1 i j.toInt.toNat = v) (h : 0 ≤ j.toInt → j.toInt < (n : Int) → Pa N mid (pc + 1) lv (.int v :: r) A Q) : Pa N mid pc lv (.int j :: .ref i :: r) A Q := by
  subst he
  refine Pa.stp hf (fun L xs w hS hA o ho => ?_)
  have hs : m_step L xs mid pc lv (.int j :: .ref i :: r) w .baload = (match m_ald 1 i j w with | some v => mNx (pc + 1) lv (v :: r) w | none => none) := rfl
  rw [hs] at ho
  split at ho
  next v hv =>
    cases ho
    unfold m_ald at hv
    split at hv
    next t' n' f h1 =>
      split at hv
      next hc =>
        cases hv
        obtain ⟨a1, a2, a3⟩ := a_in_ok hc.1
        have hN : A.2.2.2.1 i = n' := by rw [← hA, (aw_at h1).2.2.2]; rfl
        have hN2 : A.2.2.2.1 i = n := by rw [← hA]; exact AN_len hS hz
        have hI : A.1 i j.toInt.toNat = f j.toNatClampNeg := by rw [← hA, (aw_at h1).1, a3]; rfl
        have hp := h a1 (by rw [← hN2, hN]; exact a2)
        rw [hI] at hp
        exact ⟨hS, by rw [hA]; exact hp⟩
      next => cases hv
    next t n f h1 =>
      split at hv
      next hc => omega
      next => cases hv
    next t n f h1 =>
      split at hv
      next hc => omega
      next => cases hv
    next => cases hv
  next => cases ho
theorem z_no2 : zD.1.all (fun s => match s with | (0, _, _, _) => true | (_, _, _, [e]) => !(Nat.beq e.1 2) | _ => true) = true := by decide +kernel
/-- a row of references -/
theorem Pa.olds {j : Int32} {o : Option Nat} {i t n q : Nat} (hf : pgF mid pc = some (.aaload, k)) (hz : z_ln i = some (t, n, q)) (he : A.2.2.1 i j.toInt.toNat = o) (h1 : 0 ≤ j.toInt → j.toInt < (n : Int) → ∀ a, o = some a → 129 ≤ a → a < A.2.2.2.2 → Pa N mid (pc + 1) lv (.ref a :: r) A Q) (h2 : 0 ≤ j.toInt → j.toInt < (n : Int) → o = none → Pa N mid (pc + 1) lv (.null :: r) A Q) : Pa N mid pc lv (.int j :: .ref i :: r) A Q := by
  subst he
  refine Pa.stp hf (fun L xs w hS hA o ho => ?_)
  have hs : m_step L xs mid pc lv (.int j :: .ref i :: r) w .aaload = (match m_ald 3 i j w with | some v => mNx (pc + 1) lv (v :: r) w | none => none) := rfl
  rw [hs] at ho
  split at ho
  next v hv =>
    cases ho
    unfold m_ald at hv
    split at hv
    next t n f h1 =>
      split at hv
      next hc => omega
      next => cases hv
    next t n f h1 =>
      split at hv
      next hc => omega
      next => cases hv
    next t' n' f h3 =>
      split at hv
      next hc =>
        cases hv
        obtain ⟨a1, a2, a3⟩ := a_in_ok hc.1
        have hN : A.2.2.2.1 i = n' := by rw [← hA, (aw_at h3).2.2.2]; rfl
        have hN2 : A.2.2.2.1 i = n := by rw [← hA]; exact AN_len hS hz
        have hO : A.2.2.1 i j.toInt.toNat = f j.toNatClampNeg := by rw [← hA, (aw_at h3).2.2.1, a3]; rfl
        have a2' : j.toInt < (n : Int) := by rw [← hN2, hN]; exact a2
        refine ⟨hS, ?_⟩
        rw [hA]
        unfold m_opt
        cases hq : f j.toNatClampNeg with
        | some a =>
          have hrf : 129 ≤ a ∧ a < A.2.2.2.2 := by
            have hlt : i < zD.1.length := by
              obtain ⟨e, he, -⟩ := z_ln_ok hz
              exact (List.getElem?_eq_some_iff.mp he).1
            obtain ⟨e, b, g1, g2, g3, g4⟩ := SH_arr hS hz
            obtain ⟨a', b1, -, b3⟩ := WI_arr hS g1
            rw [h3] at g3
            cases g3
            rw [h3] at b1
            cases b1
            have b4 := b3 j.toNatClampNeg (by omega)
            have b5 : m_el (.inr (.inr (.inr (.inr f)))) j.toNatClampNeg = .ref a := by
              show m_opt f j.toNatClampNeg = .ref a
              unfold m_opt
              rw [hq]
            rw [b5] at b4
            have hlen : ∀ c, w[a]? = some c → a < A.2.2.2.2 := fun c hc => by
              rw [← hA]
              exact (List.getElem?_eq_some_iff.mp hc).1
            generalize hsp : z_es zD.2.2 e j.toNatClampNeg = sp at b4
            obtain ⟨te, ea, eb⟩ := sp
            unfold okV at b4
            match te, b4 with
            | 0, ⟨i', hi', _⟩ => cases hi'
            | 1, ⟨i', hi'⟩ => cases hi'
            | 2, hi' =>
              exfalso
              have hk := List.all_eq_true.mp z_no2 _ (List.mem_of_getElem? g1)
              have hk2 : (!(Nat.beq (z_es zD.2.2 e j.toNatClampNeg).1 2)) = true := by
                have hk3 : (!(Nat.beq e.1 2)) = true := hk
                unfold z_es
                cases e7 : Nat.beq e.1 7 with
                | true => rfl
                | false => exact hk3
              rw [hsp] at hk2
              cases hk2
            | 3, hi' =>
              rcases hi' with hi' | ⟨i', hi', hw', c, hc1, -⟩
              · cases hi'
              · cases hi'; exact ⟨hw', hlen c hc1⟩
            | 4, hi' =>
              rcases hi' with hi' | ⟨i', n'', hi', hw', -, c, hc1, -⟩
              · cases hi'
              · cases hi'; exact ⟨hw', hlen c hc1⟩
            | m + 5, hi' => exact hi'.elim
          exact h1 a1 a2' a (by rw [hO, hq]) hrf.1 hrf.2
        | none => exact h2 a1 a2' (by rw [hO, hq])
      next => cases hv
    next => cases hv
  next => cases ho
/-- the class's own tables -/
def x_tab (q j : Nat) : Int32 := match q with
  | 1 => ([-1, 0, 0, 2, 0, 2, 4] : List Int32).getD j 0
  | 2 => ([10, 0, 30, 0, 0, 60, 0, 11, 20, 0, 0, 50, 0, 70, 12, 0, 0, 40, 0, 61, 0] : List Int32).getD j 0
  | _ => ([100, 30, 0, 99999999, 0] : List Int32).getD j 0
theorem Pa.xld {j v : Int32} {q : Nat} (hf : pgF mid pc = some (.iaload, k)) (hq : q = 1 ∨ q = 2 ∨ q = 3) (he : x_tab q j.toInt.toNat = v) (h : 0 ≤ j.toInt → Pa N mid (pc + 1) lv (.int v :: r) A Q) : Pa N mid pc lv (.int j :: .retAddr q :: r) A Q := by
  subst he
  refine Pa.stp hf (fun L xs w hS hA o ho => ?_)
  have hs : m_step L xs mid pc lv (.int j :: .retAddr q :: r) w .iaload = (match m_xld L xs 0 q j with | some v => mNx (pc + 1) lv (v :: r) w | none => none) := rfl
  rw [hs] at ho
  split at ho
  next v hv =>
    cases ho
    unfold m_xld at hv
    have key : ∃ n, m_in j n = true ∧ v = .int (x_tab q j.toNatClampNeg) := by
      rcases hq with e | e | e <;> subst e
      · simp only [pgX] at hv
        split at hv
        next hc => cases hv; exact ⟨7, hc.1, rfl⟩
        next => cases hv
      · simp only [pgX] at hv
        split at hv
        next hc => cases hv; exact ⟨21, hc.1, rfl⟩
        next => cases hv
      · simp only [pgX] at hv
        split at hv
        next hc => cases hv; exact ⟨5, hc.1, rfl⟩
        next => cases hv
    obtain ⟨n, h1, rfl⟩ := key
    obtain ⟨a1, a2, a3⟩ := a_in_ok h1
    have hp := h a1
    rw [← a3] at hp
    exact ⟨hS, by rw [hA]; exact hp⟩
  next => cases ho
theorem zD_e {i t n : Nat} {e : zSp} (g1 : zD.1[i]? = some (1, t, n, [e])) (g2 : e.1 = 0) : e = (0, -2147483648, 2147483647) := by
  have hm := List.mem_of_getElem? g1
  rw [show zD.1 = zSH.map z_wS from rfl] at hm
  obtain ⟨s0, -, hs0⟩ := List.mem_map.mp hm
  have h5 : [e] = s0.2.2.2.map z_wd := by rw [← show (z_wS s0).2.2.2 = s0.2.2.2.map z_wd from rfl, hs0]
  have h6 : e ∈ s0.2.2.2.map z_wd := by rw [← h5]; exact List.mem_singleton.mpr rfl
  obtain ⟨⟨t0, a0, b0⟩, -, h0⟩ := List.mem_map.mp h6
  unfold z_wd at h0
  simp only at h0
  split at h0
  · exact h0.symm
  · exact h0.symm
  · rw [← h0] at g2
    simp only at g2
    exact absurd g2 (by assumption)
theorem Pa.asts {j x : Int32} {i t n j' : Nat} (hf : pgF mid pc = some (.iastore, k)) (hz : z_ln i = some (t, n, 0)) (hj : j.toInt.toNat = j') (h : 0 ≤ j.toInt → j.toInt < (n : Int) → Pa N mid (pc + 1) lv r (uI A i j' x) Q) : Pa N mid pc lv (.int x :: .int j :: .ref i :: r) A Q := by
  subst hj
  refine Pa.stp hf (fun L xs w hS hA o ho => ?_)
  obtain ⟨e, a, g1, g2, g3, g4⟩ := SH_arr hS hz
  have hs : m_step L xs mid pc lv (.int x :: .int j :: .ref i :: r) w .iastore = (match m_ast 0 i j (.int x) w with | some c => mNx (pc + 1) lv r (w.set i c) | none => none) := rfl
  rw [hs] at ho
  split at ho
  next c hc =>
    cases ho
    unfold m_ast at hc
    split at hc
    next t' n' f x' h1 h2 =>
      cases h2
      rw [g3] at h1
      cases h1
      split at hc
      next hq =>
        cases hc
        obtain ⟨a1, a2, a3⟩ := a_in_ok hq.1
        refine ⟨?_, ?_⟩
        · refine WI_seta hS g1 g3 rfl (fun j' hj' => ?_)
          obtain ⟨a', b1, -, b3⟩ := WI_arr hS g1
          rw [g3] at b1
          cases b1
          have he := zD_e g1 g2
          subst he
          exact ⟨_, rfl, (i32_rg _).1, (i32_rg _).2⟩
        · rw [aw_setI (e' := .inl (t, n, .inl (upd f j.toNatClampNeg x))) (k := j.toInt.toNat) (x := x) g3 ?_ rfl rfl rfl, hA]
          · exact h a1 a2
          · intro k'
            show upd f j.toNatClampNeg x k' = if k' = j.toInt.toNat then x else f k'
            rw [← a3]; rfl
      next =>
        split at hc
        next hq => omega
        next => cases hc
    next t' n' f x' h1 h2 => cases h2
    next t' n' f a' h1 h2 => cases h2
    next => cases hc
  next => cases ho
theorem Pa.bsts {j x : Int32} {i t n j' : Nat} (hf : pgF mid pc = some (.bastore, k)) (hz : z_ln i = some (t, n, 0)) (hj : j.toInt.toNat = j') (h : 0 ≤ j.toInt → j.toInt < (n : Int) → Pa N mid (pc + 1) lv r (uI A i j' (vp_nar .boolean x)) Q) : Pa N mid pc lv (.int x :: .int j :: .ref i :: r) A Q := by
  subst hj
  refine Pa.stp hf (fun L xs w hS hA o ho => ?_)
  obtain ⟨e, a, g1, g2, g3, g4⟩ := SH_arr hS hz
  have hs : m_step L xs mid pc lv (.int x :: .int j :: .ref i :: r) w .bastore = (match m_ast 1 i j (.int x) w with | some c => mNx (pc + 1) lv r (w.set i c) | none => none) := rfl
  rw [hs] at ho
  split at ho
  next c hc =>
    cases ho
    unfold m_ast at hc
    split at hc
    next t' n' f x' h1 h2 =>
      cases h2
      rw [g3] at h1
      cases h1
      split at hc
      next hq => omega
      next =>
       split at hc
       next hq =>
        cases hc
        obtain ⟨a1, a2, a3⟩ := a_in_ok hq.1
        refine ⟨?_, ?_⟩
        · refine WI_seta hS g1 g3 rfl (fun j' hj' => ?_)
          obtain ⟨a', b1, -, b3⟩ := WI_arr hS g1
          rw [g3] at b1
          cases b1
          have he := zD_e g1 g2
          subst he
          exact ⟨_, rfl, (i32_rg _).1, (i32_rg _).2⟩
        · rw [aw_setI (e' := .inl (t, n, .inl (upd f j.toNatClampNeg (vp_nar .boolean x)))) (k := j.toInt.toNat) (x := vp_nar .boolean x) g3 ?_ rfl rfl rfl, hA]
          · exact h a1 a2
          · intro k'
            show upd f j.toNatClampNeg (vp_nar .boolean x) k' = if k' = j.toInt.toNat then vp_nar .boolean x else f k'
            rw [← a3]; rfl
       next => cases hc
    next t' n' f x' h1 h2 => cases h2
    next t' n' f a' h1 h2 => cases h2
    next => cases hc
  next => cases ho
/-! lengths -/
theorem Pa.lens {i t n q : Nat} {x : Int32} (hf : pgF mid pc = some (.arraylength, k)) (hz : z_ln i = some (t, n, q)) (hx : Int32.ofNat n = x) (h : Pa N mid (pc + 1) lv (.int x :: r) A Q) : Pa N mid pc lv (.ref i :: r) A Q := by
  subst hx
  refine Pa.stp hf (fun L xs w hS hA o ho => ?_)
  obtain ⟨e, a, g1, g2, g3, g4⟩ := SH_arr hS hz
  have hs : m_step L xs mid pc lv (.ref i :: r) w .arraylength = (match (match w[i]? with
    | some (.inl (t, n, _)) => if t < 5 then some n else none
    | _ => none) with | some n => mNx (pc + 1) lv (.int (Int32.ofNat n) :: r) w | none => none) := rfl
  rw [hs, g3] at ho
  dsimp only at ho
  by_cases ht : t < 5
  · rw [if_pos ht] at ho; cases ho; exact ⟨hS, by rw [hA]; exact h⟩
  · rw [if_neg ht] at ho; cases ho
theorem Pa.lend {i : Nat} (hf : pgF mid pc = some (.arraylength, k)) (h : Pa N mid (pc + 1) lv (.int (Int32.ofNat (A.2.2.2.1 i)) :: r) A Q) : Pa N mid pc lv (.ref i :: r) A Q := by
  refine Pa.stp hf (fun L xs w hS hA o ho => ?_)
  have hs : m_step L xs mid pc lv (.ref i :: r) w .arraylength = (match (match w[i]? with
    | some (.inl (t, n, _)) => if t < 5 then some n else none
    | _ => none) with | some n => mNx (pc + 1) lv (.int (Int32.ofNat n) :: r) w | none => none) := rfl
  rw [hs] at ho
  cases hw : w[i]? with
  | none => rw [hw] at ho; cases ho
  | some c =>
    rw [hw] at ho
    match c, hw, ho with
    | .inl (t, n, a), hw, ho =>
      dsimp only at ho
      by_cases ht : t < 5
      · rw [if_pos ht] at ho
        cases ho
        have hN : A.2.2.2.1 i = n := by rw [← hA, (aw_at hw).2.2.2]; rfl
        rw [hN] at h
        exact ⟨hS, by rw [hA]; exact h⟩
      · rw [if_neg ht] at ho; cases ho
    | .inr c, hw, ho => cases ho
def x_ln (q : Nat) : Nat := match q with
  | 1 => 7
  | 2 => 21
  | 3 => 5
  | _ => 10
theorem Pa.lenx {q : Nat} {x : Int32} (hf : pgF mid pc = some (.arraylength, k)) (hq : q = 1 ∨ q = 2 ∨ q = 3 ∨ q = 5) (hx : Int32.ofNat (x_ln q) = x) (h : Pa N mid (pc + 1) lv (.int x :: r) A Q) : Pa N mid pc lv (.retAddr q :: r) A Q := by
  subst hx
  refine Pa.cst (pc' := pc + 1) (l' := lv) (st' := .int (Int32.ofNat (x_ln q)) :: r) hf (fun L xs w => ?_) h
  rcases hq with e | e | e | e <;> subst e <;> rfl
end PAC
