theorem m_ast_sl {o i : Nat} {j : Int32} {v : Value} {w : mWd} {ce : mE} (h : m_ast o i j v w = some ce) : m_sl (w.set i ce) = m_sl w := by
  unfold m_ast at h
  split at h
  next t n f x hw =>
    split at h
    next => cases h; exact m_sl_set hw rfl
    next =>
      split at h
      next => cases h; exact m_sl_set hw rfl
      next => cases h
  next t n f x hw =>
    split at h
    next => cases h; exact m_sl_set hw rfl
    next => cases h
  next t n f a hw =>
    split at h
    next =>
      split at h
      next => cases h; exact m_sl_set hw rfl
      next => cases h
    next =>
      split at h
      next => cases h; exact m_sl_set hw rfl
      next => cases h
    next => cases h
  next => cases h
section RW3
variable {p : Program} {l : Launch} {e : Env} {R : Room} {s : State} {m : MethodId} {args : Array Value} {below : List Frame} {meth : Method} {c : Code} {H : Heap} {locs : List Loc} {cells slots : Nat} {Q : State → Prop}
variable {pc : Nat} {ls : Array Slot} {B L mid : Nat} {xs : Nat → Int32} {X : Nat → Nat} {dT : Nat → ClassId} {D : va_G} {w : mWd} {rest : List Value}
theorem r_ast (F : mFr p s m meth c mid B L xs X dT D) (hok : mOK B X dT D w H) (hS : va_S (fun q : Nat => B ≤ q) s.heap H locs) {o i : Nat} {j : Int32} {v : Value} {ce : mE} {ins : Instr} (ho : (o = 0 ∧ ins = .iastore) ∨ (o = 1 ∧ ins = .bastore) ∨ (o = 2 ∧ ins = .lastore) ∨ (o = 3 ∧ ins = .aastore)) (h : m_ast o i j v w = some ce) (hdg : decode (pgB mid) pc = .ok (ins, 1))
    (kk : ∀ (H1 : Heap) (locs1 : List Loc), mOK B X dT D (w.set i ce) H1 → va_S (fun q : Nat => B ≤ q) s.heap H1 locs1 → m_sl (w.set i ce) = m_sl w → W p l e R s m args below meth c H1 locs1 cells slots Q (F0 m (pc + 1) ls rest)) : W p l e R s m args below meth c H locs cells slots Q (F0 m pc ls (mv B X v :: .int j :: .ref (B + i) :: rest)) := by
  obtain ⟨hx, hb, -, -, -, hown, hmn, G, Nw, K, -, -, -, -, ⟨kA4, hkA4, hkind4⟩, -⟩ := F
  unfold m_ast at h
  split at h
  next t n f x hw =>
    split at h
    next hc =>
      obtain ⟨hin, rfl, rfl⟩ := hc
      cases h
      rcases ho with ⟨-, rfl⟩ | ⟨hz, -⟩ | ⟨hz, -⟩ | ⟨hz, -⟩
      · refine W.iast hx hb (hok.2 i _ (mZ_at hw)) ((K.2 0 _ rfl).1 n (fun j => .int (f j))) (fun q => by cases q) (by show ¬ (j < 0 ∨ (arrV _ _ _).slots.size ≤ _); rw [arrV_size]; exact m_in_ok hin) rfl rfl hdg fun H1 e z oq => ?_
        refine kk H1 _ (hok.set hw ?_ z oq) (mS_put hS z oq) (m_sl_set hw rfl)
        show H1[B + i]? = some (vp_cell _ _)
        rw [e]
        show some ((vp_cell (dT 0) (n, .inl f)).setSlot _ _) = some (vp_cell (dT 0) (n, .inl (upd f j.toNatClampNeg x)))
        rw [vp_cell_i, vp_cell_i, arrV_store]
        congr 2
        funext q
        by_cases hq : q = j.toNatClampNeg
        · subst hq
          simp [updV, upd]
        · simp [updV, upd, hq]
      · cases hz
      · cases hz
      · cases hz
    next =>
      split at h
      next hc =>
        obtain ⟨hin, rfl, rfl⟩ := hc
        cases h
        rcases ho with ⟨hz, -⟩ | ⟨-, rfl⟩ | ⟨hz, -⟩ | ⟨hz, -⟩
        · cases hz
        · refine W.zast hx hb (hok.2 i _ (mZ_at hw)) ((K.2 1 _ rfl).1 n (fun j => .int (f j))) (fun q => by cases q) (by show ¬ (j < 0 ∨ (arrV _ _ _).slots.size ≤ _); rw [arrV_size]; exact m_in_ok hin) rfl rfl hdg fun H1 e z oq => ?_
          refine kk H1 _ (hok.set hw ?_ z oq) (mS_put hS z oq) (m_sl_set hw rfl)
          show H1[B + i]? = some (vp_cell _ _)
          rw [e]
          show some ((vp_cell (dT 1) (n, .inl f)).setSlot _ _) = some (vp_cell (dT 1) (n, .inl (upd f j.toNatClampNeg (vp_nar .boolean x))))
          rw [vp_cell_i, vp_cell_i, arrV_store]
          congr 2
          funext q
          by_cases hq : q = j.toNatClampNeg
          · subst hq
            simp [updV, upd, vp_nar]
            try rfl
          · simp [updV, upd, hq]
        · cases hz
        · cases hz
      next => cases h
  next t n f x hw =>
    split at h
    next hc =>
      obtain ⟨hin, rfl, rfl⟩ := hc
      cases h
      rcases ho with ⟨hz, -⟩ | ⟨hz, -⟩ | ⟨-, rfl⟩ | ⟨hz, -⟩
      · cases hz
      · cases hz
      · refine W.last hx hb (hok.2 i _ (mZ_at hw)) ((K.2 2 _ rfl).1 n (fun j => .long (f j))) (fun q => by cases q) (by show ¬ (j < 0 ∨ (arrV _ _ _).slots.size ≤ _); rw [arrV_size]; exact m_in_ok hin) rfl rfl hdg fun H1 e z oq => ?_
        refine kk H1 _ (hok.set hw ?_ z oq) (mS_put hS z oq) (m_sl_set hw rfl)
        show H1[B + i]? = some (vp_cell _ _)
        rw [e]
        show some ((vp_cell (dT 2) (n, .inr (.inl f))).setSlot _ _) = some (vp_cell (dT 2) (n, .inr (.inl (vp_updL f j.toNatClampNeg x))))
        rw [vp_cell_l, vp_cell_l, arrV_store]
        congr 2
        funext q
        by_cases hq : q = j.toNatClampNeg
        · subst hq
          simp [updV, vp_updL]
        · simp [updV, vp_updL, hq]
      · cases hz
    next => cases h
  next t n f a hw =>
    have fin : ∀ (H1 : Heap), (t = 3 ∨ t = 4) → H1[B + i]? = some ((vp_cell (dT t) (n, .inr (.inr (.inr (.inr (fun j => (f j).map (fun a => B + a))))))).setSlot j.toNatClampNeg (.ref (B + a))) → va_at D vwCl (B + i, mc B X dT (.inl (t, n, .inr (.inr (.inr (.inr (va_up f j.toNatClampNeg (some a)))))))) H1 := by
      intro H1 ht e
      show H1[B + i]? = some (vp_cell (dT t) (n, .inr (.inr (.inr (.inr (fun q => (va_up f j.toNatClampNeg (some a) q).map (fun a => B + a)))))))
      rw [e, vp_cell_q, vp_cell_q, arrV_store]
      congr 2
      funext q
      by_cases hq : q = j.toNatClampNeg
      · subst hq
        simp [updV, va_up, va_rf]
      · simp [updV, va_up, hq]
    split at h
    next cj fs ha =>
      split at h
      next hc =>
        obtain ⟨hin, rfl, rfl, rfl⟩ := hc
        cases h
        have hlt : j.toNatClampNeg < n := Nat.not_le.mp fun q => m_in_ok hin (Or.inr q)
        have h0 : ¬ j < 0 := fun q => m_in_ok hin (Or.inl q)
        rcases ho with ⟨hz, -⟩ | ⟨hz, -⟩ | ⟨hz, -⟩ | ⟨-, rfl⟩
        · cases hz
        · cases hz
        · cases hz
        · obtain ⟨r', hr', cellV, g1, g2, g3, -⟩ := hok.2 a _ (mZ_at ha)
          have hcls := (K.1 2 (RX2, TX2, 13) rfl).2
          obtain ⟨kA, comp, k1, k2, k3, -⟩ := (K.2 3 _ rfl).2
          have hcomp : comp = D.1 2 := Option.some.inj (k3.symm.trans hcls.1)
          subst hcomp
          obtain ⟨kC, hkC, -⟩ := hcls.2
          refine W.aast hx hb (hok.2 i _ (mZ_at hw)) (fun q h => by cases h) (fun h => by cases h) k1 k2 rfl hkC ⟨h0, by show _ < (arrV _ _ _).slots.size; rw [arrV_size]; exact hlt⟩ g1 (fun q h => by rw [g3] at h; cases h) (by rw [g2]; exact hkC) (by rw [g2]; exact va_assign hcls) rfl rfl hdg fun H1 e z oq => ?_
          exact kk H1 _ (hok.set hw (fin H1 (Or.inl rfl) e) z oq) (mS_put hS z oq) (m_sl_set hw rfl)
      next => cases h
    next ta na fa ha =>
      split at h
      next hc =>
        obtain ⟨hin, rfl, rfl, rfl⟩ := hc
        cases h
        have hlt : j.toNatClampNeg < n := Nat.not_le.mp fun q => m_in_ok hin (Or.inr q)
        have h0 : ¬ j < 0 := fun q => m_in_ok hin (Or.inl q)
        rcases ho with ⟨hz, -⟩ | ⟨hz, -⟩ | ⟨hz, -⟩ | ⟨-, rfl⟩
        · cases hz
        · cases hz
        · cases hz
        · obtain ⟨-, kI, hkI, compI, hkindI⟩ := (K.2 0 _ rfl).1 0 (fun _ => .null)
          have g1 := hok.2 a _ (mZ_at ha)
          have hasg : s.vm.assignable (dT 0) (dT 0) = true := va_asg _ _
          refine W.aast hx hb (hok.2 i _ (mZ_at hw)) (fun q h => by cases h) (fun h => by cases h) hkA4 hkind4 rfl hkI ⟨h0, by show _ < (arrV _ _ _).slots.size; rw [arrV_size]; exact hlt⟩ g1 (fun q h => by cases h) hkI hasg rfl rfl hdg fun H1 e z oq => ?_
          exact kk H1 _ (hok.set hw (fin H1 (Or.inr rfl) e) z oq) (mS_put hS z oq) (m_sl_set hw rfl)
      next => cases h
    next => cases h
  next => cases h
end RW3
