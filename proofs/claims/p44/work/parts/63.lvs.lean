/-! MORE LOCALS DO NOT HURT; a cut's locals in their order -/
def lvS (l l' : mL) : Prop := ∀ i v, m_get l i = some v → m_get l' i = some v
def lvU (l : mL) : Prop := (l.map Prod.fst).Nodup
theorem m_get_flt {p : Nat × Value → Bool} {j : Nat} {v : Value} : ∀ {l : mL}, lvU l → m_get (l.filter p) j = some v → m_get l j = some v ∧ p (j, v) = true
  | [], _, h => by cases h
  | (i, u) :: l, hu, h => by
    have hu' := List.nodup_cons.mp hu
    rw [List.filter_cons] at h
    unfold m_get
    split at h
    next hp =>
      unfold m_get at h
      cases e : Nat.beq i j with
      | true =>
        rw [e] at h
        cases h
        have := Nat.eq_of_beq_eq_true e
        subst this
        exact ⟨rfl, hp⟩
      | false =>
        rw [e] at h
        exact m_get_flt hu'.2 h
    next hp =>
      have ih := m_get_flt hu'.2 h
      cases e : Nat.beq i j with
      | true =>
        have := Nat.eq_of_beq_eq_true e
        subst this
        exact absurd (List.mem_map.mpr ⟨_, m_get_mem ih.1, rfl⟩) hu'.1
      | false => exact ih
theorem lvU_flt {p : Nat × Value → Bool} {l : mL} (h : lvU l) : lvU (l.filter p) := by
  unfold lvU at h ⊢
  exact List.Nodup.sublist (List.Sublist.map _ List.filter_sublist) h
theorem get_put {i j : Nat} {v : Value} {p : Nat × Value → Bool} {l : mL} : m_get ((i, v) :: l.filter p) j = if i = j then some v else m_get (l.filter p) j := by
  show (bif Nat.beq i j then some v else m_get (l.filter p) j) = _
  by_cases e : i = j
  · subst e; rw [if_pos rfl, Nat.beq_refl]; rfl
  · rw [if_neg e, beq_ne e]; rfl
theorem lvS_put {i : Nat} {v : Value} {p : Nat × Value → Bool} {l l' : mL} (hu : lvU l) (h : lvS l l') : lvS ((i, v) :: l.filter p) ((i, v) :: l'.filter p) := by
  intro j u hj
  rw [get_put] at hj ⊢
  split at hj
  next e => rw [if_pos e]; exact hj
  next e =>
    rw [if_neg e]
    obtain ⟨h1, h2⟩ := m_get_flt hu hj
    exact m_get_filter (h j u h1) h2
theorem lvU_put {i : Nat} {v : Value} {p : Nat × Value → Bool} {l : mL} (hu : lvU l) (hp : ∀ u, p (i, u) = false) : lvU ((i, v) :: l.filter p) := by
  refine List.nodup_cons.mpr ⟨fun h => ?_, lvU_flt hu⟩
  obtain ⟨⟨a, u⟩, h1, h2⟩ := List.mem_map.mp h
  simp only at h2
  subst h2
  have := (List.mem_filter.mp h1).2
  rw [hp u] at this
  cases this
theorem lvS_put1 {i : Nat} {v : Value} {l l' : mL} (hu : lvU l) (h : lvS l l') : lvS (m_put1 l i v) (m_put1 l' i v) ∧ lvU (m_put1 l i v) := ⟨lvS_put hu h, lvU_put hu (fun u => by simp)⟩
theorem lvS_put2 {i : Nat} {v : Value} {l l' : mL} (hu : lvU l) (h : lvS l l') : lvS (m_put2 l i v) (m_put2 l' i v) ∧ lvU (m_put2 l i v) := ⟨lvS_put hu h, lvU_put hu (fun u => by simp)⟩
section LVM
variable {L : Nat} {xs : Nat → Int32} {mid pc nL : Nat} {l l' : mL} {st : List Value} {w : mWd} {ins : Instr}
def pR (l l' : mL) (r r' : Option (Nat × mL × List Value)) : Prop := ∀ q, r = some q → ∃ l2, r' = some (q.1, l2, q.2.2) ∧ lvS q.2.1 l2 ∧ lvU q.2.1
theorem pR_same {a : Nat} {s : List Value} (hu : lvU l) (h : lvS l l') : pR l l' (some (a, l, s)) (some (a, l', s)) := fun q hq => by cases hq; exact ⟨l', rfl, h, hu⟩
theorem pR_none {r' : Option (Nat × mL × List Value)} : pR l l' none r' := fun q hq => by cases hq
theorem pR_ld {ty i pc : Nat} (hu : lvU l) (h : lvS l l') : pR l l' (m_ld ty l i pc st) (m_ld ty l' i pc st) := by
  unfold m_ld
  cases hg : m_get l i with
  | none => intro q hq; cases hq
  | some v =>
    rw [h i v hg]
    cases v <;> dsimp only <;> first
      | exact pR_none
      | (split
         · exact pR_same hu h
         · exact pR_none)
theorem pR_st {ty i pc : Nat} (hu : lvU l) (h : lvS l l') : pR l l' (m_st nL ty l i pc st) (m_st nL ty l' i pc st) := by
  unfold m_st
  split
  all_goals first
    | exact pR_none
    | (split
       · intro q hq
         cases hq
         first
           | exact ⟨_, rfl, lvS_put1 hu h⟩
           | exact ⟨_, rfl, lvS_put2 hu h⟩
       · exact pR_none)
theorem pR_br {b : Bool} {off : Int} {pc : Nat} (hu : lvU l) (h : lvS l l') : pR l l' (m_br b pc off l st) (m_br b pc off l' st) := by
  unfold m_br
  split
  · exact pR_same hu h
  · exact pR_none
theorem pR_jmp {off : Int} {pc : Nat} (hu : lvU l) (h : lvS l l') : pR l l' (m_jmp pc off l st) (m_jmp pc off l' st) := by
  unfold m_jmp
  split
  · exact pR_same hu h
  · exact pR_none
theorem pR_bi {pc : Nat} (hu : lvU l) (h : lvS l l') : pR l l' (m_bi ins pc l st) (m_bi ins pc l' st) := by
  unfold m_bi
  split
  · split
    · exact pR_same hu h
    · exact pR_none
  · exact pR_none
theorem pR_bl {pc : Nat} (hu : lvU l) (h : lvS l l') : pR l l' (m_bl ins pc l st) (m_bl ins pc l' st) := by
  unfold m_bl
  split
  · split
    · exact pR_same hu h
    · exact pR_none
  · exact pR_none
theorem pR_un {pc : Nat} (hu : lvU l) (h : lvS l l') : pR l l' (m_un ins pc l st) (m_un ins pc l' st) := by
  unfold m_un
  split
  · split
    · exact pR_same hu h
    · exact pR_none
  · exact pR_none
theorem pR_nul {b : Bool} {off : Int} {pc : Nat} (hu : lvU l) (h : lvS l l') : pR l l' (m_nul b pc off l st) (m_nul b pc off l' st) := by
  unfold m_nul
  split
  all_goals first | exact pR_br hu h | exact pR_none
theorem pR_acm {b : Bool} {off : Int} {pc : Nat} (hu : lvU l) (h : lvS l l') : pR l l' (m_acm b pc off l st) (m_acm b pc off l' st) := by
  unfold m_acm
  split
  all_goals first | exact pR_br hu h | exact pR_none
theorem pR_pure (hu : lvU l) (h : lvS l l') : pR l l' (m_pure nL ins pc l st) (m_pure nL ins pc l' st) := by
  cases ins
  all_goals first
    | exact pR_none
    | exact pR_same hu h
    | exact pR_ld hu h
    | exact pR_st hu h
    | exact pR_bi hu h
    | exact pR_bl hu h
    | exact pR_un hu h
    | exact pR_nul hu h
    | exact pR_jmp hu h
    | skip
  case iinc i n =>
    unfold m_pure
    dsimp only
    cases hg : m_get l i with
    | none => exact pR_none
    | some v =>
      rw [h i v hg]
      cases v <;> dsimp only <;> first
        | exact pR_none
        | (split
           · intro q hq; cases hq; exact ⟨_, rfl, lvS_put1 hu h⟩
           · exact pR_none)
  case if_acmp cd off =>
    cases cd
    · exact pR_acm hu h
    · exact pR_acm hu h
  all_goals
    unfold m_pure
    dsimp only
    first
      | exact pR_bi hu h
      | exact pR_bl hu h
      | exact pR_un hu h
      | skip
    all_goals repeat' split
    all_goals first
      | exact pR_none
      | exact pR_same hu h
      | exact pR_br hu h
      | exact pR_jmp hu h
def oRR (l l' : mL) : Option mOut → Option mOut → Prop
  | some (.inl (a, l1, s, w)), r' => ∃ l2, r' = some (.inl (a, l2, s, w)) ∧ lvS l1 l2 ∧ lvU l1
  | some (.inr x), r' => r' = some (.inr x)
  | none, _ => True
theorem oR_nx {a : Nat} {s : List Value} (hu : lvU l) (h : lvS l l') : oRR l l' (mNx a l s w) (mNx a l' s w) := ⟨l', rfl, h, hu⟩
theorem oR_step (hu : lvU l) (h : lvS l l') : oRR l l' (m_step L xs mid pc l st w ins) (m_step L xs mid pc l' st w ins) := by
  have hp : oRR l l' (match m_pure (pgL mid) ins pc l st with | some (a, b, c) => mNx a b c w | none => none) (match m_pure (pgL mid) ins pc l' st with | some (a, b, c) => mNx a b c w | none => none) := by
    have hq := pR_pure (nL := pgL mid) (ins := ins) (pc := pc) (st := st) hu h
    cases hm : m_pure (pgL mid) ins pc l st with
    | none => trivial
    | some q =>
      obtain ⟨a, b, c⟩ := q
      obtain ⟨l2, h1, h2⟩ := hq _ hm
      rw [h1]
      exact ⟨l2, rfl, h2⟩
  cases ins
  all_goals first | exact hp | skip
  all_goals
    unfold m_step
    dsimp only
    repeat' split
    all_goals first
      | trivial
      | exact oR_nx hu h
      | exact rfl
      | skip
  all_goals
    first
      | (unfold m_getf; repeat' split) 
      | (unfold m_putf; repeat' split)
      | (unfold m_new; repeat' split)
      | (unfold m_call; repeat' split)
      | skip
    all_goals first
      | trivial
      | exact oR_nx hu h
      | exact rfl
      | skip
theorem run_lv : ∀ (n d mid pc : Nat) (l l' : mL) (st : List Value) (w : mWd) (r : Option Value × mWd), lvU l → lvS l l' → m_run L xs n d mid pc l st w = some r → m_run L xs n d mid pc l' st w = some r := by
  intro n
  induction n with
  | zero => intro d mid pc l l' st w r _ _ h; cases h
  | succ n ih =>
    intro d mid pc l l' st w r hu hs h
    cases d with
    | zero => cases h
    | succ d =>
      unfold m_run at h ⊢
      cases hf : pgF mid pc with
      | none => rw [hf] at h; cases h
      | some q =>
        obtain ⟨ins, k⟩ := q
        rw [hf] at h
        dsimp only at h ⊢
        have ho := oR_step (L := L) (xs := xs) (mid := mid) (pc := pc) (st := st) (w := w) (ins := ins) hu hs
        cases hm : m_step L xs mid pc l st w ins with
        | none => rw [hm] at h; cases h
        | some o =>
          rw [hm] at h ho
          match o, h, ho with
          | .inl (a, l1, s, w'), h, ho =>
            obtain ⟨l2, h1, h2, h3⟩ := ho
            rw [h1]
            exact ih _ _ _ _ _ _ _ _ h3 h2 h
          | .inr (.inl (y, as, rr)), h, ho =>
            have ho' : m_step L xs mid pc l' st w ins = some (.inr (.inl (y, as, rr))) := ho
            rw [ho']
            dsimp only at h ⊢
            split at h
            next => cases h
            next v w1 h2 =>
              exact ih _ _ _ _ _ _ _ _ hu hs h
          | .inr (.inr v), h, ho =>
            have ho' : m_step L xs mid pc l' st w ins = some (.inr (.inr v)) := ho
            rw [ho']
            exact h
end LVM
/-- a list of locals as a program checks it: no key twice, each found in the other -/
def l_nd : List Nat → Bool
  | [] => true
  | a :: l => !(l.any (Nat.beq a)) && l_nd l
theorem l_nd_ok : ∀ {l : List Nat}, l_nd l = true → l.Nodup
  | [], _ => List.nodup_nil
  | a :: l, h => by
    unfold l_nd at h
    rw [Bool.and_eq_true, Bool.not_eq_true'] at h
    refine List.nodup_cons.mpr ⟨fun hm => ?_, l_nd_ok h.2⟩
    have : l.any (Nat.beq a) = true := List.any_eq_true.mpr ⟨a, hm, Nat.beq_refl a⟩
    rw [this] at h
    exact absurd h.1 (by decide)
theorem lvS_nil {l' : mL} : lvS [] l' := fun i v h => by cases h
theorem lvS_c {i : Nat} {v : Value} {l l' : mL} (h : m_get l' i = some v) (hs : lvS l l') : lvS ((i, v) :: l) l' := by
  intro j u hj
  unfold m_get at hj
  cases e : Nat.beq i j with
  | true =>
    rw [e] at hj
    cases hj
    have := Nat.eq_of_beq_eq_true e
    subst this
    exact h
  | false => rw [e] at hj; exact hs j u hj
theorem Pa.lv {N mid pc : Nat} {l l' : mL} {st : List Value} {A : AW} {Q : Option Value → AW → Prop} (hs : lvS l l') (hu : l_nd (l.map Prod.fst) = true) (h : Pa N mid pc l' st A Q) : Pa N mid pc l st A Q := fun L xs n d w hn hS hA v w1 hr => h L xs n d w hn hS hA v w1 (run_lv n d mid pc l l' st w _ (l_nd_ok hu) hs hr)
