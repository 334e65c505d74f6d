/-! RUNS SEEN FROM THE FUNCTIONS: what holds if the run ends -/
def Pa (N mid pc : Nat) (lv : mL) (st : List Value) (A : AW) (Q : Option Value → AW → Prop) : Prop := ∀ (L : Nat) (xs : Nat → Int32) (n d : Nat) (w : mWd), n ≤ N → SH w → aw w = A → ∀ (v : Option Value) (w1 : mWd), m_run L xs n d mid pc lv st w = some (v, w1) → SH w1 ∧ Q v (aw w1)
section PAL
variable {N M mid pc : Nat} {lv : mL} {st : List Value} {A : AW} {Q Q' : Option Value → AW → Prop} {ins : Instr} {k : Nat}
theorem Pa.zero : Pa 0 mid pc lv st A Q := by
  intro L xs n d w hn hS hA v w1 h
  have : n = 0 := by omega
  subst this
  cases h
theorem Pa.weak (h : Pa N mid pc lv st A Q) (hm : M ≤ N) : Pa M mid pc lv st A Q := fun L xs n d w hn => h L xs n d w (Nat.le_trans hn hm)
theorem Pa.mono (h : Pa N mid pc lv st A Q) (hq : ∀ v A1, Q v A1 → Q' v A1) : Pa N mid pc lv st A Q' := fun L xs n d w hn hS hA v w1 hr => by
  obtain ⟨h1, h2⟩ := h L xs n d w hn hS hA v w1 hr
  exact ⟨h1, hq _ _ h2⟩
def pO (N mid pc : Nat) (lv : mL) (A : AW) (Q : Option Value → AW → Prop) : mOut → Prop
  | .inl (pc', l', st', w') => SH w' ∧ Pa N mid pc' l' st' (aw w') Q
  | .inr (.inl (y, as, r)) => Pa N y 0 (lv_args 0 as) [] A (fun v A1 => Pa N mid (pc + 3) lv (v.toList ++ r) A1 Q)
  | .inr (.inr v) => Q v A
theorem Pa.step (hf : pgF mid pc = some (ins, k)) (h : ∀ (L : Nat) (xs : Nat → Int32) (w : mWd), SH w → aw w = A → ∀ o, m_step L xs mid pc lv st w ins = some o → pO N mid pc lv A Q o) : Pa (N + 1) mid pc lv st A Q := by
  intro L xs n d w hn hS hA v w1 hr
  cases n with
  | zero => cases hr
  | succ n =>
    cases d with
    | zero => cases hr
    | succ d =>
      unfold m_run at hr
      rw [hf] at hr
      dsimp only at hr
      split at hr
      next => cases hr
      next pc' l' st' w' hs =>
        obtain ⟨h1, h2⟩ := h L xs w hS hA _ hs
        exact h2 L xs n (d + 1) w' (by omega) h1 rfl v w1 hr
      next y as r hs =>
        have h3 := h L xs w hS hA _ hs
        split at hr
        next => cases hr
        next v2 w2 h2 =>
          obtain ⟨h4, h5⟩ := h3 L xs n d w (by omega) hS hA v2 w2 h2
          exact h5 L xs n (d + 1) w2 (by omega) h4 rfl v w1 hr
      next v2 hs =>
        have h3 := h L xs w hS hA _ hs
        cases hr
        exact ⟨hS, by rw [hA]; exact h3⟩
theorem Pa.stp (hf : pgF mid pc = some (ins, k)) (h : ∀ (L : Nat) (xs : Nat → Int32) (w : mWd), SH w → aw w = A → ∀ o, m_step L xs mid pc lv st w ins = some o → pO N mid pc lv A Q o) : Pa N mid pc lv st A Q := (Pa.step hf h).weak (Nat.le_succ N)
/-! instructions that leave the world alone -/
theorem ms_pure {L : Nat} {xs : Nat → Int32} {w : mWd} {q : Nat × mL × List Value} (h : m_pure (pgL mid) ins pc lv st = some q) : m_step L xs mid pc lv st w ins = some (.inl (q.1, q.2.1, q.2.2, w)) := by
  cases ins
  all_goals first
    | (show (match m_pure _ _ _ _ _ with
        | some (a, b, c) => mNx a b c w
        | none => none) = _
       rw [h]
       rfl)
    | (cases h; done)
    | (cases h; rfl)
def m_mp (mid : Nat) : Nat → Nat → mL → List Value → Option (Nat × mL × List Value)
  | 0, pc, l, st => some (pc, l, st)
  | k + 1, pc, l, st => (match pgF mid pc with
    | some (ins, _) => (match m_pure (pgL mid) ins pc l st with
      | some (pc', l', st') => m_mp mid k pc' l' st'
      | none => none)
    | none => none)
theorem Pa.mp0 {pc' : Nat} {l' : mL} {st' : List Value} : ∀ {k pc : Nat} {lv : mL} {st : List Value}, m_mp mid k pc lv st = some (pc', l', st') → Pa N mid pc' l' st' A Q → Pa N mid pc lv st A Q
  | 0, pc, lv, st, h, hp => by cases h; exact hp
  | k + 1, pc, lv, st, h, hp => by
    unfold m_mp at h
    split at h
    next ins _ hf =>
      split at h
      next a b c hq =>
        refine Pa.stp hf (fun L xs w hS hA o ho => ?_)
        rw [ms_pure hq] at ho
        cases ho
        exact ⟨hS, by rw [hA]; exact Pa.mp0 h hp⟩
      next => cases h
    next => cases h
theorem Pa.mp (k : Nat) {pc' : Nat} {l' : mL} {st' : List Value} (h : m_mp mid k pc lv st = some (pc', l', st')) (hp : Pa N mid pc' l' st' A Q) : Pa N mid pc lv st A Q := Pa.mp0 h hp
theorem Pa.mp1 (k : Nat) {pc' : Nat} {l' : mL} {st' : List Value} (h : m_mp mid (k + 1) pc lv st = some (pc', l', st')) (hp : Pa N mid pc' l' st' A Q) : Pa (N + 1) mid pc lv st A Q := by
  unfold m_mp at h
  split at h
  next ins _ hf =>
    split at h
    next a b c hq =>
      refine Pa.step hf (fun L xs w hS hA o ho => ?_)
      rw [ms_pure hq] at ho
      cases ho
      exact ⟨hS, by rw [hA]; exact Pa.mp0 h hp⟩
    next => cases h
  next => cases h
/-- as m_step says, whatever the world -/
theorem Pa.cst {pc' : Nat} {l' : mL} {st' : List Value} (hf : pgF mid pc = some (ins, k)) (hs : ∀ (L : Nat) (xs : Nat → Int32) (w : mWd), m_step L xs mid pc lv st w ins = some (.inl (pc', l', st', w))) (hp : Pa N mid pc' l' st' A Q) : Pa N mid pc lv st A Q := by
  refine Pa.stp hf (fun L xs w hS hA o ho => ?_)
  rw [hs L xs w] at ho
  cases ho
  exact ⟨hS, by rw [hA]; exact hp⟩
theorem Pa.ic {x y : Int32} {pc' : Nat} (hf : pgF mid pc = some (ins, k)) (hs : m_pure (pgL mid) ins pc lv st = some (pc', lv, .int y :: st)) (he : y = x) (hp : Pa N mid pc' lv (.int x :: st) A Q) : Pa N mid pc lv st A Q := by
  subst he
  refine Pa.stp hf (fun L xs w hS hA o ho => ?_)
  rw [ms_pure hs] at ho
  cases ho
  exact ⟨hS, by rw [hA]; exact hp⟩
theorem Pa.icl {x y : Int32} {pc' : Nat} (hf : pgF mid pc = some (ins, k)) (hs : ∀ (L : Nat) (xs : Nat → Int32) (w : mWd), m_step L xs mid pc lv st w ins = some (.inl (pc', lv, .int y :: st, w))) (he : y = x) (hp : Pa N mid pc' lv (.int x :: st) A Q) : Pa N mid pc lv st A Q := by
  subst he
  exact Pa.cst hf hs hp
theorem Pa.jcl {x y : Int64} {pc' : Nat} (hf : pgF mid pc = some (ins, k)) (hs : ∀ (L : Nat) (xs : Nat → Int32) (w : mWd), m_step L xs mid pc lv st w ins = some (.inl (pc', lv, .long y :: st, w))) (he : y = x) (hp : Pa N mid pc' lv (.long x :: st) A Q) : Pa N mid pc lv st A Q := by
  subst he
  exact Pa.cst hf hs hp
theorem Pa.iinc {i : Nat} {n : Int} {x c v : Int32} {l' : mL} (hf : pgF mid pc = some (.iinc i n, k)) (hg : m_get lv i = some (.int x)) (hn : Int32.ofInt n = c) (hv : x + c = v) (hl : m_put1 lv i (.int v) = l') (hp : Pa N mid (pc + 3) l' st A Q) : Pa N mid pc lv st A Q := by
  subst hn hv hl
  refine Pa.stp hf (fun L xs w hS hA o ho => ?_)
  have hs : m_step L xs mid pc lv st w (.iinc i n) = (match (match m_get lv i with
    | some (.int x) => if i < pgL mid then some (pc + 3, m_put1 lv i (.int (x + Int32.ofInt n)), st) else none
    | _ => none) with | some (a, b, c) => mNx a b c w | none => none) := rfl
  rw [hs, hg] at ho
  dsimp only at ho
  by_cases q : i < pgL mid
  · rw [if_pos q] at ho; cases ho; exact ⟨hS, by rw [hA]; exact hp⟩
  · rw [if_neg q] at ho; cases ho
/-! branches -/
def cP (cd : Jvm.ClassFile.Cond) (a b : Int) : Prop := match cd with
  | .eq => a = b
  | .ne => a ≠ b
  | .lt => a < b
  | .ge => b ≤ a
  | .gt => b < a
  | .le => a ≤ b
def cM (cd : Jvm.ClassFile.Cond) (a b : Int) : Prop := match cd with
  | .eq => a ≠ b
  | .ne => a = b
  | .lt => b ≤ a
  | .ge => a < b
  | .gt => a ≤ b
  | .le => b < a
theorem pc_tt {cd : Jvm.ClassFile.Cond} {x y : Int32} (h : m_cmp cd x y = true) : cP cd x.toInt y.toInt := by
  cases cd
  · exact congrArg Int32.toInt (of_decide_eq_true h)
  · have h' : (!decide (x = y)) = true := h
    rw [Bool.not_eq_true', decide_eq_false_iff_not] at h'
    exact fun e => h' (Int32.toInt_inj.mp e)
  · exact Int32.lt_iff_toInt_lt.mp (of_decide_eq_true h)
  · exact Int32.le_iff_toInt_le.mp (of_decide_eq_true h)
  · exact Int32.lt_iff_toInt_lt.mp (of_decide_eq_true h)
  · exact Int32.le_iff_toInt_le.mp (of_decide_eq_true h)
theorem pc_ff {cd : Jvm.ClassFile.Cond} {x y : Int32} (h : m_cmp cd x y = false) : cM cd x.toInt y.toInt := by
  cases cd
  · have h' := of_decide_eq_false h
    exact fun e => h' (Int32.toInt_inj.mp e)
  · have h' : (!decide (x = y)) = false := h
    rw [Bool.not_eq_false', decide_eq_true_iff] at h'
    exact congrArg Int32.toInt h'
  · have h' := of_decide_eq_false h
    rw [Int32.lt_iff_toInt_lt] at h'
    exact Int.not_lt.mp h'
  · have h' := of_decide_eq_false h
    rw [Int32.le_iff_toInt_le] at h'
    exact Int.not_le.mp h'
  · have h' := of_decide_eq_false h
    rw [Int32.lt_iff_toInt_lt] at h'
    exact Int.not_lt.mp h'
  · have h' := of_decide_eq_false h
    rw [Int32.le_iff_toInt_le] at h'
    exact Int.not_le.mp h'
theorem Pa.if2 {cd : Jvm.ClassFile.Cond} {off : Int} {x y : Int32} {r : List Value} {t : Nat} (hf : pgF mid pc = some (.if_icmp cd off, k)) (ht : m_tgt pc off = some t) {a b : Int} (hx : x.toInt = a) (hy : y.toInt = b) (h1 : cP cd a b → Pa N mid t lv r A Q) (h2 : cM cd a b → Pa N mid (pc + 3) lv r A Q) : Pa N mid pc lv (.int y :: .int x :: r) A Q := by
  subst hx hy
  refine Pa.stp hf (fun L xs w hS hA o ho => ?_)
  have hs : m_step L xs mid pc lv (.int y :: .int x :: r) w (.if_icmp cd off) = some (.inl (bif m_cmp cd x y then t else pc + 3, lv, r, w)) := ms_pure (q := (_, lv, r)) (show m_br (m_cmp cd x y) pc off lv r = some (bif m_cmp cd x y then t else pc + 3, lv, r) by unfold m_br; rw [ht])
  rw [hs] at ho
  cases ho
  refine ⟨hS, ?_⟩
  rw [hA]
  cases hc : m_cmp cd x y with
  | true => exact h1 (pc_tt hc)
  | false => exact h2 (pc_ff hc)
theorem Pa.if1 {cd : Jvm.ClassFile.Cond} {off : Int} {x : Int32} {r : List Value} {t : Nat} (hf : pgF mid pc = some (.ifCond cd off, k)) (ht : m_tgt pc off = some t) {a : Int} (hx : x.toInt = a) (h1 : cP cd a 0 → Pa N mid t lv r A Q) (h2 : cM cd a 0 → Pa N mid (pc + 3) lv r A Q) : Pa N mid pc lv (.int x :: r) A Q := by
  subst hx
  refine Pa.stp hf (fun L xs w hS hA o ho => ?_)
  have hs : m_step L xs mid pc lv (.int x :: r) w (.ifCond cd off) = some (.inl (bif m_cmp cd x 0 then t else pc + 3, lv, r, w)) := ms_pure (q := (_, lv, r)) (show m_br (m_cmp cd x 0) pc off lv r = some (bif m_cmp cd x 0 then t else pc + 3, lv, r) by unfold m_br; rw [ht])
  rw [hs] at ho
  cases ho
  refine ⟨hS, ?_⟩
  rw [hA]
  cases hc : m_cmp cd x 0 with
  | true => exact h1 (pc_tt hc)
  | false => exact h2 (pc_ff hc)
theorem Pa.if2k {cd : Jvm.ClassFile.Cond} {off : Int} {x y : Int32} {r : List Value} {t : Nat} (b : Bool) (hf : pgF mid pc = some (.if_icmp cd off, k)) (ht : m_tgt pc off = some t) (hc : m_cmp cd x y = b) (h : Pa N mid (bif b then t else pc + 3) lv r A Q) : Pa N mid pc lv (.int y :: .int x :: r) A Q := by
  refine Pa.stp hf (fun L xs w hS hA o ho => ?_)
  have hs : m_step L xs mid pc lv (.int y :: .int x :: r) w (.if_icmp cd off) = some (.inl (bif m_cmp cd x y then t else pc + 3, lv, r, w)) := ms_pure (q := (_, lv, r)) (show m_br (m_cmp cd x y) pc off lv r = some (bif m_cmp cd x y then t else pc + 3, lv, r) by unfold m_br; rw [ht])
  rw [hs, hc] at ho
  cases ho
  exact ⟨hS, by rw [hA]; exact h⟩
theorem Pa.if1k {cd : Jvm.ClassFile.Cond} {off : Int} {x : Int32} {r : List Value} {t : Nat} (b : Bool) (hf : pgF mid pc = some (.ifCond cd off, k)) (ht : m_tgt pc off = some t) (hc : m_cmp cd x 0 = b) (h : Pa N mid (bif b then t else pc + 3) lv r A Q) : Pa N mid pc lv (.int x :: r) A Q := by
  refine Pa.stp hf (fun L xs w hS hA o ho => ?_)
  have hs : m_step L xs mid pc lv (.int x :: r) w (.ifCond cd off) = some (.inl (bif m_cmp cd x 0 then t else pc + 3, lv, r, w)) := ms_pure (q := (_, lv, r)) (show m_br (m_cmp cd x 0) pc off lv r = some (bif m_cmp cd x 0 then t else pc + 3, lv, r) by unfold m_br; rw [ht])
  rw [hs, hc] at ho
  cases ho
  exact ⟨hS, by rw [hA]; exact h⟩
/-- a switch over a row of numbers: from the number lo on, each target under its premise -/
def pSw (pc : Nat) (x : Int) (P : Nat → Prop) : Int → List Int → Prop
  | _, [] => True
  | lo, off :: os => (x = lo → ∀ t, m_tgt pc off = some t → P t) ∧ pSw pc x P (lo + 1) os
theorem pSw_ok {x : Int} {P : Nat → Prop} : ∀ {os : List Int} {lo : Int}, pSw pc x P lo os → lo ≤ x → ∀ off, os[(x - lo).toNat]? = some off → ∀ t, m_tgt pc off = some t → P t
  | [], lo, _, _, off, h => by cases h
  | o :: os, lo, hp, hl, off, h => by
    by_cases e : x = lo
    · have e0 : (x - lo).toNat = 0 := by omega
      rw [e0] at h
      cases h
      exact hp.1 e
    · have e0 : (x - lo).toNat = (x - (lo + 1)).toNat + 1 := by omega
      rw [e0, List.getElem?_cons_succ] at h
      exact pSw_ok hp.2 (by omega) off h
theorem p_jmp {off : Int} {r : List Value} {w : mWd} {o : mOut} (h : ∀ t, m_tgt pc off = some t → Pa N mid t lv r A Q) (hS : SH w) (hA : aw w = A) (ho : (match m_jmp pc off lv r with | some (a, b, c) => mNx a b c w | none => none) = some o) : pO N mid pc lv A Q o := by
  unfold m_jmp at ho
  cases ht : m_tgt pc off with
  | none => rw [ht] at ho; cases ho
  | some t =>
    rw [ht] at ho
    cases ho
    exact ⟨hS, by rw [hA]; exact h t ht⟩
theorem Pa.tsw {dd lo hi : Int} {offs : Array Int} {x : Int32} {r : List Value} (hf : pgF mid pc = some (.tableswitch dd lo hi offs, k)) (h0 : (x.toInt < lo ∨ hi < x.toInt) → ∀ t, m_tgt pc dd = some t → Pa N mid t lv r A Q) (h1 : pSw pc x.toInt (fun t => Pa N mid t lv r A Q) lo offs.toList) : Pa N mid pc lv (.int x :: r) A Q := by
  refine Pa.stp hf (fun L xs w hS hA o ho => ?_)
  have hs : m_step L xs mid pc lv (.int x :: r) w (.tableswitch dd lo hi offs) = (match (if x.toInt < lo ∨ hi < x.toInt then m_jmp pc dd lv r else (match offs[(x.toInt - lo).toNat]? with
      | some off => m_jmp pc off lv r
      | none => none)) with | some (a, b, c) => mNx a b c w | none => none) := rfl
  rw [hs] at ho
  by_cases q : x.toInt < lo ∨ hi < x.toInt
  · rw [if_pos q] at ho
    exact p_jmp (h0 q) hS hA ho
  · rw [if_neg q] at ho
    cases hoff : offs[(x.toInt - lo).toNat]? with
    | none => rw [hoff] at ho; cases ho
    | some off =>
      rw [hoff] at ho
      exact p_jmp (pSw_ok h1 (by omega) off (by rw [Array.getElem?_toList]; exact hoff)) hS hA ho
/-- a switch over given numbers: each target under its premise, the default where none is met -/
def pLs (pc : Nat) (x dd : Int) (P : Nat → Prop) : List (Int × Int) → Prop
  | [] => ∀ t, m_tgt pc dd = some t → P t
  | (key, off) :: ps => (x = key → ∀ t, m_tgt pc off = some t → P t) ∧ (x ≠ key → pLs pc x dd P ps)
theorem pLs_ok {x dd : Int} {P : Nat → Prop} : ∀ {ps : List (Int × Int)}, pLs pc x dd P ps → ∀ t, m_tgt pc (Op.lookupswitch.offset ps dd x) = some t → P t
  | [], h, t, ht => h t ht
  | (key, off) :: ps, h, t, ht => by
    by_cases e : x = key
    · have : Op.lookupswitch.offset ((key, off) :: ps) dd x = off := by
        subst e
        simp [Op.lookupswitch.offset]
      rw [this] at ht
      exact h.1 e t ht
    · have : Op.lookupswitch.offset ((key, off) :: ps) dd x = Op.lookupswitch.offset ps dd x := by
        have e2 : ¬ key = x := fun q => e q.symm
        simp [Op.lookupswitch.offset, e2]
      rw [this] at ht
      exact pLs_ok (h.2 e) t ht
theorem Pa.lsw {dd : Int} {ps : Array (Int × Int)} {x : Int32} {r : List Value} (hf : pgF mid pc = some (.lookupswitch dd ps, k)) (h1 : pLs pc x.toInt dd (fun t => Pa N mid t lv r A Q) ps.toList) : Pa N mid pc lv (.int x :: r) A Q := by
  refine Pa.stp hf (fun L xs w hS hA o ho => ?_)
  have hs : m_step L xs mid pc lv (.int x :: r) w (.lookupswitch dd ps) = (match (if m_srt ps.toList = true then m_jmp pc (Op.lookupswitch.offset ps.toList dd x.toInt) lv r else none) with | some (a, b, c) => mNx a b c w | none => none) := rfl
  rw [hs] at ho
  by_cases q : m_srt ps.toList = true
  · rw [if_pos q] at ho
    exact p_jmp (pLs_ok h1) hS hA ho
  · rw [if_neg q] at ho; cases ho
/-! divisions -/
theorem Pa.dvp {st' : List Value} (hf : pgF mid pc = some (ins, k)) (hs : ∀ q, m_pure (pgL mid) ins pc lv st = some q → q = (pc + 1, lv, st')) (hi : ∀ (L : Nat) (xs : Nat → Int32) (w : mWd), m_step L xs mid pc lv st w ins = (match m_pure (pgL mid) ins pc lv st with | some (a, b, c) => mNx a b c w | none => none)) (hp : Pa N mid (pc + 1) lv st' A Q) : Pa N mid pc lv st A Q := by
  refine Pa.stp hf (fun L xs w hS hA o ho => ?_)
  rw [hi L xs w] at ho
  split at ho
  next a b c he =>
    cases hs _ he
    cases ho
    exact ⟨hS, by rw [hA]; exact hp⟩
  next => cases ho
theorem Pa.idiv {x y : Int32} {r : List Value} (hf : pgF mid pc = some (.idiv, k)) (hp : Pa N mid (pc + 1) lv (.int (x / y) :: r) A Q) : Pa N mid pc lv (.int y :: .int x :: r) A Q := by
  refine Pa.dvp hf (fun q hq => ?_) (fun _ _ _ => rfl) hp
  have e : m_pure (pgL mid) .idiv pc lv (.int y :: .int x :: r) = (match (if y = 0 then none else some (x / y)) with | some z => some (pc + 1, lv, .int z :: r) | none => none) := rfl
  rw [e] at hq
  by_cases h0 : y = 0
  · rw [if_pos h0] at hq; cases hq
  · rw [if_neg h0] at hq; cases hq; rfl
theorem Pa.irem {x y : Int32} {r : List Value} (hf : pgF mid pc = some (.irem, k)) (hp : Pa N mid (pc + 1) lv (.int (x - x / y * y) :: r) A Q) : Pa N mid pc lv (.int y :: .int x :: r) A Q := by
  refine Pa.dvp hf (fun q hq => ?_) (fun _ _ _ => rfl) hp
  have e : m_pure (pgL mid) .irem pc lv (.int y :: .int x :: r) = (match (if y = 0 then none else some (x - x / y * y)) with | some z => some (pc + 1, lv, .int z :: r) | none => none) := rfl
  rw [e] at hq
  by_cases h0 : y = 0
  · rw [if_pos h0] at hq; cases hq
  · rw [if_neg h0] at hq; cases hq; rfl
theorem Pa.ldiv {x y : Int64} {r : List Value} (hf : pgF mid pc = some (.ldiv, k)) (hp : Pa N mid (pc + 1) lv (.long (x / y) :: r) A Q) : Pa N mid pc lv (.long y :: .long x :: r) A Q := by
  refine Pa.dvp hf (fun q hq => ?_) (fun _ _ _ => rfl) hp
  have e : m_pure (pgL mid) .ldiv pc lv (.long y :: .long x :: r) = (match (if y = 0 then none else some (Value.long (x / y))) with | some z => some (pc + 1, lv, z :: r) | none => none) := rfl
  rw [e] at hq
  by_cases h0 : y = 0
  · rw [if_pos h0] at hq; cases hq
  · rw [if_neg h0] at hq; cases hq; rfl
theorem Pa.lrem {x y : Int64} {r : List Value} (hf : pgF mid pc = some (.lrem, k)) (hp : Pa N mid (pc + 1) lv (.long (x - x / y * y) :: r) A Q) : Pa N mid pc lv (.long y :: .long x :: r) A Q := by
  refine Pa.dvp hf (fun q hq => ?_) (fun _ _ _ => rfl) hp
  have e : m_pure (pgL mid) .lrem pc lv (.long y :: .long x :: r) = (match (if y = 0 then none else some (Value.long (x - x / y * y))) with | some z => some (pc + 1, lv, z :: r) | none => none) := rfl
  rw [e] at hq
  by_cases h0 : y = 0
  · rw [if_pos h0] at hq; cases hq
  · rw [if_neg h0] at hq; cases hq; rfl
/-! ends -/
theorem mr_int {ty : Option FieldType} {x : Int32} {v : Option Value} (h : m_ret ty 0 [.int x] = some v) : v = some (.int x) := by
  cases ty with
  | none => cases h
  | some t =>
    cases t
    all_goals first
      | (cases h; done)
      | (cases h; rfl)
      | (have h' : (if x = 0 ∨ x = 1 then some (some (Value.int x)) else none) = some v := h
         split at h'
         · cases h'; rfl
         · cases h')
      | (have h' : (if x = 0 then some (some (Value.int x)) else none) = some v := h
         split at h'
         · cases h'; rfl
         · cases h')
theorem mr_long {ty : Option FieldType} {x : Int64} {v : Option Value} (h : m_ret ty 1 [.long x] = some v) : v = some (.long x) := by
  cases ty with
  | none => cases h
  | some t => cases t <;> first | (cases h; done) | (cases h; rfl)
theorem mr_ref {ty : Option FieldType} {x : Nat} {v : Option Value} (h : m_ret ty 2 [.ref x] = some v) : v = some (.ref x) := by
  cases ty with
  | none => cases h
  | some t => cases t <;> first | (cases h; done) | (cases h; rfl)
theorem mr_null {ty : Option FieldType} {v : Option Value} (h : m_ret ty 2 [.null] = some v) : v = some .null := by
  cases ty with
  | none => cases h
  | some t => cases t <;> first | (cases h; done) | (cases h; rfl)
theorem mr_void {ty : Option FieldType} {v : Option Value} (h : m_ret ty 3 [] = some v) : v = none := by
  cases ty with
  | none => cases h; rfl
  | some t => cases t <;> first | (cases h; done) | (cases h; rfl)
theorem Pa.iret {x : Int32} (hf : pgF mid pc = some (.ireturn, k)) (h : Q (some (.int x)) A) : Pa N mid pc lv [.int x] A Q := by
  refine Pa.stp hf (fun L xs w hS hA o ho => ?_)
  have hs : m_step L xs mid pc lv [.int x] w .ireturn = (match m_ret (pgT mid) 0 [.int x] with | some v => some (.inr (.inr v)) | none => none) := rfl
  rw [hs] at ho
  split at ho
  next v hv =>
    cases ho
    show Q v A
    have : v = some (.int x) := mr_int hv
    rw [this]; exact h
  next => cases ho
theorem Pa.lret {x : Int64} (hf : pgF mid pc = some (.lreturn, k)) (h : Q (some (.long x)) A) : Pa N mid pc lv [.long x] A Q := by
  refine Pa.stp hf (fun L xs w hS hA o ho => ?_)
  have hs : m_step L xs mid pc lv [.long x] w .lreturn = (match m_ret (pgT mid) 1 [.long x] with | some v => some (.inr (.inr v)) | none => none) := rfl
  rw [hs] at ho
  split at ho
  next v hv =>
    cases ho
    show Q v A
    have : v = some (.long x) := mr_long hv
    rw [this]; exact h
  next => cases ho
theorem Pa.aret {x : Nat} (hf : pgF mid pc = some (.areturn, k)) (h : Q (some (.ref x)) A) : Pa N mid pc lv [.ref x] A Q := by
  refine Pa.stp hf (fun L xs w hS hA o ho => ?_)
  have hs : m_step L xs mid pc lv [.ref x] w .areturn = (match m_ret (pgT mid) 2 [.ref x] with | some v => some (.inr (.inr v)) | none => none) := rfl
  rw [hs] at ho
  split at ho
  next v hv =>
    cases ho
    show Q v A
    have : v = some (.ref x) := mr_ref hv
    rw [this]; exact h
  next => cases ho
theorem Pa.nret (hf : pgF mid pc = some (.areturn, k)) (h : Q (some .null) A) : Pa N mid pc lv [.null] A Q := by
  refine Pa.stp hf (fun L xs w hS hA o ho => ?_)
  have hs : m_step L xs mid pc lv [.null] w .areturn = (match m_ret (pgT mid) 2 [.null] with | some v => some (.inr (.inr v)) | none => none) := rfl
  rw [hs] at ho
  split at ho
  next v hv =>
    cases ho
    show Q v A
    have : v = some .null := mr_null hv
    rw [this]; exact h
  next => cases ho
theorem Pa.vret (hf : pgF mid pc = some (.return_, k)) (h : Q none A) : Pa N mid pc lv [] A Q := by
  refine Pa.stp hf (fun L xs w hS hA o ho => ?_)
  have hs : m_step L xs mid pc lv [] w .return_ = (match m_ret (pgT mid) 3 [] with | some v => some (.inr (.inr v)) | none => none) := rfl
  rw [hs] at ho
  split at ho
  next v hv =>
    cases ho
    show Q v A
    have : v = none := mr_void hv
    rw [this]; exact h
  next => cases ho
/-! calls -/
theorem m_call_some {y : Nat} {as r : List Value} {o : mOut} (h : m_call y as r = some o) : o = .inr (.inl (y, as, r)) := by
  unfold m_call at h
  split at h
  next => cases h; rfl
  next => cases h
theorem Pa.inv {ix t y : Nat} {q : Int} {v : Value} {as r : List Value} (hf : pgF mid pc = some (.invokevirtual ix, k)) (hr : pgRs mid ix = some (t, y, q)) (ht : t = 6 ∨ t = 7) (hp : m_pop (pgA y) st [] = some (as, v :: r)) (h : Pa N y 0 (lv_args 0 (v :: as)) [] A (fun u A1 => Pa N mid (pc + 3) lv (u.toList ++ r) A1 Q)) : Pa N mid pc lv st A Q := by
  refine Pa.stp hf (fun L xs w hS hA o ho => ?_)
  rcases ht with e | e <;> subst e
  · have hs : m_step L xs mid pc lv st w (.invokevirtual ix) = (if m_rcv y v w = true then m_call y (v :: as) r else none) := by simp only [m_step, hr, hp]
    rw [hs] at ho
    split at ho
    next => cases m_call_some ho; exact h
    next => cases ho
  · have hs : m_step L xs mid pc lv st w (.invokevirtual ix) = (if m_rcv y v w = true then m_call y (v :: as) r else none) := by simp only [m_step, hr, hp]
    rw [hs] at ho
    split at ho
    next => cases m_call_some ho; exact h
    next => cases ho
theorem Pa.ist {ix t y : Nat} {q : Int} {as r : List Value} (hf : pgF mid pc = some (.invokestatic ix, k)) (hr : pgRs mid ix = some (t, y, q)) (ht : t = 4 ∨ t = 5) (hy : m_pl y = true) (hp : m_pop (pgA y) st [] = some (as, r)) (h : Pa N y 0 (lv_args 0 as) [] A (fun u A1 => Pa N mid (pc + 3) lv (u.toList ++ r) A1 Q)) : Pa N mid pc lv st A Q := by
  refine Pa.stp hf (fun L xs w hS hA o ho => ?_)
  rcases ht with e | e <;> subst e
  · have hs : m_step L xs mid pc lv st w (.invokestatic ix) = m_call y as r := by simp only [m_step, hr, hp, hy, if_true]
    rw [hs] at ho
    cases m_call_some ho; exact h
  · have hs : m_step L xs mid pc lv st w (.invokestatic ix) = m_call y as r := by simp only [m_step, hr, hp]
    rw [hs] at ho
    cases m_call_some ho; exact h
theorem Pa.ini {ix t y i : Nat} {q : Int} {as r : List Value} (hf : pgF mid pc = some (.invokespecial ix, k)) (hr : pgRs mid ix = some (t, y, q)) (ht : t = 8 ∨ t = 9) (hp : m_pop (pgA y) st [] = some (as, .ref i :: r)) (h : Pa N y 0 (lv_args 0 (.ref i :: as)) [] A (fun u A1 => Pa N mid (pc + 3) lv (u.toList ++ r) A1 Q)) : Pa N mid pc lv st A Q := by
  refine Pa.stp hf (fun L xs w hS hA o ho => ?_)
  rcases ht with e | e <;> subst e
  · have hs : m_step L xs mid pc lv st w (.invokespecial ix) = m_call y (.ref i :: as) r := by simp only [m_step, hr, hp]
    rw [hs] at ho
    cases m_call_some ho; exact h
  · have hs : m_step L xs mid pc lv st w (.invokespecial ix) = m_call y (.ref i :: as) r := by simp only [m_step, hr, hp]
    rw [hs] at ho
    cases m_call_some ho; exact h
theorem Pa.obj {ix i : Nat} {q : Nat × Int} {r : List Value} (hf : pgF mid pc = some (.invokespecial ix, k)) (hr : pgRs mid ix = some (10, q)) (h : Pa N mid (pc + 3) lv r A Q) : Pa N mid pc lv (.ref i :: r) A Q := by
  refine Pa.stp hf (fun L xs w hS hA o ho => ?_)
  have hs : m_step L xs mid pc lv (.ref i :: r) w (.invokespecial ix) = (if m_cat r ≤ 8 then mNx (pc + 3) lv r w else none) := by simp only [m_step, hr]
  rw [hs] at ho
  split at ho
  next => cases ho; exact ⟨hS, by rw [hA]; exact h⟩
  next => cases ho
/-- java.lang.Math's -/
def i_max (a b : Int32) : Int32 := if a < b then b else a
def i_min (a b : Int32) : Int32 := if b < a then b else a
def i_abs (a : Int32) : Int32 := if 0 ≤ a then a else 0 - a
def l_min (a b : Int64) : Int64 := if b < a then b else a
theorem Pa.mth {ix y : Nat} {q : Int} {st' : List Value} (hf : pgF mid pc = some (.invokestatic ix, k)) (hr : pgRs mid ix = some (4, y, q)) (hy : m_pl y = false) (hm : ∀ s, m_math y st = some s → s = st') (h : Pa N mid (pc + 3) lv st' A Q) : Pa N mid pc lv st A Q := by
  refine Pa.stp hf (fun L xs w hS hA o ho => ?_)
  have hs : m_step L xs mid pc lv st w (.invokestatic ix) = (match m_math y st with | some st' => mNx (pc + 3) lv st' w | none => none) := by
    simp only [m_step, hr, hy]
    rfl
  rw [hs] at ho
  split at ho
  next s he =>
    cases hm s he
    cases ho
    exact ⟨hS, by rw [hA]; exact h⟩
  next => cases ho
theorem mm_max {a b : Int32} {r : List Value} : ∀ s, m_math 261 (.int b :: .int a :: r) = some s → s = .int (i_max a b) :: r := by
  intro s h
  have e : m_math 261 (.int b :: .int a :: r) = (if m_cat r ≤ 8 then some (.int (if a < b then b else a) :: r) else none) := rfl
  rw [e] at h
  split at h
  next => cases h; rfl
  next => cases h
theorem mm_min {a b : Int32} {r : List Value} : ∀ s, m_math 262 (.int b :: .int a :: r) = some s → s = .int (i_min a b) :: r := by
  intro s h
  have e : m_math 262 (.int b :: .int a :: r) = (if m_cat r ≤ 8 then some (.int (if b < a then b else a) :: r) else none) := rfl
  rw [e] at h
  split at h
  next => cases h; rfl
  next => cases h
theorem mm_abs {a : Int32} {r : List Value} : ∀ s, m_math 260 (.int a :: r) = some s → s = .int (i_abs a) :: r := by
  intro s h
  have e : m_math 260 (.int a :: r) = (if m_cat r ≤ 8 then some (.int (if 0 ≤ a then a else 0 - a) :: r) else none) := rfl
  rw [e] at h
  split at h
  next => cases h; rfl
  next => cases h
theorem mm_lmin {a b : Int64} {r : List Value} : ∀ s, m_math 263 (.long b :: .long a :: r) = some s → s = .long (l_min a b) :: r := by
  intro s h
  have e : m_math 263 (.long b :: .long a :: r) = (if m_cat r ≤ 8 then some (.long (if b < a then b else a) :: r) else none) := rfl
  rw [e] at h
  split at h
  next => cases h; rfl
  next => cases h
end PAL
