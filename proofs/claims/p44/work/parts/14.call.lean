/-! CALLS AND ENDS -/
def mWs (y : Nat) : List Cond := Cond.code (pgN y) (pgB y) (pgL y) (pgT y) :: lw_tbl.filter goodWord
def mQ (B : Nat) (X : Nat → Nat) (dT : Nat → ClassId) (D : va_G) (v : Option Value) (w : mWd) : Array Value → State → Outcome → State → Prop := fun _ st oc t => (oc = .returned (v.map (mv B X)) ∧ mOK B X dT D w t.heap) ∧ va_F (fun q : Nat => B ≤ q) st t
def mPc (B L : Nat) (xs : Nat → Int32) (X : Nat → Nat) (dT : Nat → ClassId) (D : va_G) (as : List Value) (w : mWd) : Array Value → State → Prop := va_Pc (as.map (mv B X)) (fun U => mOK B X dT D w U.heap ∧ mCtx B L xs X dT D U)
theorem mPc_blind {B L : Nat} {xs : Nat → Int32} {X : Nat → Nat} {dT : Nat → ClassId} {D : va_G} {as : List Value} {w : mWd} : FrameBlind (mPc B L xs X dT D as w) := by
  intro a U g mk h
  obtain ⟨h1, h2, h3⟩ := h
  exact ⟨h1, h2, h3.same (U := U.calling g mk a) rfl rfl⟩
theorem m_pop_ok : ∀ (n : Nat) (st acc as r : List Value), m_pop n st acc = some (as, r) → ∃ t : List Value, st = t ++ r ∧ as = t.reverse ++ acc ∧ t.length = n
  | 0, st, acc, as, r, h => by
    cases h
    exact ⟨[], rfl, rfl, rfl⟩
  | n + 1, [], acc, as, r, h => by cases h
  | n + 1, v :: st, acc, as, r, h => by
    obtain ⟨t, h1, h2, h3⟩ := m_pop_ok n st (v :: acc) as r h
    exact ⟨v :: t, by rw [h1]; rfl, by rw [h2]; simp, by rw [List.length_cons, h3]⟩
theorem m_pop_nil {n : Nat} {st as r : List Value} (h : m_pop n st [] = some (as, r)) : st = as.reverse ++ r ∧ as.length = n := by
  obtain ⟨t, h1, h2, h3⟩ := m_pop_ok n st [] as r h
  rw [List.append_nil] at h2
  subst h2
  exact ⟨by rw [List.reverse_reverse]; exact h1, by rw [List.length_reverse]; exact h3⟩
section RW6
variable {p : Program} {l : Launch} {e : Env} {R : Room} {s : State} {m : MethodId} {args : Array Value} {below : List Frame} {meth : Method} {c : Code} {H : Heap} {locs : List Loc} {cells slots : Nat} {Q : State → Prop}
variable {pc : Nat} {ls : Array Slot} {B L mid : Nat} {xs : Nat → Int32} {X : Nat → Nat} {dT : Nat → ClassId} {D : va_G} {w w1 : mWd} {rest : List Value} {rm : Room} {mc ms y ix : Nat} {b : Int} {as r : List Value} {v : Option Value}
theorem mWs_ok (F : mCtx B L xs X dT D s) (hy : y < 274 ∧ m_pl y = true) : ∀ w ∈ mWs y, ∀ (a' : Array Value) (U : State), s.WarmedH U.vm → w.before a' U = true := by
  intro w hw a' U hW
  obtain ⟨G, -⟩ := F
  rcases List.mem_cons.mp hw with rfl | hw
  · exact word_at hW (good_of_word rfl) (G _ (pgM_all hy).1 rfl #[])
  · obtain ⟨h1, h2⟩ := List.mem_filter.mp hw
    exact word_at hW (good_of_word h2) (G _ h1 h2 #[])
/-- behind a call -/
theorem m_after {st0 : List Value} {a : Array Value} (hr : va_Run p l e R s m args below meth c H locs cells slots mc ms (F0 m pc ls st0) (r.map (mv B X)) (mQ B X dT D v w1 a) (fun q : Nat => B ≤ q)) (hS : va_S (fun q : Nat => B ≤ q) s.heap H locs)
    (kk : ∀ (H1 : Heap) (locs1 : List Loc), mOK B X dT D w1 H1 → va_S (fun q : Nat => B ≤ q) s.heap H1 locs1 → W p l e R s m args below meth c H1 locs1 (cells + mc) (slots + ms) Q (F0 m (pc + 3) ls ((v.toList ++ r).map (mv B X)))) : W p l e R s m args below meth c H locs cells slots Q (F0 m pc ls st0) := by
  intro T hT X1
  obtain ⟨v1, st₀, t, T', L1, h0, X', hL, e1, e2, ⟨⟨hv, hok⟩, hz, hk⟩, st⟩ := hr T hT X1
  have hv1 : v1 = v.map (mv B X) := Outcome.returned.inj hv
  subst hv1
  rw [h0] at hz hk
  obtain ⟨t2, a1, b1⟩ := kk T'.heap (locs ++ L1) (by rw [e1]; exact hok)
    ⟨Nat.le_trans hS.1 (by rw [e1]; exact hz), fun q h1 h2 => by rw [e1, hk q (Nat.lt_of_lt_of_le h1 hS.1) h2]; exact hS.2.1 q h1 h2, fun q hq => by
      rcases List.mem_append.mp hq with h | h
      · exact hS.2.2 q h
      · exact hL q h⟩ T' rfl X'
  refine ⟨t2, st t2 ?_, b1⟩
  have e3 : (v.toList ++ r).map (mv B X) = (v.map (mv B X)).toList ++ r.map (mv B X) := by
    rw [List.map_append]
    cases v <;> rfl
  rw [e3] at a1
  exact a1
def mCallOK (p : Program) (l : Launch) (e : Env) (R : Room) (s : State) (m : MethodId) (args : Array Value) (below : List Frame) (meth : Method) (c : Code) (H : Heap) (locs : List Loc) (cells slots : Nat) (Q : State → Prop) (pc : Nat) (ls : Array Slot) (B L : Nat) (xs : Nat → Int32) (X : Nat → Nat) (dT : Nat → ClassId) (D : va_G) (w : mWd) (y : Nat) (as r st : List Value) : Prop :=
  ∀ (rm : Room) (mc ms : Nat) (v : Option Value) (w1 : mWd), Met l (pgN y) (mWs y) rm (mPc B L xs X dT D as w) (mQ B X dT D v w1) mc ms (fun q : Nat => B ≤ q) → rm.cells = mc → rm.slots = ms → rm.frames + 1 ≤ R.frames → 8 + (pgL y + 11) + rm.locals ≤ R.locals → cells + mc ≤ R.cells → slots + ms ≤ R.slots →
    (∀ (H1 : Heap) (locs1 : List Loc), mOK B X dT D w1 H1 → va_S (fun q : Nat => B ≤ q) s.heap H1 locs1 → W p l e R s m args below meth c H1 locs1 (cells + mc) (slots + ms) Q (F0 m (pc + 3) ls ((v.toList ++ r).map (mv B X)))) → W p l e R s m args below meth c H locs cells slots Q (F0 m pc ls (st.map (mv B X)))
theorem m_fix (F : mFr p s m meth c mid B L xs X dT D) : CallFix p m c (pgB mid) (pgL mid) s args (lw_tbl.filter goodWord) (pgO.getD (pgOw mid) "") := by
  obtain ⟨hx, hb, hml, -, -, hown, -, G, -⟩ := F
  exact ⟨hx, hb, hml, hown, fun w hw => by
    obtain ⟨h1, h2⟩ := List.mem_filter.mp hw
    exact G _ h1 h2 _⟩
theorem m_pcs (F : mFr p s m meth c mid B L xs X dT D) (hok : mOK B X dT D w H) (hS : va_S (fun q : Nat => B ≤ q) s.heap H locs) : ∀ U : State, U.heap = H → s.WarmedH U.vm → mPc B L xs X dT D as w (as.map (mv B X)).toArray U := by
  intro U hU hW
  exact ⟨rfl, by rw [hU]; exact hok, F.2.2.2.2.2.2.2.move hW (by rw [hU]; exact hS)⟩
theorem m_len_of (hy : y < 274 ∧ m_pl y = true) {n : Nat} (hn : n = pgA y) : ∀ sig, parseMethodDescriptor (pgN y).desc = some sig → n = sig.parameters.length := by
  intro sig h
  have h2 := (pgM_all hy).2.2.2.2.2.1.2.2
  rw [h] at h2
  rw [hn]
  exact (Option.some.inj h2).symm
theorem m_callS (F : mFr p s m meth c mid B L xs X dT D) (hok : mOK B X dT D w H) (hS : va_S (fun q : Nat => B ≤ q) s.heap H locs) (hls : ls.size = pgL mid) {st : List Value} (hr : pgRs mid ix = some (4, y, b) ∨ pgRs mid ix = some (5, y, b)) (hpop : m_pop (pgA y) st [] = some (as, r)) (hcat : m_cat r ≤ 8) (hpl : m_pl y = true) (hdg : decode (pgB mid) pc = .ok (.invokestatic ix, 3)) :
    mCallOK p l e R s m args below meth c H locs cells slots Q pc ls B L xs X dT D w y as r st := by
  intro rm mc ms v w1 hM hrc hrs hfr hlo hce hsl kk
  have hC := F.2.2.2.2.2.2.2
  obtain ⟨hst, hn⟩ := m_pop_nil hpop
  have hwr : ((r.map (mv B X)).map fun v => v.category).sum ≤ 8 := by rw [m_cat_map]; exact hcat
  have hstk : st.map (mv B X) = (as.map (mv B X)).reverse ++ r.map (mv B X) := by rw [hst, List.map_append, List.map_reverse]
  rcases hr with hr | hr
  · obtain ⟨hm, hk⟩ := pgRs_ok hr
    simp only [pgW, pgKd, Bool.and_eq_true] at hm hk
    have hy : y < 274 ∧ m_pl y = true := ⟨Nat.le_of_ble_eq_true hk.1, hpl⟩
    obtain ⟨a1, a2, a3, a4, a5, a6, a7, a8, a9⟩ := pgM_all hy
    exact m_after (va_runS (As := as.map (mv B X)) (n := pgA y) (rest := r.map (mv B X)) (m_fix F) hM ⟨⟨hrc, hrs, hfr, hlo, mWs_ok hC hy, List.mem_cons_self, hC.1 _ a1 rfl _, hC.1 _ a2 rfl _, ⟨a6.1, a6.2.1⟩, m_len_of hy rfl, hC.1 _ hm rfl _⟩, hC.1 _ (a3 hk.2) rfl _⟩ ⟨mPc_blind, m_pcs F hok hS⟩ rfl (by rw [List.length_map]; exact hn) hls hstk (lv_room hwr) hdg ⟨hce, hsl⟩) hS kk
  · obtain ⟨hm, hk⟩ := pgRs_ok hr
    simp only [pgW, pgKd, Bool.and_eq_true] at hm hk
    have hy : y < 274 ∧ m_pl y = true := ⟨Nat.le_of_ble_eq_true hk.1, hpl⟩
    obtain ⟨a1, a2, a3, a4, a5, a6, a7, a8, a9⟩ := pgM_all hy
    exact m_after (va_runSN (As := as.map (mv B X)) (n := pgA y) (rest := r.map (mv B X)) (m_fix F) hM ⟨⟨⟨hrc, hrs, hfr, hlo, mWs_ok hC hy, List.mem_cons_self⟩, hC.1 _ a1 rfl _, hC.1 _ a2 rfl _, ⟨a6.1, a6.2.1⟩, m_len_of hy rfl, va_Nw.use rfl (hC.2.1 _ hm rfl)⟩, hC.1 _ (a3 hk.2) rfl _, trivial⟩ ⟨mPc_blind, m_pcs F hok hS⟩ rfl (by rw [List.length_map]; exact hn) hls hstk (lv_room hwr) hdg ⟨hce, hsl⟩) hS kk
theorem pgO_cl {cj : Nat} {C : String} {T : u_T} {N : Nat} (h : vwCl[cj]? = some (C, T, N)) : pgO.getD cj "" = C := by
  have hi : cj < 13 := (List.getElem?_eq_some_iff.mp h).1
  rcases (by omega : cj = 0 ∨ cj = 1 ∨ cj = 2 ∨ cj = 3 ∨ cj = 4 ∨ cj = 5 ∨ cj = 6 ∨ cj = 7 ∨ cj = 8 ∨ cj = 9 ∨ cj = 10 ∨ cj = 11 ∨ cj = 12) with e | e | e | e | e | e | e | e | e | e | e | e | e <;> subst e <;> cases h <;> rfl
theorem m_recv (F : mFr p s m meth c mid B L xs X dT D) (hok : mOK B X dT D w H) (hS : va_S (fun q : Nat => B ≤ q) s.heap H locs) (hy : y < 274 ∧ m_pl y = true) {v0 : Value} (h : m_rcv y v0 w = true) : ∃ a : Nat, mv B X v0 = .ref a ∧ ∃ cell : Cell, H[a]? = some cell ∧ cell.vm.isStatics = false ∧ s.vm.findClass (pgN y).cls = some cell.cls := by
  obtain ⟨-, -, -, -, -, -, -, G, Nw, K, E, -⟩ := F
  have ho := (pgM_all hy).2.2.2.2.2.2.2.1
  unfold m_rcv at h
  split at h
  next i =>
    split at h
    next cj fs hw =>
      rw [Bool.and_eq_true] at h
      have hj := Nat.eq_of_beq_eq_true h.1
      have hlt : cj < 13 := Nat.le_of_ble_eq_true h.2
      cases hc : vwCl[cj]? with
      | none =>
        rw [List.getElem?_eq_none_iff] at hc
        exact absurd hlt (by have : vwCl.length = 13 := rfl; omega)
      | some q =>
        obtain ⟨C, T, N⟩ := q
        refine ⟨B + i, rfl, ?_⟩
        obtain ⟨cell, g1, g2, g3⟩ := va_recv K hok.2 hc (mZ_at hw)
        rw [← ho, hj, pgO_cl hc]
        exact ⟨cell, g1, g2, g3⟩
    next => cases h
  next k =>
    rw [Bool.and_eq_true] at h
    have hk := Nat.eq_of_beq_eq_true h.1
    have hj := Nat.eq_of_beq_eq_true h.2
    subst hk
    obtain ⟨cell, g1, g2, g3, g4⟩ := E.2.2.2.1
    refine ⟨X 4, rfl, cell, ?_, g2, ?_⟩
    · rw [hS.2.1 _ (Array.getElem?_eq_some_iff.mp g1).1 g4]
      exact g1
    · rw [← ho, hj]
      exact g3
  next => cases h
theorem m_callV (F : mFr p s m meth c mid B L xs X dT D) (hok : mOK B X dT D w H) (hS : va_S (fun q : Nat => B ≤ q) s.heap H locs) (hls : ls.size = pgL mid) {st : List Value} {v0 : Value} (hr : pgRs mid ix = some (6, y, b) ∨ pgRs mid ix = some (7, y, b)) (hpop : m_pop (pgA y) st [] = some (as, v0 :: r)) (hrcv : m_rcv y v0 w = true) (hcat : m_cat r ≤ 8) (hpl : m_pl y = true) (hdg : decode (pgB mid) pc = .ok (.invokevirtual ix, 3)) :
    mCallOK p l e R s m args below meth c H locs cells slots Q pc ls B L xs X dT D w y (v0 :: as) r st := by
  intro rm mc ms v w1 hM hrc hrs hfr hlo hce hsl kk
  have hC := F.2.2.2.2.2.2.2
  obtain ⟨hst, hn⟩ := m_pop_nil hpop
  have hwr : ((r.map (mv B X)).map fun v => v.category).sum ≤ 8 := by rw [m_cat_map]; exact hcat
  have hpcs := m_pcs (as := v0 :: as) F hok hS
  rcases hr with hr | hr
  · obtain ⟨hm, hk⟩ := pgRs_ok hr
    simp only [pgW, pgKd, Bool.and_eq_true, Bool.not_eq_true', decide_eq_false_iff_not] at hm hk
    have hy : y < 274 ∧ m_pl y = true := ⟨Nat.le_of_ble_eq_true hk.1.1, hpl⟩
    obtain ⟨a1, a2, a3, a4, a5, a6, a7, a8, a9⟩ := pgM_all hy
    obtain ⟨a, ha, hcell⟩ := m_recv F hok hS hy hrcv
    have hstk : st.map (mv B X) = (as.map (mv B X)).reverse ++ .ref a :: r.map (mv B X) := by rw [hst, List.map_append, List.map_reverse, List.map_cons, ha]
    rw [List.map_cons, ha] at hpcs
    exact m_after (va_runV (As := as.map (mv B X)) (n := pgA y) (rest := r.map (mv B X)) (C := (pgN y).cls) (m_fix F) hM ⟨⟨hrc, hrs, hfr, hlo, mWs_ok hC hy, List.mem_cons_self, hC.1 _ a1 rfl _, hC.1 _ a2 rfl _, ⟨a6.1, a6.2.1⟩, m_len_of hy rfl, hC.1 _ hm rfl _⟩, hC.1 _ (a4 hk.1.2) rfl _, hC.1 _ (a5 hk.1.2 hk.2) rfl _⟩ ⟨mPc_blind, hcell, hpcs⟩ rfl (by rw [List.length_map]; exact hn) hls hstk (lv_room hwr) hdg ⟨hce, hsl⟩) hS kk
  · obtain ⟨hm, hk⟩ := pgRs_ok hr
    simp only [pgW, pgKd, Bool.and_eq_true, Bool.not_eq_true', decide_eq_false_iff_not] at hm hk
    have hy : y < 274 ∧ m_pl y = true := ⟨Nat.le_of_ble_eq_true hk.1.1, hpl⟩
    obtain ⟨a1, a2, a3, a4, a5, a6, a7, a8, a9⟩ := pgM_all hy
    obtain ⟨a, ha, hcell⟩ := m_recv F hok hS hy hrcv
    have hstk : st.map (mv B X) = (as.map (mv B X)).reverse ++ .ref a :: r.map (mv B X) := by rw [hst, List.map_append, List.map_reverse, List.map_cons, ha]
    rw [List.map_cons, ha] at hpcs
    exact m_after (va_runVN (As := as.map (mv B X)) (n := pgA y) (rest := r.map (mv B X)) (C := (pgN y).cls) (m_fix F) hM ⟨⟨⟨hrc, hrs, hfr, hlo, mWs_ok hC hy, List.mem_cons_self⟩, hC.1 _ a1 rfl _, hC.1 _ a2 rfl _, ⟨a6.1, a6.2.1⟩, m_len_of hy rfl, va_Nw.use rfl (hC.2.1 _ hm rfl)⟩, hC.1 _ (a4 hk.1.2) rfl _, hC.1 _ (a5 hk.1.2 hk.2) rfl _⟩ ⟨mPc_blind, hcell, hpcs⟩ rfl (by rw [List.length_map]; exact hn) hls hstk (lv_room hwr) hdg ⟨hce, hsl⟩) hS kk
theorem m_callI (F : mFr p s m meth c mid B L xs X dT D) (hok : mOK B X dT D w H) (hS : va_S (fun q : Nat => B ≤ q) s.heap H locs) (hls : ls.size = pgL mid) {st : List Value} {i : Nat} (hr : pgRs mid ix = some (8, y, b) ∨ pgRs mid ix = some (9, y, b)) (hpop : m_pop (pgA y) st [] = some (as, .ref i :: r)) (hcat : m_cat r ≤ 8) (hpl : m_pl y = true) (hdg : decode (pgB mid) pc = .ok (.invokespecial ix, 3)) :
    mCallOK p l e R s m args below meth c H locs cells slots Q pc ls B L xs X dT D w y (.ref i :: as) r st := by
  intro rm mc ms v w1 hM hrc hrs hfr hlo hce hsl kk
  have hC := F.2.2.2.2.2.2.2
  obtain ⟨hst, hn⟩ := m_pop_nil hpop
  have hwr : ((r.map (mv B X)).map fun v => v.category).sum ≤ 8 := by rw [m_cat_map]; exact hcat
  have hpcs := m_pcs (as := .ref i :: as) F hok hS
  have hstk : st.map (mv B X) = (as.map (mv B X)).reverse ++ .ref (B + i) :: r.map (mv B X) := by rw [hst, List.map_append, List.map_reverse, List.map_cons]; rfl
  rcases hr with hr | hr
  · obtain ⟨hm, hk⟩ := pgRs_ok hr
    simp only [pgW, pgKd, Bool.and_eq_true, Bool.not_eq_true', decide_eq_true_eq] at hm hk
    have hy : y < 274 ∧ m_pl y = true := ⟨Nat.le_of_ble_eq_true hk.1.1.1, hpl⟩
    obtain ⟨a1, a2, a3, a4, a5, a6, a7, a8, a9⟩ := pgM_all hy
    rw [hk.2] at a1
    exact m_after (va_runI (As := as.map (mv B X)) (n := pgA y) (rest := r.map (mv B X)) (b := B + i) (bytes := pgB y) (maxL := pgL y) (m_fix F) hM ⟨⟨hrc, hrs, hfr, hlo, mWs_ok hC hy, by rw [← hk.2]; exact List.mem_cons_self, hC.1 _ a1 rfl _, hC.1 _ a2 rfl _, ⟨a6.1, a6.2.1⟩, m_len_of hy rfl, hC.1 _ hm rfl _⟩, hk.1.2, hC.1 _ (a4 hk.1.1.2) rfl _⟩ ⟨mPc_blind, hpcs⟩ rfl (by rw [List.length_map]; exact hn) hls hstk (lv_room hwr) hdg ⟨hce, hsl⟩) hS kk
  · obtain ⟨hm, hk⟩ := pgRs_ok hr
    simp only [pgW, pgKd, Bool.and_eq_true, Bool.not_eq_true', decide_eq_true_eq] at hm hk
    have hy : y < 274 ∧ m_pl y = true := ⟨Nat.le_of_ble_eq_true hk.1.1.1, hpl⟩
    obtain ⟨a1, a2, a3, a4, a5, a6, a7, a8, a9⟩ := pgM_all hy
    rw [hk.2] at a1
    exact m_after (va_runIN (As := as.map (mv B X)) (n := pgA y) (rest := r.map (mv B X)) (b := B + i) (bytes := pgB y) (maxL := pgL y) (m_fix F) hM ⟨⟨⟨hrc, hrs, hfr, hlo, mWs_ok hC hy, by rw [← hk.2]; exact List.mem_cons_self⟩, hC.1 _ a1 rfl _, hC.1 _ a2 rfl _, ⟨a6.1, a6.2.1⟩, m_len_of hy rfl, va_Nw.use rfl (hC.2.1 _ hm rfl)⟩, hk.1.2, hC.1 _ (a4 hk.1.1.2) rfl _⟩ ⟨mPc_blind, hpcs⟩ rfl (by rw [List.length_map]; exact hn) hls hstk (lv_room hwr) hdg ⟨hce, hsl⟩) hS kk
theorem m_retI (F : mFr p s m meth c mid B L xs X dT D) (hok : mOK B X dT D w H) (hS : va_S (fun q : Nat => B ≤ q) s.heap H locs) {o : Nat} {ins : Instr} {st : List Value} (ho : (o = 0 ∧ ins = .ireturn) ∨ (o = 1 ∧ ins = .lreturn) ∨ (o = 2 ∧ ins = .areturn) ∨ (o = 3 ∧ ins = .return_)) (h : m_ret (pgT mid) o st = some v) (hdg : decode (pgB mid) pc = .ok (ins, 1)) :
    W p l e R s m args below meth c H locs cells slots (MQ below (mQ B X dT D v w) args s cells slots (fun q : Nat => B ≤ q)) (F0 m pc ls (st.map (mv B X))) := by
  obtain ⟨hx, hb, -, hrt, hlk, -⟩ := F
  have hq : ∀ (v1 : Option Value), v1 = v.map (mv B X) → ∀ t : State, t.heap = H → s.WarmedH t.vm → mQ B X dT D v w args s (.returned v1) t := fun v1 hv1 t ht hW => ⟨⟨by rw [hv1], by rw [ht]; exact hok⟩, hS.F ht⟩
  unfold m_ret at h
  split at h
  next x hty =>
    cases h
    rcases ho with ⟨-, rfl⟩ | ⟨hz, -⟩ | ⟨hz, -⟩ | ⟨hz, -⟩ <;> first | (cases hz; done) | skip
    exact W.iret hx hb (hrt.trans hty) (hq _ rfl) hS.2.2 hdg hlk
  next x hty =>
    split at h
    next hc =>
      cases h
      rcases ho with ⟨-, rfl⟩ | ⟨hz, -⟩ | ⟨hz, -⟩ | ⟨hz, -⟩ <;> first | (cases hz; done) | skip
      exact W.zret (v := x) hx hb (hrt.trans hty) (by rcases hc with rfl | rfl <;> rfl) (hq _ rfl) hS.2.2 hdg hlk
    next => cases h
  next x hty =>
    split at h
    next hc =>
      cases h
      rcases ho with ⟨-, rfl⟩ | ⟨hz, -⟩ | ⟨hz, -⟩ | ⟨hz, -⟩ <;> first | (cases hz; done) | skip
      exact W.zret (v := x) hx hb (hrt.trans hty) (by rw [hc]; rfl) (hq _ rfl) hS.2.2 hdg hlk
    next => cases h
  next x hty =>
    cases h
    rcases ho with ⟨hz, -⟩ | ⟨-, rfl⟩ | ⟨hz, -⟩ | ⟨hz, -⟩ <;> first | (cases hz; done) | skip
    exact W.lret hx hb (hrt.trans hty) (hq _ rfl) hS.2.2 hdg hlk
  next i n hty =>
    cases h
    rcases ho with ⟨hz, -⟩ | ⟨hz, -⟩ | ⟨-, rfl⟩ | ⟨hz, -⟩ <;> first | (cases hz; done) | skip
    exact W.aret (v := .ref (B + i)) hx hb (hrt.trans hty) (Or.inl ⟨_, rfl⟩) (Or.inr ⟨_, rfl⟩) (hq _ rfl) hS.2.2 hdg hlk
  next n hty =>
    cases h
    rcases ho with ⟨hz, -⟩ | ⟨hz, -⟩ | ⟨-, rfl⟩ | ⟨hz, -⟩ <;> first | (cases hz; done) | skip
    exact W.aret (v := .null) hx hb (hrt.trans hty) (Or.inl ⟨_, rfl⟩) (Or.inl rfl) (hq _ rfl) hS.2.2 hdg hlk
  next i n hty =>
    cases h
    rcases ho with ⟨hz, -⟩ | ⟨hz, -⟩ | ⟨-, rfl⟩ | ⟨hz, -⟩ <;> first | (cases hz; done) | skip
    exact W.aret (v := .ref (B + i)) hx hb (hrt.trans hty) (Or.inr ⟨_, rfl⟩) (Or.inr ⟨_, rfl⟩) (hq _ rfl) hS.2.2 hdg hlk
  next hty =>
    cases h
    rcases ho with ⟨hz, -⟩ | ⟨hz, -⟩ | ⟨hz, -⟩ | ⟨-, rfl⟩ <;> first | (cases hz; done) | skip
    exact W.vret hx hb (hrt.trans hty) (hq _ rfl) hS.2.2 hdg hlk
  next => cases h
end RW6
