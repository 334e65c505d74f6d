/-! THE LAW OUT OF A RUN OF THE SMALL MACHINE -/
/-- what is left to show: on every script the small machine's law ends, with 1, within the room -/
def lw_Run : Prop := ∀ (L : Nat) (xs : Nat → Int32), L ≤ 3072 → ∃ (n : Nat) (w1 : mWd), m_run L xs n 800 274 0 [(0, .retAddr 0)] [] [] = some (some (.int 1), w1) ∧ w1.length ≤ 600000 ∧ m_sl w1 ≤ 7302250
theorem whole_of (hrun : lw_Run) {p : Program} {e : Env} {s : State} {m : MethodId} {below : List Frame} {meth : Method} {c : Code} (l : Launch) (hname : meth.name = (pgN 274).name) {b L : Nat} {xs : Nat → Int32} (hL : L ≤ 3072) (C0 : lw_At p s m meth c b L xs) : W p l e room_1 s m #[Value.ref b] below meth c s.heap [] 0 0 (lw_Z below #[Value.ref b] s) (entryFrame m ([Value.ref b] : List Value).toArray 4) := by
  obtain ⟨hx, hb, hr, hml, hown, hts, hX, hbl, hlocks, hgv⟩ := id C0
  obtain ⟨X, dT, D, hX0, hC⟩ := ls_ctx hts hgv hX hbl
  obtain ⟨n, w1, hr1, hc1, hc2⟩ := hrun L xs hL
  have F : mFr p s m meth c 274 s.heap.size L xs X dT D := ⟨hx, hb, hml, hr, hlocks, hown, hname, hC⟩
  have hl := lv_entry ([.ref b]) (n := 4) (Nat.le_of_ble_eq_true rfl)
  rw [lg_entry_eq]
  generalize (lg_sl ([.ref b]) ++ List.replicate (4 - (lg_sl ([.ref b])).length) Slot.unset).toArray = ls at hl ⊢
  have hl : lv_has ls (pgL 274) (mlv s.heap.size X [(0, .retAddr 0)]) := by
    show lv_has ls 4 [(0, .ref (X 0))]
    rw [hX0]
    exact hl
  have hok : mOK s.heap.size X dT D [] s.heap := ⟨rfl, fun k q hk => by cases hk⟩
  refine m_adq l n 800 274 0 _ [] [] _ w1 hr1 p e room_1 s m #[Value.ref b] below meth c s.heap [] 0 0 ls _ F (by decide) (by decide) (by show 0 + (w1.length - 0) ≤ 600000; omega) (by show 0 + (m_sl w1 - 0) ≤ 7302250; omega) hok va_S.rf hl ?_
  intro pcr o ins H1 locs1 ls1 str hdg ho hret hok1 hS1 hl1
  have h9 : o = 0 ∧ ins = .ireturn ∧ str = [.int 1] := by
    unfold m_ret at hret
    split at hret
    · cases hret
      rcases ho with ⟨h1, h2⟩ | ⟨h1, -⟩ | ⟨h1, -⟩ | ⟨h1, -⟩ <;> first | (cases h1; done) | exact ⟨rfl, h2, rfl⟩
    · split at hret
      · cases hret
        rcases ho with ⟨h1, h2⟩ | ⟨h1, -⟩ | ⟨h1, -⟩ | ⟨h1, -⟩ <;> first | (cases h1; done) | exact ⟨rfl, h2, rfl⟩
      · cases hret
    · split at hret
      · cases hret
        rcases ho with ⟨h1, h2⟩ | ⟨h1, -⟩ | ⟨h1, -⟩ | ⟨h1, -⟩ <;> first | (cases h1; done) | exact ⟨rfl, h2, rfl⟩
      · cases hret
    · cases hret
    · cases hret
    · cases hret
    · cases hret
    · cases hret
    · cases hret
  obtain ⟨-, rfl, rfl⟩ := h9
  refine va_forget (fun q hq => hS1.2.2 q hq) ?_
  refine W.widen (k := 600000) (n := 7302250) (by show 0 + (w1.length - 0) ≤ 600000; omega) (by show 0 + (m_sl w1 - 0) ≤ 7302250; omega) ?_
  exact lw_ret hx hb hr hlocks hdg
