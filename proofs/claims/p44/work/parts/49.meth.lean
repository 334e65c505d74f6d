/-! A METHOD that the checker goes through keeps its contract -/
def z_nE (c : zKt) : Nat := 1 + (e_ivs c.1.1 ++ f_ivs c.1.2.1).length
def chkT (Z : zDt) (T : zTb) (y : Nat) (c : zKt) (ord : Nat) (TS : List zTT) (sp : Option (Nat × Nat)) (F : Nat) (t : zTT) : Bool := match t_start t.2.2.1 t.2.2.2.1 (z_zip t.2.1 (e_args (z_nE c) t.2.2.2.1.1)) t.2.2.2.2.1 with
  | some D => Nat.beq t.2.2.1.length (z_nE c) && chk Z T y c ord TS sp (some t.2.2.2.2.2) (z_nE c) (k_fin Z c (z_nE c)) F true y t.1 D []
  | none => false
def chkM (Z : zDt) (T : zTb) (y : Nat) (c : zKt) (ord : Nat) (TS : List zTT) (sp : Option (Nat × Nat)) (F : Nat) : Bool := (match t_start [(0, 0)] c.1 (s_lv 0 (e_args 1 c.1.1)) (0, 0) with
  | some D => chk Z T y c ord TS sp none (z_nE c) (k_fin Z c (z_nE c)) F false y 0 D []
  | none => false) && (Nat.blt 0 c.2.2.2.2.2.1 && TS.all (chkT Z T y c ord TS sp F))
theorem meth_ok {Z : zDt} {T : zTb} {L : Nat} {xs : Nat → Int32} {y : Nat} {c : zKt} {ord r F : Nat} {TS : List zTT} {sp : Option (Nat × Nat)} (hN : ∀ w, w_okD Z.2.1 w (.inr (2, pgDf 2))) (HC : ∀ y' ord' c', T.getD y' none = some (ord', c') → ∀ r', (ord' < ord ∨ (ord' = ord ∧ r' < r)) → zCall Z L xs y' c' r') (h : chkM Z T y c ord TS sp F = true) : zCall Z L xs y c r := by
  intro D w args V hW hwk hE hrk hD
  unfold chkM at h
  rw [Bool.and_eq_true, Bool.and_eq_true] at h
  obtain ⟨h1, h2, h3⟩ := h
  have hb : 0 < c.2.2.2.2.2.1 := Nat.le_of_ble_eq_true h2
  have hnE : (0 :: V).length = z_nE c := by
    obtain ⟨⟨-, n1, -⟩, -⟩ := hE
    simp only [List.length_append, List.length_cons, List.length_nil] at n1
    unfold z_nE
    simp only [List.length_append, List.length_cons]
    omega
  have hgW : gW Z c.2.2.2.1 w (0 :: V) (0, 0) none w := ⟨hW, fR_refl _ w, Nat.le_refl _, Nat.le_refl _, wkR_any hwk⟩
  have cuts : ∀ (m : Nat) (t : zTT), t ∈ TS → ∀ (V' : List Int) (l : mL) (w' : mWd) (args' : List Value) (qv : List (Bool × Int)), (0 :: V).length = t.2.2.1.length → tE t.2.2.1 t.2.2.2.1 (0 :: V) V' w' args' → kyR l t.2.1 args' → gW Z c.2.2.2.1 w [] t.2.2.2.2.1 none w' → rkR ((0 :: V) ++ V') t.2.2.2.2.2 qv → z_mu qv = m → Rn L xs D y t.1 l [] w' (zPost Z c w (0 :: V)) := by
    intro m
    induction m using Nat.strongRecOn with
    | _ m ih =>
      intro t ht V' l w' args' qv hlen hE' hky hg hq hm
      have h4 := List.all_eq_true.mp h3 t ht
      unfold chkT at h4
      split at h4
      next D1 hD1 =>
        rw [Bool.and_eq_true] at h4
        have hlv : lvR ((0 :: V) ++ V') w' (z_zip t.2.1 (e_args (z_nE c) t.2.2.2.1.1)) l := by
          have := z_zip_ok (vs := (0 :: V) ++ V') (w := w') hky hE'.2.1
          rw [← hlen, hnE] at this
          exact this
        obtain ⟨D2, d1, d2⟩ := t_start_ok hE' hlen hlv (gW_any hg)
        rw [hD1] at d1
        cases d1
        refine chk_ok (M := some (z_mu qv)) (vsS := (0 :: V) ++ V') hN HC hrk hnE hD (vL_app _ _) (fun os ho => ?_) (fun h => by cases h) (fun t2 ht2 V2 l2 w2 a2 q2 x1 x2 x3 x4 x5 x6 => ?_) (fun vs2 D2 l2 st2 w2 o2 v2 y1 y2 y3 y4 => k_fin_ok y1 (vL_trans (vL_app _ _) y2) hnE y3 y4) F true y t.1 D1 [] h4.2 ((0 :: V) ++ V') l [] w' [] D d2 (vL_refl _) trivial (by simp) (by simpa using hb)
        · cases ho
          exact ⟨qv, hq, rfl⟩
        · exact ih (z_mu q2) (by rw [← hm]; exact x6 _ rfl) t2 ht2 V2 l2 w2 a2 q2 x1 x2 x3 x4 x5 rfl
      next => cases h4
  split at h1
  next D1 hD1 =>
    have hlv : lvR ([0] ++ V) w (s_lv 0 (e_args 1 c.1.1)) (lv_args 0 args) := s_lv_ok hE.2.1
    obtain ⟨D2, d1, d2⟩ := t_start_ok (lv := s_lv 0 (e_args 1 c.1.1)) (l := lv_args 0 args) hE rfl hlv hgW
    rw [hD1] at d1
    cases d1
    refine chk_ok (M := none) (vsS := 0 :: V) hN HC hrk hnE hD (vL_refl _) (fun os ho => by cases ho) (fun _ => rfl) (fun t2 ht2 V2 l2 w2 a2 q2 x1 x2 x3 x4 x5 _ => ?_) (fun vs2 D2 l2 st2 w2 o2 v2 y1 y2 y3 y4 => k_fin_ok y1 y2 hnE y3 y4) F false y 0 D1 [] h1 (0 :: V) (lv_args 0 args) [] w [] D d2 (vL_refl _) trivial (by simp) (by simpa using hb)
    exact cuts (z_mu q2) t2 ht2 V2 l2 w2 a2 q2 x1 x2 x3 x4 x5 rfl
  next => cases h1
/-- all contracts at once -/
theorem all_ok {Z : zDt} {T : zTb} {L : Nat} {xs : Nat → Int32} (H : ∀ (y ord : Nat) (c : zKt), T.getD y none = some (ord, c) → ∀ r, (∀ y' ord' c', T.getD y' none = some (ord', c') → ∀ r', (ord' < ord ∨ (ord' = ord ∧ r' < r)) → zCall Z L xs y' c' r') → zCall Z L xs y c r) : ∀ (o r y : Nat) (c : zKt), T.getD y none = some (o, c) → zCall Z L xs y c r := by
  intro o
  induction o using Nat.strongRecOn with
  | _ o iho =>
    intro r
    induction r using Nat.strongRecOn with
    | _ r ihr =>
      intro y c hT
      refine H y o c hT r (fun y' ord' c' hT' r' hlt => ?_)
      rcases hlt with hlt | ⟨rfl, hlt⟩
      · exact iho ord' hlt r' y' c' hT'
      · exact ihr r' hlt y' c' hT'
