/-! A PAIR OUT OF WHAT THE TWO METHODS LEAVE -/
theorem Rn.pa {L : Nat} {xs : Nat → Int32} {d mid pc : Nat} {lv : mL} {st : List Value} {w : mWd} {P : Option Value → mWd → Prop} {Q : Option Value → AW → Prop} (h : Rn L xs d mid pc lv st w P) (hp : ∀ N, Pa N mid pc lv st (aw w) Q) (hS : SH w) : Rn L xs d mid pc lv st w (fun v w1 => P v w1 ∧ Q v (aw w1)) := by
  obtain ⟨n, v, w1, h1, h2⟩ := h
  exact ⟨n, v, w1, h1, h2, (hp n L xs n d w (Nat.le_refl n) hS rfl v w1 h1).2⟩
theorem pa_pair {p : zPr} {R : mWd → Prop} {L : Nat} {xs : Nat → Int32} {d : Nat} {q1 q2 : Int × Int × (Nat × Nat) × zWr} {S1 S2 : List Int32 → AW → Option Value → AW → Prop} (h1 : l_con zT p.1 0 p.2.2.1 = some q1) (h2 : l_con zT p.2.1 69 p.2.2.1 = some q2) (ha : Nat.ble (q1.2.2.1.1 + q2.2.2.1.1) p.2.2.2.2.2.2.1.1 = true) (hb : Nat.ble (q1.2.2.1.2 + q2.2.2.1.2) p.2.2.2.2.2.2.1.2 = true)
    (hX : ∀ (N : Nat) (w : mWd) (as : List Int32), WI zZ w → R w → as.length = p.2.2.1 → Pa N p.1 0 (lv_args 0 (.ref 0 :: as.map Value.int)) [] (aw w) (S1 as (aw w)))
    (hM : ∀ (N : Nat) (w w1 : mWd) (as : List Int32) (x : Int32), WI zZ w → WI zZ w1 → R w → as.length = p.2.2.1 → S1 as (aw w) (some (.int x)) (aw w1) → Pa N p.2.1 0 (lv_args 0 (.ref 69 :: as.map Value.int)) [] (aw w1) (S2 as (aw w1)))
    (hR : ∀ (w w1 w2 : mWd) (as : List Int32) (x y : Int32), WI zZ w → WI zZ w1 → WI zZ w2 → R w → as.length = p.2.2.1 → fR q1.2.2.2 w w1 → fR q2.2.2.2 w1 w2 → q1.1 ≤ x.toInt → x.toInt ≤ q1.2.1 → q2.1 ≤ y.toInt → y.toInt ≤ q2.2.1 → S1 as (aw w) (some (.int x)) (aw w1) → S2 as (aw w1) (some (.int y)) (aw w2) → R w2 ∧ (p.2.2.2.1 = true → x = y))
    (hd : 700 ≤ d) (w : mWd) (as : List Int32) (hW : WI zZ w) (hk : wkR [] none w) (hRw : R w) (hl : as.length = p.2.2.1) : Rn L xs d p.1 0 (lv_args 0 (.ref 0 :: as.map Value.int)) [] w (fun v w1 => WI zZ w1 ∧ Rn L xs d p.2.1 0 (lv_args 0 (.ref 69 :: as.map Value.int)) [] w1 (fun v2 w2 => prQ3 zZ R p w v v2 w2)) := by
  have hx : Rn L xs d p.1 0 (lv_args 0 (.ref 0 :: as.map Value.int)) [] w (fun v w1 => ∃ x : Int32, v = some (.int x) ∧ q1.1 ≤ x.toInt ∧ x.toInt ≤ q1.2.1 ∧ WI zZ w1 ∧ wkR [] none w1 ∧ w1.length ≤ w.length + q1.2.2.1.1 ∧ m_sl w1 ≤ m_sl w + q1.2.2.1.2 ∧ fR q1.2.2.2 w w1) := by
    refine l_call z_all h1 hW hk hl hd (fun x w1 b1 b2 b3 b4 b5 b6 b7 => ?_)
    exact ⟨x, rfl, b1, b2, b3, b4, b5, b6, b7⟩
  refine (hx.pa (fun N => hX N w as hW hRw hl) (SH_of hW)).mono (fun v w1 hq => ?_)
  obtain ⟨⟨x, hv, c1, c2, c3, c4, c5, c6, c7⟩, hs1⟩ := hq
  subst hv
  refine ⟨c3, ?_⟩
  have hy : Rn L xs d p.2.1 0 (lv_args 0 (.ref 69 :: as.map Value.int)) [] w1 (fun v w2 => ∃ y : Int32, v = some (.int y) ∧ q2.1 ≤ y.toInt ∧ y.toInt ≤ q2.2.1 ∧ WI zZ w2 ∧ wkR [] none w2 ∧ w2.length ≤ w1.length + q2.2.2.1.1 ∧ m_sl w2 ≤ m_sl w1 + q2.2.2.1.2 ∧ fR q2.2.2.2 w1 w2) := by
    refine l_call z_all h2 c3 c4 hl hd (fun x w1 b1 b2 b3 b4 b5 b6 b7 => ?_)
    exact ⟨x, rfl, b1, b2, b3, b4, b5, b6, b7⟩
  refine (hy.pa (fun N => hM N w w1 as x hW c3 hRw hl hs1) (SH_of c3)).mono (fun v2 w2 hq2 => ?_)
  obtain ⟨⟨y, hv2, e1, e2, e3, e4, e5, e6, e7⟩, hs2⟩ := hq2
  subst hv2
  obtain ⟨r1, r2⟩ := hR w w1 w2 as x y hW c3 e3 hRw hl c7 e7 c1 c2 e1 e2 hs1 hs2
  have ha := Nat.le_of_ble_eq_true ha
  have hb := Nat.le_of_ble_eq_true hb
  exact ⟨⟨x, y, rfl, rfl, r2⟩, e3, e4, r1, by omega, by omega⟩
/-! what other calls keep -/
/-- the fields and arrays that a relation speaks of -/
abbrev zSu : Type := List (Nat × Nat) × List Nat
def AgS (S : zSu) (A B : AW) : Prop := (∀ q ∈ S.1, A.1 q.1 q.2 = B.1 q.1 q.2) ∧ ∀ c ∈ S.2, A.1 c = B.1 c ∧ A.2.1 c = B.2.1 c ∧ A.2.2.1 c = B.2.2.1 c
def z_obj (i : Nat) : Bool := match zZ.1[i]? with
  | some (0, _) => true
  | _ => false
/-- none of them is written -/
def kpS (S : zSu) (wr : zWr) : Bool := S.1.all (fun q => Nat.blt q.1 129 && (z_obj q.1 && !(z_wr wr (z_cls zZ.1 q.1) q.2))) && S.2.all (fun c => Nat.blt c 129 && (!(z_obj c) && !(z_wr wr 98 c)))
theorem z_objT {w : mWd} (hW : WI zZ w) {i : Nat} (h : z_obj i = true) : ∃ ci fs, w[i]? = some (.inr (ci, fs)) := by
  unfold z_obj at h
  split at h
  next r hr =>
    obtain ⟨c, c1, c2⟩ := hW.2.1 i _ hr
    obtain ⟨fs, f1, -⟩ := c2
    exact ⟨_, fs, by rw [c1, f1]⟩
  next => cases h
theorem z_objF {w : mWd} (hW : WI zZ w) {i : Nat} (hi : i < 129) (h : z_obj i = false) : ∃ q, w[i]? = some (.inl q) := by
  have hlt : i < zZ.1.length := by rw [hW.1]; exact hi
  have hg := List.getElem?_eq_getElem hlt
  obtain ⟨c, c1, c2⟩ := hW.2.1 i _ hg
  unfold z_obj at h
  rw [hg] at h
  generalize zZ.1[i]'hlt = s at h c2
  obtain ⟨t, a, b, sps⟩ := s
  cases t with
  | zero => cases h
  | succ t =>
    obtain ⟨-, a', f2, -⟩ := c2
    exact ⟨_, by rw [c1, f2]⟩
theorem kpS_ok {S : zSu} {wr : zWr} {w w1 : mWd} (hW : WI zZ w) (hf : fR wr w w1) (hk : kpS S wr = true) : AgS S (aw w) (aw w1) := by
  unfold kpS at hk
  rw [Bool.and_eq_true] at hk
  refine ⟨fun q hq => ?_, fun c hc => ?_⟩
  · have h1 := List.all_eq_true.mp hk.1 q hq
    rw [Bool.and_eq_true, Bool.and_eq_true, Bool.not_eq_true'] at h1
    obtain ⟨l1, l2, l3⟩ := h1
    obtain ⟨ci, fs, hw⟩ := z_objT hW l2
    rw [cls_of hW (Nat.le_of_ble_eq_true l1) hw] at l3
    obtain ⟨c', d1, -, d3, -⟩ := hf _ _ hw
    obtain ⟨fs', e1, e2⟩ := d3 ci fs rfl
    subst e1
    rw [(aw_at hw).1, (aw_at d1).1]
    show (match fs[q.2]? with | some (.int x) => x | _ => 0) = (match fs'[q.2]? with | some (.int x) => x | _ => 0)
    rw [e2 _ l3]
  · have h1 := List.all_eq_true.mp hk.2 c hc
    rw [Bool.and_eq_true, Bool.and_eq_true, Bool.not_eq_true', Bool.not_eq_true'] at h1
    obtain ⟨l1, l2, l3⟩ := h1
    obtain ⟨q, hw⟩ := z_objF hW (Nat.le_of_ble_eq_true l1) l2
    obtain ⟨c', d1, -, -, d4⟩ := hf _ _ hw
    have := d4 q rfl l3
    subst this
    refine ⟨?_, ?_, ?_⟩
    · funext k; rw [(aw_at hw).1, (aw_at d1).1]
    · funext k; rw [(aw_at hw).2.1, (aw_at d1).2.1]
    · funext k; rw [(aw_at hw).2.2.1, (aw_at d1).2.2.1]
/-! ranges that hold at all times -/
theorem rg_fld {w : mWd} (hW : WI zZ w) {i k : Nat} {lo hi : Int} (h : z_fs zZ i k = some (0, lo, hi)) : lo ≤ ((aw w).1 i k).toInt ∧ ((aw w).1 i k).toInt ≤ hi := by
  obtain ⟨-, ci, fs, x, h1, h2, h3⟩ := z_fs_ok hW h
  have : (aw w).1 i k = x := by
    rw [(aw_at h1).1]
    show (match fs[k]? with | some (.int x) => x | _ => 0) = x
    rw [h2]
  rw [this]
  obtain ⟨y, hy, a, b⟩ := h3
  cases hy
  exact ⟨a, b⟩
theorem rg_arr {w : mWd} (hW : WI zZ w) {i t n j : Nat} {lo hi : Int} (h : zZ.1[i]? = some (1, t, n, [(0, lo, hi)])) (hj : j < n) : lo ≤ ((aw w).1 i j).toInt ∧ ((aw w).1 i j).toInt ≤ hi := by
  obtain ⟨a, h1, h2, h3⟩ := WI_arr hW h
  obtain ⟨x, hx, b1, b2⟩ := h3 j hj
  have : (aw w).1 i j = x := by
    rw [(aw_at h1).1]
    obtain ⟨f, hf, hfx⟩ := el_int hx
    subst hf
    exact hfx
  rw [this]
  exact ⟨b1, b2⟩
