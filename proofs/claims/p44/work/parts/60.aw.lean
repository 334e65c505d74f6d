/-! THE WORLD AS FUNCTIONS, AND RUNS SEEN FROM THERE: what a run that ends leaves -/
def z_wd (sp : zSp) : zSp := match sp.1 with
  | 0 => (0, -2147483648, 2147483647)
  | 7 => (0, -2147483648, 2147483647)
  | _ => sp
def z_wS (s : zS1) : zS1 := (s.1, s.2.1, s.2.2.1, s.2.2.2.map z_wd)
def zD : zDt := (zSH.map z_wS, zGS.map z_wd, [])
def SH (w : mWd) : Prop := WI zD w
theorem okV_wd {w : mWd} {sp : zSp} {v : Value} (h : okV w sp v) : okV w (z_wd sp) v := by
  obtain ⟨t, a, b⟩ := sp
  match t, h with
  | 0, ⟨i, h1, h2, h3⟩ => exact ⟨i, h1, (i32_rg i).1, (i32_rg i).2⟩
  | 1, h => exact h
  | 2, h => exact h
  | 3, h => exact h
  | 4, h => exact h
  | n + 5, h => exact h.elim
theorem z_es_wd {w : mWd} {W : List (Int × Int)} {e : zSp} {j : Nat} {v : Value} (h : okV w (z_es W e j) v) : okV w (z_es [] (z_wd e) j) v := by
  obtain ⟨t, a, b⟩ := e
  by_cases h7 : t = 7
  · subst h7
    obtain ⟨i, h1, h2, h3⟩ := (show okV w (0, W.getD (j % 7) (0, 0)) v from h)
    exact ⟨i, h1, (i32_rg i).1, (i32_rg i).2⟩
  · have e1 : z_es W (t, a, b) j = (t, a, b) := by
      unfold z_es
      rw [show Nat.beq (t, a, b).1 7 = false from beq_ne h7]
      rfl
    rw [e1] at h
    have h2 := okV_wd h
    have e2 : z_es [] (z_wd (t, a, b)) j = z_wd (t, a, b) := by
      unfold z_es
      have : Nat.beq (z_wd (t, a, b)).1 7 = false := by
        unfold z_wd
        simp only
        split
        · rfl
        · rfl
        · exact beq_ne h7
      rw [this]
      rfl
    rw [e2]
    exact h2
theorem SH_of {w : mWd} (h : WI zZ w) : SH w := by
  refine ⟨by rw [show zD.1.length = zSH.length from List.length_map _]; exact h.1, ?_, ?_⟩
  · intro i s hs
    rw [show zD.1 = zSH.map z_wS from rfl, List.getElem?_map] at hs
    obtain ⟨s0, h0, rfl⟩ := Option.map_eq_some_iff.mp hs
    obtain ⟨c, c1, c2⟩ := h.2.1 i s0 h0
    refine ⟨c, c1, ?_⟩
    obtain ⟨t, a, b, sps⟩ := s0
    cases t with
    | zero =>
      obtain ⟨fs, f1, f2, f3⟩ := c2
      refine ⟨fs, f1, f2, fun k sp v hsp hv => ?_⟩
      rw [show (z_wS (0, a, b, sps)).2.2.2 = sps.map z_wd from rfl, List.getElem?_map] at hsp
      obtain ⟨sp0, h1, rfl⟩ := Option.map_eq_some_iff.mp hsp
      exact okV_wd (f3 k sp0 v h1 hv)
    | succ t =>
      obtain ⟨f1, a', f2, f3⟩ := c2
      refine ⟨f1, a', f2, fun e j he hj => ?_⟩
      rw [show (z_wS (t + 1, a, b, sps)).2.2.2 = sps.map z_wd from rfl, List.head?_map] at he
      obtain ⟨e0, h1, rfl⟩ := Option.map_eq_some_iff.mp he
      exact z_es_wd (f3 e0 j h1 hj)
  · intro i c hi hc
    rcases h.2.2 i c hi hc with ⟨fs, f1, f2, f3⟩ | h2
    · refine .inl ⟨fs, f1, f2, fun k sp v hsp hv => ?_⟩
      rw [show zD.2.1 = zGS.map z_wd from rfl, List.getElem?_map] at hsp
      obtain ⟨sp0, h1, rfl⟩ := Option.map_eq_some_iff.mp hsp
      exact okV_wd (f3 k sp0 v h1 hv)
    · exact .inr h2
/-! what a cell holds, as functions -/
def cI (e : mE) (k : Nat) : Int32 := match e with
  | .inr (_, fs) => (match fs[k]? with | some (.int x) => x | _ => 0)
  | .inl (_, _, .inl f) => f k
  | _ => 0
def cJ (e : mE) (k : Nat) : Int64 := match e with
  | .inl (_, _, .inr (.inl f)) => f k
  | _ => 0
def cO (e : mE) (k : Nat) : Option Nat := match e with
  | .inl (_, _, .inr (.inr (.inr (.inr f)))) => f k
  | _ => none
def cN (e : mE) : Nat := match e with
  | .inl (_, n, _) => n
  | _ => 0
abbrev AW : Type := (Nat → Nat → Int32) × (Nat → Nat → Int64) × (Nat → Nat → Option Nat) × (Nat → Nat) × Nat
def aw (w : mWd) : AW := (fun c k => match w[c]? with | some e => cI e k | none => 0, fun c k => match w[c]? with | some e => cJ e k | none => 0, fun c k => match w[c]? with | some e => cO e k | none => none, fun c => match w[c]? with | some e => cN e | none => 0, w.length)
def uI (A : AW) (c k : Nat) (x : Int32) : AW := (fun c' k' => if c' = c ∧ k' = k then x else A.1 c' k', A.2)
def uO (A : AW) (c k : Nat) (x : Option Nat) : AW := (A.1, A.2.1, fun c' k' => if c' = c ∧ k' = k then x else A.2.2.1 c' k', A.2.2.2)
def uF (A : AW) (c : Nat) (g : Nat → Int32) : AW := (fun c' k' => if c' = c then g k' else A.1 c' k', A.2)
def uN (A : AW) : AW := (A.1, A.2.1, A.2.2.1, A.2.2.2.1, A.2.2.2.2 + 1)
section AWS
variable {w : mWd} {c k : Nat} {e e' : mE}
theorem aw_at (h : w[c]? = some e) : (∀ k, (aw w).1 c k = cI e k) ∧ (∀ k, (aw w).2.1 c k = cJ e k) ∧ (∀ k, (aw w).2.2.1 c k = cO e k) ∧ (aw w).2.2.2.1 c = cN e := by
  refine ⟨fun k => ?_, fun k => ?_, fun k => ?_, ?_⟩
  · show (match w[c]? with | some e => cI e k | none => 0) = _
    rw [h]
  · show (match w[c]? with | some e => cJ e k | none => 0) = _
    rw [h]
  · show (match w[c]? with | some e => cO e k | none => none) = _
    rw [h]
  · show (match w[c]? with | some e => cN e | none => 0) = _
    rw [h]
theorem aw_setI {x : Int32} (h : w[c]? = some e) (hI : ∀ k', cI e' k' = if k' = k then x else cI e k') (hJ : cJ e' = cJ e) (hO : cO e' = cO e) (hN : cN e' = cN e) : aw (w.set c e') = uI (aw w) c k x := by
  have hl : c < w.length := (List.getElem?_eq_some_iff.mp h).1
  refine Prod.ext ?_ (Prod.ext ?_ (Prod.ext ?_ (Prod.ext ?_ ?_)))
  · funext c' k'
    show (match (w.set c e')[c']? with | some e => cI e k' | none => 0) = if c' = c ∧ k' = k then x else (match w[c']? with | some e => cI e k' | none => 0)
    rw [getE_set h]
    by_cases q : c' = c
    · subst q
      rw [if_pos rfl, h]
      simp only [true_and]
      exact hI k'
    · rw [if_neg q, if_neg (fun hh => q hh.1)]
  · funext c' k'
    show (match (w.set c e')[c']? with | some e => cJ e k' | none => 0) = (match w[c']? with | some e => cJ e k' | none => 0)
    rw [getE_set h]
    by_cases q : c' = c
    · subst q; rw [if_pos rfl, h]; simp only [hJ]
    · rw [if_neg q]
  · funext c' k'
    show (match (w.set c e')[c']? with | some e => cO e k' | none => none) = (match w[c']? with | some e => cO e k' | none => none)
    rw [getE_set h]
    by_cases q : c' = c
    · subst q; rw [if_pos rfl, h]; simp only [hO]
    · rw [if_neg q]
  · funext c'
    show (match (w.set c e')[c']? with | some e => cN e | none => 0) = (match w[c']? with | some e => cN e | none => 0)
    rw [getE_set h]
    by_cases q : c' = c
    · subst q; rw [if_pos rfl, h]; simp only [hN]
    · rw [if_neg q]
  · show (w.set c e').length = w.length
    simp
theorem aw_setO {x : Option Nat} (h : w[c]? = some e) (hI : cI e' = cI e) (hJ : cJ e' = cJ e) (hO : ∀ k', cO e' k' = if k' = k then x else cO e k') (hN : cN e' = cN e) : aw (w.set c e') = uO (aw w) c k x := by
  refine Prod.ext ?_ (Prod.ext ?_ (Prod.ext ?_ (Prod.ext ?_ ?_)))
  · funext c' k'
    show (match (w.set c e')[c']? with | some e => cI e k' | none => 0) = (match w[c']? with | some e => cI e k' | none => 0)
    rw [getE_set h]
    by_cases q : c' = c
    · subst q; rw [if_pos rfl, h]; simp only [hI]
    · rw [if_neg q]
  · funext c' k'
    show (match (w.set c e')[c']? with | some e => cJ e k' | none => 0) = (match w[c']? with | some e => cJ e k' | none => 0)
    rw [getE_set h]
    by_cases q : c' = c
    · subst q; rw [if_pos rfl, h]; simp only [hJ]
    · rw [if_neg q]
  · funext c' k'
    show (match (w.set c e')[c']? with | some e => cO e k' | none => none) = if c' = c ∧ k' = k then x else (match w[c']? with | some e => cO e k' | none => none)
    rw [getE_set h]
    by_cases q : c' = c
    · subst q
      rw [if_pos rfl, h]
      simp only [true_and]
      exact hO k'
    · rw [if_neg q, if_neg (fun hh => q hh.1)]
  · funext c'
    show (match (w.set c e')[c']? with | some e => cN e | none => 0) = (match w[c']? with | some e => cN e | none => 0)
    rw [getE_set h]
    by_cases q : c' = c
    · subst q; rw [if_pos rfl, h]; simp only [hN]
    · rw [if_neg q]
  · show (w.set c e').length = w.length
    simp
end AWS
/-- the spec of a class's field, and that every object keeps it -/
def c_fnd (ci : Nat) : List zS1 → List zSp
  | [] => []
  | s :: S => bif (Nat.beq s.1 0 && Nat.beq s.2.1 ci) then s.2.2.2 else c_fnd ci S
def c_sps (ci : Nat) : List zSp := bif Nat.beq ci 2 then zD.2.1 else c_fnd ci zD.1
def sp_eq (a b : zSp) : Bool := Nat.beq a.1 b.1 && (z_eq a.2.1 b.2.1 && z_eq a.2.2 b.2.2)
def sps_eq : List zSp → List zSp → Bool
  | [], [] => true
  | a :: s, b :: t => sp_eq a b && sps_eq s t
  | _, _ => false
theorem sps_eq_ok : ∀ {s t : List zSp}, sps_eq s t = true → s = t
  | [], [], _ => rfl
  | a :: s, b :: t, h => by
    unfold sps_eq sp_eq at h
    rw [Bool.and_eq_true, Bool.and_eq_true, Bool.and_eq_true, z_eq_iff, z_eq_iff] at h
    obtain ⟨⟨h1, h2, h3⟩, h4⟩ := h
    have e1 : a = b := Prod.ext (Nat.eq_of_beq_eq_true h1) (Prod.ext h2 h3)
    rw [e1, sps_eq_ok h4]
  | [], _ :: _, h => by cases h
  | _ :: _, [], h => by cases h
theorem c_sps_t : zD.1.all (fun s => !(Nat.beq s.1 0) || (!(Nat.beq s.2.1 2) && sps_eq (c_sps s.2.1) s.2.2.2)) = true := by decide +kernel
theorem zD_len : zD.1.length = 129 := by decide +kernel
/-- a field of an object, by its class -/
theorem SH_fld {w : mWd} (hS : SH w) {i ci k : Nat} {fs : List Value} {v : Value} {sp : zSp} (h : w[i]? = some (.inr (ci, fs))) (hk : fs[k]? = some v) (hs : (c_sps ci)[k]? = some sp) : okV w sp v := by
  by_cases hi : i < 129
  · have hlt : i < zD.1.length := by rw [zD_len]; exact hi
    obtain ⟨c, c1, c2⟩ := hS.2.1 i _ (List.getElem?_eq_getElem hlt)
    rw [h] at c1
    cases c1
    have ht := List.all_eq_true.mp c_sps_t _ (List.getElem_mem hlt)
    generalize zD.1[i]'hlt = s at c2 ht
    obtain ⟨t, a, b, sps⟩ := s
    cases t with
    | zero =>
      obtain ⟨fs', f1, f2, f3⟩ := c2
      have ht2 : (!(Nat.beq a 2) && sps_eq (c_sps a) sps) = true := ht
      rw [Bool.and_eq_true] at ht2
      have e1 : ci = a := (Prod.mk.inj (Sum.inr.inj f1)).1
      have e2 : fs = fs' := (Prod.mk.inj (Sum.inr.inj f1)).2
      have e3 := sps_eq_ok ht2.2
      rw [← e1] at e3
      exact f3 k sp v (by show sps[k]? = some sp; rw [← e3]; exact hs) (by rw [← e2]; exact hk)
    | succ t =>
      obtain ⟨-, a', f2, -⟩ := c2
      cases f2
  · rcases hS.2.2 i _ (by omega) h with ⟨fs', f1, f2, f3⟩ | ⟨n, f, f1, -⟩
    · cases f1
      exact f3 k sp v hs hk
    · cases f1
/-- a static array's length, and its kind -/
def z_ln (i : Nat) : Option (Nat × Nat × Nat) := match zD.1[i]? with
  | some (1, t, n, [e]) => some (t, n, e.1)
  | _ => none
theorem z_ln_ok {i t n q : Nat} (h : z_ln i = some (t, n, q)) : ∃ e : zSp, zD.1[i]? = some (1, t, n, [e]) ∧ e.1 = q := by
  unfold z_ln at h
  split at h
  next t' n' e h1 => cases h; exact ⟨e, h1, rfl⟩
  next => cases h
theorem SH_arr {w : mWd} (hS : SH w) {i t n q : Nat} (h : z_ln i = some (t, n, q)) : ∃ (e : zSp) (a : zCt), zD.1[i]? = some (1, t, n, [e]) ∧ e.1 = q ∧ w[i]? = some (.inl (t, n, a)) ∧ shp (.inl (t, n, a)) = (z_kd t, t, n) := by
  obtain ⟨e, h1, h2⟩ := z_ln_ok h
  obtain ⟨a, a1, a2, -⟩ := WI_arr hS h1
  exact ⟨e, a, h1, h2, a1, a2⟩
