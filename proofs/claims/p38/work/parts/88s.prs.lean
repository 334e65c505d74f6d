/-! PAIRS FOR WHAT IS PAID -/
/-! houses of films -/
/-! late finds -/
/-! asked; loans ytold -/
/-! advance, settle -/
/-- ya ypair with ya relation that is written, known to yboth runs yas yfar yas it holds -/
theorem pairH {yp : zPr} {yF : zRF} {Ar : zRA} {RX R2 : AW → Prop} {kR : zWr → Bool} {yD yE : List Int32 → AW → Option Value → AW → Prop} (hF : okFs yF = true) (hA : okRs Ar = true) (yhc : c_rm yp = true) (hs : Keeps RX kR) (yq1 : (ri_wr zZ yF Ar (c_get1 yp.1 0 yp.2.2.1).2.2.2 && kR (c_get1 yp.1 0 yp.2.2.1).2.2.2) = true) (yq2 : (ri_wr zZ yF Ar (c_get1 yp.2.1 69 yp.2.2.1).2.2.2 && kR (c_get1 yp.2.1 69 yp.2.2.1).2.2.2) = true)
    (hX : ∀ (N : Nat) (yA : AW) (yas : List Int32), okA yA → eqF yF yA → eqRs Ar yA → RX yA → R2 yA → yas.length = yp.2.2.1 → Pa N yp.1 0 (lv_args 0 (.ref 0 :: yas.map Value.int)) [] yA (yD yas yA))
    (yhM : ∀ (N : Nat) (yA A1 : AW) (yas : List Int32) (yx : Int32), okA yA → eqF yF yA → eqRs Ar yA → RX yA → R2 yA → okA A1 → yas.length = yp.2.2.1 → yD yas yA (some (.int yx)) A1 → Pa N yp.2.1 0 (lv_args 0 (.ref 69 :: yas.map Value.int)) [] A1 (yE yas yA))
    (yhK : ∀ (yA A1 A2 : AW) (yas : List Int32) (yx yy : Int32), okA yA → eqF yF yA → eqRs Ar yA → RX yA → R2 yA → yas.length = yp.2.2.1 → yD yas yA (some (.int yx)) A1 → yE yas yA (some (.int yy)) A2 → R2 A2 ∧ (yp.2.2.2.1 = true → yx = yy)) : PairOK (RR yF Ar (fun yA => RX yA ∧ R2 yA)) yp := by
  intro yL xs yd yhd yw yas hW hk hR hl
  unfold c_rm at yhc
  rw [Bool.and_eq_true, Bool.and_eq_true, Bool.and_eq_true] at yhc
  have yb := l_cl (L := yL) (xs := xs) (c_is_ok yhc.1.1) hW hk hl yhd
  have hR0 : RR yF Ar RX yw := ⟨hR.1, hR.2.1⟩
  have hq := (RI_ofA hW hF hA).mp hR0.1
  refine (yb.pa (fun N => hX N (aw yw) yas ⟨yw, hW, rfl⟩ hq.1 hq.2 hR0.2 hR.2.2 hl) (SH_of hW)).mono (fun yv yw1 hv => ?_)
  obtain ⟨⟨yx, rfl, ye2, ye3, ye4, ye5, ye6, ye7, e8⟩, ys1⟩ := hv
  refine ⟨ye4, ?_⟩
  have hR1 : RR yF Ar RX yw1 := kpRR hs _ yw yw1 hW hR0 ye4 e8 yq1
  have b2 := l_cl (L := yL) (xs := xs) (c_is_ok yhc.1.2) ye4 ye5 hl yhd
  refine (b2.pa (fun N => yhM N (aw yw) (aw yw1) yas yx ⟨yw, hW, rfl⟩ hq.1 hq.2 hR0.2 hR.2.2 ⟨yw1, ye4, rfl⟩ hl ys1) (SH_of ye4)).mono (fun v2 yw2 hv2 => ?_)
  obtain ⟨⟨yy, rfl, yf2, yf3, yf4, yf5, yf6, yf7, yf8⟩, ys2⟩ := hv2
  have hR2 : RR yF Ar RX yw2 := kpRR hs _ yw1 yw2 ye4 hR1 yf4 yf8 yq2
  have yha := Nat.le_of_ble_eq_true yhc.2.1
  have yhb := Nat.le_of_ble_eq_true yhc.2.2
  obtain ⟨g1, g2⟩ := yhK (aw yw) (aw yw1) (aw yw2) yas yx yy ⟨yw, hW, rfl⟩ hq.1 hq.2 hR0.2 hR.2.2 hl ys1 ys2
  exact ⟨⟨yx, yy, rfl, rfl, g2⟩, yf4, yf5, ⟨hR2.1, hR2.2, g1⟩, by omega, by omega⟩
