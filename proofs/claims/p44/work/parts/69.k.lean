/-! A PAIR BY HAND, IN THE FUNCTIONS ALONE -/
/-- a row is one number all along, at the start -/
def b_c (n c : Nat) (x : Int) (w : mWd) : Bool := match w[c]? with
  | some (.inl (_, _, .inl f)) => (List.range n).all (fun j => z_eq (f j).toInt x)
  | _ => false
theorem b_c_ok {n c : Nat} {x : Int} {w : mWd} (h : b_c n c x w = true) : ∀ j, j < n → ((aw w).1 c j).toInt = x := by
  unfold b_c at h
  split at h
  next t m f h1 =>
    intro j hj
    rw [(aw_at h1).1]
    exact z_eq_iff.mp (List.all_eq_true.mp h j (List.mem_range.mpr hj))
  next => cases h
theorem some_int {x y : Int32} (h : (some (Value.int x) : Option Value) = some (.int y)) : x = y := by
  injection h with h
  injection h
