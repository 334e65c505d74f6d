/-! lists of arguments -/
theorem as1 {as : List Int32} (h : as.length = 1) : ∃ a, as = [a] := by
  match as, h with
  | [a], _ => exact ⟨a, rfl⟩
theorem as2 {as : List Int32} (h : as.length = 2) : ∃ a b, as = [a, b] := by
  match as, h with
  | [a, b], _ => exact ⟨a, b, rfl⟩
theorem as3 {as : List Int32} (h : as.length = 3) : ∃ a b c, as = [a, b, c] := by
  match as, h with
  | [a, b, c], _ => exact ⟨a, b, c, rfl⟩
theorem as4 {as : List Int32} (h : as.length = 4) : ∃ a b c d, as = [a, b, c, d] := by
  match as, h with
  | [a, b, c, d], _ => exact ⟨a, b, c, d, rfl⟩
def on1 (D : Int32 → AW → Option Value → AW → Prop) (as : List Int32) : AW → Option Value → AW → Prop := match as with
  | [a] => D a
  | _ => fun _ _ _ => False
def on2 (D : Int32 → Int32 → AW → Option Value → AW → Prop) (as : List Int32) : AW → Option Value → AW → Prop := match as with
  | [a, b] => D a b
  | _ => fun _ _ _ => False
def on3 (D : Int32 → Int32 → Int32 → AW → Option Value → AW → Prop) (as : List Int32) : AW → Option Value → AW → Prop := match as with
  | [a, b, c] => D a b c
  | _ => fun _ _ _ => False
def on4 (D : Int32 → Int32 → Int32 → Int32 → AW → Option Value → AW → Prop) (as : List Int32) : AW → Option Value → AW → Prop := match as with
  | [a, b, c, d] => D a b c d
  | _ => fun _ _ _ => False
theorem uI_at {A : AW} {c k : Nat} {x : Int32} {c' k' : Nat} : (uI A c k x).1 c' k' = if c' = c ∧ k' = k then x else A.1 c' k' := rfl
theorem i32_add1 {x : Int32} (h : x.toInt < 2147483647) : (x + 1).toInt = x.toInt + 1 := by
  rw [Int32.toInt_add, show (1 : Int32).toInt = 1 from rfl]
  exact z_bm0 ⟨by have := (i32_b x).1; show (-2147483648 : Int) ≤ _; omega, by show _ ≤ (2147483647 : Int); omega⟩
