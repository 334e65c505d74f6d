/-! SMALL LEMMAS OF LOOPS -/
theorem on_succ (n : Nat) : Int32.ofNat (n + 1) = Int32.ofNat n + 1 := by
  apply Int32.toBitVec_inj.mp
  rw [Int32.toBitVec_add]
  apply BitVec.eq_of_toNat_eq
  rw [BitVec.toNat_add]
  show (BitVec.ofNat 32 (n + 1)).toNat = ((BitVec.ofNat 32 n).toNat + 1) % 2 ^ 32
  rw [BitVec.toNat_ofNat, BitVec.toNat_ofNat]
  omega
theorem i32_b (x : Int32) : -2147483648 ≤ x.toInt ∧ x.toInt ≤ 2147483647 := ⟨(i32_rg x).1, (i32_rg x).2⟩
theorem on_nat {n : Nat} {T : Int32} (h : n ≤ T.toInt.toNat) : (Int32.ofNat n).toInt = n := i32_nat (by have := (i32_b T).2; omega)
theorem i32_ext {x y : Int32} (h : x.toInt = y.toInt) : x = y := Int32.toInt_inj.mp h
/-- a sum over the first n -/
def sumN (f : Nat → Int32) : Nat → Int32
  | 0 => 0
  | n + 1 => sumN f n + f n
theorem sumN_congr {f g : Nat → Int32} : ∀ {n : Nat}, (∀ j, j < n → f j = g j) → sumN f n = sumN g n
  | 0, _ => rfl
  | n + 1, h => by
    unfold sumN
    rw [sumN_congr (fun j hj => h j (by omega)), h n (by omega)]
theorem Pa.cg {N mid pc : Nat} {l l' : mL} {st : List Value} {A A' : AW} {Q : Option Value → AW → Prop} (h : Pa N mid pc l st A Q) (hl : l = l') (hA : A = A') : Pa N mid pc l' st A' Q := by subst hl hA; exact h
