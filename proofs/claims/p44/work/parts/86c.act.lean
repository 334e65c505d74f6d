/-! ACT and TRACE: the pairs -/
theorem cby_kof {yA yB : AW} {yr : Nat} {yc yk : Int32} (yh : rowR yA yr yc.toInt.toNat) (h1 : ∀ yj, yB.1 91 yj = yA.1 91 yj) (h2 : ∀ yj, yB.1 92 yj = yA.1 92 yj) (h3 : ∀ yj, yB.1 93 yj = yA.1 93 yj) : cbyX yA yr yk = kofM yB yc yk := by
  obtain ⟨z0, z1, z2, z3, z4, z5, z6, z7, z8, z9, z10, z11, z12, yz13, yz14⟩ := yh
  unfold cbyX kofM
  rw [z2, z11, z12, h1, h2, h3]
