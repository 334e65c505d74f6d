/-! what a program decides of the tables: each row is held by the Statement's words and bytes -/
theorem fu_cons {l : List UInt8} {p : Nat} {x : UInt8} {r : List UInt8} (h : l.drop p = x :: r) : l[p]? = some x ∧ l.drop (p + 1) = r := by
  refine ⟨?_, ?_⟩
  · have := congrArg (fun q => q[0]?) h
    simpa using this
  · have e : l.drop (p + 1) = (l.drop p).drop 1 := by rw [List.drop_drop]
    rw [e, h]; rfl
abbrev fRs : Type := Except Jvm.ClassFile.DecodeError (Nat × Nat)
abbrev fDc (α : Type) : Type := Jvm.ClassFile.Decoder α
theorem fu1 {b : ByteArray} {p : Nat} {x : UInt8} {r : List UInt8} (h : b.data.toList.drop p = x :: r) : (Jvm.ClassFile.Reader.u1 : fDc Nat) b p = .ok (x.toNat, p + 1) := by
  have h1 := (fu_cons h).1
  obtain ⟨h2, h3⟩ := List.getElem?_eq_some_iff.mp h1
  have h4 : p < b.size := h2
  have e : (Jvm.ClassFile.Reader.u1 : fDc Nat) b p = (if h : p < b.size then (Except.ok (b[p].toNat, p + 1) : fRs) else Except.error (.truncated p)) := by
    unfold Jvm.ClassFile.Reader.u1
    by_cases q : p < b.size
    · rw [dif_pos q]
      show ((if h : p < b.size then _ else _ : fDc Nat) b p) = _
      rw [dif_pos q]
      rfl
    · exact absurd h4 q
  rw [e, dif_pos h4]
  rw [show b[p] = x from h3]
theorem fdc {b : ByteArray} {p n : Nat} {i : Instr} (h : (Jvm.ClassFile.Decoder.instr p) b p = .ok (i, n)) : decode b p = .ok (i, n - p) := by
  have e : decode b p = Except.bind ((Jvm.ClassFile.Decoder.instr p) b p) (fun q => Except.ok (q.1, q.2 - p)) := rfl
  rw [e, h]; rfl
theorem fbind {α β : Type} {m : fDc β} {f : β → fDc α} {b : ByteArray} {p n : Nat} {c : β} (h : m b p = .ok (c, n)) : (m >>= f) b p = f c b n := by
  have e : (m >>= f) b p = Except.bind (m b p) (fun q => f q.1 b q.2) := rfl
  rw [e, h]; rfl
theorem fu2 {b : ByteArray} {p : Nat} {x y : UInt8} {r : List UInt8} (h : b.data.toList.drop p = x :: y :: r) : (Jvm.ClassFile.Reader.u2 : fDc Nat) b p = .ok (x.toNat * 256 + y.toNat, p + 2) := by
  unfold Jvm.ClassFile.Reader.u2
  rw [fbind (fu1 h), fbind (fu1 (fu_cons h).2)]
  rfl
theorem fs1 {b : ByteArray} {p : Nat} {x : UInt8} {r : List UInt8} (h : b.data.toList.drop p = x :: r) : (Jvm.ClassFile.Reader.s1 : fDc Int) b p = .ok (Jvm.ClassFile.Reader.signed 8 x.toNat, p + 1) := by
  have e : (Jvm.ClassFile.Reader.s1 : fDc Int) b p = Except.bind ((Jvm.ClassFile.Reader.u1 : fDc Nat) b p) (fun q => Except.ok (Jvm.ClassFile.Reader.signed 8 q.1, q.2)) := rfl
  rw [e, fu1 h]; rfl
theorem fs2 {b : ByteArray} {p : Nat} {x y : UInt8} {r : List UInt8} (h : b.data.toList.drop p = x :: y :: r) : (Jvm.ClassFile.Reader.s2 : fDc Int) b p = .ok (Jvm.ClassFile.Reader.signed 16 (x.toNat * 256 + y.toNat), p + 2) := by
  have e : (Jvm.ClassFile.Reader.s2 : fDc Int) b p = Except.bind ((Jvm.ClassFile.Reader.u2 : fDc Nat) b p) (fun q => Except.ok (Jvm.ClassFile.Reader.signed 16 q.1, q.2)) := rfl
  rw [e, fu2 h]; rfl
set_option maxRecDepth 20000 in
theorem fd_1 {b : ByteArray} {p : Nat} {x : UInt8} {r : List UInt8} (h : b.data.toList.drop p = x :: r) (hx : x.toNat = 1) : decode b p = .ok (.aconst_null, 1) := by
  have h1 := fu1 h
  rw [hx] at h1
  have h2 : (Jvm.ClassFile.Decoder.instr p) b p = .ok (.aconst_null, p + 1) := fbind (α := Instr) h1
  have h3 := fdc h2
  rwa [show p + 1 - p = 1 by omega] at h3
set_option maxRecDepth 20000 in
theorem fd_46 {b : ByteArray} {p : Nat} {x : UInt8} {r : List UInt8} (h : b.data.toList.drop p = x :: r) (hx : x.toNat = 46) : decode b p = .ok (.iaload, 1) := by
  have h1 := fu1 h
  rw [hx] at h1
  have h2 : (Jvm.ClassFile.Decoder.instr p) b p = .ok (.iaload, p + 1) := fbind (α := Instr) h1
  have h3 := fdc h2
  rwa [show p + 1 - p = 1 by omega] at h3
set_option maxRecDepth 20000 in
theorem fd_47 {b : ByteArray} {p : Nat} {x : UInt8} {r : List UInt8} (h : b.data.toList.drop p = x :: r) (hx : x.toNat = 47) : decode b p = .ok (.laload, 1) := by
  have h1 := fu1 h
  rw [hx] at h1
  have h2 : (Jvm.ClassFile.Decoder.instr p) b p = .ok (.laload, p + 1) := fbind (α := Instr) h1
  have h3 := fdc h2
  rwa [show p + 1 - p = 1 by omega] at h3
set_option maxRecDepth 20000 in
theorem fd_50 {b : ByteArray} {p : Nat} {x : UInt8} {r : List UInt8} (h : b.data.toList.drop p = x :: r) (hx : x.toNat = 50) : decode b p = .ok (.aaload, 1) := by
  have h1 := fu1 h
  rw [hx] at h1
  have h2 : (Jvm.ClassFile.Decoder.instr p) b p = .ok (.aaload, p + 1) := fbind (α := Instr) h1
  have h3 := fdc h2
  rwa [show p + 1 - p = 1 by omega] at h3
set_option maxRecDepth 20000 in
theorem fd_51 {b : ByteArray} {p : Nat} {x : UInt8} {r : List UInt8} (h : b.data.toList.drop p = x :: r) (hx : x.toNat = 51) : decode b p = .ok (.baload, 1) := by
  have h1 := fu1 h
  rw [hx] at h1
  have h2 : (Jvm.ClassFile.Decoder.instr p) b p = .ok (.baload, p + 1) := fbind (α := Instr) h1
  have h3 := fdc h2
  rwa [show p + 1 - p = 1 by omega] at h3
set_option maxRecDepth 20000 in
theorem fd_79 {b : ByteArray} {p : Nat} {x : UInt8} {r : List UInt8} (h : b.data.toList.drop p = x :: r) (hx : x.toNat = 79) : decode b p = .ok (.iastore, 1) := by
  have h1 := fu1 h
  rw [hx] at h1
  have h2 : (Jvm.ClassFile.Decoder.instr p) b p = .ok (.iastore, p + 1) := fbind (α := Instr) h1
  have h3 := fdc h2
  rwa [show p + 1 - p = 1 by omega] at h3
set_option maxRecDepth 20000 in
theorem fd_80 {b : ByteArray} {p : Nat} {x : UInt8} {r : List UInt8} (h : b.data.toList.drop p = x :: r) (hx : x.toNat = 80) : decode b p = .ok (.lastore, 1) := by
  have h1 := fu1 h
  rw [hx] at h1
  have h2 : (Jvm.ClassFile.Decoder.instr p) b p = .ok (.lastore, p + 1) := fbind (α := Instr) h1
  have h3 := fdc h2
  rwa [show p + 1 - p = 1 by omega] at h3
set_option maxRecDepth 20000 in
theorem fd_83 {b : ByteArray} {p : Nat} {x : UInt8} {r : List UInt8} (h : b.data.toList.drop p = x :: r) (hx : x.toNat = 83) : decode b p = .ok (.aastore, 1) := by
  have h1 := fu1 h
  rw [hx] at h1
  have h2 : (Jvm.ClassFile.Decoder.instr p) b p = .ok (.aastore, p + 1) := fbind (α := Instr) h1
  have h3 := fdc h2
  rwa [show p + 1 - p = 1 by omega] at h3
set_option maxRecDepth 20000 in
theorem fd_84 {b : ByteArray} {p : Nat} {x : UInt8} {r : List UInt8} (h : b.data.toList.drop p = x :: r) (hx : x.toNat = 84) : decode b p = .ok (.bastore, 1) := by
  have h1 := fu1 h
  rw [hx] at h1
  have h2 : (Jvm.ClassFile.Decoder.instr p) b p = .ok (.bastore, p + 1) := fbind (α := Instr) h1
  have h3 := fdc h2
  rwa [show p + 1 - p = 1 by omega] at h3
set_option maxRecDepth 20000 in
theorem fd_87 {b : ByteArray} {p : Nat} {x : UInt8} {r : List UInt8} (h : b.data.toList.drop p = x :: r) (hx : x.toNat = 87) : decode b p = .ok (.pop, 1) := by
  have h1 := fu1 h
  rw [hx] at h1
  have h2 : (Jvm.ClassFile.Decoder.instr p) b p = .ok (.pop, p + 1) := fbind (α := Instr) h1
  have h3 := fdc h2
  rwa [show p + 1 - p = 1 by omega] at h3
set_option maxRecDepth 20000 in
theorem fd_88 {b : ByteArray} {p : Nat} {x : UInt8} {r : List UInt8} (h : b.data.toList.drop p = x :: r) (hx : x.toNat = 88) : decode b p = .ok (.pop2, 1) := by
  have h1 := fu1 h
  rw [hx] at h1
  have h2 : (Jvm.ClassFile.Decoder.instr p) b p = .ok (.pop2, p + 1) := fbind (α := Instr) h1
  have h3 := fdc h2
  rwa [show p + 1 - p = 1 by omega] at h3
set_option maxRecDepth 20000 in
theorem fd_89 {b : ByteArray} {p : Nat} {x : UInt8} {r : List UInt8} (h : b.data.toList.drop p = x :: r) (hx : x.toNat = 89) : decode b p = .ok (.dup, 1) := by
  have h1 := fu1 h
  rw [hx] at h1
  have h2 : (Jvm.ClassFile.Decoder.instr p) b p = .ok (.dup, p + 1) := fbind (α := Instr) h1
  have h3 := fdc h2
  rwa [show p + 1 - p = 1 by omega] at h3
set_option maxRecDepth 20000 in
theorem fd_90 {b : ByteArray} {p : Nat} {x : UInt8} {r : List UInt8} (h : b.data.toList.drop p = x :: r) (hx : x.toNat = 90) : decode b p = .ok (.dup_x1, 1) := by
  have h1 := fu1 h
  rw [hx] at h1
  have h2 : (Jvm.ClassFile.Decoder.instr p) b p = .ok (.dup_x1, p + 1) := fbind (α := Instr) h1
  have h3 := fdc h2
  rwa [show p + 1 - p = 1 by omega] at h3
set_option maxRecDepth 20000 in
theorem fd_91 {b : ByteArray} {p : Nat} {x : UInt8} {r : List UInt8} (h : b.data.toList.drop p = x :: r) (hx : x.toNat = 91) : decode b p = .ok (.dup_x2, 1) := by
  have h1 := fu1 h
  rw [hx] at h1
  have h2 : (Jvm.ClassFile.Decoder.instr p) b p = .ok (.dup_x2, p + 1) := fbind (α := Instr) h1
  have h3 := fdc h2
  rwa [show p + 1 - p = 1 by omega] at h3
set_option maxRecDepth 20000 in
theorem fd_92 {b : ByteArray} {p : Nat} {x : UInt8} {r : List UInt8} (h : b.data.toList.drop p = x :: r) (hx : x.toNat = 92) : decode b p = .ok (.dup2, 1) := by
  have h1 := fu1 h
  rw [hx] at h1
  have h2 : (Jvm.ClassFile.Decoder.instr p) b p = .ok (.dup2, p + 1) := fbind (α := Instr) h1
  have h3 := fdc h2
  rwa [show p + 1 - p = 1 by omega] at h3
set_option maxRecDepth 20000 in
theorem fd_96 {b : ByteArray} {p : Nat} {x : UInt8} {r : List UInt8} (h : b.data.toList.drop p = x :: r) (hx : x.toNat = 96) : decode b p = .ok (.iadd, 1) := by
  have h1 := fu1 h
  rw [hx] at h1
  have h2 : (Jvm.ClassFile.Decoder.instr p) b p = .ok (.iadd, p + 1) := fbind (α := Instr) h1
  have h3 := fdc h2
  rwa [show p + 1 - p = 1 by omega] at h3
set_option maxRecDepth 20000 in
theorem fd_97 {b : ByteArray} {p : Nat} {x : UInt8} {r : List UInt8} (h : b.data.toList.drop p = x :: r) (hx : x.toNat = 97) : decode b p = .ok (.ladd, 1) := by
  have h1 := fu1 h
  rw [hx] at h1
  have h2 : (Jvm.ClassFile.Decoder.instr p) b p = .ok (.ladd, p + 1) := fbind (α := Instr) h1
  have h3 := fdc h2
  rwa [show p + 1 - p = 1 by omega] at h3
set_option maxRecDepth 20000 in
theorem fd_100 {b : ByteArray} {p : Nat} {x : UInt8} {r : List UInt8} (h : b.data.toList.drop p = x :: r) (hx : x.toNat = 100) : decode b p = .ok (.isub, 1) := by
  have h1 := fu1 h
  rw [hx] at h1
  have h2 : (Jvm.ClassFile.Decoder.instr p) b p = .ok (.isub, p + 1) := fbind (α := Instr) h1
  have h3 := fdc h2
  rwa [show p + 1 - p = 1 by omega] at h3
set_option maxRecDepth 20000 in
theorem fd_101 {b : ByteArray} {p : Nat} {x : UInt8} {r : List UInt8} (h : b.data.toList.drop p = x :: r) (hx : x.toNat = 101) : decode b p = .ok (.lsub, 1) := by
  have h1 := fu1 h
  rw [hx] at h1
  have h2 : (Jvm.ClassFile.Decoder.instr p) b p = .ok (.lsub, p + 1) := fbind (α := Instr) h1
  have h3 := fdc h2
  rwa [show p + 1 - p = 1 by omega] at h3
set_option maxRecDepth 20000 in
theorem fd_104 {b : ByteArray} {p : Nat} {x : UInt8} {r : List UInt8} (h : b.data.toList.drop p = x :: r) (hx : x.toNat = 104) : decode b p = .ok (.imul, 1) := by
  have h1 := fu1 h
  rw [hx] at h1
  have h2 : (Jvm.ClassFile.Decoder.instr p) b p = .ok (.imul, p + 1) := fbind (α := Instr) h1
  have h3 := fdc h2
  rwa [show p + 1 - p = 1 by omega] at h3
set_option maxRecDepth 20000 in
theorem fd_105 {b : ByteArray} {p : Nat} {x : UInt8} {r : List UInt8} (h : b.data.toList.drop p = x :: r) (hx : x.toNat = 105) : decode b p = .ok (.lmul, 1) := by
  have h1 := fu1 h
  rw [hx] at h1
  have h2 : (Jvm.ClassFile.Decoder.instr p) b p = .ok (.lmul, p + 1) := fbind (α := Instr) h1
  have h3 := fdc h2
  rwa [show p + 1 - p = 1 by omega] at h3
set_option maxRecDepth 20000 in
theorem fd_108 {b : ByteArray} {p : Nat} {x : UInt8} {r : List UInt8} (h : b.data.toList.drop p = x :: r) (hx : x.toNat = 108) : decode b p = .ok (.idiv, 1) := by
  have h1 := fu1 h
  rw [hx] at h1
  have h2 : (Jvm.ClassFile.Decoder.instr p) b p = .ok (.idiv, p + 1) := fbind (α := Instr) h1
  have h3 := fdc h2
  rwa [show p + 1 - p = 1 by omega] at h3
set_option maxRecDepth 20000 in
theorem fd_109 {b : ByteArray} {p : Nat} {x : UInt8} {r : List UInt8} (h : b.data.toList.drop p = x :: r) (hx : x.toNat = 109) : decode b p = .ok (.ldiv, 1) := by
  have h1 := fu1 h
  rw [hx] at h1
  have h2 : (Jvm.ClassFile.Decoder.instr p) b p = .ok (.ldiv, p + 1) := fbind (α := Instr) h1
  have h3 := fdc h2
  rwa [show p + 1 - p = 1 by omega] at h3
set_option maxRecDepth 20000 in
theorem fd_112 {b : ByteArray} {p : Nat} {x : UInt8} {r : List UInt8} (h : b.data.toList.drop p = x :: r) (hx : x.toNat = 112) : decode b p = .ok (.irem, 1) := by
  have h1 := fu1 h
  rw [hx] at h1
  have h2 : (Jvm.ClassFile.Decoder.instr p) b p = .ok (.irem, p + 1) := fbind (α := Instr) h1
  have h3 := fdc h2
  rwa [show p + 1 - p = 1 by omega] at h3
set_option maxRecDepth 20000 in
theorem fd_113 {b : ByteArray} {p : Nat} {x : UInt8} {r : List UInt8} (h : b.data.toList.drop p = x :: r) (hx : x.toNat = 113) : decode b p = .ok (.lrem, 1) := by
  have h1 := fu1 h
  rw [hx] at h1
  have h2 : (Jvm.ClassFile.Decoder.instr p) b p = .ok (.lrem, p + 1) := fbind (α := Instr) h1
  have h3 := fdc h2
  rwa [show p + 1 - p = 1 by omega] at h3
set_option maxRecDepth 20000 in
theorem fd_116 {b : ByteArray} {p : Nat} {x : UInt8} {r : List UInt8} (h : b.data.toList.drop p = x :: r) (hx : x.toNat = 116) : decode b p = .ok (.ineg, 1) := by
  have h1 := fu1 h
  rw [hx] at h1
  have h2 : (Jvm.ClassFile.Decoder.instr p) b p = .ok (.ineg, p + 1) := fbind (α := Instr) h1
  have h3 := fdc h2
  rwa [show p + 1 - p = 1 by omega] at h3
set_option maxRecDepth 20000 in
theorem fd_117 {b : ByteArray} {p : Nat} {x : UInt8} {r : List UInt8} (h : b.data.toList.drop p = x :: r) (hx : x.toNat = 117) : decode b p = .ok (.lneg, 1) := by
  have h1 := fu1 h
  rw [hx] at h1
  have h2 : (Jvm.ClassFile.Decoder.instr p) b p = .ok (.lneg, p + 1) := fbind (α := Instr) h1
  have h3 := fdc h2
  rwa [show p + 1 - p = 1 by omega] at h3
set_option maxRecDepth 20000 in
theorem fd_120 {b : ByteArray} {p : Nat} {x : UInt8} {r : List UInt8} (h : b.data.toList.drop p = x :: r) (hx : x.toNat = 120) : decode b p = .ok (.ishl, 1) := by
  have h1 := fu1 h
  rw [hx] at h1
  have h2 : (Jvm.ClassFile.Decoder.instr p) b p = .ok (.ishl, p + 1) := fbind (α := Instr) h1
  have h3 := fdc h2
  rwa [show p + 1 - p = 1 by omega] at h3
set_option maxRecDepth 20000 in
theorem fd_122 {b : ByteArray} {p : Nat} {x : UInt8} {r : List UInt8} (h : b.data.toList.drop p = x :: r) (hx : x.toNat = 122) : decode b p = .ok (.ishr, 1) := by
  have h1 := fu1 h
  rw [hx] at h1
  have h2 : (Jvm.ClassFile.Decoder.instr p) b p = .ok (.ishr, p + 1) := fbind (α := Instr) h1
  have h3 := fdc h2
  rwa [show p + 1 - p = 1 by omega] at h3
set_option maxRecDepth 20000 in
theorem fd_124 {b : ByteArray} {p : Nat} {x : UInt8} {r : List UInt8} (h : b.data.toList.drop p = x :: r) (hx : x.toNat = 124) : decode b p = .ok (.iushr, 1) := by
  have h1 := fu1 h
  rw [hx] at h1
  have h2 : (Jvm.ClassFile.Decoder.instr p) b p = .ok (.iushr, p + 1) := fbind (α := Instr) h1
  have h3 := fdc h2
  rwa [show p + 1 - p = 1 by omega] at h3
set_option maxRecDepth 20000 in
theorem fd_126 {b : ByteArray} {p : Nat} {x : UInt8} {r : List UInt8} (h : b.data.toList.drop p = x :: r) (hx : x.toNat = 126) : decode b p = .ok (.iand, 1) := by
  have h1 := fu1 h
  rw [hx] at h1
  have h2 : (Jvm.ClassFile.Decoder.instr p) b p = .ok (.iand, p + 1) := fbind (α := Instr) h1
  have h3 := fdc h2
  rwa [show p + 1 - p = 1 by omega] at h3
set_option maxRecDepth 20000 in
theorem fd_127 {b : ByteArray} {p : Nat} {x : UInt8} {r : List UInt8} (h : b.data.toList.drop p = x :: r) (hx : x.toNat = 127) : decode b p = .ok (.land, 1) := by
  have h1 := fu1 h
  rw [hx] at h1
  have h2 : (Jvm.ClassFile.Decoder.instr p) b p = .ok (.land, p + 1) := fbind (α := Instr) h1
  have h3 := fdc h2
  rwa [show p + 1 - p = 1 by omega] at h3
set_option maxRecDepth 20000 in
theorem fd_128 {b : ByteArray} {p : Nat} {x : UInt8} {r : List UInt8} (h : b.data.toList.drop p = x :: r) (hx : x.toNat = 128) : decode b p = .ok (.ior, 1) := by
  have h1 := fu1 h
  rw [hx] at h1
  have h2 : (Jvm.ClassFile.Decoder.instr p) b p = .ok (.ior, p + 1) := fbind (α := Instr) h1
  have h3 := fdc h2
  rwa [show p + 1 - p = 1 by omega] at h3
set_option maxRecDepth 20000 in
theorem fd_129 {b : ByteArray} {p : Nat} {x : UInt8} {r : List UInt8} (h : b.data.toList.drop p = x :: r) (hx : x.toNat = 129) : decode b p = .ok (.lor, 1) := by
  have h1 := fu1 h
  rw [hx] at h1
  have h2 : (Jvm.ClassFile.Decoder.instr p) b p = .ok (.lor, p + 1) := fbind (α := Instr) h1
  have h3 := fdc h2
  rwa [show p + 1 - p = 1 by omega] at h3
set_option maxRecDepth 20000 in
theorem fd_130 {b : ByteArray} {p : Nat} {x : UInt8} {r : List UInt8} (h : b.data.toList.drop p = x :: r) (hx : x.toNat = 130) : decode b p = .ok (.ixor, 1) := by
  have h1 := fu1 h
  rw [hx] at h1
  have h2 : (Jvm.ClassFile.Decoder.instr p) b p = .ok (.ixor, p + 1) := fbind (α := Instr) h1
  have h3 := fdc h2
  rwa [show p + 1 - p = 1 by omega] at h3
set_option maxRecDepth 20000 in
theorem fd_131 {b : ByteArray} {p : Nat} {x : UInt8} {r : List UInt8} (h : b.data.toList.drop p = x :: r) (hx : x.toNat = 131) : decode b p = .ok (.lxor, 1) := by
  have h1 := fu1 h
  rw [hx] at h1
  have h2 : (Jvm.ClassFile.Decoder.instr p) b p = .ok (.lxor, p + 1) := fbind (α := Instr) h1
  have h3 := fdc h2
  rwa [show p + 1 - p = 1 by omega] at h3
set_option maxRecDepth 20000 in
theorem fd_133 {b : ByteArray} {p : Nat} {x : UInt8} {r : List UInt8} (h : b.data.toList.drop p = x :: r) (hx : x.toNat = 133) : decode b p = .ok (.i2l, 1) := by
  have h1 := fu1 h
  rw [hx] at h1
  have h2 : (Jvm.ClassFile.Decoder.instr p) b p = .ok (.i2l, p + 1) := fbind (α := Instr) h1
  have h3 := fdc h2
  rwa [show p + 1 - p = 1 by omega] at h3
set_option maxRecDepth 20000 in
theorem fd_136 {b : ByteArray} {p : Nat} {x : UInt8} {r : List UInt8} (h : b.data.toList.drop p = x :: r) (hx : x.toNat = 136) : decode b p = .ok (.l2i, 1) := by
  have h1 := fu1 h
  rw [hx] at h1
  have h2 : (Jvm.ClassFile.Decoder.instr p) b p = .ok (.l2i, p + 1) := fbind (α := Instr) h1
  have h3 := fdc h2
  rwa [show p + 1 - p = 1 by omega] at h3
set_option maxRecDepth 20000 in
theorem fd_145 {b : ByteArray} {p : Nat} {x : UInt8} {r : List UInt8} (h : b.data.toList.drop p = x :: r) (hx : x.toNat = 145) : decode b p = .ok (.i2b, 1) := by
  have h1 := fu1 h
  rw [hx] at h1
  have h2 : (Jvm.ClassFile.Decoder.instr p) b p = .ok (.i2b, p + 1) := fbind (α := Instr) h1
  have h3 := fdc h2
  rwa [show p + 1 - p = 1 by omega] at h3
set_option maxRecDepth 20000 in
theorem fd_146 {b : ByteArray} {p : Nat} {x : UInt8} {r : List UInt8} (h : b.data.toList.drop p = x :: r) (hx : x.toNat = 146) : decode b p = .ok (.i2c, 1) := by
  have h1 := fu1 h
  rw [hx] at h1
  have h2 : (Jvm.ClassFile.Decoder.instr p) b p = .ok (.i2c, p + 1) := fbind (α := Instr) h1
  have h3 := fdc h2
  rwa [show p + 1 - p = 1 by omega] at h3
set_option maxRecDepth 20000 in
theorem fd_147 {b : ByteArray} {p : Nat} {x : UInt8} {r : List UInt8} (h : b.data.toList.drop p = x :: r) (hx : x.toNat = 147) : decode b p = .ok (.i2s, 1) := by
  have h1 := fu1 h
  rw [hx] at h1
  have h2 : (Jvm.ClassFile.Decoder.instr p) b p = .ok (.i2s, p + 1) := fbind (α := Instr) h1
  have h3 := fdc h2
  rwa [show p + 1 - p = 1 by omega] at h3
set_option maxRecDepth 20000 in
theorem fd_148 {b : ByteArray} {p : Nat} {x : UInt8} {r : List UInt8} (h : b.data.toList.drop p = x :: r) (hx : x.toNat = 148) : decode b p = .ok (.lcmp, 1) := by
  have h1 := fu1 h
  rw [hx] at h1
  have h2 : (Jvm.ClassFile.Decoder.instr p) b p = .ok (.lcmp, p + 1) := fbind (α := Instr) h1
  have h3 := fdc h2
  rwa [show p + 1 - p = 1 by omega] at h3
set_option maxRecDepth 20000 in
theorem fd_172 {b : ByteArray} {p : Nat} {x : UInt8} {r : List UInt8} (h : b.data.toList.drop p = x :: r) (hx : x.toNat = 172) : decode b p = .ok (.ireturn, 1) := by
  have h1 := fu1 h
  rw [hx] at h1
  have h2 : (Jvm.ClassFile.Decoder.instr p) b p = .ok (.ireturn, p + 1) := fbind (α := Instr) h1
  have h3 := fdc h2
  rwa [show p + 1 - p = 1 by omega] at h3
set_option maxRecDepth 20000 in
theorem fd_173 {b : ByteArray} {p : Nat} {x : UInt8} {r : List UInt8} (h : b.data.toList.drop p = x :: r) (hx : x.toNat = 173) : decode b p = .ok (.lreturn, 1) := by
  have h1 := fu1 h
  rw [hx] at h1
  have h2 : (Jvm.ClassFile.Decoder.instr p) b p = .ok (.lreturn, p + 1) := fbind (α := Instr) h1
  have h3 := fdc h2
  rwa [show p + 1 - p = 1 by omega] at h3
set_option maxRecDepth 20000 in
theorem fd_176 {b : ByteArray} {p : Nat} {x : UInt8} {r : List UInt8} (h : b.data.toList.drop p = x :: r) (hx : x.toNat = 176) : decode b p = .ok (.areturn, 1) := by
  have h1 := fu1 h
  rw [hx] at h1
  have h2 : (Jvm.ClassFile.Decoder.instr p) b p = .ok (.areturn, p + 1) := fbind (α := Instr) h1
  have h3 := fdc h2
  rwa [show p + 1 - p = 1 by omega] at h3
set_option maxRecDepth 20000 in
theorem fd_177 {b : ByteArray} {p : Nat} {x : UInt8} {r : List UInt8} (h : b.data.toList.drop p = x :: r) (hx : x.toNat = 177) : decode b p = .ok (.return_, 1) := by
  have h1 := fu1 h
  rw [hx] at h1
  have h2 : (Jvm.ClassFile.Decoder.instr p) b p = .ok (.return_, p + 1) := fbind (α := Instr) h1
  have h3 := fdc h2
  rwa [show p + 1 - p = 1 by omega] at h3
set_option maxRecDepth 20000 in
theorem fd_190 {b : ByteArray} {p : Nat} {x : UInt8} {r : List UInt8} (h : b.data.toList.drop p = x :: r) (hx : x.toNat = 190) : decode b p = .ok (.arraylength, 1) := by
  have h1 := fu1 h
  rw [hx] at h1
  have h2 : (Jvm.ClassFile.Decoder.instr p) b p = .ok (.arraylength, p + 1) := fbind (α := Instr) h1
  have h3 := fdc h2
  rwa [show p + 1 - p = 1 by omega] at h3
set_option maxRecDepth 20000 in
theorem fd_2 {b : ByteArray} {p : Nat} {x : UInt8} {r : List UInt8} (h : b.data.toList.drop p = x :: r) (hx : x.toNat = 2) : decode b p = .ok ((.iconst (-1)), 1) := by
  have h1 := fu1 h
  rw [hx] at h1
  have h2 : (Jvm.ClassFile.Decoder.instr p) b p = .ok ((.iconst (-1)), p + 1) := fbind (α := Instr) h1
  have h3 := fdc h2
  rwa [show p + 1 - p = 1 by omega] at h3
set_option maxRecDepth 20000 in
theorem fd_3 {b : ByteArray} {p : Nat} {x : UInt8} {r : List UInt8} (h : b.data.toList.drop p = x :: r) (hx : x.toNat = 3) : decode b p = .ok ((.iconst (0)), 1) := by
  have h1 := fu1 h
  rw [hx] at h1
  have h2 : (Jvm.ClassFile.Decoder.instr p) b p = .ok ((.iconst (0)), p + 1) := fbind (α := Instr) h1
  have h3 := fdc h2
  rwa [show p + 1 - p = 1 by omega] at h3
set_option maxRecDepth 20000 in
theorem fd_4 {b : ByteArray} {p : Nat} {x : UInt8} {r : List UInt8} (h : b.data.toList.drop p = x :: r) (hx : x.toNat = 4) : decode b p = .ok ((.iconst (1)), 1) := by
  have h1 := fu1 h
  rw [hx] at h1
  have h2 : (Jvm.ClassFile.Decoder.instr p) b p = .ok ((.iconst (1)), p + 1) := fbind (α := Instr) h1
  have h3 := fdc h2
  rwa [show p + 1 - p = 1 by omega] at h3
set_option maxRecDepth 20000 in
theorem fd_5 {b : ByteArray} {p : Nat} {x : UInt8} {r : List UInt8} (h : b.data.toList.drop p = x :: r) (hx : x.toNat = 5) : decode b p = .ok ((.iconst (2)), 1) := by
  have h1 := fu1 h
  rw [hx] at h1
  have h2 : (Jvm.ClassFile.Decoder.instr p) b p = .ok ((.iconst (2)), p + 1) := fbind (α := Instr) h1
  have h3 := fdc h2
  rwa [show p + 1 - p = 1 by omega] at h3
set_option maxRecDepth 20000 in
theorem fd_6 {b : ByteArray} {p : Nat} {x : UInt8} {r : List UInt8} (h : b.data.toList.drop p = x :: r) (hx : x.toNat = 6) : decode b p = .ok ((.iconst (3)), 1) := by
  have h1 := fu1 h
  rw [hx] at h1
  have h2 : (Jvm.ClassFile.Decoder.instr p) b p = .ok ((.iconst (3)), p + 1) := fbind (α := Instr) h1
  have h3 := fdc h2
  rwa [show p + 1 - p = 1 by omega] at h3
set_option maxRecDepth 20000 in
theorem fd_7 {b : ByteArray} {p : Nat} {x : UInt8} {r : List UInt8} (h : b.data.toList.drop p = x :: r) (hx : x.toNat = 7) : decode b p = .ok ((.iconst (4)), 1) := by
  have h1 := fu1 h
  rw [hx] at h1
  have h2 : (Jvm.ClassFile.Decoder.instr p) b p = .ok ((.iconst (4)), p + 1) := fbind (α := Instr) h1
  have h3 := fdc h2
  rwa [show p + 1 - p = 1 by omega] at h3
set_option maxRecDepth 20000 in
theorem fd_8 {b : ByteArray} {p : Nat} {x : UInt8} {r : List UInt8} (h : b.data.toList.drop p = x :: r) (hx : x.toNat = 8) : decode b p = .ok ((.iconst (5)), 1) := by
  have h1 := fu1 h
  rw [hx] at h1
  have h2 : (Jvm.ClassFile.Decoder.instr p) b p = .ok ((.iconst (5)), p + 1) := fbind (α := Instr) h1
  have h3 := fdc h2
  rwa [show p + 1 - p = 1 by omega] at h3
set_option maxRecDepth 20000 in
theorem fd_26 {b : ByteArray} {p : Nat} {x : UInt8} {r : List UInt8} (h : b.data.toList.drop p = x :: r) (hx : x.toNat = 26) : decode b p = .ok ((.iload_n 0), 1) := by
  have h1 := fu1 h
  rw [hx] at h1
  have h2 : (Jvm.ClassFile.Decoder.instr p) b p = .ok ((.iload_n 0), p + 1) := fbind (α := Instr) h1
  have h3 := fdc h2
  rwa [show p + 1 - p = 1 by omega] at h3
set_option maxRecDepth 20000 in
theorem fd_27 {b : ByteArray} {p : Nat} {x : UInt8} {r : List UInt8} (h : b.data.toList.drop p = x :: r) (hx : x.toNat = 27) : decode b p = .ok ((.iload_n 1), 1) := by
  have h1 := fu1 h
  rw [hx] at h1
  have h2 : (Jvm.ClassFile.Decoder.instr p) b p = .ok ((.iload_n 1), p + 1) := fbind (α := Instr) h1
  have h3 := fdc h2
  rwa [show p + 1 - p = 1 by omega] at h3
set_option maxRecDepth 20000 in
theorem fd_28 {b : ByteArray} {p : Nat} {x : UInt8} {r : List UInt8} (h : b.data.toList.drop p = x :: r) (hx : x.toNat = 28) : decode b p = .ok ((.iload_n 2), 1) := by
  have h1 := fu1 h
  rw [hx] at h1
  have h2 : (Jvm.ClassFile.Decoder.instr p) b p = .ok ((.iload_n 2), p + 1) := fbind (α := Instr) h1
  have h3 := fdc h2
  rwa [show p + 1 - p = 1 by omega] at h3
set_option maxRecDepth 20000 in
theorem fd_29 {b : ByteArray} {p : Nat} {x : UInt8} {r : List UInt8} (h : b.data.toList.drop p = x :: r) (hx : x.toNat = 29) : decode b p = .ok ((.iload_n 3), 1) := by
  have h1 := fu1 h
  rw [hx] at h1
  have h2 : (Jvm.ClassFile.Decoder.instr p) b p = .ok ((.iload_n 3), p + 1) := fbind (α := Instr) h1
  have h3 := fdc h2
  rwa [show p + 1 - p = 1 by omega] at h3
set_option maxRecDepth 20000 in
theorem fd_30 {b : ByteArray} {p : Nat} {x : UInt8} {r : List UInt8} (h : b.data.toList.drop p = x :: r) (hx : x.toNat = 30) : decode b p = .ok ((.lload_n 0), 1) := by
  have h1 := fu1 h
  rw [hx] at h1
  have h2 : (Jvm.ClassFile.Decoder.instr p) b p = .ok ((.lload_n 0), p + 1) := fbind (α := Instr) h1
  have h3 := fdc h2
  rwa [show p + 1 - p = 1 by omega] at h3
set_option maxRecDepth 20000 in
theorem fd_31 {b : ByteArray} {p : Nat} {x : UInt8} {r : List UInt8} (h : b.data.toList.drop p = x :: r) (hx : x.toNat = 31) : decode b p = .ok ((.lload_n 1), 1) := by
  have h1 := fu1 h
  rw [hx] at h1
  have h2 : (Jvm.ClassFile.Decoder.instr p) b p = .ok ((.lload_n 1), p + 1) := fbind (α := Instr) h1
  have h3 := fdc h2
  rwa [show p + 1 - p = 1 by omega] at h3
set_option maxRecDepth 20000 in
theorem fd_32 {b : ByteArray} {p : Nat} {x : UInt8} {r : List UInt8} (h : b.data.toList.drop p = x :: r) (hx : x.toNat = 32) : decode b p = .ok ((.lload_n 2), 1) := by
  have h1 := fu1 h
  rw [hx] at h1
  have h2 : (Jvm.ClassFile.Decoder.instr p) b p = .ok ((.lload_n 2), p + 1) := fbind (α := Instr) h1
  have h3 := fdc h2
  rwa [show p + 1 - p = 1 by omega] at h3
set_option maxRecDepth 20000 in
theorem fd_33 {b : ByteArray} {p : Nat} {x : UInt8} {r : List UInt8} (h : b.data.toList.drop p = x :: r) (hx : x.toNat = 33) : decode b p = .ok ((.lload_n 3), 1) := by
  have h1 := fu1 h
  rw [hx] at h1
  have h2 : (Jvm.ClassFile.Decoder.instr p) b p = .ok ((.lload_n 3), p + 1) := fbind (α := Instr) h1
  have h3 := fdc h2
  rwa [show p + 1 - p = 1 by omega] at h3
set_option maxRecDepth 20000 in
theorem fd_42 {b : ByteArray} {p : Nat} {x : UInt8} {r : List UInt8} (h : b.data.toList.drop p = x :: r) (hx : x.toNat = 42) : decode b p = .ok ((.aload_n 0), 1) := by
  have h1 := fu1 h
  rw [hx] at h1
  have h2 : (Jvm.ClassFile.Decoder.instr p) b p = .ok ((.aload_n 0), p + 1) := fbind (α := Instr) h1
  have h3 := fdc h2
  rwa [show p + 1 - p = 1 by omega] at h3
set_option maxRecDepth 20000 in
theorem fd_43 {b : ByteArray} {p : Nat} {x : UInt8} {r : List UInt8} (h : b.data.toList.drop p = x :: r) (hx : x.toNat = 43) : decode b p = .ok ((.aload_n 1), 1) := by
  have h1 := fu1 h
  rw [hx] at h1
  have h2 : (Jvm.ClassFile.Decoder.instr p) b p = .ok ((.aload_n 1), p + 1) := fbind (α := Instr) h1
  have h3 := fdc h2
  rwa [show p + 1 - p = 1 by omega] at h3
set_option maxRecDepth 20000 in
theorem fd_44 {b : ByteArray} {p : Nat} {x : UInt8} {r : List UInt8} (h : b.data.toList.drop p = x :: r) (hx : x.toNat = 44) : decode b p = .ok ((.aload_n 2), 1) := by
  have h1 := fu1 h
  rw [hx] at h1
  have h2 : (Jvm.ClassFile.Decoder.instr p) b p = .ok ((.aload_n 2), p + 1) := fbind (α := Instr) h1
  have h3 := fdc h2
  rwa [show p + 1 - p = 1 by omega] at h3
set_option maxRecDepth 20000 in
theorem fd_45 {b : ByteArray} {p : Nat} {x : UInt8} {r : List UInt8} (h : b.data.toList.drop p = x :: r) (hx : x.toNat = 45) : decode b p = .ok ((.aload_n 3), 1) := by
  have h1 := fu1 h
  rw [hx] at h1
  have h2 : (Jvm.ClassFile.Decoder.instr p) b p = .ok ((.aload_n 3), p + 1) := fbind (α := Instr) h1
  have h3 := fdc h2
  rwa [show p + 1 - p = 1 by omega] at h3
set_option maxRecDepth 20000 in
theorem fd_59 {b : ByteArray} {p : Nat} {x : UInt8} {r : List UInt8} (h : b.data.toList.drop p = x :: r) (hx : x.toNat = 59) : decode b p = .ok ((.istore_n 0), 1) := by
  have h1 := fu1 h
  rw [hx] at h1
  have h2 : (Jvm.ClassFile.Decoder.instr p) b p = .ok ((.istore_n 0), p + 1) := fbind (α := Instr) h1
  have h3 := fdc h2
  rwa [show p + 1 - p = 1 by omega] at h3
set_option maxRecDepth 20000 in
theorem fd_60 {b : ByteArray} {p : Nat} {x : UInt8} {r : List UInt8} (h : b.data.toList.drop p = x :: r) (hx : x.toNat = 60) : decode b p = .ok ((.istore_n 1), 1) := by
  have h1 := fu1 h
  rw [hx] at h1
  have h2 : (Jvm.ClassFile.Decoder.instr p) b p = .ok ((.istore_n 1), p + 1) := fbind (α := Instr) h1
  have h3 := fdc h2
  rwa [show p + 1 - p = 1 by omega] at h3
set_option maxRecDepth 20000 in
theorem fd_61 {b : ByteArray} {p : Nat} {x : UInt8} {r : List UInt8} (h : b.data.toList.drop p = x :: r) (hx : x.toNat = 61) : decode b p = .ok ((.istore_n 2), 1) := by
  have h1 := fu1 h
  rw [hx] at h1
  have h2 : (Jvm.ClassFile.Decoder.instr p) b p = .ok ((.istore_n 2), p + 1) := fbind (α := Instr) h1
  have h3 := fdc h2
  rwa [show p + 1 - p = 1 by omega] at h3
set_option maxRecDepth 20000 in
theorem fd_62 {b : ByteArray} {p : Nat} {x : UInt8} {r : List UInt8} (h : b.data.toList.drop p = x :: r) (hx : x.toNat = 62) : decode b p = .ok ((.istore_n 3), 1) := by
  have h1 := fu1 h
  rw [hx] at h1
  have h2 : (Jvm.ClassFile.Decoder.instr p) b p = .ok ((.istore_n 3), p + 1) := fbind (α := Instr) h1
  have h3 := fdc h2
  rwa [show p + 1 - p = 1 by omega] at h3
set_option maxRecDepth 20000 in
theorem fd_63 {b : ByteArray} {p : Nat} {x : UInt8} {r : List UInt8} (h : b.data.toList.drop p = x :: r) (hx : x.toNat = 63) : decode b p = .ok ((.lstore_n 0), 1) := by
  have h1 := fu1 h
  rw [hx] at h1
  have h2 : (Jvm.ClassFile.Decoder.instr p) b p = .ok ((.lstore_n 0), p + 1) := fbind (α := Instr) h1
  have h3 := fdc h2
  rwa [show p + 1 - p = 1 by omega] at h3
set_option maxRecDepth 20000 in
theorem fd_64 {b : ByteArray} {p : Nat} {x : UInt8} {r : List UInt8} (h : b.data.toList.drop p = x :: r) (hx : x.toNat = 64) : decode b p = .ok ((.lstore_n 1), 1) := by
  have h1 := fu1 h
  rw [hx] at h1
  have h2 : (Jvm.ClassFile.Decoder.instr p) b p = .ok ((.lstore_n 1), p + 1) := fbind (α := Instr) h1
  have h3 := fdc h2
  rwa [show p + 1 - p = 1 by omega] at h3
set_option maxRecDepth 20000 in
theorem fd_65 {b : ByteArray} {p : Nat} {x : UInt8} {r : List UInt8} (h : b.data.toList.drop p = x :: r) (hx : x.toNat = 65) : decode b p = .ok ((.lstore_n 2), 1) := by
  have h1 := fu1 h
  rw [hx] at h1
  have h2 : (Jvm.ClassFile.Decoder.instr p) b p = .ok ((.lstore_n 2), p + 1) := fbind (α := Instr) h1
  have h3 := fdc h2
  rwa [show p + 1 - p = 1 by omega] at h3
set_option maxRecDepth 20000 in
theorem fd_66 {b : ByteArray} {p : Nat} {x : UInt8} {r : List UInt8} (h : b.data.toList.drop p = x :: r) (hx : x.toNat = 66) : decode b p = .ok ((.lstore_n 3), 1) := by
  have h1 := fu1 h
  rw [hx] at h1
  have h2 : (Jvm.ClassFile.Decoder.instr p) b p = .ok ((.lstore_n 3), p + 1) := fbind (α := Instr) h1
  have h3 := fdc h2
  rwa [show p + 1 - p = 1 by omega] at h3
set_option maxRecDepth 20000 in
theorem fd_75 {b : ByteArray} {p : Nat} {x : UInt8} {r : List UInt8} (h : b.data.toList.drop p = x :: r) (hx : x.toNat = 75) : decode b p = .ok ((.astore_n 0), 1) := by
  have h1 := fu1 h
  rw [hx] at h1
  have h2 : (Jvm.ClassFile.Decoder.instr p) b p = .ok ((.astore_n 0), p + 1) := fbind (α := Instr) h1
  have h3 := fdc h2
  rwa [show p + 1 - p = 1 by omega] at h3
set_option maxRecDepth 20000 in
theorem fd_76 {b : ByteArray} {p : Nat} {x : UInt8} {r : List UInt8} (h : b.data.toList.drop p = x :: r) (hx : x.toNat = 76) : decode b p = .ok ((.astore_n 1), 1) := by
  have h1 := fu1 h
  rw [hx] at h1
  have h2 : (Jvm.ClassFile.Decoder.instr p) b p = .ok ((.astore_n 1), p + 1) := fbind (α := Instr) h1
  have h3 := fdc h2
  rwa [show p + 1 - p = 1 by omega] at h3
set_option maxRecDepth 20000 in
theorem fd_77 {b : ByteArray} {p : Nat} {x : UInt8} {r : List UInt8} (h : b.data.toList.drop p = x :: r) (hx : x.toNat = 77) : decode b p = .ok ((.astore_n 2), 1) := by
  have h1 := fu1 h
  rw [hx] at h1
  have h2 : (Jvm.ClassFile.Decoder.instr p) b p = .ok ((.astore_n 2), p + 1) := fbind (α := Instr) h1
  have h3 := fdc h2
  rwa [show p + 1 - p = 1 by omega] at h3
set_option maxRecDepth 20000 in
theorem fd_78 {b : ByteArray} {p : Nat} {x : UInt8} {r : List UInt8} (h : b.data.toList.drop p = x :: r) (hx : x.toNat = 78) : decode b p = .ok ((.astore_n 3), 1) := by
  have h1 := fu1 h
  rw [hx] at h1
  have h2 : (Jvm.ClassFile.Decoder.instr p) b p = .ok ((.astore_n 3), p + 1) := fbind (α := Instr) h1
  have h3 := fdc h2
  rwa [show p + 1 - p = 1 by omega] at h3
set_option maxRecDepth 20000 in
theorem fd_9 {b : ByteArray} {p : Nat} {x : UInt8} {r : List UInt8} (h : b.data.toList.drop p = x :: r) (hx : x.toNat = 9) : decode b p = .ok ((.lconst 0), 1) := by
  have h1 := fu1 h
  rw [hx] at h1
  have h2 : (Jvm.ClassFile.Decoder.instr p) b p = .ok ((.lconst 0), p + 1) := fbind (α := Instr) h1
  have h3 := fdc h2
  rwa [show p + 1 - p = 1 by omega] at h3
set_option maxRecDepth 20000 in
theorem fd_10 {b : ByteArray} {p : Nat} {x : UInt8} {r : List UInt8} (h : b.data.toList.drop p = x :: r) (hx : x.toNat = 10) : decode b p = .ok ((.lconst 1), 1) := by
  have h1 := fu1 h
  rw [hx] at h1
  have h2 : (Jvm.ClassFile.Decoder.instr p) b p = .ok ((.lconst 1), p + 1) := fbind (α := Instr) h1
  have h3 := fdc h2
  rwa [show p + 1 - p = 1 by omega] at h3
set_option maxRecDepth 20000 in
theorem fd_18 {b : ByteArray} {p : Nat} {x y : UInt8} {r : List UInt8} (h : b.data.toList.drop p = x :: y :: r) (hx : x.toNat = 18) : decode b p = .ok ((.ldc y.toNat), 2) := by
  have h1 := fu1 h
  rw [hx] at h1
  have h2 : (Jvm.ClassFile.Decoder.instr p) b p = .ok ((.ldc y.toNat), p + 1 + 1) := (fbind (α := Instr) h1).trans (fbind (fu1 (fu_cons h).2))
  have h3 := fdc h2
  rwa [show p + 1 + 1 - p = 2 by omega] at h3
set_option maxRecDepth 20000 in
theorem fd_21 {b : ByteArray} {p : Nat} {x y : UInt8} {r : List UInt8} (h : b.data.toList.drop p = x :: y :: r) (hx : x.toNat = 21) : decode b p = .ok ((.iload y.toNat), 2) := by
  have h1 := fu1 h
  rw [hx] at h1
  have h2 : (Jvm.ClassFile.Decoder.instr p) b p = .ok ((.iload y.toNat), p + 1 + 1) := (fbind (α := Instr) h1).trans (fbind (fu1 (fu_cons h).2))
  have h3 := fdc h2
  rwa [show p + 1 + 1 - p = 2 by omega] at h3
set_option maxRecDepth 20000 in
theorem fd_22 {b : ByteArray} {p : Nat} {x y : UInt8} {r : List UInt8} (h : b.data.toList.drop p = x :: y :: r) (hx : x.toNat = 22) : decode b p = .ok ((.lload y.toNat), 2) := by
  have h1 := fu1 h
  rw [hx] at h1
  have h2 : (Jvm.ClassFile.Decoder.instr p) b p = .ok ((.lload y.toNat), p + 1 + 1) := (fbind (α := Instr) h1).trans (fbind (fu1 (fu_cons h).2))
  have h3 := fdc h2
  rwa [show p + 1 + 1 - p = 2 by omega] at h3
set_option maxRecDepth 20000 in
theorem fd_25 {b : ByteArray} {p : Nat} {x y : UInt8} {r : List UInt8} (h : b.data.toList.drop p = x :: y :: r) (hx : x.toNat = 25) : decode b p = .ok ((.aload y.toNat), 2) := by
  have h1 := fu1 h
  rw [hx] at h1
  have h2 : (Jvm.ClassFile.Decoder.instr p) b p = .ok ((.aload y.toNat), p + 1 + 1) := (fbind (α := Instr) h1).trans (fbind (fu1 (fu_cons h).2))
  have h3 := fdc h2
  rwa [show p + 1 + 1 - p = 2 by omega] at h3
set_option maxRecDepth 20000 in
theorem fd_54 {b : ByteArray} {p : Nat} {x y : UInt8} {r : List UInt8} (h : b.data.toList.drop p = x :: y :: r) (hx : x.toNat = 54) : decode b p = .ok ((.istore y.toNat), 2) := by
  have h1 := fu1 h
  rw [hx] at h1
  have h2 : (Jvm.ClassFile.Decoder.instr p) b p = .ok ((.istore y.toNat), p + 1 + 1) := (fbind (α := Instr) h1).trans (fbind (fu1 (fu_cons h).2))
  have h3 := fdc h2
  rwa [show p + 1 + 1 - p = 2 by omega] at h3
set_option maxRecDepth 20000 in
theorem fd_55 {b : ByteArray} {p : Nat} {x y : UInt8} {r : List UInt8} (h : b.data.toList.drop p = x :: y :: r) (hx : x.toNat = 55) : decode b p = .ok ((.lstore y.toNat), 2) := by
  have h1 := fu1 h
  rw [hx] at h1
  have h2 : (Jvm.ClassFile.Decoder.instr p) b p = .ok ((.lstore y.toNat), p + 1 + 1) := (fbind (α := Instr) h1).trans (fbind (fu1 (fu_cons h).2))
  have h3 := fdc h2
  rwa [show p + 1 + 1 - p = 2 by omega] at h3
set_option maxRecDepth 20000 in
theorem fd_58 {b : ByteArray} {p : Nat} {x y : UInt8} {r : List UInt8} (h : b.data.toList.drop p = x :: y :: r) (hx : x.toNat = 58) : decode b p = .ok ((.astore y.toNat), 2) := by
  have h1 := fu1 h
  rw [hx] at h1
  have h2 : (Jvm.ClassFile.Decoder.instr p) b p = .ok ((.astore y.toNat), p + 1 + 1) := (fbind (α := Instr) h1).trans (fbind (fu1 (fu_cons h).2))
  have h3 := fdc h2
  rwa [show p + 1 + 1 - p = 2 by omega] at h3
set_option maxRecDepth 20000 in
theorem fd_16 {b : ByteArray} {p : Nat} {x y : UInt8} {r : List UInt8} (h : b.data.toList.drop p = x :: y :: r) (hx : x.toNat = 16) : decode b p = .ok ((.bipush (Jvm.ClassFile.Reader.signed 8 y.toNat)), 2) := by
  have h1 := fu1 h
  rw [hx] at h1
  have h2 : (Jvm.ClassFile.Decoder.instr p) b p = .ok ((.bipush (Jvm.ClassFile.Reader.signed 8 y.toNat)), p + 1 + 1) := (fbind (α := Instr) h1).trans (fbind (fs1 (fu_cons h).2))
  have h3 := fdc h2
  rwa [show p + 1 + 1 - p = 2 by omega] at h3
set_option maxRecDepth 20000 in
theorem fd_17 {b : ByteArray} {p : Nat} {x y z : UInt8} {r : List UInt8} (h : b.data.toList.drop p = x :: y :: z :: r) (hx : x.toNat = 17) : decode b p = .ok ((.sipush (Jvm.ClassFile.Reader.signed 16 (y.toNat * 256 + z.toNat))), 3) := by
  have h1 := fu1 h
  rw [hx] at h1
  have h2 : (Jvm.ClassFile.Decoder.instr p) b p = .ok ((.sipush (Jvm.ClassFile.Reader.signed 16 (y.toNat * 256 + z.toNat))), p + 1 + 2) := (fbind (α := Instr) h1).trans (fbind (fs2 (fu_cons h).2))
  have h3 := fdc h2
  rwa [show p + 1 + 2 - p = 3 by omega] at h3
set_option maxRecDepth 20000 in
theorem fd_167 {b : ByteArray} {p : Nat} {x y z : UInt8} {r : List UInt8} (h : b.data.toList.drop p = x :: y :: z :: r) (hx : x.toNat = 167) : decode b p = .ok ((.goto (Jvm.ClassFile.Reader.signed 16 (y.toNat * 256 + z.toNat))), 3) := by
  have h1 := fu1 h
  rw [hx] at h1
  have h2 : (Jvm.ClassFile.Decoder.instr p) b p = .ok ((.goto (Jvm.ClassFile.Reader.signed 16 (y.toNat * 256 + z.toNat))), p + 1 + 2) := (fbind (α := Instr) h1).trans (fbind (fs2 (fu_cons h).2))
  have h3 := fdc h2
  rwa [show p + 1 + 2 - p = 3 by omega] at h3
set_option maxRecDepth 20000 in
theorem fd_198 {b : ByteArray} {p : Nat} {x y z : UInt8} {r : List UInt8} (h : b.data.toList.drop p = x :: y :: z :: r) (hx : x.toNat = 198) : decode b p = .ok ((.ifnull (Jvm.ClassFile.Reader.signed 16 (y.toNat * 256 + z.toNat))), 3) := by
  have h1 := fu1 h
  rw [hx] at h1
  have h2 : (Jvm.ClassFile.Decoder.instr p) b p = .ok ((.ifnull (Jvm.ClassFile.Reader.signed 16 (y.toNat * 256 + z.toNat))), p + 1 + 2) := (fbind (α := Instr) h1).trans (fbind (fs2 (fu_cons h).2))
  have h3 := fdc h2
  rwa [show p + 1 + 2 - p = 3 by omega] at h3
set_option maxRecDepth 20000 in
theorem fd_199 {b : ByteArray} {p : Nat} {x y z : UInt8} {r : List UInt8} (h : b.data.toList.drop p = x :: y :: z :: r) (hx : x.toNat = 199) : decode b p = .ok ((.ifnonnull (Jvm.ClassFile.Reader.signed 16 (y.toNat * 256 + z.toNat))), 3) := by
  have h1 := fu1 h
  rw [hx] at h1
  have h2 : (Jvm.ClassFile.Decoder.instr p) b p = .ok ((.ifnonnull (Jvm.ClassFile.Reader.signed 16 (y.toNat * 256 + z.toNat))), p + 1 + 2) := (fbind (α := Instr) h1).trans (fbind (fs2 (fu_cons h).2))
  have h3 := fdc h2
  rwa [show p + 1 + 2 - p = 3 by omega] at h3
set_option maxRecDepth 20000 in
theorem fd_19 {b : ByteArray} {p : Nat} {x y z : UInt8} {r : List UInt8} (h : b.data.toList.drop p = x :: y :: z :: r) (hx : x.toNat = 19) : decode b p = .ok ((.ldc_w (y.toNat * 256 + z.toNat)), 3) := by
  have h1 := fu1 h
  rw [hx] at h1
  have h2 : (Jvm.ClassFile.Decoder.instr p) b p = .ok ((.ldc_w (y.toNat * 256 + z.toNat)), p + 1 + 2) := (fbind (α := Instr) h1).trans (fbind (fu2 (fu_cons h).2))
  have h3 := fdc h2
  rwa [show p + 1 + 2 - p = 3 by omega] at h3
set_option maxRecDepth 20000 in
theorem fd_20 {b : ByteArray} {p : Nat} {x y z : UInt8} {r : List UInt8} (h : b.data.toList.drop p = x :: y :: z :: r) (hx : x.toNat = 20) : decode b p = .ok ((.ldc2_w (y.toNat * 256 + z.toNat)), 3) := by
  have h1 := fu1 h
  rw [hx] at h1
  have h2 : (Jvm.ClassFile.Decoder.instr p) b p = .ok ((.ldc2_w (y.toNat * 256 + z.toNat)), p + 1 + 2) := (fbind (α := Instr) h1).trans (fbind (fu2 (fu_cons h).2))
  have h3 := fdc h2
  rwa [show p + 1 + 2 - p = 3 by omega] at h3
set_option maxRecDepth 20000 in
theorem fd_178 {b : ByteArray} {p : Nat} {x y z : UInt8} {r : List UInt8} (h : b.data.toList.drop p = x :: y :: z :: r) (hx : x.toNat = 178) : decode b p = .ok ((.getstatic (y.toNat * 256 + z.toNat)), 3) := by
  have h1 := fu1 h
  rw [hx] at h1
  have h2 : (Jvm.ClassFile.Decoder.instr p) b p = .ok ((.getstatic (y.toNat * 256 + z.toNat)), p + 1 + 2) := (fbind (α := Instr) h1).trans (fbind (fu2 (fu_cons h).2))
  have h3 := fdc h2
  rwa [show p + 1 + 2 - p = 3 by omega] at h3
set_option maxRecDepth 20000 in
theorem fd_180 {b : ByteArray} {p : Nat} {x y z : UInt8} {r : List UInt8} (h : b.data.toList.drop p = x :: y :: z :: r) (hx : x.toNat = 180) : decode b p = .ok ((.getfield (y.toNat * 256 + z.toNat)), 3) := by
  have h1 := fu1 h
  rw [hx] at h1
  have h2 : (Jvm.ClassFile.Decoder.instr p) b p = .ok ((.getfield (y.toNat * 256 + z.toNat)), p + 1 + 2) := (fbind (α := Instr) h1).trans (fbind (fu2 (fu_cons h).2))
  have h3 := fdc h2
  rwa [show p + 1 + 2 - p = 3 by omega] at h3
set_option maxRecDepth 20000 in
theorem fd_181 {b : ByteArray} {p : Nat} {x y z : UInt8} {r : List UInt8} (h : b.data.toList.drop p = x :: y :: z :: r) (hx : x.toNat = 181) : decode b p = .ok ((.putfield (y.toNat * 256 + z.toNat)), 3) := by
  have h1 := fu1 h
  rw [hx] at h1
  have h2 : (Jvm.ClassFile.Decoder.instr p) b p = .ok ((.putfield (y.toNat * 256 + z.toNat)), p + 1 + 2) := (fbind (α := Instr) h1).trans (fbind (fu2 (fu_cons h).2))
  have h3 := fdc h2
  rwa [show p + 1 + 2 - p = 3 by omega] at h3
set_option maxRecDepth 20000 in
theorem fd_182 {b : ByteArray} {p : Nat} {x y z : UInt8} {r : List UInt8} (h : b.data.toList.drop p = x :: y :: z :: r) (hx : x.toNat = 182) : decode b p = .ok ((.invokevirtual (y.toNat * 256 + z.toNat)), 3) := by
  have h1 := fu1 h
  rw [hx] at h1
  have h2 : (Jvm.ClassFile.Decoder.instr p) b p = .ok ((.invokevirtual (y.toNat * 256 + z.toNat)), p + 1 + 2) := (fbind (α := Instr) h1).trans (fbind (fu2 (fu_cons h).2))
  have h3 := fdc h2
  rwa [show p + 1 + 2 - p = 3 by omega] at h3
set_option maxRecDepth 20000 in
theorem fd_183 {b : ByteArray} {p : Nat} {x y z : UInt8} {r : List UInt8} (h : b.data.toList.drop p = x :: y :: z :: r) (hx : x.toNat = 183) : decode b p = .ok ((.invokespecial (y.toNat * 256 + z.toNat)), 3) := by
  have h1 := fu1 h
  rw [hx] at h1
  have h2 : (Jvm.ClassFile.Decoder.instr p) b p = .ok ((.invokespecial (y.toNat * 256 + z.toNat)), p + 1 + 2) := (fbind (α := Instr) h1).trans (fbind (fu2 (fu_cons h).2))
  have h3 := fdc h2
  rwa [show p + 1 + 2 - p = 3 by omega] at h3
set_option maxRecDepth 20000 in
theorem fd_184 {b : ByteArray} {p : Nat} {x y z : UInt8} {r : List UInt8} (h : b.data.toList.drop p = x :: y :: z :: r) (hx : x.toNat = 184) : decode b p = .ok ((.invokestatic (y.toNat * 256 + z.toNat)), 3) := by
  have h1 := fu1 h
  rw [hx] at h1
  have h2 : (Jvm.ClassFile.Decoder.instr p) b p = .ok ((.invokestatic (y.toNat * 256 + z.toNat)), p + 1 + 2) := (fbind (α := Instr) h1).trans (fbind (fu2 (fu_cons h).2))
  have h3 := fdc h2
  rwa [show p + 1 + 2 - p = 3 by omega] at h3
set_option maxRecDepth 20000 in
theorem fd_187 {b : ByteArray} {p : Nat} {x y z : UInt8} {r : List UInt8} (h : b.data.toList.drop p = x :: y :: z :: r) (hx : x.toNat = 187) : decode b p = .ok ((.new (y.toNat * 256 + z.toNat)), 3) := by
  have h1 := fu1 h
  rw [hx] at h1
  have h2 : (Jvm.ClassFile.Decoder.instr p) b p = .ok ((.new (y.toNat * 256 + z.toNat)), p + 1 + 2) := (fbind (α := Instr) h1).trans (fbind (fu2 (fu_cons h).2))
  have h3 := fdc h2
  rwa [show p + 1 + 2 - p = 3 by omega] at h3
set_option maxRecDepth 20000 in
theorem fd_189 {b : ByteArray} {p : Nat} {x y z : UInt8} {r : List UInt8} (h : b.data.toList.drop p = x :: y :: z :: r) (hx : x.toNat = 189) : decode b p = .ok ((.anewarray (y.toNat * 256 + z.toNat)), 3) := by
  have h1 := fu1 h
  rw [hx] at h1
  have h2 : (Jvm.ClassFile.Decoder.instr p) b p = .ok ((.anewarray (y.toNat * 256 + z.toNat)), p + 1 + 2) := (fbind (α := Instr) h1).trans (fbind (fu2 (fu_cons h).2))
  have h3 := fdc h2
  rwa [show p + 1 + 2 - p = 3 by omega] at h3
set_option maxRecDepth 20000 in
theorem fd_192 {b : ByteArray} {p : Nat} {x y z : UInt8} {r : List UInt8} (h : b.data.toList.drop p = x :: y :: z :: r) (hx : x.toNat = 192) : decode b p = .ok ((.checkcast (y.toNat * 256 + z.toNat)), 3) := by
  have h1 := fu1 h
  rw [hx] at h1
  have h2 : (Jvm.ClassFile.Decoder.instr p) b p = .ok ((.checkcast (y.toNat * 256 + z.toNat)), p + 1 + 2) := (fbind (α := Instr) h1).trans (fbind (fu2 (fu_cons h).2))
  have h3 := fdc h2
  rwa [show p + 1 + 2 - p = 3 by omega] at h3
set_option maxRecDepth 20000 in
theorem fd_153 {b : ByteArray} {p : Nat} {x y z : UInt8} {r : List UInt8} (h : b.data.toList.drop p = x :: y :: z :: r) (hx : x.toNat = 153) : decode b p = .ok ((.ifCond .eq (Jvm.ClassFile.Reader.signed 16 (y.toNat * 256 + z.toNat))), 3) := by
  have h1 := fu1 h
  rw [hx] at h1
  have h2 : (Jvm.ClassFile.Decoder.instr p) b p = .ok ((.ifCond .eq (Jvm.ClassFile.Reader.signed 16 (y.toNat * 256 + z.toNat))), p + 1 + 2) := (fbind (α := Instr) h1).trans (fbind (fs2 (fu_cons h).2))
  have h3 := fdc h2
  rwa [show p + 1 + 2 - p = 3 by omega] at h3
set_option maxRecDepth 20000 in
theorem fd_159 {b : ByteArray} {p : Nat} {x y z : UInt8} {r : List UInt8} (h : b.data.toList.drop p = x :: y :: z :: r) (hx : x.toNat = 159) : decode b p = .ok ((.if_icmp .eq (Jvm.ClassFile.Reader.signed 16 (y.toNat * 256 + z.toNat))), 3) := by
  have h1 := fu1 h
  rw [hx] at h1
  have h2 : (Jvm.ClassFile.Decoder.instr p) b p = .ok ((.if_icmp .eq (Jvm.ClassFile.Reader.signed 16 (y.toNat * 256 + z.toNat))), p + 1 + 2) := (fbind (α := Instr) h1).trans (fbind (fs2 (fu_cons h).2))
  have h3 := fdc h2
  rwa [show p + 1 + 2 - p = 3 by omega] at h3
set_option maxRecDepth 20000 in
theorem fd_154 {b : ByteArray} {p : Nat} {x y z : UInt8} {r : List UInt8} (h : b.data.toList.drop p = x :: y :: z :: r) (hx : x.toNat = 154) : decode b p = .ok ((.ifCond .ne (Jvm.ClassFile.Reader.signed 16 (y.toNat * 256 + z.toNat))), 3) := by
  have h1 := fu1 h
  rw [hx] at h1
  have h2 : (Jvm.ClassFile.Decoder.instr p) b p = .ok ((.ifCond .ne (Jvm.ClassFile.Reader.signed 16 (y.toNat * 256 + z.toNat))), p + 1 + 2) := (fbind (α := Instr) h1).trans (fbind (fs2 (fu_cons h).2))
  have h3 := fdc h2
  rwa [show p + 1 + 2 - p = 3 by omega] at h3
set_option maxRecDepth 20000 in
theorem fd_160 {b : ByteArray} {p : Nat} {x y z : UInt8} {r : List UInt8} (h : b.data.toList.drop p = x :: y :: z :: r) (hx : x.toNat = 160) : decode b p = .ok ((.if_icmp .ne (Jvm.ClassFile.Reader.signed 16 (y.toNat * 256 + z.toNat))), 3) := by
  have h1 := fu1 h
  rw [hx] at h1
  have h2 : (Jvm.ClassFile.Decoder.instr p) b p = .ok ((.if_icmp .ne (Jvm.ClassFile.Reader.signed 16 (y.toNat * 256 + z.toNat))), p + 1 + 2) := (fbind (α := Instr) h1).trans (fbind (fs2 (fu_cons h).2))
  have h3 := fdc h2
  rwa [show p + 1 + 2 - p = 3 by omega] at h3
set_option maxRecDepth 20000 in
theorem fd_155 {b : ByteArray} {p : Nat} {x y z : UInt8} {r : List UInt8} (h : b.data.toList.drop p = x :: y :: z :: r) (hx : x.toNat = 155) : decode b p = .ok ((.ifCond .lt (Jvm.ClassFile.Reader.signed 16 (y.toNat * 256 + z.toNat))), 3) := by
  have h1 := fu1 h
  rw [hx] at h1
  have h2 : (Jvm.ClassFile.Decoder.instr p) b p = .ok ((.ifCond .lt (Jvm.ClassFile.Reader.signed 16 (y.toNat * 256 + z.toNat))), p + 1 + 2) := (fbind (α := Instr) h1).trans (fbind (fs2 (fu_cons h).2))
  have h3 := fdc h2
  rwa [show p + 1 + 2 - p = 3 by omega] at h3
set_option maxRecDepth 20000 in
theorem fd_161 {b : ByteArray} {p : Nat} {x y z : UInt8} {r : List UInt8} (h : b.data.toList.drop p = x :: y :: z :: r) (hx : x.toNat = 161) : decode b p = .ok ((.if_icmp .lt (Jvm.ClassFile.Reader.signed 16 (y.toNat * 256 + z.toNat))), 3) := by
  have h1 := fu1 h
  rw [hx] at h1
  have h2 : (Jvm.ClassFile.Decoder.instr p) b p = .ok ((.if_icmp .lt (Jvm.ClassFile.Reader.signed 16 (y.toNat * 256 + z.toNat))), p + 1 + 2) := (fbind (α := Instr) h1).trans (fbind (fs2 (fu_cons h).2))
  have h3 := fdc h2
  rwa [show p + 1 + 2 - p = 3 by omega] at h3
set_option maxRecDepth 20000 in
theorem fd_156 {b : ByteArray} {p : Nat} {x y z : UInt8} {r : List UInt8} (h : b.data.toList.drop p = x :: y :: z :: r) (hx : x.toNat = 156) : decode b p = .ok ((.ifCond .ge (Jvm.ClassFile.Reader.signed 16 (y.toNat * 256 + z.toNat))), 3) := by
  have h1 := fu1 h
  rw [hx] at h1
  have h2 : (Jvm.ClassFile.Decoder.instr p) b p = .ok ((.ifCond .ge (Jvm.ClassFile.Reader.signed 16 (y.toNat * 256 + z.toNat))), p + 1 + 2) := (fbind (α := Instr) h1).trans (fbind (fs2 (fu_cons h).2))
  have h3 := fdc h2
  rwa [show p + 1 + 2 - p = 3 by omega] at h3
set_option maxRecDepth 20000 in
theorem fd_162 {b : ByteArray} {p : Nat} {x y z : UInt8} {r : List UInt8} (h : b.data.toList.drop p = x :: y :: z :: r) (hx : x.toNat = 162) : decode b p = .ok ((.if_icmp .ge (Jvm.ClassFile.Reader.signed 16 (y.toNat * 256 + z.toNat))), 3) := by
  have h1 := fu1 h
  rw [hx] at h1
  have h2 : (Jvm.ClassFile.Decoder.instr p) b p = .ok ((.if_icmp .ge (Jvm.ClassFile.Reader.signed 16 (y.toNat * 256 + z.toNat))), p + 1 + 2) := (fbind (α := Instr) h1).trans (fbind (fs2 (fu_cons h).2))
  have h3 := fdc h2
  rwa [show p + 1 + 2 - p = 3 by omega] at h3
set_option maxRecDepth 20000 in
theorem fd_157 {b : ByteArray} {p : Nat} {x y z : UInt8} {r : List UInt8} (h : b.data.toList.drop p = x :: y :: z :: r) (hx : x.toNat = 157) : decode b p = .ok ((.ifCond .gt (Jvm.ClassFile.Reader.signed 16 (y.toNat * 256 + z.toNat))), 3) := by
  have h1 := fu1 h
  rw [hx] at h1
  have h2 : (Jvm.ClassFile.Decoder.instr p) b p = .ok ((.ifCond .gt (Jvm.ClassFile.Reader.signed 16 (y.toNat * 256 + z.toNat))), p + 1 + 2) := (fbind (α := Instr) h1).trans (fbind (fs2 (fu_cons h).2))
  have h3 := fdc h2
  rwa [show p + 1 + 2 - p = 3 by omega] at h3
set_option maxRecDepth 20000 in
theorem fd_163 {b : ByteArray} {p : Nat} {x y z : UInt8} {r : List UInt8} (h : b.data.toList.drop p = x :: y :: z :: r) (hx : x.toNat = 163) : decode b p = .ok ((.if_icmp .gt (Jvm.ClassFile.Reader.signed 16 (y.toNat * 256 + z.toNat))), 3) := by
  have h1 := fu1 h
  rw [hx] at h1
  have h2 : (Jvm.ClassFile.Decoder.instr p) b p = .ok ((.if_icmp .gt (Jvm.ClassFile.Reader.signed 16 (y.toNat * 256 + z.toNat))), p + 1 + 2) := (fbind (α := Instr) h1).trans (fbind (fs2 (fu_cons h).2))
  have h3 := fdc h2
  rwa [show p + 1 + 2 - p = 3 by omega] at h3
set_option maxRecDepth 20000 in
theorem fd_158 {b : ByteArray} {p : Nat} {x y z : UInt8} {r : List UInt8} (h : b.data.toList.drop p = x :: y :: z :: r) (hx : x.toNat = 158) : decode b p = .ok ((.ifCond .le (Jvm.ClassFile.Reader.signed 16 (y.toNat * 256 + z.toNat))), 3) := by
  have h1 := fu1 h
  rw [hx] at h1
  have h2 : (Jvm.ClassFile.Decoder.instr p) b p = .ok ((.ifCond .le (Jvm.ClassFile.Reader.signed 16 (y.toNat * 256 + z.toNat))), p + 1 + 2) := (fbind (α := Instr) h1).trans (fbind (fs2 (fu_cons h).2))
  have h3 := fdc h2
  rwa [show p + 1 + 2 - p = 3 by omega] at h3
set_option maxRecDepth 20000 in
theorem fd_164 {b : ByteArray} {p : Nat} {x y z : UInt8} {r : List UInt8} (h : b.data.toList.drop p = x :: y :: z :: r) (hx : x.toNat = 164) : decode b p = .ok ((.if_icmp .le (Jvm.ClassFile.Reader.signed 16 (y.toNat * 256 + z.toNat))), 3) := by
  have h1 := fu1 h
  rw [hx] at h1
  have h2 : (Jvm.ClassFile.Decoder.instr p) b p = .ok ((.if_icmp .le (Jvm.ClassFile.Reader.signed 16 (y.toNat * 256 + z.toNat))), p + 1 + 2) := (fbind (α := Instr) h1).trans (fbind (fs2 (fu_cons h).2))
  have h3 := fdc h2
  rwa [show p + 1 + 2 - p = 3 by omega] at h3
set_option maxRecDepth 20000 in
theorem fd_132 {b : ByteArray} {p : Nat} {x y z : UInt8} {r : List UInt8} (h : b.data.toList.drop p = x :: y :: z :: r) (hx : x.toNat = 132) : decode b p = .ok ((.iinc y.toNat (Jvm.ClassFile.Reader.signed 8 z.toNat)), 3) := by
  have h1 := fu1 h
  rw [hx] at h1
  have h2 : (Jvm.ClassFile.Decoder.instr p) b p = .ok ((.iinc y.toNat (Jvm.ClassFile.Reader.signed 8 z.toNat)), p + 1 + 1 + 1) := (fbind (α := Instr) h1).trans ((fbind (fu1 (fu_cons h).2)).trans (fbind (fs1 (fu_cons (fu_cons h).2).2)))
  have h3 := fdc h2
  rwa [show p + 1 + 1 + 1 - p = 3 by omega] at h3
set_option maxRecDepth 20000 in
theorem fd_188 {b : ByteArray} {p : Nat} {x y : UInt8} {r : List UInt8} {t : Jvm.ClassFile.ArrayType} (h : b.data.toList.drop p = x :: y :: r) (hx : x.toNat = 188) (ht : (y.toNat = 4 ∧ t = .boolean) ∨ (y.toNat = 10 ∧ t = .int) ∨ (y.toNat = 11 ∧ t = .long)) : decode b p = .ok (.newarray t, 2) := by
  have h1 := fu1 h
  rw [hx] at h1
  have h4 := fu1 (fu_cons h).2
  have h2 : (Jvm.ClassFile.Decoder.instr p) b p = .ok (.newarray t, p + 1 + 1) := by
    refine (fbind (α := Instr) h1).trans ?_
    rcases ht with ⟨hy, ht⟩ | ⟨hy, ht⟩ | ⟨hy, ht⟩
    all_goals
      rw [hy] at h4
      subst ht
      exact fbind (α := Instr) h4
  have h3 := fdc h2
  rwa [show p + 1 + 1 - p = 2 by omega] at h3
/-- the opcode that an instruction must have -/
def f_op (ins : Instr) : Nat := match ins with
  | .aconst_null => 1
  | .iaload => 46
  | .laload => 47
  | .aaload => 50
  | .baload => 51
  | .iastore => 79
  | .lastore => 80
  | .aastore => 83
  | .bastore => 84
  | .pop => 87
  | .pop2 => 88
  | .dup => 89
  | .dup_x1 => 90
  | .dup_x2 => 91
  | .dup2 => 92
  | .iadd => 96
  | .ladd => 97
  | .isub => 100
  | .lsub => 101
  | .imul => 104
  | .lmul => 105
  | .idiv => 108
  | .ldiv => 109
  | .irem => 112
  | .lrem => 113
  | .ineg => 116
  | .lneg => 117
  | .ishl => 120
  | .ishr => 122
  | .iushr => 124
  | .iand => 126
  | .land => 127
  | .ior => 128
  | .lor => 129
  | .ixor => 130
  | .lxor => 131
  | .i2l => 133
  | .l2i => 136
  | .i2b => 145
  | .i2c => 146
  | .i2s => 147
  | .lcmp => 148
  | .ireturn => 172
  | .lreturn => 173
  | .areturn => 176
  | .return_ => 177
  | .arraylength => 190
  | .ldc _ => 18
  | .iload _ => 21
  | .lload _ => 22
  | .aload _ => 25
  | .istore _ => 54
  | .lstore _ => 55
  | .astore _ => 58
  | .bipush _ => 16
  | .sipush _ => 17
  | .goto _ => 167
  | .ifnull _ => 198
  | .ifnonnull _ => 199
  | .ldc_w _ => 19
  | .ldc2_w _ => 20
  | .getstatic _ => 178
  | .getfield _ => 180
  | .putfield _ => 181
  | .invokevirtual _ => 182
  | .invokespecial _ => 183
  | .invokestatic _ => 184
  | .new _ => 187
  | .anewarray _ => 189
  | .checkcast _ => 192
  | .iload_n n => 26 + n.val
  | .lload_n n => 30 + n.val
  | .aload_n n => 42 + n.val
  | .istore_n n => 59 + n.val
  | .lstore_n n => 63 + n.val
  | .astore_n n => 75 + n.val
  | .lconst n => 9 + n.val
  | .iconst i => (i + 3).toNat
  | .ifCond .eq _ => 153
  | .if_icmp .eq _ => 159
  | .ifCond .ne _ => 154
  | .if_icmp .ne _ => 160
  | .ifCond .lt _ => 155
  | .if_icmp .lt _ => 161
  | .ifCond .ge _ => 156
  | .if_icmp .ge _ => 162
  | .ifCond .gt _ => 157
  | .if_icmp .gt _ => 163
  | .ifCond .le _ => 158
  | .if_icmp .le _ => 164
  | .iinc _ _ => 132
  | .newarray _ => 188
  | _ => 300
def f_u1 (r : List UInt8) (k : Nat) : Bool := match r with
  | y :: _ => Nat.beq y.toNat k
  | _ => false
def f_s1 (r : List UInt8) (k : Int) : Bool := match r with
  | y :: _ => decide (Jvm.ClassFile.Reader.signed 8 y.toNat = k)
  | _ => false
def f_u2 (r : List UInt8) (k : Nat) : Bool := match r with
  | y :: z :: _ => Nat.beq (y.toNat * 256 + z.toNat) k
  | _ => false
def f_s2 (r : List UInt8) (k : Int) : Bool := match r with
  | y :: z :: _ => decide (Jvm.ClassFile.Reader.signed 16 (y.toNat * 256 + z.toNat) = k)
  | _ => false
def f_ii (r : List UInt8) (k : Nat) (c : Int) : Bool := match r with
  | y :: z :: _ => Nat.beq y.toNat k && decide (Jvm.ClassFile.Reader.signed 8 z.toNat = c)
  | _ => false
def f_na (r : List UInt8) (t : Jvm.ClassFile.ArrayType) : Bool := match r with
  | y :: _ => (match t with
    | .boolean => Nat.beq y.toNat 4
    | .int => Nat.beq y.toNat 10
    | .long => Nat.beq y.toNat 11
    | _ => false)
  | _ => false
def f_arg (ins : Instr) (r : List UInt8) : Bool := match ins with
  | .ldc k => f_u1 r k
  | .iload k => f_u1 r k
  | .lload k => f_u1 r k
  | .aload k => f_u1 r k
  | .istore k => f_u1 r k
  | .lstore k => f_u1 r k
  | .astore k => f_u1 r k
  | .bipush k => f_s1 r k
  | .sipush k => f_s2 r k
  | .goto k => f_s2 r k
  | .ifnull k => f_s2 r k
  | .ifnonnull k => f_s2 r k
  | .ldc_w k => f_u2 r k
  | .ldc2_w k => f_u2 r k
  | .getstatic k => f_u2 r k
  | .getfield k => f_u2 r k
  | .putfield k => f_u2 r k
  | .invokevirtual k => f_u2 r k
  | .invokespecial k => f_u2 r k
  | .invokestatic k => f_u2 r k
  | .new k => f_u2 r k
  | .anewarray k => f_u2 r k
  | .checkcast k => f_u2 r k
  | .ifCond _ k => f_s2 r k
  | .if_icmp _ k => f_s2 r k
  | .iinc k c => f_ii r k c
  | .newarray t => f_na r t
  | .iconst i => decide (-1 ≤ i) && decide (i ≤ 5)
  | _ => true
theorem f_u1_ok {r : List UInt8} {k : Nat} (h : f_u1 r k = true) : ∃ y s, r = y :: s ∧ k = y.toNat := by
  cases r with
  | nil => cases h
  | cons y s => exact ⟨y, s, rfl, (Nat.eq_of_beq_eq_true h).symm⟩
theorem f_s1_ok {r : List UInt8} {k : Int} (h : f_s1 r k = true) : ∃ y s, r = y :: s ∧ k = Jvm.ClassFile.Reader.signed 8 y.toNat := by
  cases r with
  | nil => cases h
  | cons y s => exact ⟨y, s, rfl, (of_decide_eq_true h).symm⟩
theorem f_u2_ok {r : List UInt8} {k : Nat} (h : f_u2 r k = true) : ∃ y z s, r = y :: z :: s ∧ k = y.toNat * 256 + z.toNat := by
  match r, h with
  | y :: z :: s, h => exact ⟨y, z, s, rfl, (Nat.eq_of_beq_eq_true h).symm⟩
theorem f_s2_ok {r : List UInt8} {k : Int} (h : f_s2 r k = true) : ∃ y z s, r = y :: z :: s ∧ k = Jvm.ClassFile.Reader.signed 16 (y.toNat * 256 + z.toNat) := by
  match r, h with
  | y :: z :: s, h => exact ⟨y, z, s, rfl, (of_decide_eq_true h).symm⟩
theorem f_ii_ok {r : List UInt8} {k : Nat} {c : Int} (h : f_ii r k c = true) : ∃ y z s, r = y :: z :: s ∧ k = y.toNat ∧ c = Jvm.ClassFile.Reader.signed 8 z.toNat := by
  match r, h with
  | y :: z :: s, h =>
    have h := (Bool.and_eq_true _ _ ▸ h : _ ∧ _)
    exact ⟨y, z, s, rfl, (Nat.eq_of_beq_eq_true h.1).symm, (of_decide_eq_true h.2).symm⟩
theorem f_na_ok {r : List UInt8} {t : Jvm.ClassFile.ArrayType} (h : f_na r t = true) : ∃ y s, r = y :: s ∧ ((y.toNat = 4 ∧ t = .boolean) ∨ (y.toNat = 10 ∧ t = .int) ∨ (y.toNat = 11 ∧ t = .long)) := by
  match r, h with
  | y :: s, h =>
    refine ⟨y, s, rfl, ?_⟩
    cases t with
    | boolean => exact .inl ⟨Nat.eq_of_beq_eq_true h, rfl⟩
    | int => exact .inr (.inl ⟨Nat.eq_of_beq_eq_true h, rfl⟩)
    | long => exact .inr (.inr ⟨Nat.eq_of_beq_eq_true h, rfl⟩)
    | _ => cases h
theorem f_byte (x : UInt8) (h : x.toNat = 300) : False := by
  have := x.toNat_lt
  omega
set_option maxRecDepth 20000 in
theorem f_ok {b : ByteArray} {p n : Nat} {x : UInt8} {r : List UInt8} {ins : Instr} (h : b.data.toList.drop p = x :: r) (ho : x.toNat = f_op ins) (ha : f_arg ins r = true) : decode b p = .ok (ins, m_len ins n) := by
  cases ins
  case aconst_null => exact fd_1 h ho
  case iaload => exact fd_46 h ho
  case laload => exact fd_47 h ho
  case aaload => exact fd_50 h ho
  case baload => exact fd_51 h ho
  case iastore => exact fd_79 h ho
  case lastore => exact fd_80 h ho
  case aastore => exact fd_83 h ho
  case bastore => exact fd_84 h ho
  case pop => exact fd_87 h ho
  case pop2 => exact fd_88 h ho
  case dup => exact fd_89 h ho
  case dup_x1 => exact fd_90 h ho
  case dup_x2 => exact fd_91 h ho
  case dup2 => exact fd_92 h ho
  case iadd => exact fd_96 h ho
  case ladd => exact fd_97 h ho
  case isub => exact fd_100 h ho
  case lsub => exact fd_101 h ho
  case imul => exact fd_104 h ho
  case lmul => exact fd_105 h ho
  case idiv => exact fd_108 h ho
  case ldiv => exact fd_109 h ho
  case irem => exact fd_112 h ho
  case lrem => exact fd_113 h ho
  case ineg => exact fd_116 h ho
  case lneg => exact fd_117 h ho
  case ishl => exact fd_120 h ho
  case ishr => exact fd_122 h ho
  case iushr => exact fd_124 h ho
  case iand => exact fd_126 h ho
  case land => exact fd_127 h ho
  case ior => exact fd_128 h ho
  case lor => exact fd_129 h ho
  case ixor => exact fd_130 h ho
  case lxor => exact fd_131 h ho
  case i2l => exact fd_133 h ho
  case l2i => exact fd_136 h ho
  case i2b => exact fd_145 h ho
  case i2c => exact fd_146 h ho
  case i2s => exact fd_147 h ho
  case lcmp => exact fd_148 h ho
  case ireturn => exact fd_172 h ho
  case lreturn => exact fd_173 h ho
  case areturn => exact fd_176 h ho
  case return_ => exact fd_177 h ho
  case arraylength => exact fd_190 h ho
  case ldc k => obtain ⟨y, s, e1, e2⟩ := f_u1_ok ha; subst e1; subst e2; exact fd_18 h ho
  case iload k => obtain ⟨y, s, e1, e2⟩ := f_u1_ok ha; subst e1; subst e2; exact fd_21 h ho
  case lload k => obtain ⟨y, s, e1, e2⟩ := f_u1_ok ha; subst e1; subst e2; exact fd_22 h ho
  case aload k => obtain ⟨y, s, e1, e2⟩ := f_u1_ok ha; subst e1; subst e2; exact fd_25 h ho
  case istore k => obtain ⟨y, s, e1, e2⟩ := f_u1_ok ha; subst e1; subst e2; exact fd_54 h ho
  case lstore k => obtain ⟨y, s, e1, e2⟩ := f_u1_ok ha; subst e1; subst e2; exact fd_55 h ho
  case astore k => obtain ⟨y, s, e1, e2⟩ := f_u1_ok ha; subst e1; subst e2; exact fd_58 h ho
  case bipush k => obtain ⟨y, s, e1, e2⟩ := f_s1_ok ha; subst e1; subst e2; exact fd_16 h ho
  case sipush k => obtain ⟨y, z, s, e1, e2⟩ := f_s2_ok ha; subst e1; subst e2; exact fd_17 h ho
  case goto k => obtain ⟨y, z, s, e1, e2⟩ := f_s2_ok ha; subst e1; subst e2; exact fd_167 h ho
  case ifnull k => obtain ⟨y, z, s, e1, e2⟩ := f_s2_ok ha; subst e1; subst e2; exact fd_198 h ho
  case ifnonnull k => obtain ⟨y, z, s, e1, e2⟩ := f_s2_ok ha; subst e1; subst e2; exact fd_199 h ho
  case ldc_w k => obtain ⟨y, z, s, e1, e2⟩ := f_u2_ok ha; subst e1; subst e2; exact fd_19 h ho
  case ldc2_w k => obtain ⟨y, z, s, e1, e2⟩ := f_u2_ok ha; subst e1; subst e2; exact fd_20 h ho
  case getstatic k => obtain ⟨y, z, s, e1, e2⟩ := f_u2_ok ha; subst e1; subst e2; exact fd_178 h ho
  case getfield k => obtain ⟨y, z, s, e1, e2⟩ := f_u2_ok ha; subst e1; subst e2; exact fd_180 h ho
  case putfield k => obtain ⟨y, z, s, e1, e2⟩ := f_u2_ok ha; subst e1; subst e2; exact fd_181 h ho
  case invokevirtual k => obtain ⟨y, z, s, e1, e2⟩ := f_u2_ok ha; subst e1; subst e2; exact fd_182 h ho
  case invokespecial k => obtain ⟨y, z, s, e1, e2⟩ := f_u2_ok ha; subst e1; subst e2; exact fd_183 h ho
  case invokestatic k => obtain ⟨y, z, s, e1, e2⟩ := f_u2_ok ha; subst e1; subst e2; exact fd_184 h ho
  case new k => obtain ⟨y, z, s, e1, e2⟩ := f_u2_ok ha; subst e1; subst e2; exact fd_187 h ho
  case anewarray k => obtain ⟨y, z, s, e1, e2⟩ := f_u2_ok ha; subst e1; subst e2; exact fd_189 h ho
  case checkcast k => obtain ⟨y, z, s, e1, e2⟩ := f_u2_ok ha; subst e1; subst e2; exact fd_192 h ho
  case ifCond c k =>
    obtain ⟨y, z, s, e1, e2⟩ := f_s2_ok ha; subst e1; subst e2
    cases c
    case eq => exact fd_153 h ho
    case ne => exact fd_154 h ho
    case lt => exact fd_155 h ho
    case ge => exact fd_156 h ho
    case gt => exact fd_157 h ho
    case le => exact fd_158 h ho
  case if_icmp c k =>
    obtain ⟨y, z, s, e1, e2⟩ := f_s2_ok ha; subst e1; subst e2
    cases c
    case eq => exact fd_159 h ho
    case ne => exact fd_160 h ho
    case lt => exact fd_161 h ho
    case ge => exact fd_162 h ho
    case gt => exact fd_163 h ho
    case le => exact fd_164 h ho
  case iinc k c => obtain ⟨y, z, s, e1, e2, e3⟩ := f_ii_ok ha; subst e1; subst e2; subst e3; exact fd_132 h ho
  case newarray t => obtain ⟨y, s, e1, e2⟩ := f_na_ok ha; subst e1; exact fd_188 h ho e2
  case iconst i =>
    have ha := (Bool.and_eq_true _ _ ▸ ha : _ ∧ _)
    have a1 := of_decide_eq_true ha.1
    have a2 := of_decide_eq_true ha.2
    rcases (by omega : i = -1 ∨ i = 0 ∨ i = 1 ∨ i = 2 ∨ i = 3 ∨ i = 4 ∨ i = 5) with e | e | e | e | e | e | e <;> subst e
    · exact fd_2 h ho
    · exact fd_3 h ho
    · exact fd_4 h ho
    · exact fd_5 h ho
    · exact fd_6 h ho
    · exact fd_7 h ho
    · exact fd_8 h ho
  case iload_n q =>
    obtain ⟨v, hv⟩ := q
    rcases (by omega : v = 0 ∨ v = 1 ∨ v = 2 ∨ v = 3) with e | e | e | e <;> subst e
    · exact fd_26 h ho
    · exact fd_27 h ho
    · exact fd_28 h ho
    · exact fd_29 h ho
  case lload_n q =>
    obtain ⟨v, hv⟩ := q
    rcases (by omega : v = 0 ∨ v = 1 ∨ v = 2 ∨ v = 3) with e | e | e | e <;> subst e
    · exact fd_30 h ho
    · exact fd_31 h ho
    · exact fd_32 h ho
    · exact fd_33 h ho
  case aload_n q =>
    obtain ⟨v, hv⟩ := q
    rcases (by omega : v = 0 ∨ v = 1 ∨ v = 2 ∨ v = 3) with e | e | e | e <;> subst e
    · exact fd_42 h ho
    · exact fd_43 h ho
    · exact fd_44 h ho
    · exact fd_45 h ho
  case istore_n q =>
    obtain ⟨v, hv⟩ := q
    rcases (by omega : v = 0 ∨ v = 1 ∨ v = 2 ∨ v = 3) with e | e | e | e <;> subst e
    · exact fd_59 h ho
    · exact fd_60 h ho
    · exact fd_61 h ho
    · exact fd_62 h ho
  case lstore_n q =>
    obtain ⟨v, hv⟩ := q
    rcases (by omega : v = 0 ∨ v = 1 ∨ v = 2 ∨ v = 3) with e | e | e | e <;> subst e
    · exact fd_63 h ho
    · exact fd_64 h ho
    · exact fd_65 h ho
    · exact fd_66 h ho
  case astore_n q =>
    obtain ⟨v, hv⟩ := q
    rcases (by omega : v = 0 ∨ v = 1 ∨ v = 2 ∨ v = 3) with e | e | e | e <;> subst e
    · exact fd_75 h ho
    · exact fd_76 h ho
    · exact fd_77 h ho
    · exact fd_78 h ho
  case lconst q =>
    obtain ⟨v, hv⟩ := q
    rcases (by omega : v = 0 ∨ v = 1) with e | e <;> subst e
    · exact fd_9 h ho
    · exact fd_10 h ho
  all_goals exact (f_byte x ho).elim
def f_sw (ins : Instr) : Bool := match ins with
  | .tableswitch _ _ _ _ => true
  | .lookupswitch _ _ => true
  | _ => false
def f_one (b : ByteArray) (p : Nat) (r : List UInt8) (ins : Instr) (n : Nat) : Bool := bif f_sw ins then decide (decode b p = .ok (ins, m_len ins n)) else (match r with
  | x :: r => Nat.beq x.toNat (f_op ins) && f_arg ins r
  | [] => false)
def f_wk (b : ByteArray) : Nat → List UInt8 → List (Nat × Instr × Nat) → Bool
  | _, _, [] => true
  | p, r, (q, ins, n) :: l => Nat.ble p q && (f_one b q (r.drop (q - p)) ins n && f_wk b q (r.drop (q - p)) l)
theorem f_wk_ok {b : ByteArray} : ∀ {l : List (Nat × Instr × Nat)} {p : Nat} {r : List UInt8}, r = b.data.toList.drop p → f_wk b p r l = true → ∀ q ∈ l, decode b q.1 = .ok (q.2.1, m_len q.2.1 q.2.2)
  | [], _, _, _, _, _, hq => by cases hq
  | (q, ins, n) :: l, p, r, hr, h, t, ht => by
    have h := (Bool.and_eq_true _ _ ▸ h : _ ∧ _)
    have h2 := (Bool.and_eq_true _ _ ▸ h.2 : _ ∧ _)
    have hle : p ≤ q := Nat.le_of_ble_eq_true h.1
    have hd : r.drop (q - p) = b.data.toList.drop q := by
      rw [hr, List.drop_drop]
      congr 1
      omega
    rcases List.mem_cons.mp ht with e | e
    · subst e
      have h3 := h2.1
      unfold f_one at h3
      cases hs : f_sw ins with
      | true =>
        rw [hs] at h3
        exact of_decide_eq_true h3
      | false =>
        rw [hs] at h3
        simp only [cond_false] at h3
        split at h3
        next x r1 e =>
          have h4 := (Bool.and_eq_true _ _ ▸ h3 : _ ∧ _)
          exact f_ok (by rw [← hd]; exact e) (Nat.eq_of_beq_eq_true h4.1) h4.2
        next => cases h3
    · exact f_wk_ok hd h2.2 t e

def pgD : pgRow := (⟨"", "", ""⟩, ⟨#[]⟩, 0, none, 0, false, 0, 0, 0, 0, 0)
def pgRw (k : Nat) : pgRow := (pgMs.getD (k / 16) []).getD (k % 16) pgD
def pgN (k : Nat) : MethodName := (pgRw k).1
def pgB (k : Nat) : ByteArray := (pgRw k).2.1
def pgL (k : Nat) : Nat := (pgRw k).2.2.1
def pgT (k : Nat) : Option FieldType := (pgRw k).2.2.2.1
def pgA (k : Nat) : Nat := (pgRw k).2.2.2.2.1
def pgS (k : Nat) : Bool := (pgRw k).2.2.2.2.2.1
def pgOw (k : Nat) : Nat := (pgRw k).2.2.2.2.2.2.1
def pgCd (k : Nat) : List (List (Nat × Instr × Nat)) := (pgCs.getD (k / 16) []).getD (k % 16) []
def m_find : List (Nat × Instr × Nat) → Nat → Option (Instr × Nat)
  | [], _ => none
  | (j, x) :: l, i => bif Nat.beq j i then some x else m_find l i
/-- the instruction at a place of a method, and a switch's length -/
def pgF (k pc : Nat) : Option (Instr × Nat) := bif Nat.blt k 275 then m_find ((pgCd k).getD (pc / 8) []) pc else none
def okC (b : ByteArray) (L : List (List (Nat × Instr × Nat))) : Bool := L.all (fun bk => bk.all (fun q => decide (decode b q.1 = .ok (q.2.1, m_len q.2.1 q.2.2))))
def okC2 (b : ByteArray) (L : List (List (Nat × Instr × Nat))) : Bool := f_wk b 0 b.data.toList L.flatten
theorem okC2_ok {b : ByteArray} {L : List (List (Nat × Instr × Nat))} (h : okC2 b L = true) : okC b L = true := by
  unfold okC
  refine List.all_eq_true.mpr fun bk hb => List.all_eq_true.mpr fun q hq => ?_
  exact decide_eq_true (f_wk_ok (by rw [List.drop_zero]) h q (List.mem_flatten.mpr ⟨bk, hb, hq⟩))
def okCs : Nat → Nat → Bool
  | 0, _ => true
  | n + 1, k => okC2 (pgB k) (pgCd k) && okCs n (k + 1)
theorem okCs_ok : ∀ {n k j : Nat}, okCs n k = true → k ≤ j → j < k + n → okC (pgB j) (pgCd j) = true
  | 0, k, j, _, h1, h2 => by omega
  | n + 1, k, j, h, h1, h2 => by
    have h := (Bool.and_eq_true _ _ ▸ h : _ ∧ _)
    by_cases e : j = k
    · subst e; exact okC2_ok h.1
    · exact okCs_ok h.2 (by omega) (by omega)
