/-! decode at a place, out of the bytes that lie there -/
theorem u1_at {code : ByteArray} {p : Nat} {x : UInt8} {r : List UInt8} (h : code.data.toList.drop p = x :: r) : (Reader.u1 : Decoder Nat) code p = .ok (x.toNat, p + 1) := by
  have hg : code.data.toList[p]? = some x := by
    have h1 : (code.data.toList.drop p)[0]? = some x := by rw [h]; rfl
    rw [List.getElem?_drop, Nat.add_zero] at h1
    exact h1
  obtain ⟨hlt, hx⟩ := List.getElem?_eq_some_iff.mp hg
  have hs : p < code.size := by
    have : code.data.toList.length = code.size := rfl
    omega
  have hv : code[p] = x := hx
  have e : (Reader.u1 : Decoder Nat) code p = (if h : p < code.size then (do set (p + 1); pure code[p].toNat : Decoder Nat) else throw (HasTruncated.truncated p)) code p := rfl
  rw [e, dif_pos hs, hv]
  rfl
theorem dr1 {l : List UInt8} {p : Nat} {x : UInt8} {r : List UInt8} (h : l.drop p = x :: r) : l.drop (p + 1) = r := by
  rw [← List.drop_drop, h]
  rfl
theorem u2_at {code : ByteArray} {p : Nat} {x y : UInt8} {r : List UInt8} (h : code.data.toList.drop p = x :: y :: r) : (Reader.u2 : Decoder Nat) code p = .ok (x.toNat * 256 + y.toNat, p + 2) := by
  show Except.bind ((Reader.u1 : Decoder Nat) code p) _ = _
  rw [u1_at h]
  show Except.bind ((Reader.u1 : Decoder Nat) code (p + 1)) _ = _
  rw [u1_at (dr1 h)]
  rfl
theorem s1_at {code : ByteArray} {p : Nat} {x : UInt8} {r : List UInt8} (h : code.data.toList.drop p = x :: r) : (Reader.s1 : Decoder Int) code p = .ok (Reader.signed 8 x.toNat, p + 1) := by
  show Except.bind ((Reader.u1 : Decoder Nat) code p) _ = _
  rw [u1_at h]
  rfl
theorem s2_at {code : ByteArray} {p : Nat} {x y : UInt8} {r : List UInt8} (h : code.data.toList.drop p = x :: y :: r) : (Reader.s2 : Decoder Int) code p = .ok (Reader.signed 16 (x.toNat * 256 + y.toNat), p + 2) := by
  show Except.bind ((Reader.u2 : Decoder Nat) code p) _ = _
  rw [u2_at h]
  rfl
theorem dq_2 {code : ByteArray} {pc : Nat} {r : List UInt8} (h : code.data.toList.drop pc = 2 :: r) : decode code pc = .ok (Instr.iconst (-1), 1) := by
  show Except.bind (Except.bind ((Reader.u1 : Decoder Nat) code pc) _) _ = _
  rw [u1_at h]
  show Except.ok (Instr.iconst (-1), pc + 1 - pc) = _
  rw [Nat.add_sub_cancel_left]
theorem dq_3 {code : ByteArray} {pc : Nat} {r : List UInt8} (h : code.data.toList.drop pc = 3 :: r) : decode code pc = .ok (Instr.iconst 0, 1) := by
  show Except.bind (Except.bind ((Reader.u1 : Decoder Nat) code pc) _) _ = _
  rw [u1_at h]
  show Except.ok (Instr.iconst 0, pc + 1 - pc) = _
  rw [Nat.add_sub_cancel_left]
theorem dq_4 {code : ByteArray} {pc : Nat} {r : List UInt8} (h : code.data.toList.drop pc = 4 :: r) : decode code pc = .ok (Instr.iconst 1, 1) := by
  show Except.bind (Except.bind ((Reader.u1 : Decoder Nat) code pc) _) _ = _
  rw [u1_at h]
  show Except.ok (Instr.iconst 1, pc + 1 - pc) = _
  rw [Nat.add_sub_cancel_left]
theorem dq_5 {code : ByteArray} {pc : Nat} {r : List UInt8} (h : code.data.toList.drop pc = 5 :: r) : decode code pc = .ok (Instr.iconst 2, 1) := by
  show Except.bind (Except.bind ((Reader.u1 : Decoder Nat) code pc) _) _ = _
  rw [u1_at h]
  show Except.ok (Instr.iconst 2, pc + 1 - pc) = _
  rw [Nat.add_sub_cancel_left]
theorem dq_6 {code : ByteArray} {pc : Nat} {r : List UInt8} (h : code.data.toList.drop pc = 6 :: r) : decode code pc = .ok (Instr.iconst 3, 1) := by
  show Except.bind (Except.bind ((Reader.u1 : Decoder Nat) code pc) _) _ = _
  rw [u1_at h]
  show Except.ok (Instr.iconst 3, pc + 1 - pc) = _
  rw [Nat.add_sub_cancel_left]
theorem dq_7 {code : ByteArray} {pc : Nat} {r : List UInt8} (h : code.data.toList.drop pc = 7 :: r) : decode code pc = .ok (Instr.iconst 4, 1) := by
  show Except.bind (Except.bind ((Reader.u1 : Decoder Nat) code pc) _) _ = _
  rw [u1_at h]
  show Except.ok (Instr.iconst 4, pc + 1 - pc) = _
  rw [Nat.add_sub_cancel_left]
theorem dq_8 {code : ByteArray} {pc : Nat} {r : List UInt8} (h : code.data.toList.drop pc = 8 :: r) : decode code pc = .ok (Instr.iconst 5, 1) := by
  show Except.bind (Except.bind ((Reader.u1 : Decoder Nat) code pc) _) _ = _
  rw [u1_at h]
  show Except.ok (Instr.iconst 5, pc + 1 - pc) = _
  rw [Nat.add_sub_cancel_left]
theorem dq_42 {code : ByteArray} {pc : Nat} {r : List UInt8} (h : code.data.toList.drop pc = 42 :: r) : decode code pc = .ok (Instr.aload_n 0, 1) := by
  show Except.bind (Except.bind ((Reader.u1 : Decoder Nat) code pc) _) _ = _
  rw [u1_at h]
  show Except.ok (Instr.aload_n 0, pc + 1 - pc) = _
  rw [Nat.add_sub_cancel_left]
theorem dq_43 {code : ByteArray} {pc : Nat} {r : List UInt8} (h : code.data.toList.drop pc = 43 :: r) : decode code pc = .ok (Instr.aload_n 1, 1) := by
  show Except.bind (Except.bind ((Reader.u1 : Decoder Nat) code pc) _) _ = _
  rw [u1_at h]
  show Except.ok (Instr.aload_n 1, pc + 1 - pc) = _
  rw [Nat.add_sub_cancel_left]
theorem dq_44 {code : ByteArray} {pc : Nat} {r : List UInt8} (h : code.data.toList.drop pc = 44 :: r) : decode code pc = .ok (Instr.aload_n 2, 1) := by
  show Except.bind (Except.bind ((Reader.u1 : Decoder Nat) code pc) _) _ = _
  rw [u1_at h]
  show Except.ok (Instr.aload_n 2, pc + 1 - pc) = _
  rw [Nat.add_sub_cancel_left]
theorem dq_45 {code : ByteArray} {pc : Nat} {r : List UInt8} (h : code.data.toList.drop pc = 45 :: r) : decode code pc = .ok (Instr.aload_n 3, 1) := by
  show Except.bind (Except.bind ((Reader.u1 : Decoder Nat) code pc) _) _ = _
  rw [u1_at h]
  show Except.ok (Instr.aload_n 3, pc + 1 - pc) = _
  rw [Nat.add_sub_cancel_left]
theorem dq_46 {code : ByteArray} {pc : Nat} {r : List UInt8} (h : code.data.toList.drop pc = 46 :: r) : decode code pc = .ok (Instr.iaload, 1) := by
  show Except.bind (Except.bind ((Reader.u1 : Decoder Nat) code pc) _) _ = _
  rw [u1_at h]
  show Except.ok (Instr.iaload, pc + 1 - pc) = _
  rw [Nat.add_sub_cancel_left]
theorem dq_47 {code : ByteArray} {pc : Nat} {r : List UInt8} (h : code.data.toList.drop pc = 47 :: r) : decode code pc = .ok (Instr.laload, 1) := by
  show Except.bind (Except.bind ((Reader.u1 : Decoder Nat) code pc) _) _ = _
  rw [u1_at h]
  show Except.ok (Instr.laload, pc + 1 - pc) = _
  rw [Nat.add_sub_cancel_left]
theorem dq_75 {code : ByteArray} {pc : Nat} {r : List UInt8} (h : code.data.toList.drop pc = 75 :: r) : decode code pc = .ok (Instr.astore_n 0, 1) := by
  show Except.bind (Except.bind ((Reader.u1 : Decoder Nat) code pc) _) _ = _
  rw [u1_at h]
  show Except.ok (Instr.astore_n 0, pc + 1 - pc) = _
  rw [Nat.add_sub_cancel_left]
theorem dq_76 {code : ByteArray} {pc : Nat} {r : List UInt8} (h : code.data.toList.drop pc = 76 :: r) : decode code pc = .ok (Instr.astore_n 1, 1) := by
  show Except.bind (Except.bind ((Reader.u1 : Decoder Nat) code pc) _) _ = _
  rw [u1_at h]
  show Except.ok (Instr.astore_n 1, pc + 1 - pc) = _
  rw [Nat.add_sub_cancel_left]
theorem dq_77 {code : ByteArray} {pc : Nat} {r : List UInt8} (h : code.data.toList.drop pc = 77 :: r) : decode code pc = .ok (Instr.astore_n 2, 1) := by
  show Except.bind (Except.bind ((Reader.u1 : Decoder Nat) code pc) _) _ = _
  rw [u1_at h]
  show Except.ok (Instr.astore_n 2, pc + 1 - pc) = _
  rw [Nat.add_sub_cancel_left]
theorem dq_78 {code : ByteArray} {pc : Nat} {r : List UInt8} (h : code.data.toList.drop pc = 78 :: r) : decode code pc = .ok (Instr.astore_n 3, 1) := by
  show Except.bind (Except.bind ((Reader.u1 : Decoder Nat) code pc) _) _ = _
  rw [u1_at h]
  show Except.ok (Instr.astore_n 3, pc + 1 - pc) = _
  rw [Nat.add_sub_cancel_left]
theorem dq_89 {code : ByteArray} {pc : Nat} {r : List UInt8} (h : code.data.toList.drop pc = 89 :: r) : decode code pc = .ok (Instr.dup, 1) := by
  show Except.bind (Except.bind ((Reader.u1 : Decoder Nat) code pc) _) _ = _
  rw [u1_at h]
  show Except.ok (Instr.dup, pc + 1 - pc) = _
  rw [Nat.add_sub_cancel_left]
theorem dq_96 {code : ByteArray} {pc : Nat} {r : List UInt8} (h : code.data.toList.drop pc = 96 :: r) : decode code pc = .ok (Instr.iadd, 1) := by
  show Except.bind (Except.bind ((Reader.u1 : Decoder Nat) code pc) _) _ = _
  rw [u1_at h]
  show Except.ok (Instr.iadd, pc + 1 - pc) = _
  rw [Nat.add_sub_cancel_left]
theorem dq_100 {code : ByteArray} {pc : Nat} {r : List UInt8} (h : code.data.toList.drop pc = 100 :: r) : decode code pc = .ok (Instr.isub, 1) := by
  show Except.bind (Except.bind ((Reader.u1 : Decoder Nat) code pc) _) _ = _
  rw [u1_at h]
  show Except.ok (Instr.isub, pc + 1 - pc) = _
  rw [Nat.add_sub_cancel_left]
theorem dq_121 {code : ByteArray} {pc : Nat} {r : List UInt8} (h : code.data.toList.drop pc = 121 :: r) : decode code pc = .ok (Instr.lshl, 1) := by
  show Except.bind (Except.bind ((Reader.u1 : Decoder Nat) code pc) _) _ = _
  rw [u1_at h]
  show Except.ok (Instr.lshl, pc + 1 - pc) = _
  rw [Nat.add_sub_cancel_left]
theorem dq_126 {code : ByteArray} {pc : Nat} {r : List UInt8} (h : code.data.toList.drop pc = 126 :: r) : decode code pc = .ok (Instr.iand, 1) := by
  show Except.bind (Except.bind ((Reader.u1 : Decoder Nat) code pc) _) _ = _
  rw [u1_at h]
  show Except.ok (Instr.iand, pc + 1 - pc) = _
  rw [Nat.add_sub_cancel_left]
theorem dq_127 {code : ByteArray} {pc : Nat} {r : List UInt8} (h : code.data.toList.drop pc = 127 :: r) : decode code pc = .ok (Instr.land, 1) := by
  show Except.bind (Except.bind ((Reader.u1 : Decoder Nat) code pc) _) _ = _
  rw [u1_at h]
  show Except.ok (Instr.land, pc + 1 - pc) = _
  rw [Nat.add_sub_cancel_left]
theorem dq_129 {code : ByteArray} {pc : Nat} {r : List UInt8} (h : code.data.toList.drop pc = 129 :: r) : decode code pc = .ok (Instr.lor, 1) := by
  show Except.bind (Except.bind ((Reader.u1 : Decoder Nat) code pc) _) _ = _
  rw [u1_at h]
  show Except.ok (Instr.lor, pc + 1 - pc) = _
  rw [Nat.add_sub_cancel_left]
theorem dq_133 {code : ByteArray} {pc : Nat} {r : List UInt8} (h : code.data.toList.drop pc = 133 :: r) : decode code pc = .ok (Instr.i2l, 1) := by
  show Except.bind (Except.bind ((Reader.u1 : Decoder Nat) code pc) _) _ = _
  rw [u1_at h]
  show Except.ok (Instr.i2l, pc + 1 - pc) = _
  rw [Nat.add_sub_cancel_left]
theorem dq_148 {code : ByteArray} {pc : Nat} {r : List UInt8} (h : code.data.toList.drop pc = 148 :: r) : decode code pc = .ok (Instr.lcmp, 1) := by
  show Except.bind (Except.bind ((Reader.u1 : Decoder Nat) code pc) _) _ = _
  rw [u1_at h]
  show Except.ok (Instr.lcmp, pc + 1 - pc) = _
  rw [Nat.add_sub_cancel_left]
theorem dq_172 {code : ByteArray} {pc : Nat} {r : List UInt8} (h : code.data.toList.drop pc = 172 :: r) : decode code pc = .ok (Instr.ireturn, 1) := by
  show Except.bind (Except.bind ((Reader.u1 : Decoder Nat) code pc) _) _ = _
  rw [u1_at h]
  show Except.ok (Instr.ireturn, pc + 1 - pc) = _
  rw [Nat.add_sub_cancel_left]
theorem dq_190 {code : ByteArray} {pc : Nat} {r : List UInt8} (h : code.data.toList.drop pc = 190 :: r) : decode code pc = .ok (Instr.arraylength, 1) := by
  show Except.bind (Except.bind ((Reader.u1 : Decoder Nat) code pc) _) _ = _
  rw [u1_at h]
  show Except.ok (Instr.arraylength, pc + 1 - pc) = _
  rw [Nat.add_sub_cancel_left]
theorem dq_16 {code : ByteArray} {pc : Nat} {x : UInt8} {r : List UInt8} {v : Int} (h : code.data.toList.drop pc = 16 :: x :: r) (hv : Reader.signed 8 x.toNat = v) : decode code pc = .ok (Instr.bipush v, 2) := by
  subst hv
  show Except.bind (Except.bind ((Reader.u1 : Decoder Nat) code pc) _) _ = _
  rw [u1_at h]
  show Except.bind (Except.bind ((Reader.s1 : Decoder Int) code (pc + 1)) _) _ = _
  rw [s1_at (dr1 h)]
  show Except.ok (Instr.bipush (Reader.signed 8 x.toNat), pc + 1 + 1 - pc) = _
  rw [Nat.add_assoc, Nat.add_sub_cancel_left]
theorem dq_20 {code : ByteArray} {pc : Nat} {x y : UInt8} {r : List UInt8} {v : Nat} (h : code.data.toList.drop pc = 20 :: x :: y :: r) (hv : (x.toNat * 256 + y.toNat) = v) : decode code pc = .ok (Instr.ldc2_w v, 3) := by
  subst hv
  show Except.bind (Except.bind ((Reader.u1 : Decoder Nat) code pc) _) _ = _
  rw [u1_at h]
  show Except.bind (Except.bind ((Reader.u2 : Decoder Nat) code (pc + 1)) _) _ = _
  rw [u2_at (dr1 h)]
  show Except.ok (Instr.ldc2_w ((x.toNat * 256 + y.toNat)), pc + 1 + 2 - pc) = _
  rw [Nat.add_assoc, Nat.add_sub_cancel_left]
theorem dq_21 {code : ByteArray} {pc : Nat} {x : UInt8} {r : List UInt8} {v : Nat} (h : code.data.toList.drop pc = 21 :: x :: r) (hv : x.toNat = v) : decode code pc = .ok (Instr.iload v, 2) := by
  subst hv
  show Except.bind (Except.bind ((Reader.u1 : Decoder Nat) code pc) _) _ = _
  rw [u1_at h]
  show Except.bind (Except.bind ((Reader.u1 : Decoder Nat) code (pc + 1)) _) _ = _
  rw [u1_at (dr1 h)]
  show Except.ok (Instr.iload (x.toNat), pc + 1 + 1 - pc) = _
  rw [Nat.add_assoc, Nat.add_sub_cancel_left]
theorem dq_22 {code : ByteArray} {pc : Nat} {x : UInt8} {r : List UInt8} {v : Nat} (h : code.data.toList.drop pc = 22 :: x :: r) (hv : x.toNat = v) : decode code pc = .ok (Instr.lload v, 2) := by
  subst hv
  show Except.bind (Except.bind ((Reader.u1 : Decoder Nat) code pc) _) _ = _
  rw [u1_at h]
  show Except.bind (Except.bind ((Reader.u1 : Decoder Nat) code (pc + 1)) _) _ = _
  rw [u1_at (dr1 h)]
  show Except.ok (Instr.lload (x.toNat), pc + 1 + 1 - pc) = _
  rw [Nat.add_assoc, Nat.add_sub_cancel_left]
theorem dq_54 {code : ByteArray} {pc : Nat} {x : UInt8} {r : List UInt8} {v : Nat} (h : code.data.toList.drop pc = 54 :: x :: r) (hv : x.toNat = v) : decode code pc = .ok (Instr.istore v, 2) := by
  subst hv
  show Except.bind (Except.bind ((Reader.u1 : Decoder Nat) code pc) _) _ = _
  rw [u1_at h]
  show Except.bind (Except.bind ((Reader.u1 : Decoder Nat) code (pc + 1)) _) _ = _
  rw [u1_at (dr1 h)]
  show Except.ok (Instr.istore (x.toNat), pc + 1 + 1 - pc) = _
  rw [Nat.add_assoc, Nat.add_sub_cancel_left]
theorem dq_55 {code : ByteArray} {pc : Nat} {x : UInt8} {r : List UInt8} {v : Nat} (h : code.data.toList.drop pc = 55 :: x :: r) (hv : x.toNat = v) : decode code pc = .ok (Instr.lstore v, 2) := by
  subst hv
  show Except.bind (Except.bind ((Reader.u1 : Decoder Nat) code pc) _) _ = _
  rw [u1_at h]
  show Except.bind (Except.bind ((Reader.u1 : Decoder Nat) code (pc + 1)) _) _ = _
  rw [u1_at (dr1 h)]
  show Except.ok (Instr.lstore (x.toNat), pc + 1 + 1 - pc) = _
  rw [Nat.add_assoc, Nat.add_sub_cancel_left]
theorem dq_153 {code : ByteArray} {pc : Nat} {x y : UInt8} {r : List UInt8} {v : Int} (h : code.data.toList.drop pc = 153 :: x :: y :: r) (hv : Reader.signed 16 (x.toNat * 256 + y.toNat) = v) : decode code pc = .ok (Instr.ifCond .eq v, 3) := by
  subst hv
  show Except.bind (Except.bind ((Reader.u1 : Decoder Nat) code pc) _) _ = _
  rw [u1_at h]
  show Except.bind (Except.bind ((Reader.s2 : Decoder Int) code (pc + 1)) _) _ = _
  rw [s2_at (dr1 h)]
  show Except.ok (Instr.ifCond .eq (Reader.signed 16 (x.toNat * 256 + y.toNat)), pc + 1 + 2 - pc) = _
  rw [Nat.add_assoc, Nat.add_sub_cancel_left]
theorem dq_154 {code : ByteArray} {pc : Nat} {x y : UInt8} {r : List UInt8} {v : Int} (h : code.data.toList.drop pc = 154 :: x :: y :: r) (hv : Reader.signed 16 (x.toNat * 256 + y.toNat) = v) : decode code pc = .ok (Instr.ifCond .ne v, 3) := by
  subst hv
  show Except.bind (Except.bind ((Reader.u1 : Decoder Nat) code pc) _) _ = _
  rw [u1_at h]
  show Except.bind (Except.bind ((Reader.s2 : Decoder Int) code (pc + 1)) _) _ = _
  rw [s2_at (dr1 h)]
  show Except.ok (Instr.ifCond .ne (Reader.signed 16 (x.toNat * 256 + y.toNat)), pc + 1 + 2 - pc) = _
  rw [Nat.add_assoc, Nat.add_sub_cancel_left]
theorem dq_155 {code : ByteArray} {pc : Nat} {x y : UInt8} {r : List UInt8} {v : Int} (h : code.data.toList.drop pc = 155 :: x :: y :: r) (hv : Reader.signed 16 (x.toNat * 256 + y.toNat) = v) : decode code pc = .ok (Instr.ifCond .lt v, 3) := by
  subst hv
  show Except.bind (Except.bind ((Reader.u1 : Decoder Nat) code pc) _) _ = _
  rw [u1_at h]
  show Except.bind (Except.bind ((Reader.s2 : Decoder Int) code (pc + 1)) _) _ = _
  rw [s2_at (dr1 h)]
  show Except.ok (Instr.ifCond .lt (Reader.signed 16 (x.toNat * 256 + y.toNat)), pc + 1 + 2 - pc) = _
  rw [Nat.add_assoc, Nat.add_sub_cancel_left]
theorem dq_156 {code : ByteArray} {pc : Nat} {x y : UInt8} {r : List UInt8} {v : Int} (h : code.data.toList.drop pc = 156 :: x :: y :: r) (hv : Reader.signed 16 (x.toNat * 256 + y.toNat) = v) : decode code pc = .ok (Instr.ifCond .ge v, 3) := by
  subst hv
  show Except.bind (Except.bind ((Reader.u1 : Decoder Nat) code pc) _) _ = _
  rw [u1_at h]
  show Except.bind (Except.bind ((Reader.s2 : Decoder Int) code (pc + 1)) _) _ = _
  rw [s2_at (dr1 h)]
  show Except.ok (Instr.ifCond .ge (Reader.signed 16 (x.toNat * 256 + y.toNat)), pc + 1 + 2 - pc) = _
  rw [Nat.add_assoc, Nat.add_sub_cancel_left]
theorem dq_157 {code : ByteArray} {pc : Nat} {x y : UInt8} {r : List UInt8} {v : Int} (h : code.data.toList.drop pc = 157 :: x :: y :: r) (hv : Reader.signed 16 (x.toNat * 256 + y.toNat) = v) : decode code pc = .ok (Instr.ifCond .gt v, 3) := by
  subst hv
  show Except.bind (Except.bind ((Reader.u1 : Decoder Nat) code pc) _) _ = _
  rw [u1_at h]
  show Except.bind (Except.bind ((Reader.s2 : Decoder Int) code (pc + 1)) _) _ = _
  rw [s2_at (dr1 h)]
  show Except.ok (Instr.ifCond .gt (Reader.signed 16 (x.toNat * 256 + y.toNat)), pc + 1 + 2 - pc) = _
  rw [Nat.add_assoc, Nat.add_sub_cancel_left]
theorem dq_158 {code : ByteArray} {pc : Nat} {x y : UInt8} {r : List UInt8} {v : Int} (h : code.data.toList.drop pc = 158 :: x :: y :: r) (hv : Reader.signed 16 (x.toNat * 256 + y.toNat) = v) : decode code pc = .ok (Instr.ifCond .le v, 3) := by
  subst hv
  show Except.bind (Except.bind ((Reader.u1 : Decoder Nat) code pc) _) _ = _
  rw [u1_at h]
  show Except.bind (Except.bind ((Reader.s2 : Decoder Int) code (pc + 1)) _) _ = _
  rw [s2_at (dr1 h)]
  show Except.ok (Instr.ifCond .le (Reader.signed 16 (x.toNat * 256 + y.toNat)), pc + 1 + 2 - pc) = _
  rw [Nat.add_assoc, Nat.add_sub_cancel_left]
theorem dq_159 {code : ByteArray} {pc : Nat} {x y : UInt8} {r : List UInt8} {v : Int} (h : code.data.toList.drop pc = 159 :: x :: y :: r) (hv : Reader.signed 16 (x.toNat * 256 + y.toNat) = v) : decode code pc = .ok (Instr.if_icmp .eq v, 3) := by
  subst hv
  show Except.bind (Except.bind ((Reader.u1 : Decoder Nat) code pc) _) _ = _
  rw [u1_at h]
  show Except.bind (Except.bind ((Reader.s2 : Decoder Int) code (pc + 1)) _) _ = _
  rw [s2_at (dr1 h)]
  show Except.ok (Instr.if_icmp .eq (Reader.signed 16 (x.toNat * 256 + y.toNat)), pc + 1 + 2 - pc) = _
  rw [Nat.add_assoc, Nat.add_sub_cancel_left]
theorem dq_160 {code : ByteArray} {pc : Nat} {x y : UInt8} {r : List UInt8} {v : Int} (h : code.data.toList.drop pc = 160 :: x :: y :: r) (hv : Reader.signed 16 (x.toNat * 256 + y.toNat) = v) : decode code pc = .ok (Instr.if_icmp .ne v, 3) := by
  subst hv
  show Except.bind (Except.bind ((Reader.u1 : Decoder Nat) code pc) _) _ = _
  rw [u1_at h]
  show Except.bind (Except.bind ((Reader.s2 : Decoder Int) code (pc + 1)) _) _ = _
  rw [s2_at (dr1 h)]
  show Except.ok (Instr.if_icmp .ne (Reader.signed 16 (x.toNat * 256 + y.toNat)), pc + 1 + 2 - pc) = _
  rw [Nat.add_assoc, Nat.add_sub_cancel_left]
theorem dq_161 {code : ByteArray} {pc : Nat} {x y : UInt8} {r : List UInt8} {v : Int} (h : code.data.toList.drop pc = 161 :: x :: y :: r) (hv : Reader.signed 16 (x.toNat * 256 + y.toNat) = v) : decode code pc = .ok (Instr.if_icmp .lt v, 3) := by
  subst hv
  show Except.bind (Except.bind ((Reader.u1 : Decoder Nat) code pc) _) _ = _
  rw [u1_at h]
  show Except.bind (Except.bind ((Reader.s2 : Decoder Int) code (pc + 1)) _) _ = _
  rw [s2_at (dr1 h)]
  show Except.ok (Instr.if_icmp .lt (Reader.signed 16 (x.toNat * 256 + y.toNat)), pc + 1 + 2 - pc) = _
  rw [Nat.add_assoc, Nat.add_sub_cancel_left]
theorem dq_162 {code : ByteArray} {pc : Nat} {x y : UInt8} {r : List UInt8} {v : Int} (h : code.data.toList.drop pc = 162 :: x :: y :: r) (hv : Reader.signed 16 (x.toNat * 256 + y.toNat) = v) : decode code pc = .ok (Instr.if_icmp .ge v, 3) := by
  subst hv
  show Except.bind (Except.bind ((Reader.u1 : Decoder Nat) code pc) _) _ = _
  rw [u1_at h]
  show Except.bind (Except.bind ((Reader.s2 : Decoder Int) code (pc + 1)) _) _ = _
  rw [s2_at (dr1 h)]
  show Except.ok (Instr.if_icmp .ge (Reader.signed 16 (x.toNat * 256 + y.toNat)), pc + 1 + 2 - pc) = _
  rw [Nat.add_assoc, Nat.add_sub_cancel_left]
theorem dq_163 {code : ByteArray} {pc : Nat} {x y : UInt8} {r : List UInt8} {v : Int} (h : code.data.toList.drop pc = 163 :: x :: y :: r) (hv : Reader.signed 16 (x.toNat * 256 + y.toNat) = v) : decode code pc = .ok (Instr.if_icmp .gt v, 3) := by
  subst hv
  show Except.bind (Except.bind ((Reader.u1 : Decoder Nat) code pc) _) _ = _
  rw [u1_at h]
  show Except.bind (Except.bind ((Reader.s2 : Decoder Int) code (pc + 1)) _) _ = _
  rw [s2_at (dr1 h)]
  show Except.ok (Instr.if_icmp .gt (Reader.signed 16 (x.toNat * 256 + y.toNat)), pc + 1 + 2 - pc) = _
  rw [Nat.add_assoc, Nat.add_sub_cancel_left]
theorem dq_164 {code : ByteArray} {pc : Nat} {x y : UInt8} {r : List UInt8} {v : Int} (h : code.data.toList.drop pc = 164 :: x :: y :: r) (hv : Reader.signed 16 (x.toNat * 256 + y.toNat) = v) : decode code pc = .ok (Instr.if_icmp .le v, 3) := by
  subst hv
  show Except.bind (Except.bind ((Reader.u1 : Decoder Nat) code pc) _) _ = _
  rw [u1_at h]
  show Except.bind (Except.bind ((Reader.s2 : Decoder Int) code (pc + 1)) _) _ = _
  rw [s2_at (dr1 h)]
  show Except.ok (Instr.if_icmp .le (Reader.signed 16 (x.toNat * 256 + y.toNat)), pc + 1 + 2 - pc) = _
  rw [Nat.add_assoc, Nat.add_sub_cancel_left]
theorem dq_167 {code : ByteArray} {pc : Nat} {x y : UInt8} {r : List UInt8} {v : Int} (h : code.data.toList.drop pc = 167 :: x :: y :: r) (hv : Reader.signed 16 (x.toNat * 256 + y.toNat) = v) : decode code pc = .ok (Instr.goto v, 3) := by
  subst hv
  show Except.bind (Except.bind ((Reader.u1 : Decoder Nat) code pc) _) _ = _
  rw [u1_at h]
  show Except.bind (Except.bind ((Reader.s2 : Decoder Int) code (pc + 1)) _) _ = _
  rw [s2_at (dr1 h)]
  show Except.ok (Instr.goto (Reader.signed 16 (x.toNat * 256 + y.toNat)), pc + 1 + 2 - pc) = _
  rw [Nat.add_assoc, Nat.add_sub_cancel_left]
theorem dq_182 {code : ByteArray} {pc : Nat} {x y : UInt8} {r : List UInt8} {v : Nat} (h : code.data.toList.drop pc = 182 :: x :: y :: r) (hv : (x.toNat * 256 + y.toNat) = v) : decode code pc = .ok (Instr.invokevirtual v, 3) := by
  subst hv
  show Except.bind (Except.bind ((Reader.u1 : Decoder Nat) code pc) _) _ = _
  rw [u1_at h]
  show Except.bind (Except.bind ((Reader.u2 : Decoder Nat) code (pc + 1)) _) _ = _
  rw [u2_at (dr1 h)]
  show Except.ok (Instr.invokevirtual ((x.toNat * 256 + y.toNat)), pc + 1 + 2 - pc) = _
  rw [Nat.add_assoc, Nat.add_sub_cancel_left]
theorem dq_183 {code : ByteArray} {pc : Nat} {x y : UInt8} {r : List UInt8} {v : Nat} (h : code.data.toList.drop pc = 183 :: x :: y :: r) (hv : (x.toNat * 256 + y.toNat) = v) : decode code pc = .ok (Instr.invokespecial v, 3) := by
  subst hv
  show Except.bind (Except.bind ((Reader.u1 : Decoder Nat) code pc) _) _ = _
  rw [u1_at h]
  show Except.bind (Except.bind ((Reader.u2 : Decoder Nat) code (pc + 1)) _) _ = _
  rw [u2_at (dr1 h)]
  show Except.ok (Instr.invokespecial ((x.toNat * 256 + y.toNat)), pc + 1 + 2 - pc) = _
  rw [Nat.add_assoc, Nat.add_sub_cancel_left]
theorem dq_184 {code : ByteArray} {pc : Nat} {x y : UInt8} {r : List UInt8} {v : Nat} (h : code.data.toList.drop pc = 184 :: x :: y :: r) (hv : (x.toNat * 256 + y.toNat) = v) : decode code pc = .ok (Instr.invokestatic v, 3) := by
  subst hv
  show Except.bind (Except.bind ((Reader.u1 : Decoder Nat) code pc) _) _ = _
  rw [u1_at h]
  show Except.bind (Except.bind ((Reader.u2 : Decoder Nat) code (pc + 1)) _) _ = _
  rw [u2_at (dr1 h)]
  show Except.ok (Instr.invokestatic ((x.toNat * 256 + y.toNat)), pc + 1 + 2 - pc) = _
  rw [Nat.add_assoc, Nat.add_sub_cancel_left]
theorem dq_187 {code : ByteArray} {pc : Nat} {x y : UInt8} {r : List UInt8} {v : Nat} (h : code.data.toList.drop pc = 187 :: x :: y :: r) (hv : (x.toNat * 256 + y.toNat) = v) : decode code pc = .ok (Instr.new v, 3) := by
  subst hv
  show Except.bind (Except.bind ((Reader.u1 : Decoder Nat) code pc) _) _ = _
  rw [u1_at h]
  show Except.bind (Except.bind ((Reader.u2 : Decoder Nat) code (pc + 1)) _) _ = _
  rw [u2_at (dr1 h)]
  show Except.ok (Instr.new ((x.toNat * 256 + y.toNat)), pc + 1 + 2 - pc) = _
  rw [Nat.add_assoc, Nat.add_sub_cancel_left]
