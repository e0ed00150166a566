/-! ===== THE LAW'S OWN BYTES: the operations by a table of places, the bytes by one walk ===== -/
def q_tgj (pcs : Nat → Nat) (t pc : Nat) (off : Int) : Bool := decide ((pc : Int) + off = (pcs t : Int))
theorem q_rb {α β : Type} (r : Decoder α) (f : α → Decoder β) (cc : ByteArray) (p : Nat) : (r >>= f) cc p = (match r cc p with | .error e => .error e | .ok x => f x.1 cc x.2) := by
  show Except.bind (r cc p) _ = _
  cases r cc p <;> rfl
theorem q_rp {α : Type} (a : α) (cc : ByteArray) (p : Nat) : (Pure.pure a : Decoder α) cc p = .ok (a, p) := rfl
theorem q_rm9 {α β : Type} (f : α → β) (r : Decoder α) (cc : ByteArray) (p : Nat) : (f <$> r : Decoder β) cc p = (match r cc p with | .error e => .error e | .ok x => .ok (f x.1, x.2)) := by
  show Except.bind (r cc p) _ = _
  cases r cc p <;> rfl
theorem q_u1 {cc : ByteArray} {p : Nat} {b : UInt8} (h : cc.data.toList[p]? = some b) : (Reader.u1 : Decoder Nat) cc p = .ok (b.toNat, p + 1) := by
  obtain ⟨hp, hb⟩ := List.getElem?_eq_some_iff.mp h
  have hs : p < cc.size := hp
  have e1 : cc[p] = b := by rw [← hb]; rfl
  have : (Reader.u1 : Decoder Nat) cc p = (if h : p < cc.size then (do set (p + 1); Pure.pure cc[p].toNat : Decoder Nat) else throw (HasTruncated.truncated p)) cc p := rfl
  rw [this, dif_pos hs, e1]
  rfl
theorem q_d0 (cc : ByteArray) (pc : Nat) : decode cc pc = (match Decoder.instr pc cc pc with | .error e => .error e | .ok x => .ok (x.1, x.2 - pc)) := by
  show Except.bind (Decoder.instr pc cc pc) _ = _
  cases Decoder.instr pc cc pc <;> rfl
set_option maxRecDepth 20000 in
theorem q_de3 {cc : ByteArray} {pc x y : Nat} (g0 : (Reader.u1 : Decoder Nat) cc pc = .ok (3, pc + 1)) (g1 : (Reader.u1 : Decoder Nat) cc (pc + 1) = .ok (x, pc + 1 + 1)) (g2 : (Reader.u1 : Decoder Nat) cc (pc + 1 + 1) = .ok (y, pc + 1 + 1 + 1)) : decode cc pc = .ok (.iconst 0, 1) := by
  rw [q_d0, Decoder.instr.eq_1, q_rb, g0]
  show (Except.ok (.iconst 0, pc + 1 - pc) : Except DecodeError (Instr × Nat)) = _
  rw [Nat.add_sub_cancel_left]
set_option maxRecDepth 20000 in
theorem q_de4 {cc : ByteArray} {pc x y : Nat} (g0 : (Reader.u1 : Decoder Nat) cc pc = .ok (4, pc + 1)) (g1 : (Reader.u1 : Decoder Nat) cc (pc + 1) = .ok (x, pc + 1 + 1)) (g2 : (Reader.u1 : Decoder Nat) cc (pc + 1 + 1) = .ok (y, pc + 1 + 1 + 1)) : decode cc pc = .ok (.iconst 1, 1) := by
  rw [q_d0, Decoder.instr.eq_1, q_rb, g0]
  show (Except.ok (.iconst 1, pc + 1 - pc) : Except DecodeError (Instr × Nat)) = _
  rw [Nat.add_sub_cancel_left]
set_option maxRecDepth 20000 in
theorem q_de5 {cc : ByteArray} {pc x y : Nat} (g0 : (Reader.u1 : Decoder Nat) cc pc = .ok (5, pc + 1)) (g1 : (Reader.u1 : Decoder Nat) cc (pc + 1) = .ok (x, pc + 1 + 1)) (g2 : (Reader.u1 : Decoder Nat) cc (pc + 1 + 1) = .ok (y, pc + 1 + 1 + 1)) : decode cc pc = .ok (.iconst 2, 1) := by
  rw [q_d0, Decoder.instr.eq_1, q_rb, g0]
  show (Except.ok (.iconst 2, pc + 1 - pc) : Except DecodeError (Instr × Nat)) = _
  rw [Nat.add_sub_cancel_left]
set_option maxRecDepth 20000 in
theorem q_de6 {cc : ByteArray} {pc x y : Nat} (g0 : (Reader.u1 : Decoder Nat) cc pc = .ok (6, pc + 1)) (g1 : (Reader.u1 : Decoder Nat) cc (pc + 1) = .ok (x, pc + 1 + 1)) (g2 : (Reader.u1 : Decoder Nat) cc (pc + 1 + 1) = .ok (y, pc + 1 + 1 + 1)) : decode cc pc = .ok (.iconst 3, 1) := by
  rw [q_d0, Decoder.instr.eq_1, q_rb, g0]
  show (Except.ok (.iconst 3, pc + 1 - pc) : Except DecodeError (Instr × Nat)) = _
  rw [Nat.add_sub_cancel_left]
set_option maxRecDepth 20000 in
theorem q_de7 {cc : ByteArray} {pc x y : Nat} (g0 : (Reader.u1 : Decoder Nat) cc pc = .ok (7, pc + 1)) (g1 : (Reader.u1 : Decoder Nat) cc (pc + 1) = .ok (x, pc + 1 + 1)) (g2 : (Reader.u1 : Decoder Nat) cc (pc + 1 + 1) = .ok (y, pc + 1 + 1 + 1)) : decode cc pc = .ok (.iconst 4, 1) := by
  rw [q_d0, Decoder.instr.eq_1, q_rb, g0]
  show (Except.ok (.iconst 4, pc + 1 - pc) : Except DecodeError (Instr × Nat)) = _
  rw [Nat.add_sub_cancel_left]
set_option maxRecDepth 20000 in
theorem q_de8 {cc : ByteArray} {pc x y : Nat} (g0 : (Reader.u1 : Decoder Nat) cc pc = .ok (8, pc + 1)) (g1 : (Reader.u1 : Decoder Nat) cc (pc + 1) = .ok (x, pc + 1 + 1)) (g2 : (Reader.u1 : Decoder Nat) cc (pc + 1 + 1) = .ok (y, pc + 1 + 1 + 1)) : decode cc pc = .ok (.iconst 5, 1) := by
  rw [q_d0, Decoder.instr.eq_1, q_rb, g0]
  show (Except.ok (.iconst 5, pc + 1 - pc) : Except DecodeError (Instr × Nat)) = _
  rw [Nat.add_sub_cancel_left]
set_option maxRecDepth 20000 in
theorem q_de9 {cc : ByteArray} {pc x y : Nat} (g0 : (Reader.u1 : Decoder Nat) cc pc = .ok (9, pc + 1)) (g1 : (Reader.u1 : Decoder Nat) cc (pc + 1) = .ok (x, pc + 1 + 1)) (g2 : (Reader.u1 : Decoder Nat) cc (pc + 1 + 1) = .ok (y, pc + 1 + 1 + 1)) : decode cc pc = .ok (.lconst 0, 1) := by
  rw [q_d0, Decoder.instr.eq_1, q_rb, g0]
  show (Except.ok (.lconst 0, pc + 1 - pc) : Except DecodeError (Instr × Nat)) = _
  rw [Nat.add_sub_cancel_left]
set_option maxRecDepth 20000 in
theorem q_de10 {cc : ByteArray} {pc x y : Nat} (g0 : (Reader.u1 : Decoder Nat) cc pc = .ok (10, pc + 1)) (g1 : (Reader.u1 : Decoder Nat) cc (pc + 1) = .ok (x, pc + 1 + 1)) (g2 : (Reader.u1 : Decoder Nat) cc (pc + 1 + 1) = .ok (y, pc + 1 + 1 + 1)) : decode cc pc = .ok (.lconst 1, 1) := by
  rw [q_d0, Decoder.instr.eq_1, q_rb, g0]
  show (Except.ok (.lconst 1, pc + 1 - pc) : Except DecodeError (Instr × Nat)) = _
  rw [Nat.add_sub_cancel_left]
set_option maxRecDepth 20000 in
theorem q_de42 {cc : ByteArray} {pc x y : Nat} (g0 : (Reader.u1 : Decoder Nat) cc pc = .ok (42, pc + 1)) (g1 : (Reader.u1 : Decoder Nat) cc (pc + 1) = .ok (x, pc + 1 + 1)) (g2 : (Reader.u1 : Decoder Nat) cc (pc + 1 + 1) = .ok (y, pc + 1 + 1 + 1)) : decode cc pc = .ok (.aload_n 0, 1) := by
  rw [q_d0, Decoder.instr.eq_1, q_rb, g0]
  show (Except.ok (.aload_n 0, pc + 1 - pc) : Except DecodeError (Instr × Nat)) = _
  rw [Nat.add_sub_cancel_left]
set_option maxRecDepth 20000 in
theorem q_de43 {cc : ByteArray} {pc x y : Nat} (g0 : (Reader.u1 : Decoder Nat) cc pc = .ok (43, pc + 1)) (g1 : (Reader.u1 : Decoder Nat) cc (pc + 1) = .ok (x, pc + 1 + 1)) (g2 : (Reader.u1 : Decoder Nat) cc (pc + 1 + 1) = .ok (y, pc + 1 + 1 + 1)) : decode cc pc = .ok (.aload_n 1, 1) := by
  rw [q_d0, Decoder.instr.eq_1, q_rb, g0]
  show (Except.ok (.aload_n 1, pc + 1 - pc) : Except DecodeError (Instr × Nat)) = _
  rw [Nat.add_sub_cancel_left]
set_option maxRecDepth 20000 in
theorem q_de44 {cc : ByteArray} {pc x y : Nat} (g0 : (Reader.u1 : Decoder Nat) cc pc = .ok (44, pc + 1)) (g1 : (Reader.u1 : Decoder Nat) cc (pc + 1) = .ok (x, pc + 1 + 1)) (g2 : (Reader.u1 : Decoder Nat) cc (pc + 1 + 1) = .ok (y, pc + 1 + 1 + 1)) : decode cc pc = .ok (.aload_n 2, 1) := by
  rw [q_d0, Decoder.instr.eq_1, q_rb, g0]
  show (Except.ok (.aload_n 2, pc + 1 - pc) : Except DecodeError (Instr × Nat)) = _
  rw [Nat.add_sub_cancel_left]
set_option maxRecDepth 20000 in
theorem q_de45 {cc : ByteArray} {pc x y : Nat} (g0 : (Reader.u1 : Decoder Nat) cc pc = .ok (45, pc + 1)) (g1 : (Reader.u1 : Decoder Nat) cc (pc + 1) = .ok (x, pc + 1 + 1)) (g2 : (Reader.u1 : Decoder Nat) cc (pc + 1 + 1) = .ok (y, pc + 1 + 1 + 1)) : decode cc pc = .ok (.aload_n 3, 1) := by
  rw [q_d0, Decoder.instr.eq_1, q_rb, g0]
  show (Except.ok (.aload_n 3, pc + 1 - pc) : Except DecodeError (Instr × Nat)) = _
  rw [Nat.add_sub_cancel_left]
set_option maxRecDepth 20000 in
theorem q_de46 {cc : ByteArray} {pc x y : Nat} (g0 : (Reader.u1 : Decoder Nat) cc pc = .ok (46, pc + 1)) (g1 : (Reader.u1 : Decoder Nat) cc (pc + 1) = .ok (x, pc + 1 + 1)) (g2 : (Reader.u1 : Decoder Nat) cc (pc + 1 + 1) = .ok (y, pc + 1 + 1 + 1)) : decode cc pc = .ok (.iaload, 1) := by
  rw [q_d0, Decoder.instr.eq_1, q_rb, g0]
  show (Except.ok (.iaload, pc + 1 - pc) : Except DecodeError (Instr × Nat)) = _
  rw [Nat.add_sub_cancel_left]
set_option maxRecDepth 20000 in
theorem q_de47 {cc : ByteArray} {pc x y : Nat} (g0 : (Reader.u1 : Decoder Nat) cc pc = .ok (47, pc + 1)) (g1 : (Reader.u1 : Decoder Nat) cc (pc + 1) = .ok (x, pc + 1 + 1)) (g2 : (Reader.u1 : Decoder Nat) cc (pc + 1 + 1) = .ok (y, pc + 1 + 1 + 1)) : decode cc pc = .ok (.laload, 1) := by
  rw [q_d0, Decoder.instr.eq_1, q_rb, g0]
  show (Except.ok (.laload, pc + 1 - pc) : Except DecodeError (Instr × Nat)) = _
  rw [Nat.add_sub_cancel_left]
set_option maxRecDepth 20000 in
theorem q_de76 {cc : ByteArray} {pc x y : Nat} (g0 : (Reader.u1 : Decoder Nat) cc pc = .ok (76, pc + 1)) (g1 : (Reader.u1 : Decoder Nat) cc (pc + 1) = .ok (x, pc + 1 + 1)) (g2 : (Reader.u1 : Decoder Nat) cc (pc + 1 + 1) = .ok (y, pc + 1 + 1 + 1)) : decode cc pc = .ok (.astore_n 1, 1) := by
  rw [q_d0, Decoder.instr.eq_1, q_rb, g0]
  show (Except.ok (.astore_n 1, pc + 1 - pc) : Except DecodeError (Instr × Nat)) = _
  rw [Nat.add_sub_cancel_left]
set_option maxRecDepth 20000 in
theorem q_de77 {cc : ByteArray} {pc x y : Nat} (g0 : (Reader.u1 : Decoder Nat) cc pc = .ok (77, pc + 1)) (g1 : (Reader.u1 : Decoder Nat) cc (pc + 1) = .ok (x, pc + 1 + 1)) (g2 : (Reader.u1 : Decoder Nat) cc (pc + 1 + 1) = .ok (y, pc + 1 + 1 + 1)) : decode cc pc = .ok (.astore_n 2, 1) := by
  rw [q_d0, Decoder.instr.eq_1, q_rb, g0]
  show (Except.ok (.astore_n 2, pc + 1 - pc) : Except DecodeError (Instr × Nat)) = _
  rw [Nat.add_sub_cancel_left]
set_option maxRecDepth 20000 in
theorem q_de78 {cc : ByteArray} {pc x y : Nat} (g0 : (Reader.u1 : Decoder Nat) cc pc = .ok (78, pc + 1)) (g1 : (Reader.u1 : Decoder Nat) cc (pc + 1) = .ok (x, pc + 1 + 1)) (g2 : (Reader.u1 : Decoder Nat) cc (pc + 1 + 1) = .ok (y, pc + 1 + 1 + 1)) : decode cc pc = .ok (.astore_n 3, 1) := by
  rw [q_d0, Decoder.instr.eq_1, q_rb, g0]
  show (Except.ok (.astore_n 3, pc + 1 - pc) : Except DecodeError (Instr × Nat)) = _
  rw [Nat.add_sub_cancel_left]
set_option maxRecDepth 20000 in
theorem q_de89 {cc : ByteArray} {pc x y : Nat} (g0 : (Reader.u1 : Decoder Nat) cc pc = .ok (89, pc + 1)) (g1 : (Reader.u1 : Decoder Nat) cc (pc + 1) = .ok (x, pc + 1 + 1)) (g2 : (Reader.u1 : Decoder Nat) cc (pc + 1 + 1) = .ok (y, pc + 1 + 1 + 1)) : decode cc pc = .ok (.dup, 1) := by
  rw [q_d0, Decoder.instr.eq_1, q_rb, g0]
  show (Except.ok (.dup, pc + 1 - pc) : Except DecodeError (Instr × Nat)) = _
  rw [Nat.add_sub_cancel_left]
set_option maxRecDepth 20000 in
theorem q_de96 {cc : ByteArray} {pc x y : Nat} (g0 : (Reader.u1 : Decoder Nat) cc pc = .ok (96, pc + 1)) (g1 : (Reader.u1 : Decoder Nat) cc (pc + 1) = .ok (x, pc + 1 + 1)) (g2 : (Reader.u1 : Decoder Nat) cc (pc + 1 + 1) = .ok (y, pc + 1 + 1 + 1)) : decode cc pc = .ok (.iadd, 1) := by
  rw [q_d0, Decoder.instr.eq_1, q_rb, g0]
  show (Except.ok (.iadd, pc + 1 - pc) : Except DecodeError (Instr × Nat)) = _
  rw [Nat.add_sub_cancel_left]
set_option maxRecDepth 20000 in
theorem q_de100 {cc : ByteArray} {pc x y : Nat} (g0 : (Reader.u1 : Decoder Nat) cc pc = .ok (100, pc + 1)) (g1 : (Reader.u1 : Decoder Nat) cc (pc + 1) = .ok (x, pc + 1 + 1)) (g2 : (Reader.u1 : Decoder Nat) cc (pc + 1 + 1) = .ok (y, pc + 1 + 1 + 1)) : decode cc pc = .ok (.isub, 1) := by
  rw [q_d0, Decoder.instr.eq_1, q_rb, g0]
  show (Except.ok (.isub, pc + 1 - pc) : Except DecodeError (Instr × Nat)) = _
  rw [Nat.add_sub_cancel_left]
set_option maxRecDepth 20000 in
theorem q_de126 {cc : ByteArray} {pc x y : Nat} (g0 : (Reader.u1 : Decoder Nat) cc pc = .ok (126, pc + 1)) (g1 : (Reader.u1 : Decoder Nat) cc (pc + 1) = .ok (x, pc + 1 + 1)) (g2 : (Reader.u1 : Decoder Nat) cc (pc + 1 + 1) = .ok (y, pc + 1 + 1 + 1)) : decode cc pc = .ok (.iand, 1) := by
  rw [q_d0, Decoder.instr.eq_1, q_rb, g0]
  show (Except.ok (.iand, pc + 1 - pc) : Except DecodeError (Instr × Nat)) = _
  rw [Nat.add_sub_cancel_left]
set_option maxRecDepth 20000 in
theorem q_de133 {cc : ByteArray} {pc x y : Nat} (g0 : (Reader.u1 : Decoder Nat) cc pc = .ok (133, pc + 1)) (g1 : (Reader.u1 : Decoder Nat) cc (pc + 1) = .ok (x, pc + 1 + 1)) (g2 : (Reader.u1 : Decoder Nat) cc (pc + 1 + 1) = .ok (y, pc + 1 + 1 + 1)) : decode cc pc = .ok (.i2l, 1) := by
  rw [q_d0, Decoder.instr.eq_1, q_rb, g0]
  show (Except.ok (.i2l, pc + 1 - pc) : Except DecodeError (Instr × Nat)) = _
  rw [Nat.add_sub_cancel_left]
set_option maxRecDepth 20000 in
theorem q_de148 {cc : ByteArray} {pc x y : Nat} (g0 : (Reader.u1 : Decoder Nat) cc pc = .ok (148, pc + 1)) (g1 : (Reader.u1 : Decoder Nat) cc (pc + 1) = .ok (x, pc + 1 + 1)) (g2 : (Reader.u1 : Decoder Nat) cc (pc + 1 + 1) = .ok (y, pc + 1 + 1 + 1)) : decode cc pc = .ok (.lcmp, 1) := by
  rw [q_d0, Decoder.instr.eq_1, q_rb, g0]
  show (Except.ok (.lcmp, pc + 1 - pc) : Except DecodeError (Instr × Nat)) = _
  rw [Nat.add_sub_cancel_left]
set_option maxRecDepth 20000 in
theorem q_de172 {cc : ByteArray} {pc x y : Nat} (g0 : (Reader.u1 : Decoder Nat) cc pc = .ok (172, pc + 1)) (g1 : (Reader.u1 : Decoder Nat) cc (pc + 1) = .ok (x, pc + 1 + 1)) (g2 : (Reader.u1 : Decoder Nat) cc (pc + 1 + 1) = .ok (y, pc + 1 + 1 + 1)) : decode cc pc = .ok (.ireturn, 1) := by
  rw [q_d0, Decoder.instr.eq_1, q_rb, g0]
  show (Except.ok (.ireturn, pc + 1 - pc) : Except DecodeError (Instr × Nat)) = _
  rw [Nat.add_sub_cancel_left]
set_option maxRecDepth 20000 in
theorem q_de190 {cc : ByteArray} {pc x y : Nat} (g0 : (Reader.u1 : Decoder Nat) cc pc = .ok (190, pc + 1)) (g1 : (Reader.u1 : Decoder Nat) cc (pc + 1) = .ok (x, pc + 1 + 1)) (g2 : (Reader.u1 : Decoder Nat) cc (pc + 1 + 1) = .ok (y, pc + 1 + 1 + 1)) : decode cc pc = .ok (.arraylength, 1) := by
  rw [q_d0, Decoder.instr.eq_1, q_rb, g0]
  show (Except.ok (.arraylength, pc + 1 - pc) : Except DecodeError (Instr × Nat)) = _
  rw [Nat.add_sub_cancel_left]
set_option maxRecDepth 20000 in
theorem q_de21 {cc : ByteArray} {pc x y : Nat} (g0 : (Reader.u1 : Decoder Nat) cc pc = .ok (21, pc + 1)) (g1 : (Reader.u1 : Decoder Nat) cc (pc + 1) = .ok (x, pc + 1 + 1)) (g2 : (Reader.u1 : Decoder Nat) cc (pc + 1 + 1) = .ok (y, pc + 1 + 1 + 1)) : decode cc pc = .ok (.iload x, 2) := by
  rw [q_d0, Decoder.instr.eq_1, q_rb, g0]
  show (match (Reader.u1 >>= fun a => Pure.pure (.iload a) : Decoder Instr) cc (pc + 1) with | .error e => Except.error e | .ok x => Except.ok (x.1, x.2 - pc)) = _
  rw [q_rb, g1]
  show (Except.ok (_, pc + 1 + 1 - pc) : Except DecodeError (Instr × Nat)) = _
  rw [Nat.add_assoc, Nat.add_sub_cancel_left]
set_option maxRecDepth 20000 in
theorem q_de54 {cc : ByteArray} {pc x y : Nat} (g0 : (Reader.u1 : Decoder Nat) cc pc = .ok (54, pc + 1)) (g1 : (Reader.u1 : Decoder Nat) cc (pc + 1) = .ok (x, pc + 1 + 1)) (g2 : (Reader.u1 : Decoder Nat) cc (pc + 1 + 1) = .ok (y, pc + 1 + 1 + 1)) : decode cc pc = .ok (.istore x, 2) := by
  rw [q_d0, Decoder.instr.eq_1, q_rb, g0]
  show (match (Reader.u1 >>= fun a => Pure.pure (.istore a) : Decoder Instr) cc (pc + 1) with | .error e => Except.error e | .ok x => Except.ok (x.1, x.2 - pc)) = _
  rw [q_rb, g1]
  show (Except.ok (_, pc + 1 + 1 - pc) : Except DecodeError (Instr × Nat)) = _
  rw [Nat.add_assoc, Nat.add_sub_cancel_left]
set_option maxRecDepth 20000 in
theorem q_de16 {cc : ByteArray} {pc x y : Nat} (g0 : (Reader.u1 : Decoder Nat) cc pc = .ok (16, pc + 1)) (g1 : (Reader.u1 : Decoder Nat) cc (pc + 1) = .ok (x, pc + 1 + 1)) (g2 : (Reader.u1 : Decoder Nat) cc (pc + 1 + 1) = .ok (y, pc + 1 + 1 + 1)) : decode cc pc = .ok (.bipush (Reader.signed 8 x), 2) := by
  rw [q_d0, Decoder.instr.eq_1, q_rb, g0]
  show (match ((Reader.signed 8 <$> Reader.u1 : Decoder Int) >>= fun a => Pure.pure (.bipush a) : Decoder Instr) cc (pc + 1) with | .error e => Except.error e | .ok x => Except.ok (x.1, x.2 - pc)) = _
  rw [q_rb, q_rm9, g1]
  show (Except.ok (_, pc + 1 + 1 - pc) : Except DecodeError (Instr × Nat)) = _
  rw [Nat.add_assoc, Nat.add_sub_cancel_left]
set_option maxRecDepth 20000 in
theorem q_de182 {cc : ByteArray} {pc x y : Nat} (g0 : (Reader.u1 : Decoder Nat) cc pc = .ok (182, pc + 1)) (g1 : (Reader.u1 : Decoder Nat) cc (pc + 1) = .ok (x, pc + 1 + 1)) (g2 : (Reader.u1 : Decoder Nat) cc (pc + 1 + 1) = .ok (y, pc + 1 + 1 + 1)) : decode cc pc = .ok (.invokevirtual (x * 256 + y), 3) := by
  rw [q_d0, Decoder.instr.eq_1, q_rb, g0]
  show (match (((Reader.u1 >>= fun h => Reader.u1 >>= fun l => Pure.pure (h * 256 + l)) : Decoder Nat) >>= fun a => Pure.pure (.invokevirtual a) : Decoder Instr) cc (pc + 1) with | .error e => Except.error e | .ok x => Except.ok (x.1, x.2 - pc)) = _
  rw [q_rb, q_rb, g1]
  dsimp only
  rw [q_rb, g2]
  show (Except.ok (_, pc + 1 + 1 + 1 - pc) : Except DecodeError (Instr × Nat)) = _
  rw [Nat.add_assoc, Nat.add_assoc, Nat.add_sub_cancel_left]
set_option maxRecDepth 20000 in
theorem q_de183 {cc : ByteArray} {pc x y : Nat} (g0 : (Reader.u1 : Decoder Nat) cc pc = .ok (183, pc + 1)) (g1 : (Reader.u1 : Decoder Nat) cc (pc + 1) = .ok (x, pc + 1 + 1)) (g2 : (Reader.u1 : Decoder Nat) cc (pc + 1 + 1) = .ok (y, pc + 1 + 1 + 1)) : decode cc pc = .ok (.invokespecial (x * 256 + y), 3) := by
  rw [q_d0, Decoder.instr.eq_1, q_rb, g0]
  show (match (((Reader.u1 >>= fun h => Reader.u1 >>= fun l => Pure.pure (h * 256 + l)) : Decoder Nat) >>= fun a => Pure.pure (.invokespecial a) : Decoder Instr) cc (pc + 1) with | .error e => Except.error e | .ok x => Except.ok (x.1, x.2 - pc)) = _
  rw [q_rb, q_rb, g1]
  dsimp only
  rw [q_rb, g2]
  show (Except.ok (_, pc + 1 + 1 + 1 - pc) : Except DecodeError (Instr × Nat)) = _
  rw [Nat.add_assoc, Nat.add_assoc, Nat.add_sub_cancel_left]
set_option maxRecDepth 20000 in
theorem q_de184 {cc : ByteArray} {pc x y : Nat} (g0 : (Reader.u1 : Decoder Nat) cc pc = .ok (184, pc + 1)) (g1 : (Reader.u1 : Decoder Nat) cc (pc + 1) = .ok (x, pc + 1 + 1)) (g2 : (Reader.u1 : Decoder Nat) cc (pc + 1 + 1) = .ok (y, pc + 1 + 1 + 1)) : decode cc pc = .ok (.invokestatic (x * 256 + y), 3) := by
  rw [q_d0, Decoder.instr.eq_1, q_rb, g0]
  show (match (((Reader.u1 >>= fun h => Reader.u1 >>= fun l => Pure.pure (h * 256 + l)) : Decoder Nat) >>= fun a => Pure.pure (.invokestatic a) : Decoder Instr) cc (pc + 1) with | .error e => Except.error e | .ok x => Except.ok (x.1, x.2 - pc)) = _
  rw [q_rb, q_rb, g1]
  dsimp only
  rw [q_rb, g2]
  show (Except.ok (_, pc + 1 + 1 + 1 - pc) : Except DecodeError (Instr × Nat)) = _
  rw [Nat.add_assoc, Nat.add_assoc, Nat.add_sub_cancel_left]
set_option maxRecDepth 20000 in
theorem q_de187 {cc : ByteArray} {pc x y : Nat} (g0 : (Reader.u1 : Decoder Nat) cc pc = .ok (187, pc + 1)) (g1 : (Reader.u1 : Decoder Nat) cc (pc + 1) = .ok (x, pc + 1 + 1)) (g2 : (Reader.u1 : Decoder Nat) cc (pc + 1 + 1) = .ok (y, pc + 1 + 1 + 1)) : decode cc pc = .ok (.new (x * 256 + y), 3) := by
  rw [q_d0, Decoder.instr.eq_1, q_rb, g0]
  show (match (((Reader.u1 >>= fun h => Reader.u1 >>= fun l => Pure.pure (h * 256 + l)) : Decoder Nat) >>= fun a => Pure.pure (.new a) : Decoder Instr) cc (pc + 1) with | .error e => Except.error e | .ok x => Except.ok (x.1, x.2 - pc)) = _
  rw [q_rb, q_rb, g1]
  dsimp only
  rw [q_rb, g2]
  show (Except.ok (_, pc + 1 + 1 + 1 - pc) : Except DecodeError (Instr × Nat)) = _
  rw [Nat.add_assoc, Nat.add_assoc, Nat.add_sub_cancel_left]
set_option maxRecDepth 20000 in
theorem q_de153 {cc : ByteArray} {pc x y : Nat} (g0 : (Reader.u1 : Decoder Nat) cc pc = .ok (153, pc + 1)) (g1 : (Reader.u1 : Decoder Nat) cc (pc + 1) = .ok (x, pc + 1 + 1)) (g2 : (Reader.u1 : Decoder Nat) cc (pc + 1 + 1) = .ok (y, pc + 1 + 1 + 1)) : decode cc pc = .ok (.ifCond .eq (Reader.signed 16 (x * 256 + y)), 3) := by
  rw [q_d0, Decoder.instr.eq_1, q_rb, g0]
  show (match ((Reader.signed 16 <$> (Reader.u1 >>= fun h => Reader.u1 >>= fun l => Pure.pure (h * 256 + l) : Decoder Nat) : Decoder Int) >>= fun a => Pure.pure (.ifCond .eq a) : Decoder Instr) cc (pc + 1) with | .error e => Except.error e | .ok x => Except.ok (x.1, x.2 - pc)) = _
  rw [q_rb, q_rm9, q_rb, g1]
  dsimp only
  rw [q_rb, g2]
  show (Except.ok (_, pc + 1 + 1 + 1 - pc) : Except DecodeError (Instr × Nat)) = _
  rw [Nat.add_assoc, Nat.add_assoc, Nat.add_sub_cancel_left]
set_option maxRecDepth 20000 in
theorem q_de154 {cc : ByteArray} {pc x y : Nat} (g0 : (Reader.u1 : Decoder Nat) cc pc = .ok (154, pc + 1)) (g1 : (Reader.u1 : Decoder Nat) cc (pc + 1) = .ok (x, pc + 1 + 1)) (g2 : (Reader.u1 : Decoder Nat) cc (pc + 1 + 1) = .ok (y, pc + 1 + 1 + 1)) : decode cc pc = .ok (.ifCond .ne (Reader.signed 16 (x * 256 + y)), 3) := by
  rw [q_d0, Decoder.instr.eq_1, q_rb, g0]
  show (match ((Reader.signed 16 <$> (Reader.u1 >>= fun h => Reader.u1 >>= fun l => Pure.pure (h * 256 + l) : Decoder Nat) : Decoder Int) >>= fun a => Pure.pure (.ifCond .ne a) : Decoder Instr) cc (pc + 1) with | .error e => Except.error e | .ok x => Except.ok (x.1, x.2 - pc)) = _
  rw [q_rb, q_rm9, q_rb, g1]
  dsimp only
  rw [q_rb, g2]
  show (Except.ok (_, pc + 1 + 1 + 1 - pc) : Except DecodeError (Instr × Nat)) = _
  rw [Nat.add_assoc, Nat.add_assoc, Nat.add_sub_cancel_left]
set_option maxRecDepth 20000 in
theorem q_de159 {cc : ByteArray} {pc x y : Nat} (g0 : (Reader.u1 : Decoder Nat) cc pc = .ok (159, pc + 1)) (g1 : (Reader.u1 : Decoder Nat) cc (pc + 1) = .ok (x, pc + 1 + 1)) (g2 : (Reader.u1 : Decoder Nat) cc (pc + 1 + 1) = .ok (y, pc + 1 + 1 + 1)) : decode cc pc = .ok (.if_icmp .eq (Reader.signed 16 (x * 256 + y)), 3) := by
  rw [q_d0, Decoder.instr.eq_1, q_rb, g0]
  show (match ((Reader.signed 16 <$> (Reader.u1 >>= fun h => Reader.u1 >>= fun l => Pure.pure (h * 256 + l) : Decoder Nat) : Decoder Int) >>= fun a => Pure.pure (.if_icmp .eq a) : Decoder Instr) cc (pc + 1) with | .error e => Except.error e | .ok x => Except.ok (x.1, x.2 - pc)) = _
  rw [q_rb, q_rm9, q_rb, g1]
  dsimp only
  rw [q_rb, g2]
  show (Except.ok (_, pc + 1 + 1 + 1 - pc) : Except DecodeError (Instr × Nat)) = _
  rw [Nat.add_assoc, Nat.add_assoc, Nat.add_sub_cancel_left]
set_option maxRecDepth 20000 in
theorem q_de163 {cc : ByteArray} {pc x y : Nat} (g0 : (Reader.u1 : Decoder Nat) cc pc = .ok (163, pc + 1)) (g1 : (Reader.u1 : Decoder Nat) cc (pc + 1) = .ok (x, pc + 1 + 1)) (g2 : (Reader.u1 : Decoder Nat) cc (pc + 1 + 1) = .ok (y, pc + 1 + 1 + 1)) : decode cc pc = .ok (.if_icmp .gt (Reader.signed 16 (x * 256 + y)), 3) := by
  rw [q_d0, Decoder.instr.eq_1, q_rb, g0]
  show (match ((Reader.signed 16 <$> (Reader.u1 >>= fun h => Reader.u1 >>= fun l => Pure.pure (h * 256 + l) : Decoder Nat) : Decoder Int) >>= fun a => Pure.pure (.if_icmp .gt a) : Decoder Instr) cc (pc + 1) with | .error e => Except.error e | .ok x => Except.ok (x.1, x.2 - pc)) = _
  rw [q_rb, q_rm9, q_rb, g1]
  dsimp only
  rw [q_rb, g2]
  show (Except.ok (_, pc + 1 + 1 + 1 - pc) : Except DecodeError (Instr × Nat)) = _
  rw [Nat.add_assoc, Nat.add_assoc, Nat.add_sub_cancel_left]
set_option maxRecDepth 20000 in
theorem q_de167 {cc : ByteArray} {pc x y : Nat} (g0 : (Reader.u1 : Decoder Nat) cc pc = .ok (167, pc + 1)) (g1 : (Reader.u1 : Decoder Nat) cc (pc + 1) = .ok (x, pc + 1 + 1)) (g2 : (Reader.u1 : Decoder Nat) cc (pc + 1 + 1) = .ok (y, pc + 1 + 1 + 1)) : decode cc pc = .ok (.goto (Reader.signed 16 (x * 256 + y)), 3) := by
  rw [q_d0, Decoder.instr.eq_1, q_rb, g0]
  show (match ((Reader.signed 16 <$> (Reader.u1 >>= fun h => Reader.u1 >>= fun l => Pure.pure (h * 256 + l) : Decoder Nat) : Decoder Int) >>= fun a => Pure.pure (.goto a) : Decoder Instr) cc (pc + 1) with | .error e => Except.error e | .ok x => Except.ok (x.1, x.2 - pc)) = _
  rw [q_rb, q_rm9, q_rb, g1]
  dsimp only
  rw [q_rb, g2]
  show (Except.ok (_, pc + 1 + 1 + 1 - pc) : Except DecodeError (Instr × Nat)) = _
  rw [Nat.add_assoc, Nat.add_assoc, Nat.add_sub_cancel_left]
set_option maxRecDepth 20000 in
theorem q_de132 {cc : ByteArray} {pc x y : Nat} (g0 : (Reader.u1 : Decoder Nat) cc pc = .ok (132, pc + 1)) (g1 : (Reader.u1 : Decoder Nat) cc (pc + 1) = .ok (x, pc + 1 + 1)) (g2 : (Reader.u1 : Decoder Nat) cc (pc + 1 + 1) = .ok (y, pc + 1 + 1 + 1)) : decode cc pc = .ok (.iinc x (Reader.signed 8 y), 3) := by
  rw [q_d0, Decoder.instr.eq_1, q_rb, g0]
  show (match (Reader.u1 >>= fun a => (Reader.signed 8 <$> Reader.u1 : Decoder Int) >>= fun b => Pure.pure (.iinc a b) : Decoder Instr) cc (pc + 1) with | .error e => Except.error e | .ok x => Except.ok (x.1, x.2 - pc)) = _
  rw [q_rb, g1]
  dsimp only
  rw [q_rb, q_rm9, g2]
  show (Except.ok (_, pc + 1 + 1 + 1 - pc) : Except DecodeError (Instr × Nat)) = _
  rw [Nat.add_assoc, Nat.add_assoc, Nat.add_sub_cancel_left]
set_option maxRecDepth 20000 in
theorem q_de188_10 {cc : ByteArray} {pc x y : Nat} (g0 : (Reader.u1 : Decoder Nat) cc pc = .ok (188, pc + 1)) (g1 : (Reader.u1 : Decoder Nat) cc (pc + 1) = .ok (10, pc + 1 + 1)) (g2 : (Reader.u1 : Decoder Nat) cc (pc + 1 + 1) = .ok (y, pc + 1 + 1 + 1)) : decode cc pc = .ok (.newarray .int, 2) := by
  rw [q_d0, Decoder.instr.eq_1, q_rb, g0]
  show (match (Decoder.newarray pc : Decoder Instr) cc (pc + 1) with | .error e => Except.error e | .ok x => Except.ok (x.1, x.2 - pc)) = _
  rw [Decoder.newarray.eq_1, q_rb, g1]
  show (Except.ok (_, pc + 1 + 1 - pc) : Except DecodeError (Instr × Nat)) = _
  rw [Nat.add_assoc, Nat.add_sub_cancel_left]
set_option maxRecDepth 20000 in
theorem q_de188_11 {cc : ByteArray} {pc x y : Nat} (g0 : (Reader.u1 : Decoder Nat) cc pc = .ok (188, pc + 1)) (g1 : (Reader.u1 : Decoder Nat) cc (pc + 1) = .ok (11, pc + 1 + 1)) (g2 : (Reader.u1 : Decoder Nat) cc (pc + 1 + 1) = .ok (y, pc + 1 + 1 + 1)) : decode cc pc = .ok (.newarray .long, 2) := by
  rw [q_d0, Decoder.instr.eq_1, q_rb, g0]
  show (match (Decoder.newarray pc : Decoder Instr) cc (pc + 1) with | .error e => Except.error e | .ok x => Except.ok (x.1, x.2 - pc)) = _
  rw [Decoder.newarray.eq_1, q_rb, g1]
  show (Except.ok (_, pc + 1 + 1 - pc) : Except DecodeError (Instr × Nat)) = _
  rw [Nat.add_assoc, Nat.add_sub_cancel_left]
def q_de (v x y : Nat) : Option (Instr × Nat) := match v with
  | 3 => some (.iconst 0, 1)
  | 4 => some (.iconst 1, 1)
  | 5 => some (.iconst 2, 1)
  | 6 => some (.iconst 3, 1)
  | 7 => some (.iconst 4, 1)
  | 8 => some (.iconst 5, 1)
  | 9 => some (.lconst 0, 1)
  | 10 => some (.lconst 1, 1)
  | 42 => some (.aload_n 0, 1)
  | 43 => some (.aload_n 1, 1)
  | 44 => some (.aload_n 2, 1)
  | 45 => some (.aload_n 3, 1)
  | 46 => some (.iaload, 1)
  | 47 => some (.laload, 1)
  | 76 => some (.astore_n 1, 1)
  | 77 => some (.astore_n 2, 1)
  | 78 => some (.astore_n 3, 1)
  | 89 => some (.dup, 1)
  | 96 => some (.iadd, 1)
  | 100 => some (.isub, 1)
  | 126 => some (.iand, 1)
  | 133 => some (.i2l, 1)
  | 148 => some (.lcmp, 1)
  | 172 => some (.ireturn, 1)
  | 190 => some (.arraylength, 1)
  | 21 => some (.iload x, 2)
  | 54 => some (.istore x, 2)
  | 16 => some (.bipush (Reader.signed 8 x), 2)
  | 182 => some (.invokevirtual (x * 256 + y), 3)
  | 183 => some (.invokespecial (x * 256 + y), 3)
  | 184 => some (.invokestatic (x * 256 + y), 3)
  | 187 => some (.new (x * 256 + y), 3)
  | 153 => some (.ifCond .eq (Reader.signed 16 (x * 256 + y)), 3)
  | 154 => some (.ifCond .ne (Reader.signed 16 (x * 256 + y)), 3)
  | 159 => some (.if_icmp .eq (Reader.signed 16 (x * 256 + y)), 3)
  | 163 => some (.if_icmp .gt (Reader.signed 16 (x * 256 + y)), 3)
  | 167 => some (.goto (Reader.signed 16 (x * 256 + y)), 3)
  | 132 => some (.iinc x (Reader.signed 8 y), 3)
  | 188 => match x with
    | 10 => some (.newarray .int, 2)
    | 11 => some (.newarray .long, 2)
    | _ => none
  | _ => none
theorem q_de_ok {cc : ByteArray} {pc v x y : Nat} (g0 : (Reader.u1 : Decoder Nat) cc pc = .ok (v, pc + 1)) (g1 : (Reader.u1 : Decoder Nat) cc (pc + 1) = .ok (x, pc + 1 + 1)) (g2 : (Reader.u1 : Decoder Nat) cc (pc + 1 + 1) = .ok (y, pc + 1 + 1 + 1)) {r : Instr × Nat} (h : q_de v x y = some r) : decode cc pc = .ok r := by
  unfold q_de at h
  split at h
  · cases h; exact q_de3 g0 g1 g2
  · cases h; exact q_de4 g0 g1 g2
  · cases h; exact q_de5 g0 g1 g2
  · cases h; exact q_de6 g0 g1 g2
  · cases h; exact q_de7 g0 g1 g2
  · cases h; exact q_de8 g0 g1 g2
  · cases h; exact q_de9 g0 g1 g2
  · cases h; exact q_de10 g0 g1 g2
  · cases h; exact q_de42 g0 g1 g2
  · cases h; exact q_de43 g0 g1 g2
  · cases h; exact q_de44 g0 g1 g2
  · cases h; exact q_de45 g0 g1 g2
  · cases h; exact q_de46 g0 g1 g2
  · cases h; exact q_de47 g0 g1 g2
  · cases h; exact q_de76 g0 g1 g2
  · cases h; exact q_de77 g0 g1 g2
  · cases h; exact q_de78 g0 g1 g2
  · cases h; exact q_de89 g0 g1 g2
  · cases h; exact q_de96 g0 g1 g2
  · cases h; exact q_de100 g0 g1 g2
  · cases h; exact q_de126 g0 g1 g2
  · cases h; exact q_de133 g0 g1 g2
  · cases h; exact q_de148 g0 g1 g2
  · cases h; exact q_de172 g0 g1 g2
  · cases h; exact q_de190 g0 g1 g2
  · cases h; exact q_de21 g0 g1 g2
  · cases h; exact q_de54 g0 g1 g2
  · cases h; exact q_de16 g0 g1 g2
  · cases h; exact q_de182 g0 g1 g2
  · cases h; exact q_de183 g0 g1 g2
  · cases h; exact q_de184 g0 g1 g2
  · cases h; exact q_de187 g0 g1 g2
  · cases h; exact q_de153 g0 g1 g2
  · cases h; exact q_de154 g0 g1 g2
  · cases h; exact q_de159 g0 g1 g2
  · cases h; exact q_de163 g0 g1 g2
  · cases h; exact q_de167 g0 g1 g2
  · cases h; exact q_de132 g0 g1 g2
  · split at h
    · cases h; exact q_de188_10 (x := 0) g0 g1 g2
    · cases h; exact q_de188_11 (x := 0) g0 g1 g2
    · cases h
  · cases h
def q_dw (cc : ByteArray) : List UInt8 → Nat → List En → Bool
  | _, _, [] => true
  | l, p, e :: es => Nat.beq e.2.2.2.1 p && (match l with
    | a :: b :: c :: _ => (match q_de a.toNat b.toNat c.toNat with
      | some r => decide (r = (e.2.2.2.2.1, e.2.2.2.2.2))
      | none => decide (decode cc p = .ok (e.2.2.2.2.1, e.2.2.2.2.2)))
    | _ => decide (decode cc p = .ok (e.2.2.2.2.1, e.2.2.2.2.2))) && q_dw cc (l.drop e.2.2.2.2.2) (p + e.2.2.2.2.2) es
theorem q_dw_ok {cc : ByteArray} : ∀ (es : List En) (p : Nat) (l : List UInt8), l = cc.data.toList.drop p → q_dw cc l p es = true → ∀ (i : Nat) (e : En), es[i]? = some e → decode cc e.2.2.2.1 = .ok (e.2.2.2.2.1, e.2.2.2.2.2) ∧ (∀ e2, es[i + 1]? = some e2 → e2.2.2.2.1 = e.2.2.2.1 + e.2.2.2.2.2) := by
  intro es
  induction es with
  | nil => intro p l _ _ i e h; simp at h
  | cons e0 es ih =>
    intro p l hl hw i e he
    unfold q_dw at hw
    simp only [Bool.and_eq_true] at hw
    obtain ⟨⟨h1, h2⟩, h3⟩ := hw
    have h1 := Nat.eq_of_beq_eq_true h1
    have ht := ih _ _ (by rw [hl, List.drop_drop]) h3
    cases i with
    | succ j => exact ht j e he
    | zero =>
      simp at he
      subst he
      constructor
      · rw [h1]
        split at h2
        · rename_i a b c t
          have e0' : cc.data.toList[p]? = some a := by
            have := congrArg (fun z => z[0]?) hl; simpa [List.getElem?_drop] using this.symm
          have e1' : cc.data.toList[p + 1]? = some b := by
            have := congrArg (fun z => z[1]?) hl; simpa [List.getElem?_drop] using this.symm
          have e2' : cc.data.toList[p + 1 + 1]? = some c := by
            have := congrArg (fun z => z[2]?) hl; simpa [List.getElem?_drop, Nat.add_assoc] using this.symm
          split at h2
          · rename_i r hr
            have := of_decide_eq_true h2
            rw [← this]
            exact q_de_ok (q_u1 e0') (q_u1 e1') (q_u1 e2') hr
          · exact of_decide_eq_true h2
        · exact of_decide_eq_true h2
      · intro e2 he2
        cases es with
        | nil => simp at he2
        | cons e3 es3 =>
          simp at he2
          subst he2
          unfold q_dw at h3
          simp only [Bool.and_eq_true] at h3
          rw [Nat.eq_of_beq_eq_true h3.1.1, h1]
def q_oj0 (T : Tb) (mt : List Mr) (oi : Nat) (cc : ByteArray) (ret : Option FieldType) (ini : Bool) (pcs : Nat → Nat) (i : Nat) (e : En) : Bool :=
  match e.2.2.2.2.1 with
    | .iconst n => e.2.2.2.2.2 == 1 && decide (Int32.ofInt n = e.2.2.1)
    | .bipush n => e.2.2.2.2.2 == 2 && decide ((Int8.ofInt n).toInt32 = e.2.2.1)
    | .sipush n => e.2.2.2.2.2 == 3 && decide ((Int16.ofInt n).toInt32 = e.2.2.1)
    | .ldc n => e.2.2.2.2.2 == 2 && decide ((oi, n, e.2.2.1) ∈ T.2.2.2.2.2.1)
    | .ldc_w n => e.2.2.2.2.2 == 3 && decide ((oi, n, e.2.2.1) ∈ T.2.2.2.2.2.1)
    | _ => false
theorem q_oj0_ok {T : Tb} {mt : List Mr} {oi : Nat} {cc : ByteArray} {ret : Option FieldType} {ini : Bool} {cd : List En} {i : Nat} {e : En} (hn : q_nx cd i e.2.2.2.1 e.2.2.2.2.2 = true) (h : q_oj0 T mt oi cc ret ini (q_pc cd) i e = true) : q_ok0 T mt oi cc ret ini cd i e = true := by
  unfold q_ok0
  rw [hn]
  exact h
def q_oj1 (T : Tb) (mt : List Mr) (oi : Nat) (cc : ByteArray) (ret : Option FieldType) (ini : Bool) (pcs : Nat → Nat) (i : Nat) (e : En) : Bool :=
  match e.2.2.2.2.1 with
    | .iload n => e.2.2.2.2.2 == 2 && n == e.2.1.getD 0 0
    | .iload_n n => e.2.2.2.2.2 == 1 && n.val == e.2.1.getD 0 0
    | _ => false
theorem q_oj1_ok {T : Tb} {mt : List Mr} {oi : Nat} {cc : ByteArray} {ret : Option FieldType} {ini : Bool} {cd : List En} {i : Nat} {e : En} (hn : q_nx cd i e.2.2.2.1 e.2.2.2.2.2 = true) (h : q_oj1 T mt oi cc ret ini (q_pc cd) i e = true) : q_ok1 T mt oi cc ret ini cd i e = true := by
  unfold q_ok1
  rw [hn]
  exact h
def q_oj49 (T : Tb) (mt : List Mr) (oi : Nat) (cc : ByteArray) (ret : Option FieldType) (ini : Bool) (pcs : Nat → Nat) (i : Nat) (e : En) : Bool :=
  match e.2.2.2.2.1 with
    | .aload n => e.2.2.2.2.2 == 2 && n == e.2.1.getD 0 0
    | .aload_n n => e.2.2.2.2.2 == 1 && n.val == e.2.1.getD 0 0
    | _ => false
theorem q_oj49_ok {T : Tb} {mt : List Mr} {oi : Nat} {cc : ByteArray} {ret : Option FieldType} {ini : Bool} {cd : List En} {i : Nat} {e : En} (hn : q_nx cd i e.2.2.2.1 e.2.2.2.2.2 = true) (h : q_oj49 T mt oi cc ret ini (q_pc cd) i e = true) : q_ok49 T mt oi cc ret ini cd i e = true := by
  unfold q_ok49
  rw [hn]
  exact h
def q_oj2 (T : Tb) (mt : List Mr) (oi : Nat) (cc : ByteArray) (ret : Option FieldType) (ini : Bool) (pcs : Nat → Nat) (i : Nat) (e : En) : Bool :=
  match e.2.2.2.2.1 with
    | .istore n => e.2.2.2.2.2 == 2 && n == e.2.1.getD 0 0
    | .istore_n n => e.2.2.2.2.2 == 1 && n.val == e.2.1.getD 0 0
    | _ => false
theorem q_oj2_ok {T : Tb} {mt : List Mr} {oi : Nat} {cc : ByteArray} {ret : Option FieldType} {ini : Bool} {cd : List En} {i : Nat} {e : En} (hn : q_nx cd i e.2.2.2.1 e.2.2.2.2.2 = true) (h : q_oj2 T mt oi cc ret ini (q_pc cd) i e = true) : q_ok2 T mt oi cc ret ini cd i e = true := by
  unfold q_ok2
  rw [hn]
  exact h
def q_oj50 (T : Tb) (mt : List Mr) (oi : Nat) (cc : ByteArray) (ret : Option FieldType) (ini : Bool) (pcs : Nat → Nat) (i : Nat) (e : En) : Bool :=
  match e.2.2.2.2.1 with
    | .astore n => e.2.2.2.2.2 == 2 && n == e.2.1.getD 0 0
    | .astore_n n => e.2.2.2.2.2 == 1 && n.val == e.2.1.getD 0 0
    | _ => false
theorem q_oj50_ok {T : Tb} {mt : List Mr} {oi : Nat} {cc : ByteArray} {ret : Option FieldType} {ini : Bool} {cd : List En} {i : Nat} {e : En} (hn : q_nx cd i e.2.2.2.1 e.2.2.2.2.2 = true) (h : q_oj50 T mt oi cc ret ini (q_pc cd) i e = true) : q_ok50 T mt oi cc ret ini cd i e = true := by
  unfold q_ok50
  rw [hn]
  exact h
def q_oj3 (T : Tb) (mt : List Mr) (oi : Nat) (cc : ByteArray) (ret : Option FieldType) (ini : Bool) (pcs : Nat → Nat) (i : Nat) (e : En) : Bool :=
  match e.2.2.2.2.1 with
    | .iinc n x => e.2.2.2.2.2 == 3 && n == e.2.1.getD 0 0 && decide (Int32.ofInt x = e.2.2.1)
    | _ => false
theorem q_oj3_ok {T : Tb} {mt : List Mr} {oi : Nat} {cc : ByteArray} {ret : Option FieldType} {ini : Bool} {cd : List En} {i : Nat} {e : En} (hn : q_nx cd i e.2.2.2.1 e.2.2.2.2.2 = true) (h : q_oj3 T mt oi cc ret ini (q_pc cd) i e = true) : q_ok3 T mt oi cc ret ini cd i e = true := by
  unfold q_ok3
  rw [hn]
  exact h
def q_oj4 (T : Tb) (mt : List Mr) (oi : Nat) (cc : ByteArray) (ret : Option FieldType) (ini : Bool) (pcs : Nat → Nat) (i : Nat) (e : En) : Bool :=
  e.2.2.2.2.2 == 1 && match e.2.2.2.2.1 with
    | .iadd => e.2.1.getD 0 0 == 0
    | .isub => e.2.1.getD 0 0 == 1
    | .imul => e.2.1.getD 0 0 == 2
    | .iand => e.2.1.getD 0 0 == 3
    | .ior => e.2.1.getD 0 0 == 4
    | .ixor => e.2.1.getD 0 0 == 5
    | .ishl => e.2.1.getD 0 0 == 6
    | .ishr => e.2.1.getD 0 0 == 7
    | .iushr => e.2.1.getD 0 0 == 8
    | _ => false
theorem q_oj4_ok {T : Tb} {mt : List Mr} {oi : Nat} {cc : ByteArray} {ret : Option FieldType} {ini : Bool} {cd : List En} {i : Nat} {e : En} (hn : q_nx cd i e.2.2.2.1 e.2.2.2.2.2 = true) (h : q_oj4 T mt oi cc ret ini (q_pc cd) i e = true) : q_ok4 T mt oi cc ret ini cd i e = true := by
  unfold q_ok4
  rw [hn]
  exact h
def q_oj9 (T : Tb) (mt : List Mr) (oi : Nat) (cc : ByteArray) (ret : Option FieldType) (ini : Bool) (pcs : Nat → Nat) (i : Nat) (e : En) : Bool :=
  decide ((e.2.2.2.2.1, e.2.2.2.2.2) = (Instr.i2l, 1))
theorem q_oj9_ok {T : Tb} {mt : List Mr} {oi : Nat} {cc : ByteArray} {ret : Option FieldType} {ini : Bool} {cd : List En} {i : Nat} {e : En} (hn : q_nx cd i e.2.2.2.1 e.2.2.2.2.2 = true) (h : q_oj9 T mt oi cc ret ini (q_pc cd) i e = true) : q_ok9 T mt oi cc ret ini cd i e = true := by
  unfold q_ok9
  rw [hn]
  exact h
def q_oj10 (T : Tb) (mt : List Mr) (oi : Nat) (cc : ByteArray) (ret : Option FieldType) (ini : Bool) (pcs : Nat → Nat) (i : Nat) (e : En) : Bool :=
  decide ((e.2.2.2.2.1, e.2.2.2.2.2) = (Instr.dup, 1))
theorem q_oj10_ok {T : Tb} {mt : List Mr} {oi : Nat} {cc : ByteArray} {ret : Option FieldType} {ini : Bool} {cd : List En} {i : Nat} {e : En} (hn : q_nx cd i e.2.2.2.1 e.2.2.2.2.2 = true) (h : q_oj10 T mt oi cc ret ini (q_pc cd) i e = true) : q_ok10 T mt oi cc ret ini cd i e = true := by
  unfold q_ok10
  rw [hn]
  exact h
def q_oj12 (T : Tb) (mt : List Mr) (oi : Nat) (cc : ByteArray) (ret : Option FieldType) (ini : Bool) (pcs : Nat → Nat) (i : Nat) (e : En) : Bool :=
  e.2.2.2.2.2 == 3 && match e.2.2.2.2.1 with
    | .if_icmp .eq off => e.2.1.getD 0 0 == 0 && q_tgj pcs (e.2.1.getD 1 0) e.2.2.2.1 off
    | .if_icmp .ne off => e.2.1.getD 0 0 == 1 && q_tgj pcs (e.2.1.getD 1 0) e.2.2.2.1 off
    | .if_icmp .lt off => e.2.1.getD 0 0 == 2 && q_tgj pcs (e.2.1.getD 1 0) e.2.2.2.1 off
    | .if_icmp .ge off => e.2.1.getD 0 0 == 3 && q_tgj pcs (e.2.1.getD 1 0) e.2.2.2.1 off
    | .if_icmp .gt off => e.2.1.getD 0 0 == 4 && q_tgj pcs (e.2.1.getD 1 0) e.2.2.2.1 off
    | .if_icmp .le off => e.2.1.getD 0 0 == 5 && q_tgj pcs (e.2.1.getD 1 0) e.2.2.2.1 off
    | _ => false
theorem q_oj12_ok {T : Tb} {mt : List Mr} {oi : Nat} {cc : ByteArray} {ret : Option FieldType} {ini : Bool} {cd : List En} {i : Nat} {e : En} (hn : q_nx cd i e.2.2.2.1 e.2.2.2.2.2 = true) (h : q_oj12 T mt oi cc ret ini (q_pc cd) i e = true) : q_ok12 T mt oi cc ret ini cd i e = true := by
  unfold q_ok12
  rw [hn]
  exact h
def q_oj13 (T : Tb) (mt : List Mr) (oi : Nat) (cc : ByteArray) (ret : Option FieldType) (ini : Bool) (pcs : Nat → Nat) (i : Nat) (e : En) : Bool :=
  e.2.2.2.2.2 == 3 && match e.2.2.2.2.1 with
    | .ifCond .eq off => e.2.1.getD 0 0 == 0 && q_tgj pcs (e.2.1.getD 1 0) e.2.2.2.1 off
    | .ifCond .ne off => e.2.1.getD 0 0 == 1 && q_tgj pcs (e.2.1.getD 1 0) e.2.2.2.1 off
    | .ifCond .lt off => e.2.1.getD 0 0 == 2 && q_tgj pcs (e.2.1.getD 1 0) e.2.2.2.1 off
    | .ifCond .ge off => e.2.1.getD 0 0 == 3 && q_tgj pcs (e.2.1.getD 1 0) e.2.2.2.1 off
    | .ifCond .gt off => e.2.1.getD 0 0 == 4 && q_tgj pcs (e.2.1.getD 1 0) e.2.2.2.1 off
    | .ifCond .le off => e.2.1.getD 0 0 == 5 && q_tgj pcs (e.2.1.getD 1 0) e.2.2.2.1 off
    | _ => false
theorem q_oj13_ok {T : Tb} {mt : List Mr} {oi : Nat} {cc : ByteArray} {ret : Option FieldType} {ini : Bool} {cd : List En} {i : Nat} {e : En} (hn : q_nx cd i e.2.2.2.1 e.2.2.2.2.2 = true) (h : q_oj13 T mt oi cc ret ini (q_pc cd) i e = true) : q_ok13 T mt oi cc ret ini cd i e = true := by
  unfold q_ok13
  rw [hn]
  exact h
def q_oj14 (T : Tb) (mt : List Mr) (oi : Nat) (cc : ByteArray) (ret : Option FieldType) (ini : Bool) (pcs : Nat → Nat) (i : Nat) (e : En) : Bool :=
  e.2.2.2.2.2 == 3 && match e.2.2.2.2.1 with
    | .goto off => q_tgj pcs (e.2.1.getD 0 0) e.2.2.2.1 off
    | _ => false
theorem q_oj14_ok {T : Tb} {mt : List Mr} {oi : Nat} {cc : ByteArray} {ret : Option FieldType} {ini : Bool} {cd : List En} {i : Nat} {e : En} (h : q_oj14 T mt oi cc ret ini (q_pc cd) i e = true) : q_ok14 T mt oi cc ret ini cd i e = true := h
def q_oj23 (T : Tb) (mt : List Mr) (oi : Nat) (cc : ByteArray) (ret : Option FieldType) (ini : Bool) (pcs : Nat → Nat) (i : Nat) (e : En) : Bool :=
  decide ((e.2.2.2.2.1, e.2.2.2.2.2) = (Instr.laload, 1))
theorem q_oj23_ok {T : Tb} {mt : List Mr} {oi : Nat} {cc : ByteArray} {ret : Option FieldType} {ini : Bool} {cd : List En} {i : Nat} {e : En} (hn : q_nx cd i e.2.2.2.1 e.2.2.2.2.2 = true) (h : q_oj23 T mt oi cc ret ini (q_pc cd) i e = true) : q_ok23 T mt oi cc ret ini cd i e = true := by
  unfold q_ok23
  rw [hn]
  exact h
def q_oj27 (T : Tb) (mt : List Mr) (oi : Nat) (cc : ByteArray) (ret : Option FieldType) (ini : Bool) (pcs : Nat → Nat) (i : Nat) (e : En) : Bool :=
  decide ((e.2.2.2.2.1, e.2.2.2.2.2) = (Instr.iaload, 1))
theorem q_oj27_ok {T : Tb} {mt : List Mr} {oi : Nat} {cc : ByteArray} {ret : Option FieldType} {ini : Bool} {cd : List En} {i : Nat} {e : En} (hn : q_nx cd i e.2.2.2.1 e.2.2.2.2.2 = true) (h : q_oj27 T mt oi cc ret ini (q_pc cd) i e = true) : q_ok27 T mt oi cc ret ini cd i e = true := by
  unfold q_ok27
  rw [hn]
  exact h
def q_oj28 (T : Tb) (mt : List Mr) (oi : Nat) (cc : ByteArray) (ret : Option FieldType) (ini : Bool) (pcs : Nat → Nat) (i : Nat) (e : En) : Bool :=
  decide ((e.2.2.2.2.1, e.2.2.2.2.2) = (Instr.arraylength, 1))
theorem q_oj28_ok {T : Tb} {mt : List Mr} {oi : Nat} {cc : ByteArray} {ret : Option FieldType} {ini : Bool} {cd : List En} {i : Nat} {e : En} (hn : q_nx cd i e.2.2.2.1 e.2.2.2.2.2 = true) (h : q_oj28 T mt oi cc ret ini (q_pc cd) i e = true) : q_ok28 T mt oi cc ret ini cd i e = true := by
  unfold q_ok28
  rw [hn]
  exact h
def q_oj29 (T : Tb) (mt : List Mr) (oi : Nat) (cc : ByteArray) (ret : Option FieldType) (ini : Bool) (pcs : Nat → Nat) (i : Nat) (e : En) : Bool :=
  e.2.2.2.2.2 == 3 && match e.2.2.2.2.1 with
    | .new n => decide ((oi, n, e.2.1.getD 0 0) ∈ T.2.2.2.2.1) && (match vwCl[e.2.1.getD 0 0]? with
      | some q => q.2.2 == e.2.1.getD 1 0
      | none => false)
    | _ => false
theorem q_oj29_ok {T : Tb} {mt : List Mr} {oi : Nat} {cc : ByteArray} {ret : Option FieldType} {ini : Bool} {cd : List En} {i : Nat} {e : En} (hn : q_nx cd i e.2.2.2.1 e.2.2.2.2.2 = true) (h : q_oj29 T mt oi cc ret ini (q_pc cd) i e = true) : q_ok29 T mt oi cc ret ini cd i e = true := by
  unfold q_ok29
  rw [hn]
  exact h
def q_oj30 (T : Tb) (mt : List Mr) (oi : Nat) (cc : ByteArray) (ret : Option FieldType) (ini : Bool) (pcs : Nat → Nat) (i : Nat) (e : En) : Bool :=
  e.2.2.2.2.2 == 2 && match e.2.2.2.2.1 with
    | .newarray .int => e.2.1.getD 0 0 == 100
    | .newarray .byte => e.2.1.getD 0 0 == 101
    | .newarray .long => e.2.1.getD 0 0 == 102
    | _ => false
theorem q_oj30_ok {T : Tb} {mt : List Mr} {oi : Nat} {cc : ByteArray} {ret : Option FieldType} {ini : Bool} {cd : List En} {i : Nat} {e : En} (hn : q_nx cd i e.2.2.2.1 e.2.2.2.2.2 = true) (h : q_oj30 T mt oi cc ret ini (q_pc cd) i e = true) : q_ok30 T mt oi cc ret ini cd i e = true := by
  unfold q_ok30
  rw [hn]
  exact h
def q_oj51 (T : Tb) (mt : List Mr) (oi : Nat) (cc : ByteArray) (ret : Option FieldType) (ini : Bool) (pcs : Nat → Nat) (i : Nat) (e : En) : Bool :=
  e.2.2.2.2.2 == 3 && (match mt[e.2.1.getD 0 0]? with
    | none => false
    | some r => (match e.2.2.2.2.1 with
      | .invokevirtual n => r.2.2.2.2.1 == 0 && e.2.1.getD 1 0 == r.2.2.2.2.2.2 + 1 && decide ((oi, n, e.2.1.getD 0 0) ∈ T.2.1) && (match vwCl[e.2.1.getD 3 0]? with
        | some q => decide (r.1.cls = q.1)
        | none => false)
      | _ => false))
theorem q_oj51_ok {T : Tb} {mt : List Mr} {oi : Nat} {cc : ByteArray} {ret : Option FieldType} {ini : Bool} {cd : List En} {i : Nat} {e : En} (hn : q_nx cd i e.2.2.2.1 e.2.2.2.2.2 = true) (h : q_oj51 T mt oi cc ret ini (q_pc cd) i e = true) : q_ok51 T mt oi cc ret ini cd i e = true := by
  unfold q_ok51
  rw [hn]
  exact h
def q_oj52 (T : Tb) (mt : List Mr) (oi : Nat) (cc : ByteArray) (ret : Option FieldType) (ini : Bool) (pcs : Nat → Nat) (i : Nat) (e : En) : Bool :=
  e.2.2.2.2.2 == 3 && (match mt[e.2.1.getD 0 0]? with
    | none => false
    | some r => (match e.2.2.2.2.1 with
      | .invokespecial n => r.2.2.2.2.1 == 2 && e.2.1.getD 1 0 == r.2.2.2.2.2.2 + 1 && (decide ((oi, n, e.2.1.getD 0 0) ∈ T.2.1) || decide ((oi, n, e.2.1.getD 0 0) ∈ T.2.2.1))
      | _ => false))
theorem q_oj52_ok {T : Tb} {mt : List Mr} {oi : Nat} {cc : ByteArray} {ret : Option FieldType} {ini : Bool} {cd : List En} {i : Nat} {e : En} (hn : q_nx cd i e.2.2.2.1 e.2.2.2.2.2 = true) (h : q_oj52 T mt oi cc ret ini (q_pc cd) i e = true) : q_ok52 T mt oi cc ret ini cd i e = true := by
  unfold q_ok52
  rw [hn]
  exact h
def q_oj53 (T : Tb) (mt : List Mr) (oi : Nat) (cc : ByteArray) (ret : Option FieldType) (ini : Bool) (pcs : Nat → Nat) (i : Nat) (e : En) : Bool :=
  e.2.2.2.2.2 == 3 && (match mt[e.2.1.getD 0 0]? with
    | none => false
    | some r => (match e.2.2.2.2.1 with
      | .invokestatic n => r.2.2.2.2.1 == 4 && e.2.1.getD 1 0 == r.2.2.2.2.2.2 && decide ((oi, n, e.2.1.getD 0 0) ∈ T.2.1)
      | _ => false))
theorem q_oj53_ok {T : Tb} {mt : List Mr} {oi : Nat} {cc : ByteArray} {ret : Option FieldType} {ini : Bool} {cd : List En} {i : Nat} {e : En} (hn : q_nx cd i e.2.2.2.1 e.2.2.2.2.2 = true) (h : q_oj53 T mt oi cc ret ini (q_pc cd) i e = true) : q_ok53 T mt oi cc ret ini cd i e = true := by
  unfold q_ok53
  rw [hn]
  exact h
def q_oj43 (T : Tb) (mt : List Mr) (oi : Nat) (cc : ByteArray) (ret : Option FieldType) (ini : Bool) (pcs : Nat → Nat) (i : Nat) (e : En) : Bool :=
  decide ((e.2.2.2.2.1, e.2.2.2.2.2) = (Instr.ireturn, 1)) && decide (ret = some .boolean)
theorem q_oj43_ok {T : Tb} {mt : List Mr} {oi : Nat} {cc : ByteArray} {ret : Option FieldType} {ini : Bool} {cd : List En} {i : Nat} {e : En} (h : q_oj43 T mt oi cc ret ini (q_pc cd) i e = true) : q_ok43 T mt oi cc ret ini cd i e = true := h
def q_oj45 (T : Tb) (mt : List Mr) (oi : Nat) (cc : ByteArray) (ret : Option FieldType) (ini : Bool) (pcs : Nat → Nat) (i : Nat) (e : En) : Bool :=
  match e.2.2.2.2.1 with
    | .tableswitch dflt lo hi offs => decide (lo = 0) && decide (hi + 1 = (offs.size : Int)) && decide (offs.size + 1 = e.2.1.length) && decide (offs.size < 1000) && q_tgj pcs (e.2.1.getD 0 0) e.2.2.2.1 dflt && (List.range offs.size).all (fun j => q_tgj pcs (e.2.1.getD (j + 1) 0) e.2.2.2.1 (offs.getD j 0))
    | _ => false
theorem q_oj45_ok {T : Tb} {mt : List Mr} {oi : Nat} {cc : ByteArray} {ret : Option FieldType} {ini : Bool} {cd : List En} {i : Nat} {e : En} (h : q_oj45 T mt oi cc ret ini (q_pc cd) i e = true) : q_ok45 T mt oi cc ret ini cd i e = true := h
def q_oj46 (T : Tb) (mt : List Mr) (oi : Nat) (cc : ByteArray) (ret : Option FieldType) (ini : Bool) (pcs : Nat → Nat) (i : Nat) (e : En) : Bool :=
  decide ((e.2.2.2.2.1, e.2.2.2.2.2) = (Instr.lcmp, 1))
theorem q_oj46_ok {T : Tb} {mt : List Mr} {oi : Nat} {cc : ByteArray} {ret : Option FieldType} {ini : Bool} {cd : List En} {i : Nat} {e : En} (hn : q_nx cd i e.2.2.2.1 e.2.2.2.2.2 = true) (h : q_oj46 T mt oi cc ret ini (q_pc cd) i e = true) : q_ok46 T mt oi cc ret ini cd i e = true := by
  unfold q_ok46
  rw [hn]
  exact h
def q_oj47 (T : Tb) (mt : List Mr) (oi : Nat) (cc : ByteArray) (ret : Option FieldType) (ini : Bool) (pcs : Nat → Nat) (i : Nat) (e : En) : Bool :=
  e.2.2.2.2.2 == 1 && match e.2.2.2.2.1 with
    | .lconst n => n.val == e.2.1.getD 0 0
    | _ => false
theorem q_oj47_ok {T : Tb} {mt : List Mr} {oi : Nat} {cc : ByteArray} {ret : Option FieldType} {ini : Bool} {cd : List En} {i : Nat} {e : En} (hn : q_nx cd i e.2.2.2.1 e.2.2.2.2.2 = true) (h : q_oj47 T mt oi cc ret ini (q_pc cd) i e = true) : q_ok47 T mt oi cc ret ini cd i e = true := by
  unfold q_ok47
  rw [hn]
  exact h
def q_oj (T : Tb) (mt : List Mr) (oi : Nat) (cc : ByteArray) (ret : Option FieldType) (ini : Bool) (pcs : Nat → Nat) (last : Nat) (i : Nat) (e : En) : Bool := match e.1 with
  | 0 => Nat.blt i last && q_oj0 T mt oi cc ret ini pcs i e
  | 1 => Nat.blt i last && q_oj1 T mt oi cc ret ini pcs i e
  | 2 => Nat.blt i last && q_oj2 T mt oi cc ret ini pcs i e
  | 3 => Nat.blt i last && q_oj3 T mt oi cc ret ini pcs i e
  | 4 => Nat.blt i last && q_oj4 T mt oi cc ret ini pcs i e
  | 9 => Nat.blt i last && q_oj9 T mt oi cc ret ini pcs i e
  | 10 => Nat.blt i last && q_oj10 T mt oi cc ret ini pcs i e
  | 12 => Nat.blt i last && q_oj12 T mt oi cc ret ini pcs i e
  | 13 => Nat.blt i last && q_oj13 T mt oi cc ret ini pcs i e
  | 14 => q_oj14 T mt oi cc ret ini pcs i e
  | 23 => Nat.blt i last && q_oj23 T mt oi cc ret ini pcs i e
  | 27 => Nat.blt i last && q_oj27 T mt oi cc ret ini pcs i e
  | 28 => Nat.blt i last && q_oj28 T mt oi cc ret ini pcs i e
  | 29 => Nat.blt i last && q_oj29 T mt oi cc ret ini pcs i e
  | 30 => Nat.blt i last && q_oj30 T mt oi cc ret ini pcs i e
  | 43 => q_oj43 T mt oi cc ret ini pcs i e
  | 45 => q_oj45 T mt oi cc ret ini pcs i e
  | 46 => Nat.blt i last && q_oj46 T mt oi cc ret ini pcs i e
  | 47 => Nat.blt i last && q_oj47 T mt oi cc ret ini pcs i e
  | 49 => Nat.blt i last && q_oj49 T mt oi cc ret ini pcs i e
  | 50 => Nat.blt i last && q_oj50 T mt oi cc ret ini pcs i e
  | 51 => Nat.blt i last && q_oj51 T mt oi cc ret ini pcs i e
  | 52 => Nat.blt i last && q_oj52 T mt oi cc ret ini pcs i e
  | 53 => Nat.blt i last && q_oj53 T mt oi cc ret ini pcs i e
  | _ => false
theorem q_oj_ok {T : Tb} {mt : List Mr} {oi : Nat} {cc : ByteArray} {ret : Option FieldType} {ini : Bool} {cd : List En} {last i : Nat} {e : En} (hd : decode cc e.2.2.2.1 = .ok (e.2.2.2.2.1, e.2.2.2.2.2)) (hn : i < last → q_nx cd i e.2.2.2.1 e.2.2.2.2.2 = true) (h : q_oj T mt oi cc ret ini (q_pc cd) last i e = true) : q_ok T mt oi cc ret ini cd i e = true := by
  obtain ⟨op, info, c0, pc, ins, len⟩ := e
  unfold q_ok
  rw [decide_eq_true hd, Bool.true_and]
  unfold q_oj at h
  split at h
  · rename_i he; dsimp only at he; subst he; rw [Bool.and_eq_true] at h; exact q_oj0_ok (hn (Nat.le_of_ble_eq_true h.1)) h.2
  · rename_i he; dsimp only at he; subst he; rw [Bool.and_eq_true] at h; exact q_oj1_ok (hn (Nat.le_of_ble_eq_true h.1)) h.2
  · rename_i he; dsimp only at he; subst he; rw [Bool.and_eq_true] at h; exact q_oj2_ok (hn (Nat.le_of_ble_eq_true h.1)) h.2
  · rename_i he; dsimp only at he; subst he; rw [Bool.and_eq_true] at h; exact q_oj3_ok (hn (Nat.le_of_ble_eq_true h.1)) h.2
  · rename_i he; dsimp only at he; subst he; rw [Bool.and_eq_true] at h; exact q_oj4_ok (hn (Nat.le_of_ble_eq_true h.1)) h.2
  · rename_i he; dsimp only at he; subst he; rw [Bool.and_eq_true] at h; exact q_oj9_ok (hn (Nat.le_of_ble_eq_true h.1)) h.2
  · rename_i he; dsimp only at he; subst he; rw [Bool.and_eq_true] at h; exact q_oj10_ok (hn (Nat.le_of_ble_eq_true h.1)) h.2
  · rename_i he; dsimp only at he; subst he; rw [Bool.and_eq_true] at h; exact q_oj12_ok (hn (Nat.le_of_ble_eq_true h.1)) h.2
  · rename_i he; dsimp only at he; subst he; rw [Bool.and_eq_true] at h; exact q_oj13_ok (hn (Nat.le_of_ble_eq_true h.1)) h.2
  · rename_i he; dsimp only at he; subst he; exact q_oj14_ok h
  · rename_i he; dsimp only at he; subst he; rw [Bool.and_eq_true] at h; exact q_oj23_ok (hn (Nat.le_of_ble_eq_true h.1)) h.2
  · rename_i he; dsimp only at he; subst he; rw [Bool.and_eq_true] at h; exact q_oj27_ok (hn (Nat.le_of_ble_eq_true h.1)) h.2
  · rename_i he; dsimp only at he; subst he; rw [Bool.and_eq_true] at h; exact q_oj28_ok (hn (Nat.le_of_ble_eq_true h.1)) h.2
  · rename_i he; dsimp only at he; subst he; rw [Bool.and_eq_true] at h; exact q_oj29_ok (hn (Nat.le_of_ble_eq_true h.1)) h.2
  · rename_i he; dsimp only at he; subst he; rw [Bool.and_eq_true] at h; exact q_oj30_ok (hn (Nat.le_of_ble_eq_true h.1)) h.2
  · rename_i he; dsimp only at he; subst he; exact q_oj43_ok h
  · rename_i he; dsimp only at he; subst he; exact q_oj45_ok h
  · rename_i he; dsimp only at he; subst he; rw [Bool.and_eq_true] at h; exact q_oj46_ok (hn (Nat.le_of_ble_eq_true h.1)) h.2
  · rename_i he; dsimp only at he; subst he; rw [Bool.and_eq_true] at h; exact q_oj47_ok (hn (Nat.le_of_ble_eq_true h.1)) h.2
  · rename_i he; dsimp only at he; subst he; rw [Bool.and_eq_true] at h; exact q_oj49_ok (hn (Nat.le_of_ble_eq_true h.1)) h.2
  · rename_i he; dsimp only at he; subst he; rw [Bool.and_eq_true] at h; exact q_oj50_ok (hn (Nat.le_of_ble_eq_true h.1)) h.2
  · rename_i he; dsimp only at he; subst he; rw [Bool.and_eq_true] at h; exact q_oj51_ok (hn (Nat.le_of_ble_eq_true h.1)) h.2
  · rename_i he; dsimp only at he; subst he; rw [Bool.and_eq_true] at h; exact q_oj52_ok (hn (Nat.le_of_ble_eq_true h.1)) h.2
  · rename_i he; dsimp only at he; subst he; rw [Bool.and_eq_true] at h; exact q_oj53_ok (hn (Nat.le_of_ble_eq_true h.1)) h.2
  · cases h
/-- a table in two levels -/
def q_t2 (L : List (List Nat)) (t : Nat) : Nat := match L[t / 40]? with
  | none => 0
  | some l => match l[t % 40]? with
    | none => 0
    | some v => v
theorem q_t2_eq : ∀ (L : List (List Nat)) (last : List Nat), (∀ l ∈ L, l.length = 40) → last.length ≤ 40 → ∀ t, q_t2 (L ++ [last]) t = ((L.flatten ++ last)[t]?).getD 0 := by
  intro L last hL hl
  induction L with
  | nil =>
    intro t
    unfold q_t2
    by_cases h : t < 40
    · rw [Nat.div_eq_of_lt h, Nat.mod_eq_of_lt h]
      simp
      cases last[t]? <;> rfl
    · have h1 : t / 40 ≠ 0 := by omega
      have h2 : last.length ≤ t := by omega
      have h3 : ([] ++ [last] : List (List Nat))[t / 40]? = none := by rw [List.getElem?_eq_none_iff]; simp; omega
      rw [h3]
      simp [List.getElem?_eq_none_iff.mpr h2]
  | cons a L ih =>
    intro t
    have ha := hL a (List.mem_cons_self ..)
    have ih := ih (fun l h => hL l (List.mem_cons_of_mem _ h))
    by_cases h : t < 40
    · unfold q_t2
      rw [Nat.div_eq_of_lt h, Nat.mod_eq_of_lt h]
      simp only [List.cons_append, List.getElem?_cons_zero, List.flatten_cons, List.append_assoc]
      rw [List.getElem?_append_left (by omega)]
      cases a[t]? <;> rfl
    · have e1 : t = (t - 40) + 40 := by omega
      have := ih (t - 40)
      rw [List.flatten_cons, List.append_assoc, List.getElem?_append_right (by omega), ha, ← this]
      unfold q_t2
      have e2 : t / 40 = (t - 40) / 40 + 1 := by omega
      have e3 : t % 40 = (t - 40) % 40 := by omega
      rw [e2, e3, List.cons_append, List.getElem?_cons_succ]
theorem q_pc_map (cd : List En) (t : Nat) : q_pc cd t = ((cd.map (fun e => e.2.2.2.1))[t]?).getD 0 := by
  unfold q_pc
  rw [List.getElem?_map]
  cases cd[t]? <;> rfl
def q_wkl (f : Nat → En → Bool) : Nat → List En → Bool
  | _, [] => true
  | i, e :: es => f i e && q_wkl f (i + 1) es
theorem q_wkl_ok {f : Nat → En → Bool} : ∀ (es : List En) (a : Nat), q_wkl f a es = true → ∀ (i : Nat) (e : En), es[i]? = some e → f (a + i) e = true := by
  intro es
  induction es with
  | nil => intro a _ i e h; simp at h
  | cons e0 es ih =>
    intro a h i e he
    unfold q_wkl at h
    rw [Bool.and_eq_true] at h
    cases i with
    | zero => simp at he; subst he; exact h.1
    | succ j => have := ih (a + 1) h.2 j e he; rwa [show a + 1 + j = a + (j + 1) by omega] at this
def q_lp : List (List Nat) := [[0, 3, 4, 7, 8, 11, 12, 15, 16, 17, 19, 20, 21, 23, 25, 26, 27, 29, 30, 33, 34, 36, 37, 39, 40, 248, 249, 250, 252, 253, 254, 255, 256, 258, 259, 260, 261, 262, 264, 265],
  [266, 267, 268, 270, 271, 272, 273, 274, 276, 277, 278, 279, 282, 283, 284, 286, 287, 288, 289, 290, 292, 293, 294, 295, 296, 298, 299, 300, 301, 302, 304, 305, 306, 307, 308, 310, 311, 312, 313, 316],
  [319, 320, 321, 322, 323, 325, 326, 327, 328, 331, 332, 333, 335, 336, 337, 338, 341, 344, 345, 346, 347, 348, 351, 353, 354, 357, 359, 360, 363, 365, 368, 369, 370, 372, 375, 376, 377, 378, 380, 381],
  [382, 385, 386, 387, 390, 391, 392, 395, 397, 398, 401, 403, 404, 407, 409, 412, 413, 414, 416, 419, 420, 421, 422, 424, 425, 426, 429, 430, 431, 434, 435, 438, 439, 442, 445, 446, 447, 448, 449, 451],
  [452, 453, 454, 455, 457, 458, 459, 460, 461, 464, 466, 467, 468, 470, 471, 472, 473, 474, 476, 477, 478, 479, 482, 484, 485, 488, 490, 493, 494, 495, 497, 500, 501, 502, 503, 505, 506, 507, 510, 511],
  [512, 515, 516, 517, 519, 520, 521, 522, 523, 525, 526, 527, 528, 529, 531, 532, 533, 534, 537, 538, 541, 542, 543, 546, 548, 549, 550, 552, 553, 554, 555, 556, 558, 559, 560, 561, 562, 564, 565, 566],
  [567, 570, 571, 574, 575, 578, 580, 581, 584, 586, 589, 590, 591, 593, 596, 597, 598, 599, 601, 602, 603, 606, 607, 608, 611, 612, 613, 615, 616, 617, 618, 619, 622, 624, 625, 626, 628, 629, 630, 631],
  [634, 636, 637, 640, 642, 645, 646, 647, 649, 652, 653, 654, 655, 657, 658, 659, 662, 663, 664, 667, 668, 669, 671, 672, 673, 674, 675, 677, 678, 679, 680, 681, 684, 686, 687, 688, 690, 691, 692, 693],
  [694, 696, 697, 698, 699, 702, 704, 705, 708, 710, 713, 714, 715, 717, 720, 721, 722, 723, 725, 726, 727, 730, 731, 732, 735, 736, 737, 739, 740, 741, 742, 743, 745, 746, 747, 748, 749, 752, 754, 755],
  [756, 758, 759, 760, 761, 762, 764, 765, 766, 767, 770, 772, 773, 776, 778, 781, 782, 783, 785, 788, 789, 790, 791, 793, 794, 795, 798, 799, 800, 803, 804, 805, 807, 808, 809, 810, 811, 813, 814, 815],
  [816, 817, 819, 820, 821, 822, 823, 826, 828, 829, 830, 832, 833, 834, 835, 836, 838, 839, 840, 841, 842, 844, 845, 846, 847, 850, 852, 853, 856, 858, 861, 862, 863, 865, 868, 869, 870, 871, 873, 874],
  [875, 878, 879, 880, 883, 884, 885, 887, 888, 889, 890, 891, 894, 896, 897, 898, 900, 901, 902, 903, 906, 908, 909, 912, 914, 917, 918, 919, 921, 924, 925, 926, 927, 929, 932, 933, 936, 937, 938, 941],
  [942, 943, 946, 947, 948, 950, 951, 952, 953, 954, 956, 957, 958, 959, 960, 963, 965, 966, 967, 969, 970, 971, 972, 973, 975, 976, 977, 978, 981, 983, 984, 987, 989, 992, 993, 994, 996, 999, 1000, 1001],
  [1002, 1004, 1005, 1006, 1009, 1010, 1011, 1014, 1015, 1016, 1018, 1019, 1020, 1021, 1022, 1024, 1025, 1026, 1027, 1028, 1031, 1033, 1034, 1035, 1037, 1038, 1039, 1040, 1041, 1043, 1044, 1045, 1046, 1049, 1051, 1052, 1055, 1057, 1060, 1061],
  [1062, 1064, 1067, 1068, 1069, 1070, 1072, 1073, 1074, 1077, 1078, 1079, 1082, 1083, 1084, 1086, 1087, 1088, 1089, 1090, 1093, 1095, 1096, 1097, 1099, 1100, 1101, 1102, 1105, 1107, 1108, 1111, 1113, 1116, 1117, 1118, 1120, 1123, 1124, 1125],
  [1126, 1128, 1129, 1130, 1133, 1134, 1135, 1138, 1139, 1140, 1142, 1143, 1144, 1145, 1146, 1148, 1149, 1150, 1151, 1152, 1154, 1155, 1156, 1157, 1158, 1161, 1163, 1164, 1165, 1167, 1168, 1169, 1170, 1171, 1173, 1174, 1175, 1176, 1177, 1179],
  [1180, 1181, 1182, 1185, 1187, 1188, 1191, 1193, 1196, 1197, 1198, 1200, 1203, 1204, 1205, 1206, 1208, 1209, 1210, 1213, 1214, 1215, 1218, 1219, 1220, 1222, 1223, 1224, 1225, 1226, 1228, 1229, 1230, 1231, 1232, 1235, 1237, 1238, 1239, 1241],
  [1242, 1243, 1244, 1245, 1247, 1248, 1249, 1250, 1253, 1255, 1256, 1259, 1261, 1264, 1265, 1266, 1268, 1271, 1272, 1273, 1274, 1276, 1277, 1278, 1281, 1282, 1283, 1286, 1287, 1290, 1291, 1294, 1297, 1298, 1299, 1300, 1301, 1303, 1304, 1305],
  [1306, 1309, 1310, 1311, 1313, 1314, 1315, 1316, 1319, 1322, 1323, 1324, 1325, 1326, 1328, 1329, 1330, 1331, 1332, 1335, 1337, 1338, 1339, 1341, 1342, 1343, 1344, 1347, 1349, 1350, 1353, 1355, 1358, 1359, 1360, 1362, 1365, 1366, 1367, 1368],
  [1370, 1371, 1372, 1375, 1376, 1377, 1380, 1381, 1384, 1385, 1388, 1391, 1392, 1393, 1394, 1397, 1398, 1401, 1404, 1405, 1406, 1407, 1408, 1410, 1411, 1412, 1413, 1416, 1417, 1420, 1421, 1422, 1425, 1427, 1428, 1429, 1431, 1432, 1433, 1434],
  [1437, 1438, 1441, 1442, 1445, 1447, 1448, 1451, 1453, 1456, 1457, 1458, 1460, 1463, 1464, 1465, 1466, 1468, 1469, 1470, 1473, 1474, 1475, 1478, 1479, 1480, 1483, 1485, 1486, 1489, 1491, 1492, 1495, 1497, 1500, 1501, 1502, 1504, 1507, 1508],
  [1509, 1510, 1512, 1513, 1514, 1517, 1518, 1519, 1522, 1523, 1526, 1527, 1530, 1533, 1534, 1535, 1536, 1537, 1539, 1540, 1541, 1542, 1543, 1546, 1548, 1549, 1550, 1552, 1553, 1554, 1555, 1558, 1560, 1561, 1564, 1566, 1569, 1570, 1571, 1573],
  [1576, 1577, 1578, 1579, 1581, 1582, 1583, 1586, 1587, 1588, 1591, 1592, 1593, 1595, 1596, 1597, 1598, 1599, 1602, 1604, 1605, 1606, 1608, 1609, 1610, 1611, 1614, 1616, 1617, 1620, 1622, 1625, 1626, 1627, 1629, 1632, 1633, 1634, 1635, 1637],
  [1638, 1639, 1642, 1643, 1644, 1647, 1648, 1649, 1651, 1652, 1653, 1654, 1657, 1658, 1659, 1661, 1662, 1663, 1664, 1667, 1670, 1671, 1672, 1673, 1674, 1676, 1677, 1678, 1679, 1682, 1683, 1686, 1687, 1690, 1691, 1692, 1694, 1695, 1696, 1697],
  [1700, 1701, 1704, 1705, 1708, 1711, 1712, 1713, 1714, 1717, 1718, 1721, 1724, 1725, 1726, 1727, 1728, 1730, 1731, 1732, 1733, 1734, 1736, 1737, 1738, 1739, 1740, 1742, 1743, 1744, 1745, 1746, 1749, 1751, 1752, 1753, 1755, 1756, 1757, 1758],
  [1759, 1761, 1762, 1763, 1764, 1765, 1767, 1768, 1769, 1770, 1773, 1775, 1776, 1779, 1781, 1784, 1785, 1786, 1788, 1791, 1792, 1793, 1794, 1796, 1797, 1798, 1801, 1802, 1803, 1806, 1807, 1808, 1810, 1811, 1812, 1813, 1814, 1816, 1817, 1818],
  [1819, 1820, 1822, 1823, 1824, 1825, 1826, 1829, 1831, 1832, 1833, 1835, 1836, 1837, 1838, 1839, 1841, 1842, 1843, 1844, 1845, 1847, 1848, 1849, 1850, 1853, 1855, 1856, 1859, 1861, 1864, 1865, 1866, 1868, 1871, 1872, 1873, 1874, 1876, 1877],
  [1878, 1881, 1882, 1883, 1886, 1887, 1888, 1890, 1891, 1892, 1893, 1894, 1896, 1897, 1898, 1899, 1900, 1902, 1903, 1904, 1905, 1906, 1909, 1911, 1912, 1913, 1915, 1916, 1917, 1918, 1919, 1921, 1922, 1923, 1924, 1925, 1927, 1928, 1929, 1930],
  [1933, 1935, 1936, 1939, 1941, 1944, 1945, 1946, 1948, 1951, 1952, 1953, 1954, 1956, 1957, 1958, 1961, 1962, 1963, 1966, 1967, 1968, 1970, 1971, 1972, 1973, 1974, 1976, 1977, 1978, 1979, 1980, 1982, 1983, 1984, 1985, 1988, 1989, 1992, 1993],
  [1994, 1997, 1999, 2000, 2001, 2003, 2004, 2005, 2006, 2007, 2009, 2010, 2011, 2012, 2013, 2015, 2016, 2017, 2018, 2021, 2022, 2025, 2026, 2029, 2031, 2032, 2035, 2037, 2040, 2041, 2042, 2044, 2047, 2048, 2049, 2050, 2052, 2053, 2054, 2057],
  [2058, 2059, 2062, 2063, 2064, 2066, 2067, 2068, 2069, 2070, 2073, 2075, 2076, 2077, 2079, 2080, 2081, 2082, 2085, 2087, 2088, 2091, 2093, 2096, 2097, 2098, 2100, 2103, 2104, 2105, 2106, 2108, 2109, 2110, 2113, 2114, 2115, 2118, 2119, 2120],
  [2122, 2123, 2124, 2125, 2128, 2129, 2132, 2133, 2136, 2137, 2138, 2140, 2141, 2142, 2143, 2146, 2147, 2150, 2151, 2154, 2157, 2158, 2159, 2160, 2161, 2163, 2164, 2165, 2166, 2167, 2170, 2172, 2173, 2174, 2176, 2177, 2178, 2179, 2182, 2184],
  [2185, 2188, 2190, 2193, 2194, 2195, 2197, 2200, 2201, 2202, 2203, 2205, 2206, 2207, 2210, 2211, 2212, 2215, 2216, 2217, 2219, 2220, 2221, 2222, 2223, 2226, 2228, 2229, 2230, 2232, 2233, 2234, 2235, 2238, 2240, 2241, 2244, 2246, 2249, 2250],
  [2251, 2253, 2256, 2257, 2258, 2259, 2261, 2262, 2263, 2266, 2267, 2268, 2271, 2272, 2273, 2275, 2276, 2277, 2278, 2279, 2282, 2284, 2285, 2286, 2288, 2289, 2290, 2291, 2294, 2296, 2297, 2300, 2302, 2305, 2306, 2307, 2309, 2312, 2313, 2314],
  [2315, 2317, 2318, 2319, 2322, 2323, 2324, 2327, 2328, 2329, 2331, 2332, 2333, 2334, 2335, 2338, 2340, 2341, 2342, 2344, 2345, 2346, 2347, 2350, 2352, 2353, 2356, 2358, 2361, 2362, 2363, 2365, 2368, 2369, 2370, 2371, 2373, 2374, 2375, 2378],
  [2379, 2380, 2383, 2384, 2385, 2387, 2388, 2389, 2390, 2391, 2393, 2394, 2395, 2396, 2399, 2400, 2403, 2404, 2405, 2408, 2410, 2411, 2412, 2414, 2415, 2416, 2417, 2418, 2420, 2421, 2422, 2423, 2426, 2427, 2430, 2431, 2434, 2436, 2437, 2440],
  [2442, 2445, 2446, 2447, 2449, 2452, 2453, 2454, 2455, 2457, 2458, 2459, 2462, 2463, 2464, 2467, 2468, 2469, 2471, 2472, 2473, 2474, 2475, 2477, 2478, 2479, 2480, 2483, 2484, 2487, 2488, 2489, 2492, 2494, 2495, 2496, 2498, 2499, 2500, 2501],
  [2502, 2504, 2505, 2506, 2507, 2510, 2511, 2514, 2515, 2518, 2520, 2521, 2524, 2526, 2529, 2530, 2531, 2533, 2536, 2537, 2538, 2539, 2541, 2542, 2543, 2546, 2547, 2548, 2551, 2552, 2553, 2555, 2556, 2557, 2558, 2559, 2561, 2562, 2563, 2564],
  [2565, 2568, 2570, 2571, 2572, 2574, 2575, 2576, 2577, 2578, 2580, 2581, 2582, 2583, 2586, 2588, 2589, 2592, 2594, 2597, 2598, 2599, 2601, 2604, 2605, 2606, 2607, 2609, 2610, 2611, 2614, 2615, 2616, 2619, 2620, 2621, 2623, 2624, 2625, 2626],
  [2629, 2630, 2631, 2633, 2634, 2635, 2636, 2639, 2642, 2643, 2644, 2645, 2648, 2649, 2652, 2655, 2656, 2657, 2658, 2661, 2662, 2665, 2668, 2669, 2672, 2673, 2676, 2679, 2680, 2681, 2682, 2683, 2685, 2686, 2687, 2688, 2691, 2692, 2693, 2695]]
def q_lq : List Nat := [2696, 2697, 2698, 2701, 2704, 2705, 2706, 2709, 2712, 2713]
set_option maxRecDepth 100000 in
theorem q_lpq : cd_L_law_.map (fun e => e.2.2.2.1) = q_lp.flatten ++ q_lq := by decide +kernel
theorem q_lp40 : q_lp.all (fun l => Nat.beq l.length 40) = true := by decide +kernel
theorem q_lpc : q_pc cd_L_law_ = q_t2 (q_lp ++ [q_lq]) := by
  funext t
  rw [q_pc_map, q_lpq, q_t2_eq _ _ (fun l hl => Nat.eq_of_beq_eq_true (List.all_eq_true.mp q_lp40 l hl)) (by decide)]
set_option maxRecDepth 100000 in
theorem dw_law : q_dw code code.data.toList 0 cd_L_law_ = true := by decide +kernel
set_option maxRecDepth 100000 in
theorem wk_law : q_wkl (fun i e => q_oj q_tb q_mt 13 code (some .boolean) false (q_t2 (q_lp ++ [q_lq])) 1609 i e) 0 cd_L_law_ = true := by decide +kernel
theorem ln_law : cd_L_law_.length = 1610 := by
  have := congrArg List.length q_lpq
  rw [List.length_map] at this
  rw [this]
  decide +kernel
theorem ok_law : ∀ (i : Nat) (e : En), cd_L_law_[i]? = some e → q_ok q_tb q_mt 13 code (some .boolean) false cd_L_law_ i e = true := by
  intro i e hi
  have h1 := q_wkl_ok cd_L_law_ 0 wk_law i e hi
  rw [Nat.zero_add] at h1
  rw [← q_lpc] at h1
  obtain ⟨h2, h3⟩ := q_dw_ok cd_L_law_ 0 _ rfl dw_law i e hi
  refine q_oj_ok h2 (fun hl => ?_) h1
  have hlt : i + 1 < cd_L_law_.length := by rw [ln_law]; omega
  have hg : cd_L_law_[i + 1]? = some cd_L_law_[i + 1] := List.getElem?_eq_getElem hlt
  unfold q_nx
  rw [q_pc, hg]
  dsimp only
  rw [h3 _ hg, beq_self_eq_true]
set_option maxRecDepth 100000 in
theorem no48_law : cd_L_law_.all (fun e => !(e.1 == 48)) = true := by decide +kernel
