/-! ===== BITS ===== -/
theorem z_nand (a b : Nat) : nI a &&& nI b = nI (a &&& b) := by
  apply Int32.toBitVec_inj.1
  show BitVec.ofNat 32 a &&& BitVec.ofNat 32 b = BitVec.ofNat 32 (a &&& b)
  apply BitVec.eq_of_getLsbD_eq
  intro i hi
  simp [hi]
theorem z_nor (a b : Nat) : nI a ||| nI b = nI (a ||| b) := by
  apply Int32.toBitVec_inj.1
  show BitVec.ofNat 32 a ||| BitVec.ofNat 32 b = BitVec.ofNat 32 (a ||| b)
  apply BitVec.eq_of_getLsbD_eq
  intro i hi
  simp [hi]
theorem z_nxor (a b : Nat) : nI a ^^^ nI b = nI (a ^^^ b) := by
  apply Int32.toBitVec_inj.1
  show BitVec.ofNat 32 a ^^^ BitVec.ofNat 32 b = BitVec.ofNat 32 (a ^^^ b)
  apply BitVec.eq_of_getLsbD_eq
  intro i hi
  simp [hi]
theorem z_sl : ∀ k, k < 32 → ((nI k &&& 31).toBitVec.smod 32).toNat = k := by decide +kernel
theorem z_shl (x k : Nat) (hk : k < 32) (h : x * 2 ^ k < 2 ^ 32) : nI x <<< (nI k &&& 31) = nI (x * 2 ^ k) := pk_shlN _ k (z_sl k hk) h
theorem z_shl1 (k : Nat) (hk : k < 31) : (1 : Int32) <<< (nI k &&& 31) = nI (2 ^ k) := by
  have h : (2 : Nat) ^ k < 2 ^ 32 := Nat.pow_lt_pow_right (by decide) (by omega)
  have := z_shl 1 k (by omega) (by omega)
  rw [Nat.one_mul] at this
  exact this
theorem z_shr (x k : Nat) (hx : x < 2 ^ 31) (hk : k < 32) : nI x >>> (nI k &&& 31) = nI (x / 2 ^ k) := pk_shrN hx _ k (z_sl k hk)
theorem z_and1 (x : Nat) (hx : x < 2 ^ 31) : nI x &&& 1 = nI (x % 2) := pk_andN (by omega) 1 rfl
theorem z_bit_nI (x k : Nat) (hx : x < 2 ^ 31) (hk : k < 31) : z_bit (nI x) k = x.testBit k := by
  unfold z_bit
  rw [z_shr x k hx (by omega), z_and1 _ (Nat.lt_of_le_of_lt (Nat.div_le_self _ _) hx), Nat.testBit_eq_decide_div_mod_eq]
  have : x / 2 ^ k % 2 < 2 := Nat.mod_lt _ (by decide)
  have e : (nI (x / 2 ^ k % 2) = (1 : Int32)) = (x / 2 ^ k % 2 = 1) := z_eq_l _ 1 (by omega) (by omega)
  simp only [e]
/-- the stack of bits -/
theorem z_push (x c : Nat) (hx : x < 1048576) (hc : c < 2) : (nI x <<< ((1 : Int32) &&& 31)) ||| nI c = nI (2 * x + c) := by
  have h : nI x <<< ((1 : Int32) &&& 31) = nI (x * 2 ^ 1) := z_shl x 1 (by omega) (by omega)
  rw [h, z_nor]
  have e : x * 2 ^ 1 ||| c = 2 ^ 1 * x + c := by rw [Nat.mul_comm x, ← Nat.two_pow_add_eq_or_of_lt (by omega)]
  rw [e]
theorem z_not_b (x c : Nat) (hc : c < 2) : nI (2 * x + c) ^^^ 1 = nI (2 * x + (1 - c)) := by
  have h : nI (2 * x + c) ^^^ 1 = nI ((2 * x + c) ^^^ 1) := z_nxor _ 1
  rw [h]
  congr 1
  have e1 : 2 ^ 1 * x ||| 0 = 2 ^ 1 * x := Nat.or_zero _
  rcases (by omega : c = 0 ∨ c = 1) with rfl | rfl
  · show 2 * x ^^^ 1 = 2 * x + 1
    apply Nat.eq_of_testBit_eq
    intro i
    cases i with
    | zero => simp [Nat.testBit_zero]
    | succ i =>
      have h9 : (2 * x + 1) / 2 = x := by omega
      rw [Nat.testBit_xor]
      simp [Nat.testBit_succ, h9]
  · show (2 * x + 1) ^^^ 1 = 2 * x
    apply Nat.eq_of_testBit_eq
    intro i
    cases i with
    | zero => simp [Nat.testBit_zero]
    | succ i =>
      have h9 : (2 * x + 1) / 2 = x := by omega
      rw [Nat.testBit_xor]
      simp [Nat.testBit_succ, h9]
theorem z_ush1 (y : Nat) (hy : y < 2 ^ 31) : ((nI y).toUInt32 >>> ((1 : Int32).toUInt32 &&& Int32.toUInt32 31)).toInt32 = nI (y / 2) := pk_ushrN (by omega) 1 1 (by decide)
theorem z_or_b (x a b : Nat) (hx : x < 1048576) (ha : a < 2) (hb : b < 2) : ((nI (2 * (2 * x + a) + b)).toUInt32 >>> ((1 : Int32).toUInt32 &&& Int32.toUInt32 31)).toInt32 ||| (nI (2 * (2 * x + a) + b) &&& 1) = nI (2 * x + (if a = 0 then b else 1)) := by
  rw [z_ush1 _ (by omega), z_and1 _ (by omega), z_nor]
  have e1 : (2 * (2 * x + a) + b) / 2 = 2 * x + a := by omega
  have e2 : (2 * (2 * x + a) + b) % 2 = b := by omega
  rw [e1, e2]
  congr 1
  have e : 2 * x + a = 2 ^ 1 * x ||| a := by rw [← Nat.two_pow_add_eq_or_of_lt (by omega)]
  rcases (by omega : a = 0 ∨ a = 1) with rfl | rfl
  · rw [if_pos rfl]
    show 2 * x ||| b = _
    have : 2 * x + b = 2 ^ 1 * x ||| b := by rw [← Nat.two_pow_add_eq_or_of_lt (by omega)]
    rw [this]
  · rw [if_neg (by decide), e, Nat.or_assoc]
    congr 1
    rcases (by omega : b = 0 ∨ b = 1) with rfl | rfl <;> decide
theorem z_and_b (x a b : Nat) (hx : x < 1048576) (ha : a < 2) (hb : b < 2) : ((nI (2 * (2 * x + a) + b)).toUInt32 >>> ((1 : Int32).toUInt32 &&& Int32.toUInt32 31)).toInt32 &&& ((-2 : Int32) ||| (nI (2 * (2 * x + a) + b) &&& 1)) = nI (2 * x + (if a = 0 then 0 else b)) := by
  rw [z_ush1 _ (by omega), z_and1 _ (by omega)]
  have e1 : (2 * (2 * x + a) + b) / 2 = 2 * x + a := by omega
  have e2 : (2 * (2 * x + a) + b) % 2 = b := by omega
  rw [e1, e2]
  rcases (by omega : b = 0 ∨ b = 1) with rfl | rfl
  · have h2 : (-2 : Int32) ||| nI 0 = nI 4294967294 := by decide
    rw [h2, z_nand]
    congr 1
    have : (if a = 0 then 0 else 0) = 0 := by split <;> rfl
    rw [this]
    apply Nat.eq_of_testBit_eq
    intro i
    cases i with
    | zero => simp [Nat.testBit_zero]
    | succ i =>
      rw [Nat.testBit_and, Nat.testBit_succ, Nat.testBit_succ, Nat.testBit_succ]
      have h3 : (2 * x + a) / 2 = x := by omega
      have h4 : (2 * x + 0) / 2 = x := by omega
      have h5 : 4294967294 / 2 = 2 ^ 31 - 1 := by decide
      rw [h3, h4, h5, Nat.testBit_two_pow_sub_one]
      rcases Nat.lt_or_ge i 31 with hi | hi
      · simp [hi]
      · rw [Nat.testBit_lt_two_pow (Nat.lt_of_lt_of_le (by omega : x < 2 ^ 20) (Nat.pow_le_pow_right (by decide) (by omega)))]
        rfl
  · have h2 : (-2 : Int32) ||| nI 1 = -1 := by decide
    rw [h2]
    have h3 : nI (2 * x + a) &&& -1 = nI (2 * x + a) := by
      apply Int32.toBitVec_inj.1
      show BitVec.ofNat 32 (2 * x + a) &&& BitVec.allOnes 32 = _
      rw [BitVec.and_allOnes]; rfl
    rw [h3]
    congr 2
    rcases (by omega : a = 0 ∨ a = 1) with rfl | rfl <;> rfl
