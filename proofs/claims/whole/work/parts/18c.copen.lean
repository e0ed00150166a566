/-! ===== THE CLASS: lids, spoons ===== -/
theorem z_Mo_op {I : Ii} {mo : Nat} {r : Nat → Int32} {n : Nat} (h : z_Mo I mo r n) (hn : n ≤ 10) (j o o' : Nat) (hj : j < n) (e4 : I mo 4 = nI o) (ho : o < 2 ^ n) (ho' : o' < 2 ^ n) (b : Bool) (hb : ∀ i, i < n → o'.testBit i = if i = j then b else o.testBit i) : z_Mo (q_w I mo 4 (nI o')) mo (va_up r (12 + 13 * j + 6) (z_b (b = true))) n := by
  obtain ⟨b1, b2, b3, b4, b5, b6, b7, b8, p, b9, b10, b11⟩ := h
  have h2n := z_2n hn
  have ep : p = o := by
    have := b10.symm.trans e4
    rw [z_nI_eq _ _ (by omega) (by omega)] at this
    exact this
  subst ep
  refine ⟨by rw [z_w_k _ _ _ _ _ (by decide), ru_ne (by omega)]; exact b1, by rw [z_w_k _ _ _ _ _ (by decide), ru_ne (by omega)]; exact b2, by rw [z_w_k _ _ _ _ _ (by decide), ru_ne (by omega)]; exact b3, by rw [z_w_k _ _ _ _ _ (by decide), ru_ne (by omega)]; exact b4, ?_, ?_, ?_, ?_, o', ho', z_w_s _ _ _ _, fun i hi => ?_⟩
  · intro i hi; rw [z_w_a _ _ _ _ _ (by omega), ru_ne (by omega)]; exact b5 i hi
  · intro i hi; rw [z_w_a _ _ _ _ _ (by omega), ru_ne (by omega)]; exact b6 i hi
  · intro i hi; rw [z_w_a _ _ _ _ _ (by omega), ru_ne (by omega)]; exact b7 i hi
  · intro i hi; rw [z_w_a _ _ _ _ _ (by omega), ru_ne (by omega)]; exact b8 i hi
  · rw [hb i hi]
    by_cases e : i = j
    · subst e; rw [ru_s, if_pos rfl]
    · rw [ru_ne (by omega), if_neg e]; exact b11 i hi
theorem z_lid (o j : Nat) (hj : j < 10) : nI o &&& (((1 : Int32) <<< (nI j &&& 31)) ^^^ (-1)) = nI (o &&& (2 ^ j ^^^ (2 ^ 32 - 1))) := by
  have e : (-1 : Int32) = nI (2 ^ 32 - 1) := rfl
  rw [z_shl1 j (by omega), e, z_nxor, z_nand]
theorem z_lid_b (o j i : Nat) (hj : j < 10) (hi : i < 10) : (o &&& (2 ^ j ^^^ (2 ^ 32 - 1))).testBit i = if i = j then false else o.testBit i := by
  rw [Nat.testBit_and, Nat.testBit_xor, Nat.testBit_two_pow_sub_one, decide_eq_true (by omega : i < 32)]
  by_cases e : i = j
  · subst e; rw [Nat.testBit_two_pow_self, if_pos rfl]; simp
  · rw [Nat.testBit_two_pow_of_ne (by omega), if_neg e]; simp
theorem k_putLid27 (X : Sx) (d : Nat) (I : Ii) (T : Tt) (r : Nat → Int32) (n j : Nat) (h : z_Mo I 27 r n) (hn : n ≤ 10) (hj : j < n) : ∃ v, c_X7_putLidOn_27 X (d + 1) (nI j) I T = z_v (q_w I 27 4 v) T ∧ z_Mo (q_w I 27 4 v) 27 (va_up r (12 + 13 * j + 6) 0) n := by
  obtain ⟨o, ho, e4, -⟩ := h.2.2.2.2.2.2.2.2
  refine ⟨nI (o &&& (2 ^ j ^^^ (2 ^ 32 - 1))), ?_, ?_⟩
  · rw [e_X7_putLidOn_27, e4, z_lid o j (by omega)]
  · have := z_Mo_op h hn j o (o &&& (2 ^ j ^^^ (2 ^ 32 - 1))) hj e4 ho (Nat.lt_of_le_of_lt Nat.and_le_left ho) false (fun i hi => z_lid_b o j i (by omega) (by omega))
    exact this
theorem k_useSpoon27 (X : Sx) (d : Nat) (I : Ii) (T : Tt) (r : Nat → Int32) (n j : Nat) (h : z_Mo I 27 r n) (hn : n ≤ 10) (hj : j < n) : ∃ J, c_X7_useSpoon_27 X (d + 1) (nI j) I T = z_v J T ∧ z_fr (m_mo 27) I J ∧ z_Mo J 27 (R_take j r) n := by
  obtain ⟨o, ho, e4, -⟩ := h.2.2.2.2.2.2.2.2
  have e2 : I 29 j = r (12 + 13 * j + 2) := h.2.2.2.2.2.1 j hj
  have h1 := z_Mo_w2 h hn j hj (r (12 + 13 * j + 2) - 1)
  have hp : 2 ^ j < 2 ^ n := Nat.pow_lt_pow_right (by decide) hj
  have h2 := z_Mo_op h1 hn j o (o ||| 2 ^ j) hj (by rw [z_w_a _ _ _ _ _ (by decide)]; exact e4) ho (Nat.or_lt_two_pow ho hp) true (fun i hi => by
    rw [Nat.testBit_or]
    by_cases e : i = j
    · subst e; rw [Nat.testBit_two_pow_self, if_pos rfl, Bool.or_true]
    · rw [Nat.testBit_two_pow_of_ne (by omega), if_neg e, Bool.or_false])
  refine ⟨_, ?_, ?_, h2⟩
  · rw [e_X7_useSpoon_27]
    simp (disch := omega) only [e4, e2, z_shl1, z_nor, q_bd_l, z_ltT, z_ltF, z_eqT, z_eqF, z_ltlT, z_ltlF, z_lltT, z_lltF, z_eqlT, z_eqlF, z_in, z_k7, z_cl, z_lneg, z_llT, z_llF, z_s1, z_nI_cl, z_nlt0, z_ne_m1, z_b0, z_b1, z_la, z_al, z_lm, z_ml, z_nm, nI_add, pk_mul, ↓reduceIte, not_true_eq_false, not_false_eq_true, true_or, or_true, false_or, or_false, true_and, and_true, and_false, false_and, Classical.not_not, Nat.add_zero, z_01, z_em, z_bit_p, Nat.not_le, Nat.not_lt, reduceCtorEq, if_true, if_false]
  · exact z_fr_w (z_fr_w (z_fr_r _ _) 29 j _ rfl) 27 4 _ rfl
