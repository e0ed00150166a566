/-! ===== THE REFERENCE: leaves ===== -/
theorem l_isIn (X : Sx) (d : Nat) (v lo hi : Int32) (I : Ii) (T : Tt) : c_X12_isIn X (d + 1) v lo hi I T = z_r (z_b (¬ v < lo ∧ ¬ hi < v)) I T := by
  rw [e_X12_isIn]
  unfold z_b
  by_cases h1 : v < lo <;> by_cases h2 : hi < v <;> simp [h1, h2, e_X12_isIn_8]
theorem l_lesser (X : Sx) (d : Nat) (a b : Int32) (I : Ii) (T : Tt) : c_X12_lesser X (d + 1) a b I T = z_r (if a < b then a else b) I T := by
  rw [e_X12_lesser]; split <;> rfl
theorem l_greater (X : Sx) (d : Nat) (a b : Int32) (I : Ii) (T : Tt) : c_X12_greater X (d + 1) a b I T = z_r (if b < a then a else b) I T := by
  rw [e_X12_greater]; split <;> rfl
theorem l_size (X : Sx) (d : Nat) (a : Int32) (I : Ii) (T : Tt) : c_X12_size X (d + 1) a I T = z_r (if a < 0 then -a else a) I T := by
  rw [e_X12_size]; split <;> rfl
theorem l_isOf (X : Sx) (d : Nat) (s : Int32) (k : Nat) (I : Ii) (T : Tt) : c_X12_isOf X (d + 1) s (nI k) I T = z_r (z_b (z_bit s k = true)) I T := by
  rw [e_X12_isOf]
  unfold z_b
  simp only [z_bit_p]
  split <;> rfl
theorem l_of (X : Sx) (d : Nat) (j w : Nat) (I : Ii) (T : Tt) (h : 12 + 13 * j + OfNat.ofNat w < 884) : c_X12_of_139 X (d + 1) (nI j) (no_index (OfNat.ofNat w) : Int32) I T = z_r (I 140 (12 + 13 * j + OfNat.ofNat w)) I T := by
  rw [e_X12_of_139]
  simp (disch := omega) only [q_bd_l, z_ltT, z_ltF, z_eqT, z_eqF, z_ltlT, z_ltlF, z_lltT, z_lltF, z_eqlT, z_eqlF, z_in, z_s1, z_nI_cl, z_nlt0, z_ne_m1, z_b0, z_b1, z_la, z_al, z_lm, z_ml, z_nm, nI_add, pk_mul, ↓reduceIte, not_true_eq_false, not_false_eq_true, true_or, or_true, false_or, or_false, true_and, and_true, and_false, false_and, Classical.not_not, Nat.add_zero, z_01, z_em, z_bit_p, Nat.not_le, Nat.not_lt, reduceCtorEq, if_true, if_false]
theorem l_ofn (X : Sx) (d : Nat) (j w : Nat) (I : Ii) (T : Tt) (h : 12 + 13 * j + w < 884) : c_X12_of_139 X (d + 1) (nI j) (nI w) I T = z_r (I 140 (12 + 13 * j + w)) I T := l_of X d j w I T h
theorem l_has (X : Sx) (d : Nat) (j w : Nat) (v : Int32) (I : Ii) (T : Tt) (h : 12 + 13 * j + OfNat.ofNat w < 884) : c_X12_has_139 X (d + 1) (nI j) (no_index (OfNat.ofNat w) : Int32) v I T = z_v (q_w I 140 (12 + 13 * j + OfNat.ofNat w) v) T := by
  rw [e_X12_has_139]
  simp (disch := omega) only [q_bd_l, z_ltT, z_ltF, z_eqT, z_eqF, z_ltlT, z_ltlF, z_lltT, z_lltF, z_eqlT, z_eqlF, z_in, z_s1, z_nI_cl, z_nlt0, z_ne_m1, z_b0, z_b1, z_la, z_al, z_lm, z_ml, z_nm, nI_add, pk_mul, ↓reduceIte, not_true_eq_false, not_false_eq_true, true_or, or_true, false_or, or_false, true_and, and_true, and_false, false_and, Classical.not_not, Nat.add_zero, z_01, z_em, z_bit_p, Nat.not_le, Nat.not_lt, reduceCtorEq, if_true, if_false]
theorem l_hasn (X : Sx) (d : Nat) (j w : Nat) (v : Int32) (I : Ii) (T : Tt) (h : 12 + 13 * j + w < 884) : c_X12_has_139 X (d + 1) (nI j) (nI w) v I T = z_v (q_w I 140 (12 + 13 * j + w) v) T := l_has X d j w v I T h
theorem l_ofNeed (X : Sx) (d : Nat) (j w : Nat) (I : Ii) (T : Tt) (h : 154 + 3 * j + OfNat.ofNat w < 884) : c_X12_ofNeed_139 X (d + 1) (nI j) (no_index (OfNat.ofNat w) : Int32) I T = z_r (I 140 (154 + 3 * j + OfNat.ofNat w)) I T := by
  rw [e_X12_ofNeed_139]
  simp (disch := omega) only [q_bd_l, z_ltT, z_ltF, z_eqT, z_eqF, z_ltlT, z_ltlF, z_lltT, z_lltF, z_eqlT, z_eqlF, z_in, z_s1, z_nI_cl, z_nlt0, z_ne_m1, z_b0, z_b1, z_la, z_al, z_lm, z_ml, z_nm, nI_add, pk_mul, ↓reduceIte, not_true_eq_false, not_false_eq_true, true_or, or_true, false_or, or_false, true_and, and_true, and_false, false_and, Classical.not_not, Nat.add_zero, z_01, z_em, z_bit_p, Nat.not_le, Nat.not_lt, reduceCtorEq, if_true, if_false]
theorem l_ofNeedn (X : Sx) (d : Nat) (j w : Nat) (I : Ii) (T : Tt) (h : 154 + 3 * j + w < 884) : c_X12_ofNeed_139 X (d + 1) (nI j) (nI w) I T = z_r (I 140 (154 + 3 * j + w)) I T := l_ofNeed X d j w I T h
theorem l_isJar (X : Sx) (d : Nat) (v : Int32) (I : Ii) (T : Tt) : c_X12_isJar_139 X (d + 2) v I T = z_r (z_b (¬ v < 0 ∧ ¬ I 140 3 - 1 < v)) I T := by
  rw [e_X12_isJar_139]
  simp (disch := omega) only [e_X12_isJar_139, e_X12_isJar_139_9, k_X12_isJar_139_9, l_isIn, q_bd_l, z_ltT, z_ltF, z_eqT, z_eqF, z_ltlT, z_ltlF, z_lltT, z_lltF, z_eqlT, z_eqlF, z_in, z_s1, z_nI_cl, z_nlt0, z_ne_m1, z_b0, z_b1, z_la, z_al, z_lm, z_ml, z_nm, nI_add, pk_mul, ↓reduceIte, not_true_eq_false, not_false_eq_true, true_or, or_true, false_or, or_false, true_and, and_true, and_false, false_and, Classical.not_not, Nat.add_zero, z_01, z_em, z_bit_p, Nat.not_le, Nat.not_lt, reduceCtorEq, if_true, if_false]
theorem l_isMatter (X : Sx) (d : Nat) (v : Int32) (I : Ii) (T : Tt) : c_X12_isMatter X (d + 2) v I T = z_r (z_b (¬ v < 0 ∧ ¬ 5 < v)) I T := by
  rw [e_X12_isMatter]
  simp (disch := omega) only [e_X12_isMatter, e_X12_isMatter_4, k_X12_isMatter_4, l_isIn, q_bd_l, z_ltT, z_ltF, z_eqT, z_eqF, z_ltlT, z_ltlF, z_lltT, z_lltF, z_eqlT, z_eqlF, z_in, z_s1, z_nI_cl, z_nlt0, z_ne_m1, z_b0, z_b1, z_la, z_al, z_lm, z_ml, z_nm, nI_add, pk_mul, ↓reduceIte, not_true_eq_false, not_false_eq_true, true_or, or_true, false_or, or_false, true_and, and_true, and_false, false_and, Classical.not_not, Nat.add_zero, z_01, z_em, z_bit_p, Nat.not_le, Nat.not_lt, reduceCtorEq, if_true, if_false]
theorem l_isPlace (X : Sx) (d : Nat) (v : Int32) (I : Ii) (T : Tt) : c_X12_isPlace X (d + 2) v I T = z_r (z_b (¬ v < 0 ∧ ¬ 11 < v)) I T := by
  rw [e_X12_isPlace]
  simp (disch := omega) only [e_X12_isPlace, e_X12_isPlace_4, k_X12_isPlace_4, l_isIn, q_bd_l, z_ltT, z_ltF, z_eqT, z_eqF, z_ltlT, z_ltlF, z_lltT, z_lltF, z_eqlT, z_eqlF, z_in, z_s1, z_nI_cl, z_nlt0, z_ne_m1, z_b0, z_b1, z_la, z_al, z_lm, z_ml, z_nm, nI_add, pk_mul, ↓reduceIte, not_true_eq_false, not_false_eq_true, true_or, or_true, false_or, or_false, true_and, and_true, and_false, false_and, Classical.not_not, Nat.add_zero, z_01, z_em, z_bit_p, Nat.not_le, Nat.not_lt, reduceCtorEq, if_true, if_false]
/-- sums and their like, by jars -/
def R_seals (r : Nat → Int32) (n : Nat) (s : Int32) : Int32 := z_it (fun k a => a + if z_bit s k = true then r (12 + 13 * k + 4) else 0) n 0
theorem l_seals (X : Sx) (d : Nat) (s : Int32) (I : Ii) (T : Tt) (n : Nat) (h3 : I 140 3 = nI n) (hn : n ≤ 10) : c_X12_seals_139 X (d + 2) s I T = z_r (R_seals (I 140) n s) I T := by
  rw [e_X12_seals_139]
  refine (z_for (fun k a => c_X12_seals_139_4 X (d + 1) s a (nI k) I T) (fun k a => a + if z_bit s k = true then I 140 (12 + 13 * k + 4) else 0) n (fun k a hk => ?_) 0).trans ?_
  · rw [e_X12_seals_139_4]
    cases hb : z_bit s k
    · simp (disch := omega) only [e_X12_seals_139, e_X12_seals_139_14, k_X12_seals_139_14, e_X12_seals_139_19, k_X12_seals_139_19, e_X12_seals_139_21, h3, hb, l_isOf, l_of, Int32.add_zero, q_bd_l, z_ltT, z_ltF, z_eqT, z_eqF, z_ltlT, z_ltlF, z_lltT, z_lltF, z_eqlT, z_eqlF, z_in, z_s1, z_nI_cl, z_nlt0, z_ne_m1, z_b0, z_b1, z_la, z_al, z_lm, z_ml, z_nm, nI_add, pk_mul, ↓reduceIte, not_true_eq_false, not_false_eq_true, true_or, or_true, false_or, or_false, true_and, and_true, and_false, false_and, Classical.not_not, Nat.add_zero, z_01, z_em, z_bit_p, Nat.not_le, Nat.not_lt, reduceCtorEq, if_true, if_false]
    · simp (disch := omega) only [e_X12_seals_139, e_X12_seals_139_14, k_X12_seals_139_14, e_X12_seals_139_19, k_X12_seals_139_19, e_X12_seals_139_21, h3, hb, l_isOf, l_of, Int32.add_zero, q_bd_l, z_ltT, z_ltF, z_eqT, z_eqF, z_ltlT, z_ltlF, z_lltT, z_lltF, z_eqlT, z_eqlF, z_in, z_s1, z_nI_cl, z_nlt0, z_ne_m1, z_b0, z_b1, z_la, z_al, z_lm, z_ml, z_nm, nI_add, pk_mul, ↓reduceIte, not_true_eq_false, not_false_eq_true, true_or, or_true, false_or, or_false, true_and, and_true, and_false, false_and, Classical.not_not, Nat.add_zero, z_01, z_em, z_bit_p, Nat.not_le, Nat.not_lt, reduceCtorEq, if_true, if_false]
  · rw [e_X12_seals_139_4]
    simp (disch := omega) only [h3, R_seals, q_bd_l, z_ltT, z_ltF, z_eqT, z_eqF, z_ltlT, z_ltlF, z_lltT, z_lltF, z_eqlT, z_eqlF, z_in, z_s1, z_nI_cl, z_nlt0, z_ne_m1, z_b0, z_b1, z_la, z_al, z_lm, z_ml, z_nm, nI_add, pk_mul, ↓reduceIte, not_true_eq_false, not_false_eq_true, true_or, or_true, false_or, or_false, true_and, and_true, and_false, false_and, Classical.not_not, Nat.add_zero, z_01, z_em, z_bit_p, Nat.not_le, Nat.not_lt, reduceCtorEq, if_true, if_false]
