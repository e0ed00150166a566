/-! ===== THE LAW: what it makes of the two answers, call by call ===== -/
def j_b (x : Int32) : Int32 := if x = 0 then 0 else 1
theorem j_0 (X : Sx) (d i : Nat) (o5 o6 : Option Value) (I J K : Ii) (T : Tt) (b : Int32) (hX : X.1 ≤ 3072) (hi : i + 6 ≤ X.1) (h1 : c_X11_feed_0 X (d + 50) (X.2 (i + 1)) (X.2 (i + 2)) (X.2 (i + 3)) (X.2 (i + 4)) (X.2 (i + 5)) I T = z_r b J T) (h2 : c_X12_feed_139 X (d + 50) (X.2 (i + 1)) (X.2 (i + 2)) (X.2 (i + 3)) (X.2 (i + 4)) (X.2 (i + 5)) J T = z_r b K T) : ∃ u5 u6, c_L_law__24 X (d + 50) (nI i) o5 o6 0 I T = c_L_law__13 X (d + 50) (nI (i + 6)) u5 u6 K T := by
  refine ⟨o5, o6, ?_⟩
  rw [e_L_law__24_0]
  simp (disch := omega) only [e_L_law__52, e_L_law__79, e_L_law__1606, k_L_law__52, k_L_law__79, h1, h2, j_thrown, j_cmp, q_bn_l, q_bd_l, z_ltT, z_ltF, z_eqT, z_eqF, z_ltlT, z_ltlF, z_lltT, z_lltF, z_eqlT, z_eqlF, z_in, z_k7, z_cl, z_lneg, z_llT, z_llF, z_s1, z_nI_cl, z_nlt0, z_ne_m1, z_b0, z_b1, z_la, z_al, z_lm, z_ml, z_nm, nI_add, pk_mul, ↓reduceIte, not_true_eq_false, not_false_eq_true, true_or, or_true, false_or, or_false, true_and, and_true, and_false, false_and, Classical.not_not, Nat.add_zero, z_01, z_em, z_bit_p, Nat.not_le, Nat.not_lt, reduceCtorEq, if_true, if_false]
theorem j_1 (X : Sx) (d i : Nat) (o5 o6 : Option Value) (I J K : Ii) (T : Tt) (b : Int32) (hX : X.1 ≤ 3072) (hi : i + 6 ≤ X.1) (h1 : c_X11_end_0 X (d + 50) (X.2 (i + 1)) I T = z_r b J T) (h2 : c_X12_end_139 X (d + 50) (X.2 (i + 1)) J T = z_r b K T) : ∃ u5 u6, c_L_law__24 X (d + 50) (nI i) o5 o6 1 I T = c_L_law__13 X (d + 50) (nI (i + 6)) u5 u6 K T := by
  refine ⟨o5, o6, ?_⟩
  rw [e_L_law__24_1]
  simp (disch := omega) only [e_L_law__89, e_L_law__96, e_L_law__1606, k_L_law__89, k_L_law__96, h1, h2, j_thrown, j_cmp, q_bn_l, q_bd_l, z_ltT, z_ltF, z_eqT, z_eqF, z_ltlT, z_ltlF, z_lltT, z_lltF, z_eqlT, z_eqlF, z_in, z_k7, z_cl, z_lneg, z_llT, z_llF, z_s1, z_nI_cl, z_nlt0, z_ne_m1, z_b0, z_b1, z_la, z_al, z_lm, z_ml, z_nm, nI_add, pk_mul, ↓reduceIte, not_true_eq_false, not_false_eq_true, true_or, or_true, false_or, or_false, true_and, and_true, and_false, false_and, Classical.not_not, Nat.add_zero, z_01, z_em, z_bit_p, Nat.not_le, Nat.not_lt, reduceCtorEq, if_true, if_false]
theorem j_2 (X : Sx) (d i : Nat) (o5 o6 : Option Value) (I J K : Ii) (T T1 : Tt) (c b : Int32) (hX : X.1 ≤ 3072) (hi : i + 6 ≤ X.1) (h1 : c_L_cabinet_0_150 X (d + 50) I T = z_r c J T1) (h2 : c_X12_cabinet_139 X (d + 50) J T1 = z_r b K T1) (h3 : K 139 0 = c) (h4 : c = 0 → T1.1 150 0 = b.toInt64) : ∃ u5 u6, c_L_law__24 X (d + 50) (nI i) o5 o6 2 I T = c_L_law__13 X (d + 50) (nI (i + 6)) u5 u6 K T1 := by
  by_cases c0 : c = 0
  · have h9 := h4 c0
    clear h4
    subst c0
    refine ⟨some (.int 0), some (.int b), ?_⟩
    rw [e_L_law__24_2]
    simp (disch := omega) only [e_L_law__102, e_L_law__105, e_L_law__108, e_L_law__123, e_L_law__1606, k_L_law__102, k_L_law__105, k_L_law__108, h1, h2, j_thrown, j_cmp, q_bn_l, h3, h9, q_bd_l, z_ltT, z_ltF, z_eqT, z_eqF, z_ltlT, z_ltlF, z_lltT, z_lltF, z_eqlT, z_eqlF, z_in, z_k7, z_cl, z_lneg, z_llT, z_llF, z_s1, z_nI_cl, z_nlt0, z_ne_m1, z_b0, z_b1, z_la, z_al, z_lm, z_ml, z_nm, nI_add, pk_mul, ↓reduceIte, not_true_eq_false, not_false_eq_true, true_or, or_true, false_or, or_false, true_and, and_true, and_false, false_and, Classical.not_not, Nat.add_zero, z_01, z_em, z_bit_p, Nat.not_le, Nat.not_lt, reduceCtorEq, if_true, if_false]
  · refine ⟨some (.int c), some (.int b), ?_⟩
    rw [e_L_law__24_2]
    simp (disch := omega) only [e_L_law__102, e_L_law__105, e_L_law__108, e_L_law__123, e_L_law__1606, k_L_law__102, k_L_law__105, k_L_law__108, h1, h2, j_thrown, j_cmp, q_bn_l, h3, c0, q_bd_l, z_ltT, z_ltF, z_eqT, z_eqF, z_ltlT, z_ltlF, z_lltT, z_lltF, z_eqlT, z_eqlF, z_in, z_k7, z_cl, z_lneg, z_llT, z_llF, z_s1, z_nI_cl, z_nlt0, z_ne_m1, z_b0, z_b1, z_la, z_al, z_lm, z_ml, z_nm, nI_add, pk_mul, ↓reduceIte, not_true_eq_false, not_false_eq_true, true_or, or_true, false_or, or_false, true_and, and_true, and_false, false_and, Classical.not_not, Nat.add_zero, z_01, z_em, z_bit_p, Nat.not_le, Nat.not_lt, reduceCtorEq, if_true, if_false]
theorem j_3 (X : Sx) (d i : Nat) (o5 o6 : Option Value) (I J K : Ii) (T T1 : Tt) (c b : Int32) (hX : X.1 ≤ 3072) (hi : i + 6 ≤ X.1) (h1 : c_L_law_0_150 X (d + 50) I T = z_r c J T1) (h2 : c_X12_law_139 X (d + 50) J T1 = z_r b K T1) (h3 : K 139 0 = c) (h4 : c = 0 → T1.1 150 0 = b.toInt64) : ∃ u5 u6, c_L_law__24 X (d + 50) (nI i) o5 o6 3 I T = c_L_law__13 X (d + 50) (nI (i + 6)) u5 u6 K T1 := by
  by_cases c0 : c = 0
  · have h9 := h4 c0
    clear h4
    subst c0
    refine ⟨some (.int 0), some (.int b), ?_⟩
    rw [e_L_law__24_3]
    simp (disch := omega) only [e_L_law__127, e_L_law__130, e_L_law__133, e_L_law__148, e_L_law__1606, k_L_law__127, k_L_law__130, k_L_law__133, h1, h2, j_thrown, j_cmp, q_bn_l, h3, h9, q_bd_l, z_ltT, z_ltF, z_eqT, z_eqF, z_ltlT, z_ltlF, z_lltT, z_lltF, z_eqlT, z_eqlF, z_in, z_k7, z_cl, z_lneg, z_llT, z_llF, z_s1, z_nI_cl, z_nlt0, z_ne_m1, z_b0, z_b1, z_la, z_al, z_lm, z_ml, z_nm, nI_add, pk_mul, ↓reduceIte, not_true_eq_false, not_false_eq_true, true_or, or_true, false_or, or_false, true_and, and_true, and_false, false_and, Classical.not_not, Nat.add_zero, z_01, z_em, z_bit_p, Nat.not_le, Nat.not_lt, reduceCtorEq, if_true, if_false]
  · refine ⟨some (.int c), some (.int b), ?_⟩
    rw [e_L_law__24_3]
    simp (disch := omega) only [e_L_law__127, e_L_law__130, e_L_law__133, e_L_law__148, e_L_law__1606, k_L_law__127, k_L_law__130, k_L_law__133, h1, h2, j_thrown, j_cmp, q_bn_l, h3, c0, q_bd_l, z_ltT, z_ltF, z_eqT, z_eqF, z_ltlT, z_ltlF, z_lltT, z_lltF, z_eqlT, z_eqlF, z_in, z_k7, z_cl, z_lneg, z_llT, z_llF, z_s1, z_nI_cl, z_nlt0, z_ne_m1, z_b0, z_b1, z_la, z_al, z_lm, z_ml, z_nm, nI_add, pk_mul, ↓reduceIte, not_true_eq_false, not_false_eq_true, true_or, or_true, false_or, or_false, true_and, and_true, and_false, false_and, Classical.not_not, Nat.add_zero, z_01, z_em, z_bit_p, Nat.not_le, Nat.not_lt, reduceCtorEq, if_true, if_false]
theorem j_4 (X : Sx) (d i : Nat) (o5 o6 : Option Value) (I J K : Ii) (T : Tt) (b : Int32) (hX : X.1 ≤ 3072) (hi : i + 6 ≤ X.1) (h1 : c_X11_fault_0 X (d + 50) I T = z_r b J T) (h2 : c_X12_fault_139 X (d + 50) J T = z_r b K T) : ∃ u5 u6, c_L_law__24 X (d + 50) (nI i) o5 o6 4 I T = c_L_law__13 X (d + 50) (nI (i + 6)) u5 u6 K T := by
  refine ⟨o5, o6, ?_⟩
  rw [e_L_law__24_4]
  simp (disch := omega) only [e_L_law__151, e_L_law__153, e_L_law__1606, k_L_law__151, k_L_law__153, h1, h2, j_thrown, j_cmp, q_bn_l, q_bd_l, z_ltT, z_ltF, z_eqT, z_eqF, z_ltlT, z_ltlF, z_lltT, z_lltF, z_eqlT, z_eqlF, z_in, z_k7, z_cl, z_lneg, z_llT, z_llF, z_s1, z_nI_cl, z_nlt0, z_ne_m1, z_b0, z_b1, z_la, z_al, z_lm, z_ml, z_nm, nI_add, pk_mul, ↓reduceIte, not_true_eq_false, not_false_eq_true, true_or, or_true, false_or, or_false, true_and, and_true, and_false, false_and, Classical.not_not, Nat.add_zero, z_01, z_em, z_bit_p, Nat.not_le, Nat.not_lt, reduceCtorEq, if_true, if_false]
theorem j_5 (X : Sx) (d i : Nat) (o5 o6 : Option Value) (I J K : Ii) (T T1 : Tt) (c b : Int32) (hX : X.1 ≤ 3072) (hi : i + 6 ≤ X.1) (h1 : c_L_jar_0_150 X (d + 50) (X.2 (i + 1)) (X.2 (i + 2)) I T = z_r c J T1) (h2 : c_X12_jar_139 X (d + 50) (X.2 (i + 1)) (X.2 (i + 2)) J T1 = z_r b K T1) (h3 : K 139 0 = c) (h4 : c = 0 → T1.1 150 0 = b.toInt64) : ∃ u5 u6, c_L_law__24 X (d + 50) (nI i) o5 o6 5 I T = c_L_law__13 X (d + 50) (nI (i + 6)) u5 u6 K T1 := by
  by_cases c0 : c = 0
  · have h9 := h4 c0
    clear h4
    subst c0
    refine ⟨some (.int 0), some (.int b), ?_⟩
    rw [e_L_law__24_5]
    simp (disch := omega) only [e_L_law__169, e_L_law__182, e_L_law__185, e_L_law__200, e_L_law__1606, k_L_law__169, k_L_law__182, k_L_law__185, h1, h2, j_thrown, j_cmp, q_bn_l, h3, h9, q_bd_l, z_ltT, z_ltF, z_eqT, z_eqF, z_ltlT, z_ltlF, z_lltT, z_lltF, z_eqlT, z_eqlF, z_in, z_k7, z_cl, z_lneg, z_llT, z_llF, z_s1, z_nI_cl, z_nlt0, z_ne_m1, z_b0, z_b1, z_la, z_al, z_lm, z_ml, z_nm, nI_add, pk_mul, ↓reduceIte, not_true_eq_false, not_false_eq_true, true_or, or_true, false_or, or_false, true_and, and_true, and_false, false_and, Classical.not_not, Nat.add_zero, z_01, z_em, z_bit_p, Nat.not_le, Nat.not_lt, reduceCtorEq, if_true, if_false]
  · refine ⟨some (.int c), some (.int b), ?_⟩
    rw [e_L_law__24_5]
    simp (disch := omega) only [e_L_law__169, e_L_law__182, e_L_law__185, e_L_law__200, e_L_law__1606, k_L_law__169, k_L_law__182, k_L_law__185, h1, h2, j_thrown, j_cmp, q_bn_l, h3, c0, q_bd_l, z_ltT, z_ltF, z_eqT, z_eqF, z_ltlT, z_ltlF, z_lltT, z_lltF, z_eqlT, z_eqlF, z_in, z_k7, z_cl, z_lneg, z_llT, z_llF, z_s1, z_nI_cl, z_nlt0, z_ne_m1, z_b0, z_b1, z_la, z_al, z_lm, z_ml, z_nm, nI_add, pk_mul, ↓reduceIte, not_true_eq_false, not_false_eq_true, true_or, or_true, false_or, or_false, true_and, and_true, and_false, false_and, Classical.not_not, Nat.add_zero, z_01, z_em, z_bit_p, Nat.not_le, Nat.not_lt, reduceCtorEq, if_true, if_false]
theorem j_6 (X : Sx) (d i : Nat) (o5 o6 : Option Value) (I J K : Ii) (T T1 : Tt) (c b : Int32) (hX : X.1 ≤ 3072) (hi : i + 6 ≤ X.1) (h1 : c_L_advice_0_150 X (d + 50) (X.2 (i + 1)) (X.2 (i + 2)) (j_b (X.2 (i + 3))) I T = z_r c J T1) (h2 : c_X12_advice_139 X (d + 50) (X.2 (i + 1)) (X.2 (i + 2)) (j_b (X.2 (i + 3))) J T1 = z_r b K T1) (h3 : K 139 0 = c) (h4 : c = 0 → T1.1 150 0 = b.toInt64) : ∃ u5 u6, c_L_law__24 X (d + 50) (nI i) o5 o6 6 I T = c_L_law__13 X (d + 50) (nI (i + 6)) u5 u6 K T1 := by
  by_cases q3 : X.2 (i + 3) = 0
  · by_cases c0 : c = 0
    · have h9 := h4 c0
      clear h4
      subst c0
      have z3 : j_b (X.2 (i + 3)) = 0 := by unfold j_b; rw [if_pos q3]
      rw [z3] at h1 h2
      refine ⟨some (.int 0), some (.int b), ?_⟩
      rw [e_L_law__24_6]
      simp (disch := omega) only [e_L_law__221, e_L_law__223, e_L_law__244, e_L_law__245, e_L_law__248, e_L_law__263, e_L_law__1606, k_L_law__223, k_L_law__245, k_L_law__248, h1, h2, j_thrown, j_cmp, q_bn_l, q3, h3, h9, q_bd_l, z_ltT, z_ltF, z_eqT, z_eqF, z_ltlT, z_ltlF, z_lltT, z_lltF, z_eqlT, z_eqlF, z_in, z_k7, z_cl, z_lneg, z_llT, z_llF, z_s1, z_nI_cl, z_nlt0, z_ne_m1, z_b0, z_b1, z_la, z_al, z_lm, z_ml, z_nm, nI_add, pk_mul, ↓reduceIte, not_true_eq_false, not_false_eq_true, true_or, or_true, false_or, or_false, true_and, and_true, and_false, false_and, Classical.not_not, Nat.add_zero, z_01, z_em, z_bit_p, Nat.not_le, Nat.not_lt, reduceCtorEq, if_true, if_false]
    · have z3 : j_b (X.2 (i + 3)) = 0 := by unfold j_b; rw [if_pos q3]
      rw [z3] at h1 h2
      refine ⟨some (.int c), some (.int b), ?_⟩
      rw [e_L_law__24_6]
      simp (disch := omega) only [e_L_law__221, e_L_law__223, e_L_law__244, e_L_law__245, e_L_law__248, e_L_law__263, e_L_law__1606, k_L_law__223, k_L_law__245, k_L_law__248, h1, h2, j_thrown, j_cmp, q_bn_l, q3, h3, c0, q_bd_l, z_ltT, z_ltF, z_eqT, z_eqF, z_ltlT, z_ltlF, z_lltT, z_lltF, z_eqlT, z_eqlF, z_in, z_k7, z_cl, z_lneg, z_llT, z_llF, z_s1, z_nI_cl, z_nlt0, z_ne_m1, z_b0, z_b1, z_la, z_al, z_lm, z_ml, z_nm, nI_add, pk_mul, ↓reduceIte, not_true_eq_false, not_false_eq_true, true_or, or_true, false_or, or_false, true_and, and_true, and_false, false_and, Classical.not_not, Nat.add_zero, z_01, z_em, z_bit_p, Nat.not_le, Nat.not_lt, reduceCtorEq, if_true, if_false]
  · by_cases c0 : c = 0
    · have h9 := h4 c0
      clear h4
      subst c0
      have z3 : j_b (X.2 (i + 3)) = 1 := by unfold j_b; rw [if_neg q3]
      rw [z3] at h1 h2
      refine ⟨some (.int 0), some (.int b), ?_⟩
      rw [e_L_law__24_6]
      simp (disch := omega) only [e_L_law__221, e_L_law__223, e_L_law__244, e_L_law__245, e_L_law__248, e_L_law__263, e_L_law__1606, k_L_law__223, k_L_law__245, k_L_law__248, h1, h2, j_thrown, j_cmp, q_bn_l, q3, h3, h9, q_bd_l, z_ltT, z_ltF, z_eqT, z_eqF, z_ltlT, z_ltlF, z_lltT, z_lltF, z_eqlT, z_eqlF, z_in, z_k7, z_cl, z_lneg, z_llT, z_llF, z_s1, z_nI_cl, z_nlt0, z_ne_m1, z_b0, z_b1, z_la, z_al, z_lm, z_ml, z_nm, nI_add, pk_mul, ↓reduceIte, not_true_eq_false, not_false_eq_true, true_or, or_true, false_or, or_false, true_and, and_true, and_false, false_and, Classical.not_not, Nat.add_zero, z_01, z_em, z_bit_p, Nat.not_le, Nat.not_lt, reduceCtorEq, if_true, if_false]
    · have z3 : j_b (X.2 (i + 3)) = 1 := by unfold j_b; rw [if_neg q3]
      rw [z3] at h1 h2
      refine ⟨some (.int c), some (.int b), ?_⟩
      rw [e_L_law__24_6]
      simp (disch := omega) only [e_L_law__221, e_L_law__223, e_L_law__244, e_L_law__245, e_L_law__248, e_L_law__263, e_L_law__1606, k_L_law__223, k_L_law__245, k_L_law__248, h1, h2, j_thrown, j_cmp, q_bn_l, q3, h3, c0, q_bd_l, z_ltT, z_ltF, z_eqT, z_eqF, z_ltlT, z_ltlF, z_lltT, z_lltF, z_eqlT, z_eqlF, z_in, z_k7, z_cl, z_lneg, z_llT, z_llF, z_s1, z_nI_cl, z_nlt0, z_ne_m1, z_b0, z_b1, z_la, z_al, z_lm, z_ml, z_nm, nI_add, pk_mul, ↓reduceIte, not_true_eq_false, not_false_eq_true, true_or, or_true, false_or, or_false, true_and, and_true, and_false, false_and, Classical.not_not, Nat.add_zero, z_01, z_em, z_bit_p, Nat.not_le, Nat.not_lt, reduceCtorEq, if_true, if_false]
theorem j_7 (X : Sx) (d i : Nat) (o5 o6 : Option Value) (I J K : Ii) (T T1 : Tt) (c b : Int32) (hX : X.1 ≤ 3072) (hi : i + 6 ≤ X.1) (h1 : c_L_light_0_150 X (d + 50) (X.2 (i + 1)) I T = z_r c J T1) (h2 : c_X12_light_139 X (d + 50) (X.2 (i + 1)) J T1 = z_r b K T1) (h3 : K 139 0 = c) (h4 : c = 0 → T1.1 150 0 = b.toInt64) : ∃ u5 u6, c_L_law__24 X (d + 50) (nI i) o5 o6 7 I T = c_L_law__13 X (d + 50) (nI (i + 6)) u5 u6 K T1 := by
  by_cases c0 : c = 0
  · have h9 := h4 c0
    clear h4
    subst c0
    refine ⟨some (.int 0), some (.int b), ?_⟩
    rw [e_L_law__24_7]
    simp (disch := omega) only [e_L_law__272, e_L_law__280, e_L_law__283, e_L_law__298, e_L_law__1606, k_L_law__272, k_L_law__280, k_L_law__283, h1, h2, j_thrown, j_cmp, q_bn_l, h3, h9, q_bd_l, z_ltT, z_ltF, z_eqT, z_eqF, z_ltlT, z_ltlF, z_lltT, z_lltF, z_eqlT, z_eqlF, z_in, z_k7, z_cl, z_lneg, z_llT, z_llF, z_s1, z_nI_cl, z_nlt0, z_ne_m1, z_b0, z_b1, z_la, z_al, z_lm, z_ml, z_nm, nI_add, pk_mul, ↓reduceIte, not_true_eq_false, not_false_eq_true, true_or, or_true, false_or, or_false, true_and, and_true, and_false, false_and, Classical.not_not, Nat.add_zero, z_01, z_em, z_bit_p, Nat.not_le, Nat.not_lt, reduceCtorEq, if_true, if_false]
  · refine ⟨some (.int c), some (.int b), ?_⟩
    rw [e_L_law__24_7]
    simp (disch := omega) only [e_L_law__272, e_L_law__280, e_L_law__283, e_L_law__298, e_L_law__1606, k_L_law__272, k_L_law__280, k_L_law__283, h1, h2, j_thrown, j_cmp, q_bn_l, h3, c0, q_bd_l, z_ltT, z_ltF, z_eqT, z_eqF, z_ltlT, z_ltlF, z_lltT, z_lltF, z_eqlT, z_eqlF, z_in, z_k7, z_cl, z_lneg, z_llT, z_llF, z_s1, z_nI_cl, z_nlt0, z_ne_m1, z_b0, z_b1, z_la, z_al, z_lm, z_ml, z_nm, nI_add, pk_mul, ↓reduceIte, not_true_eq_false, not_false_eq_true, true_or, or_true, false_or, or_false, true_and, and_true, and_false, false_and, Classical.not_not, Nat.add_zero, z_01, z_em, z_bit_p, Nat.not_le, Nat.not_lt, reduceCtorEq, if_true, if_false]
theorem j_8 (X : Sx) (d i : Nat) (o5 o6 : Option Value) (I J K : Ii) (T T1 : Tt) (c b : Int32) (hX : X.1 ≤ 3072) (hi : i + 6 ≤ X.1) (h1 : c_L_need_0_150 X (d + 50) (X.2 (i + 1)) (X.2 (i + 2)) I T = z_r c J T1) (h2 : c_X12_need_139 X (d + 50) (X.2 (i + 1)) (X.2 (i + 2)) J T1 = z_r b K T1) (h3 : K 139 0 = c) (h4 : c = 0 → T1.1 150 0 = b.toInt64) : ∃ u5 u6, c_L_law__24 X (d + 50) (nI i) o5 o6 8 I T = c_L_law__13 X (d + 50) (nI (i + 6)) u5 u6 K T1 := by
  by_cases c0 : c = 0
  · have h9 := h4 c0
    clear h4
    subst c0
    refine ⟨some (.int 0), some (.int b), ?_⟩
    rw [e_L_law__24_8]
    simp (disch := omega) only [e_L_law__312, e_L_law__325, e_L_law__328, e_L_law__343, e_L_law__1606, k_L_law__312, k_L_law__325, k_L_law__328, h1, h2, j_thrown, j_cmp, q_bn_l, h3, h9, q_bd_l, z_ltT, z_ltF, z_eqT, z_eqF, z_ltlT, z_ltlF, z_lltT, z_lltF, z_eqlT, z_eqlF, z_in, z_k7, z_cl, z_lneg, z_llT, z_llF, z_s1, z_nI_cl, z_nlt0, z_ne_m1, z_b0, z_b1, z_la, z_al, z_lm, z_ml, z_nm, nI_add, pk_mul, ↓reduceIte, not_true_eq_false, not_false_eq_true, true_or, or_true, false_or, or_false, true_and, and_true, and_false, false_and, Classical.not_not, Nat.add_zero, z_01, z_em, z_bit_p, Nat.not_le, Nat.not_lt, reduceCtorEq, if_true, if_false]
  · refine ⟨some (.int c), some (.int b), ?_⟩
    rw [e_L_law__24_8]
    simp (disch := omega) only [e_L_law__312, e_L_law__325, e_L_law__328, e_L_law__343, e_L_law__1606, k_L_law__312, k_L_law__325, k_L_law__328, h1, h2, j_thrown, j_cmp, q_bn_l, h3, c0, q_bd_l, z_ltT, z_ltF, z_eqT, z_eqF, z_ltlT, z_ltlF, z_lltT, z_lltF, z_eqlT, z_eqlF, z_in, z_k7, z_cl, z_lneg, z_llT, z_llF, z_s1, z_nI_cl, z_nlt0, z_ne_m1, z_b0, z_b1, z_la, z_al, z_lm, z_ml, z_nm, nI_add, pk_mul, ↓reduceIte, not_true_eq_false, not_false_eq_true, true_or, or_true, false_or, or_false, true_and, and_true, and_false, false_and, Classical.not_not, Nat.add_zero, z_01, z_em, z_bit_p, Nat.not_le, Nat.not_lt, reduceCtorEq, if_true, if_false]
theorem j_9 (X : Sx) (d i : Nat) (o5 o6 : Option Value) (I J K : Ii) (T T1 : Tt) (c b : Int32) (hX : X.1 ≤ 3072) (hi : i + 6 ≤ X.1) (h1 : c_L_ask_0_150 X (d + 50) (X.2 (i + 1)) (X.2 (i + 2)) I T = z_r c J T1) (h2 : c_X12_ask_139 X (d + 50) (X.2 (i + 1)) (X.2 (i + 2)) J T1 = z_r b K T1) (h3 : K 139 0 = c) (h4 : c = 0 → T1.1 150 0 = b.toInt64) : ∃ u5 u6, c_L_law__24 X (d + 50) (nI i) o5 o6 9 I T = c_L_law__13 X (d + 50) (nI (i + 6)) u5 u6 K T1 := by
  by_cases c0 : c = 0
  · have h9 := h4 c0
    clear h4
    subst c0
    refine ⟨some (.int 0), some (.int b), ?_⟩
    rw [e_L_law__24_9]
    simp (disch := omega) only [e_L_law__357, e_L_law__370, e_L_law__373, e_L_law__388, e_L_law__1606, k_L_law__357, k_L_law__370, k_L_law__373, h1, h2, j_thrown, j_cmp, q_bn_l, h3, h9, q_bd_l, z_ltT, z_ltF, z_eqT, z_eqF, z_ltlT, z_ltlF, z_lltT, z_lltF, z_eqlT, z_eqlF, z_in, z_k7, z_cl, z_lneg, z_llT, z_llF, z_s1, z_nI_cl, z_nlt0, z_ne_m1, z_b0, z_b1, z_la, z_al, z_lm, z_ml, z_nm, nI_add, pk_mul, ↓reduceIte, not_true_eq_false, not_false_eq_true, true_or, or_true, false_or, or_false, true_and, and_true, and_false, false_and, Classical.not_not, Nat.add_zero, z_01, z_em, z_bit_p, Nat.not_le, Nat.not_lt, reduceCtorEq, if_true, if_false]
  · refine ⟨some (.int c), some (.int b), ?_⟩
    rw [e_L_law__24_9]
    simp (disch := omega) only [e_L_law__357, e_L_law__370, e_L_law__373, e_L_law__388, e_L_law__1606, k_L_law__357, k_L_law__370, k_L_law__373, h1, h2, j_thrown, j_cmp, q_bn_l, h3, c0, q_bd_l, z_ltT, z_ltF, z_eqT, z_eqF, z_ltlT, z_ltlF, z_lltT, z_lltF, z_eqlT, z_eqlF, z_in, z_k7, z_cl, z_lneg, z_llT, z_llF, z_s1, z_nI_cl, z_nlt0, z_ne_m1, z_b0, z_b1, z_la, z_al, z_lm, z_ml, z_nm, nI_add, pk_mul, ↓reduceIte, not_true_eq_false, not_false_eq_true, true_or, or_true, false_or, or_false, true_and, and_true, and_false, false_and, Classical.not_not, Nat.add_zero, z_01, z_em, z_bit_p, Nat.not_le, Nat.not_lt, reduceCtorEq, if_true, if_false]
theorem j_10 (X : Sx) (d i : Nat) (o5 o6 : Option Value) (I J K : Ii) (T T1 : Tt) (c b : Int32) (hX : X.1 ≤ 3072) (hi : i + 6 ≤ X.1) (h1 : c_L_mix_0_150 X (d + 50) (X.2 (i + 1)) (X.2 (i + 2)) (X.2 (i + 3)) I T = z_r c J T1) (h2 : c_X12_mix_139 X (d + 50) (X.2 (i + 1)) (X.2 (i + 2)) (X.2 (i + 3)) J T1 = z_r b K T1) (h3 : K 139 0 = c) (h4 : c = 0 → T1.1 150 0 = b.toInt64) : ∃ u5 u6, c_L_law__24 X (d + 50) (nI i) o5 o6 10 I T = c_L_law__13 X (d + 50) (nI (i + 6)) u5 u6 K T1 := by
  by_cases c0 : c = 0
  · have h9 := h4 c0
    clear h4
    subst c0
    refine ⟨some (.int 0), some (.int b), ?_⟩
    rw [e_L_law__24_10]
    simp (disch := omega) only [e_L_law__407, e_L_law__425, e_L_law__428, e_L_law__443, e_L_law__1606, k_L_law__407, k_L_law__425, k_L_law__428, h1, h2, j_thrown, j_cmp, q_bn_l, h3, h9, q_bd_l, z_ltT, z_ltF, z_eqT, z_eqF, z_ltlT, z_ltlF, z_lltT, z_lltF, z_eqlT, z_eqlF, z_in, z_k7, z_cl, z_lneg, z_llT, z_llF, z_s1, z_nI_cl, z_nlt0, z_ne_m1, z_b0, z_b1, z_la, z_al, z_lm, z_ml, z_nm, nI_add, pk_mul, ↓reduceIte, not_true_eq_false, not_false_eq_true, true_or, or_true, false_or, or_false, true_and, and_true, and_false, false_and, Classical.not_not, Nat.add_zero, z_01, z_em, z_bit_p, Nat.not_le, Nat.not_lt, reduceCtorEq, if_true, if_false]
  · refine ⟨some (.int c), some (.int b), ?_⟩
    rw [e_L_law__24_10]
    simp (disch := omega) only [e_L_law__407, e_L_law__425, e_L_law__428, e_L_law__443, e_L_law__1606, k_L_law__407, k_L_law__425, k_L_law__428, h1, h2, j_thrown, j_cmp, q_bn_l, h3, c0, q_bd_l, z_ltT, z_ltF, z_eqT, z_eqF, z_ltlT, z_ltlF, z_lltT, z_lltF, z_eqlT, z_eqlF, z_in, z_k7, z_cl, z_lneg, z_llT, z_llF, z_s1, z_nI_cl, z_nlt0, z_ne_m1, z_b0, z_b1, z_la, z_al, z_lm, z_ml, z_nm, nI_add, pk_mul, ↓reduceIte, not_true_eq_false, not_false_eq_true, true_or, or_true, false_or, or_false, true_and, and_true, and_false, false_and, Classical.not_not, Nat.add_zero, z_01, z_em, z_bit_p, Nat.not_le, Nat.not_lt, reduceCtorEq, if_true, if_false]
theorem j_11 (X : Sx) (d i : Nat) (o5 o6 : Option Value) (I J K : Ii) (T T1 : Tt) (c b : Int32) (hX : X.1 ≤ 3072) (hi : i + 6 ≤ X.1) (h1 : c_L_close_0_150 X (d + 50) (X.2 (i + 1)) I T = z_r c J T1) (h2 : c_X12_close_139 X (d + 50) (X.2 (i + 1)) J T1 = z_r b K T1) (h3 : K 139 0 = c) (h4 : c = 0 → T1.1 150 0 = (if b = 0 then Int64.ofNat 0 else Int64.ofNat 1)) : ∃ u5 u6, c_L_law__24 X (d + 50) (nI i) o5 o6 11 I T = c_L_law__13 X (d + 50) (nI (i + 6)) u5 u6 K T1 := by
  by_cases c0 : c = 0
  · have h9 := h4 c0
    clear h4
    subst c0
    by_cases b0 : b = 0
    · rw [if_pos b0] at h9
      refine ⟨some (.int 0), some (.int b), ?_⟩
      rw [e_L_law__24_11]
      simp (disch := omega) only [e_L_law__452, e_L_law__460, e_L_law__463, e_L_law__481, e_L_law__1606, e_L_law__477, k_L_law__452, k_L_law__460, k_L_law__463, h1, h2, j_thrown, j_cmp, q_bn_l, h3, h9, b0, q_bd_l, z_ltT, z_ltF, z_eqT, z_eqF, z_ltlT, z_ltlF, z_lltT, z_lltF, z_eqlT, z_eqlF, z_in, z_k7, z_cl, z_lneg, z_llT, z_llF, z_s1, z_nI_cl, z_nlt0, z_ne_m1, z_b0, z_b1, z_la, z_al, z_lm, z_ml, z_nm, nI_add, pk_mul, ↓reduceIte, not_true_eq_false, not_false_eq_true, true_or, or_true, false_or, or_false, true_and, and_true, and_false, false_and, Classical.not_not, Nat.add_zero, z_01, z_em, z_bit_p, Nat.not_le, Nat.not_lt, reduceCtorEq, if_true, if_false]
    · rw [if_neg b0] at h9
      refine ⟨some (.int 0), some (.int b), ?_⟩
      rw [e_L_law__24_11]
      simp (disch := omega) only [e_L_law__452, e_L_law__460, e_L_law__463, e_L_law__481, e_L_law__1606, e_L_law__477, k_L_law__452, k_L_law__460, k_L_law__463, h1, h2, j_thrown, j_cmp, q_bn_l, h3, h9, b0, q_bd_l, z_ltT, z_ltF, z_eqT, z_eqF, z_ltlT, z_ltlF, z_lltT, z_lltF, z_eqlT, z_eqlF, z_in, z_k7, z_cl, z_lneg, z_llT, z_llF, z_s1, z_nI_cl, z_nlt0, z_ne_m1, z_b0, z_b1, z_la, z_al, z_lm, z_ml, z_nm, nI_add, pk_mul, ↓reduceIte, not_true_eq_false, not_false_eq_true, true_or, or_true, false_or, or_false, true_and, and_true, and_false, false_and, Classical.not_not, Nat.add_zero, z_01, z_em, z_bit_p, Nat.not_le, Nat.not_lt, reduceCtorEq, if_true, if_false]
  · refine ⟨some (.int c), some (.int b), ?_⟩
    rw [e_L_law__24_11]
    simp (disch := omega) only [e_L_law__452, e_L_law__460, e_L_law__463, e_L_law__481, e_L_law__1606, e_L_law__477, k_L_law__452, k_L_law__460, k_L_law__463, h1, h2, j_thrown, j_cmp, q_bn_l, h3, c0, q_bd_l, z_ltT, z_ltF, z_eqT, z_eqF, z_ltlT, z_ltlF, z_lltT, z_lltF, z_eqlT, z_eqlF, z_in, z_k7, z_cl, z_lneg, z_llT, z_llF, z_s1, z_nI_cl, z_nlt0, z_ne_m1, z_b0, z_b1, z_la, z_al, z_lm, z_ml, z_nm, nI_add, pk_mul, ↓reduceIte, not_true_eq_false, not_false_eq_true, true_or, or_true, false_or, or_false, true_and, and_true, and_false, false_and, Classical.not_not, Nat.add_zero, z_01, z_em, z_bit_p, Nat.not_le, Nat.not_lt, reduceCtorEq, if_true, if_false]
theorem j_12 (X : Sx) (d i : Nat) (o5 o6 : Option Value) (I J K : Ii) (T T1 : Tt) (c b : Int32) (hX : X.1 ≤ 3072) (hi : i + 6 ≤ X.1) (h1 : c_L_label_0_150 X (d + 50) (X.2 (i + 1)) (X.2 (i + 2)) I T = z_r c J T1) (h2 : c_X12_label_139 X (d + 50) (X.2 (i + 1)) (X.2 (i + 2)) J T1 = z_r b K T1) (h3 : K 139 0 = c) (h4 : c = 0 → T1.1 150 0 = b.toInt64) : ∃ u5 u6, c_L_law__24 X (d + 50) (nI i) o5 o6 12 I T = c_L_law__13 X (d + 50) (nI (i + 6)) u5 u6 K T1 := by
  by_cases c0 : c = 0
  · have h9 := h4 c0
    clear h4
    subst c0
    refine ⟨some (.int 0), some (.int b), ?_⟩
    rw [e_L_law__24_12]
    simp (disch := omega) only [e_L_law__495, e_L_law__508, e_L_law__511, e_L_law__526, e_L_law__1606, k_L_law__495, k_L_law__508, k_L_law__511, h1, h2, j_thrown, j_cmp, q_bn_l, h3, h9, q_bd_l, z_ltT, z_ltF, z_eqT, z_eqF, z_ltlT, z_ltlF, z_lltT, z_lltF, z_eqlT, z_eqlF, z_in, z_k7, z_cl, z_lneg, z_llT, z_llF, z_s1, z_nI_cl, z_nlt0, z_ne_m1, z_b0, z_b1, z_la, z_al, z_lm, z_ml, z_nm, nI_add, pk_mul, ↓reduceIte, not_true_eq_false, not_false_eq_true, true_or, or_true, false_or, or_false, true_and, and_true, and_false, false_and, Classical.not_not, Nat.add_zero, z_01, z_em, z_bit_p, Nat.not_le, Nat.not_lt, reduceCtorEq, if_true, if_false]
  · refine ⟨some (.int c), some (.int b), ?_⟩
    rw [e_L_law__24_12]
    simp (disch := omega) only [e_L_law__495, e_L_law__508, e_L_law__511, e_L_law__526, e_L_law__1606, k_L_law__495, k_L_law__508, k_L_law__511, h1, h2, j_thrown, j_cmp, q_bn_l, h3, c0, q_bd_l, z_ltT, z_ltF, z_eqT, z_eqF, z_ltlT, z_ltlF, z_lltT, z_lltF, z_eqlT, z_eqlF, z_in, z_k7, z_cl, z_lneg, z_llT, z_llF, z_s1, z_nI_cl, z_nlt0, z_ne_m1, z_b0, z_b1, z_la, z_al, z_lm, z_ml, z_nm, nI_add, pk_mul, ↓reduceIte, not_true_eq_false, not_false_eq_true, true_or, or_true, false_or, or_false, true_and, and_true, and_false, false_and, Classical.not_not, Nat.add_zero, z_01, z_em, z_bit_p, Nat.not_le, Nat.not_lt, reduceCtorEq, if_true, if_false]
theorem j_13 (X : Sx) (d i : Nat) (o5 o6 : Option Value) (I J K : Ii) (T T1 : Tt) (c b : Int32) (hX : X.1 ≤ 3072) (hi : i + 6 ≤ X.1) (h1 : c_L_move_0_150 X (d + 50) (X.2 (i + 1)) (X.2 (i + 2)) I T = z_r c J T1) (h2 : c_X12_move_139 X (d + 50) (X.2 (i + 1)) (X.2 (i + 2)) J T1 = z_r b K T1) (h3 : K 139 0 = c) (h4 : c = 0 → T1.1 150 0 = b.toInt64) : ∃ u5 u6, c_L_law__24 X (d + 50) (nI i) o5 o6 13 I T = c_L_law__13 X (d + 50) (nI (i + 6)) u5 u6 K T1 := by
  by_cases c0 : c = 0
  · have h9 := h4 c0
    clear h4
    subst c0
    refine ⟨some (.int 0), some (.int b), ?_⟩
    rw [e_L_law__24_13]
    simp (disch := omega) only [e_L_law__540, e_L_law__553, e_L_law__556, e_L_law__571, e_L_law__1606, k_L_law__540, k_L_law__553, k_L_law__556, h1, h2, j_thrown, j_cmp, q_bn_l, h3, h9, q_bd_l, z_ltT, z_ltF, z_eqT, z_eqF, z_ltlT, z_ltlF, z_lltT, z_lltF, z_eqlT, z_eqlF, z_in, z_k7, z_cl, z_lneg, z_llT, z_llF, z_s1, z_nI_cl, z_nlt0, z_ne_m1, z_b0, z_b1, z_la, z_al, z_lm, z_ml, z_nm, nI_add, pk_mul, ↓reduceIte, not_true_eq_false, not_false_eq_true, true_or, or_true, false_or, or_false, true_and, and_true, and_false, false_and, Classical.not_not, Nat.add_zero, z_01, z_em, z_bit_p, Nat.not_le, Nat.not_lt, reduceCtorEq, if_true, if_false]
  · refine ⟨some (.int c), some (.int b), ?_⟩
    rw [e_L_law__24_13]
    simp (disch := omega) only [e_L_law__540, e_L_law__553, e_L_law__556, e_L_law__571, e_L_law__1606, k_L_law__540, k_L_law__553, k_L_law__556, h1, h2, j_thrown, j_cmp, q_bn_l, h3, c0, q_bd_l, z_ltT, z_ltF, z_eqT, z_eqF, z_ltlT, z_ltlF, z_lltT, z_lltF, z_eqlT, z_eqlF, z_in, z_k7, z_cl, z_lneg, z_llT, z_llF, z_s1, z_nI_cl, z_nlt0, z_ne_m1, z_b0, z_b1, z_la, z_al, z_lm, z_ml, z_nm, nI_add, pk_mul, ↓reduceIte, not_true_eq_false, not_false_eq_true, true_or, or_true, false_or, or_false, true_and, and_true, and_false, false_and, Classical.not_not, Nat.add_zero, z_01, z_em, z_bit_p, Nat.not_le, Nat.not_lt, reduceCtorEq, if_true, if_false]
theorem j_14 (X : Sx) (d i : Nat) (o5 o6 : Option Value) (I J K : Ii) (T T1 : Tt) (c b : Int32) (hX : X.1 ≤ 3072) (hi : i + 6 ≤ X.1) (h1 : c_L_years_0_150 X (d + 50) (X.2 (i + 1)) I T = z_r c J T1) (h2 : c_X12_years_139 X (d + 50) (X.2 (i + 1)) J T1 = z_r b K T1) (h3 : K 139 0 = c) (h4 : c = 0 → T1.1 150 0 = b.toInt64) : ∃ u5 u6, c_L_law__24 X (d + 50) (nI i) o5 o6 14 I T = c_L_law__13 X (d + 50) (nI (i + 6)) u5 u6 K T1 := by
  by_cases c0 : c = 0
  · have h9 := h4 c0
    clear h4
    subst c0
    refine ⟨some (.int 0), some (.int b), ?_⟩
    rw [e_L_law__24_14]
    simp (disch := omega) only [e_L_law__580, e_L_law__588, e_L_law__591, e_L_law__606, e_L_law__1606, k_L_law__580, k_L_law__588, k_L_law__591, h1, h2, j_thrown, j_cmp, q_bn_l, h3, h9, q_bd_l, z_ltT, z_ltF, z_eqT, z_eqF, z_ltlT, z_ltlF, z_lltT, z_lltF, z_eqlT, z_eqlF, z_in, z_k7, z_cl, z_lneg, z_llT, z_llF, z_s1, z_nI_cl, z_nlt0, z_ne_m1, z_b0, z_b1, z_la, z_al, z_lm, z_ml, z_nm, nI_add, pk_mul, ↓reduceIte, not_true_eq_false, not_false_eq_true, true_or, or_true, false_or, or_false, true_and, and_true, and_false, false_and, Classical.not_not, Nat.add_zero, z_01, z_em, z_bit_p, Nat.not_le, Nat.not_lt, reduceCtorEq, if_true, if_false]
  · refine ⟨some (.int c), some (.int b), ?_⟩
    rw [e_L_law__24_14]
    simp (disch := omega) only [e_L_law__580, e_L_law__588, e_L_law__591, e_L_law__606, e_L_law__1606, k_L_law__580, k_L_law__588, k_L_law__591, h1, h2, j_thrown, j_cmp, q_bn_l, h3, c0, q_bd_l, z_ltT, z_ltF, z_eqT, z_eqF, z_ltlT, z_ltlF, z_lltT, z_lltF, z_eqlT, z_eqlF, z_in, z_k7, z_cl, z_lneg, z_llT, z_llF, z_s1, z_nI_cl, z_nlt0, z_ne_m1, z_b0, z_b1, z_la, z_al, z_lm, z_ml, z_nm, nI_add, pk_mul, ↓reduceIte, not_true_eq_false, not_false_eq_true, true_or, or_true, false_or, or_false, true_and, and_true, and_false, false_and, Classical.not_not, Nat.add_zero, z_01, z_em, z_bit_p, Nat.not_le, Nat.not_lt, reduceCtorEq, if_true, if_false]
theorem j_15 (X : Sx) (d i : Nat) (o5 o6 : Option Value) (I J K : Ii) (T T1 : Tt) (c b : Int32) (hX : X.1 ≤ 3072) (hi : i + 6 ≤ X.1) (h1 : c_L_mixture_0_150 X (d + 50) (X.2 (i + 1)) (X.2 (i + 2)) (X.2 (i + 3)) I T = z_r c J T1) (h2 : c_X12_mixture_139 X (d + 50) (X.2 (i + 1)) (X.2 (i + 2)) (X.2 (i + 3)) J T1 = z_r b K T1) (h3 : K 139 0 = c) (h4 : c = 0 → T1.1 150 0 = b.toInt64) : ∃ u5 u6, c_L_law__24 X (d + 50) (nI i) o5 o6 15 I T = c_L_law__13 X (d + 50) (nI (i + 6)) u5 u6 K T1 := by
  by_cases c0 : c = 0
  · have h9 := h4 c0
    clear h4
    subst c0
    refine ⟨some (.int 0), some (.int b), ?_⟩
    rw [e_L_law__24_15]
    simp (disch := omega) only [e_L_law__625, e_L_law__643, e_L_law__646, e_L_law__661, e_L_law__1606, k_L_law__625, k_L_law__643, k_L_law__646, h1, h2, j_thrown, j_cmp, q_bn_l, h3, h9, q_bd_l, z_ltT, z_ltF, z_eqT, z_eqF, z_ltlT, z_ltlF, z_lltT, z_lltF, z_eqlT, z_eqlF, z_in, z_k7, z_cl, z_lneg, z_llT, z_llF, z_s1, z_nI_cl, z_nlt0, z_ne_m1, z_b0, z_b1, z_la, z_al, z_lm, z_ml, z_nm, nI_add, pk_mul, ↓reduceIte, not_true_eq_false, not_false_eq_true, true_or, or_true, false_or, or_false, true_and, and_true, and_false, false_and, Classical.not_not, Nat.add_zero, z_01, z_em, z_bit_p, Nat.not_le, Nat.not_lt, reduceCtorEq, if_true, if_false]
  · refine ⟨some (.int c), some (.int b), ?_⟩
    rw [e_L_law__24_15]
    simp (disch := omega) only [e_L_law__625, e_L_law__643, e_L_law__646, e_L_law__661, e_L_law__1606, k_L_law__625, k_L_law__643, k_L_law__646, h1, h2, j_thrown, j_cmp, q_bn_l, h3, c0, q_bd_l, z_ltT, z_ltF, z_eqT, z_eqF, z_ltlT, z_ltlF, z_lltT, z_lltF, z_eqlT, z_eqlF, z_in, z_k7, z_cl, z_lneg, z_llT, z_llF, z_s1, z_nI_cl, z_nlt0, z_ne_m1, z_b0, z_b1, z_la, z_al, z_lm, z_ml, z_nm, nI_add, pk_mul, ↓reduceIte, not_true_eq_false, not_false_eq_true, true_or, or_true, false_or, or_false, true_and, and_true, and_false, false_and, Classical.not_not, Nat.add_zero, z_01, z_em, z_bit_p, Nat.not_le, Nat.not_lt, reduceCtorEq, if_true, if_false]
theorem j_16 (X : Sx) (d i : Nat) (o5 o6 : Option Value) (I J K : Ii) (T T1 : Tt) (c b : Int32) (hX : X.1 ≤ 3072) (hi : i + 6 ≤ X.1) (h1 : c_L_best_0_150 X (d + 50) (X.2 (i + 1)) (X.2 (i + 2)) I T = z_r c J T1) (h2 : c_X12_best_139 X (d + 50) (X.2 (i + 1)) (X.2 (i + 2)) J T1 = z_r b K T1) (h3 : K 139 0 = c) (h4 : c = 0 → T1.1 150 0 = b.toInt64) : ∃ u5 u6, c_L_law__24 X (d + 50) (nI i) o5 o6 16 I T = c_L_law__13 X (d + 50) (nI (i + 6)) u5 u6 K T1 := by
  by_cases c0 : c = 0
  · have h9 := h4 c0
    clear h4
    subst c0
    refine ⟨some (.int 0), some (.int b), ?_⟩
    rw [e_L_law__24_16]
    simp (disch := omega) only [e_L_law__675, e_L_law__688, e_L_law__691, e_L_law__706, e_L_law__1606, k_L_law__675, k_L_law__688, k_L_law__691, h1, h2, j_thrown, j_cmp, q_bn_l, h3, h9, q_bd_l, z_ltT, z_ltF, z_eqT, z_eqF, z_ltlT, z_ltlF, z_lltT, z_lltF, z_eqlT, z_eqlF, z_in, z_k7, z_cl, z_lneg, z_llT, z_llF, z_s1, z_nI_cl, z_nlt0, z_ne_m1, z_b0, z_b1, z_la, z_al, z_lm, z_ml, z_nm, nI_add, pk_mul, ↓reduceIte, not_true_eq_false, not_false_eq_true, true_or, or_true, false_or, or_false, true_and, and_true, and_false, false_and, Classical.not_not, Nat.add_zero, z_01, z_em, z_bit_p, Nat.not_le, Nat.not_lt, reduceCtorEq, if_true, if_false]
  · refine ⟨some (.int c), some (.int b), ?_⟩
    rw [e_L_law__24_16]
    simp (disch := omega) only [e_L_law__675, e_L_law__688, e_L_law__691, e_L_law__706, e_L_law__1606, k_L_law__675, k_L_law__688, k_L_law__691, h1, h2, j_thrown, j_cmp, q_bn_l, h3, c0, q_bd_l, z_ltT, z_ltF, z_eqT, z_eqF, z_ltlT, z_ltlF, z_lltT, z_lltF, z_eqlT, z_eqlF, z_in, z_k7, z_cl, z_lneg, z_llT, z_llF, z_s1, z_nI_cl, z_nlt0, z_ne_m1, z_b0, z_b1, z_la, z_al, z_lm, z_ml, z_nm, nI_add, pk_mul, ↓reduceIte, not_true_eq_false, not_false_eq_true, true_or, or_true, false_or, or_false, true_and, and_true, and_false, false_and, Classical.not_not, Nat.add_zero, z_01, z_em, z_bit_p, Nat.not_le, Nat.not_lt, reduceCtorEq, if_true, if_false]
theorem j_17 (X : Sx) (d i : Nat) (o5 o6 : Option Value) (I J K : Ii) (T : Tt) (b : Int32) (hX : X.1 ≤ 3072) (hi : i + 6 ≤ X.1) (h1 : c_X11_coalition_0 X (d + 50) I T = z_r b J T) (h2 : c_X12_coalition_139 X (d + 50) J T = z_r b K T) : ∃ u5 u6, c_L_law__24 X (d + 50) (nI i) o5 o6 17 I T = c_L_law__13 X (d + 50) (nI (i + 6)) u5 u6 K T := by
  refine ⟨o5, o6, ?_⟩
  rw [e_L_law__24_17]
  simp (disch := omega) only [e_L_law__709, e_L_law__711, e_L_law__1606, k_L_law__709, k_L_law__711, h1, h2, j_thrown, j_cmp, q_bn_l, q_bd_l, z_ltT, z_ltF, z_eqT, z_eqF, z_ltlT, z_ltlF, z_lltT, z_lltF, z_eqlT, z_eqlF, z_in, z_k7, z_cl, z_lneg, z_llT, z_llF, z_s1, z_nI_cl, z_nlt0, z_ne_m1, z_b0, z_b1, z_la, z_al, z_lm, z_ml, z_nm, nI_add, pk_mul, ↓reduceIte, not_true_eq_false, not_false_eq_true, true_or, or_true, false_or, or_false, true_and, and_true, and_false, false_and, Classical.not_not, Nat.add_zero, z_01, z_em, z_bit_p, Nat.not_le, Nat.not_lt, reduceCtorEq, if_true, if_false]
theorem j_18 (X : Sx) (d i : Nat) (o5 o6 : Option Value) (I J K : Ii) (T : Tt) (b : Int32) (hX : X.1 ≤ 3072) (hi : i + 6 ≤ X.1) (h1 : c_X11_agree_0 X (d + 50) (X.2 (i + 1)) I T = z_r b J T) (h2 : c_X12_agree_139 X (d + 50) (X.2 (i + 1)) J T = z_r b K T) : ∃ u5 u6, c_L_law__24 X (d + 50) (nI i) o5 o6 18 I T = c_L_law__13 X (d + 50) (nI (i + 6)) u5 u6 K T := by
  refine ⟨o5, o6, ?_⟩
  rw [e_L_law__24_18]
  simp (disch := omega) only [e_L_law__721, e_L_law__728, e_L_law__1606, k_L_law__721, k_L_law__728, h1, h2, j_thrown, j_cmp, q_bn_l, q_bd_l, z_ltT, z_ltF, z_eqT, z_eqF, z_ltlT, z_ltlF, z_lltT, z_lltF, z_eqlT, z_eqlF, z_in, z_k7, z_cl, z_lneg, z_llT, z_llF, z_s1, z_nI_cl, z_nlt0, z_ne_m1, z_b0, z_b1, z_la, z_al, z_lm, z_ml, z_nm, nI_add, pk_mul, ↓reduceIte, not_true_eq_false, not_false_eq_true, true_or, or_true, false_or, or_false, true_and, and_true, and_false, false_and, Classical.not_not, Nat.add_zero, z_01, z_em, z_bit_p, Nat.not_le, Nat.not_lt, reduceCtorEq, if_true, if_false]
theorem j_19 (X : Sx) (d i : Nat) (o5 o6 : Option Value) (I J K : Ii) (T T1 : Tt) (c b : Int32) (hX : X.1 ≤ 3072) (hi : i + 6 ≤ X.1) (h1 : c_L_cover_0_150 X (d + 50) (X.2 (i + 1)) I T = z_r c J T1) (h2 : c_X12_cover_139 X (d + 50) (X.2 (i + 1)) J T1 = z_r b K T1) (h3 : K 139 0 = c) (h4 : c = 0 → T1.1 150 0 = b.toInt64) : ∃ u5 u6, c_L_law__24 X (d + 50) (nI i) o5 o6 19 I T = c_L_law__13 X (d + 50) (nI (i + 6)) u5 u6 K T1 := by
  by_cases c0 : c = 0
  · have h9 := h4 c0
    clear h4
    subst c0
    refine ⟨some (.int 0), some (.int b), ?_⟩
    rw [e_L_law__24_19]
    simp (disch := omega) only [e_L_law__739, e_L_law__747, e_L_law__750, e_L_law__765, e_L_law__1606, k_L_law__739, k_L_law__747, k_L_law__750, h1, h2, j_thrown, j_cmp, q_bn_l, h3, h9, q_bd_l, z_ltT, z_ltF, z_eqT, z_eqF, z_ltlT, z_ltlF, z_lltT, z_lltF, z_eqlT, z_eqlF, z_in, z_k7, z_cl, z_lneg, z_llT, z_llF, z_s1, z_nI_cl, z_nlt0, z_ne_m1, z_b0, z_b1, z_la, z_al, z_lm, z_ml, z_nm, nI_add, pk_mul, ↓reduceIte, not_true_eq_false, not_false_eq_true, true_or, or_true, false_or, or_false, true_and, and_true, and_false, false_and, Classical.not_not, Nat.add_zero, z_01, z_em, z_bit_p, Nat.not_le, Nat.not_lt, reduceCtorEq, if_true, if_false]
  · refine ⟨some (.int c), some (.int b), ?_⟩
    rw [e_L_law__24_19]
    simp (disch := omega) only [e_L_law__739, e_L_law__747, e_L_law__750, e_L_law__765, e_L_law__1606, k_L_law__739, k_L_law__747, k_L_law__750, h1, h2, j_thrown, j_cmp, q_bn_l, h3, c0, q_bd_l, z_ltT, z_ltF, z_eqT, z_eqF, z_ltlT, z_ltlF, z_lltT, z_lltF, z_eqlT, z_eqlF, z_in, z_k7, z_cl, z_lneg, z_llT, z_llF, z_s1, z_nI_cl, z_nlt0, z_ne_m1, z_b0, z_b1, z_la, z_al, z_lm, z_ml, z_nm, nI_add, pk_mul, ↓reduceIte, not_true_eq_false, not_false_eq_true, true_or, or_true, false_or, or_false, true_and, and_true, and_false, false_and, Classical.not_not, Nat.add_zero, z_01, z_em, z_bit_p, Nat.not_le, Nat.not_lt, reduceCtorEq, if_true, if_false]
theorem j_20 (X : Sx) (d i : Nat) (o5 o6 : Option Value) (I J K : Ii) (T : Tt) (b : Int32) (hX : X.1 ≤ 3072) (hi : i + 6 ≤ X.1) (h1 : c_X11_plan_0 X (d + 50) I T = z_r b J T) (h2 : c_X12_plan_139 X (d + 50) J T = z_r b K T) : ∃ u5 u6, c_L_law__24 X (d + 50) (nI i) o5 o6 20 I T = c_L_law__13 X (d + 50) (nI (i + 6)) u5 u6 K T := by
  refine ⟨o5, o6, ?_⟩
  rw [e_L_law__24_20]
  simp (disch := omega) only [e_L_law__768, e_L_law__770, e_L_law__1606, k_L_law__768, k_L_law__770, h1, h2, j_thrown, j_cmp, q_bn_l, q_bd_l, z_ltT, z_ltF, z_eqT, z_eqF, z_ltlT, z_ltlF, z_lltT, z_lltF, z_eqlT, z_eqlF, z_in, z_k7, z_cl, z_lneg, z_llT, z_llF, z_s1, z_nI_cl, z_nlt0, z_ne_m1, z_b0, z_b1, z_la, z_al, z_lm, z_ml, z_nm, nI_add, pk_mul, ↓reduceIte, not_true_eq_false, not_false_eq_true, true_or, or_true, false_or, or_false, true_and, and_true, and_false, false_and, Classical.not_not, Nat.add_zero, z_01, z_em, z_bit_p, Nat.not_le, Nat.not_lt, reduceCtorEq, if_true, if_false]
theorem j_21 (X : Sx) (d i : Nat) (o5 o6 : Option Value) (I J K : Ii) (T : Tt) (b : Int32) (hX : X.1 ≤ 3072) (hi : i + 6 ≤ X.1) (h1 : c_X11_unmet_0 X (d + 50) I T = z_r b J T) (h2 : c_X12_unmet_139 X (d + 50) J T = z_r b K T) : ∃ u5 u6, c_L_law__24 X (d + 50) (nI i) o5 o6 21 I T = c_L_law__13 X (d + 50) (nI (i + 6)) u5 u6 K T := by
  refine ⟨o5, o6, ?_⟩
  rw [e_L_law__24_21]
  simp (disch := omega) only [e_L_law__775, e_L_law__777, e_L_law__1606, k_L_law__775, k_L_law__777, h1, h2, j_thrown, j_cmp, q_bn_l, q_bd_l, z_ltT, z_ltF, z_eqT, z_eqF, z_ltlT, z_ltlF, z_lltT, z_lltF, z_eqlT, z_eqlF, z_in, z_k7, z_cl, z_lneg, z_llT, z_llF, z_s1, z_nI_cl, z_nlt0, z_ne_m1, z_b0, z_b1, z_la, z_al, z_lm, z_ml, z_nm, nI_add, pk_mul, ↓reduceIte, not_true_eq_false, not_false_eq_true, true_or, or_true, false_or, or_false, true_and, and_true, and_false, false_and, Classical.not_not, Nat.add_zero, z_01, z_em, z_bit_p, Nat.not_le, Nat.not_lt, reduceCtorEq, if_true, if_false]
theorem j_22 (X : Sx) (d i : Nat) (o5 o6 : Option Value) (I J K : Ii) (T T1 : Tt) (c b : Int32) (hX : X.1 ≤ 3072) (hi : i + 6 ≤ X.1) (h1 : c_L_tastes_0_150 X (d + 50) (j_b (X.2 (i + 1))) I T = z_r c J T1) (h2 : c_X12_tastes_139 X (d + 50) (j_b (X.2 (i + 1))) J T1 = z_r b K T1) (h3 : K 139 0 = c) (h4 : c = 0 → T1.1 150 0 = b.toInt64) : ∃ u5 u6, c_L_law__24 X (d + 50) (nI i) o5 o6 22 I T = c_L_law__13 X (d + 50) (nI (i + 6)) u5 u6 K T1 := by
  by_cases q1 : X.2 (i + 1) = 0
  · by_cases c0 : c = 0
    · have h9 := h4 c0
      clear h4
      subst c0
      have z1 : j_b (X.2 (i + 1)) = 0 := by unfold j_b; rw [if_pos q1]
      rw [z1] at h1 h2
      refine ⟨some (.int 0), some (.int b), ?_⟩
      rw [e_L_law__24_22]
      simp (disch := omega) only [e_L_law__790, e_L_law__792, e_L_law__803, e_L_law__804, e_L_law__807, e_L_law__822, e_L_law__1606, k_L_law__792, k_L_law__804, k_L_law__807, h1, h2, j_thrown, j_cmp, q_bn_l, q1, h3, h9, q_bd_l, z_ltT, z_ltF, z_eqT, z_eqF, z_ltlT, z_ltlF, z_lltT, z_lltF, z_eqlT, z_eqlF, z_in, z_k7, z_cl, z_lneg, z_llT, z_llF, z_s1, z_nI_cl, z_nlt0, z_ne_m1, z_b0, z_b1, z_la, z_al, z_lm, z_ml, z_nm, nI_add, pk_mul, ↓reduceIte, not_true_eq_false, not_false_eq_true, true_or, or_true, false_or, or_false, true_and, and_true, and_false, false_and, Classical.not_not, Nat.add_zero, z_01, z_em, z_bit_p, Nat.not_le, Nat.not_lt, reduceCtorEq, if_true, if_false]
    · have z1 : j_b (X.2 (i + 1)) = 0 := by unfold j_b; rw [if_pos q1]
      rw [z1] at h1 h2
      refine ⟨some (.int c), some (.int b), ?_⟩
      rw [e_L_law__24_22]
      simp (disch := omega) only [e_L_law__790, e_L_law__792, e_L_law__803, e_L_law__804, e_L_law__807, e_L_law__822, e_L_law__1606, k_L_law__792, k_L_law__804, k_L_law__807, h1, h2, j_thrown, j_cmp, q_bn_l, q1, h3, c0, q_bd_l, z_ltT, z_ltF, z_eqT, z_eqF, z_ltlT, z_ltlF, z_lltT, z_lltF, z_eqlT, z_eqlF, z_in, z_k7, z_cl, z_lneg, z_llT, z_llF, z_s1, z_nI_cl, z_nlt0, z_ne_m1, z_b0, z_b1, z_la, z_al, z_lm, z_ml, z_nm, nI_add, pk_mul, ↓reduceIte, not_true_eq_false, not_false_eq_true, true_or, or_true, false_or, or_false, true_and, and_true, and_false, false_and, Classical.not_not, Nat.add_zero, z_01, z_em, z_bit_p, Nat.not_le, Nat.not_lt, reduceCtorEq, if_true, if_false]
  · by_cases c0 : c = 0
    · have h9 := h4 c0
      clear h4
      subst c0
      have z1 : j_b (X.2 (i + 1)) = 1 := by unfold j_b; rw [if_neg q1]
      rw [z1] at h1 h2
      refine ⟨some (.int 0), some (.int b), ?_⟩
      rw [e_L_law__24_22]
      simp (disch := omega) only [e_L_law__790, e_L_law__792, e_L_law__803, e_L_law__804, e_L_law__807, e_L_law__822, e_L_law__1606, k_L_law__792, k_L_law__804, k_L_law__807, h1, h2, j_thrown, j_cmp, q_bn_l, q1, h3, h9, q_bd_l, z_ltT, z_ltF, z_eqT, z_eqF, z_ltlT, z_ltlF, z_lltT, z_lltF, z_eqlT, z_eqlF, z_in, z_k7, z_cl, z_lneg, z_llT, z_llF, z_s1, z_nI_cl, z_nlt0, z_ne_m1, z_b0, z_b1, z_la, z_al, z_lm, z_ml, z_nm, nI_add, pk_mul, ↓reduceIte, not_true_eq_false, not_false_eq_true, true_or, or_true, false_or, or_false, true_and, and_true, and_false, false_and, Classical.not_not, Nat.add_zero, z_01, z_em, z_bit_p, Nat.not_le, Nat.not_lt, reduceCtorEq, if_true, if_false]
    · have z1 : j_b (X.2 (i + 1)) = 1 := by unfold j_b; rw [if_neg q1]
      rw [z1] at h1 h2
      refine ⟨some (.int c), some (.int b), ?_⟩
      rw [e_L_law__24_22]
      simp (disch := omega) only [e_L_law__790, e_L_law__792, e_L_law__803, e_L_law__804, e_L_law__807, e_L_law__822, e_L_law__1606, k_L_law__792, k_L_law__804, k_L_law__807, h1, h2, j_thrown, j_cmp, q_bn_l, q1, h3, c0, q_bd_l, z_ltT, z_ltF, z_eqT, z_eqF, z_ltlT, z_ltlF, z_lltT, z_lltF, z_eqlT, z_eqlF, z_in, z_k7, z_cl, z_lneg, z_llT, z_llF, z_s1, z_nI_cl, z_nlt0, z_ne_m1, z_b0, z_b1, z_la, z_al, z_lm, z_ml, z_nm, nI_add, pk_mul, ↓reduceIte, not_true_eq_false, not_false_eq_true, true_or, or_true, false_or, or_false, true_and, and_true, and_false, false_and, Classical.not_not, Nat.add_zero, z_01, z_em, z_bit_p, Nat.not_le, Nat.not_lt, reduceCtorEq, if_true, if_false]
theorem j_23 (X : Sx) (d i : Nat) (o5 o6 : Option Value) (I J K : Ii) (T T1 : Tt) (c b : Int32) (hX : X.1 ≤ 3072) (hi : i + 6 ≤ X.1) (h1 : c_L_next_0_150 X (d + 50) I T = z_r c J T1) (h2 : c_X12_next_139 X (d + 50) J T1 = z_r b K T1) (h3 : K 139 0 = c) (h4 : c = 0 → T1.1 150 0 = b.toInt64) : ∃ u5 u6, c_L_law__24 X (d + 50) (nI i) o5 o6 23 I T = c_L_law__13 X (d + 50) (nI (i + 6)) u5 u6 K T1 := by
  by_cases c0 : c = 0
  · have h9 := h4 c0
    clear h4
    subst c0
    refine ⟨some (.int 0), some (.int b), ?_⟩
    rw [e_L_law__24_23]
    simp (disch := omega) only [e_L_law__826, e_L_law__829, e_L_law__832, e_L_law__847, e_L_law__1606, k_L_law__826, k_L_law__829, k_L_law__832, h1, h2, j_thrown, j_cmp, q_bn_l, h3, h9, q_bd_l, z_ltT, z_ltF, z_eqT, z_eqF, z_ltlT, z_ltlF, z_lltT, z_lltF, z_eqlT, z_eqlF, z_in, z_k7, z_cl, z_lneg, z_llT, z_llF, z_s1, z_nI_cl, z_nlt0, z_ne_m1, z_b0, z_b1, z_la, z_al, z_lm, z_ml, z_nm, nI_add, pk_mul, ↓reduceIte, not_true_eq_false, not_false_eq_true, true_or, or_true, false_or, or_false, true_and, and_true, and_false, false_and, Classical.not_not, Nat.add_zero, z_01, z_em, z_bit_p, Nat.not_le, Nat.not_lt, reduceCtorEq, if_true, if_false]
  · refine ⟨some (.int c), some (.int b), ?_⟩
    rw [e_L_law__24_23]
    simp (disch := omega) only [e_L_law__826, e_L_law__829, e_L_law__832, e_L_law__847, e_L_law__1606, k_L_law__826, k_L_law__829, k_L_law__832, h1, h2, j_thrown, j_cmp, q_bn_l, h3, c0, q_bd_l, z_ltT, z_ltF, z_eqT, z_eqF, z_ltlT, z_ltlF, z_lltT, z_lltF, z_eqlT, z_eqlF, z_in, z_k7, z_cl, z_lneg, z_llT, z_llF, z_s1, z_nI_cl, z_nlt0, z_ne_m1, z_b0, z_b1, z_la, z_al, z_lm, z_ml, z_nm, nI_add, pk_mul, ↓reduceIte, not_true_eq_false, not_false_eq_true, true_or, or_true, false_or, or_false, true_and, and_true, and_false, false_and, Classical.not_not, Nat.add_zero, z_01, z_em, z_bit_p, Nat.not_le, Nat.not_lt, reduceCtorEq, if_true, if_false]
theorem j_24 (X : Sx) (d i : Nat) (o5 o6 : Option Value) (I J K : Ii) (T : Tt) (b : Int32) (hX : X.1 ≤ 3072) (hi : i + 6 ≤ X.1) (h1 : c_X11_harm_0 X (d + 50) I T = z_r b J T) (h2 : c_X12_harm_139 X (d + 50) J T = z_r b K T) : ∃ u5 u6, c_L_law__24 X (d + 50) (nI i) o5 o6 24 I T = c_L_law__13 X (d + 50) (nI (i + 6)) u5 u6 K T := by
  refine ⟨o5, o6, ?_⟩
  rw [e_L_law__24_24]
  simp (disch := omega) only [e_L_law__850, e_L_law__852, e_L_law__1606, k_L_law__850, k_L_law__852, h1, h2, j_thrown, j_cmp, q_bn_l, q_bd_l, z_ltT, z_ltF, z_eqT, z_eqF, z_ltlT, z_ltlF, z_lltT, z_lltF, z_eqlT, z_eqlF, z_in, z_k7, z_cl, z_lneg, z_llT, z_llF, z_s1, z_nI_cl, z_nlt0, z_ne_m1, z_b0, z_b1, z_la, z_al, z_lm, z_ml, z_nm, nI_add, pk_mul, ↓reduceIte, not_true_eq_false, not_false_eq_true, true_or, or_true, false_or, or_false, true_and, and_true, and_false, false_and, Classical.not_not, Nat.add_zero, z_01, z_em, z_bit_p, Nat.not_le, Nat.not_lt, reduceCtorEq, if_true, if_false]
theorem j_25 (X : Sx) (d i : Nat) (o5 o6 : Option Value) (I J K : Ii) (T T1 : Tt) (c b : Int32) (hX : X.1 ≤ 3072) (hi : i + 6 ≤ X.1) (h1 : c_L_arranged_0_150 X (d + 50) (X.2 (i + 1)) I T = z_r c J T1) (h2 : c_X12_arranged_139 X (d + 50) (X.2 (i + 1)) J T1 = z_r b K T1) (h3 : K 139 0 = c) (h4 : c = 0 → T1.1 150 0 = b.toInt64) : ∃ u5 u6, c_L_law__24 X (d + 50) (nI i) o5 o6 25 I T = c_L_law__13 X (d + 50) (nI (i + 6)) u5 u6 K T1 := by
  by_cases c0 : c = 0
  · have h9 := h4 c0
    clear h4
    subst c0
    refine ⟨some (.int 0), some (.int b), ?_⟩
    rw [e_L_law__24_25]
    simp (disch := omega) only [e_L_law__863, e_L_law__871, e_L_law__874, e_L_law__889, e_L_law__1606, k_L_law__863, k_L_law__871, k_L_law__874, h1, h2, j_thrown, j_cmp, q_bn_l, h3, h9, q_bd_l, z_ltT, z_ltF, z_eqT, z_eqF, z_ltlT, z_ltlF, z_lltT, z_lltF, z_eqlT, z_eqlF, z_in, z_k7, z_cl, z_lneg, z_llT, z_llF, z_s1, z_nI_cl, z_nlt0, z_ne_m1, z_b0, z_b1, z_la, z_al, z_lm, z_ml, z_nm, nI_add, pk_mul, ↓reduceIte, not_true_eq_false, not_false_eq_true, true_or, or_true, false_or, or_false, true_and, and_true, and_false, false_and, Classical.not_not, Nat.add_zero, z_01, z_em, z_bit_p, Nat.not_le, Nat.not_lt, reduceCtorEq, if_true, if_false]
  · refine ⟨some (.int c), some (.int b), ?_⟩
    rw [e_L_law__24_25]
    simp (disch := omega) only [e_L_law__863, e_L_law__871, e_L_law__874, e_L_law__889, e_L_law__1606, k_L_law__863, k_L_law__871, k_L_law__874, h1, h2, j_thrown, j_cmp, q_bn_l, h3, c0, q_bd_l, z_ltT, z_ltF, z_eqT, z_eqF, z_ltlT, z_ltlF, z_lltT, z_lltF, z_eqlT, z_eqlF, z_in, z_k7, z_cl, z_lneg, z_llT, z_llF, z_s1, z_nI_cl, z_nlt0, z_ne_m1, z_b0, z_b1, z_la, z_al, z_lm, z_ml, z_nm, nI_add, pk_mul, ↓reduceIte, not_true_eq_false, not_false_eq_true, true_or, or_true, false_or, or_false, true_and, and_true, and_false, false_and, Classical.not_not, Nat.add_zero, z_01, z_em, z_bit_p, Nat.not_le, Nat.not_lt, reduceCtorEq, if_true, if_false]
theorem j_26 (X : Sx) (d i : Nat) (o5 o6 : Option Value) (I J K : Ii) (T T1 : Tt) (c b : Int32) (hX : X.1 ≤ 3072) (hi : i + 6 ≤ X.1) (h1 : c_L_falls_0_150 X (d + 50) (X.2 (i + 1)) I T = z_r c J T1) (h2 : c_X12_falls_139 X (d + 50) (X.2 (i + 1)) J T1 = z_r b K T1) (h3 : K 139 0 = c) (h4 : c = 0 → T1.1 150 0 = b.toInt64) : ∃ u5 u6, c_L_law__24 X (d + 50) (nI i) o5 o6 26 I T = c_L_law__13 X (d + 50) (nI (i + 6)) u5 u6 K T1 := by
  by_cases c0 : c = 0
  · have h9 := h4 c0
    clear h4
    subst c0
    refine ⟨some (.int 0), some (.int b), ?_⟩
    rw [e_L_law__24_26]
    simp (disch := omega) only [e_L_law__898, e_L_law__906, e_L_law__909, e_L_law__924, e_L_law__1606, k_L_law__898, k_L_law__906, k_L_law__909, h1, h2, j_thrown, j_cmp, q_bn_l, h3, h9, q_bd_l, z_ltT, z_ltF, z_eqT, z_eqF, z_ltlT, z_ltlF, z_lltT, z_lltF, z_eqlT, z_eqlF, z_in, z_k7, z_cl, z_lneg, z_llT, z_llF, z_s1, z_nI_cl, z_nlt0, z_ne_m1, z_b0, z_b1, z_la, z_al, z_lm, z_ml, z_nm, nI_add, pk_mul, ↓reduceIte, not_true_eq_false, not_false_eq_true, true_or, or_true, false_or, or_false, true_and, and_true, and_false, false_and, Classical.not_not, Nat.add_zero, z_01, z_em, z_bit_p, Nat.not_le, Nat.not_lt, reduceCtorEq, if_true, if_false]
  · refine ⟨some (.int c), some (.int b), ?_⟩
    rw [e_L_law__24_26]
    simp (disch := omega) only [e_L_law__898, e_L_law__906, e_L_law__909, e_L_law__924, e_L_law__1606, k_L_law__898, k_L_law__906, k_L_law__909, h1, h2, j_thrown, j_cmp, q_bn_l, h3, c0, q_bd_l, z_ltT, z_ltF, z_eqT, z_eqF, z_ltlT, z_ltlF, z_lltT, z_lltF, z_eqlT, z_eqlF, z_in, z_k7, z_cl, z_lneg, z_llT, z_llF, z_s1, z_nI_cl, z_nlt0, z_ne_m1, z_b0, z_b1, z_la, z_al, z_lm, z_ml, z_nm, nI_add, pk_mul, ↓reduceIte, not_true_eq_false, not_false_eq_true, true_or, or_true, false_or, or_false, true_and, and_true, and_false, false_and, Classical.not_not, Nat.add_zero, z_01, z_em, z_bit_p, Nat.not_le, Nat.not_lt, reduceCtorEq, if_true, if_false]
theorem j_27 (X : Sx) (d i : Nat) (o5 o6 : Option Value) (I J K : Ii) (T : Tt) (b : Int32) (hX : X.1 ≤ 3072) (hi : i + 6 ≤ X.1) (h1 : c_X11_wins_0 X (d + 50) (X.2 (i + 1)) I T = z_r b J T) (h2 : c_X12_wins_139 X (d + 50) (X.2 (i + 1)) J T = z_r b K T) : ∃ u5 u6, c_L_law__24 X (d + 50) (nI i) o5 o6 27 I T = c_L_law__13 X (d + 50) (nI (i + 6)) u5 u6 K T := by
  refine ⟨o5, o6, ?_⟩
  rw [e_L_law__24_27]
  simp (disch := omega) only [e_L_law__932, e_L_law__939, e_L_law__1606, k_L_law__932, k_L_law__939, h1, h2, j_thrown, j_cmp, q_bn_l, q_bd_l, z_ltT, z_ltF, z_eqT, z_eqF, z_ltlT, z_ltlF, z_lltT, z_lltF, z_eqlT, z_eqlF, z_in, z_k7, z_cl, z_lneg, z_llT, z_llF, z_s1, z_nI_cl, z_nlt0, z_ne_m1, z_b0, z_b1, z_la, z_al, z_lm, z_ml, z_nm, nI_add, pk_mul, ↓reduceIte, not_true_eq_false, not_false_eq_true, true_or, or_true, false_or, or_false, true_and, and_true, and_false, false_and, Classical.not_not, Nat.add_zero, z_01, z_em, z_bit_p, Nat.not_le, Nat.not_lt, reduceCtorEq, if_true, if_false]
theorem j_28 (X : Sx) (d i : Nat) (o5 o6 : Option Value) (I J K : Ii) (T : Tt) (b : Int32) (hX : X.1 ≤ 3072) (hi : i + 6 ≤ X.1) (h1 : c_X11_smallest_0 X (d + 50) (j_b (X.2 (i + 1))) I T = z_r b J T) (h2 : c_X12_smallest_139 X (d + 50) (j_b (X.2 (i + 1))) J T = z_r b K T) : ∃ u5 u6, c_L_law__24 X (d + 50) (nI i) o5 o6 28 I T = c_L_law__13 X (d + 50) (nI (i + 6)) u5 u6 K T := by
  by_cases q1 : X.2 (i + 1) = 0
  · have z1 : j_b (X.2 (i + 1)) = 0 := by unfold j_b; rw [if_pos q1]
    rw [z1] at h1 h2
    refine ⟨o5, o6, ?_⟩
    rw [e_L_law__24_28]
    simp (disch := omega) only [e_L_law__952, e_L_law__953, e_L_law__963, e_L_law__964, e_L_law__1606, k_L_law__953, k_L_law__964, h1, h2, j_thrown, j_cmp, q_bn_l, q1, q_bd_l, z_ltT, z_ltF, z_eqT, z_eqF, z_ltlT, z_ltlF, z_lltT, z_lltF, z_eqlT, z_eqlF, z_in, z_k7, z_cl, z_lneg, z_llT, z_llF, z_s1, z_nI_cl, z_nlt0, z_ne_m1, z_b0, z_b1, z_la, z_al, z_lm, z_ml, z_nm, nI_add, pk_mul, ↓reduceIte, not_true_eq_false, not_false_eq_true, true_or, or_true, false_or, or_false, true_and, and_true, and_false, false_and, Classical.not_not, Nat.add_zero, z_01, z_em, z_bit_p, Nat.not_le, Nat.not_lt, reduceCtorEq, if_true, if_false]
  · have z1 : j_b (X.2 (i + 1)) = 1 := by unfold j_b; rw [if_neg q1]
    rw [z1] at h1 h2
    refine ⟨o5, o6, ?_⟩
    rw [e_L_law__24_28]
    simp (disch := omega) only [e_L_law__952, e_L_law__953, e_L_law__963, e_L_law__964, e_L_law__1606, k_L_law__953, k_L_law__964, h1, h2, j_thrown, j_cmp, q_bn_l, q1, q_bd_l, z_ltT, z_ltF, z_eqT, z_eqF, z_ltlT, z_ltlF, z_lltT, z_lltF, z_eqlT, z_eqlF, z_in, z_k7, z_cl, z_lneg, z_llT, z_llF, z_s1, z_nI_cl, z_nlt0, z_ne_m1, z_b0, z_b1, z_la, z_al, z_lm, z_ml, z_nm, nI_add, pk_mul, ↓reduceIte, not_true_eq_false, not_false_eq_true, true_or, or_true, false_or, or_false, true_and, and_true, and_false, false_and, Classical.not_not, Nat.add_zero, z_01, z_em, z_bit_p, Nat.not_le, Nat.not_lt, reduceCtorEq, if_true, if_false]
theorem j_29 (X : Sx) (d i : Nat) (o5 o6 : Option Value) (I J K : Ii) (T : Tt) (b : Int32) (hX : X.1 ≤ 3072) (hi : i + 6 ≤ X.1) (h1 : c_X11_dummies_0 X (d + 50) I T = z_r b J T) (h2 : c_X12_dummies_139 X (d + 50) J T = z_r b K T) : ∃ u5 u6, c_L_law__24 X (d + 50) (nI i) o5 o6 29 I T = c_L_law__13 X (d + 50) (nI (i + 6)) u5 u6 K T := by
  refine ⟨o5, o6, ?_⟩
  rw [e_L_law__24_29]
  simp (disch := omega) only [e_L_law__969, e_L_law__971, e_L_law__1606, k_L_law__969, k_L_law__971, h1, h2, j_thrown, j_cmp, q_bn_l, q_bd_l, z_ltT, z_ltF, z_eqT, z_eqF, z_ltlT, z_ltlF, z_lltT, z_lltF, z_eqlT, z_eqlF, z_in, z_k7, z_cl, z_lneg, z_llT, z_llF, z_s1, z_nI_cl, z_nlt0, z_ne_m1, z_b0, z_b1, z_la, z_al, z_lm, z_ml, z_nm, nI_add, pk_mul, ↓reduceIte, not_true_eq_false, not_false_eq_true, true_or, or_true, false_or, or_false, true_and, and_true, and_false, false_and, Classical.not_not, Nat.add_zero, z_01, z_em, z_bit_p, Nat.not_le, Nat.not_lt, reduceCtorEq, if_true, if_false]
theorem j_30 (X : Sx) (d i : Nat) (o5 o6 : Option Value) (I J K : Ii) (T T1 : Tt) (c b : Int32) (hX : X.1 ≤ 3072) (hi : i + 6 ≤ X.1) (h1 : c_L_war_0_150 X (d + 50) (X.2 (i + 1)) (X.2 (i + 2)) (X.2 (i + 3)) I T = z_r c J T1) (h2 : c_X12_war_139 X (d + 50) (X.2 (i + 1)) (X.2 (i + 2)) (X.2 (i + 3)) J T1 = z_r b K T1) (h3 : K 139 0 = c) (h4 : c = 0 → T1.1 150 0 = b.toInt64) : ∃ u5 u6, c_L_law__24 X (d + 50) (nI i) o5 o6 30 I T = c_L_law__13 X (d + 50) (nI (i + 6)) u5 u6 K T1 := by
  by_cases c0 : c = 0
  · have h9 := h4 c0
    clear h4
    subst c0
    refine ⟨some (.int 0), some (.int b), ?_⟩
    rw [e_L_law__24_30]
    simp (disch := omega) only [e_L_law__992, e_L_law__1010, e_L_law__1013, e_L_law__1028, e_L_law__1606, k_L_law__992, k_L_law__1010, k_L_law__1013, h1, h2, j_thrown, j_cmp, q_bn_l, h3, h9, q_bd_l, z_ltT, z_ltF, z_eqT, z_eqF, z_ltlT, z_ltlF, z_lltT, z_lltF, z_eqlT, z_eqlF, z_in, z_k7, z_cl, z_lneg, z_llT, z_llF, z_s1, z_nI_cl, z_nlt0, z_ne_m1, z_b0, z_b1, z_la, z_al, z_lm, z_ml, z_nm, nI_add, pk_mul, ↓reduceIte, not_true_eq_false, not_false_eq_true, true_or, or_true, false_or, or_false, true_and, and_true, and_false, false_and, Classical.not_not, Nat.add_zero, z_01, z_em, z_bit_p, Nat.not_le, Nat.not_lt, reduceCtorEq, if_true, if_false]
  · refine ⟨some (.int c), some (.int b), ?_⟩
    rw [e_L_law__24_30]
    simp (disch := omega) only [e_L_law__992, e_L_law__1010, e_L_law__1013, e_L_law__1028, e_L_law__1606, k_L_law__992, k_L_law__1010, k_L_law__1013, h1, h2, j_thrown, j_cmp, q_bn_l, h3, c0, q_bd_l, z_ltT, z_ltF, z_eqT, z_eqF, z_ltlT, z_ltlF, z_lltT, z_lltF, z_eqlT, z_eqlF, z_in, z_k7, z_cl, z_lneg, z_llT, z_llF, z_s1, z_nI_cl, z_nlt0, z_ne_m1, z_b0, z_b1, z_la, z_al, z_lm, z_ml, z_nm, nI_add, pk_mul, ↓reduceIte, not_true_eq_false, not_false_eq_true, true_or, or_true, false_or, or_false, true_and, and_true, and_false, false_and, Classical.not_not, Nat.add_zero, z_01, z_em, z_bit_p, Nat.not_le, Nat.not_lt, reduceCtorEq, if_true, if_false]
theorem j_31 (X : Sx) (d i : Nat) (o5 o6 : Option Value) (I J K : Ii) (T T1 : Tt) (c b : Int32) (hX : X.1 ≤ 3072) (hi : i + 6 ≤ X.1) (h1 : c_L_ahead_0_150 X (d + 50) (X.2 (i + 1)) (X.2 (i + 2)) (X.2 (i + 3)) I T = z_r c J T1) (h2 : c_X12_ahead__139 X (d + 50) (X.2 (i + 1)) (X.2 (i + 2)) (X.2 (i + 3)) J T1 = z_r b K T1) (h3 : K 139 0 = c) (h4 : c = 0 → T1.1 150 0 = b.toInt64) : ∃ u5 u6, c_L_law__24 X (d + 50) (nI i) o5 o6 31 I T = c_L_law__13 X (d + 50) (nI (i + 6)) u5 u6 K T1 := by
  by_cases c0 : c = 0
  · have h9 := h4 c0
    clear h4
    subst c0
    refine ⟨some (.int 0), some (.int b), ?_⟩
    rw [e_L_law__24_31]
    simp (disch := omega) only [e_L_law__1047, e_L_law__1065, e_L_law__1068, e_L_law__1083, e_L_law__1606, k_L_law__1047, k_L_law__1065, k_L_law__1068, h1, h2, j_thrown, j_cmp, q_bn_l, h3, h9, q_bd_l, z_ltT, z_ltF, z_eqT, z_eqF, z_ltlT, z_ltlF, z_lltT, z_lltF, z_eqlT, z_eqlF, z_in, z_k7, z_cl, z_lneg, z_llT, z_llF, z_s1, z_nI_cl, z_nlt0, z_ne_m1, z_b0, z_b1, z_la, z_al, z_lm, z_ml, z_nm, nI_add, pk_mul, ↓reduceIte, not_true_eq_false, not_false_eq_true, true_or, or_true, false_or, or_false, true_and, and_true, and_false, false_and, Classical.not_not, Nat.add_zero, z_01, z_em, z_bit_p, Nat.not_le, Nat.not_lt, reduceCtorEq, if_true, if_false]
  · refine ⟨some (.int c), some (.int b), ?_⟩
    rw [e_L_law__24_31]
    simp (disch := omega) only [e_L_law__1047, e_L_law__1065, e_L_law__1068, e_L_law__1083, e_L_law__1606, k_L_law__1047, k_L_law__1065, k_L_law__1068, h1, h2, j_thrown, j_cmp, q_bn_l, h3, c0, q_bd_l, z_ltT, z_ltF, z_eqT, z_eqF, z_ltlT, z_ltlF, z_lltT, z_lltF, z_eqlT, z_eqlF, z_in, z_k7, z_cl, z_lneg, z_llT, z_llF, z_s1, z_nI_cl, z_nlt0, z_ne_m1, z_b0, z_b1, z_la, z_al, z_lm, z_ml, z_nm, nI_add, pk_mul, ↓reduceIte, not_true_eq_false, not_false_eq_true, true_or, or_true, false_or, or_false, true_and, and_true, and_false, false_and, Classical.not_not, Nat.add_zero, z_01, z_em, z_bit_p, Nat.not_le, Nat.not_lt, reduceCtorEq, if_true, if_false]
theorem j_32 (X : Sx) (d i : Nat) (o5 o6 : Option Value) (I J K : Ii) (T T1 : Tt) (c b : Int32) (hX : X.1 ≤ 3072) (hi : i + 6 ≤ X.1) (h1 : c_L_spoils_0_150 X (d + 50) (X.2 (i + 1)) (X.2 (i + 2)) (X.2 (i + 3)) I T = z_r c J T1) (h2 : c_X12_spoils_139 X (d + 50) (X.2 (i + 1)) (X.2 (i + 2)) (X.2 (i + 3)) J T1 = z_r b K T1) (h3 : K 139 0 = c) (h4 : c = 0 → T1.1 150 0 = b.toInt64) : ∃ u5 u6, c_L_law__24 X (d + 50) (nI i) o5 o6 32 I T = c_L_law__13 X (d + 50) (nI (i + 6)) u5 u6 K T1 := by
  by_cases c0 : c = 0
  · have h9 := h4 c0
    clear h4
    subst c0
    refine ⟨some (.int 0), some (.int b), ?_⟩
    rw [e_L_law__24_32]
    simp (disch := omega) only [e_L_law__1102, e_L_law__1120, e_L_law__1123, e_L_law__1138, e_L_law__1606, k_L_law__1102, k_L_law__1120, k_L_law__1123, h1, h2, j_thrown, j_cmp, q_bn_l, h3, h9, q_bd_l, z_ltT, z_ltF, z_eqT, z_eqF, z_ltlT, z_ltlF, z_lltT, z_lltF, z_eqlT, z_eqlF, z_in, z_k7, z_cl, z_lneg, z_llT, z_llF, z_s1, z_nI_cl, z_nlt0, z_ne_m1, z_b0, z_b1, z_la, z_al, z_lm, z_ml, z_nm, nI_add, pk_mul, ↓reduceIte, not_true_eq_false, not_false_eq_true, true_or, or_true, false_or, or_false, true_and, and_true, and_false, false_and, Classical.not_not, Nat.add_zero, z_01, z_em, z_bit_p, Nat.not_le, Nat.not_lt, reduceCtorEq, if_true, if_false]
  · refine ⟨some (.int c), some (.int b), ?_⟩
    rw [e_L_law__24_32]
    simp (disch := omega) only [e_L_law__1102, e_L_law__1120, e_L_law__1123, e_L_law__1138, e_L_law__1606, k_L_law__1102, k_L_law__1120, k_L_law__1123, h1, h2, j_thrown, j_cmp, q_bn_l, h3, c0, q_bd_l, z_ltT, z_ltF, z_eqT, z_eqF, z_ltlT, z_ltlF, z_lltT, z_lltF, z_eqlT, z_eqlF, z_in, z_k7, z_cl, z_lneg, z_llT, z_llF, z_s1, z_nI_cl, z_nlt0, z_ne_m1, z_b0, z_b1, z_la, z_al, z_lm, z_ml, z_nm, nI_add, pk_mul, ↓reduceIte, not_true_eq_false, not_false_eq_true, true_or, or_true, false_or, or_false, true_and, and_true, and_false, false_and, Classical.not_not, Nat.add_zero, z_01, z_em, z_bit_p, Nat.not_le, Nat.not_lt, reduceCtorEq, if_true, if_false]
theorem j_33 (X : Sx) (d i : Nat) (o5 o6 : Option Value) (I J K : Ii) (T T1 : Tt) (c b : Int32) (hX : X.1 ≤ 3072) (hi : i + 6 ≤ X.1) (h1 : c_L_ripe_0_150 X (d + 50) (X.2 (i + 1)) (X.2 (i + 2)) (j_b (X.2 (i + 3))) I T = z_r c J T1) (h2 : c_X12_ripe_139 X (d + 50) (X.2 (i + 1)) (X.2 (i + 2)) (j_b (X.2 (i + 3))) J T1 = z_r b K T1) (h3 : K 139 0 = c) (h4 : c = 0 → T1.1 150 0 = b.toInt64) : ∃ u5 u6, c_L_law__24 X (d + 50) (nI i) o5 o6 33 I T = c_L_law__13 X (d + 50) (nI (i + 6)) u5 u6 K T1 := by
  by_cases q3 : X.2 (i + 3) = 0
  · by_cases c0 : c = 0
    · have h9 := h4 c0
      clear h4
      subst c0
      have z3 : j_b (X.2 (i + 3)) = 0 := by unfold j_b; rw [if_pos q3]
      rw [z3] at h1 h2
      refine ⟨some (.int 0), some (.int b), ?_⟩
      rw [e_L_law__24_33]
      simp (disch := omega) only [e_L_law__1159, e_L_law__1161, e_L_law__1182, e_L_law__1183, e_L_law__1186, e_L_law__1201, e_L_law__1606, k_L_law__1161, k_L_law__1183, k_L_law__1186, h1, h2, j_thrown, j_cmp, q_bn_l, q3, h3, h9, q_bd_l, z_ltT, z_ltF, z_eqT, z_eqF, z_ltlT, z_ltlF, z_lltT, z_lltF, z_eqlT, z_eqlF, z_in, z_k7, z_cl, z_lneg, z_llT, z_llF, z_s1, z_nI_cl, z_nlt0, z_ne_m1, z_b0, z_b1, z_la, z_al, z_lm, z_ml, z_nm, nI_add, pk_mul, ↓reduceIte, not_true_eq_false, not_false_eq_true, true_or, or_true, false_or, or_false, true_and, and_true, and_false, false_and, Classical.not_not, Nat.add_zero, z_01, z_em, z_bit_p, Nat.not_le, Nat.not_lt, reduceCtorEq, if_true, if_false]
    · have z3 : j_b (X.2 (i + 3)) = 0 := by unfold j_b; rw [if_pos q3]
      rw [z3] at h1 h2
      refine ⟨some (.int c), some (.int b), ?_⟩
      rw [e_L_law__24_33]
      simp (disch := omega) only [e_L_law__1159, e_L_law__1161, e_L_law__1182, e_L_law__1183, e_L_law__1186, e_L_law__1201, e_L_law__1606, k_L_law__1161, k_L_law__1183, k_L_law__1186, h1, h2, j_thrown, j_cmp, q_bn_l, q3, h3, c0, q_bd_l, z_ltT, z_ltF, z_eqT, z_eqF, z_ltlT, z_ltlF, z_lltT, z_lltF, z_eqlT, z_eqlF, z_in, z_k7, z_cl, z_lneg, z_llT, z_llF, z_s1, z_nI_cl, z_nlt0, z_ne_m1, z_b0, z_b1, z_la, z_al, z_lm, z_ml, z_nm, nI_add, pk_mul, ↓reduceIte, not_true_eq_false, not_false_eq_true, true_or, or_true, false_or, or_false, true_and, and_true, and_false, false_and, Classical.not_not, Nat.add_zero, z_01, z_em, z_bit_p, Nat.not_le, Nat.not_lt, reduceCtorEq, if_true, if_false]
  · by_cases c0 : c = 0
    · have h9 := h4 c0
      clear h4
      subst c0
      have z3 : j_b (X.2 (i + 3)) = 1 := by unfold j_b; rw [if_neg q3]
      rw [z3] at h1 h2
      refine ⟨some (.int 0), some (.int b), ?_⟩
      rw [e_L_law__24_33]
      simp (disch := omega) only [e_L_law__1159, e_L_law__1161, e_L_law__1182, e_L_law__1183, e_L_law__1186, e_L_law__1201, e_L_law__1606, k_L_law__1161, k_L_law__1183, k_L_law__1186, h1, h2, j_thrown, j_cmp, q_bn_l, q3, h3, h9, q_bd_l, z_ltT, z_ltF, z_eqT, z_eqF, z_ltlT, z_ltlF, z_lltT, z_lltF, z_eqlT, z_eqlF, z_in, z_k7, z_cl, z_lneg, z_llT, z_llF, z_s1, z_nI_cl, z_nlt0, z_ne_m1, z_b0, z_b1, z_la, z_al, z_lm, z_ml, z_nm, nI_add, pk_mul, ↓reduceIte, not_true_eq_false, not_false_eq_true, true_or, or_true, false_or, or_false, true_and, and_true, and_false, false_and, Classical.not_not, Nat.add_zero, z_01, z_em, z_bit_p, Nat.not_le, Nat.not_lt, reduceCtorEq, if_true, if_false]
    · have z3 : j_b (X.2 (i + 3)) = 1 := by unfold j_b; rw [if_neg q3]
      rw [z3] at h1 h2
      refine ⟨some (.int c), some (.int b), ?_⟩
      rw [e_L_law__24_33]
      simp (disch := omega) only [e_L_law__1159, e_L_law__1161, e_L_law__1182, e_L_law__1183, e_L_law__1186, e_L_law__1201, e_L_law__1606, k_L_law__1161, k_L_law__1183, k_L_law__1186, h1, h2, j_thrown, j_cmp, q_bn_l, q3, h3, c0, q_bd_l, z_ltT, z_ltF, z_eqT, z_eqF, z_ltlT, z_ltlF, z_lltT, z_lltF, z_eqlT, z_eqlF, z_in, z_k7, z_cl, z_lneg, z_llT, z_llF, z_s1, z_nI_cl, z_nlt0, z_ne_m1, z_b0, z_b1, z_la, z_al, z_lm, z_ml, z_nm, nI_add, pk_mul, ↓reduceIte, not_true_eq_false, not_false_eq_true, true_or, or_true, false_or, or_false, true_and, and_true, and_false, false_and, Classical.not_not, Nat.add_zero, z_01, z_em, z_bit_p, Nat.not_le, Nat.not_lt, reduceCtorEq, if_true, if_false]
theorem j_34 (X : Sx) (d i : Nat) (o5 o6 : Option Value) (I J K : Ii) (T T1 : Tt) (c b : Int32) (hX : X.1 ≤ 3072) (hi : i + 6 ≤ X.1) (h1 : c_L_goes_0_150 X (d + 50) (X.2 (i + 1)) I T = z_r c J T1) (h2 : c_X12_goes_139 X (d + 50) (X.2 (i + 1)) J T1 = z_r b K T1) (h3 : K 139 0 = c) (h4 : c = 0 → T1.1 150 0 = b.toInt64) : ∃ u5 u6, c_L_law__24 X (d + 50) (nI i) o5 o6 34 I T = c_L_law__13 X (d + 50) (nI (i + 6)) u5 u6 K T1 := by
  by_cases c0 : c = 0
  · have h9 := h4 c0
    clear h4
    subst c0
    refine ⟨some (.int 0), some (.int b), ?_⟩
    rw [e_L_law__24_34]
    simp (disch := omega) only [e_L_law__1210, e_L_law__1218, e_L_law__1221, e_L_law__1236, e_L_law__1606, k_L_law__1210, k_L_law__1218, k_L_law__1221, h1, h2, j_thrown, j_cmp, q_bn_l, h3, h9, q_bd_l, z_ltT, z_ltF, z_eqT, z_eqF, z_ltlT, z_ltlF, z_lltT, z_lltF, z_eqlT, z_eqlF, z_in, z_k7, z_cl, z_lneg, z_llT, z_llF, z_s1, z_nI_cl, z_nlt0, z_ne_m1, z_b0, z_b1, z_la, z_al, z_lm, z_ml, z_nm, nI_add, pk_mul, ↓reduceIte, not_true_eq_false, not_false_eq_true, true_or, or_true, false_or, or_false, true_and, and_true, and_false, false_and, Classical.not_not, Nat.add_zero, z_01, z_em, z_bit_p, Nat.not_le, Nat.not_lt, reduceCtorEq, if_true, if_false]
  · refine ⟨some (.int c), some (.int b), ?_⟩
    rw [e_L_law__24_34]
    simp (disch := omega) only [e_L_law__1210, e_L_law__1218, e_L_law__1221, e_L_law__1236, e_L_law__1606, k_L_law__1210, k_L_law__1218, k_L_law__1221, h1, h2, j_thrown, j_cmp, q_bn_l, h3, c0, q_bd_l, z_ltT, z_ltF, z_eqT, z_eqF, z_ltlT, z_ltlF, z_lltT, z_lltF, z_eqlT, z_eqlF, z_in, z_k7, z_cl, z_lneg, z_llT, z_llF, z_s1, z_nI_cl, z_nlt0, z_ne_m1, z_b0, z_b1, z_la, z_al, z_lm, z_ml, z_nm, nI_add, pk_mul, ↓reduceIte, not_true_eq_false, not_false_eq_true, true_or, or_true, false_or, or_false, true_and, and_true, and_false, false_and, Classical.not_not, Nat.add_zero, z_01, z_em, z_bit_p, Nat.not_le, Nat.not_lt, reduceCtorEq, if_true, if_false]
theorem j_35 (X : Sx) (d i : Nat) (o5 o6 : Option Value) (I J K : Ii) (T : Tt) (b : Int32) (hX : X.1 ≤ 3072) (hi : i + 6 ≤ X.1) (h1 : c_X11_wrong_0 X (d + 50) (j_b (X.2 (i + 1))) I T = z_r b J T) (h2 : c_X12_wrong__139 X (d + 50) (j_b (X.2 (i + 1))) J T = z_r b K T) : ∃ u5 u6, c_L_law__24 X (d + 50) (nI i) o5 o6 35 I T = c_L_law__13 X (d + 50) (nI (i + 6)) u5 u6 K T := by
  by_cases q1 : X.2 (i + 1) = 0
  · have z1 : j_b (X.2 (i + 1)) = 0 := by unfold j_b; rw [if_pos q1]
    rw [z1] at h1 h2
    refine ⟨o5, o6, ?_⟩
    rw [e_L_law__24_35]
    simp (disch := omega) only [e_L_law__1247, e_L_law__1248, e_L_law__1258, e_L_law__1259, e_L_law__1606, k_L_law__1248, k_L_law__1259, h1, h2, j_thrown, j_cmp, q_bn_l, q1, q_bd_l, z_ltT, z_ltF, z_eqT, z_eqF, z_ltlT, z_ltlF, z_lltT, z_lltF, z_eqlT, z_eqlF, z_in, z_k7, z_cl, z_lneg, z_llT, z_llF, z_s1, z_nI_cl, z_nlt0, z_ne_m1, z_b0, z_b1, z_la, z_al, z_lm, z_ml, z_nm, nI_add, pk_mul, ↓reduceIte, not_true_eq_false, not_false_eq_true, true_or, or_true, false_or, or_false, true_and, and_true, and_false, false_and, Classical.not_not, Nat.add_zero, z_01, z_em, z_bit_p, Nat.not_le, Nat.not_lt, reduceCtorEq, if_true, if_false]
  · have z1 : j_b (X.2 (i + 1)) = 1 := by unfold j_b; rw [if_neg q1]
    rw [z1] at h1 h2
    refine ⟨o5, o6, ?_⟩
    rw [e_L_law__24_35]
    simp (disch := omega) only [e_L_law__1247, e_L_law__1248, e_L_law__1258, e_L_law__1259, e_L_law__1606, k_L_law__1248, k_L_law__1259, h1, h2, j_thrown, j_cmp, q_bn_l, q1, q_bd_l, z_ltT, z_ltF, z_eqT, z_eqF, z_ltlT, z_ltlF, z_lltT, z_lltF, z_eqlT, z_eqlF, z_in, z_k7, z_cl, z_lneg, z_llT, z_llF, z_s1, z_nI_cl, z_nlt0, z_ne_m1, z_b0, z_b1, z_la, z_al, z_lm, z_ml, z_nm, nI_add, pk_mul, ↓reduceIte, not_true_eq_false, not_false_eq_true, true_or, or_true, false_or, or_false, true_and, and_true, and_false, false_and, Classical.not_not, Nat.add_zero, z_01, z_em, z_bit_p, Nat.not_le, Nat.not_lt, reduceCtorEq, if_true, if_false]
theorem j_36 (X : Sx) (d i : Nat) (o5 o6 : Option Value) (I J K : Ii) (T T1 : Tt) (c b : Int32) (hX : X.1 ≤ 3072) (hi : i + 6 ≤ X.1) (h1 : c_L_whose_0_150 X (d + 50) (X.2 (i + 1)) I T = z_r c J T1) (h2 : c_X12_whose_139 X (d + 50) (X.2 (i + 1)) J T1 = z_r b K T1) (h3 : K 139 0 = c) (h4 : c = 0 → T1.1 150 0 = b.toInt64) : ∃ u5 u6, c_L_law__24 X (d + 50) (nI i) o5 o6 36 I T = c_L_law__13 X (d + 50) (nI (i + 6)) u5 u6 K T1 := by
  by_cases c0 : c = 0
  · have h9 := h4 c0
    clear h4
    subst c0
    refine ⟨some (.int 0), some (.int b), ?_⟩
    rw [e_L_law__24_36]
    simp (disch := omega) only [e_L_law__1270, e_L_law__1278, e_L_law__1281, e_L_law__1296, e_L_law__1606, k_L_law__1270, k_L_law__1278, k_L_law__1281, h1, h2, j_thrown, j_cmp, q_bn_l, h3, h9, q_bd_l, z_ltT, z_ltF, z_eqT, z_eqF, z_ltlT, z_ltlF, z_lltT, z_lltF, z_eqlT, z_eqlF, z_in, z_k7, z_cl, z_lneg, z_llT, z_llF, z_s1, z_nI_cl, z_nlt0, z_ne_m1, z_b0, z_b1, z_la, z_al, z_lm, z_ml, z_nm, nI_add, pk_mul, ↓reduceIte, not_true_eq_false, not_false_eq_true, true_or, or_true, false_or, or_false, true_and, and_true, and_false, false_and, Classical.not_not, Nat.add_zero, z_01, z_em, z_bit_p, Nat.not_le, Nat.not_lt, reduceCtorEq, if_true, if_false]
  · refine ⟨some (.int c), some (.int b), ?_⟩
    rw [e_L_law__24_36]
    simp (disch := omega) only [e_L_law__1270, e_L_law__1278, e_L_law__1281, e_L_law__1296, e_L_law__1606, k_L_law__1270, k_L_law__1278, k_L_law__1281, h1, h2, j_thrown, j_cmp, q_bn_l, h3, c0, q_bd_l, z_ltT, z_ltF, z_eqT, z_eqF, z_ltlT, z_ltlF, z_lltT, z_lltF, z_eqlT, z_eqlF, z_in, z_k7, z_cl, z_lneg, z_llT, z_llF, z_s1, z_nI_cl, z_nlt0, z_ne_m1, z_b0, z_b1, z_la, z_al, z_lm, z_ml, z_nm, nI_add, pk_mul, ↓reduceIte, not_true_eq_false, not_false_eq_true, true_or, or_true, false_or, or_false, true_and, and_true, and_false, false_and, Classical.not_not, Nat.add_zero, z_01, z_em, z_bit_p, Nat.not_le, Nat.not_lt, reduceCtorEq, if_true, if_false]
theorem j_37 (X : Sx) (d i : Nat) (o5 o6 : Option Value) (I J K : Ii) (T T1 : Tt) (c b : Int32) (hX : X.1 ≤ 3072) (hi : i + 6 ≤ X.1) (h1 : c_L_ring_0_150 X (d + 50) (X.2 (i + 1)) I T = z_r c J T1) (h2 : c_X12_ring_139 X (d + 50) (X.2 (i + 1)) J T1 = z_r b K T1) (h3 : K 139 0 = c) (h4 : c = 0 → T1.1 150 0 = b.toInt64) : ∃ u5 u6, c_L_law__24 X (d + 50) (nI i) o5 o6 37 I T = c_L_law__13 X (d + 50) (nI (i + 6)) u5 u6 K T1 := by
  by_cases c0 : c = 0
  · have h9 := h4 c0
    clear h4
    subst c0
    refine ⟨some (.int 0), some (.int b), ?_⟩
    rw [e_L_law__24_37]
    simp (disch := omega) only [e_L_law__1305, e_L_law__1313, e_L_law__1316, e_L_law__1331, e_L_law__1606, k_L_law__1305, k_L_law__1313, k_L_law__1316, h1, h2, j_thrown, j_cmp, q_bn_l, h3, h9, q_bd_l, z_ltT, z_ltF, z_eqT, z_eqF, z_ltlT, z_ltlF, z_lltT, z_lltF, z_eqlT, z_eqlF, z_in, z_k7, z_cl, z_lneg, z_llT, z_llF, z_s1, z_nI_cl, z_nlt0, z_ne_m1, z_b0, z_b1, z_la, z_al, z_lm, z_ml, z_nm, nI_add, pk_mul, ↓reduceIte, not_true_eq_false, not_false_eq_true, true_or, or_true, false_or, or_false, true_and, and_true, and_false, false_and, Classical.not_not, Nat.add_zero, z_01, z_em, z_bit_p, Nat.not_le, Nat.not_lt, reduceCtorEq, if_true, if_false]
  · refine ⟨some (.int c), some (.int b), ?_⟩
    rw [e_L_law__24_37]
    simp (disch := omega) only [e_L_law__1305, e_L_law__1313, e_L_law__1316, e_L_law__1331, e_L_law__1606, k_L_law__1305, k_L_law__1313, k_L_law__1316, h1, h2, j_thrown, j_cmp, q_bn_l, h3, c0, q_bd_l, z_ltT, z_ltF, z_eqT, z_eqF, z_ltlT, z_ltlF, z_lltT, z_lltF, z_eqlT, z_eqlF, z_in, z_k7, z_cl, z_lneg, z_llT, z_llF, z_s1, z_nI_cl, z_nlt0, z_ne_m1, z_b0, z_b1, z_la, z_al, z_lm, z_ml, z_nm, nI_add, pk_mul, ↓reduceIte, not_true_eq_false, not_false_eq_true, true_or, or_true, false_or, or_false, true_and, and_true, and_false, false_and, Classical.not_not, Nat.add_zero, z_01, z_em, z_bit_p, Nat.not_le, Nat.not_lt, reduceCtorEq, if_true, if_false]
theorem j_38 (X : Sx) (d i : Nat) (o5 o6 : Option Value) (I J K : Ii) (T T1 : Tt) (c b : Int32) (hX : X.1 ≤ 3072) (hi : i + 6 ≤ X.1) (h1 : c_L_asked_0_150 X (d + 50) (X.2 (i + 1)) I T = z_r c J T1) (h2 : c_X12_asked_139 X (d + 50) (X.2 (i + 1)) J T1 = z_r b K T1) (h3 : K 139 0 = c) (h4 : c = 0 → T1.1 150 0 = b.toInt64) : ∃ u5 u6, c_L_law__24 X (d + 50) (nI i) o5 o6 38 I T = c_L_law__13 X (d + 50) (nI (i + 6)) u5 u6 K T1 := by
  by_cases c0 : c = 0
  · have h9 := h4 c0
    clear h4
    subst c0
    refine ⟨some (.int 0), some (.int b), ?_⟩
    rw [e_L_law__24_38]
    simp (disch := omega) only [e_L_law__1340, e_L_law__1348, e_L_law__1351, e_L_law__1366, e_L_law__1606, k_L_law__1340, k_L_law__1348, k_L_law__1351, h1, h2, j_thrown, j_cmp, q_bn_l, h3, h9, q_bd_l, z_ltT, z_ltF, z_eqT, z_eqF, z_ltlT, z_ltlF, z_lltT, z_lltF, z_eqlT, z_eqlF, z_in, z_k7, z_cl, z_lneg, z_llT, z_llF, z_s1, z_nI_cl, z_nlt0, z_ne_m1, z_b0, z_b1, z_la, z_al, z_lm, z_ml, z_nm, nI_add, pk_mul, ↓reduceIte, not_true_eq_false, not_false_eq_true, true_or, or_true, false_or, or_false, true_and, and_true, and_false, false_and, Classical.not_not, Nat.add_zero, z_01, z_em, z_bit_p, Nat.not_le, Nat.not_lt, reduceCtorEq, if_true, if_false]
  · refine ⟨some (.int c), some (.int b), ?_⟩
    rw [e_L_law__24_38]
    simp (disch := omega) only [e_L_law__1340, e_L_law__1348, e_L_law__1351, e_L_law__1366, e_L_law__1606, k_L_law__1340, k_L_law__1348, k_L_law__1351, h1, h2, j_thrown, j_cmp, q_bn_l, h3, c0, q_bd_l, z_ltT, z_ltF, z_eqT, z_eqF, z_ltlT, z_ltlF, z_lltT, z_lltF, z_eqlT, z_eqlF, z_in, z_k7, z_cl, z_lneg, z_llT, z_llF, z_s1, z_nI_cl, z_nlt0, z_ne_m1, z_b0, z_b1, z_la, z_al, z_lm, z_ml, z_nm, nI_add, pk_mul, ↓reduceIte, not_true_eq_false, not_false_eq_true, true_or, or_true, false_or, or_false, true_and, and_true, and_false, false_and, Classical.not_not, Nat.add_zero, z_01, z_em, z_bit_p, Nat.not_le, Nat.not_lt, reduceCtorEq, if_true, if_false]
theorem j_39 (X : Sx) (d i : Nat) (o5 o6 : Option Value) (I J K : Ii) (T T1 : Tt) (c b : Int32) (hX : X.1 ≤ 3072) (hi : i + 6 ≤ X.1) (h1 : c_L_led_0_150 X (d + 50) (X.2 (i + 1)) I T = z_r c J T1) (h2 : c_X12_led_139 X (d + 50) (X.2 (i + 1)) J T1 = z_r b K T1) (h3 : K 139 0 = c) (h4 : c = 0 → T1.1 150 0 = b.toInt64) : ∃ u5 u6, c_L_law__24 X (d + 50) (nI i) o5 o6 39 I T = c_L_law__13 X (d + 50) (nI (i + 6)) u5 u6 K T1 := by
  by_cases c0 : c = 0
  · have h9 := h4 c0
    clear h4
    subst c0
    refine ⟨some (.int 0), some (.int b), ?_⟩
    rw [e_L_law__24_39]
    simp (disch := omega) only [e_L_law__1375, e_L_law__1383, e_L_law__1386, e_L_law__1401, e_L_law__1606, k_L_law__1375, k_L_law__1383, k_L_law__1386, h1, h2, j_thrown, j_cmp, q_bn_l, h3, h9, q_bd_l, z_ltT, z_ltF, z_eqT, z_eqF, z_ltlT, z_ltlF, z_lltT, z_lltF, z_eqlT, z_eqlF, z_in, z_k7, z_cl, z_lneg, z_llT, z_llF, z_s1, z_nI_cl, z_nlt0, z_ne_m1, z_b0, z_b1, z_la, z_al, z_lm, z_ml, z_nm, nI_add, pk_mul, ↓reduceIte, not_true_eq_false, not_false_eq_true, true_or, or_true, false_or, or_false, true_and, and_true, and_false, false_and, Classical.not_not, Nat.add_zero, z_01, z_em, z_bit_p, Nat.not_le, Nat.not_lt, reduceCtorEq, if_true, if_false]
  · refine ⟨some (.int c), some (.int b), ?_⟩
    rw [e_L_law__24_39]
    simp (disch := omega) only [e_L_law__1375, e_L_law__1383, e_L_law__1386, e_L_law__1401, e_L_law__1606, k_L_law__1375, k_L_law__1383, k_L_law__1386, h1, h2, j_thrown, j_cmp, q_bn_l, h3, c0, q_bd_l, z_ltT, z_ltF, z_eqT, z_eqF, z_ltlT, z_ltlF, z_lltT, z_lltF, z_eqlT, z_eqlF, z_in, z_k7, z_cl, z_lneg, z_llT, z_llF, z_s1, z_nI_cl, z_nlt0, z_ne_m1, z_b0, z_b1, z_la, z_al, z_lm, z_ml, z_nm, nI_add, pk_mul, ↓reduceIte, not_true_eq_false, not_false_eq_true, true_or, or_true, false_or, or_false, true_and, and_true, and_false, false_and, Classical.not_not, Nat.add_zero, z_01, z_em, z_bit_p, Nat.not_le, Nat.not_lt, reduceCtorEq, if_true, if_false]
theorem j_40 (X : Sx) (d i : Nat) (o5 o6 : Option Value) (I J K : Ii) (T T1 : Tt) (c b : Int32) (hX : X.1 ≤ 3072) (hi : i + 6 ≤ X.1) (h1 : c_L_trial_0_150 X (d + 50) (X.2 (i + 1)) (j_b (X.2 (i + 2))) I T = z_r c J T1) (h2 : c_X12_trial_139 X (d + 50) (X.2 (i + 1)) (j_b (X.2 (i + 2))) J T1 = z_r b K T1) (h3 : K 139 0 = c) (h4 : c = 0 → T1.1 150 0 = b.toInt64) : ∃ u5 u6, c_L_law__24 X (d + 50) (nI i) o5 o6 40 I T = c_L_law__13 X (d + 50) (nI (i + 6)) u5 u6 K T1 := by
  by_cases q2 : X.2 (i + 2) = 0
  · by_cases c0 : c = 0
    · have h9 := h4 c0
      clear h4
      subst c0
      have z2 : j_b (X.2 (i + 2)) = 0 := by unfold j_b; rw [if_pos q2]
      rw [z2] at h1 h2
      refine ⟨some (.int 0), some (.int b), ?_⟩
      rw [e_L_law__24_40]
      simp (disch := omega) only [e_L_law__1417, e_L_law__1419, e_L_law__1435, e_L_law__1436, e_L_law__1439, e_L_law__1454, e_L_law__1606, k_L_law__1419, k_L_law__1436, k_L_law__1439, h1, h2, j_thrown, j_cmp, q_bn_l, q2, h3, h9, q_bd_l, z_ltT, z_ltF, z_eqT, z_eqF, z_ltlT, z_ltlF, z_lltT, z_lltF, z_eqlT, z_eqlF, z_in, z_k7, z_cl, z_lneg, z_llT, z_llF, z_s1, z_nI_cl, z_nlt0, z_ne_m1, z_b0, z_b1, z_la, z_al, z_lm, z_ml, z_nm, nI_add, pk_mul, ↓reduceIte, not_true_eq_false, not_false_eq_true, true_or, or_true, false_or, or_false, true_and, and_true, and_false, false_and, Classical.not_not, Nat.add_zero, z_01, z_em, z_bit_p, Nat.not_le, Nat.not_lt, reduceCtorEq, if_true, if_false]
    · have z2 : j_b (X.2 (i + 2)) = 0 := by unfold j_b; rw [if_pos q2]
      rw [z2] at h1 h2
      refine ⟨some (.int c), some (.int b), ?_⟩
      rw [e_L_law__24_40]
      simp (disch := omega) only [e_L_law__1417, e_L_law__1419, e_L_law__1435, e_L_law__1436, e_L_law__1439, e_L_law__1454, e_L_law__1606, k_L_law__1419, k_L_law__1436, k_L_law__1439, h1, h2, j_thrown, j_cmp, q_bn_l, q2, h3, c0, q_bd_l, z_ltT, z_ltF, z_eqT, z_eqF, z_ltlT, z_ltlF, z_lltT, z_lltF, z_eqlT, z_eqlF, z_in, z_k7, z_cl, z_lneg, z_llT, z_llF, z_s1, z_nI_cl, z_nlt0, z_ne_m1, z_b0, z_b1, z_la, z_al, z_lm, z_ml, z_nm, nI_add, pk_mul, ↓reduceIte, not_true_eq_false, not_false_eq_true, true_or, or_true, false_or, or_false, true_and, and_true, and_false, false_and, Classical.not_not, Nat.add_zero, z_01, z_em, z_bit_p, Nat.not_le, Nat.not_lt, reduceCtorEq, if_true, if_false]
  · by_cases c0 : c = 0
    · have h9 := h4 c0
      clear h4
      subst c0
      have z2 : j_b (X.2 (i + 2)) = 1 := by unfold j_b; rw [if_neg q2]
      rw [z2] at h1 h2
      refine ⟨some (.int 0), some (.int b), ?_⟩
      rw [e_L_law__24_40]
      simp (disch := omega) only [e_L_law__1417, e_L_law__1419, e_L_law__1435, e_L_law__1436, e_L_law__1439, e_L_law__1454, e_L_law__1606, k_L_law__1419, k_L_law__1436, k_L_law__1439, h1, h2, j_thrown, j_cmp, q_bn_l, q2, h3, h9, q_bd_l, z_ltT, z_ltF, z_eqT, z_eqF, z_ltlT, z_ltlF, z_lltT, z_lltF, z_eqlT, z_eqlF, z_in, z_k7, z_cl, z_lneg, z_llT, z_llF, z_s1, z_nI_cl, z_nlt0, z_ne_m1, z_b0, z_b1, z_la, z_al, z_lm, z_ml, z_nm, nI_add, pk_mul, ↓reduceIte, not_true_eq_false, not_false_eq_true, true_or, or_true, false_or, or_false, true_and, and_true, and_false, false_and, Classical.not_not, Nat.add_zero, z_01, z_em, z_bit_p, Nat.not_le, Nat.not_lt, reduceCtorEq, if_true, if_false]
    · have z2 : j_b (X.2 (i + 2)) = 1 := by unfold j_b; rw [if_neg q2]
      rw [z2] at h1 h2
      refine ⟨some (.int c), some (.int b), ?_⟩
      rw [e_L_law__24_40]
      simp (disch := omega) only [e_L_law__1417, e_L_law__1419, e_L_law__1435, e_L_law__1436, e_L_law__1439, e_L_law__1454, e_L_law__1606, k_L_law__1419, k_L_law__1436, k_L_law__1439, h1, h2, j_thrown, j_cmp, q_bn_l, q2, h3, c0, q_bd_l, z_ltT, z_ltF, z_eqT, z_eqF, z_ltlT, z_ltlF, z_lltT, z_lltF, z_eqlT, z_eqlF, z_in, z_k7, z_cl, z_lneg, z_llT, z_llF, z_s1, z_nI_cl, z_nlt0, z_ne_m1, z_b0, z_b1, z_la, z_al, z_lm, z_ml, z_nm, nI_add, pk_mul, ↓reduceIte, not_true_eq_false, not_false_eq_true, true_or, or_true, false_or, or_false, true_and, and_true, and_false, false_and, Classical.not_not, Nat.add_zero, z_01, z_em, z_bit_p, Nat.not_le, Nat.not_lt, reduceCtorEq, if_true, if_false]
theorem j_41 (X : Sx) (d i : Nat) (o5 o6 : Option Value) (I J K : Ii) (T T1 : Tt) (c b : Int32) (hX : X.1 ≤ 3072) (hi : i + 6 ≤ X.1) (h1 : c_L_span_0_150 X (d + 50) (X.2 (i + 1)) (j_b (X.2 (i + 2))) I T = z_r c J T1) (h2 : c_X12_span_139 X (d + 50) (X.2 (i + 1)) (j_b (X.2 (i + 2))) J T1 = z_r b K T1) (h3 : K 139 0 = c) (h4 : c = 0 → T1.1 150 0 = b.toInt64) : ∃ u5 u6, c_L_law__24 X (d + 50) (nI i) o5 o6 41 I T = c_L_law__13 X (d + 50) (nI (i + 6)) u5 u6 K T1 := by
  by_cases q2 : X.2 (i + 2) = 0
  · by_cases c0 : c = 0
    · have h9 := h4 c0
      clear h4
      subst c0
      have z2 : j_b (X.2 (i + 2)) = 0 := by unfold j_b; rw [if_pos q2]
      rw [z2] at h1 h2
      refine ⟨some (.int 0), some (.int b), ?_⟩
      rw [e_L_law__24_41]
      simp (disch := omega) only [e_L_law__1470, e_L_law__1472, e_L_law__1488, e_L_law__1489, e_L_law__1492, e_L_law__1507, e_L_law__1606, k_L_law__1472, k_L_law__1489, k_L_law__1492, h1, h2, j_thrown, j_cmp, q_bn_l, q2, h3, h9, q_bd_l, z_ltT, z_ltF, z_eqT, z_eqF, z_ltlT, z_ltlF, z_lltT, z_lltF, z_eqlT, z_eqlF, z_in, z_k7, z_cl, z_lneg, z_llT, z_llF, z_s1, z_nI_cl, z_nlt0, z_ne_m1, z_b0, z_b1, z_la, z_al, z_lm, z_ml, z_nm, nI_add, pk_mul, ↓reduceIte, not_true_eq_false, not_false_eq_true, true_or, or_true, false_or, or_false, true_and, and_true, and_false, false_and, Classical.not_not, Nat.add_zero, z_01, z_em, z_bit_p, Nat.not_le, Nat.not_lt, reduceCtorEq, if_true, if_false]
    · have z2 : j_b (X.2 (i + 2)) = 0 := by unfold j_b; rw [if_pos q2]
      rw [z2] at h1 h2
      refine ⟨some (.int c), some (.int b), ?_⟩
      rw [e_L_law__24_41]
      simp (disch := omega) only [e_L_law__1470, e_L_law__1472, e_L_law__1488, e_L_law__1489, e_L_law__1492, e_L_law__1507, e_L_law__1606, k_L_law__1472, k_L_law__1489, k_L_law__1492, h1, h2, j_thrown, j_cmp, q_bn_l, q2, h3, c0, q_bd_l, z_ltT, z_ltF, z_eqT, z_eqF, z_ltlT, z_ltlF, z_lltT, z_lltF, z_eqlT, z_eqlF, z_in, z_k7, z_cl, z_lneg, z_llT, z_llF, z_s1, z_nI_cl, z_nlt0, z_ne_m1, z_b0, z_b1, z_la, z_al, z_lm, z_ml, z_nm, nI_add, pk_mul, ↓reduceIte, not_true_eq_false, not_false_eq_true, true_or, or_true, false_or, or_false, true_and, and_true, and_false, false_and, Classical.not_not, Nat.add_zero, z_01, z_em, z_bit_p, Nat.not_le, Nat.not_lt, reduceCtorEq, if_true, if_false]
  · by_cases c0 : c = 0
    · have h9 := h4 c0
      clear h4
      subst c0
      have z2 : j_b (X.2 (i + 2)) = 1 := by unfold j_b; rw [if_neg q2]
      rw [z2] at h1 h2
      refine ⟨some (.int 0), some (.int b), ?_⟩
      rw [e_L_law__24_41]
      simp (disch := omega) only [e_L_law__1470, e_L_law__1472, e_L_law__1488, e_L_law__1489, e_L_law__1492, e_L_law__1507, e_L_law__1606, k_L_law__1472, k_L_law__1489, k_L_law__1492, h1, h2, j_thrown, j_cmp, q_bn_l, q2, h3, h9, q_bd_l, z_ltT, z_ltF, z_eqT, z_eqF, z_ltlT, z_ltlF, z_lltT, z_lltF, z_eqlT, z_eqlF, z_in, z_k7, z_cl, z_lneg, z_llT, z_llF, z_s1, z_nI_cl, z_nlt0, z_ne_m1, z_b0, z_b1, z_la, z_al, z_lm, z_ml, z_nm, nI_add, pk_mul, ↓reduceIte, not_true_eq_false, not_false_eq_true, true_or, or_true, false_or, or_false, true_and, and_true, and_false, false_and, Classical.not_not, Nat.add_zero, z_01, z_em, z_bit_p, Nat.not_le, Nat.not_lt, reduceCtorEq, if_true, if_false]
    · have z2 : j_b (X.2 (i + 2)) = 1 := by unfold j_b; rw [if_neg q2]
      rw [z2] at h1 h2
      refine ⟨some (.int c), some (.int b), ?_⟩
      rw [e_L_law__24_41]
      simp (disch := omega) only [e_L_law__1470, e_L_law__1472, e_L_law__1488, e_L_law__1489, e_L_law__1492, e_L_law__1507, e_L_law__1606, k_L_law__1472, k_L_law__1489, k_L_law__1492, h1, h2, j_thrown, j_cmp, q_bn_l, q2, h3, c0, q_bd_l, z_ltT, z_ltF, z_eqT, z_eqF, z_ltlT, z_ltlF, z_lltT, z_lltF, z_eqlT, z_eqlF, z_in, z_k7, z_cl, z_lneg, z_llT, z_llF, z_s1, z_nI_cl, z_nlt0, z_ne_m1, z_b0, z_b1, z_la, z_al, z_lm, z_ml, z_nm, nI_add, pk_mul, ↓reduceIte, not_true_eq_false, not_false_eq_true, true_or, or_true, false_or, or_false, true_and, and_true, and_false, false_and, Classical.not_not, Nat.add_zero, z_01, z_em, z_bit_p, Nat.not_le, Nat.not_lt, reduceCtorEq, if_true, if_false]
theorem j_42 (X : Sx) (d i : Nat) (o5 o6 : Option Value) (I J K : Ii) (T T1 : Tt) (c b : Int32) (hX : X.1 ≤ 3072) (hi : i + 6 ≤ X.1) (h1 : c_L_log_0_150 X (d + 50) (X.2 (i + 1)) (X.2 (i + 2)) I T = z_r c J T1) (h2 : c_X12_log_139 X (d + 50) (X.2 (i + 1)) (X.2 (i + 2)) J T1 = z_r b K T1) (h3 : K 139 0 = c) (h4 : c = 0 → T1.1 150 0 = b.toInt64) : ∃ u5 u6, c_L_law__24 X (d + 50) (nI i) o5 o6 42 I T = c_L_law__13 X (d + 50) (nI (i + 6)) u5 u6 K T1 := by
  by_cases c0 : c = 0
  · have h9 := h4 c0
    clear h4
    subst c0
    refine ⟨some (.int 0), some (.int b), ?_⟩
    rw [e_L_law__24_42]
    simp (disch := omega) only [e_L_law__1521, e_L_law__1534, e_L_law__1537, e_L_law__1552, e_L_law__1606, k_L_law__1521, k_L_law__1534, k_L_law__1537, h1, h2, j_thrown, j_cmp, q_bn_l, h3, h9, q_bd_l, z_ltT, z_ltF, z_eqT, z_eqF, z_ltlT, z_ltlF, z_lltT, z_lltF, z_eqlT, z_eqlF, z_in, z_k7, z_cl, z_lneg, z_llT, z_llF, z_s1, z_nI_cl, z_nlt0, z_ne_m1, z_b0, z_b1, z_la, z_al, z_lm, z_ml, z_nm, nI_add, pk_mul, ↓reduceIte, not_true_eq_false, not_false_eq_true, true_or, or_true, false_or, or_false, true_and, and_true, and_false, false_and, Classical.not_not, Nat.add_zero, z_01, z_em, z_bit_p, Nat.not_le, Nat.not_lt, reduceCtorEq, if_true, if_false]
  · refine ⟨some (.int c), some (.int b), ?_⟩
    rw [e_L_law__24_42]
    simp (disch := omega) only [e_L_law__1521, e_L_law__1534, e_L_law__1537, e_L_law__1552, e_L_law__1606, k_L_law__1521, k_L_law__1534, k_L_law__1537, h1, h2, j_thrown, j_cmp, q_bn_l, h3, c0, q_bd_l, z_ltT, z_ltF, z_eqT, z_eqF, z_ltlT, z_ltlF, z_lltT, z_lltF, z_eqlT, z_eqlF, z_in, z_k7, z_cl, z_lneg, z_llT, z_llF, z_s1, z_nI_cl, z_nlt0, z_ne_m1, z_b0, z_b1, z_la, z_al, z_lm, z_ml, z_nm, nI_add, pk_mul, ↓reduceIte, not_true_eq_false, not_false_eq_true, true_or, or_true, false_or, or_false, true_and, and_true, and_false, false_and, Classical.not_not, Nat.add_zero, z_01, z_em, z_bit_p, Nat.not_le, Nat.not_lt, reduceCtorEq, if_true, if_false]
theorem j_43 (X : Sx) (d i : Nat) (o5 o6 : Option Value) (I J K : Ii) (T : Tt) (b : Int32) (hX : X.1 ≤ 3072) (hi : i + 6 ≤ X.1) (h1 : c_X11_seed_0 X (d + 50) (X.2 (i + 1)) I T = z_r b J T) (h2 : c_X12_seed_139 X (d + 50) (X.2 (i + 1)) J T = z_r b K T) : ∃ u5 u6, c_L_law__24 X (d + 50) (nI i) o5 o6 43 I T = c_L_law__13 X (d + 50) (nI (i + 6)) u5 u6 K T := by
  refine ⟨o5, o6, ?_⟩
  rw [e_L_law__24_43]
  simp (disch := omega) only [e_L_law__1560, e_L_law__1567, e_L_law__1606, k_L_law__1560, k_L_law__1567, h1, h2, j_thrown, j_cmp, q_bn_l, q_bd_l, z_ltT, z_ltF, z_eqT, z_eqF, z_ltlT, z_ltlF, z_lltT, z_lltF, z_eqlT, z_eqlF, z_in, z_k7, z_cl, z_lneg, z_llT, z_llF, z_s1, z_nI_cl, z_nlt0, z_ne_m1, z_b0, z_b1, z_la, z_al, z_lm, z_ml, z_nm, nI_add, pk_mul, ↓reduceIte, not_true_eq_false, not_false_eq_true, true_or, or_true, false_or, or_false, true_and, and_true, and_false, false_and, Classical.not_not, Nat.add_zero, z_01, z_em, z_bit_p, Nat.not_le, Nat.not_lt, reduceCtorEq, if_true, if_false]
theorem j_44 (X : Sx) (d i : Nat) (o5 o6 : Option Value) (I J K : Ii) (T : Tt) (b : Int32) (hX : X.1 ≤ 3072) (hi : i + 6 ≤ X.1) (h1 : c_X11_undo_0 X (d + 50) I T = z_r b J T) (h2 : c_X12_undo_139 X (d + 50) J T = z_r b K T) : ∃ u5 u6, c_L_law__24 X (d + 50) (nI i) o5 o6 44 I T = c_L_law__13 X (d + 50) (nI (i + 6)) u5 u6 K T := by
  refine ⟨o5, o6, ?_⟩
  rw [e_L_law__24_44]
  simp (disch := omega) only [e_L_law__1572, e_L_law__1574, e_L_law__1606, k_L_law__1572, k_L_law__1574, h1, h2, j_thrown, j_cmp, q_bn_l, q_bd_l, z_ltT, z_ltF, z_eqT, z_eqF, z_ltlT, z_ltlF, z_lltT, z_lltF, z_eqlT, z_eqlF, z_in, z_k7, z_cl, z_lneg, z_llT, z_llF, z_s1, z_nI_cl, z_nlt0, z_ne_m1, z_b0, z_b1, z_la, z_al, z_lm, z_ml, z_nm, nI_add, pk_mul, ↓reduceIte, not_true_eq_false, not_false_eq_true, true_or, or_true, false_or, or_false, true_and, and_true, and_false, false_and, Classical.not_not, Nat.add_zero, z_01, z_em, z_bit_p, Nat.not_le, Nat.not_lt, reduceCtorEq, if_true, if_false]
theorem j_45 (X : Sx) (d i : Nat) (o5 o6 : Option Value) (I J K : Ii) (T : Tt) (hX : X.1 ≤ 3072) (hi : i + 6 ≤ X.1) (h1 : c_X11_image_0 X (d + 50) I T = z_v J T) (h2 : c_X12_image_139 X (d + 50) J T = z_v K T) : ∃ u5 u6, c_L_law__24 X (d + 50) (nI i) o5 o6 45 I T = c_L_law__13 X (d + 50) (nI (i + 6)) u5 u6 K T := by
  refine ⟨o5, o6, ?_⟩
  rw [e_L_law__24_45]
  simp (disch := omega) only [e_L_law__1579, e_L_law__1581, e_L_law__1606, k_L_law__1579, k_L_law__1581, h1, h2, j_thrown, j_cmp, q_bn_l, q_bd_l, z_ltT, z_ltF, z_eqT, z_eqF, z_ltlT, z_ltlF, z_lltT, z_lltF, z_eqlT, z_eqlF, z_in, z_k7, z_cl, z_lneg, z_llT, z_llF, z_s1, z_nI_cl, z_nlt0, z_ne_m1, z_b0, z_b1, z_la, z_al, z_lm, z_ml, z_nm, nI_add, pk_mul, ↓reduceIte, not_true_eq_false, not_false_eq_true, true_or, or_true, false_or, or_false, true_and, and_true, and_false, false_and, Classical.not_not, Nat.add_zero, z_01, z_em, z_bit_p, Nat.not_le, Nat.not_lt, reduceCtorEq, if_true, if_false]
theorem j_46 (X : Sx) (d i : Nat) (o5 o6 : Option Value) (I J K : Ii) (T : Tt) (b : Int32) (hX : X.1 ≤ 3072) (hi : i + 6 ≤ X.1) (h1 : c_X11_back_0 X (d + 50) I T = z_r b J T) (h2 : c_X12_back_139 X (d + 50) J T = z_r b K T) : ∃ u5 u6, c_L_law__24 X (d + 50) (nI i) o5 o6 46 I T = c_L_law__13 X (d + 50) (nI (i + 6)) u5 u6 K T := by
  refine ⟨o5, o6, ?_⟩
  rw [e_L_law__24_46]
  simp (disch := omega) only [e_L_law__1584, e_L_law__1586, e_L_law__1606, k_L_law__1584, k_L_law__1586, h1, h2, j_thrown, j_cmp, q_bn_l, q_bd_l, z_ltT, z_ltF, z_eqT, z_eqF, z_ltlT, z_ltlF, z_lltT, z_lltF, z_eqlT, z_eqlF, z_in, z_k7, z_cl, z_lneg, z_llT, z_llF, z_s1, z_nI_cl, z_nlt0, z_ne_m1, z_b0, z_b1, z_la, z_al, z_lm, z_ml, z_nm, nI_add, pk_mul, ↓reduceIte, not_true_eq_false, not_false_eq_true, true_or, or_true, false_or, or_false, true_and, and_true, and_false, false_and, Classical.not_not, Nat.add_zero, z_01, z_em, z_bit_p, Nat.not_le, Nat.not_lt, reduceCtorEq, if_true, if_false]
theorem j_47 (X : Sx) (d i : Nat) (o5 o6 : Option Value) (I J K : Ii) (T : Tt) (b : Int32) (hX : X.1 ≤ 3072) (hi : i + 6 ≤ X.1) (h1 : c_X11_count_0 X (d + 50) (X.2 (i + 1)) I T = z_r b J T) (h2 : c_X12_count_139 X (d + 50) (X.2 (i + 1)) J T = z_r b K T) : ∃ u5 u6, c_L_law__24 X (d + 50) (nI i) o5 o6 47 I T = c_L_law__13 X (d + 50) (nI (i + 6)) u5 u6 K T := by
  refine ⟨o5, o6, ?_⟩
  rw [e_L_law__24_47]
  simp (disch := omega) only [e_L_law__1596, e_L_law__1603, e_L_law__1606, k_L_law__1596, k_L_law__1603, h1, h2, j_thrown, j_cmp, q_bn_l, q_bd_l, z_ltT, z_ltF, z_eqT, z_eqF, z_ltlT, z_ltlF, z_lltT, z_lltF, z_eqlT, z_eqlF, z_in, z_k7, z_cl, z_lneg, z_llT, z_llF, z_s1, z_nI_cl, z_nlt0, z_ne_m1, z_b0, z_b1, z_la, z_al, z_lm, z_ml, z_nm, nI_add, pk_mul, ↓reduceIte, not_true_eq_false, not_false_eq_true, true_or, or_true, false_or, or_false, true_and, and_true, and_false, false_and, Classical.not_not, Nat.add_zero, z_01, z_em, z_bit_p, Nat.not_le, Nat.not_lt, reduceCtorEq, if_true, if_false]
