/-! ===== THE CLASS: its rack ===== -/
theorem z_23 (x : Int32) : (x < 3) = ¬ (2 < x) := by
  apply propext
  rw [Int32.lt_iff_toInt_lt, Int32.lt_iff_toInt_lt]
  have e2 : (2 : Int32).toInt = 2 := rfl
  have e3 : (3 : Int32).toInt = 3 := rfl
  omega
theorem k_fallsFrom (X : Sx) (d : Nat) (I : Ii) (T : Tt) (r : Nat → Int32) (n m : Nat) (v : Int32) (h : k_H27 I r n m) : c_X8_fallsFrom_132 X (d + 1) v I T = z_r (R_falls r n v) I T := by
  have hn := h.1.2.1
  have n3 := k_n3 h
  rw [e_X8_fallsFrom_132]
  obtain ⟨o, -, p⟩ := z_foldP (β := Int32) (σ := Option Value) (fun k a o => c_X8_fallsFrom_132_4 X d v a (nI k) o I T) (fun k a => a + (if ¬ r (12 + 13 * k + 1) - v < 0 ∧ ¬ 2 < r (12 + 13 * k + 1) - v then r (12 + 13 * k + 2) else 0)) (fun _ _ _ => True) n (by
    intro k a o hk _
    have c1 : I 28 k = r (12 + 13 * k + 1) := h.2.2.1.2.2.2.2.1 k hk
    have c2 : I 29 k = r (12 + 13 * k + 2) := h.2.2.1.2.2.2.2.2.1 k hk
    refine ⟨some (.int (r (12 + 13 * k + 1) - v)), trivial, ?_⟩
    rw [e_X8_fallsFrom_132_4]
    by_cases h1 : r (12 + 13 * k + 1) - v < 0
    · simp (disch := omega) only [e_X8_fallsFrom_132_29, e_X8_fallsFrom_132_30, n3, c1, c2, h1, z_23, q_bd_l, z_ltT, z_ltF, z_eqT, z_eqF, z_ltlT, z_ltlF, z_lltT, z_lltF, z_eqlT, z_eqlF, z_in, z_k7, z_cl, z_lneg, z_llT, z_llF, z_s1, z_nI_cl, z_nlt0, z_ne_m1, z_b0, z_b1, z_la, z_al, z_lm, z_ml, z_nm, nI_add, pk_mul, ↓reduceIte, not_true_eq_false, not_false_eq_true, true_or, or_true, false_or, or_false, true_and, and_true, and_false, false_and, Classical.not_not, Nat.add_zero, z_01, z_em, z_bit_p, Nat.not_le, Nat.not_lt, reduceCtorEq, if_true, if_false]
    · by_cases h2 : 2 < r (12 + 13 * k + 1) - v <;> simp (disch := omega) only [e_X8_fallsFrom_132_29, e_X8_fallsFrom_132_30, n3, c1, c2, h1, h2, z_23, q_bd_l, z_ltT, z_ltF, z_eqT, z_eqF, z_ltlT, z_ltlF, z_lltT, z_lltF, z_eqlT, z_eqlF, z_in, z_k7, z_cl, z_lneg, z_llT, z_llF, z_s1, z_nI_cl, z_nlt0, z_ne_m1, z_b0, z_b1, z_la, z_al, z_lm, z_ml, z_nm, nI_add, pk_mul, ↓reduceIte, not_true_eq_false, not_false_eq_true, true_or, or_true, false_or, or_false, true_and, and_true, and_false, false_and, Classical.not_not, Nat.add_zero, z_01, z_em, z_bit_p, Nat.not_le, Nat.not_lt, reduceCtorEq, if_true, if_false]) 0 none trivial
  refine p.trans ?_
  rw [e_X8_fallsFrom_132_4]
  simp (disch := omega) only [n3, q_bd_l, z_ltT, z_ltF, z_eqT, z_eqF, z_ltlT, z_ltlF, z_lltT, z_lltF, z_eqlT, z_eqlF, z_in, z_k7, z_cl, z_lneg, z_llT, z_llF, z_s1, z_nI_cl, z_nlt0, z_ne_m1, z_b0, z_b1, z_la, z_al, z_lm, z_ml, z_nm, nI_add, pk_mul, ↓reduceIte, not_true_eq_false, not_false_eq_true, true_or, or_true, false_or, or_false, true_and, and_true, and_false, false_and, Classical.not_not, Nat.add_zero, z_01, z_em, z_bit_p, Nat.not_le, Nat.not_lt, reduceCtorEq, if_true, if_false]
  rfl
theorem k_worst (X : Sx) (d : Nat) (I : Ii) (T : Tt) (r : Nat → Int32) (n m : Nat) (h : k_H27 I r n m) : c_X8_worstPlace_132 X (d + 2) I T = z_r (R_worst r n) I T := by
  have f0 := k_fallsFrom X d I T r n m 0 h
  rw [e_X8_worstPlace_132, f0]
  simp (disch := omega) only [e_X8_worstPlace_132_5, k_X8_worstPlace_132_5, q_bd_l, z_ltT, z_ltF, z_eqT, z_eqF, z_ltlT, z_ltlF, z_lltT, z_lltF, z_eqlT, z_eqlF, z_in, z_k7, z_cl, z_lneg, z_llT, z_llF, z_s1, z_nI_cl, z_nlt0, z_ne_m1, z_b0, z_b1, z_la, z_al, z_lm, z_ml, z_nm, nI_add, pk_mul, ↓reduceIte, not_true_eq_false, not_false_eq_true, true_or, or_true, false_or, or_false, true_and, and_true, and_false, false_and, Classical.not_not, Nat.add_zero, z_01, z_em, z_bit_p, Nat.not_le, Nat.not_lt, reduceCtorEq, if_true, if_false]
  obtain ⟨o, -, p⟩ := z_foldP (β := Int32) (σ := Option Value) (fun k f o => c_X8_worstPlace_132_8 X (d + 1) f (R_falls r n f) (nI (k + 1)) o I T) (fun k f => if R_falls r n f < R_falls r n (nI (k + 1)) then nI (k + 1) else f) (fun _ _ _ => True) 11 (by
    intro k f o hk _
    have fk := k_fallsFrom X d I T r n m (nI (k + 1)) h
    refine ⟨some (.int (R_falls r n (nI (k + 1)))), trivial, ?_⟩
    rw [e_X8_worstPlace_132_8]
    by_cases c : R_falls r n f < R_falls r n (nI (k + 1)) <;> simp (disch := omega) only [e_X8_worstPlace_132_5, k_X8_worstPlace_132_5, e_X8_worstPlace_132_14, k_X8_worstPlace_132_14, e_X8_worstPlace_132_22, fk, c, q_bd_l, z_ltT, z_ltF, z_eqT, z_eqF, z_ltlT, z_ltlF, z_lltT, z_lltF, z_eqlT, z_eqlF, z_in, z_k7, z_cl, z_lneg, z_llT, z_llF, z_s1, z_nI_cl, z_nlt0, z_ne_m1, z_b0, z_b1, z_la, z_al, z_lm, z_ml, z_nm, nI_add, pk_mul, ↓reduceIte, not_true_eq_false, not_false_eq_true, true_or, or_true, false_or, or_false, true_and, and_true, and_false, false_and, Classical.not_not, Nat.add_zero, z_01, z_em, z_bit_p, Nat.not_le, Nat.not_lt, reduceCtorEq, if_true, if_false]) 0 none trivial
  refine p.trans ?_
  rw [e_X8_worstPlace_132_8]
  simp (disch := omega) only [q_bd_l, z_ltT, z_ltF, z_eqT, z_eqF, z_ltlT, z_ltlF, z_lltT, z_lltF, z_eqlT, z_eqlF, z_in, z_k7, z_cl, z_lneg, z_llT, z_llF, z_s1, z_nI_cl, z_nlt0, z_ne_m1, z_b0, z_b1, z_la, z_al, z_lm, z_ml, z_nm, nI_add, pk_mul, ↓reduceIte, not_true_eq_false, not_false_eq_true, true_or, or_true, false_or, or_false, true_and, and_true, and_false, false_and, Classical.not_not, Nat.add_zero, z_01, z_em, z_bit_p, Nat.not_le, Nat.not_lt, reduceCtorEq, if_true, if_false]
  rfl
theorem k_Xfalls1 (X : Sx) (d : Nat) (I : Ii) (T : Tt) (r : Nat → Int32) (n m q : Nat) (h : k_H27 I r n m) (hq : q < 12) : c_X11_falls_0 X (d + 12) (nI q) I T = z_r (R_falls r n (nI q)) I T := by
  rw [e_X11_falls_0]
  simp (disch := omega) only [e_X11_falls_0_6, k_X11_falls_0_6, e_X11_falls_0_9, k_X11_falls_0_9, e_X11_falls_0_13, k_X11_falls_0_13, k_needPlace1 X _ I T q hq, k_fallsFrom X _ I T r n m _ h, q_bd_l, z_ltT, z_ltF, z_eqT, z_eqF, z_ltlT, z_ltlF, z_lltT, z_lltF, z_eqlT, z_eqlF, z_in, z_k7, z_cl, z_lneg, z_llT, z_llF, z_s1, z_nI_cl, z_nlt0, z_ne_m1, z_b0, z_b1, z_la, z_al, z_lm, z_ml, z_nm, nI_add, pk_mul, ↓reduceIte, not_true_eq_false, not_false_eq_true, true_or, or_true, false_or, or_false, true_and, and_true, and_false, false_and, Classical.not_not, Nat.add_zero, z_01, z_em, z_bit_p, Nat.not_le, Nat.not_lt, reduceCtorEq, if_true, if_false]
theorem k_XfallsW (X : Sx) (d : Nat) (I : Ii) (T : Tt) (r : Nat → Int32) (n m : Nat) (h : k_H27 I r n m) : c_X11_falls_0 X (d + 12) (-1) I T = z_r (R_worst r n) I T := by
  rw [e_X11_falls_0]
  simp (disch := omega) only [e_X11_falls_0_6, k_X11_falls_0_6, e_X11_falls_0_9, k_X11_falls_0_9, e_X11_falls_0_13, k_X11_falls_0_13, k_worst X _ I T r n m h, q_bd_l, z_ltT, z_ltF, z_eqT, z_eqF, z_ltlT, z_ltlF, z_lltT, z_lltF, z_eqlT, z_eqlF, z_in, z_k7, z_cl, z_lneg, z_llT, z_llF, z_s1, z_nI_cl, z_nlt0, z_ne_m1, z_b0, z_b1, z_la, z_al, z_lm, z_ml, z_nm, nI_add, pk_mul, ↓reduceIte, not_true_eq_false, not_false_eq_true, true_or, or_true, false_or, or_false, true_and, and_true, and_false, false_and, Classical.not_not, Nat.add_zero, z_01, z_em, z_bit_p, Nat.not_le, Nat.not_lt, reduceCtorEq, if_true, if_false]
theorem k_Xfalls0 (X : Sx) (d : Nat) (I : Ii) (T : Tt) (v : Int32) (hv : z_no v 12) (hm : v ≠ -1) : c_X11_falls_0 X (d + 12) v I T = z_x 2 I T := by
  rw [e_X11_falls_0, if_neg hm, k_needPlace0 X _ v I T hv, z_x_bd]
theorem k_harmOn (X : Sx) (d : Nat) (I : Ii) (T : Tt) (r : Nat → Int32) (n m q j : Nat) (h : k_H27 I r n m) (hq : q < 12) (hj : j < n) : c_X8_harmOn_132 X (d + 1) (nI q) (nI j) I T = z_r (r (142 + q) * r (12 + 13 * j + 2)) I T := by
  have hn := h.1.2.1
  have c1 : I 7 q = r (142 + q) := h.2.1.2.2.2.2.2.2.2.2.2.1 q hq
  have c2 : I 29 j = r (12 + 13 * j + 2) := h.2.2.1.2.2.2.2.2.1 j hj
  rw [e_X8_harmOn_132]
  simp (disch := omega) only [c1, c2, q_bd_l, z_ltT, z_ltF, z_eqT, z_eqF, z_ltlT, z_ltlF, z_lltT, z_lltF, z_eqlT, z_eqlF, z_in, z_k7, z_cl, z_lneg, z_llT, z_llF, z_s1, z_nI_cl, z_nlt0, z_ne_m1, z_b0, z_b1, z_la, z_al, z_lm, z_ml, z_nm, nI_add, pk_mul, ↓reduceIte, not_true_eq_false, not_false_eq_true, true_or, or_true, false_or, or_false, true_and, and_true, and_false, false_and, Classical.not_not, Nat.add_zero, z_01, z_em, z_bit_p, Nat.not_le, Nat.not_lt, reduceCtorEq, if_true, if_false]
theorem k_harmNow (X : Sx) (d : Nat) (I : Ii) (T : Tt) (r : Nat → Int32) (n m : Nat) (h : k_H27 I r n m) : c_X8_harmNow_132 X (d + 2) I T = z_r (R_harm r n) I T := by
  have hn := h.1.2.1
  have n3 := k_n3 h
  rw [e_X8_harmNow_132]
  refine (z_for (fun k a => c_X8_harmNow_132_4 X (d + 1) a (nI k) I T) (fun k a => a + r (142 + (r (12 + 13 * k + 1)).toNatClampNeg) * r (12 + 13 * k + 2)) n (fun k a hk => ?_) 0).trans ?_
  · have c1 : I 28 k = r (12 + 13 * k + 1) := h.2.2.1.2.2.2.2.1 k hk
    obtain ⟨x, hx, ex⟩ := (h.1.2.2.2.2.2.2.2.2.2.2.1 k hk).2.1
    rw [ex] at c1 ⊢
    have kh := k_harmOn X d I T r n m x k h (by omega) hk
    rw [z_nI_cl _ (by omega), e_X8_harmNow_132_4]
    simp (disch := omega) only [e_X8_harmNow_132_18, k_X8_harmNow_132_18, n3, c1, kh, q_bd_l, z_ltT, z_ltF, z_eqT, z_eqF, z_ltlT, z_ltlF, z_lltT, z_lltF, z_eqlT, z_eqlF, z_in, z_k7, z_cl, z_lneg, z_llT, z_llF, z_s1, z_nI_cl, z_nlt0, z_ne_m1, z_b0, z_b1, z_la, z_al, z_lm, z_ml, z_nm, nI_add, pk_mul, ↓reduceIte, not_true_eq_false, not_false_eq_true, true_or, or_true, false_or, or_false, true_and, and_true, and_false, false_and, Classical.not_not, Nat.add_zero, z_01, z_em, z_bit_p, Nat.not_le, Nat.not_lt, reduceCtorEq, if_true, if_false]
  · rw [e_X8_harmNow_132_4]
    simp (disch := omega) only [n3, q_bd_l, z_ltT, z_ltF, z_eqT, z_eqF, z_ltlT, z_ltlF, z_lltT, z_lltF, z_eqlT, z_eqlF, z_in, z_k7, z_cl, z_lneg, z_llT, z_llF, z_s1, z_nI_cl, z_nlt0, z_ne_m1, z_b0, z_b1, z_la, z_al, z_lm, z_ml, z_nm, nI_add, pk_mul, ↓reduceIte, not_true_eq_false, not_false_eq_true, true_or, or_true, false_or, or_false, true_and, and_true, and_false, false_and, Classical.not_not, Nat.add_zero, z_01, z_em, z_bit_p, Nat.not_le, Nat.not_lt, reduceCtorEq, if_true, if_false]
    rfl
theorem k_Xharm (X : Sx) (d : Nat) (I : Ii) (T : Tt) (r : Nat → Int32) (n m : Nat) (h : k_H27 I r n m) : c_X11_harm_0 X (d + 12) I T = z_r (R_harm r n) I T := by
  rw [e_X11_harm_0, k_harmNow X (d + 9) I T r n m h]
  simp (disch := omega) only [e_X11_harm_0_3, k_X11_harm_0_3, q_bd_l, z_ltT, z_ltF, z_eqT, z_eqF, z_ltlT, z_ltlF, z_lltT, z_lltF, z_eqlT, z_eqlF, z_in, z_k7, z_cl, z_lneg, z_llT, z_llF, z_s1, z_nI_cl, z_nlt0, z_ne_m1, z_b0, z_b1, z_la, z_al, z_lm, z_ml, z_nm, nI_add, pk_mul, ↓reduceIte, not_true_eq_false, not_false_eq_true, true_or, or_true, false_or, or_false, true_and, and_true, and_false, false_and, Classical.not_not, Nat.add_zero, z_01, z_em, z_bit_p, Nat.not_le, Nat.not_lt, reduceCtorEq, if_true, if_false]
