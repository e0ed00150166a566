/-! ===== THE CLASS: jar, years ahead, log, count ===== -/
theorem z_no_out {v : Int32} {n : Nat} (h : z_no v n) (hn : n < 1000) : q_out v n := by
  unfold q_out
  rcases h with h | h
  · exact .inl h
  · refine .inr ?_
    rw [Int32.le_iff_toInt_le] at h
    have t := nI_toInt (n := n) (by omega)
    unfold Int32.toNatClampNeg
    omega
theorem k_Xneed0 (X : Sx) (d : Nat) (I : Ii) (T : Tt) (m : Nat) (v u c : Int32) (h5 : I 3 5 = nI m) (hm : m ≤ 10) (hc : c = 1 ∧ z_no v m ∨ c = 2 ∧ (∃ k, k < m ∧ v = nI k) ∧ z_no u 4) : c_X11_need_0 X (d + 12) v u I T = z_x (if c = 1 then 2 else 3) I T := by
  rw [e_X11_need_0]
  rcases hc with ⟨e, h⟩ | ⟨e, ⟨k, hk, rfl⟩, h⟩
  · rw [if_pos e]
    by_cases c0 : v < 0
    · simp (disch := omega) only [e_X11_need_0_7, c0, z_x_e, q_bd_l, z_ltT, z_ltF, z_eqT, z_eqF, z_ltlT, z_ltlF, z_lltT, z_lltF, z_eqlT, z_eqlF, z_in, z_k7, z_cl, z_lneg, z_llT, z_llF, z_s1, z_nI_cl, z_nlt0, z_ne_m1, z_b0, z_b1, z_la, z_al, z_lm, z_ml, z_nm, nI_add, pk_mul, ↓reduceIte, not_true_eq_false, not_false_eq_true, true_or, or_true, false_or, or_false, true_and, and_true, and_false, false_and, Classical.not_not, Nat.add_zero, z_01, z_em, z_bit_p, Nat.not_le, Nat.not_lt, reduceCtorEq, if_true, if_false]
    · have c1 := z_no_lt h c0
      simp (disch := omega) only [e_X11_need_0_7, h5, c0, c1, z_x_e, q_bd_l, z_ltT, z_ltF, z_eqT, z_eqF, z_ltlT, z_ltlF, z_lltT, z_lltF, z_eqlT, z_eqlF, z_in, z_k7, z_cl, z_lneg, z_llT, z_llF, z_s1, z_nI_cl, z_nlt0, z_ne_m1, z_b0, z_b1, z_la, z_al, z_lm, z_ml, z_nm, nI_add, pk_mul, ↓reduceIte, not_true_eq_false, not_false_eq_true, true_or, or_true, false_or, or_false, true_and, and_true, and_false, false_and, Classical.not_not, Nat.add_zero, z_01, z_em, z_bit_p, Nat.not_le, Nat.not_lt, reduceCtorEq, if_true, if_false]
  · have e1 : ¬ c = 1 := by rw [e]; decide
    rw [if_neg e1]
    simp (disch := omega) only [h5, q_bd_l, z_ltT, z_ltF, z_eqT, z_eqF, z_ltlT, z_ltlF, z_lltT, z_lltF, z_eqlT, z_eqlF, z_in, z_k7, z_cl, z_lneg, z_llT, z_llF, z_s1, z_nI_cl, z_nlt0, z_ne_m1, z_b0, z_b1, z_la, z_al, z_lm, z_ml, z_nm, nI_add, pk_mul, ↓reduceIte, not_true_eq_false, not_false_eq_true, true_or, or_true, false_or, or_false, true_and, and_true, and_false, false_and, Classical.not_not, Nat.add_zero, z_01, z_em, z_bit_p, Nat.not_le, Nat.not_lt, reduceCtorEq, if_true, if_false]
    exact e_X11_need_0_13_d X _ _ _ _ I T (z_no_out h (by omega))
theorem k_Xjar0 (X : Sx) (d : Nat) (I : Ii) (T : Tt) (n : Nat) (v u c : Int32) (h3 : I 3 0 = nI n) (hn : n ≤ 10) (hc : c = 1 ∧ z_no v n ∨ c = 2 ∧ (∃ k, k < n ∧ v = nI k) ∧ z_no u 10) : c_X11_jar_0 X (d + 12) v u I T = z_x (if c = 1 then 2 else 3) I T := by
  rw [e_X11_jar_0]
  rcases hc with ⟨e, h⟩ | ⟨e, ⟨k, hk, rfl⟩, h⟩
  · rw [k_needJar0 X _ v I T n h3 h, z_x_bd, if_pos e]
  · have e1 : ¬ c = 1 := by rw [e]; decide
    rw [if_neg e1, k_needJar1 X _ I T n k h3 hn hk]
    simp (disch := omega) only [e_X11_jar_0_3, k_X11_jar_0_3, q_bd_l, z_ltT, z_ltF, z_eqT, z_eqF, z_ltlT, z_ltlF, z_lltT, z_lltF, z_eqlT, z_eqlF, z_in, z_k7, z_cl, z_lneg, z_llT, z_llF, z_s1, z_nI_cl, z_nlt0, z_ne_m1, z_b0, z_b1, z_la, z_al, z_lm, z_ml, z_nm, nI_add, pk_mul, ↓reduceIte, not_true_eq_false, not_false_eq_true, true_or, or_true, false_or, or_false, true_and, and_true, and_false, false_and, Classical.not_not, Nat.add_zero, z_01, z_em, z_bit_p, Nat.not_le, Nat.not_lt, reduceCtorEq, if_true, if_false]
    exact e_X11_jar_0_4_d X _ _ _ _ I T (z_no_out h (by omega))
theorem k_Xjar1 (X : Sx) (d : Nat) (I : Ii) (T : Tt) (r : Nat → Int32) (n m j w : Nat) (h : k_H27 I r n m) (hj : j < n) (hw : w ≤ 9) : ∃ J, c_X11_jar_0 X (d + 12) (nI j) (nI w) I T = z_r (if w < 7 then r (12 + 13 * j + w) else if w = 7 then R_cl r n j else if w = 8 then R_al r n j else R_pow r n j) J T ∧ z_fr m_cs I J := by
  have hn := h.1.2.1
  have n3 := k_n3 h
  have d0 : I 4 j = r (12 + 13 * j) := h.2.1.2.2.2.2.2.2.1 j hj
  have d1 : I 28 j = r (12 + 13 * j + 1) := h.2.2.1.2.2.2.2.1 j hj
  have d2 : I 29 j = r (12 + 13 * j + 2) := h.2.2.1.2.2.2.2.2.1 j hj
  have d3 : I 30 j = r (12 + 13 * j + 3) := h.2.2.1.2.2.2.2.2.2.1 j hj
  have d4 : I 5 j = r (12 + 13 * j + 4) := h.2.1.2.2.2.2.2.2.2.1 j hj
  have d5 : I 31 j = r (12 + 13 * j + 5) := h.2.2.1.2.2.2.2.2.2.2.1 j hj
  have go : c_X11_jar_0 X (d + 12) (nI j) (nI w) I T = c_X11_jar_0_4 X (d + 11) (nI j) (nI w) (nI w) I T := by
    rw [e_X11_jar_0, k_needJar1 X _ I T n j n3 hn hj]
    simp (disch := omega) only [e_X11_jar_0_3, k_X11_jar_0_3, q_bd_l, z_ltT, z_ltF, z_eqT, z_eqF, z_ltlT, z_ltlF, z_lltT, z_lltF, z_eqlT, z_eqlF, z_in, z_k7, z_cl, z_lneg, z_llT, z_llF, z_s1, z_nI_cl, z_nlt0, z_ne_m1, z_b0, z_b1, z_la, z_al, z_lm, z_ml, z_nm, nI_add, pk_mul, ↓reduceIte, not_true_eq_false, not_false_eq_true, true_or, or_true, false_or, or_false, true_and, and_true, and_false, false_and, Classical.not_not, Nat.add_zero, z_01, z_em, z_bit_p, Nat.not_le, Nat.not_lt, reduceCtorEq, if_true, if_false]
  rw [go]
  have hw2 : w = 0 ∨ w = 1 ∨ w = 2 ∨ w = 3 ∨ w = 4 ∨ w = 5 ∨ w = 6 ∨ w = 7 ∨ w = 8 ∨ w = 9 := by omega
  rcases hw2 with rfl | rfl | rfl | rfl | rfl | rfl | rfl | rfl | rfl | rfl
  · refine ⟨I, (e_X11_jar_0_4_0 X (d + 11) (nI j) (nI 0) I T).trans ?_, z_fr_r _ _⟩
    rw [if_neg (by rw [z_out _ _ (by omega)]; omega), z_nI_cl _ (by omega), d0]; rfl
  · refine ⟨I, (e_X11_jar_0_4_1 X (d + 11) (nI j) (nI 1) I T).trans ?_, z_fr_r _ _⟩
    rw [if_neg (by rw [z_out _ _ (by omega)]; omega), z_nI_cl _ (by omega), d1]; rfl
  · refine ⟨I, (e_X11_jar_0_4_2 X (d + 11) (nI j) (nI 2) I T).trans ?_, z_fr_r _ _⟩
    rw [if_neg (by rw [z_out _ _ (by omega)]; omega), z_nI_cl _ (by omega), d2]; rfl
  · refine ⟨I, (e_X11_jar_0_4_3 X (d + 11) (nI j) (nI 3) I T).trans ?_, z_fr_r _ _⟩
    rw [if_neg (by rw [z_out _ _ (by omega)]; omega), z_nI_cl _ (by omega), d3]; rfl
  · refine ⟨I, (e_X11_jar_0_4_4 X (d + 11) (nI j) (nI 4) I T).trans ?_, z_fr_r _ _⟩
    rw [if_neg (by rw [z_out _ _ (by omega)]; omega), z_nI_cl _ (by omega), d4]; rfl
  · refine ⟨I, (e_X11_jar_0_4_5 X (d + 11) (nI j) (nI 5) I T).trans ?_, z_fr_r _ _⟩
    rw [if_neg (by rw [z_out _ _ (by omega)]; omega), z_nI_cl _ (by omega), d5]; rfl
  · refine ⟨I, (e_X11_jar_0_4_6 X (d + 11) (nI j) (nI 6) I T).trans ?_, z_fr_r _ _⟩
    obtain ⟨x, hx, ex⟩ := h.1.2.2.2.2.2.2.2.2.2.2.1 j hj |>.2.2.2.2.2.2.1
    rw [k_isOpen27 X (d + 10) I T r n m j h hj]
    rw [if_pos (by decide), ex]
    have hx2 : x = 0 ∨ x = 1 := by omega
    rcases hx2 with rfl | rfl <;> simp (disch := omega) only [e_X11_jar_0_45, k_X11_jar_0_45, z_b, q_bd_l, z_ltT, z_ltF, z_eqT, z_eqF, z_ltlT, z_ltlF, z_lltT, z_lltF, z_eqlT, z_eqlF, z_in, z_k7, z_cl, z_lneg, z_llT, z_llF, z_s1, z_nI_cl, z_nlt0, z_ne_m1, z_b0, z_b1, z_la, z_al, z_lm, z_ml, z_nm, nI_add, pk_mul, ↓reduceIte, not_true_eq_false, not_false_eq_true, true_or, or_true, false_or, or_false, true_and, and_true, and_false, false_and, Classical.not_not, Nat.add_zero, z_01, z_em, z_bit_p, Nat.not_le, Nat.not_lt, reduceCtorEq, if_true, if_false] <;> rfl
  · obtain ⟨J, j1, j2⟩ := k_clashesWith X (d + 3) I T r n m j h hj
    refine ⟨J, (e_X11_jar_0_4_7 X (d + 11) (nI j) (nI 7) I T).trans ?_, j2⟩
    rw [j1]
    simp (disch := omega) only [e_X11_jar_0_54, k_X11_jar_0_54, q_bd_l, z_ltT, z_ltF, z_eqT, z_eqF, z_ltlT, z_ltlF, z_lltT, z_lltF, z_eqlT, z_eqlF, z_in, z_k7, z_cl, z_lneg, z_llT, z_llF, z_s1, z_nI_cl, z_nlt0, z_ne_m1, z_b0, z_b1, z_la, z_al, z_lm, z_ml, z_nm, nI_add, pk_mul, ↓reduceIte, not_true_eq_false, not_false_eq_true, true_or, or_true, false_or, or_false, true_and, and_true, and_false, false_and, Classical.not_not, Nat.add_zero, z_01, z_em, z_bit_p, Nat.not_le, Nat.not_lt, reduceCtorEq, if_true, if_false]
    rfl
  · obtain ⟨J, j1, j2⟩ := k_alikeTo X (d + 3) I T r n m j h hj
    refine ⟨J, (e_X11_jar_0_4_8 X (d + 11) (nI j) (nI 8) I T).trans ?_, j2⟩
    rw [j1]
    simp (disch := omega) only [e_X11_jar_0_59, k_X11_jar_0_59, q_bd_l, z_ltT, z_ltF, z_eqT, z_eqF, z_ltlT, z_ltlF, z_lltT, z_lltF, z_eqlT, z_eqlF, z_in, z_k7, z_cl, z_lneg, z_llT, z_llF, z_s1, z_nI_cl, z_nlt0, z_ne_m1, z_b0, z_b1, z_la, z_al, z_lm, z_ml, z_nm, nI_add, pk_mul, ↓reduceIte, not_true_eq_false, not_false_eq_true, true_or, or_true, false_or, or_false, true_and, and_true, and_false, false_and, Classical.not_not, Nat.add_zero, z_01, z_em, z_bit_p, Nat.not_le, Nat.not_lt, reduceCtorEq, if_true, if_false]
    rfl
  · obtain ⟨J, j1, j2⟩ := k_powerOf X (d + 9) I T r n m j h hj
    refine ⟨J, (e_X11_jar_0_4_9 X (d + 11) (nI j) (nI 9) I T).trans ?_, j2⟩
    rw [j1]
    simp (disch := omega) only [e_X11_jar_0_64, k_X11_jar_0_64, q_bd_l, z_ltT, z_ltF, z_eqT, z_eqF, z_ltlT, z_ltlF, z_lltT, z_lltF, z_eqlT, z_eqlF, z_in, z_k7, z_cl, z_lneg, z_llT, z_llF, z_s1, z_nI_cl, z_nlt0, z_ne_m1, z_b0, z_b1, z_la, z_al, z_lm, z_ml, z_nm, nI_add, pk_mul, ↓reduceIte, not_true_eq_false, not_false_eq_true, true_or, or_true, false_or, or_false, true_and, and_true, and_false, false_and, Classical.not_not, Nat.add_zero, z_01, z_em, z_bit_p, Nat.not_le, Nat.not_lt, reduceCtorEq, if_true, if_false]
    rfl
theorem k_Xahead0 (X : Sx) (d : Nat) (I : Ii) (T : Tt) (n : Nat) (v u w c : Int32) (h3 : I 3 0 = nI n) (hn : n ≤ 10) (hc : c = 1 ∧ z_no v n ∨ c = 2 ∧ (∃ k, k < n ∧ v = nI k) ∧ z_no u 41 ∨ c = 3 ∧ (∃ k, k < n ∧ v = nI k) ∧ (∃ k, k < 41 ∧ u = nI k) ∧ z_no w 8) : c_X11_ahead_0 X (d + 12) v u w I T = z_x (if c = 1 then 2 else if c = 2 then 0 else 3) I T := by
  rw [e_X11_ahead_0]
  rcases hc with ⟨e, h⟩ | ⟨e, ⟨j, hj, rfl⟩, h⟩ | ⟨e, ⟨j, hj, rfl⟩, ⟨t, ht, rfl⟩, h⟩
  · rw [k_needJar0 X _ v I T n h3 h, z_x_bd, if_pos e]
  · have e1 : ¬ c = 1 := by rw [e]; decide
    rw [if_neg e1, if_pos e, k_needJar1 X _ I T n j h3 hn hj]
    simp (disch := omega) only [e_X11_ahead_0_3, k_X11_ahead_0_3, e_X11_ahead_0_6, k_X11_ahead_0_6, e_X11_ahead_0_11, e_X11_ahead_0_20, k_X11_ahead_0_20, e_X11_ahead_0_44, k_X11_ahead_0_44, k_needNumber0 X _ u 40 I T (z_no_hi (n := 40) h (by omega)), z_x_bd, q_bd_l, z_ltT, z_ltF, z_eqT, z_eqF, z_ltlT, z_ltlF, z_lltT, z_lltF, z_eqlT, z_eqlF, z_in, z_k7, z_cl, z_lneg, z_llT, z_llF, z_s1, z_nI_cl, z_nlt0, z_ne_m1, z_b0, z_b1, z_la, z_al, z_lm, z_ml, z_nm, nI_add, pk_mul, ↓reduceIte, not_true_eq_false, not_false_eq_true, true_or, or_true, false_or, or_false, true_and, and_true, and_false, false_and, Classical.not_not, Nat.add_zero, z_01, z_em, z_bit_p, Nat.not_le, Nat.not_lt, reduceCtorEq, if_true, if_false]
  · have e1 : ¬ c = 1 := by rw [e]; decide
    have e2 : ¬ c = 2 := by rw [e]; decide
    rw [if_neg e1, if_neg e2, k_needJar1 X _ I T n j h3 hn hj]
    by_cases c0 : w < 0
    · simp (disch := omega) only [e_X11_ahead_0_3, k_X11_ahead_0_3, e_X11_ahead_0_6, k_X11_ahead_0_6, e_X11_ahead_0_11, e_X11_ahead_0_20, k_X11_ahead_0_20, e_X11_ahead_0_44, k_X11_ahead_0_44, k_nn40, c0, z_x_e, q_bd_l, z_ltT, z_ltF, z_eqT, z_eqF, z_ltlT, z_ltlF, z_lltT, z_lltF, z_eqlT, z_eqlF, z_in, z_k7, z_cl, z_lneg, z_llT, z_llF, z_s1, z_nI_cl, z_nlt0, z_ne_m1, z_b0, z_b1, z_la, z_al, z_lm, z_ml, z_nm, nI_add, pk_mul, ↓reduceIte, not_true_eq_false, not_false_eq_true, true_or, or_true, false_or, or_false, true_and, and_true, and_false, false_and, Classical.not_not, Nat.add_zero, z_01, z_em, z_bit_p, Nat.not_le, Nat.not_lt, reduceCtorEq, if_true, if_false]
    · have c1 : 7 < w := by
        rcases z_no_hi (n := 7) h (by omega) with a | a
        · exact absurd a c0
        · exact a
      simp (disch := omega) only [e_X11_ahead_0_3, k_X11_ahead_0_3, e_X11_ahead_0_6, k_X11_ahead_0_6, e_X11_ahead_0_11, e_X11_ahead_0_20, k_X11_ahead_0_20, e_X11_ahead_0_44, k_X11_ahead_0_44, k_nn40, c0, c1, z_x_e, q_bd_l, z_ltT, z_ltF, z_eqT, z_eqF, z_ltlT, z_ltlF, z_lltT, z_lltF, z_eqlT, z_eqlF, z_in, z_k7, z_cl, z_lneg, z_llT, z_llF, z_s1, z_nI_cl, z_nlt0, z_ne_m1, z_b0, z_b1, z_la, z_al, z_lm, z_ml, z_nm, nI_add, pk_mul, ↓reduceIte, not_true_eq_false, not_false_eq_true, true_or, or_true, false_or, or_false, true_and, and_true, and_false, false_and, Classical.not_not, Nat.add_zero, z_01, z_em, z_bit_p, Nat.not_le, Nat.not_lt, reduceCtorEq, if_true, if_false]
theorem k_Xahead1 (X : Sx) (d : Nat) (I : Ii) (T : Tt) (r : Nat → Int32) (n m j q w : Nat) (h : k_H27 I r n m) (hj : j < n) (hq : q ≤ 40) (hw : w ≤ 7) : ∃ J, c_X11_ahead_0 X (d + 12) (nI j) (nI q) (nI w) I T = z_r (if w = 0 then R_ahs n q r (12 + 13 * j + 3) else if w = 1 then R_ahs n q r (12 + 13 * j + 2) else R_adv (R_ahs n q r) j (w - 2)) J T ∧ z_fr m_cs I J := by
  have hn := h.1.2.1
  obtain ⟨J, j1, j2, j3⟩ := k_lookAhead X (d + 4) I T r n m q (by omega) h
  have d3 : J 35 j = R_ahs n q r (12 + 13 * j + 3) := j3.2.2.1.2.2.2.2.2.2.1 j hj
  have d2 : J 34 j = R_ahs n q r (12 + 13 * j + 2) := j3.2.2.1.2.2.2.2.2.1 j hj
  rw [e_X11_ahead_0, k_needJar1 X _ I T n j (k_n3 h) hn hj]
  by_cases w0 : w = 0
  · subst w0
    refine ⟨J, ?_, z_cs_m32 j2⟩
    simp (disch := omega) only [e_X11_ahead_0_3, k_X11_ahead_0_3, e_X11_ahead_0_6, k_X11_ahead_0_6, e_X11_ahead_0_11, e_X11_ahead_0_20, k_X11_ahead_0_20, e_X11_ahead_0_44, k_X11_ahead_0_44, k_nn40, j1, d3, q_bd_l, z_ltT, z_ltF, z_eqT, z_eqF, z_ltlT, z_ltlF, z_lltT, z_lltF, z_eqlT, z_eqlF, z_in, z_k7, z_cl, z_lneg, z_llT, z_llF, z_s1, z_nI_cl, z_nlt0, z_ne_m1, z_b0, z_b1, z_la, z_al, z_lm, z_ml, z_nm, nI_add, pk_mul, ↓reduceIte, not_true_eq_false, not_false_eq_true, true_or, or_true, false_or, or_false, true_and, and_true, and_false, false_and, Classical.not_not, Nat.add_zero, z_01, z_em, z_bit_p, Nat.not_le, Nat.not_lt, reduceCtorEq, if_true, if_false]
  · by_cases w1 : w = 1
    · subst w1
      refine ⟨J, ?_, z_cs_m32 j2⟩
      simp (disch := omega) only [e_X11_ahead_0_3, k_X11_ahead_0_3, e_X11_ahead_0_6, k_X11_ahead_0_6, e_X11_ahead_0_11, e_X11_ahead_0_20, k_X11_ahead_0_20, e_X11_ahead_0_44, k_X11_ahead_0_44, k_nn40, j1, d2, q_bd_l, z_ltT, z_ltF, z_eqT, z_eqF, z_ltlT, z_ltlF, z_lltT, z_lltF, z_eqlT, z_eqlF, z_in, z_k7, z_cl, z_lneg, z_llT, z_llF, z_s1, z_nI_cl, z_nlt0, z_ne_m1, z_b0, z_b1, z_la, z_al, z_lm, z_ml, z_nm, nI_add, pk_mul, ↓reduceIte, not_true_eq_false, not_false_eq_true, true_or, or_true, false_or, or_false, true_and, and_true, and_false, false_and, Classical.not_not, Nat.add_zero, z_01, z_em, z_bit_p, Nat.not_le, Nat.not_lt, reduceCtorEq, if_true, if_false]
    · obtain ⟨K, k1, k2, -⟩ := k_advThen X (d + 6) J T (R_ahs n q r) n m j (w - 2) j3 hj (by omega)
      have e2 : nI w - (2 : Int32) = nI (w - 2) := pk_sub (a := w) (b := 2) (by omega)
      refine ⟨K, ?_, z_fr_t (z_cs_m32 j2) (z_cs_m32 k2)⟩
      rw [if_neg w0, if_neg w1]
      simp (disch := omega) only [e_X11_ahead_0_3, k_X11_ahead_0_3, e_X11_ahead_0_6, k_X11_ahead_0_6, e_X11_ahead_0_11, e_X11_ahead_0_20, k_X11_ahead_0_20, e_X11_ahead_0_44, k_X11_ahead_0_44, k_nn40, j1, e2, k1, q_bd_l, z_ltT, z_ltF, z_eqT, z_eqF, z_ltlT, z_ltlF, z_lltT, z_lltF, z_eqlT, z_eqlF, z_in, z_k7, z_cl, z_lneg, z_llT, z_llF, z_s1, z_nI_cl, z_nlt0, z_ne_m1, z_b0, z_b1, z_la, z_al, z_lm, z_ml, z_nm, nI_add, pk_mul, ↓reduceIte, not_true_eq_false, not_false_eq_true, true_or, or_true, false_or, or_false, true_and, and_true, and_false, false_and, Classical.not_not, Nat.add_zero, z_01, z_em, z_bit_p, Nat.not_le, Nat.not_lt, reduceCtorEq, if_true, if_false]
theorem k_Xlog1 (X : Sx) (d : Nat) (I : Ii) (T : Tt) (r : Nat → Int32) (g L i w : Nat) (h : z_Lg I 27 61 r g) (h9 : I 27 9 = nI L) (hL : r 10 = nI L) (h60 : L ≤ 60) (hi : i < L) (hw : w ≤ 4) : c_X11_log_0 X (d + 12) (nI i) (nI w) I T = z_r (r (184 + 5 * i + w)) I T := by
  rw [e_X11_log_0, k_hasRow X (d + 10) I T L (nI i) h9 h60]
  have e : z_b (¬ nI i < 0 ∧ nI i < nI L) = 1 := by
    unfold z_b; exact if_pos ⟨nI_pos (by omega), nI_lt hi (by omega)⟩
  rw [e]
  simp (disch := omega) only [e_X11_log_0_5, e_X11_log_0_16, k_X11_log_0_16, e_X11_log_0_24, k_X11_log_0_24, k_cell X _ I T r g L i w h hL h60 hi (by omega), q_bd_l, z_ltT, z_ltF, z_eqT, z_eqF, z_ltlT, z_ltlF, z_lltT, z_lltF, z_eqlT, z_eqlF, z_in, z_k7, z_cl, z_lneg, z_llT, z_llF, z_s1, z_nI_cl, z_nlt0, z_ne_m1, z_b0, z_b1, z_la, z_al, z_lm, z_ml, z_nm, nI_add, pk_mul, ↓reduceIte, not_true_eq_false, not_false_eq_true, true_or, or_true, false_or, or_false, true_and, and_true, and_false, false_and, Classical.not_not, Nat.add_zero, z_01, z_em, z_bit_p, Nat.not_le, Nat.not_lt, reduceCtorEq, if_true, if_false]
theorem k_Xlog9 (X : Sx) (d : Nat) (I : Ii) (T : Tt) (L w : Nat) (v : Int32) (h9 : I 27 9 = nI L) (h60 : L ≤ 60) (hv : z_no v L) (hw : w ≤ 4) : c_X11_log_0 X (d + 12) v (nI w) I T = z_r (-99) I T := by
  rw [e_X11_log_0, k_hasRow X (d + 10) I T L v h9 h60]
  have e : z_b (¬ v < 0 ∧ v < nI L) = 0 := by
    unfold z_b; exact if_neg (fun a => z_no_lt hv a.1 a.2)
  rw [e]
  simp (disch := omega) only [e_X11_log_0_5, e_X11_log_0_16, k_X11_log_0_16, e_X11_log_0_24, k_X11_log_0_24, q_bd_l, z_ltT, z_ltF, z_eqT, z_eqF, z_ltlT, z_ltlF, z_lltT, z_lltF, z_eqlT, z_eqlF, z_in, z_k7, z_cl, z_lneg, z_llT, z_llF, z_s1, z_nI_cl, z_nlt0, z_ne_m1, z_b0, z_b1, z_la, z_al, z_lm, z_ml, z_nm, nI_add, pk_mul, ↓reduceIte, not_true_eq_false, not_false_eq_true, true_or, or_true, false_or, or_false, true_and, and_true, and_false, false_and, Classical.not_not, Nat.add_zero, z_01, z_em, z_bit_p, Nat.not_le, Nat.not_lt, reduceCtorEq, if_true, if_false]
theorem k_Xlog0 (X : Sx) (d : Nat) (I : Ii) (T : Tt) (v u : Int32) (hu : z_no u 5) : c_X11_log_0 X (d + 12) v u I T = z_x 3 I T := by
  rw [e_X11_log_0]
  by_cases c0 : u < 0
  · simp (disch := omega) only [e_X11_log_0_5, c0, z_x_e, q_bd_l, z_ltT, z_ltF, z_eqT, z_eqF, z_ltlT, z_ltlF, z_lltT, z_lltF, z_eqlT, z_eqlF, z_in, z_k7, z_cl, z_lneg, z_llT, z_llF, z_s1, z_nI_cl, z_nlt0, z_ne_m1, z_b0, z_b1, z_la, z_al, z_lm, z_ml, z_nm, nI_add, pk_mul, ↓reduceIte, not_true_eq_false, not_false_eq_true, true_or, or_true, false_or, or_false, true_and, and_true, and_false, false_and, Classical.not_not, Nat.add_zero, z_01, z_em, z_bit_p, Nat.not_le, Nat.not_lt, reduceCtorEq, if_true, if_false]
  · have c1 : ¬ u < 5 := z_no_lt hu c0
    simp (disch := omega) only [e_X11_log_0_5, c0, c1, z_x_e, q_bd_l, z_ltT, z_ltF, z_eqT, z_eqF, z_ltlT, z_ltlF, z_lltT, z_lltF, z_eqlT, z_eqlF, z_in, z_k7, z_cl, z_lneg, z_llT, z_llF, z_s1, z_nI_cl, z_nlt0, z_ne_m1, z_b0, z_b1, z_la, z_al, z_lm, z_ml, z_nm, nI_add, pk_mul, ↓reduceIte, not_true_eq_false, not_false_eq_true, true_or, or_true, false_or, or_false, true_and, and_true, and_false, false_and, Classical.not_not, Nat.add_zero, z_01, z_em, z_bit_p, Nat.not_le, Nat.not_lt, reduceCtorEq, if_true, if_false]
theorem k_Xnext1 (X : Sx) (d : Nat) (I : Ii) (T : Tt) (r : Nat → Int32) (n m : Nat) {B : Nat → Nat} {N : Nat} (h : k_H27 I r n m) (hT : z_Ta I B N) (hg : R_good B N = true) : ∃ J, c_X11_next_0 X (d + 12) I T = z_r (R_nxt r n (R_ts r B N n 0) 11) J T ∧ z_fr (fun a k => m_cs a k || (a == 1 && k == 1)) I J ∧ J 1 1 = 0 := by
  have hn := h.1.2.1
  obtain ⟨J, j1, j2⟩ := k_thatTaste X (d + 3) I T r n m 0 h hT hg
  obtain ⟨x, hx, ex, -⟩ := z_set_n (fun j => decide (¬ (0 : Int32) < R_nt r B N j)) n (by omega)
  have e : R_ts r B N n 0 = nI x := by unfold R_ts; rw [if_pos hg]; exact ex
  have h2n := z_2n hn
  have hH : k_H27 (q_w J 1 1 0) r n m := by
    have hJ := k_H27_cs h j2
    exact ⟨hJ.1, z_Sh_fr hJ.2.1 (fun a h1 h2 => z_w_a _ _ _ _ _ (by omega)), z_Mo_fr hJ.2.2.1 (fun a h1 h2 => z_w_a _ _ _ _ _ (by omega)), z_La_fr hJ.2.2.2 (by rw [z_w_a _ _ _ _ _ (by decide)]) (fun a h1 h2 => z_w_a _ _ _ _ _ (by omega))⟩
  obtain ⟨K, k1, k2⟩ := k_nextTaste X (d + 3) (q_w J 1 1 0) T r n m x (by omega) hH
  rw [← e] at k1
  refine ⟨K, ?_, ?_, (k2 1 1 rfl).trans (z_w_s _ _ _ _)⟩
  · rw [e_X11_next_0, k_holdsTastes X _ I T hT]
    unfold z_b
    simp (disch := omega) only [e_X11_next_0_3, k_X11_next_0_3, e_X11_next_0_12, k_X11_next_0_12, e_X11_next_0_14, e_X11_next_0_30, k_X11_next_0_30, hg, j1, k1, q_bd_l, z_ltT, z_ltF, z_eqT, z_eqF, z_ltlT, z_ltlF, z_lltT, z_lltF, z_eqlT, z_eqlF, z_in, z_k7, z_cl, z_lneg, z_llT, z_llF, z_s1, z_nI_cl, z_nlt0, z_ne_m1, z_b0, z_b1, z_la, z_al, z_lm, z_ml, z_nm, nI_add, pk_mul, ↓reduceIte, not_true_eq_false, not_false_eq_true, true_or, or_true, false_or, or_false, true_and, and_true, and_false, false_and, Classical.not_not, Nat.add_zero, z_01, z_em, z_bit_p, Nat.not_le, Nat.not_lt, reduceCtorEq, if_true, if_false]
  · have m1 : ∀ {A C : Ii}, z_fr m_cs A C → z_fr (fun a k => m_cs a k || (a == 1 && k == 1)) A C := fun hh => z_fr_m hh (fun a k e => by simp [e])
    exact z_fr_t (z_fr_w (m1 j2) 1 1 _ rfl) (m1 k2)
theorem k_Xnext0 (X : Sx) (d : Nat) (I : Ii) (T : Tt) {B : Nat → Nat} {N : Nat} (hT : z_Ta I B N) (hg : ¬ R_good B N = true) : c_X11_next_0 X (d + 12) I T = z_x 0 (q_w I 1 1 0) T := by
  rw [e_X11_next_0, k_holdsTastes X _ I T hT]
  unfold z_b
  simp (disch := omega) only [e_X11_next_0_3, k_X11_next_0_3, e_X11_next_0_12, k_X11_next_0_12, e_X11_next_0_14, e_X11_next_0_30, k_X11_next_0_30, hg, z_x_e, q_bd_l, z_ltT, z_ltF, z_eqT, z_eqF, z_ltlT, z_ltlF, z_lltT, z_lltF, z_eqlT, z_eqlF, z_in, z_k7, z_cl, z_lneg, z_llT, z_llF, z_s1, z_nI_cl, z_nlt0, z_ne_m1, z_b0, z_b1, z_la, z_al, z_lm, z_ml, z_nm, nI_add, pk_mul, ↓reduceIte, not_true_eq_false, not_false_eq_true, true_or, or_true, false_or, or_false, true_and, and_true, and_false, false_and, Classical.not_not, Nat.add_zero, z_01, z_em, z_bit_p, Nat.not_le, Nat.not_lt, reduceCtorEq, if_true, if_false]
theorem k_Xwrong (X : Sx) (d : Nat) (I : Ii) (T : Tt) (r : Nat → Int32) (n m : Nat) (v : Int32) (nl : Bool) (hv : (v = 0) = (nl = false)) (h : k_H27 I r n m) : c_X11_wrong_0 X (d + 12) v I T = z_r (R_wr r n nl) I T := by
  have hn := h.1.2.1
  have n3 := k_n3 h
  rw [e_X11_wrong_0]
  obtain ⟨⟨o4, o5⟩, -, p⟩ := z_foldP (β := Int32) (σ := Option Value × Option Value) (fun k a o => c_X11_wrong_0_4 X (d + 11) v a (nI k) o.1 o.2 I T) (fun j a => a ||| (if (if r (12 + 13 * j + 5) = -1 then nl else (!nl && decide (r (12 + 13 * j + 5) ≠ nI j))) = true then (1 : Int32) <<< (nI j &&& 31) else 0)) (fun _ _ _ => True) n (by
    intro k a o hk _
    have c : I 31 k = r (12 + 13 * k + 5) := h.2.2.1.2.2.2.2.2.2.2.1 k hk
    refine ⟨(some (.int (r (12 + 13 * k + 5))), some (.int (z_i (if r (12 + 13 * k + 5) = -1 then nl else (!nl && decide (r (12 + 13 * k + 5) ≠ nI k)))))), trivial, ?_⟩
    dsimp only
    rw [e_X11_wrong_0_4]
    generalize r (12 + 13 * k + 5) = x at *
    by_cases c1 : x = -1
    · cases nl with
      | false =>
        have hv' : (v = 0) = True := by rw [hv]; simp
        simp (disch := omega) only [e_X11_wrong_0_32, e_X11_wrong_0_33, e_X11_wrong_0_42, n3, c, c1, hv', z_i, q_bd_l, z_ltT, z_ltF, z_eqT, z_eqF, z_ltlT, z_ltlF, z_lltT, z_lltF, z_eqlT, z_eqlF, z_in, z_k7, z_cl, z_lneg, z_llT, z_llF, z_s1, z_nI_cl, z_nlt0, z_ne_m1, z_b0, z_b1, z_la, z_al, z_lm, z_ml, z_nm, nI_add, pk_mul, ↓reduceIte, not_true_eq_false, not_false_eq_true, true_or, or_true, false_or, or_false, true_and, and_true, and_false, false_and, Classical.not_not, Nat.add_zero, z_01, z_em, z_bit_p, Nat.not_le, Nat.not_lt, reduceCtorEq, if_true, if_false, decide_true, decide_false, Bool.and_true, Bool.and_false, Bool.true_and, Bool.false_and, Bool.or_true, Bool.or_false, Bool.true_or, Bool.false_or, Bool.false_eq_true, ne_eq, Bool.not_true, Bool.not_false, decide_not]
      | true =>
        have hv' : (v = 0) = False := by rw [hv]; simp
        simp (disch := omega) only [e_X11_wrong_0_32, e_X11_wrong_0_33, e_X11_wrong_0_42, n3, c, c1, hv', z_i, q_bd_l, z_ltT, z_ltF, z_eqT, z_eqF, z_ltlT, z_ltlF, z_lltT, z_lltF, z_eqlT, z_eqlF, z_in, z_k7, z_cl, z_lneg, z_llT, z_llF, z_s1, z_nI_cl, z_nlt0, z_ne_m1, z_b0, z_b1, z_la, z_al, z_lm, z_ml, z_nm, nI_add, pk_mul, ↓reduceIte, not_true_eq_false, not_false_eq_true, true_or, or_true, false_or, or_false, true_and, and_true, and_false, false_and, Classical.not_not, Nat.add_zero, z_01, z_em, z_bit_p, Nat.not_le, Nat.not_lt, reduceCtorEq, if_true, if_false, decide_true, decide_false, Bool.and_true, Bool.and_false, Bool.true_and, Bool.false_and, Bool.or_true, Bool.or_false, Bool.true_or, Bool.false_or, Bool.false_eq_true, ne_eq, Bool.not_true, Bool.not_false, decide_not]
    · by_cases c2 : x = nI k
      · cases nl with
        | false =>
          have hv' : (v = 0) = True := by rw [hv]; simp
          simp (disch := omega) only [e_X11_wrong_0_32, e_X11_wrong_0_33, e_X11_wrong_0_42, n3, c, c1, c2, hv', z_i, q_bd_l, z_ltT, z_ltF, z_eqT, z_eqF, z_ltlT, z_ltlF, z_lltT, z_lltF, z_eqlT, z_eqlF, z_in, z_k7, z_cl, z_lneg, z_llT, z_llF, z_s1, z_nI_cl, z_nlt0, z_ne_m1, z_b0, z_b1, z_la, z_al, z_lm, z_ml, z_nm, nI_add, pk_mul, ↓reduceIte, not_true_eq_false, not_false_eq_true, true_or, or_true, false_or, or_false, true_and, and_true, and_false, false_and, Classical.not_not, Nat.add_zero, z_01, z_em, z_bit_p, Nat.not_le, Nat.not_lt, reduceCtorEq, if_true, if_false, decide_true, decide_false, Bool.and_true, Bool.and_false, Bool.true_and, Bool.false_and, Bool.or_true, Bool.or_false, Bool.true_or, Bool.false_or, Bool.false_eq_true, ne_eq, Bool.not_true, Bool.not_false, decide_not]
        | true =>
          have hv' : (v = 0) = False := by rw [hv]; simp
          simp (disch := omega) only [e_X11_wrong_0_32, e_X11_wrong_0_33, e_X11_wrong_0_42, n3, c, c1, c2, hv', z_i, q_bd_l, z_ltT, z_ltF, z_eqT, z_eqF, z_ltlT, z_ltlF, z_lltT, z_lltF, z_eqlT, z_eqlF, z_in, z_k7, z_cl, z_lneg, z_llT, z_llF, z_s1, z_nI_cl, z_nlt0, z_ne_m1, z_b0, z_b1, z_la, z_al, z_lm, z_ml, z_nm, nI_add, pk_mul, ↓reduceIte, not_true_eq_false, not_false_eq_true, true_or, or_true, false_or, or_false, true_and, and_true, and_false, false_and, Classical.not_not, Nat.add_zero, z_01, z_em, z_bit_p, Nat.not_le, Nat.not_lt, reduceCtorEq, if_true, if_false, decide_true, decide_false, Bool.and_true, Bool.and_false, Bool.true_and, Bool.false_and, Bool.or_true, Bool.or_false, Bool.true_or, Bool.false_or, Bool.false_eq_true, ne_eq, Bool.not_true, Bool.not_false, decide_not]
      · cases nl with
        | false =>
          have hv' : (v = 0) = True := by rw [hv]; simp
          simp (disch := omega) only [e_X11_wrong_0_32, e_X11_wrong_0_33, e_X11_wrong_0_42, n3, c, c1, c2, hv', z_i, q_bd_l, z_ltT, z_ltF, z_eqT, z_eqF, z_ltlT, z_ltlF, z_lltT, z_lltF, z_eqlT, z_eqlF, z_in, z_k7, z_cl, z_lneg, z_llT, z_llF, z_s1, z_nI_cl, z_nlt0, z_ne_m1, z_b0, z_b1, z_la, z_al, z_lm, z_ml, z_nm, nI_add, pk_mul, ↓reduceIte, not_true_eq_false, not_false_eq_true, true_or, or_true, false_or, or_false, true_and, and_true, and_false, false_and, Classical.not_not, Nat.add_zero, z_01, z_em, z_bit_p, Nat.not_le, Nat.not_lt, reduceCtorEq, if_true, if_false, decide_true, decide_false, Bool.and_true, Bool.and_false, Bool.true_and, Bool.false_and, Bool.or_true, Bool.or_false, Bool.true_or, Bool.false_or, Bool.false_eq_true, ne_eq, Bool.not_true, Bool.not_false, decide_not]
        | true =>
          have hv' : (v = 0) = False := by rw [hv]; simp
          simp (disch := omega) only [e_X11_wrong_0_32, e_X11_wrong_0_33, e_X11_wrong_0_42, n3, c, c1, c2, hv', z_i, q_bd_l, z_ltT, z_ltF, z_eqT, z_eqF, z_ltlT, z_ltlF, z_lltT, z_lltF, z_eqlT, z_eqlF, z_in, z_k7, z_cl, z_lneg, z_llT, z_llF, z_s1, z_nI_cl, z_nlt0, z_ne_m1, z_b0, z_b1, z_la, z_al, z_lm, z_ml, z_nm, nI_add, pk_mul, ↓reduceIte, not_true_eq_false, not_false_eq_true, true_or, or_true, false_or, or_false, true_and, and_true, and_false, false_and, Classical.not_not, Nat.add_zero, z_01, z_em, z_bit_p, Nat.not_le, Nat.not_lt, reduceCtorEq, if_true, if_false, decide_true, decide_false, Bool.and_true, Bool.and_false, Bool.true_and, Bool.false_and, Bool.or_true, Bool.or_false, Bool.true_or, Bool.false_or, Bool.false_eq_true, ne_eq, Bool.not_true, Bool.not_false, decide_not]) 0 (none, none) trivial
  refine p.trans ?_
  dsimp only
  rw [e_X11_wrong_0_4]
  simp (disch := omega) only [n3, q_bd_l, z_ltT, z_ltF, z_eqT, z_eqF, z_ltlT, z_ltlF, z_lltT, z_lltF, z_eqlT, z_eqlF, z_in, z_k7, z_cl, z_lneg, z_llT, z_llF, z_s1, z_nI_cl, z_nlt0, z_ne_m1, z_b0, z_b1, z_la, z_al, z_lm, z_ml, z_nm, nI_add, pk_mul, ↓reduceIte, not_true_eq_false, not_false_eq_true, true_or, or_true, false_or, or_false, true_and, and_true, and_false, false_and, Classical.not_not, Nat.add_zero, z_01, z_em, z_bit_p, Nat.not_le, Nat.not_lt, reduceCtorEq, if_true, if_false]
  rfl
theorem k_open_set {I : Ii} {r : Nat → Int32} {n : Nat} (h : z_Mo I 27 r n) (hn : n ≤ 10) : I 27 4 = z_set (fun j => decide (r (12 + 13 * j + 6) = 1)) n := by
  obtain ⟨o, ho, e4, hb⟩ := h.2.2.2.2.2.2.2.2
  obtain ⟨x, hx, ex, hxb⟩ := z_set_n (fun j => decide (r (12 + 13 * j + 6) = 1)) n (by omega)
  rw [e4, ex]
  congr 1
  apply Nat.eq_of_testBit_eq
  intro i
  by_cases hi : i < n
  · rw [hxb i hi, hb i hi]
    cases hq : o.testBit i <;> simp [z_b]
  · have hp : 2 ^ n ≤ 2 ^ i := Nat.pow_le_pow_right (by decide) (by omega)
    rw [Nat.testBit_lt_two_pow (by omega), Nat.testBit_lt_two_pow (by omega)]
theorem k_Xcount (X : Sx) (d : Nat) (I : Ii) (T : Tt) (r : Nat → Int32) (n m : Nat) (v : Int32) (h : k_H27 I r n m) : c_X11_count_0 X (d + 12) v I T = z_r (R_count r n (I 64 2) v) I T := by
  have hn := h.1.2.1
  have n3 := k_n3 h
  obtain ⟨s1, s2, s3, s4, s5, s6, -⟩ := h.2.1
  obtain ⟨b1, b2, b3, b4, -⟩ := h.2.2.1
  have l0 : I 42 0 = r 1 := h.2.2.2.2.1
  rw [e_X11_count_0]
  have a8 := k_spoons27 X (d + 10) I T r n m h
  have a9 := k_everyJar X (d + 10) I T n n3 hn
  have a9' := k_sealsOf X (d + 10) I T r n m (nI (2 ^ n - 1)) h
  have a11 := k_open_set h.2.2.1 hn
  rcases z_yn v 14 (by omega) with ⟨k, hk, rfl⟩ | hv
  · have hk2 : k = 0 ∨ k = 1 ∨ k = 2 ∨ k = 3 ∨ k = 4 ∨ k = 5 ∨ k = 6 ∨ k = 7 ∨ k = 8 ∨ k = 9 ∨ k = 10 ∨ k = 11 ∨ k = 12 ∨ k = 13 := by omega
    rcases hk2 with rfl | rfl | rfl | rfl | rfl | rfl | rfl | rfl | rfl | rfl | rfl | rfl | rfl | rfl
    · exact (e_X11_count_0_1_0 X (d + 11) (nI 0) I T).trans (by rw [s1]; rfl)
    · exact (e_X11_count_0_1_1 X (d + 11) (nI 1) I T).trans (by rw [s2]; rfl)
    · exact (e_X11_count_0_1_2 X (d + 11) (nI 2) I T).trans (by rw [s6]; rfl)
    · exact (e_X11_count_0_1_3 X (d + 11) (nI 3) I T).trans (by rw [l0]; rfl)
    · exact (e_X11_count_0_1_4 X (d + 11) (nI 4) I T).trans (by rw [b1]; rfl)
    · exact (e_X11_count_0_1_5 X (d + 11) (nI 5) I T).trans (by rw [s3]; rfl)
    · exact (e_X11_count_0_1_6 X (d + 11) (nI 6) I T).trans (by rw [s4]; rfl)
    · exact (e_X11_count_0_1_7 X (d + 11) (nI 7) I T).trans (by rw [s5]; rfl)
    · refine (e_X11_count_0_1_8 X (d + 11) (nI 8) I T).trans ?_
      rw [n3, a8]
      simp (disch := omega) only [e_X11_count_0_40, k_X11_count_0_40, q_bd_l, z_ltT, z_ltF, z_eqT, z_eqF, z_ltlT, z_ltlF, z_lltT, z_lltF, z_eqlT, z_eqlF, z_in, z_k7, z_cl, z_lneg, z_llT, z_llF, z_s1, z_nI_cl, z_nlt0, z_ne_m1, z_b0, z_b1, z_la, z_al, z_lm, z_ml, z_nm, nI_add, pk_mul, ↓reduceIte, not_true_eq_false, not_false_eq_true, true_or, or_true, false_or, or_false, true_and, and_true, and_false, false_and, Classical.not_not, Nat.add_zero, z_01, z_em, z_bit_p, Nat.not_le, Nat.not_lt, reduceCtorEq, if_true, if_false]
      rfl
    · refine (e_X11_count_0_1_9 X (d + 11) (nI 9) I T).trans ?_
      rw [a9]
      simp (disch := omega) only [e_X11_count_0_46, k_X11_count_0_46, e_X11_count_0_47, k_X11_count_0_47, a9', q_bd_l, z_ltT, z_ltF, z_eqT, z_eqF, z_ltlT, z_ltlF, z_lltT, z_lltF, z_eqlT, z_eqlF, z_in, z_k7, z_cl, z_lneg, z_llT, z_llF, z_s1, z_nI_cl, z_nlt0, z_ne_m1, z_b0, z_b1, z_la, z_al, z_lm, z_ml, z_nm, nI_add, pk_mul, ↓reduceIte, not_true_eq_false, not_false_eq_true, true_or, or_true, false_or, or_false, true_and, and_true, and_false, false_and, Classical.not_not, Nat.add_zero, z_01, z_em, z_bit_p, Nat.not_le, Nat.not_lt, reduceCtorEq, if_true, if_false]
      rfl
    · exact (e_X11_count_0_1_10 X (d + 11) (nI 10) I T).trans (by rw [b2]; rfl)
    · exact (e_X11_count_0_1_11 X (d + 11) (nI 11) I T).trans (by rw [a11]; rfl)
    · exact (e_X11_count_0_1_12 X (d + 11) (nI 12) I T).trans (by rw [b4]; rfl)
    · exact (e_X11_count_0_1_13 X (d + 11) (nI 13) I T).trans rfl
  · rw [e_X11_count_0_1_d X (d + 11) v v I T (z_no_out hv (by omega))]
    unfold R_count
    have e : ∀ k, k < 14 → ¬ v = nI k := fun k hk a => by
      have := z_no_ne hv (by omega) k hk
      rw [this] at a
      exact a
    rw [if_neg (show ¬ v = (0 : Int32) from e 0 (by omega)), if_neg (show ¬ v = (1 : Int32) from e 1 (by omega)), if_neg (show ¬ v = (2 : Int32) from e 2 (by omega)), if_neg (show ¬ v = (3 : Int32) from e 3 (by omega)), if_neg (show ¬ v = (4 : Int32) from e 4 (by omega)), if_neg (show ¬ v = (5 : Int32) from e 5 (by omega)), if_neg (show ¬ v = (6 : Int32) from e 6 (by omega)), if_neg (show ¬ v = (7 : Int32) from e 7 (by omega)), if_neg (show ¬ v = (8 : Int32) from e 8 (by omega)), if_neg (show ¬ v = (9 : Int32) from e 9 (by omega)), if_neg (show ¬ v = (10 : Int32) from e 10 (by omega)), if_neg (show ¬ v = (11 : Int32) from e 11 (by omega)), if_neg (show ¬ v = (12 : Int32) from e 12 (by omega)), if_neg (show ¬ v = (13 : Int32) from e 13 (by omega))]
