/-! ===== THE CLASS: more questions ===== -/
theorem z_no_hi {v : Int32} {n : Nat} (h : z_no v (n + 1)) (hn : n < 1000) : v < 0 ∨ nI n < v := by
  rcases h with h | h
  · exact .inl h
  · refine .inr ?_
    rw [Int32.lt_iff_toInt_lt]
    rw [Int32.le_iff_toInt_le] at h
    have t1 := nI_toInt (n := n) (by omega)
    have t2 := nI_toInt (n := n + 1) (by omega)
    omega
theorem k_nn9 (X : Sx) (d : Nat) (I : Ii) (T : Tt) (t : Nat) (ht : t ≤ 9) : c_X11_needNumber X (d + 1) (nI t) 9 I T = z_v I T := k_needNumber1 X d I T t 9 (by omega) ht
theorem k_nn10 (X : Sx) (d : Nat) (I : Ii) (T : Tt) (t : Nat) (ht : t ≤ 10) : c_X11_needNumber X (d + 1) (nI t) 10 I T = z_v I T := k_needNumber1 X d I T t 10 (by omega) ht
theorem k_nn30 (X : Sx) (d : Nat) (I : Ii) (T : Tt) (t : Nat) (ht : t ≤ 30) : c_X11_needNumber X (d + 1) (nI t) 30 I T = z_v I T := k_needNumber1 X d I T t 30 (by omega) ht
theorem k_nn40 (X : Sx) (d : Nat) (I : Ii) (T : Tt) (t : Nat) (ht : t ≤ 40) : c_X11_needNumber X (d + 1) (nI t) 40 I T = z_v I T := k_needNumber1 X d I T t 40 (by omega) ht
theorem k_Xbest0 (X : Sx) (d : Nat) (I : Ii) (T : Tt) (v u : Int32) (h : z_no v 6) : c_X11_best_0 X (d + 12) v u I T = z_x 2 I T := by
  rw [e_X11_best_0, k_needMatter0 X _ v I T h, z_x_bd]
theorem k_Xbest2 (X : Sx) (d : Nat) (I : Ii) (T : Tt) (t : Nat) (ht : t < 6) (u : Int32) (h : z_no u 10) : c_X11_best_0 X (d + 12) (nI t) u I T = z_x 0 I T := by
  rw [e_X11_best_0, k_needMatter1 X _ I T t ht]
  simp (disch := omega) only [e_X11_best_0_2, k_X11_best_0_2, e_X11_best_0_5, k_X11_best_0_5, e_X11_best_0_10, k_X11_best_0_10, k_needNumber0 X _ u 9 I T (z_no_hi (n := 9) h (by omega)), z_x_bd, q_bd_l, z_ltT, z_ltF, z_eqT, z_eqF, z_ltlT, z_ltlF, z_lltT, z_lltF, z_eqlT, z_eqlF, z_in, z_k7, z_cl, z_lneg, z_llT, z_llF, z_s1, z_nI_cl, z_nlt0, z_ne_m1, z_b0, z_b1, z_la, z_al, z_lm, z_ml, z_nm, nI_add, pk_mul, ↓reduceIte, not_true_eq_false, not_false_eq_true, true_or, or_true, false_or, or_false, true_and, and_true, and_false, false_and, Classical.not_not, Nat.add_zero, z_01, z_em, z_bit_p, Nat.not_le, Nat.not_lt, reduceCtorEq, if_true, if_false]
theorem k_Xcover1 (X : Sx) (d : Nat) (I : Ii) (T : Tt) (r : Nat → Int32) (n m q : Nat) (h : k_H27 I r n m) (hq : q ≤ 9) : ∃ J, c_X11_cover_0 X (d + 12) (nI q) I T = z_r (R_cov r n (nI q)) J T ∧ z_fr m_cs I J := by
  obtain ⟨J, j1, j2⟩ := k_cover X (d + 3) I T r n m q hq h
  refine ⟨J, ?_, j2⟩
  rw [e_X11_cover_0, k_nn9 X _ I T q hq]
  simp (disch := omega) only [e_X11_cover_0_3, k_X11_cover_0_3, e_X11_cover_0_7, k_X11_cover_0_7, j1, q_bd_l, z_ltT, z_ltF, z_eqT, z_eqF, z_ltlT, z_ltlF, z_lltT, z_lltF, z_eqlT, z_eqlF, z_in, z_k7, z_cl, z_lneg, z_llT, z_llF, z_s1, z_nI_cl, z_nlt0, z_ne_m1, z_b0, z_b1, z_la, z_al, z_lm, z_ml, z_nm, nI_add, pk_mul, ↓reduceIte, not_true_eq_false, not_false_eq_true, true_or, or_true, false_or, or_false, true_and, and_true, and_false, false_and, Classical.not_not, Nat.add_zero, z_01, z_em, z_bit_p, Nat.not_le, Nat.not_lt, reduceCtorEq, if_true, if_false]
theorem k_Xcover0 (X : Sx) (d : Nat) (I : Ii) (T : Tt) (v : Int32) (h : z_no v 10) : c_X11_cover_0 X (d + 12) v I T = z_x 0 I T := by
  rw [e_X11_cover_0, k_needNumber0 X _ v 9 I T (z_no_hi (n := 9) h (by omega)), z_x_bd]
theorem k_Xspoils1 (X : Sx) (d : Nat) (I : Ii) (T : Tt) (r : Nat → Int32) (n m j t q : Nat) (h : k_H27 I r n m) (hj : j < n) (ht : t < 6) (hq : q ≤ 10) : ∃ J, c_X11_spoils_0 X (d + 12) (nI j) (nI t) (nI q) I T = z_r (z_f1 (fun i => decide (R_adv (R_ahs n i r) j t < nI q)) 41) J T ∧ z_fr m_cs I J := by
  obtain ⟨J, j1, j2⟩ := k_firstBelow X (d + 3) I T r n m j t (nI q) h hj ht
  refine ⟨J, ?_, z_cs_m32 j2⟩
  rw [e_X11_spoils_0, k_needJar1 X _ I T n j (k_n3 h) h.1.2.1 hj]
  simp (disch := omega) only [e_X11_spoils_0_3, k_X11_spoils_0_3, e_X11_spoils_0_5, k_X11_spoils_0_5, e_X11_spoils_0_8, k_X11_spoils_0_8, e_X11_spoils_0_14, k_X11_spoils_0_14, k_needMatter1, k_nn10, j1, q_bd_l, z_ltT, z_ltF, z_eqT, z_eqF, z_ltlT, z_ltlF, z_lltT, z_lltF, z_eqlT, z_eqlF, z_in, z_k7, z_cl, z_lneg, z_llT, z_llF, z_s1, z_nI_cl, z_nlt0, z_ne_m1, z_b0, z_b1, z_la, z_al, z_lm, z_ml, z_nm, nI_add, pk_mul, ↓reduceIte, not_true_eq_false, not_false_eq_true, true_or, or_true, false_or, or_false, true_and, and_true, and_false, false_and, Classical.not_not, Nat.add_zero, z_01, z_em, z_bit_p, Nat.not_le, Nat.not_lt, reduceCtorEq, if_true, if_false]
theorem k_Xspoils0 (X : Sx) (d : Nat) (I : Ii) (T : Tt) (n : Nat) (v u w c : Int32) (h3 : I 3 0 = nI n) (hn : n ≤ 10) (hc : c = 1 ∧ z_no v n ∨ c = 1 ∧ (∃ k, k < n ∧ v = nI k) ∧ z_no u 6 ∨ c = 2 ∧ (∃ k, k < n ∧ v = nI k) ∧ (∃ k, k < 6 ∧ u = nI k) ∧ z_no w 11) : c_X11_spoils_0 X (d + 12) v u w I T = z_x (if c = 1 then 2 else 0) I T := by
  rw [e_X11_spoils_0]
  rcases hc with ⟨e, h⟩ | ⟨e, ⟨j, hj, rfl⟩, h⟩ | ⟨e, ⟨j, hj, rfl⟩, ⟨t, ht, rfl⟩, h⟩
  · rw [k_needJar0 X _ v I T n h3 h, z_x_bd, if_pos e]
  · rw [k_needJar1 X _ I T n j h3 hn hj, if_pos e]
    simp (disch := omega) only [e_X11_spoils_0_3, k_X11_spoils_0_3, e_X11_spoils_0_5, k_X11_spoils_0_5, e_X11_spoils_0_8, k_X11_spoils_0_8, e_X11_spoils_0_14, k_X11_spoils_0_14, k_needMatter0 X _ u I T h, z_x_bd, q_bd_l, z_ltT, z_ltF, z_eqT, z_eqF, z_ltlT, z_ltlF, z_lltT, z_lltF, z_eqlT, z_eqlF, z_in, z_k7, z_cl, z_lneg, z_llT, z_llF, z_s1, z_nI_cl, z_nlt0, z_ne_m1, z_b0, z_b1, z_la, z_al, z_lm, z_ml, z_nm, nI_add, pk_mul, ↓reduceIte, not_true_eq_false, not_false_eq_true, true_or, or_true, false_or, or_false, true_and, and_true, and_false, false_and, Classical.not_not, Nat.add_zero, z_01, z_em, z_bit_p, Nat.not_le, Nat.not_lt, reduceCtorEq, if_true, if_false]
  · have e1 : ¬ c = 1 := by rw [e]; decide
    rw [k_needJar1 X _ I T n j h3 hn hj, if_neg e1]
    simp (disch := omega) only [e_X11_spoils_0_3, k_X11_spoils_0_3, e_X11_spoils_0_5, k_X11_spoils_0_5, e_X11_spoils_0_8, k_X11_spoils_0_8, e_X11_spoils_0_14, k_X11_spoils_0_14, k_needMatter1, k_needNumber0 X _ w 10 I T (z_no_hi (n := 10) h (by omega)), z_x_bd, q_bd_l, z_ltT, z_ltF, z_eqT, z_eqF, z_ltlT, z_ltlF, z_lltT, z_lltF, z_eqlT, z_eqlF, z_in, z_k7, z_cl, z_lneg, z_llT, z_llF, z_s1, z_nI_cl, z_nlt0, z_ne_m1, z_b0, z_b1, z_la, z_al, z_lm, z_ml, z_nm, nI_add, pk_mul, ↓reduceIte, not_true_eq_false, not_false_eq_true, true_or, or_true, false_or, or_false, true_and, and_true, and_false, false_and, Classical.not_not, Nat.add_zero, z_01, z_em, z_bit_p, Nat.not_le, Nat.not_lt, reduceCtorEq, if_true, if_false]
theorem k_Xripe1 (X : Sx) (d : Nat) (I : Ii) (T : Tt) (r : Nat → Int32) (n m j t : Nat) (w : Int32) (h : k_H27 I r n m) (hj : j < n) (ht : t < 6) : ∃ J, c_X11_ripe_0 X (d + 12) (nI j) (nI t) w I T = z_r (if w = 0 then (R_ripe r n j t).1 else (R_ripe r n j t).2) J T ∧ z_fr m_cs I J := by
  obtain ⟨J, j1, j2⟩ := k_ripest X (d + 3) I T r n m j t w h hj ht
  refine ⟨J, ?_, z_cs_m32 j2⟩
  rw [e_X11_ripe_0, k_needJar1 X _ I T n j (k_n3 h) h.1.2.1 hj]
  simp (disch := omega) only [e_X11_ripe_0_3, k_X11_ripe_0_3, e_X11_ripe_0_5, k_X11_ripe_0_5, e_X11_ripe_0_11, k_X11_ripe_0_11, k_needMatter1, j1, q_bd_l, z_ltT, z_ltF, z_eqT, z_eqF, z_ltlT, z_ltlF, z_lltT, z_lltF, z_eqlT, z_eqlF, z_in, z_k7, z_cl, z_lneg, z_llT, z_llF, z_s1, z_nI_cl, z_nlt0, z_ne_m1, z_b0, z_b1, z_la, z_al, z_lm, z_ml, z_nm, nI_add, pk_mul, ↓reduceIte, not_true_eq_false, not_false_eq_true, true_or, or_true, false_or, or_false, true_and, and_true, and_false, false_and, Classical.not_not, Nat.add_zero, z_01, z_em, z_bit_p, Nat.not_le, Nat.not_lt, reduceCtorEq, if_true, if_false]
theorem k_Xripe0 (X : Sx) (d : Nat) (I : Ii) (T : Tt) (n : Nat) (v u w : Int32) (h3 : I 3 0 = nI n) (hn : n ≤ 10) (hc : z_no v n ∨ (∃ k, k < n ∧ v = nI k) ∧ z_no u 6) : c_X11_ripe_0 X (d + 12) v u w I T = z_x 2 I T := by
  rw [e_X11_ripe_0]
  rcases hc with h | ⟨⟨j, hj, rfl⟩, h⟩
  · rw [k_needJar0 X _ v I T n h3 h, z_x_bd]
  · rw [k_needJar1 X _ I T n j h3 hn hj]
    simp (disch := omega) only [e_X11_ripe_0_3, k_X11_ripe_0_3, e_X11_ripe_0_5, k_X11_ripe_0_5, e_X11_ripe_0_11, k_X11_ripe_0_11, k_needMatter0 X _ u I T h, z_x_bd, q_bd_l, z_ltT, z_ltF, z_eqT, z_eqF, z_ltlT, z_ltlF, z_lltT, z_lltF, z_eqlT, z_eqlF, z_in, z_k7, z_cl, z_lneg, z_llT, z_llF, z_s1, z_nI_cl, z_nlt0, z_ne_m1, z_b0, z_b1, z_la, z_al, z_lm, z_ml, z_nm, nI_add, pk_mul, ↓reduceIte, not_true_eq_false, not_false_eq_true, true_or, or_true, false_or, or_false, true_and, and_true, and_false, false_and, Classical.not_not, Nat.add_zero, z_01, z_em, z_bit_p, Nat.not_le, Nat.not_lt, reduceCtorEq, if_true, if_false]
theorem k_Xgoes1 (X : Sx) (d : Nat) (I : Ii) (T : Tt) (r : Nat → Int32) (n m j : Nat) (h : k_H27 I r n m) (hj : j < n) : ∃ J, c_X11_goes_0 X (d + 12) (nI j) I T = z_r (R_goes r n j) J T ∧ z_fr m_cs I J := by
  obtain ⟨J, j1, j2⟩ := k_firstPopped X (d + 3) I T r n m j h hj
  refine ⟨J, ?_, z_cs_m32 j2⟩
  rw [e_X11_goes_0, k_needJar1 X _ I T n j (k_n3 h) h.1.2.1 hj]
  simp (disch := omega) only [e_X11_goes_0_3, k_X11_goes_0_3, e_X11_goes_0_7, k_X11_goes_0_7, j1, q_bd_l, z_ltT, z_ltF, z_eqT, z_eqF, z_ltlT, z_ltlF, z_lltT, z_lltF, z_eqlT, z_eqlF, z_in, z_k7, z_cl, z_lneg, z_llT, z_llF, z_s1, z_nI_cl, z_nlt0, z_ne_m1, z_b0, z_b1, z_la, z_al, z_lm, z_ml, z_nm, nI_add, pk_mul, ↓reduceIte, not_true_eq_false, not_false_eq_true, true_or, or_true, false_or, or_false, true_and, and_true, and_false, false_and, Classical.not_not, Nat.add_zero, z_01, z_em, z_bit_p, Nat.not_le, Nat.not_lt, reduceCtorEq, if_true, if_false]
theorem k_Xgoes0 (X : Sx) (d : Nat) (I : Ii) (T : Tt) (n : Nat) (v : Int32) (h3 : I 3 0 = nI n) (h : z_no v n) : c_X11_goes_0 X (d + 12) v I T = z_x 2 I T := by
  rw [e_X11_goes_0, k_needJar0 X _ v I T n h3 h, z_x_bd]
theorem k_Xspan1 (X : Sx) (d : Nat) (I : Ii) (T : Tt) (r : Nat → Int32) (n m q : Nat) (w : Int32) (h : k_H27 I r n m) (hq : q ≤ 30) : ∃ J, c_X11_span_0 X (d + 12) (nI q) w I T = z_r (R_span r n q w) J T ∧ z_fr m_cs I J := by
  obtain ⟨J, j1, j2⟩ := k_span X (d + 3) I T r n m q w (by omega) h
  refine ⟨J, ?_, j2⟩
  rw [e_X11_span_0, k_nn30 X _ I T q hq]
  simp (disch := omega) only [e_X11_span_0_3, k_X11_span_0_3, e_X11_span_0_8, k_X11_span_0_8, j1, q_bd_l, z_ltT, z_ltF, z_eqT, z_eqF, z_ltlT, z_ltlF, z_lltT, z_lltF, z_eqlT, z_eqlF, z_in, z_k7, z_cl, z_lneg, z_llT, z_llF, z_s1, z_nI_cl, z_nlt0, z_ne_m1, z_b0, z_b1, z_la, z_al, z_lm, z_ml, z_nm, nI_add, pk_mul, ↓reduceIte, not_true_eq_false, not_false_eq_true, true_or, or_true, false_or, or_false, true_and, and_true, and_false, false_and, Classical.not_not, Nat.add_zero, z_01, z_em, z_bit_p, Nat.not_le, Nat.not_lt, reduceCtorEq, if_true, if_false]
theorem k_Xspan0 (X : Sx) (d : Nat) (I : Ii) (T : Tt) (v w : Int32) (h : z_no v 31) : c_X11_span_0 X (d + 12) v w I T = z_x 0 I T := by
  rw [e_X11_span_0, k_needNumber0 X _ v 30 I T (z_no_hi (n := 30) h (by omega)), z_x_bd]
theorem k_Xtrial0 (X : Sx) (d : Nat) (I : Ii) (T : Tt) (v w : Int32) (h : z_no v 31) : c_X11_trial_0 X (d + 12) v w I T = z_x 0 I T := by
  rw [e_X11_trial_0, k_needNumber0 X _ v 30 I T (z_no_hi (n := 30) h (by omega)), z_x_bd]
theorem k_Xtrial1 (X : Sx) (d : Nat) (I : Ii) (T : Tt) (r : Nat → Int32) (n m q : Nat) (w : Int32) (h : k_H27 I r n m) (hq : q ≤ 30) : ∃ J, c_X11_trial_0 X (d + 12) (nI q) w I T = z_r (if w = 0 then R_spo (R_pass n q r) n else R_pass n q r 9 - r 9) J T ∧ z_fr m_cs I J := by
  have c6 : I 27 6 = r 11 := h.2.2.1.2.2.1
  obtain ⟨J, j1, j2, j3, -⟩ := k_trySeed X (d + 4) I T r n m q (I 27 6) (by omega) h
  have e : va_up r 11 (r 11) = r := by
    funext i
    unfold va_up
    by_cases hi : i = 11
    · rw [if_pos hi, hi]
    · rw [if_neg hi]
  rw [c6, e] at j1 j3
  have c7 : J 27 7 = r 9 := (j2 27 7 rfl).trans h.2.2.1.2.1
  refine ⟨J, ?_, z_cs_m32 j2⟩
  rw [e_X11_trial_0, k_nn30 X _ I T q hq]
  by_cases hw : w = 0 <;> simp (disch := omega) only [e_X11_trial_0_3, k_X11_trial_0_3, e_X11_trial_0_10, k_X11_trial_0_10, c6, j1, j3, c7, hw, q_bd_l, z_ltT, z_ltF, z_eqT, z_eqF, z_ltlT, z_ltlF, z_lltT, z_lltF, z_eqlT, z_eqlF, z_in, z_k7, z_cl, z_lneg, z_llT, z_llF, z_s1, z_nI_cl, z_nlt0, z_ne_m1, z_b0, z_b1, z_la, z_al, z_lm, z_ml, z_nm, nI_add, pk_mul, ↓reduceIte, not_true_eq_false, not_false_eq_true, true_or, or_true, false_or, or_false, true_and, and_true, and_false, false_and, Classical.not_not, Nat.add_zero, z_01, z_em, z_bit_p, Nat.not_le, Nat.not_lt, reduceCtorEq, if_true, if_false]
theorem k_Xneed1 (X : Sx) (d : Nat) (I : Ii) (T : Tt) (r : Nat → Int32) (n m k w : Nat) (h : k_H27 I r n m) (hk : k < m) (hw : w ≤ 3) : ∃ J, c_X11_need_0 X (d + 12) (nI k) (nI w) I T = z_r (if w = 3 then R_ans r n k else r (154 + 3 * k + w)) J T ∧ z_fr m_cs I J := by
  have hm := h.1.2.2.2.1
  have c5 : I 3 5 = nI m := h.2.1.2.1.trans h.1.2.2.1
  have d0 : I 8 k = r (154 + 3 * k) := h.2.1.2.2.2.2.2.2.2.2.2.2.1 k hk
  have d1 : I 9 k = r (154 + 3 * k + 1) := h.2.1.2.2.2.2.2.2.2.2.2.2.2.1 k hk
  have d2 : I 10 k = r (154 + 3 * k + 2) := h.2.1.2.2.2.2.2.2.2.2.2.2.2.2 k hk
  have go : c_X11_need_0 X (d + 12) (nI k) (nI w) I T = c_X11_need_0_13 X (d + 11) (nI k) (nI w) (nI w) I T := by
    rw [e_X11_need_0]
    simp (disch := omega) only [c5, q_bd_l, z_ltT, z_ltF, z_eqT, z_eqF, z_ltlT, z_ltlF, z_lltT, z_lltF, z_eqlT, z_eqlF, z_in, z_k7, z_cl, z_lneg, z_llT, z_llF, z_s1, z_nI_cl, z_nlt0, z_ne_m1, z_b0, z_b1, z_la, z_al, z_lm, z_ml, z_nm, nI_add, pk_mul, ↓reduceIte, not_true_eq_false, not_false_eq_true, true_or, or_true, false_or, or_false, true_and, and_true, and_false, false_and, Classical.not_not, Nat.add_zero, z_01, z_em, z_bit_p, Nat.not_le, Nat.not_lt, reduceCtorEq, if_true, if_false]
  rw [go]
  have hw2 : w = 0 ∨ w = 1 ∨ w = 2 ∨ w = 3 := by omega
  rcases hw2 with rfl | rfl | rfl | rfl
  · refine ⟨I, (e_X11_need_0_13_0 X (d + 11) (nI k) (nI 0) I T).trans ?_, z_fr_r _ _⟩
    simp (disch := omega) only [d0, q_bd_l, z_ltT, z_ltF, z_eqT, z_eqF, z_ltlT, z_ltlF, z_lltT, z_lltF, z_eqlT, z_eqlF, z_in, z_k7, z_cl, z_lneg, z_llT, z_llF, z_s1, z_nI_cl, z_nlt0, z_ne_m1, z_b0, z_b1, z_la, z_al, z_lm, z_ml, z_nm, nI_add, pk_mul, ↓reduceIte, not_true_eq_false, not_false_eq_true, true_or, or_true, false_or, or_false, true_and, and_true, and_false, false_and, Classical.not_not, Nat.add_zero, z_01, z_em, z_bit_p, Nat.not_le, Nat.not_lt, reduceCtorEq, if_true, if_false]
  · refine ⟨I, (e_X11_need_0_13_1 X (d + 11) (nI k) (nI 1) I T).trans ?_, z_fr_r _ _⟩
    simp (disch := omega) only [d1, q_bd_l, z_ltT, z_ltF, z_eqT, z_eqF, z_ltlT, z_ltlF, z_lltT, z_lltF, z_eqlT, z_eqlF, z_in, z_k7, z_cl, z_lneg, z_llT, z_llF, z_s1, z_nI_cl, z_nlt0, z_ne_m1, z_b0, z_b1, z_la, z_al, z_lm, z_ml, z_nm, nI_add, pk_mul, ↓reduceIte, not_true_eq_false, not_false_eq_true, true_or, or_true, false_or, or_false, true_and, and_true, and_false, false_and, Classical.not_not, Nat.add_zero, z_01, z_em, z_bit_p, Nat.not_le, Nat.not_lt, reduceCtorEq, if_true, if_false]
    rfl
  · refine ⟨I, (e_X11_need_0_13_2 X (d + 11) (nI k) (nI 2) I T).trans ?_, z_fr_r _ _⟩
    simp (disch := omega) only [d2, q_bd_l, z_ltT, z_ltF, z_eqT, z_eqF, z_ltlT, z_ltlF, z_lltT, z_lltF, z_eqlT, z_eqlF, z_in, z_k7, z_cl, z_lneg, z_llT, z_llF, z_s1, z_nI_cl, z_nlt0, z_ne_m1, z_b0, z_b1, z_la, z_al, z_lm, z_ml, z_nm, nI_add, pk_mul, ↓reduceIte, not_true_eq_false, not_false_eq_true, true_or, or_true, false_or, or_false, true_and, and_true, and_false, false_and, Classical.not_not, Nat.add_zero, z_01, z_em, z_bit_p, Nat.not_le, Nat.not_lt, reduceCtorEq, if_true, if_false]
    rfl
  · obtain ⟨J, j1, j2⟩ := k_answersTo X (d + 2) I T r n m k h hk
    refine ⟨J, (e_X11_need_0_13_3 X (d + 11) (nI k) (nI 3) I T).trans ?_, j2⟩
    rw [j1]
    simp (disch := omega) only [e_X11_need_0_36, k_X11_need_0_36, q_bd_l, z_ltT, z_ltF, z_eqT, z_eqF, z_ltlT, z_ltlF, z_lltT, z_lltF, z_eqlT, z_eqlF, z_in, z_k7, z_cl, z_lneg, z_llT, z_llF, z_s1, z_nI_cl, z_nlt0, z_ne_m1, z_b0, z_b1, z_la, z_al, z_lm, z_ml, z_nm, nI_add, pk_mul, ↓reduceIte, not_true_eq_false, not_false_eq_true, true_or, or_true, false_or, or_false, true_and, and_true, and_false, false_and, Classical.not_not, Nat.add_zero, z_01, z_em, z_bit_p, Nat.not_le, Nat.not_lt, reduceCtorEq, if_true, if_false]
theorem k_Xtastes1 (X : Sx) (d : Nat) (I : Ii) (T : Tt) (r : Nat → Int32) (n m : Nat) (v : Int32) {B : Nat → Nat} {N : Nat} (h : k_H27 I r n m) (hT : z_Ta I B N) (hg : R_good B N = true) : ∃ J, c_X11_tastes_0 X (d + 12) v I T = z_r (R_ts r B N n (if v = 0 then 0 else 1)) (q_w J 1 1 0) T ∧ z_fr m_cs I J := by
  obtain ⟨J, j1, j2⟩ := k_thatTaste X (d + 3) I T r n m (if v = 0 then 0 else 1) h hT hg
  refine ⟨J, ?_, j2⟩
  rw [e_X11_tastes_0, k_holdsTastes X _ I T hT]
  unfold z_b
  by_cases c : v = 0
  · rw [if_pos c] at j1
    simp (disch := omega) only [e_X11_tastes_0_3, k_X11_tastes_0_3, e_X11_tastes_0_15, e_X11_tastes_0_16, k_X11_tastes_0_16, e_X11_tastes_0_18, hg, c, j1, q_bd_l, z_ltT, z_ltF, z_eqT, z_eqF, z_ltlT, z_ltlF, z_lltT, z_lltF, z_eqlT, z_eqlF, z_in, z_k7, z_cl, z_lneg, z_llT, z_llF, z_s1, z_nI_cl, z_nlt0, z_ne_m1, z_b0, z_b1, z_la, z_al, z_lm, z_ml, z_nm, nI_add, pk_mul, ↓reduceIte, not_true_eq_false, not_false_eq_true, true_or, or_true, false_or, or_false, true_and, and_true, and_false, false_and, Classical.not_not, Nat.add_zero, z_01, z_em, z_bit_p, Nat.not_le, Nat.not_lt, reduceCtorEq, if_true, if_false]
  · rw [if_neg c] at j1
    simp (disch := omega) only [e_X11_tastes_0_3, k_X11_tastes_0_3, e_X11_tastes_0_15, e_X11_tastes_0_16, k_X11_tastes_0_16, e_X11_tastes_0_18, hg, c, j1, q_bd_l, z_ltT, z_ltF, z_eqT, z_eqF, z_ltlT, z_ltlF, z_lltT, z_lltF, z_eqlT, z_eqlF, z_in, z_k7, z_cl, z_lneg, z_llT, z_llF, z_s1, z_nI_cl, z_nlt0, z_ne_m1, z_b0, z_b1, z_la, z_al, z_lm, z_ml, z_nm, nI_add, pk_mul, ↓reduceIte, not_true_eq_false, not_false_eq_true, true_or, or_true, false_or, or_false, true_and, and_true, and_false, false_and, Classical.not_not, Nat.add_zero, z_01, z_em, z_bit_p, Nat.not_le, Nat.not_lt, reduceCtorEq, if_true, if_false]
theorem k_Xtastes0 (X : Sx) (d : Nat) (I : Ii) (T : Tt) (v : Int32) {B : Nat → Nat} {N : Nat} (hT : z_Ta I B N) (hg : ¬ R_good B N = true) : c_X11_tastes_0 X (d + 12) v I T = z_x 0 (q_w I 1 1 0) T := by
  rw [e_X11_tastes_0, k_holdsTastes X _ I T hT]
  unfold z_b
  simp (disch := omega) only [e_X11_tastes_0_3, k_X11_tastes_0_3, e_X11_tastes_0_15, e_X11_tastes_0_16, k_X11_tastes_0_16, e_X11_tastes_0_18, hg, z_x_e, q_bd_l, z_ltT, z_ltF, z_eqT, z_eqF, z_ltlT, z_ltlF, z_lltT, z_lltF, z_eqlT, z_eqlF, z_in, z_k7, z_cl, z_lneg, z_llT, z_llF, z_s1, z_nI_cl, z_nlt0, z_ne_m1, z_b0, z_b1, z_la, z_al, z_lm, z_ml, z_nm, nI_add, pk_mul, ↓reduceIte, not_true_eq_false, not_false_eq_true, true_or, or_true, false_or, or_false, true_and, and_true, and_false, false_and, Classical.not_not, Nat.add_zero, z_01, z_em, z_bit_p, Nat.not_le, Nat.not_lt, reduceCtorEq, if_true, if_false]
theorem k_Xled1 (X : Sx) (d : Nat) (I : Ii) (T : Tt) (r : Nat → Int32) (g L t : Nat) (ht : t < 6) (h : z_Lg I 27 61 r g) (h9 : I 27 9 = nI L) (hL : r 10 = nI L) (h60 : L ≤ 60) : c_X11_led_0 X (d + 12) (nI t) I T = z_r (R_led r L (nI t)) I T := by
  rw [e_X11_led_0, k_needMatter1 X _ I T t ht]
  simp (disch := omega) only [e_X11_led_0_2, k_X11_led_0_2, e_X11_led_0_8, k_X11_led_0_8, k_latestOf X _ I T r g L t h h9 hL h60, q_bd_l, z_ltT, z_ltF, z_eqT, z_eqF, z_ltlT, z_ltlF, z_lltT, z_lltF, z_eqlT, z_eqlF, z_in, z_k7, z_cl, z_lneg, z_llT, z_llF, z_s1, z_nI_cl, z_nlt0, z_ne_m1, z_b0, z_b1, z_la, z_al, z_lm, z_ml, z_nm, nI_add, pk_mul, ↓reduceIte, not_true_eq_false, not_false_eq_true, true_or, or_true, false_or, or_false, true_and, and_true, and_false, false_and, Classical.not_not, Nat.add_zero, z_01, z_em, z_bit_p, Nat.not_le, Nat.not_lt, reduceCtorEq, if_true, if_false]
theorem k_Xled0 (X : Sx) (d : Nat) (I : Ii) (T : Tt) (v : Int32) (h : z_no v 6) : c_X11_led_0 X (d + 12) v I T = z_x 2 I T := by
  rw [e_X11_led_0, k_needMatter0 X _ v I T h, z_x_bd]
theorem k_Xasked1 (X : Sx) (d : Nat) (I : Ii) (T : Tt) (r : Nat → Int32) (g L n j : Nat) (h3 : I 3 0 = nI n) (hn : n ≤ 10) (hj : j < n) (h : z_Lg I 27 61 r g) (h9 : I 27 9 = nI L) (hL : r 10 = nI L) (h60 : L ≤ 60) : c_X11_asked_0 X (d + 12) (nI j) I T = z_r (R_oft r L (nI j)) I T := by
  rw [e_X11_asked_0]
  simp (disch := omega) only [e_X11_asked_0_11, k_X11_asked_0_11, e_X11_asked_0_15, k_X11_asked_0_15, e_X11_asked_0_21, k_X11_asked_0_21, k_needJar1 X _ I T n j h3 hn hj, k_timesAsked X _ I T r g L _ h h9 hL h60, q_bd_l, z_ltT, z_ltF, z_eqT, z_eqF, z_ltlT, z_ltlF, z_lltT, z_lltF, z_eqlT, z_eqlF, z_in, z_k7, z_cl, z_lneg, z_llT, z_llF, z_s1, z_nI_cl, z_nlt0, z_ne_m1, z_b0, z_b1, z_la, z_al, z_lm, z_ml, z_nm, nI_add, pk_mul, ↓reduceIte, not_true_eq_false, not_false_eq_true, true_or, or_true, false_or, or_false, true_and, and_true, and_false, false_and, Classical.not_not, Nat.add_zero, z_01, z_em, z_bit_p, Nat.not_le, Nat.not_lt, reduceCtorEq, if_true, if_false]
theorem k_XaskedM (X : Sx) (d : Nat) (I : Ii) (T : Tt) (r : Nat → Int32) (g L n : Nat) (h3 : I 3 0 = nI n) (hn : n ≤ 10) (h : z_Lg I 27 61 r g) (h9 : I 27 9 = nI L) (hL : r 10 = nI L) (h60 : L ≤ 60) : c_X11_asked_0 X (d + 12) (-1) I T = z_r (R_askm r L n) I T := by
  rw [e_X11_asked_0, h3]
  simp (disch := omega) only [e_X11_asked_0_11, k_X11_asked_0_11, e_X11_asked_0_15, k_X11_asked_0_15, e_X11_asked_0_21, k_X11_asked_0_21, k_askedMost X _ I T r g L n h h9 hL h60 hn, q_bd_l, z_ltT, z_ltF, z_eqT, z_eqF, z_ltlT, z_ltlF, z_lltT, z_lltF, z_eqlT, z_eqlF, z_in, z_k7, z_cl, z_lneg, z_llT, z_llF, z_s1, z_nI_cl, z_nlt0, z_ne_m1, z_b0, z_b1, z_la, z_al, z_lm, z_ml, z_nm, nI_add, pk_mul, ↓reduceIte, not_true_eq_false, not_false_eq_true, true_or, or_true, false_or, or_false, true_and, and_true, and_false, false_and, Classical.not_not, Nat.add_zero, z_01, z_em, z_bit_p, Nat.not_le, Nat.not_lt, reduceCtorEq, if_true, if_false]
theorem k_Xasked0 (X : Sx) (d : Nat) (I : Ii) (T : Tt) (n : Nat) (v : Int32) (h3 : I 3 0 = nI n) (hv : z_no v n) (hm : v ≠ -1) : c_X11_asked_0 X (d + 12) v I T = z_x 2 I T := by
  rw [e_X11_asked_0, if_neg hm, k_needJar0 X _ v I T n h3 hv, z_x_bd]
theorem k_Xwhose1 (X : Sx) (d : Nat) (I : Ii) (T : Tt) (r : Nat → Int32) (n m j : Nat) (h : k_H27 I r n m) (hj : j < n) : c_X11_whose_0 X (d + 12) (nI j) I T = z_r (z_f1 (fun i => decide (r (12 + 13 * i + 5) = nI j)) n) I T := by
  have hn := h.1.2.1
  have n3 := k_n3 h
  rw [e_X11_whose_0, k_needJar1 X _ I T n j n3 hn hj]
  simp (disch := omega) only [e_X11_whose_0_3, k_X11_whose_0_3, q_bd_l, z_ltT, z_ltF, z_eqT, z_eqF, z_ltlT, z_ltlF, z_lltT, z_lltF, z_eqlT, z_eqlF, z_in, z_k7, z_cl, z_lneg, z_llT, z_llF, z_s1, z_nI_cl, z_nlt0, z_ne_m1, z_b0, z_b1, z_la, z_al, z_lm, z_ml, z_nm, nI_add, pk_mul, ↓reduceIte, not_true_eq_false, not_false_eq_true, true_or, or_true, false_or, or_false, true_and, and_true, and_false, false_and, Classical.not_not, Nat.add_zero, z_01, z_em, z_bit_p, Nat.not_le, Nat.not_lt, reduceCtorEq, if_true, if_false]
  refine (z_find (fun k => c_X11_whose_0_5 X (d + 11) (nI j) (nI k) I T) (fun k => z_r (nI k) I T) (fun i => decide (r (12 + 13 * i + 5) = nI j)) n (fun k hk => ?_)).trans ?_
  · have c : I 31 k = r (12 + 13 * k + 5) := h.2.2.1.2.2.2.2.2.2.2.1 k hk
    rw [e_X11_whose_0_5]
    by_cases h4 : r (12 + 13 * k + 5) = nI j <;> simp (disch := omega) only [n3, c, h4, q_bd_l, z_ltT, z_ltF, z_eqT, z_eqF, z_ltlT, z_ltlF, z_lltT, z_lltF, z_eqlT, z_eqlF, z_in, z_k7, z_cl, z_lneg, z_llT, z_llF, z_s1, z_nI_cl, z_nlt0, z_ne_m1, z_b0, z_b1, z_la, z_al, z_lm, z_ml, z_nm, nI_add, pk_mul, ↓reduceIte, not_true_eq_false, not_false_eq_true, true_or, or_true, false_or, or_false, true_and, and_true, and_false, false_and, Classical.not_not, Nat.add_zero, z_01, z_em, z_bit_p, Nat.not_le, Nat.not_lt, reduceCtorEq, if_true, if_false, decide_true, decide_false, Bool.and_true, Bool.and_false, Bool.true_and, Bool.false_and, Bool.or_true, Bool.or_false, Bool.true_or, Bool.false_or, Bool.false_eq_true, ne_eq, Bool.not_true, Bool.not_false, decide_not]
  · rw [e_X11_whose_0_5]
    unfold z_f1
    split <;> simp (disch := omega) only [n3, q_bd_l, z_ltT, z_ltF, z_eqT, z_eqF, z_ltlT, z_ltlF, z_lltT, z_lltF, z_eqlT, z_eqlF, z_in, z_k7, z_cl, z_lneg, z_llT, z_llF, z_s1, z_nI_cl, z_nlt0, z_ne_m1, z_b0, z_b1, z_la, z_al, z_lm, z_ml, z_nm, nI_add, pk_mul, ↓reduceIte, not_true_eq_false, not_false_eq_true, true_or, or_true, false_or, or_false, true_and, and_true, and_false, false_and, Classical.not_not, Nat.add_zero, z_01, z_em, z_bit_p, Nat.not_le, Nat.not_lt, reduceCtorEq, if_true, if_false]
theorem k_Xwhose0 (X : Sx) (d : Nat) (I : Ii) (T : Tt) (n : Nat) (v : Int32) (h3 : I 3 0 = nI n) (hv : z_no v n) : c_X11_whose_0 X (d + 12) v I T = z_x 2 I T := by
  rw [e_X11_whose_0, k_needJar0 X _ v I T n h3 hv, z_x_bd]
