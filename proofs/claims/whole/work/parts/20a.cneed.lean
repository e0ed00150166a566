/-! ===== THE CLASS: its calls' checks, questions ===== -/
def z_x (E : Nat) (I : Ii) (T : Tt) : Rs := some (.inr E, (q_Z0, I, q_tt T))
theorem z_x_bd (E : Nat) (I : Ii) (T : Tt) (k : Option Value → Hp → Rs) : q_bd (z_x E I T) k = z_x E I T := rfl
theorem z_x_e (E : Nat) (I : Ii) (T : Tt) : (some (.inr E, (q_Z0, I, q_tt T)) : Rs) = z_x E I T := rfl
theorem z_no_lt {v : Int32} {n : Nat} (h : z_no v n) (h0 : ¬ v < 0) : ¬ v < nI n := by
  rcases h with h | h
  · exact absurd h h0
  · rw [Int32.lt_iff_toInt_lt]
    rw [Int32.le_iff_toInt_le] at h
    omega
theorem k_needJar1 (X : Sx) (d : Nat) (I : Ii) (T : Tt) (n j : Nat) (h3 : I 3 0 = nI n) (hn : n ≤ 10) (hj : j < n) : c_X11_needJar_0 X (d + 2) (nI j) I T = z_v I T := by
  rw [e_X11_needJar_0, e_X9_hasJar_3]
  simp (disch := omega) only [e_X11_needJar_0_4, k_X11_needJar_0_4, e_X9_hasJar_3_8, h3, q_bd_l, z_ltT, z_ltF, z_eqT, z_eqF, z_ltlT, z_ltlF, z_lltT, z_lltF, z_eqlT, z_eqlF, z_in, z_k7, z_cl, z_lneg, z_llT, z_llF, z_s1, z_nI_cl, z_nlt0, z_ne_m1, z_b0, z_b1, z_la, z_al, z_lm, z_ml, z_nm, nI_add, pk_mul, ↓reduceIte, not_true_eq_false, not_false_eq_true, true_or, or_true, false_or, or_false, true_and, and_true, and_false, false_and, Classical.not_not, Nat.add_zero, z_01, z_em, z_bit_p, Nat.not_le, Nat.not_lt, reduceCtorEq, if_true, if_false]
theorem k_needJar0 (X : Sx) (d : Nat) (v : Int32) (I : Ii) (T : Tt) (n : Nat) (h3 : I 3 0 = nI n) (hv : z_no v n) : c_X11_needJar_0 X (d + 2) v I T = z_x 2 I T := by
  rw [e_X11_needJar_0, e_X9_hasJar_3]
  by_cases c : v < 0
  · simp (disch := omega) only [e_X11_needJar_0_4, k_X11_needJar_0_4, e_X9_hasJar_3_8, h3, c, z_x_e, q_bd_l, z_ltT, z_ltF, z_eqT, z_eqF, z_ltlT, z_ltlF, z_lltT, z_lltF, z_eqlT, z_eqlF, z_in, z_k7, z_cl, z_lneg, z_llT, z_llF, z_s1, z_nI_cl, z_nlt0, z_ne_m1, z_b0, z_b1, z_la, z_al, z_lm, z_ml, z_nm, nI_add, pk_mul, ↓reduceIte, not_true_eq_false, not_false_eq_true, true_or, or_true, false_or, or_false, true_and, and_true, and_false, false_and, Classical.not_not, Nat.add_zero, z_01, z_em, z_bit_p, Nat.not_le, Nat.not_lt, reduceCtorEq, if_true, if_false]
  · have c2 := z_no_lt hv c
    simp (disch := omega) only [e_X11_needJar_0_4, k_X11_needJar_0_4, e_X9_hasJar_3_8, h3, c, c2, z_x_e, q_bd_l, z_ltT, z_ltF, z_eqT, z_eqF, z_ltlT, z_ltlF, z_lltT, z_lltF, z_eqlT, z_eqlF, z_in, z_k7, z_cl, z_lneg, z_llT, z_llF, z_s1, z_nI_cl, z_nlt0, z_ne_m1, z_b0, z_b1, z_la, z_al, z_lm, z_ml, z_nm, nI_add, pk_mul, ↓reduceIte, not_true_eq_false, not_false_eq_true, true_or, or_true, false_or, or_false, true_and, and_true, and_false, false_and, Classical.not_not, Nat.add_zero, z_01, z_em, z_bit_p, Nat.not_le, Nat.not_lt, reduceCtorEq, if_true, if_false]
theorem k_needMatter1 (X : Sx) (d : Nat) (I : Ii) (T : Tt) (t : Nat) (ht : t < 6) : c_X11_needMatter X (d + 1) (nI t) I T = z_v I T := by
  rw [e_X11_needMatter]
  simp (disch := omega) only [q_bd_l, z_ltT, z_ltF, z_eqT, z_eqF, z_ltlT, z_ltlF, z_lltT, z_lltF, z_eqlT, z_eqlF, z_in, z_k7, z_cl, z_lneg, z_llT, z_llF, z_s1, z_nI_cl, z_nlt0, z_ne_m1, z_b0, z_b1, z_la, z_al, z_lm, z_ml, z_nm, nI_add, pk_mul, ↓reduceIte, not_true_eq_false, not_false_eq_true, true_or, or_true, false_or, or_false, true_and, and_true, and_false, false_and, Classical.not_not, Nat.add_zero, z_01, z_em, z_bit_p, Nat.not_le, Nat.not_lt, reduceCtorEq, if_true, if_false]
theorem k_needMatter0 (X : Sx) (d : Nat) (v : Int32) (I : Ii) (T : Tt) (hv : z_no v 6) : c_X11_needMatter X (d + 1) v I T = z_x 2 I T := by
  rw [e_X11_needMatter]
  by_cases c : v < 0
  · simp (disch := omega) only [e_X11_needMatter_5, c, z_x_e, q_bd_l, z_ltT, z_ltF, z_eqT, z_eqF, z_ltlT, z_ltlF, z_lltT, z_lltF, z_eqlT, z_eqlF, z_in, z_k7, z_cl, z_lneg, z_llT, z_llF, z_s1, z_nI_cl, z_nlt0, z_ne_m1, z_b0, z_b1, z_la, z_al, z_lm, z_ml, z_nm, nI_add, pk_mul, ↓reduceIte, not_true_eq_false, not_false_eq_true, true_or, or_true, false_or, or_false, true_and, and_true, and_false, false_and, Classical.not_not, Nat.add_zero, z_01, z_em, z_bit_p, Nat.not_le, Nat.not_lt, reduceCtorEq, if_true, if_false]
  · have c2 : ¬ v < 6 := z_no_lt hv c
    simp (disch := omega) only [e_X11_needMatter_5, c, c2, z_x_e, q_bd_l, z_ltT, z_ltF, z_eqT, z_eqF, z_ltlT, z_ltlF, z_lltT, z_lltF, z_eqlT, z_eqlF, z_in, z_k7, z_cl, z_lneg, z_llT, z_llF, z_s1, z_nI_cl, z_nlt0, z_ne_m1, z_b0, z_b1, z_la, z_al, z_lm, z_ml, z_nm, nI_add, pk_mul, ↓reduceIte, not_true_eq_false, not_false_eq_true, true_or, or_true, false_or, or_false, true_and, and_true, and_false, false_and, Classical.not_not, Nat.add_zero, z_01, z_em, z_bit_p, Nat.not_le, Nat.not_lt, reduceCtorEq, if_true, if_false]
theorem k_needPlace1 (X : Sx) (d : Nat) (I : Ii) (T : Tt) (t : Nat) (ht : t < 12) : c_X11_needPlace X (d + 1) (nI t) I T = z_v I T := by
  rw [e_X11_needPlace]
  simp (disch := omega) only [q_bd_l, z_ltT, z_ltF, z_eqT, z_eqF, z_ltlT, z_ltlF, z_lltT, z_lltF, z_eqlT, z_eqlF, z_in, z_k7, z_cl, z_lneg, z_llT, z_llF, z_s1, z_nI_cl, z_nlt0, z_ne_m1, z_b0, z_b1, z_la, z_al, z_lm, z_ml, z_nm, nI_add, pk_mul, ↓reduceIte, not_true_eq_false, not_false_eq_true, true_or, or_true, false_or, or_false, true_and, and_true, and_false, false_and, Classical.not_not, Nat.add_zero, z_01, z_em, z_bit_p, Nat.not_le, Nat.not_lt, reduceCtorEq, if_true, if_false]
theorem k_needPlace0 (X : Sx) (d : Nat) (v : Int32) (I : Ii) (T : Tt) (hv : z_no v 12) : c_X11_needPlace X (d + 1) v I T = z_x 2 I T := by
  rw [e_X11_needPlace]
  by_cases c : v < 0
  · simp (disch := omega) only [e_X11_needPlace_5, c, z_x_e, q_bd_l, z_ltT, z_ltF, z_eqT, z_eqF, z_ltlT, z_ltlF, z_lltT, z_lltF, z_eqlT, z_eqlF, z_in, z_k7, z_cl, z_lneg, z_llT, z_llF, z_s1, z_nI_cl, z_nlt0, z_ne_m1, z_b0, z_b1, z_la, z_al, z_lm, z_ml, z_nm, nI_add, pk_mul, ↓reduceIte, not_true_eq_false, not_false_eq_true, true_or, or_true, false_or, or_false, true_and, and_true, and_false, false_and, Classical.not_not, Nat.add_zero, z_01, z_em, z_bit_p, Nat.not_le, Nat.not_lt, reduceCtorEq, if_true, if_false]
  · have c2 : ¬ v < 12 := z_no_lt hv c
    simp (disch := omega) only [e_X11_needPlace_5, c, c2, z_x_e, q_bd_l, z_ltT, z_ltF, z_eqT, z_eqF, z_ltlT, z_ltlF, z_lltT, z_lltF, z_eqlT, z_eqlF, z_in, z_k7, z_cl, z_lneg, z_llT, z_llF, z_s1, z_nI_cl, z_nlt0, z_ne_m1, z_b0, z_b1, z_la, z_al, z_lm, z_ml, z_nm, nI_add, pk_mul, ↓reduceIte, not_true_eq_false, not_false_eq_true, true_or, or_true, false_or, or_false, true_and, and_true, and_false, false_and, Classical.not_not, Nat.add_zero, z_01, z_em, z_bit_p, Nat.not_le, Nat.not_lt, reduceCtorEq, if_true, if_false]
theorem k_needNumber1 (X : Sx) (d : Nat) (I : Ii) (T : Tt) (t u : Nat) (hu : u < 1000) (ht : t ≤ u) : c_X11_needNumber X (d + 1) (nI t) (nI u) I T = z_v I T := by
  rw [e_X11_needNumber]
  simp (disch := omega) only [q_bd_l, z_ltT, z_ltF, z_eqT, z_eqF, z_ltlT, z_ltlF, z_lltT, z_lltF, z_eqlT, z_eqlF, z_in, z_k7, z_cl, z_lneg, z_llT, z_llF, z_s1, z_nI_cl, z_nlt0, z_ne_m1, z_b0, z_b1, z_la, z_al, z_lm, z_ml, z_nm, nI_add, pk_mul, ↓reduceIte, not_true_eq_false, not_false_eq_true, true_or, or_true, false_or, or_false, true_and, and_true, and_false, false_and, Classical.not_not, Nat.add_zero, z_01, z_em, z_bit_p, Nat.not_le, Nat.not_lt, reduceCtorEq, if_true, if_false]
theorem k_needNumber0 (X : Sx) (d : Nat) (v u : Int32) (I : Ii) (T : Tt) (hv : v < 0 ∨ u < v) : c_X11_needNumber X (d + 1) v u I T = z_x 0 I T := by
  rw [e_X11_needNumber]
  by_cases c : v < 0
  · simp (disch := omega) only [e_X11_needNumber_5, c, z_x_e, q_bd_l, z_ltT, z_ltF, z_eqT, z_eqF, z_ltlT, z_ltlF, z_lltT, z_lltF, z_eqlT, z_eqlF, z_in, z_k7, z_cl, z_lneg, z_llT, z_llF, z_s1, z_nI_cl, z_nlt0, z_ne_m1, z_b0, z_b1, z_la, z_al, z_lm, z_ml, z_nm, nI_add, pk_mul, ↓reduceIte, not_true_eq_false, not_false_eq_true, true_or, or_true, false_or, or_false, true_and, and_true, and_false, false_and, Classical.not_not, Nat.add_zero, z_01, z_em, z_bit_p, Nat.not_le, Nat.not_lt, reduceCtorEq, if_true, if_false]
  · have c2 : u < v := by rcases hv with a | a; exact absurd a c; exact a
    simp (disch := omega) only [e_X11_needNumber_5, c, c2, z_x_e, q_bd_l, z_ltT, z_ltF, z_eqT, z_eqF, z_ltlT, z_ltlF, z_lltT, z_lltF, z_eqlT, z_eqlF, z_in, z_k7, z_cl, z_lneg, z_llT, z_llF, z_s1, z_nI_cl, z_nlt0, z_ne_m1, z_b0, z_b1, z_la, z_al, z_lm, z_ml, z_nm, nI_add, pk_mul, ↓reduceIte, not_true_eq_false, not_false_eq_true, true_or, or_true, false_or, or_false, true_and, and_true, and_false, false_and, Classical.not_not, Nat.add_zero, z_01, z_em, z_bit_p, Nat.not_le, Nat.not_lt, reduceCtorEq, if_true, if_false]
theorem k_needTwo1 (X : Sx) (d : Nat) (I : Ii) (T : Tt) (n j o t : Nat) (h3 : I 3 0 = nI n) (hn : n ≤ 10) (hj : j < n) (ho : o < n) (hne : j ≠ o) (ht : t < 6) : c_X11_needTwo_0 X (d + 3) (nI j) (nI o) (nI t) I T = z_v I T := by
  rw [e_X11_needTwo_0, k_needJar1 X d I T n j h3 hn hj]
  simp (disch := omega) only [e_X11_needTwo_0_3, k_X11_needTwo_0_3, e_X11_needTwo_0_6, k_X11_needTwo_0_6, e_X11_needTwo_0_8, k_X11_needTwo_0_8, k_needJar1 X d I T n o h3 hn ho, k_needMatter1, q_bd_l, z_ltT, z_ltF, z_eqT, z_eqF, z_ltlT, z_ltlF, z_lltT, z_lltF, z_eqlT, z_eqlF, z_in, z_k7, z_cl, z_lneg, z_llT, z_llF, z_s1, z_nI_cl, z_nlt0, z_ne_m1, z_b0, z_b1, z_la, z_al, z_lm, z_ml, z_nm, nI_add, pk_mul, ↓reduceIte, not_true_eq_false, not_false_eq_true, true_or, or_true, false_or, or_false, true_and, and_true, and_false, false_and, Classical.not_not, Nat.add_zero, z_01, z_em, z_bit_p, Nat.not_le, Nat.not_lt, reduceCtorEq, if_true, if_false]
theorem k_needTwo0 (X : Sx) (d : Nat) (I : Ii) (T : Tt) (n : Nat) (v u w c : Int32) (h3 : I 3 0 = nI n) (hn : n ≤ 10) (hc : z_two n v u w c) (h0 : c ≠ 0) : c_X11_needTwo_0 X (d + 3) v u w I T = z_x (if c = 1 then 2 else 0) I T := by
  rw [e_X11_needTwo_0]
  rcases hc with ⟨e, h | ⟨⟨j, hj, rfl⟩, h⟩ | ⟨⟨j, hj, rfl⟩, ⟨o, ho, rfl⟩, h⟩⟩ | ⟨e, j, t, hj, ht, rfl, rfl, rfl⟩ | ⟨e, -⟩
  · rw [k_needJar0 X d v I T n h3 h, z_x_bd, if_pos e]
  · rw [k_needJar1 X d I T n j h3 hn hj, if_pos e]
    simp (disch := omega) only [e_X11_needTwo_0_3, k_X11_needTwo_0_3, e_X11_needTwo_0_6, k_X11_needTwo_0_6, e_X11_needTwo_0_8, k_X11_needTwo_0_8, k_needJar0 X d u I T n h3 h, z_x_bd, q_bd_l, z_ltT, z_ltF, z_eqT, z_eqF, z_ltlT, z_ltlF, z_lltT, z_lltF, z_eqlT, z_eqlF, z_in, z_k7, z_cl, z_lneg, z_llT, z_llF, z_s1, z_nI_cl, z_nlt0, z_ne_m1, z_b0, z_b1, z_la, z_al, z_lm, z_ml, z_nm, nI_add, pk_mul, ↓reduceIte, not_true_eq_false, not_false_eq_true, true_or, or_true, false_or, or_false, true_and, and_true, and_false, false_and, Classical.not_not, Nat.add_zero, z_01, z_em, z_bit_p, Nat.not_le, Nat.not_lt, reduceCtorEq, if_true, if_false]
  · rw [k_needJar1 X d I T n j h3 hn hj, if_pos e]
    simp (disch := omega) only [e_X11_needTwo_0_3, k_X11_needTwo_0_3, e_X11_needTwo_0_6, k_X11_needTwo_0_6, e_X11_needTwo_0_8, k_X11_needTwo_0_8, k_needJar1 X d I T n o h3 hn ho, k_needMatter0 X _ w I T h, z_x_bd, q_bd_l, z_ltT, z_ltF, z_eqT, z_eqF, z_ltlT, z_ltlF, z_lltT, z_lltF, z_eqlT, z_eqlF, z_in, z_k7, z_cl, z_lneg, z_llT, z_llF, z_s1, z_nI_cl, z_nlt0, z_ne_m1, z_b0, z_b1, z_la, z_al, z_lm, z_ml, z_nm, nI_add, pk_mul, ↓reduceIte, not_true_eq_false, not_false_eq_true, true_or, or_true, false_or, or_false, true_and, and_true, and_false, false_and, Classical.not_not, Nat.add_zero, z_01, z_em, z_bit_p, Nat.not_le, Nat.not_lt, reduceCtorEq, if_true, if_false]
  · rw [k_needJar1 X d I T n j h3 hn hj]
    have e1 : ¬ c = 1 := by rw [e]; decide
    simp (disch := omega) only [e_X11_needTwo_0_3, k_X11_needTwo_0_3, e_X11_needTwo_0_6, k_X11_needTwo_0_6, e_X11_needTwo_0_8, k_X11_needTwo_0_8, k_needJar1 X d I T n j h3 hn hj, k_needMatter1, z_x_e, e1, q_bd_l, z_ltT, z_ltF, z_eqT, z_eqF, z_ltlT, z_ltlF, z_lltT, z_lltF, z_eqlT, z_eqlF, z_in, z_k7, z_cl, z_lneg, z_llT, z_llF, z_s1, z_nI_cl, z_nlt0, z_ne_m1, z_b0, z_b1, z_la, z_al, z_lm, z_ml, z_nm, nI_add, pk_mul, ↓reduceIte, not_true_eq_false, not_false_eq_true, true_or, or_true, false_or, or_false, true_and, and_true, and_false, false_and, Classical.not_not, Nat.add_zero, z_01, z_em, z_bit_p, Nat.not_le, Nat.not_lt, reduceCtorEq, if_true, if_false]
  · exact absurd e h0
-- questions with right arguments
theorem k_Xadvice1 (X : Sx) (d : Nat) (I : Ii) (T : Tt) (r : Nat → Int32) (n m j t : Nat) (w : Int32) (h : k_H27 I r n m) (hj : j < n) (ht : t < 6) : ∃ J, c_X11_advice_0 X (d + 12) (nI j) (nI t) w I T = z_r (if w = 0 then r (12 + 13 * j + (7 + t)) else R_adv r j t) J T ∧ z_fr m_cs I J := by
  have hn := h.1.2.1
  have n3 := k_n3 h
  by_cases hw : w = 0
  · have e6 : I 6 (j * 6 + t) = r (12 + 13 * j + (7 + t)) := h.2.1.2.2.2.2.2.2.2.2.1 j t hj ht
    have e7 : nI j * (6 : Int32) + nI t = nI (j * 6 + t) := by rw [z_ml, nI_add]
    refine ⟨I, ?_, z_fr_r _ _⟩
    rw [e_X11_advice_0, k_needJar1 X _ I T n j n3 hn hj]
    simp (disch := omega) only [e_X11_advice_0_3, k_X11_advice_0_3, e_X11_advice_0_5, k_X11_advice_0_5, e_X11_advice_0_12, k_X11_advice_0_12, e_X11_advice_0_18, k_X11_advice_0_18, e_X9_viewOf_3, k_needMatter1, hw, e7, e6, q_bd_l, z_ltT, z_ltF, z_eqT, z_eqF, z_ltlT, z_ltlF, z_lltT, z_lltF, z_eqlT, z_eqlF, z_in, z_k7, z_cl, z_lneg, z_llT, z_llF, z_s1, z_nI_cl, z_nlt0, z_ne_m1, z_b0, z_b1, z_la, z_al, z_lm, z_ml, z_nm, nI_add, pk_mul, ↓reduceIte, not_true_eq_false, not_false_eq_true, true_or, or_true, false_or, or_false, true_and, and_true, and_false, false_and, Classical.not_not, Nat.add_zero, z_01, z_em, z_bit_p, Nat.not_le, Nat.not_lt, reduceCtorEq, if_true, if_false]
  · obtain ⟨J, j1, j2⟩ := k_adv128 X (d + 6) I T r n m j t h hj ht
    refine ⟨J, ?_, z_cs_la j2⟩
    rw [e_X11_advice_0, k_needJar1 X _ I T n j n3 hn hj]
    simp (disch := omega) only [e_X11_advice_0_3, k_X11_advice_0_3, e_X11_advice_0_5, k_X11_advice_0_5, e_X11_advice_0_12, k_X11_advice_0_12, e_X11_advice_0_18, k_X11_advice_0_18, k_needMatter1, hw, j1, q_bd_l, z_ltT, z_ltF, z_eqT, z_eqF, z_ltlT, z_ltlF, z_lltT, z_lltF, z_eqlT, z_eqlF, z_in, z_k7, z_cl, z_lneg, z_llT, z_llF, z_s1, z_nI_cl, z_nlt0, z_ne_m1, z_b0, z_b1, z_la, z_al, z_lm, z_ml, z_nm, nI_add, pk_mul, ↓reduceIte, not_true_eq_false, not_false_eq_true, true_or, or_true, false_or, or_false, true_and, and_true, and_false, false_and, Classical.not_not, Nat.add_zero, z_01, z_em, z_bit_p, Nat.not_le, Nat.not_lt, reduceCtorEq, if_true, if_false]
theorem k_Xadvice0 (X : Sx) (d : Nat) (I : Ii) (T : Tt) (n : Nat) (v u w : Int32) (h3 : I 3 0 = nI n) (hn : n ≤ 10) (hv : z_no v n ∨ (∃ j, j < n ∧ v = nI j) ∧ z_no u 6) : c_X11_advice_0 X (d + 12) v u w I T = z_x 2 I T := by
  rw [e_X11_advice_0]
  rcases hv with hv | ⟨⟨j, hj, rfl⟩, hu⟩
  · rw [k_needJar0 X _ v I T n h3 hv, z_x_bd]
  · rw [k_needJar1 X _ I T n j h3 hn hj]
    simp (disch := omega) only [e_X11_advice_0_3, k_X11_advice_0_3, e_X11_advice_0_5, k_X11_advice_0_5, e_X11_advice_0_12, k_X11_advice_0_12, e_X11_advice_0_18, k_X11_advice_0_18, k_needMatter0 X _ u I T hu, z_x_bd, q_bd_l, z_ltT, z_ltF, z_eqT, z_eqF, z_ltlT, z_ltlF, z_lltT, z_lltF, z_eqlT, z_eqlF, z_in, z_k7, z_cl, z_lneg, z_llT, z_llF, z_s1, z_nI_cl, z_nlt0, z_ne_m1, z_b0, z_b1, z_la, z_al, z_lm, z_ml, z_nm, nI_add, pk_mul, ↓reduceIte, not_true_eq_false, not_false_eq_true, true_or, or_true, false_or, or_false, true_and, and_true, and_false, false_and, Classical.not_not, Nat.add_zero, z_01, z_em, z_bit_p, Nat.not_le, Nat.not_lt, reduceCtorEq, if_true, if_false]
theorem k_Xlight1 (X : Sx) (d : Nat) (I : Ii) (T : Tt) (r : Nat → Int32) (n m p : Nat) (h : k_H27 I r n m) (hp : p < 12) : c_X11_light_0 X (d + 12) (nI p) I T = z_r (r (142 + p)) I T := by
  have e := h.2.1.2.2.2.2.2.2.2.2.2.1 p hp
  have e' : I 7 p = r (142 + p) := e
  rw [e_X11_light_0, k_needPlace1 X _ I T p hp]
  simp (disch := omega) only [e_X11_light_0_2, k_X11_light_0_2, e', q_bd_l, z_ltT, z_ltF, z_eqT, z_eqF, z_ltlT, z_ltlF, z_lltT, z_lltF, z_eqlT, z_eqlF, z_in, z_k7, z_cl, z_lneg, z_llT, z_llF, z_s1, z_nI_cl, z_nlt0, z_ne_m1, z_b0, z_b1, z_la, z_al, z_lm, z_ml, z_nm, nI_add, pk_mul, ↓reduceIte, not_true_eq_false, not_false_eq_true, true_or, or_true, false_or, or_false, true_and, and_true, and_false, false_and, Classical.not_not, Nat.add_zero, z_01, z_em, z_bit_p, Nat.not_le, Nat.not_lt, reduceCtorEq, if_true, if_false]
theorem k_Xlight0 (X : Sx) (d : Nat) (I : Ii) (T : Tt) (v : Int32) (hv : z_no v 12) : c_X11_light_0 X (d + 12) v I T = z_x 2 I T := by
  rw [e_X11_light_0, k_needPlace0 X _ v I T hv, z_x_bd]
theorem k_Xmixture1 (X : Sx) (d : Nat) (I : Ii) (T : Tt) (r : Nat → Int32) (n m j o t : Nat) (h : k_H27 I r n m) (hj : j < n) (ho : o < n) (hne : j ≠ o) (ht : t < 6) : ∃ J, c_X11_mixture_0 X (d + 12) (nI j) (nI o) (nI t) I T = z_r (R_mx r j o t) J T ∧ z_fr m_cs I J := by
  obtain ⟨J, j1, j2⟩ := k_mixtureOf X (d + 5) I T r n m j o t h hj ho ht
  refine ⟨J, ?_, j2⟩
  rw [e_X11_mixture_0, k_needTwo1 X _ I T n j o t (k_n3 h) h.1.2.1 hj ho hne ht]
  simp (disch := omega) only [e_X11_mixture_0_5, k_X11_mixture_0_5, e_X11_mixture_0_11, k_X11_mixture_0_11, j1, q_bd_l, z_ltT, z_ltF, z_eqT, z_eqF, z_ltlT, z_ltlF, z_lltT, z_lltF, z_eqlT, z_eqlF, z_in, z_k7, z_cl, z_lneg, z_llT, z_llF, z_s1, z_nI_cl, z_nlt0, z_ne_m1, z_b0, z_b1, z_la, z_al, z_lm, z_ml, z_nm, nI_add, pk_mul, ↓reduceIte, not_true_eq_false, not_false_eq_true, true_or, or_true, false_or, or_false, true_and, and_true, and_false, false_and, Classical.not_not, Nat.add_zero, z_01, z_em, z_bit_p, Nat.not_le, Nat.not_lt, reduceCtorEq, if_true, if_false]
theorem k_Xmixture0 (X : Sx) (d : Nat) (I : Ii) (T : Tt) (n : Nat) (v u w c : Int32) (h3 : I 3 0 = nI n) (hn : n ≤ 10) (hc : z_two n v u w c) (h0 : c ≠ 0) : c_X11_mixture_0 X (d + 12) v u w I T = z_x (if c = 1 then 2 else 0) I T := by
  rw [e_X11_mixture_0, k_needTwo0 X _ I T n v u w c h3 hn hc h0, z_x_bd]
theorem k_Xwar1 (X : Sx) (d : Nat) (I : Ii) (T : Tt) (r : Nat → Int32) (n m j o t : Nat) (h : k_H27 I r n m) (hj : j < n) (ho : o < n) (hne : j ≠ o) (ht : t < 6) : ∃ J, c_X11_war_0 X (d + 12) (nI j) (nI o) (nI t) I T = z_r (R_war (R_adv r j t) (R_adv r o t)) J T ∧ z_fr m_cs I J := by
  obtain ⟨J, j1, j2⟩ := k_war X (d + 5) I T r n m j o t h hj ho ht
  refine ⟨J, ?_, z_cs_la j2⟩
  rw [e_X11_war_0, k_needTwo1 X _ I T n j o t (k_n3 h) h.1.2.1 hj ho hne ht]
  simp (disch := omega) only [e_X11_war_0_5, k_X11_war_0_5, e_X11_war_0_11, k_X11_war_0_11, j1, q_bd_l, z_ltT, z_ltF, z_eqT, z_eqF, z_ltlT, z_ltlF, z_lltT, z_lltF, z_eqlT, z_eqlF, z_in, z_k7, z_cl, z_lneg, z_llT, z_llF, z_s1, z_nI_cl, z_nlt0, z_ne_m1, z_b0, z_b1, z_la, z_al, z_lm, z_ml, z_nm, nI_add, pk_mul, ↓reduceIte, not_true_eq_false, not_false_eq_true, true_or, or_true, false_or, or_false, true_and, and_true, and_false, false_and, Classical.not_not, Nat.add_zero, z_01, z_em, z_bit_p, Nat.not_le, Nat.not_lt, reduceCtorEq, if_true, if_false]
theorem k_Xwar0 (X : Sx) (d : Nat) (I : Ii) (T : Tt) (n : Nat) (v u w c : Int32) (h3 : I 3 0 = nI n) (hn : n ≤ 10) (hc : z_two n v u w c) (h0 : c ≠ 0) : c_X11_war_0 X (d + 12) v u w I T = z_x (if c = 1 then 2 else 0) I T := by
  rw [e_X11_war_0, k_needTwo0 X _ I T n v u w c h3 hn hc h0, z_x_bd]
theorem k_Xbest1 (X : Sx) (d : Nat) (I : Ii) (T : Tt) (r : Nat → Int32) (n m t q : Nat) (h : k_H27 I r n m) (ht : t < 6) (hq : q ≤ 9) : ∃ J, c_X11_best_0 X (d + 12) (nI t) (nI q) I T = z_r (R_best r n t (nI q) 10) J T ∧ z_fr m_cs I J := by
  obtain ⟨J, j1, j2⟩ := k_best X (d + 4) I T r n m t (nI q) h ht
  refine ⟨J, ?_, j2⟩
  have e := k_needNumber1 X (d + 10) I T q 9 (by omega) hq
  rw [e_X11_best_0, k_needMatter1 X _ I T t ht]
  simp (disch := omega) only [e_X11_best_0_2, k_X11_best_0_2, e_X11_best_0_5, k_X11_best_0_5, e_X11_best_0_10, k_X11_best_0_10, j1, q_bd_l, z_ltT, z_ltF, z_eqT, z_eqF, z_ltlT, z_ltlF, z_lltT, z_lltF, z_eqlT, z_eqlF, z_in, z_k7, z_cl, z_lneg, z_llT, z_llF, z_s1, z_nI_cl, z_nlt0, z_ne_m1, z_b0, z_b1, z_la, z_al, z_lm, z_ml, z_nm, nI_add, pk_mul, ↓reduceIte, not_true_eq_false, not_false_eq_true, true_or, or_true, false_or, or_false, true_and, and_true, and_false, false_and, Classical.not_not, Nat.add_zero, z_01, z_em, z_bit_p, Nat.not_le, Nat.not_lt, reduceCtorEq, if_true, if_false]
  refine (congrArg (fun x => q_bd x _) e).trans ?_
  simp (disch := omega) only [e_X11_best_0_2, k_X11_best_0_2, e_X11_best_0_5, k_X11_best_0_5, e_X11_best_0_10, k_X11_best_0_10, j1, q_bd_l, z_ltT, z_ltF, z_eqT, z_eqF, z_ltlT, z_ltlF, z_lltT, z_lltF, z_eqlT, z_eqlF, z_in, z_k7, z_cl, z_lneg, z_llT, z_llF, z_s1, z_nI_cl, z_nlt0, z_ne_m1, z_b0, z_b1, z_la, z_al, z_lm, z_ml, z_nm, nI_add, pk_mul, ↓reduceIte, not_true_eq_false, not_false_eq_true, true_or, or_true, false_or, or_false, true_and, and_true, and_false, false_and, Classical.not_not, Nat.add_zero, z_01, z_em, z_bit_p, Nat.not_le, Nat.not_lt, reduceCtorEq, if_true, if_false]
theorem k_Xcoalition (X : Sx) (d : Nat) (I : Ii) (T : Tt) (r : Nat → Int32) (n m : Nat) (h : k_H27 I r n m) : ∃ J, c_X11_coalition_0 X (d + 12) I T = z_r (R_coal r n) J T ∧ z_fr m_cs I J := by
  obtain ⟨J, j1, j2⟩ := k_coalition X (d + 3) I T r n m h
  refine ⟨J, ?_, j2⟩
  rw [e_X11_coalition_0, j1]
  simp (disch := omega) only [e_X11_coalition_0_3, k_X11_coalition_0_3, q_bd_l, z_ltT, z_ltF, z_eqT, z_eqF, z_ltlT, z_ltlF, z_lltT, z_lltF, z_eqlT, z_eqlF, z_in, z_k7, z_cl, z_lneg, z_llT, z_llF, z_s1, z_nI_cl, z_nlt0, z_ne_m1, z_b0, z_b1, z_la, z_al, z_lm, z_ml, z_nm, nI_add, pk_mul, ↓reduceIte, not_true_eq_false, not_false_eq_true, true_or, or_true, false_or, or_false, true_and, and_true, and_false, false_and, Classical.not_not, Nat.add_zero, z_01, z_em, z_bit_p, Nat.not_le, Nat.not_lt, reduceCtorEq, if_true, if_false]
theorem k_Xunmet (X : Sx) (d : Nat) (I : Ii) (T : Tt) (r : Nat → Int32) (n m : Nat) (h : k_H27 I r n m) : ∃ J, c_X11_unmet_0 X (d + 12) I T = z_r (z_f1 (fun k => decide (R_ans r n k = 0)) m) J T ∧ z_fr m_cs I J := by
  obtain ⟨J, j1, j2⟩ := k_firstUnmet X (d + 2) I T r n m h
  refine ⟨J, ?_, j2⟩
  rw [e_X11_unmet_0, j1]
  simp (disch := omega) only [e_X11_unmet_0_3, k_X11_unmet_0_3, q_bd_l, z_ltT, z_ltF, z_eqT, z_eqF, z_ltlT, z_ltlF, z_lltT, z_lltF, z_eqlT, z_eqlF, z_in, z_k7, z_cl, z_lneg, z_llT, z_llF, z_s1, z_nI_cl, z_nlt0, z_ne_m1, z_b0, z_b1, z_la, z_al, z_lm, z_ml, z_nm, nI_add, pk_mul, ↓reduceIte, not_true_eq_false, not_false_eq_true, true_or, or_true, false_or, or_false, true_and, and_true, and_false, false_and, Classical.not_not, Nat.add_zero, z_01, z_em, z_bit_p, Nat.not_le, Nat.not_lt, reduceCtorEq, if_true, if_false]
theorem k_Xdummies (X : Sx) (d : Nat) (I : Ii) (T : Tt) (r : Nat → Int32) (n m : Nat) (h : k_H27 I r n m) : ∃ J, c_X11_dummies_0 X (d + 12) I T = z_r (z_set (fun j => decide (R_pow r n j = 0)) n) J T ∧ z_fr m_cs I J := by
  obtain ⟨J, j1, j2⟩ := k_powerless X (d + 8) I T r n m h
  refine ⟨J, ?_, j2⟩
  rw [e_X11_dummies_0, j1]
  simp (disch := omega) only [e_X11_dummies_0_3, k_X11_dummies_0_3, q_bd_l, z_ltT, z_ltF, z_eqT, z_eqF, z_ltlT, z_ltlF, z_lltT, z_lltF, z_eqlT, z_eqlF, z_in, z_k7, z_cl, z_lneg, z_llT, z_llF, z_s1, z_nI_cl, z_nlt0, z_ne_m1, z_b0, z_b1, z_la, z_al, z_lm, z_ml, z_nm, nI_add, pk_mul, ↓reduceIte, not_true_eq_false, not_false_eq_true, true_or, or_true, false_or, or_false, true_and, and_true, and_false, false_and, Classical.not_not, Nat.add_zero, z_01, z_em, z_bit_p, Nat.not_le, Nat.not_lt, reduceCtorEq, if_true, if_false]
theorem k_Xagree (X : Sx) (d : Nat) (I : Ii) (T : Tt) (r : Nat → Int32) (n m : Nat) (s : Int32) (h : k_H27 I r n m) : ∃ J, c_X11_agree_0 X (d + 12) s I T = z_r (R_ag r n s) J T ∧ z_fr m_cs I J := by
  obtain ⟨J, j1, j2⟩ := k_agreedBy X (d + 3) I T r n m (s &&& nI (2 ^ n - 1)) h
  rw [R_ag_and r n h.1.2.1] at j1
  refine ⟨J, ?_, j2⟩
  rw [e_X11_agree_0, k_everyJar X _ I T n (k_n3 h) h.1.2.1]
  simp (disch := omega) only [e_X11_agree_0_6, k_X11_agree_0_6, e_X11_agree_0_8, k_X11_agree_0_8, j1, q_bd_l, z_ltT, z_ltF, z_eqT, z_eqF, z_ltlT, z_ltlF, z_lltT, z_lltF, z_eqlT, z_eqlF, z_in, z_k7, z_cl, z_lneg, z_llT, z_llF, z_s1, z_nI_cl, z_nlt0, z_ne_m1, z_b0, z_b1, z_la, z_al, z_lm, z_ml, z_nm, nI_add, pk_mul, ↓reduceIte, not_true_eq_false, not_false_eq_true, true_or, or_true, false_or, or_false, true_and, and_true, and_false, false_and, Classical.not_not, Nat.add_zero, z_01, z_em, z_bit_p, Nat.not_le, Nat.not_lt, reduceCtorEq, if_true, if_false]
theorem k_Xwins (X : Sx) (d : Nat) (I : Ii) (T : Tt) (r : Nat → Int32) (n m : Nat) (s : Int32) (h : k_H27 I r n m) : c_X11_wins_0 X (d + 12) s I T = z_r (z_b (¬ R_seals r n s < r 5)) I T := by
  have j1 := k_isWinning X (d + 9) I T r n m (s &&& nI (2 ^ n - 1)) h
  rw [R_seals_and r n h.1.2.1] at j1
  rw [e_X11_wins_0, k_everyJar X _ I T n (k_n3 h) h.1.2.1]
  simp (disch := omega) only [e_X11_wins_0_6, k_X11_wins_0_6, e_X11_wins_0_8, k_X11_wins_0_8, j1, q_bd_l, z_ltT, z_ltF, z_eqT, z_eqF, z_ltlT, z_ltlF, z_lltT, z_lltF, z_eqlT, z_eqlF, z_in, z_k7, z_cl, z_lneg, z_llT, z_llF, z_s1, z_nI_cl, z_nlt0, z_ne_m1, z_b0, z_b1, z_la, z_al, z_lm, z_ml, z_nm, nI_add, pk_mul, ↓reduceIte, not_true_eq_false, not_false_eq_true, true_or, or_true, false_or, or_false, true_and, and_true, and_false, false_and, Classical.not_not, Nat.add_zero, z_01, z_em, z_bit_p, Nat.not_le, Nat.not_lt, reduceCtorEq, if_true, if_false]
  exact if_pos (Classical.em _)
theorem k_Xsmallest (X : Sx) (d : Nat) (I : Ii) (T : Tt) (r : Nat → Int32) (n m : Nat) (v : Int32) (h : k_H27 I r n m) : c_X11_smallest_0 X (d + 12) v I T = z_r (R_sm r n (decide (v ≠ 0))) I T := by
  have j1 := k_fewestWinning X (d + 7) I T r n m h
  have j2 := k_cheapestWinning X (d + 7) I T r n m h
  rw [e_X11_smallest_0]
  by_cases c : v = 0
  · have e : decide (v ≠ 0) = false := by simp [c]
    rw [e]
    simp (disch := omega) only [e_X11_smallest_0_5, k_X11_smallest_0_5, e_X11_smallest_0_9, k_X11_smallest_0_9, c, j1, q_bd_l, z_ltT, z_ltF, z_eqT, z_eqF, z_ltlT, z_ltlF, z_lltT, z_lltF, z_eqlT, z_eqlF, z_in, z_k7, z_cl, z_lneg, z_llT, z_llF, z_s1, z_nI_cl, z_nlt0, z_ne_m1, z_b0, z_b1, z_la, z_al, z_lm, z_ml, z_nm, nI_add, pk_mul, ↓reduceIte, not_true_eq_false, not_false_eq_true, true_or, or_true, false_or, or_false, true_and, and_true, and_false, false_and, Classical.not_not, Nat.add_zero, z_01, z_em, z_bit_p, Nat.not_le, Nat.not_lt, reduceCtorEq, if_true, if_false]
  · have e : decide (v ≠ 0) = true := by simp [c]
    rw [e]
    simp (disch := omega) only [e_X11_smallest_0_5, k_X11_smallest_0_5, e_X11_smallest_0_9, k_X11_smallest_0_9, c, j2, q_bd_l, z_ltT, z_ltF, z_eqT, z_eqF, z_ltlT, z_ltlF, z_lltT, z_lltF, z_eqlT, z_eqlF, z_in, z_k7, z_cl, z_lneg, z_llT, z_llF, z_s1, z_nI_cl, z_nlt0, z_ne_m1, z_b0, z_b1, z_la, z_al, z_lm, z_ml, z_nm, nI_add, pk_mul, ↓reduceIte, not_true_eq_false, not_false_eq_true, true_or, or_true, false_or, or_false, true_and, and_true, and_false, false_and, Classical.not_not, Nat.add_zero, z_01, z_em, z_bit_p, Nat.not_le, Nat.not_lt, reduceCtorEq, if_true, if_false]
