/-! ===== THE CLASS: moments copied, history ===== -/
def k_cp (I : Ii) (s t : Nat) : Ii := q_w (q_w (q_w (q_w (q_w (q_w (q_y (q_y (q_y (q_y I (s + 1) 0 (t + 1) 0 10) (s + 2) 0 (t + 2) 0 10) (s + 3) 0 (t + 3) 0 10) (s + 4) 0 (t + 4) 0 10) t 4 (I s 4)) t 5 (I s 5)) t 6 (I s 6)) t 7 (I s 7)) t 8 (I s 8)) t 9 (I s 9)
theorem k_cp_o (I : Ii) (s t a : Nat) (h : a < t ∨ t + 4 < a) : k_cp I s t a = I a := by
  unfold k_cp
  rw [z_w_a _ _ _ _ _ (by omega), z_w_a _ _ _ _ _ (by omega), z_w_a _ _ _ _ _ (by omega), z_w_a _ _ _ _ _ (by omega), z_w_a _ _ _ _ _ (by omega), z_w_a _ _ _ _ _ (by omega), z_y_a _ _ _ _ _ _ _ (by omega), z_y_a _ _ _ _ _ _ _ (by omega), z_y_a _ _ _ _ _ _ _ (by omega), z_y_a _ _ _ _ _ _ _ (by omega)]
theorem k_cp_f (I : Ii) (s t : Nat) : k_cp I s t t 4 = I s 4 ∧ k_cp I s t t 5 = I s 5 ∧ k_cp I s t t 6 = I s 6 ∧ k_cp I s t t 7 = I s 7 ∧ k_cp I s t t 8 = I s 8 ∧ k_cp I s t t 9 = I s 9 := by
  unfold k_cp
  refine ⟨?_, ?_, ?_, ?_, ?_, ?_⟩ <;> simp [z_w]
theorem k_cp_1 (I : Ii) (s t k : Nat) (h : s + 4 < t ∨ t + 4 < s) (hk : k < 10) : k_cp I s t (t + 1) k = I (s + 1) k ∧ k_cp I s t (t + 2) k = I (s + 2) k ∧ k_cp I s t (t + 3) k = I (s + 3) k ∧ k_cp I s t (t + 4) k = I (s + 4) k := by
  unfold k_cp
  refine ⟨?_, ?_, ?_, ?_⟩
  all_goals
    rw [z_w_a _ _ _ _ _ (by omega), z_w_a _ _ _ _ _ (by omega), z_w_a _ _ _ _ _ (by omega), z_w_a _ _ _ _ _ (by omega), z_w_a _ _ _ _ _ (by omega), z_w_a _ _ _ _ _ (by omega)]
  · rw [z_y_a _ _ _ _ _ _ _ (by omega), z_y_a _ _ _ _ _ _ _ (by omega), z_y_a _ _ _ _ _ _ _ (by omega), z_y_in _ _ _ _ _ hk]
  · rw [z_y_a _ _ _ _ _ _ _ (by omega), z_y_a _ _ _ _ _ _ _ (by omega), z_y_in _ _ _ _ _ hk, z_y_a _ _ _ _ _ _ _ (by omega)]
  · rw [z_y_a _ _ _ _ _ _ _ (by omega), z_y_in _ _ _ _ _ hk, z_y_a _ _ _ _ _ _ _ (by omega), z_y_a _ _ _ _ _ _ _ (by omega)]
  · rw [z_y_in _ _ _ _ _ hk, z_y_a _ _ _ _ _ _ _ (by omega), z_y_a _ _ _ _ _ _ _ (by omega), z_y_a _ _ _ _ _ _ _ (by omega)]
theorem k_cp_Mo (I : Ii) (s t : Nat) (r : Nat → Int32) (n : Nat) (h : s + 4 < t ∨ t + 4 < s) (hn : n ≤ 10) (hM : z_Mo I s r n) : z_Mo (k_cp I s t) t r n := by
  obtain ⟨b1, b2, b3, b4, b5, b6, b7, b8, o, b9, b10, b11⟩ := hM
  obtain ⟨f4, f5, f6, f7, f8, f9⟩ := k_cp_f I s t
  exact ⟨f5.trans b1, f7.trans b2, f6.trans b3, f9.trans b4, fun j hj => ((k_cp_1 I s t j h (by omega)).1).trans (b5 j hj), fun j hj => ((k_cp_1 I s t j h (by omega)).2.1).trans (b6 j hj), fun j hj => ((k_cp_1 I s t j h (by omega)).2.2.1).trans (b7 j hj), fun j hj => ((k_cp_1 I s t j h (by omega)).2.2.2).trans (b8 j hj), o, b9, f4.trans b10, b11⟩
theorem k_cp_Lg (I : Ii) (s t bk : Nat) (r : Nat → Int32) (g : Nat) (hb : bk < t ∨ t + 4 < bk) (hL : z_Lg I s bk r g) : z_Lg (k_cp I s t) t bk r g := by
  obtain ⟨f4, f5, f6, f7, f8, f9⟩ := k_cp_f I s t
  exact ⟨f8.trans hL.1, fun i c h1 h2 h3 => by rw [k_cp_o I s t bk hb]; exact hL.2 i c h1 h2 h3⟩
theorem k_cp_Lgo (I : Ii) (s t mo bk : Nat) (r : Nat → Int32) (g : Nat) (hb : bk < t ∨ t + 4 < bk) (hm : mo < t ∨ t + 4 < mo) (hL : z_Lg I mo bk r g) : z_Lg (k_cp I s t) mo bk r g := ⟨by rw [k_cp_o I s t mo hm]; exact hL.1, fun i c h1 h2 h3 => by rw [k_cp_o I s t bk hb]; exact hL.2 i c h1 h2 h3⟩
theorem k_bec_27_32 (X : Sx) (d : Nat) (I : Ii) (T : Tt) : c_X7_become_27_32 X (d + 1) I T = z_v (k_cp I 32 27) T := e_X7_become_27_32 X d I T
theorem k_bec_27_37 (X : Sx) (d : Nat) (I : Ii) (T : Tt) : c_X7_become_27_37 X (d + 1) I T = z_v (k_cp I 37 27) T := e_X7_become_27_37 X d I T
theorem k_bec_37_27 (X : Sx) (d : Nat) (I : Ii) (T : Tt) : c_X7_become_37_27 X (d + 1) I T = z_v (k_cp I 27 37) T := e_X7_become_37_27 X d I T
theorem k_bec_32_27 (X : Sx) (d : Nat) (I : Ii) (T : Tt) : c_X7_become_32_27 X (d + 1) I T = z_v (k_cp I 27 32) T := e_X7_become_32_27 X d I T
theorem k_bec_66_27 (X : Sx) (d : Nat) (I : Ii) (T : Tt) : c_X7_become_66_27 X (d + 1) I T = z_v (k_cp I 27 66) T := e_X7_become_66_27 X d I T
theorem k_bec_27_66 (X : Sx) (d : Nat) (I : Ii) (T : Tt) : c_X7_become_27_66 X (d + 1) I T = z_v (k_cp I 66 27) T := e_X7_become_27_66 X d I T
theorem k_bec_71_27 (X : Sx) (d : Nat) (I : Ii) (T : Tt) : c_X7_become_71_27 X (d + 1) I T = z_v (k_cp I 27 71) T := e_X7_become_71_27 X d I T
theorem k_bec_27_71 (X : Sx) (d : Nat) (I : Ii) (T : Tt) : c_X7_become_27_71 X (d + 1) I T = z_v (k_cp I 71 27) T := e_X7_become_27_71 X d I T
theorem k_bec_76_27 (X : Sx) (d : Nat) (I : Ii) (T : Tt) : c_X7_become_76_27 X (d + 1) I T = z_v (k_cp I 27 76) T := e_X7_become_76_27 X d I T
theorem k_bec_27_76 (X : Sx) (d : Nat) (I : Ii) (T : Tt) : c_X7_become_27_76 X (d + 1) I T = z_v (k_cp I 76 27) T := e_X7_become_27_76 X d I T
theorem k_bec_81_27 (X : Sx) (d : Nat) (I : Ii) (T : Tt) : c_X7_become_81_27 X (d + 1) I T = z_v (k_cp I 27 81) T := e_X7_become_81_27 X d I T
theorem k_bec_27_81 (X : Sx) (d : Nat) (I : Ii) (T : Tt) : c_X7_become_27_81 X (d + 1) I T = z_v (k_cp I 81 27) T := e_X7_become_27_81 X d I T
theorem k_bec_86_27 (X : Sx) (d : Nat) (I : Ii) (T : Tt) : c_X7_become_86_27 X (d + 1) I T = z_v (k_cp I 27 86) T := e_X7_become_86_27 X d I T
theorem k_bec_27_86 (X : Sx) (d : Nat) (I : Ii) (T : Tt) : c_X7_become_27_86 X (d + 1) I T = z_v (k_cp I 86 27) T := e_X7_become_27_86 X d I T
theorem k_bec_91_27 (X : Sx) (d : Nat) (I : Ii) (T : Tt) : c_X7_become_91_27 X (d + 1) I T = z_v (k_cp I 27 91) T := e_X7_become_91_27 X d I T
theorem k_bec_27_91 (X : Sx) (d : Nat) (I : Ii) (T : Tt) : c_X7_become_27_91 X (d + 1) I T = z_v (k_cp I 91 27) T := e_X7_become_27_91 X d I T
theorem k_bec_96_27 (X : Sx) (d : Nat) (I : Ii) (T : Tt) : c_X7_become_96_27 X (d + 1) I T = z_v (k_cp I 27 96) T := e_X7_become_96_27 X d I T
theorem k_bec_27_96 (X : Sx) (d : Nat) (I : Ii) (T : Tt) : c_X7_become_27_96 X (d + 1) I T = z_v (k_cp I 96 27) T := e_X7_become_27_96 X d I T
theorem k_bec_101_27 (X : Sx) (d : Nat) (I : Ii) (T : Tt) : c_X7_become_101_27 X (d + 1) I T = z_v (k_cp I 27 101) T := e_X7_become_101_27 X d I T
theorem k_bec_27_101 (X : Sx) (d : Nat) (I : Ii) (T : Tt) : c_X7_become_27_101 X (d + 1) I T = z_v (k_cp I 101 27) T := e_X7_become_27_101 X d I T
theorem k_bec_106_27 (X : Sx) (d : Nat) (I : Ii) (T : Tt) : c_X7_become_106_27 X (d + 1) I T = z_v (k_cp I 27 106) T := e_X7_become_106_27 X d I T
theorem k_bec_27_106 (X : Sx) (d : Nat) (I : Ii) (T : Tt) : c_X7_become_27_106 X (d + 1) I T = z_v (k_cp I 106 27) T := e_X7_become_27_106 X d I T
theorem k_bec_111_27 (X : Sx) (d : Nat) (I : Ii) (T : Tt) : c_X7_become_111_27 X (d + 1) I T = z_v (k_cp I 27 111) T := e_X7_become_111_27 X d I T
theorem k_bec_27_111 (X : Sx) (d : Nat) (I : Ii) (T : Tt) : c_X7_become_27_111 X (d + 1) I T = z_v (k_cp I 111 27) T := e_X7_become_27_111 X d I T
theorem k_bec_116_27 (X : Sx) (d : Nat) (I : Ii) (T : Tt) : c_X7_become_116_27 X (d + 1) I T = z_v (k_cp I 27 116) T := e_X7_become_116_27 X d I T
theorem k_bec_27_116 (X : Sx) (d : Nat) (I : Ii) (T : Tt) : c_X7_become_27_116 X (d + 1) I T = z_v (k_cp I 116 27) T := e_X7_become_27_116 X d I T
theorem k_bec_121_27 (X : Sx) (d : Nat) (I : Ii) (T : Tt) : c_X7_become_121_27 X (d + 1) I T = z_v (k_cp I 27 121) T := e_X7_become_121_27 X d I T
theorem k_bec_27_121 (X : Sx) (d : Nat) (I : Ii) (T : Tt) : c_X7_become_27_121 X (d + 1) I T = z_v (k_cp I 121 27) T := e_X7_become_27_121 X d I T
theorem k_rem4 (X : Sx) (d : Nat) (I : Ii) (T : Tt) (p : Nat) (hp : p < 12) : c_X3_remember_64_27_4 X (d + 1) (nI p) I T = c_X3_remember_64_27_7 X (d + 1) (k_cp I 27 (66 + 5 * p)) T := by
  have h : p = 0 ∨ p = 1 ∨ p = 2 ∨ p = 3 ∨ p = 4 ∨ p = 5 ∨ p = 6 ∨ p = 7 ∨ p = 8 ∨ p = 9 ∨ p = 10 ∨ p = 11 := by omega
  rcases h with rfl | rfl | rfl | rfl | rfl | rfl | rfl | rfl | rfl | rfl | rfl | rfl
  · refine (e_X3_remember_64_27_4_0 X (d + 1) I T).trans ?_
    rw [k_bec_66_27]
    simp (disch := omega) only [k_X3_remember_64_27_7, q_bd_l, z_ltT, z_ltF, z_eqT, z_eqF, z_ltlT, z_ltlF, z_lltT, z_lltF, z_eqlT, z_eqlF, z_in, z_k7, z_cl, z_lneg, z_llT, z_llF, z_s1, z_nI_cl, z_nlt0, z_ne_m1, z_b0, z_b1, z_la, z_al, z_lm, z_ml, z_nm, nI_add, pk_mul, ↓reduceIte, not_true_eq_false, not_false_eq_true, true_or, or_true, false_or, or_false, true_and, and_true, and_false, false_and, Classical.not_not, Nat.add_zero, z_01, z_em, z_bit_p, Nat.not_le, Nat.not_lt, reduceCtorEq, if_true, if_false]
  · refine (e_X3_remember_64_27_4_1 X (d + 1) I T).trans ?_
    rw [k_bec_71_27]
    simp (disch := omega) only [k_X3_remember_64_27_7, q_bd_l, z_ltT, z_ltF, z_eqT, z_eqF, z_ltlT, z_ltlF, z_lltT, z_lltF, z_eqlT, z_eqlF, z_in, z_k7, z_cl, z_lneg, z_llT, z_llF, z_s1, z_nI_cl, z_nlt0, z_ne_m1, z_b0, z_b1, z_la, z_al, z_lm, z_ml, z_nm, nI_add, pk_mul, ↓reduceIte, not_true_eq_false, not_false_eq_true, true_or, or_true, false_or, or_false, true_and, and_true, and_false, false_and, Classical.not_not, Nat.add_zero, z_01, z_em, z_bit_p, Nat.not_le, Nat.not_lt, reduceCtorEq, if_true, if_false]
  · refine (e_X3_remember_64_27_4_2 X (d + 1) I T).trans ?_
    rw [k_bec_76_27]
    simp (disch := omega) only [k_X3_remember_64_27_7, q_bd_l, z_ltT, z_ltF, z_eqT, z_eqF, z_ltlT, z_ltlF, z_lltT, z_lltF, z_eqlT, z_eqlF, z_in, z_k7, z_cl, z_lneg, z_llT, z_llF, z_s1, z_nI_cl, z_nlt0, z_ne_m1, z_b0, z_b1, z_la, z_al, z_lm, z_ml, z_nm, nI_add, pk_mul, ↓reduceIte, not_true_eq_false, not_false_eq_true, true_or, or_true, false_or, or_false, true_and, and_true, and_false, false_and, Classical.not_not, Nat.add_zero, z_01, z_em, z_bit_p, Nat.not_le, Nat.not_lt, reduceCtorEq, if_true, if_false]
  · refine (e_X3_remember_64_27_4_3 X (d + 1) I T).trans ?_
    rw [k_bec_81_27]
    simp (disch := omega) only [k_X3_remember_64_27_7, q_bd_l, z_ltT, z_ltF, z_eqT, z_eqF, z_ltlT, z_ltlF, z_lltT, z_lltF, z_eqlT, z_eqlF, z_in, z_k7, z_cl, z_lneg, z_llT, z_llF, z_s1, z_nI_cl, z_nlt0, z_ne_m1, z_b0, z_b1, z_la, z_al, z_lm, z_ml, z_nm, nI_add, pk_mul, ↓reduceIte, not_true_eq_false, not_false_eq_true, true_or, or_true, false_or, or_false, true_and, and_true, and_false, false_and, Classical.not_not, Nat.add_zero, z_01, z_em, z_bit_p, Nat.not_le, Nat.not_lt, reduceCtorEq, if_true, if_false]
  · refine (e_X3_remember_64_27_4_4 X (d + 1) I T).trans ?_
    rw [k_bec_86_27]
    simp (disch := omega) only [k_X3_remember_64_27_7, q_bd_l, z_ltT, z_ltF, z_eqT, z_eqF, z_ltlT, z_ltlF, z_lltT, z_lltF, z_eqlT, z_eqlF, z_in, z_k7, z_cl, z_lneg, z_llT, z_llF, z_s1, z_nI_cl, z_nlt0, z_ne_m1, z_b0, z_b1, z_la, z_al, z_lm, z_ml, z_nm, nI_add, pk_mul, ↓reduceIte, not_true_eq_false, not_false_eq_true, true_or, or_true, false_or, or_false, true_and, and_true, and_false, false_and, Classical.not_not, Nat.add_zero, z_01, z_em, z_bit_p, Nat.not_le, Nat.not_lt, reduceCtorEq, if_true, if_false]
  · refine (e_X3_remember_64_27_4_5 X (d + 1) I T).trans ?_
    rw [k_bec_91_27]
    simp (disch := omega) only [k_X3_remember_64_27_7, q_bd_l, z_ltT, z_ltF, z_eqT, z_eqF, z_ltlT, z_ltlF, z_lltT, z_lltF, z_eqlT, z_eqlF, z_in, z_k7, z_cl, z_lneg, z_llT, z_llF, z_s1, z_nI_cl, z_nlt0, z_ne_m1, z_b0, z_b1, z_la, z_al, z_lm, z_ml, z_nm, nI_add, pk_mul, ↓reduceIte, not_true_eq_false, not_false_eq_true, true_or, or_true, false_or, or_false, true_and, and_true, and_false, false_and, Classical.not_not, Nat.add_zero, z_01, z_em, z_bit_p, Nat.not_le, Nat.not_lt, reduceCtorEq, if_true, if_false]
  · refine (e_X3_remember_64_27_4_6 X (d + 1) I T).trans ?_
    rw [k_bec_96_27]
    simp (disch := omega) only [k_X3_remember_64_27_7, q_bd_l, z_ltT, z_ltF, z_eqT, z_eqF, z_ltlT, z_ltlF, z_lltT, z_lltF, z_eqlT, z_eqlF, z_in, z_k7, z_cl, z_lneg, z_llT, z_llF, z_s1, z_nI_cl, z_nlt0, z_ne_m1, z_b0, z_b1, z_la, z_al, z_lm, z_ml, z_nm, nI_add, pk_mul, ↓reduceIte, not_true_eq_false, not_false_eq_true, true_or, or_true, false_or, or_false, true_and, and_true, and_false, false_and, Classical.not_not, Nat.add_zero, z_01, z_em, z_bit_p, Nat.not_le, Nat.not_lt, reduceCtorEq, if_true, if_false]
  · refine (e_X3_remember_64_27_4_7 X (d + 1) I T).trans ?_
    rw [k_bec_101_27]
    simp (disch := omega) only [k_X3_remember_64_27_7, q_bd_l, z_ltT, z_ltF, z_eqT, z_eqF, z_ltlT, z_ltlF, z_lltT, z_lltF, z_eqlT, z_eqlF, z_in, z_k7, z_cl, z_lneg, z_llT, z_llF, z_s1, z_nI_cl, z_nlt0, z_ne_m1, z_b0, z_b1, z_la, z_al, z_lm, z_ml, z_nm, nI_add, pk_mul, ↓reduceIte, not_true_eq_false, not_false_eq_true, true_or, or_true, false_or, or_false, true_and, and_true, and_false, false_and, Classical.not_not, Nat.add_zero, z_01, z_em, z_bit_p, Nat.not_le, Nat.not_lt, reduceCtorEq, if_true, if_false]
  · refine (e_X3_remember_64_27_4_8 X (d + 1) I T).trans ?_
    rw [k_bec_106_27]
    simp (disch := omega) only [k_X3_remember_64_27_7, q_bd_l, z_ltT, z_ltF, z_eqT, z_eqF, z_ltlT, z_ltlF, z_lltT, z_lltF, z_eqlT, z_eqlF, z_in, z_k7, z_cl, z_lneg, z_llT, z_llF, z_s1, z_nI_cl, z_nlt0, z_ne_m1, z_b0, z_b1, z_la, z_al, z_lm, z_ml, z_nm, nI_add, pk_mul, ↓reduceIte, not_true_eq_false, not_false_eq_true, true_or, or_true, false_or, or_false, true_and, and_true, and_false, false_and, Classical.not_not, Nat.add_zero, z_01, z_em, z_bit_p, Nat.not_le, Nat.not_lt, reduceCtorEq, if_true, if_false]
  · refine (e_X3_remember_64_27_4_9 X (d + 1) I T).trans ?_
    rw [k_bec_111_27]
    simp (disch := omega) only [k_X3_remember_64_27_7, q_bd_l, z_ltT, z_ltF, z_eqT, z_eqF, z_ltlT, z_ltlF, z_lltT, z_lltF, z_eqlT, z_eqlF, z_in, z_k7, z_cl, z_lneg, z_llT, z_llF, z_s1, z_nI_cl, z_nlt0, z_ne_m1, z_b0, z_b1, z_la, z_al, z_lm, z_ml, z_nm, nI_add, pk_mul, ↓reduceIte, not_true_eq_false, not_false_eq_true, true_or, or_true, false_or, or_false, true_and, and_true, and_false, false_and, Classical.not_not, Nat.add_zero, z_01, z_em, z_bit_p, Nat.not_le, Nat.not_lt, reduceCtorEq, if_true, if_false]
  · refine (e_X3_remember_64_27_4_10 X (d + 1) I T).trans ?_
    rw [k_bec_116_27]
    simp (disch := omega) only [k_X3_remember_64_27_7, q_bd_l, z_ltT, z_ltF, z_eqT, z_eqF, z_ltlT, z_ltlF, z_lltT, z_lltF, z_eqlT, z_eqlF, z_in, z_k7, z_cl, z_lneg, z_llT, z_llF, z_s1, z_nI_cl, z_nlt0, z_ne_m1, z_b0, z_b1, z_la, z_al, z_lm, z_ml, z_nm, nI_add, pk_mul, ↓reduceIte, not_true_eq_false, not_false_eq_true, true_or, or_true, false_or, or_false, true_and, and_true, and_false, false_and, Classical.not_not, Nat.add_zero, z_01, z_em, z_bit_p, Nat.not_le, Nat.not_lt, reduceCtorEq, if_true, if_false]
  · refine (e_X3_remember_64_27_4_11 X (d + 1) I T).trans ?_
    rw [k_bec_121_27]
    simp (disch := omega) only [k_X3_remember_64_27_7, q_bd_l, z_ltT, z_ltF, z_eqT, z_eqF, z_ltlT, z_ltlF, z_lltT, z_lltF, z_eqlT, z_eqlF, z_in, z_k7, z_cl, z_lneg, z_llT, z_llF, z_s1, z_nI_cl, z_nlt0, z_ne_m1, z_b0, z_b1, z_la, z_al, z_lm, z_ml, z_nm, nI_add, pk_mul, ↓reduceIte, not_true_eq_false, not_false_eq_true, true_or, or_true, false_or, or_false, true_and, and_true, and_false, false_and, Classical.not_not, Nat.add_zero, z_01, z_em, z_bit_p, Nat.not_le, Nat.not_lt, reduceCtorEq, if_true, if_false]
theorem k_giv26 (X : Sx) (d : Nat) (I : Ii) (T : Tt) (p : Nat) (hp : p < 12) : c_X3_giveBack_64_27_26 X (d + 1) (nI p) I T = c_X3_giveBack_64_27_28 X (d + 1) (k_cp I (66 + 5 * p) 27) T := by
  have h : p = 0 ∨ p = 1 ∨ p = 2 ∨ p = 3 ∨ p = 4 ∨ p = 5 ∨ p = 6 ∨ p = 7 ∨ p = 8 ∨ p = 9 ∨ p = 10 ∨ p = 11 := by omega
  rcases h with rfl | rfl | rfl | rfl | rfl | rfl | rfl | rfl | rfl | rfl | rfl | rfl
  · refine (e_X3_giveBack_64_27_26_0 X (d + 1) I T).trans ?_
    rw [k_bec_27_66]
    simp (disch := omega) only [k_X3_giveBack_64_27_28, q_bd_l, z_ltT, z_ltF, z_eqT, z_eqF, z_ltlT, z_ltlF, z_lltT, z_lltF, z_eqlT, z_eqlF, z_in, z_k7, z_cl, z_lneg, z_llT, z_llF, z_s1, z_nI_cl, z_nlt0, z_ne_m1, z_b0, z_b1, z_la, z_al, z_lm, z_ml, z_nm, nI_add, pk_mul, ↓reduceIte, not_true_eq_false, not_false_eq_true, true_or, or_true, false_or, or_false, true_and, and_true, and_false, false_and, Classical.not_not, Nat.add_zero, z_01, z_em, z_bit_p, Nat.not_le, Nat.not_lt, reduceCtorEq, if_true, if_false]
  · refine (e_X3_giveBack_64_27_26_1 X (d + 1) I T).trans ?_
    rw [k_bec_27_71]
    simp (disch := omega) only [k_X3_giveBack_64_27_28, q_bd_l, z_ltT, z_ltF, z_eqT, z_eqF, z_ltlT, z_ltlF, z_lltT, z_lltF, z_eqlT, z_eqlF, z_in, z_k7, z_cl, z_lneg, z_llT, z_llF, z_s1, z_nI_cl, z_nlt0, z_ne_m1, z_b0, z_b1, z_la, z_al, z_lm, z_ml, z_nm, nI_add, pk_mul, ↓reduceIte, not_true_eq_false, not_false_eq_true, true_or, or_true, false_or, or_false, true_and, and_true, and_false, false_and, Classical.not_not, Nat.add_zero, z_01, z_em, z_bit_p, Nat.not_le, Nat.not_lt, reduceCtorEq, if_true, if_false]
  · refine (e_X3_giveBack_64_27_26_2 X (d + 1) I T).trans ?_
    rw [k_bec_27_76]
    simp (disch := omega) only [k_X3_giveBack_64_27_28, q_bd_l, z_ltT, z_ltF, z_eqT, z_eqF, z_ltlT, z_ltlF, z_lltT, z_lltF, z_eqlT, z_eqlF, z_in, z_k7, z_cl, z_lneg, z_llT, z_llF, z_s1, z_nI_cl, z_nlt0, z_ne_m1, z_b0, z_b1, z_la, z_al, z_lm, z_ml, z_nm, nI_add, pk_mul, ↓reduceIte, not_true_eq_false, not_false_eq_true, true_or, or_true, false_or, or_false, true_and, and_true, and_false, false_and, Classical.not_not, Nat.add_zero, z_01, z_em, z_bit_p, Nat.not_le, Nat.not_lt, reduceCtorEq, if_true, if_false]
  · refine (e_X3_giveBack_64_27_26_3 X (d + 1) I T).trans ?_
    rw [k_bec_27_81]
    simp (disch := omega) only [k_X3_giveBack_64_27_28, q_bd_l, z_ltT, z_ltF, z_eqT, z_eqF, z_ltlT, z_ltlF, z_lltT, z_lltF, z_eqlT, z_eqlF, z_in, z_k7, z_cl, z_lneg, z_llT, z_llF, z_s1, z_nI_cl, z_nlt0, z_ne_m1, z_b0, z_b1, z_la, z_al, z_lm, z_ml, z_nm, nI_add, pk_mul, ↓reduceIte, not_true_eq_false, not_false_eq_true, true_or, or_true, false_or, or_false, true_and, and_true, and_false, false_and, Classical.not_not, Nat.add_zero, z_01, z_em, z_bit_p, Nat.not_le, Nat.not_lt, reduceCtorEq, if_true, if_false]
  · refine (e_X3_giveBack_64_27_26_4 X (d + 1) I T).trans ?_
    rw [k_bec_27_86]
    simp (disch := omega) only [k_X3_giveBack_64_27_28, q_bd_l, z_ltT, z_ltF, z_eqT, z_eqF, z_ltlT, z_ltlF, z_lltT, z_lltF, z_eqlT, z_eqlF, z_in, z_k7, z_cl, z_lneg, z_llT, z_llF, z_s1, z_nI_cl, z_nlt0, z_ne_m1, z_b0, z_b1, z_la, z_al, z_lm, z_ml, z_nm, nI_add, pk_mul, ↓reduceIte, not_true_eq_false, not_false_eq_true, true_or, or_true, false_or, or_false, true_and, and_true, and_false, false_and, Classical.not_not, Nat.add_zero, z_01, z_em, z_bit_p, Nat.not_le, Nat.not_lt, reduceCtorEq, if_true, if_false]
  · refine (e_X3_giveBack_64_27_26_5 X (d + 1) I T).trans ?_
    rw [k_bec_27_91]
    simp (disch := omega) only [k_X3_giveBack_64_27_28, q_bd_l, z_ltT, z_ltF, z_eqT, z_eqF, z_ltlT, z_ltlF, z_lltT, z_lltF, z_eqlT, z_eqlF, z_in, z_k7, z_cl, z_lneg, z_llT, z_llF, z_s1, z_nI_cl, z_nlt0, z_ne_m1, z_b0, z_b1, z_la, z_al, z_lm, z_ml, z_nm, nI_add, pk_mul, ↓reduceIte, not_true_eq_false, not_false_eq_true, true_or, or_true, false_or, or_false, true_and, and_true, and_false, false_and, Classical.not_not, Nat.add_zero, z_01, z_em, z_bit_p, Nat.not_le, Nat.not_lt, reduceCtorEq, if_true, if_false]
  · refine (e_X3_giveBack_64_27_26_6 X (d + 1) I T).trans ?_
    rw [k_bec_27_96]
    simp (disch := omega) only [k_X3_giveBack_64_27_28, q_bd_l, z_ltT, z_ltF, z_eqT, z_eqF, z_ltlT, z_ltlF, z_lltT, z_lltF, z_eqlT, z_eqlF, z_in, z_k7, z_cl, z_lneg, z_llT, z_llF, z_s1, z_nI_cl, z_nlt0, z_ne_m1, z_b0, z_b1, z_la, z_al, z_lm, z_ml, z_nm, nI_add, pk_mul, ↓reduceIte, not_true_eq_false, not_false_eq_true, true_or, or_true, false_or, or_false, true_and, and_true, and_false, false_and, Classical.not_not, Nat.add_zero, z_01, z_em, z_bit_p, Nat.not_le, Nat.not_lt, reduceCtorEq, if_true, if_false]
  · refine (e_X3_giveBack_64_27_26_7 X (d + 1) I T).trans ?_
    rw [k_bec_27_101]
    simp (disch := omega) only [k_X3_giveBack_64_27_28, q_bd_l, z_ltT, z_ltF, z_eqT, z_eqF, z_ltlT, z_ltlF, z_lltT, z_lltF, z_eqlT, z_eqlF, z_in, z_k7, z_cl, z_lneg, z_llT, z_llF, z_s1, z_nI_cl, z_nlt0, z_ne_m1, z_b0, z_b1, z_la, z_al, z_lm, z_ml, z_nm, nI_add, pk_mul, ↓reduceIte, not_true_eq_false, not_false_eq_true, true_or, or_true, false_or, or_false, true_and, and_true, and_false, false_and, Classical.not_not, Nat.add_zero, z_01, z_em, z_bit_p, Nat.not_le, Nat.not_lt, reduceCtorEq, if_true, if_false]
  · refine (e_X3_giveBack_64_27_26_8 X (d + 1) I T).trans ?_
    rw [k_bec_27_106]
    simp (disch := omega) only [k_X3_giveBack_64_27_28, q_bd_l, z_ltT, z_ltF, z_eqT, z_eqF, z_ltlT, z_ltlF, z_lltT, z_lltF, z_eqlT, z_eqlF, z_in, z_k7, z_cl, z_lneg, z_llT, z_llF, z_s1, z_nI_cl, z_nlt0, z_ne_m1, z_b0, z_b1, z_la, z_al, z_lm, z_ml, z_nm, nI_add, pk_mul, ↓reduceIte, not_true_eq_false, not_false_eq_true, true_or, or_true, false_or, or_false, true_and, and_true, and_false, false_and, Classical.not_not, Nat.add_zero, z_01, z_em, z_bit_p, Nat.not_le, Nat.not_lt, reduceCtorEq, if_true, if_false]
  · refine (e_X3_giveBack_64_27_26_9 X (d + 1) I T).trans ?_
    rw [k_bec_27_111]
    simp (disch := omega) only [k_X3_giveBack_64_27_28, q_bd_l, z_ltT, z_ltF, z_eqT, z_eqF, z_ltlT, z_ltlF, z_lltT, z_lltF, z_eqlT, z_eqlF, z_in, z_k7, z_cl, z_lneg, z_llT, z_llF, z_s1, z_nI_cl, z_nlt0, z_ne_m1, z_b0, z_b1, z_la, z_al, z_lm, z_ml, z_nm, nI_add, pk_mul, ↓reduceIte, not_true_eq_false, not_false_eq_true, true_or, or_true, false_or, or_false, true_and, and_true, and_false, false_and, Classical.not_not, Nat.add_zero, z_01, z_em, z_bit_p, Nat.not_le, Nat.not_lt, reduceCtorEq, if_true, if_false]
  · refine (e_X3_giveBack_64_27_26_10 X (d + 1) I T).trans ?_
    rw [k_bec_27_116]
    simp (disch := omega) only [k_X3_giveBack_64_27_28, q_bd_l, z_ltT, z_ltF, z_eqT, z_eqF, z_ltlT, z_ltlF, z_lltT, z_lltF, z_eqlT, z_eqlF, z_in, z_k7, z_cl, z_lneg, z_llT, z_llF, z_s1, z_nI_cl, z_nlt0, z_ne_m1, z_b0, z_b1, z_la, z_al, z_lm, z_ml, z_nm, nI_add, pk_mul, ↓reduceIte, not_true_eq_false, not_false_eq_true, true_or, or_true, false_or, or_false, true_and, and_true, and_false, false_and, Classical.not_not, Nat.add_zero, z_01, z_em, z_bit_p, Nat.not_le, Nat.not_lt, reduceCtorEq, if_true, if_false]
  · refine (e_X3_giveBack_64_27_26_11 X (d + 1) I T).trans ?_
    rw [k_bec_27_121]
    simp (disch := omega) only [k_X3_giveBack_64_27_28, q_bd_l, z_ltT, z_ltF, z_eqT, z_eqF, z_ltlT, z_ltlF, z_lltT, z_lltF, z_eqlT, z_eqlF, z_in, z_k7, z_cl, z_lneg, z_llT, z_llF, z_s1, z_nI_cl, z_nlt0, z_ne_m1, z_b0, z_b1, z_la, z_al, z_lm, z_ml, z_nm, nI_add, pk_mul, ↓reduceIte, not_true_eq_false, not_false_eq_true, true_or, or_true, false_or, or_false, true_and, and_true, and_false, false_and, Classical.not_not, Nat.add_zero, z_01, z_em, z_bit_p, Nat.not_le, Nat.not_lt, reduceCtorEq, if_true, if_false]
theorem k_remember (X : Sx) (d : Nat) (I : Ii) (T : Tt) (p z : Nat) (hp : p < 12) (hz : z ≤ 12) (h1 : I 64 1 = nI p) (h2 : I 64 2 = nI z) : c_X3_remember_64_27 X (d + 2) I T = z_v (q_w (q_w (k_cp I 27 (66 + 5 * p)) 64 1 (nI ((p + 1) % 12))) 64 2 (nI (if z < 12 then z + 1 else 12))) T := by
  have e1 : nI (p + 1) - nI (p + 1) / 12 * 12 = nI ((p + 1) % 12) := pk_rem (a := p + 1) (d := 12) (by omega) (by decide) (by decide)
  have e3 : k_cp I 27 (66 + 5 * p) 64 = I 64 := k_cp_o I 27 (66 + 5 * p) 64 (by omega)
  have e2 : (if nI (z + 1) < (12 : Int32) then nI (z + 1) else 12) = nI (if z < 12 then z + 1 else 12) := by
    have e : (12 : Int32) = nI 12 := rfl
    rw [e]
    by_cases c : z + 1 < 12
    · rw [if_pos (nI_lt c (by omega)), if_pos (by omega)]
    · rw [if_neg (nI_nlt (by omega) (by omega))]
      by_cases c2 : z < 12
      · rw [if_pos c2]; congr 1; omega
      · rw [if_neg c2]
  rw [e_X3_remember_64_27, h1, k_rem4 X d I T p hp, e_X3_remember_64_27_7, e3, h1, h2]
  simp (disch := omega) only [e1, e2, q_bd_l, z_ltT, z_ltF, z_eqT, z_eqF, z_ltlT, z_ltlF, z_lltT, z_lltF, z_eqlT, z_eqlF, z_in, z_k7, z_cl, z_lneg, z_llT, z_llF, z_s1, z_nI_cl, z_nlt0, z_ne_m1, z_b0, z_b1, z_la, z_al, z_lm, z_ml, z_nm, nI_add, pk_mul, ↓reduceIte, not_true_eq_false, not_false_eq_true, true_or, or_true, false_or, or_false, true_and, and_true, and_false, false_and, Classical.not_not, Nat.add_zero, z_01, z_em, z_bit_p, Nat.not_le, Nat.not_lt, reduceCtorEq, if_true, if_false]
theorem k_giveBack0 (X : Sx) (d : Nat) (I : Ii) (T : Tt) (h2 : I 64 2 = nI 0) : c_X3_giveBack_64_27 X (d + 2) I T = z_r 0 I T := by
  rw [e_X3_giveBack_64_27, h2]
  exact if_pos rfl
theorem k_giveBack1 (X : Sx) (d : Nat) (I : Ii) (T : Tt) (p z : Nat) (hp : p < 12) (hz : z < 12) (h1 : I 64 1 = nI p) (h2 : I 64 2 = nI (z + 1)) : c_X3_giveBack_64_27 X (d + 2) I T = z_r 1 (k_cp (q_w (q_w I 64 1 (nI ((p + 11) % 12))) 64 2 (nI z)) (66 + 5 * ((p + 11) % 12)) 27) T := by
  have e0 : nI p + (12 : Int32) - 1 = nI (p + 11) := by rw [z_al]; exact pk_sub (a := p + 12) (b := 1) (by omega)
  have e1 : nI (p + 11) - nI (p + 11) / 12 * 12 = nI ((p + 11) % 12) := pk_rem (a := p + 11) (d := 12) (by omega) (by decide) (by decide)
  have e2 : nI (z + 1) - (1 : Int32) = nI z := pk_sub (a := z + 1) (b := 1) (by omega)
  have e3 : ¬ nI (z + 1) = 0 := by
    have e : (0 : Int32) = nI 0 := rfl
    rw [e, z_nI_eq _ _ (by omega) (by omega)]; omega
  rw [e_X3_giveBack_64_27, h1, h2, if_neg e3, e0, e1, e2, k_giv26 X d _ T _ (Nat.mod_lt _ (by decide)), e_X3_giveBack_64_27_28]
theorem k_forget (X : Sx) (d : Nat) (I : Ii) (T : Tt) : c_X3_forget_64 X (d + 1) I T = z_v (q_w I 64 2 0) T := e_X3_forget_64 X d I T
