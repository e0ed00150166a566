/-! ===== THE CLASS READS THE CABINET: any line ===== -/
theorem z_ck_o {I : Ii} {T : Tt} {B : Nat → Nat} {N q1 n m : Nat} {r' : Nat → Int32} {x : Rs} {J : Ii} (ho : R_ok r' n m) (h1 : x = z_r 1 J T) (h2 : z_Rd J B N q1) (h3 : k_D J r' n m) (h4 : z_fr m_rd I J) : z_ck I T B N (.ok (q1, r')) x := ⟨fun _ _ h n' m' ho' => by
  cases h
  obtain ⟨e1, e2⟩ := z_nm_u ho ho'
  rw [e1, e2]
  exact ⟨J, h1, h2, h3, h4⟩, fun _ h => (by cases h)⟩
theorem k_readNeed (X : Sx) (d : Nat) (I : Ii) (T : Tt) {B : Nat → Nat} {N p n m : Nat} {r : Nat → Int32} (h : z_Rd I B N p) (hD : k_D I r n m) (ho : R_ok r n m) (hm : m < 10) : z_ck I T B N (C_need B N m r (t_nx B N p)) (c_X0_readNeed_126 X (d + 5) I T) := by
  have hn := ho.2.1
  have i5 : I 11 5 = nI m := hD.1.2.1.trans ho.2.2.1
  obtain ⟨S, s1, s2, s3, -⟩ := k_stepR X (d + 3) I T h
  have DS := k_D_ta hD s2
  have y5 : S 32 5 = r 8 := DS.2.1
  rw [e_X0_readNeed_126, i5, s1]
  unfold C_need
  generalize t_nx B N p = s at *
  obtain ⟨n1, n2⟩ := k_num X (d + 1) (r 8) 9999 S T s3
  by_cases c1 : t_isN (r 8) 9999 4 B N s = true
  rotate_left
  · rw [if_neg c1]
    obtain ⟨A, a1, a2, a3⟩ := n2 c1
    refine z_ck_e (J := A) ?_ a3 (z_rd_ta (z_fr_t s2 a2))
    simp (disch := omega) only [e_X0_readNeed_126_7, k_X0_readNeed_126_7, e_X0_readNeed_126_13, k_X0_readNeed_126_13, y5, a1, q_bd_l, z_ltT, z_ltF, z_eqT, z_eqF, z_ltlT, z_ltlF, z_lltT, z_lltF, z_eqlT, z_eqlF, z_in, z_k7, z_cl, z_lneg, z_llT, z_llF, z_s1, z_nI_cl, z_nlt0, z_ne_m1, z_b0, z_b1, z_la, z_al, z_lm, z_ml, z_nm, nI_add, pk_mul, ↓reduceIte, not_true_eq_false, not_false_eq_true, true_or, or_true, false_or, or_false, true_and, and_true, and_false, false_and, Classical.not_not, Nat.add_zero, z_01, z_em, z_bit_p, Nat.not_le, Nat.not_lt, reduceCtorEq, if_true, if_false]
  rw [if_pos c1]
  obtain ⟨A, a1, a2, a3, a4⟩ := n1 c1
  have h1 := z_Rd_w a3 16 m (A 1 6) (by omega)
  have f1 : z_fr m_rd I (q_w A 16 m (A 1 6)) := z_fr_w (z_rd_ta (z_fr_t s2 a2)) 16 m _ (by simp [m_rd])
  obtain ⟨n3, n4⟩ := k_num X (d + 1) 0 5 _ T h1
  by_cases c2 : t_isN 0 5 4 B N (t_nx B N s) = true
  rotate_left
  · rw [if_neg c2]
    obtain ⟨C, b1, b2, b3⟩ := n4 c2
    refine z_ck_e (J := C) ?_ b3 (z_fr_t f1 (z_rd_ta b2))
    simp (disch := omega) only [e_X0_readNeed_126_7, k_X0_readNeed_126_7, e_X0_readNeed_126_13, k_X0_readNeed_126_13, e_X0_readNeed_126_28, k_X0_readNeed_126_28, y5, a1, b1, q_bd_l, z_ltT, z_ltF, z_eqT, z_eqF, z_ltlT, z_ltlF, z_lltT, z_lltF, z_eqlT, z_eqlF, z_in, z_k7, z_cl, z_lneg, z_llT, z_llF, z_s1, z_nI_cl, z_nlt0, z_ne_m1, z_b0, z_b1, z_la, z_al, z_lm, z_ml, z_nm, nI_add, pk_mul, ↓reduceIte, not_true_eq_false, not_false_eq_true, true_or, or_true, false_or, or_false, true_and, and_true, and_false, false_and, Classical.not_not, Nat.add_zero, z_01, z_em, z_bit_p, Nat.not_le, Nat.not_lt, reduceCtorEq, if_true, if_false]
  rw [if_pos c2]
  obtain ⟨C, b1, b2, b3, b4⟩ := n3 c2
  have h2 := z_Rd_w b3 17 m (C 1 6) (by omega)
  have f2 : z_fr m_rd I (q_w C 17 m (C 1 6)) := z_fr_w (z_fr_t f1 (z_rd_ta b2)) 17 m _ (by simp [m_rd])
  obtain ⟨n5, n6⟩ := k_num X (d + 1) 1 9 _ T h2
  by_cases c3 : t_isN 1 9 4 B N (t_nx B N (t_nx B N s)) = true
  rotate_left
  · rw [if_neg c3]
    obtain ⟨E, e1, e2, e3⟩ := n6 c3
    refine z_ck_e (J := E) ?_ e3 (z_fr_t f2 (z_rd_ta e2))
    simp (disch := omega) only [e_X0_readNeed_126_7, k_X0_readNeed_126_7, e_X0_readNeed_126_13, k_X0_readNeed_126_13, e_X0_readNeed_126_28, k_X0_readNeed_126_28, e_X0_readNeed_126_43, k_X0_readNeed_126_43, y5, a1, b1, e1, q_bd_l, z_ltT, z_ltF, z_eqT, z_eqF, z_ltlT, z_ltlF, z_lltT, z_lltF, z_eqlT, z_eqlF, z_in, z_k7, z_cl, z_lneg, z_llT, z_llF, z_s1, z_nI_cl, z_nlt0, z_ne_m1, z_b0, z_b1, z_la, z_al, z_lm, z_ml, z_nm, nI_add, pk_mul, ↓reduceIte, not_true_eq_false, not_false_eq_true, true_or, or_true, false_or, or_false, true_and, and_true, and_false, false_and, Classical.not_not, Nat.add_zero, z_01, z_em, z_bit_p, Nat.not_le, Nat.not_lt, reduceCtorEq, if_true, if_false]
  rw [if_pos c3]
  obtain ⟨E, e1, e2, e3, e4⟩ := n5 c3
  have ok := R_ok_nd (a := c_nm B N s) ho hm (c_nm_le (h := 5) (by omega) c2) (c_nm_le (h := 9) (by omega) c3)
  refine z_ck_o (J := q_w (q_w E 18 m (E 1 6)) 11 5 (nI (m + 1))) ok ?_ (z_Rd_w (z_Rd_w e3 18 _ _ (by omega)) 11 _ _ (by omega)) ?_ (z_fr_w (z_fr_w (z_fr_t f2 (z_rd_ta e2)) 18 m _ (by simp [m_rd])) 11 5 _ rfl)
  · simp (disch := omega) only [e_X0_readNeed_126_7, k_X0_readNeed_126_7, e_X0_readNeed_126_13, k_X0_readNeed_126_13, e_X0_readNeed_126_28, k_X0_readNeed_126_28, e_X0_readNeed_126_43, k_X0_readNeed_126_43, y5, a1, b1, e1, q_bd_l, z_ltT, z_ltF, z_eqT, z_eqF, z_ltlT, z_ltlF, z_lltT, z_lltF, z_eqlT, z_eqlF, z_in, z_k7, z_cl, z_lneg, z_llT, z_llF, z_s1, z_nI_cl, z_nlt0, z_ne_m1, z_b0, z_b1, z_la, z_al, z_lm, z_ml, z_nm, nI_add, pk_mul, ↓reduceIte, not_true_eq_false, not_false_eq_true, true_or, or_true, false_or, or_false, true_and, and_true, and_false, false_and, Classical.not_not, Nat.add_zero, z_01, z_em, z_bit_p, Nat.not_le, Nat.not_lt, reduceCtorEq, if_true, if_false]
  · -- the same cells as if all were written at the end
    have DS' := k_D_nd (a := c_nm B N s) (b := c_nm B N (t_nx B N s)) (c := c_nm B N (t_nx B N (t_nx B N s))) DS hn hm
    refine k_D_cg DS' (fun a k ha => ?_)
    rw [z_w, z_w, z_w, z_w, z_w, z_w]
    by_cases q1 : a = 11 ∧ k = 5
    · rw [if_pos q1, if_pos q1]
    rw [if_neg q1, if_neg q1]
    by_cases q2 : a = 18 ∧ k = m
    · rw [if_pos q2, if_pos q2]; exact e4
    rw [if_neg q2, if_neg q2, e2 a k (m_ta_a ha), z_w]
    by_cases q3 : a = 17 ∧ k = m
    · rw [if_pos q3, if_pos q3]; exact b4
    rw [if_neg q3, if_neg q3, b2 a k (m_ta_a ha), z_w]
    by_cases q4 : a = 16 ∧ k = m
    · rw [if_pos q4, if_pos q4]; exact a4
    rw [if_neg q4, if_neg q4, a2 a k (m_ta_a ha)]
