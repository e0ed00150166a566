/-! ===== THE CLASS READS THE CABINET: its text ===== -/
theorem z_ck_e2 {I : Ii} {T : Tt} {B : Nat → Nat} {N e : Nat} {x : Rs} {J : Ii} (h1 : x = z_r 0 J T) (h2 : J 1 2 = nI e) (h3 : e ≤ N) (h4 : z_fr m_rd I J) : z_ck I T B N (.error e) x := ⟨fun _ _ h => (by cases h), fun e' h => by cases h; exact ⟨J, h1, h2, h3, h4⟩⟩
theorem z_ck_m {I J : Ii} {T : Tt} {B : Nat → Nat} {N : Nat} {res : Cr} {x : Rs} (h : z_ck J T B N res x) (hf : z_fr m_rd I J) : z_ck I T B N res x := ⟨fun q1 r' e n' m' ho => by
  obtain ⟨K, h1, h2, h3, h4⟩ := h.1 q1 r' e n' m' ho
  exact ⟨K, h1, h2, h3, z_fr_t hf h4⟩, fun e he => by
  obtain ⟨K, h1, h2, h3, h4⟩ := h.2 e he
  exact ⟨K, h1, h2, h3, z_fr_t hf h4⟩⟩
theorem k_light (X : Sx) (d : Nat) (I : Ii) (T : Tt) {B : Nat → Nat} {N p n m : Nat} {r : Nat → Int32} (h : z_Rd I B N p) (hD : k_D I r n m) (ho : R_ok r n m) : z_ck I T B N (if t_isN 0 11 4 B N p = true then C_tell B N (142 + t_num B p (t_nf B N p)) 0 9 r (t_nx B N p) else .error p) (c_X0_readLight_126 X (d + 4) I T) := by
  have hn := ho.2.1
  have hm := ho.2.2.2.1
  obtain ⟨n1, n2⟩ := k_num X d 0 11 I T h
  rw [e_X0_readLight_126]
  by_cases c1 : t_isN 0 11 4 B N p = true
  rotate_left
  · rw [if_neg c1]
    obtain ⟨A, a1, a2, a3⟩ := n2 c1
    refine z_ck_e (J := A) ?_ a3 (z_rd_ta a2)
    simp (disch := omega) only [e_X0_readLight_126_4, k_X0_readLight_126_4, a1, q_bd_l, z_ltT, z_ltF, z_eqT, z_eqF, z_ltlT, z_ltlF, z_lltT, z_lltF, z_eqlT, z_eqlF, z_in, z_k7, z_cl, z_lneg, z_llT, z_llF, z_s1, z_nI_cl, z_nlt0, z_ne_m1, z_b0, z_b1, z_la, z_al, z_lm, z_ml, z_nm, nI_add, pk_mul, ↓reduceIte, not_true_eq_false, not_false_eq_true, true_or, or_true, false_or, or_false, true_and, and_true, and_false, false_and, Classical.not_not, Nat.add_zero, z_01, z_em, z_bit_p, Nat.not_le, Nat.not_lt, reduceCtorEq, if_true, if_false]
  rw [if_pos c1]
  obtain ⟨A, a1, a2, a3, a4⟩ := n1 c1
  obtain ⟨x, hx1, hx2⟩ := c_nm_le (h := 11) (by omega) c1
  have hx3 := (t_isN_lt c1).2.2.2.1
  have hx4 : t_num B p (t_nf B N p) = x := by
    have : (nI (t_num B p (t_nf B N p)) = nI x) = _ := z_nI_eq _ _ (by omega) (by omega)
    exact this.mp hx2
  rw [hx2] at a4
  rw [hx4]
  obtain ⟨n3, n4⟩ := k_num X d 0 9 A T a3
  unfold C_tell
  by_cases c2 : t_isN 0 9 4 B N (t_nx B N p) = true
  rotate_left
  · rw [if_neg c2]
    obtain ⟨C, b1, b2, b3⟩ := n4 c2
    refine z_ck_e (J := C) ?_ b3 (z_rd_ta (z_fr_t a2 b2))
    simp (disch := omega) only [e_X0_readLight_126_4, k_X0_readLight_126_4, e_X0_readLight_126_15, k_X0_readLight_126_15, a1, b1, q_bd_l, z_ltT, z_ltF, z_eqT, z_eqF, z_ltlT, z_ltlF, z_lltT, z_lltF, z_eqlT, z_eqlF, z_in, z_k7, z_cl, z_lneg, z_llT, z_llF, z_s1, z_nI_cl, z_nlt0, z_ne_m1, z_b0, z_b1, z_la, z_al, z_lm, z_ml, z_nm, nI_add, pk_mul, ↓reduceIte, not_true_eq_false, not_false_eq_true, true_or, or_true, false_or, or_false, true_and, and_true, and_false, false_and, Classical.not_not, Nat.add_zero, z_01, z_em, z_bit_p, Nat.not_le, Nat.not_lt, reduceCtorEq, if_true, if_false]
  rw [if_pos c2]
  obtain ⟨C, b1, b2, b3, b4⟩ := n3 c2
  have c1x : C_1 (142 + x) (c_nm B N (t_nx B N p)) := .inl ⟨x, by omega, rfl, c_nm_le (by omega) c2⟩
  have DC := k_D_ta hD (z_fr_t a2 b2)
  have D1 := k_D_1 (a := 15) (k := x) (i := 142 + x) (v := c_nm B N (t_nx B N p)) DC hn hm (.inl ⟨rfl, by omega, rfl⟩)
  refine z_ck_o (J := q_w C 15 x (c_nm B N (t_nx B N p))) (R_ok_1 ho c1x) ?_ (z_Rd_w b3 15 _ _ (by omega)) D1 (z_fr_w (z_rd_ta (z_fr_t a2 b2)) 15 x _ (by simp [m_rd]))
  simp (disch := omega) only [e_X0_readLight_126_4, k_X0_readLight_126_4, e_X0_readLight_126_15, k_X0_readLight_126_15, a1, a4, b1, b4, q_bd_l, z_ltT, z_ltF, z_eqT, z_eqF, z_ltlT, z_ltlF, z_lltT, z_lltF, z_eqlT, z_eqlF, z_in, z_k7, z_cl, z_lneg, z_llT, z_llF, z_s1, z_nI_cl, z_nlt0, z_ne_m1, z_b0, z_b1, z_la, z_al, z_lm, z_ml, z_nm, nI_add, pk_mul, ↓reduceIte, not_true_eq_false, not_false_eq_true, true_or, or_true, false_or, or_false, true_and, and_true, and_false, false_and, Classical.not_not, Nat.add_zero, z_01, z_em, z_bit_p, Nat.not_le, Nat.not_lt, reduceCtorEq, if_true, if_false]
theorem k_quota (X : Sx) (d : Nat) (I : Ii) (T : Tt) {B : Nat → Nat} {N p n m : Nat} {r : Nat → Int32} (h : z_Rd I B N p) (hD : k_D I r n m) (ho : R_ok r n m) : z_ck I T B N (C_tell B N 5 1 90 r p) (c_X0_readQuota_126 X (d + 4) I T) := by
  have hn := ho.2.1
  have hm := ho.2.2.2.1
  obtain ⟨n1, n2⟩ := k_num X d 1 90 I T h
  rw [e_X0_readQuota_126]
  unfold C_tell
  by_cases c1 : t_isN 1 90 4 B N p = true
  rotate_left
  · rw [if_neg c1]
    obtain ⟨A, a1, a2, a3⟩ := n2 c1
    refine z_ck_e (J := q_w A 11 9 (A 1 6)) ?_ (z_Rd_w a3 11 _ _ (by omega)) (z_fr_w (z_rd_ta a2) 11 9 _ rfl)
    simp (disch := omega) only [e_X0_readQuota_126_4, k_X0_readQuota_126_4, a1, q_bd_l, z_ltT, z_ltF, z_eqT, z_eqF, z_ltlT, z_ltlF, z_lltT, z_lltF, z_eqlT, z_eqlF, z_in, z_k7, z_cl, z_lneg, z_llT, z_llF, z_s1, z_nI_cl, z_nlt0, z_ne_m1, z_b0, z_b1, z_la, z_al, z_lm, z_ml, z_nm, nI_add, pk_mul, ↓reduceIte, not_true_eq_false, not_false_eq_true, true_or, or_true, false_or, or_false, true_and, and_true, and_false, false_and, Classical.not_not, Nat.add_zero, z_01, z_em, z_bit_p, Nat.not_le, Nat.not_lt, reduceCtorEq, if_true, if_false]
  rw [if_pos c1]
  obtain ⟨A, a1, a2, a3, a4⟩ := n1 c1
  have c1x : C_1 5 (c_nm B N p) := .inr (.inl ⟨rfl, by
    obtain ⟨x, hx1, hx2⟩ := c_nm_le (h := 90) (by omega) c1
    have hx3 := (t_isN_lt c1).2.2.2.1
    have hx4 : t_num B p (t_nf B N p) = x := by
      have : (nI (t_num B p (t_nf B N p)) = nI x) = _ := z_nI_eq _ _ (by omega) (by omega)
      exact this.mp hx2
    exact ⟨_, c_nm_ge (l := 1) (h := 90) (by omega) c1, by omega, rfl⟩⟩)
  have D1 := k_D_1 (a := 11) (k := 9) (i := 5) (v := c_nm B N p) (k_D_ta hD a2) hn hm (.inr (.inl ⟨rfl, rfl, rfl⟩))
  refine z_ck_o (J := q_w A 11 9 (c_nm B N p)) (R_ok_1 ho c1x) ?_ (z_Rd_w a3 11 _ _ (by omega)) D1 (z_fr_w (z_rd_ta a2) 11 9 _ rfl)
  simp (disch := omega) only [e_X0_readQuota_126_4, k_X0_readQuota_126_4, a1, a4, q_bd_l, z_ltT, z_ltF, z_eqT, z_eqF, z_ltlT, z_ltlF, z_lltT, z_lltF, z_eqlT, z_eqlF, z_in, z_k7, z_cl, z_lneg, z_llT, z_llF, z_s1, z_nI_cl, z_nlt0, z_ne_m1, z_b0, z_b1, z_la, z_al, z_lm, z_ml, z_nm, nI_add, pk_mul, ↓reduceIte, not_true_eq_false, not_false_eq_true, true_or, or_true, false_or, or_false, true_and, and_true, and_false, false_and, Classical.not_not, Nat.add_zero, z_01, z_em, z_bit_p, Nat.not_le, Nat.not_lt, reduceCtorEq, if_true, if_false]
theorem k_peelL (X : Sx) (d : Nat) (I : Ii) (T : Tt) {B : Nat → Nat} {N p n m : Nat} {r : Nat → Int32} (h : z_Rd I B N p) (hD : k_D I r n m) (ho : R_ok r n m) : z_ck I T B N (C_tell B N 6 0 100 r p) (c_X0_readPeel_126 X (d + 4) I T) := by
  have hn := ho.2.1
  have hm := ho.2.2.2.1
  obtain ⟨n1, n2⟩ := k_num X d 0 100 I T h
  rw [e_X0_readPeel_126]
  unfold C_tell
  by_cases c1 : t_isN 0 100 4 B N p = true
  rotate_left
  · rw [if_neg c1]
    obtain ⟨A, a1, a2, a3⟩ := n2 c1
    refine z_ck_e (J := q_w A 11 10 (A 1 6)) ?_ (z_Rd_w a3 11 _ _ (by omega)) (z_fr_w (z_rd_ta a2) 11 10 _ rfl)
    simp (disch := omega) only [e_X0_readPeel_126_4, k_X0_readPeel_126_4, a1, q_bd_l, z_ltT, z_ltF, z_eqT, z_eqF, z_ltlT, z_ltlF, z_lltT, z_lltF, z_eqlT, z_eqlF, z_in, z_k7, z_cl, z_lneg, z_llT, z_llF, z_s1, z_nI_cl, z_nlt0, z_ne_m1, z_b0, z_b1, z_la, z_al, z_lm, z_ml, z_nm, nI_add, pk_mul, ↓reduceIte, not_true_eq_false, not_false_eq_true, true_or, or_true, false_or, or_false, true_and, and_true, and_false, false_and, Classical.not_not, Nat.add_zero, z_01, z_em, z_bit_p, Nat.not_le, Nat.not_lt, reduceCtorEq, if_true, if_false]
  rw [if_pos c1]
  obtain ⟨A, a1, a2, a3, a4⟩ := n1 c1
  have c1x : C_1 6 (c_nm B N p) := .inr (.inr (.inl ⟨rfl, c_nm_le (h := 100) (by omega) c1⟩))
  have D1 := k_D_1 (a := 11) (k := 10) (i := 6) (v := c_nm B N p) (k_D_ta hD a2) hn hm (.inr (.inr (.inl ⟨rfl, rfl, rfl⟩)))
  refine z_ck_o (J := q_w A 11 10 (c_nm B N p)) (R_ok_1 ho c1x) ?_ (z_Rd_w a3 11 _ _ (by omega)) D1 (z_fr_w (z_rd_ta a2) 11 10 _ rfl)
  simp (disch := omega) only [e_X0_readPeel_126_4, k_X0_readPeel_126_4, a1, a4, q_bd_l, z_ltT, z_ltF, z_eqT, z_eqF, z_ltlT, z_ltlF, z_lltT, z_lltF, z_eqlT, z_eqlF, z_in, z_k7, z_cl, z_lneg, z_llT, z_llF, z_s1, z_nI_cl, z_nlt0, z_ne_m1, z_b0, z_b1, z_la, z_al, z_lm, z_ml, z_nm, nI_add, pk_mul, ↓reduceIte, not_true_eq_false, not_false_eq_true, true_or, or_true, false_or, or_false, true_and, and_true, and_false, false_and, Classical.not_not, Nat.add_zero, z_01, z_em, z_bit_p, Nat.not_le, Nat.not_lt, reduceCtorEq, if_true, if_false]
theorem k_waspL (X : Sx) (d : Nat) (I : Ii) (T : Tt) {B : Nat → Nat} {N p n m : Nat} {r : Nat → Int32} (h : z_Rd I B N p) (hD : k_D I r n m) (ho : R_ok r n m) : z_ck I T B N (C_tell B N 7 0 100 r p) (c_X0_readWasps_126 X (d + 4) I T) := by
  have hn := ho.2.1
  have hm := ho.2.2.2.1
  obtain ⟨n1, n2⟩ := k_num X d 0 100 I T h
  rw [e_X0_readWasps_126]
  unfold C_tell
  by_cases c1 : t_isN 0 100 4 B N p = true
  rotate_left
  · rw [if_neg c1]
    obtain ⟨A, a1, a2, a3⟩ := n2 c1
    refine z_ck_e (J := q_w A 11 11 (A 1 6)) ?_ (z_Rd_w a3 11 _ _ (by omega)) (z_fr_w (z_rd_ta a2) 11 11 _ rfl)
    simp (disch := omega) only [e_X0_readWasps_126_4, k_X0_readWasps_126_4, a1, q_bd_l, z_ltT, z_ltF, z_eqT, z_eqF, z_ltlT, z_ltlF, z_lltT, z_lltF, z_eqlT, z_eqlF, z_in, z_k7, z_cl, z_lneg, z_llT, z_llF, z_s1, z_nI_cl, z_nlt0, z_ne_m1, z_b0, z_b1, z_la, z_al, z_lm, z_ml, z_nm, nI_add, pk_mul, ↓reduceIte, not_true_eq_false, not_false_eq_true, true_or, or_true, false_or, or_false, true_and, and_true, and_false, false_and, Classical.not_not, Nat.add_zero, z_01, z_em, z_bit_p, Nat.not_le, Nat.not_lt, reduceCtorEq, if_true, if_false]
  rw [if_pos c1]
  obtain ⟨A, a1, a2, a3, a4⟩ := n1 c1
  have c1x : C_1 7 (c_nm B N p) := .inr (.inr (.inr ⟨rfl, c_nm_le (h := 100) (by omega) c1⟩))
  have D1 := k_D_1 (a := 11) (k := 11) (i := 7) (v := c_nm B N p) (k_D_ta hD a2) hn hm (.inr (.inr (.inr ⟨rfl, rfl, rfl⟩)))
  refine z_ck_o (J := q_w A 11 11 (c_nm B N p)) (R_ok_1 ho c1x) ?_ (z_Rd_w a3 11 _ _ (by omega)) D1 (z_fr_w (z_rd_ta a2) 11 11 _ rfl)
  simp (disch := omega) only [e_X0_readWasps_126_4, k_X0_readWasps_126_4, a1, a4, q_bd_l, z_ltT, z_ltF, z_eqT, z_eqF, z_ltlT, z_ltlF, z_lltT, z_lltF, z_eqlT, z_eqlF, z_in, z_k7, z_cl, z_lneg, z_llT, z_llF, z_s1, z_nI_cl, z_nlt0, z_ne_m1, z_b0, z_b1, z_la, z_al, z_lm, z_ml, z_nm, nI_add, pk_mul, ↓reduceIte, not_true_eq_false, not_false_eq_true, true_or, or_true, false_or, or_false, true_and, and_true, and_false, false_and, Classical.not_not, Nat.add_zero, z_01, z_em, z_bit_p, Nat.not_le, Nat.not_lt, reduceCtorEq, if_true, if_false]
