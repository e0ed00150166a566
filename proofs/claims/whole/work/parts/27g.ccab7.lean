/-! ===== THE CLASS READS THE CABINET: lines to the end ===== -/
theorem z_ck_b {I : Ii} {T : Tt} {B : Nat → Nat} {N : Nat} {res : Cr} {y : Rs} {k : Option Value → Hp → Rs} (h : z_ck I T B N res y) (h1 : ∀ J, q_bd (z_r 1 J T) k = z_r 1 J T) (h0 : ∀ J, q_bd (z_r 0 J T) k = z_r 0 J T) : z_ck I T B N res (q_bd y k) := ⟨fun q1 r' e n' m' ho => by
  obtain ⟨K, e1, e2, e3, e4⟩ := h.1 q1 r' e n' m' ho
  exact ⟨K, by rw [e1, h1], e2, e3, e4⟩, fun e he => by
  obtain ⟨K, e1, e2, e3, e4⟩ := h.2 e he
  exact ⟨K, by rw [e1, h0], e2, e3, e4⟩⟩
theorem k_cline (X : Sx) (d : Nat) (I : Ii) (T : Tt) {B : Nat → Nat} {N p n m : Nat} {r : Nat → Int32} (h : z_Rd I B N p) (hD : k_D I r n m) (ho : R_ok r n m) : z_ck I T B N (C_line B N n m r p) (c_X0_readLine_126 X (d + 6) I T) := by
  have hp := h.2.1.1
  have hn := ho.2.1
  have hm := ho.2.2.2.1
  have i0 : I 11 0 = nI n := hD.1.1.trans ho.1
  have i5 : I 11 5 = nI m := hD.1.2.1.trans ho.2.2.1
  obtain ⟨j1, -⟩ := k_w X (d + 4) 16 53 (by decide) (by decide +kernel) (by decide +kernel) I T h
  have j1' : c_X10_isWord_1 X (d + 5) (16 : UInt32) I T = _ := j1
  obtain ⟨e1, -⟩ := k_w X (d + 4) 17 55 (by decide) (by decide +kernel) (by decide +kernel) I T h
  have e1' : c_X10_isWord_1 X (d + 5) (17 : UInt32) I T = _ := e1
  rw [e_X0_readLine_126, j1']
  unfold C_line
  by_cases c1 : t_isW (t_w 53) B N p = true
  · rw [if_pos c1]
    by_cases cn : n = 10
    · rw [if_pos cn]
      refine z_ck_e (J := I) ?_ h (z_fr_r _ _)
      simp (disch := omega) only [e_X0_readLine_126_4, k_X0_readLine_126_4, e_X0_readLine_126_15, c1, i0, q_bd_l, z_ltT, z_ltF, z_eqT, z_eqF, z_ltlT, z_ltlF, z_lltT, z_lltF, z_eqlT, z_eqlF, z_in, z_k7, z_cl, z_lneg, z_llT, z_llF, z_s1, z_nI_cl, z_nlt0, z_ne_m1, z_b0, z_b1, z_la, z_al, z_lm, z_ml, z_nm, nI_add, pk_mul, ↓reduceIte, not_true_eq_false, not_false_eq_true, true_or, or_true, false_or, or_false, true_and, and_true, and_false, false_and, Classical.not_not, Nat.add_zero, z_01, z_em, z_bit_p, Nat.not_le, Nat.not_lt, reduceCtorEq, if_true, if_false]
    · rw [if_neg cn]
      have Jr := k_readJar X d I T h hD ho (by omega)
      have st : q_bd (z_r (z_b (t_isW (t_w 53) B N p = true)) I T) (fun v h' => q_res X q_sb q_pg (d + 5) cd_X0_readLine 4 [some (.ref 126)] (v.toList ++ []) h') = q_bd (c_X0_readJar_126 X (d + 5) I T) (fun v h' => q_res X q_sb q_pg (d + 5) cd_X0_readLine 12 [some (.ref 126)] (v.toList ++ []) h') := by
        simp (disch := omega) only [e_X0_readLine_126_4, k_X0_readLine_126_4, c1, i0, q_bd_l, z_ltT, z_ltF, z_eqT, z_eqF, z_ltlT, z_ltlF, z_lltT, z_lltF, z_eqlT, z_eqlF, z_in, z_k7, z_cl, z_lneg, z_llT, z_llF, z_s1, z_nI_cl, z_nlt0, z_ne_m1, z_b0, z_b1, z_la, z_al, z_lm, z_ml, z_nm, nI_add, pk_mul, ↓reduceIte, not_true_eq_false, not_false_eq_true, true_or, or_true, false_or, or_false, true_and, and_true, and_false, false_and, Classical.not_not, Nat.add_zero, z_01, z_em, z_bit_p, Nat.not_le, Nat.not_lt, reduceCtorEq, if_true, if_false]
      rw [st]
      refine z_ck_b Jr (fun J => ?_) (fun J => ?_)
      · simp (disch := omega) only [e_X0_readLine_126_12, k_X0_readLine_126_12, e_X0_readLine_126_15, q_bd_l, z_ltT, z_ltF, z_eqT, z_eqF, z_ltlT, z_ltlF, z_lltT, z_lltF, z_eqlT, z_eqlF, z_in, z_k7, z_cl, z_lneg, z_llT, z_llF, z_s1, z_nI_cl, z_nlt0, z_ne_m1, z_b0, z_b1, z_la, z_al, z_lm, z_ml, z_nm, nI_add, pk_mul, ↓reduceIte, not_true_eq_false, not_false_eq_true, true_or, or_true, false_or, or_false, true_and, and_true, and_false, false_and, Classical.not_not, Nat.add_zero, z_01, z_em, z_bit_p, Nat.not_le, Nat.not_lt, reduceCtorEq, if_true, if_false]
      · simp (disch := omega) only [e_X0_readLine_126_12, k_X0_readLine_126_12, e_X0_readLine_126_15, q_bd_l, z_ltT, z_ltF, z_eqT, z_eqF, z_ltlT, z_ltlF, z_lltT, z_lltF, z_eqlT, z_eqlF, z_in, z_k7, z_cl, z_lneg, z_llT, z_llF, z_s1, z_nI_cl, z_nlt0, z_ne_m1, z_b0, z_b1, z_la, z_al, z_lm, z_ml, z_nm, nI_add, pk_mul, ↓reduceIte, not_true_eq_false, not_false_eq_true, true_or, or_true, false_or, or_false, true_and, and_true, and_false, false_and, Classical.not_not, Nat.add_zero, z_01, z_em, z_bit_p, Nat.not_le, Nat.not_lt, reduceCtorEq, if_true, if_false]
  rw [if_neg c1]
  by_cases c2 : t_isW (t_w 55) B N p = true
  · have cl : ¬ t_isW (t_w 54) B N p = true := by
      intro c
      rw [t_isW_p] at c c2
      have l1 : (t_w 54).length = 5 := by decide +kernel
      have l2 : (t_w 55).length = 4 := by decide +kernel
      omega
    rw [if_neg cl, if_pos c2]
    by_cases cm : m = 10
    · rw [if_pos cm]
      refine z_ck_e (J := I) ?_ h (z_fr_r _ _)
      simp (disch := omega) only [e_X0_readLine_126_4, k_X0_readLine_126_4, e_X0_readLine_126_21, k_X0_readLine_126_21, e_X0_readLine_126_32, c1, e1', c2, i5, q_bd_l, z_ltT, z_ltF, z_eqT, z_eqF, z_ltlT, z_ltlF, z_lltT, z_lltF, z_eqlT, z_eqlF, z_in, z_k7, z_cl, z_lneg, z_llT, z_llF, z_s1, z_nI_cl, z_nlt0, z_ne_m1, z_b0, z_b1, z_la, z_al, z_lm, z_ml, z_nm, nI_add, pk_mul, ↓reduceIte, not_true_eq_false, not_false_eq_true, true_or, or_true, false_or, or_false, true_and, and_true, and_false, false_and, Classical.not_not, Nat.add_zero, z_01, z_em, z_bit_p, Nat.not_le, Nat.not_lt, reduceCtorEq, if_true, if_false]
    · rw [if_neg cm]
      have Nd := k_readNeed X d I T h hD ho (by omega)
      have st : q_bd (z_r (z_b (t_isW (t_w 53) B N p = true)) I T) (fun v h' => q_res X q_sb q_pg (d + 5) cd_X0_readLine 4 [some (.ref 126)] (v.toList ++ []) h') = q_bd (c_X0_readNeed_126 X (d + 5) I T) (fun v h' => q_res X q_sb q_pg (d + 5) cd_X0_readLine 29 [some (.ref 126)] (v.toList ++ []) h') := by
        simp (disch := omega) only [e_X0_readLine_126_4, k_X0_readLine_126_4, e_X0_readLine_126_21, k_X0_readLine_126_21, c1, e1', c2, i5, q_bd_l, z_ltT, z_ltF, z_eqT, z_eqF, z_ltlT, z_ltlF, z_lltT, z_lltF, z_eqlT, z_eqlF, z_in, z_k7, z_cl, z_lneg, z_llT, z_llF, z_s1, z_nI_cl, z_nlt0, z_ne_m1, z_b0, z_b1, z_la, z_al, z_lm, z_ml, z_nm, nI_add, pk_mul, ↓reduceIte, not_true_eq_false, not_false_eq_true, true_or, or_true, false_or, or_false, true_and, and_true, and_false, false_and, Classical.not_not, Nat.add_zero, z_01, z_em, z_bit_p, Nat.not_le, Nat.not_lt, reduceCtorEq, if_true, if_false]
      rw [st]
      refine z_ck_b Nd (fun J => ?_) (fun J => ?_)
      · simp (disch := omega) only [e_X0_readLine_126_29, k_X0_readLine_126_29, e_X0_readLine_126_32, q_bd_l, z_ltT, z_ltF, z_eqT, z_eqF, z_ltlT, z_ltlF, z_lltT, z_lltF, z_eqlT, z_eqlF, z_in, z_k7, z_cl, z_lneg, z_llT, z_llF, z_s1, z_nI_cl, z_nlt0, z_ne_m1, z_b0, z_b1, z_la, z_al, z_lm, z_ml, z_nm, nI_add, pk_mul, ↓reduceIte, not_true_eq_false, not_false_eq_true, true_or, or_true, false_or, or_false, true_and, and_true, and_false, false_and, Classical.not_not, Nat.add_zero, z_01, z_em, z_bit_p, Nat.not_le, Nat.not_lt, reduceCtorEq, if_true, if_false]
      · simp (disch := omega) only [e_X0_readLine_126_29, k_X0_readLine_126_29, e_X0_readLine_126_32, q_bd_l, z_ltT, z_ltF, z_eqT, z_eqF, z_ltlT, z_ltlF, z_lltT, z_lltF, z_eqlT, z_eqlF, z_in, z_k7, z_cl, z_lneg, z_llT, z_llF, z_s1, z_nI_cl, z_nlt0, z_ne_m1, z_b0, z_b1, z_la, z_al, z_lm, z_ml, z_nm, nI_add, pk_mul, ↓reduceIte, not_true_eq_false, not_false_eq_true, true_or, or_true, false_or, or_false, true_and, and_true, and_false, false_and, Classical.not_not, Nat.add_zero, z_01, z_em, z_bit_p, Nat.not_le, Nat.not_lt, reduceCtorEq, if_true, if_false]
  obtain ⟨-, g2, g3⟩ := k_w X (d + 3) 18 54 (by decide) (by decide +kernel) (by decide +kernel) I T h
  by_cases c3 : t_isW (t_w 54) B N p = true
  · rw [if_pos c3]
    obtain ⟨A, a1, a2, a3⟩ := g2 c3
    have a1' : c_X10_takeWord_1 X (d + 5) (18 : UInt32) I T = z_r 1 A T := a1
    have Li := z_ck_m (k_light X (d + 1) A T a3 (k_D_ta hD a2) ho) (z_rd_ta a2)
    have st : q_bd (z_r (z_b (t_isW (t_w 53) B N p = true)) I T) (fun v h' => q_res X q_sb q_pg (d + 5) cd_X0_readLine 4 [some (.ref 126)] (v.toList ++ []) h') = q_bd (c_X0_readLight_126 X (d + 5) A T) (fun v h' => q_res X q_sb q_pg (d + 5) cd_X0_readLine 41 [some (.ref 126)] (v.toList ++ []) h') := by
      simp (disch := omega) only [e_X0_readLine_126_4, k_X0_readLine_126_4, e_X0_readLine_126_21, k_X0_readLine_126_21, e_X0_readLine_126_38, k_X0_readLine_126_38, c1, e1', c2, a1', q_bd_l, z_ltT, z_ltF, z_eqT, z_eqF, z_ltlT, z_ltlF, z_lltT, z_lltF, z_eqlT, z_eqlF, z_in, z_k7, z_cl, z_lneg, z_llT, z_llF, z_s1, z_nI_cl, z_nlt0, z_ne_m1, z_b0, z_b1, z_la, z_al, z_lm, z_ml, z_nm, nI_add, pk_mul, ↓reduceIte, not_true_eq_false, not_false_eq_true, true_or, or_true, false_or, or_false, true_and, and_true, and_false, false_and, Classical.not_not, Nat.add_zero, z_01, z_em, z_bit_p, Nat.not_le, Nat.not_lt, reduceCtorEq, if_true, if_false]
    rw [st]
    refine z_ck_b Li (fun J => ?_) (fun J => ?_)
    · simp (disch := omega) only [e_X0_readLine_126_41, k_X0_readLine_126_41, q_bd_l, z_ltT, z_ltF, z_eqT, z_eqF, z_ltlT, z_ltlF, z_lltT, z_lltF, z_eqlT, z_eqlF, z_in, z_k7, z_cl, z_lneg, z_llT, z_llF, z_s1, z_nI_cl, z_nlt0, z_ne_m1, z_b0, z_b1, z_la, z_al, z_lm, z_ml, z_nm, nI_add, pk_mul, ↓reduceIte, not_true_eq_false, not_false_eq_true, true_or, or_true, false_or, or_false, true_and, and_true, and_false, false_and, Classical.not_not, Nat.add_zero, z_01, z_em, z_bit_p, Nat.not_le, Nat.not_lt, reduceCtorEq, if_true, if_false]
    · simp (disch := omega) only [e_X0_readLine_126_41, k_X0_readLine_126_41, q_bd_l, z_ltT, z_ltF, z_eqT, z_eqF, z_ltlT, z_ltlF, z_lltT, z_lltF, z_eqlT, z_eqlF, z_in, z_k7, z_cl, z_lneg, z_llT, z_llF, z_s1, z_nI_cl, z_nlt0, z_ne_m1, z_b0, z_b1, z_la, z_al, z_lm, z_ml, z_nm, nI_add, pk_mul, ↓reduceIte, not_true_eq_false, not_false_eq_true, true_or, or_true, false_or, or_false, true_and, and_true, and_false, false_and, Classical.not_not, Nat.add_zero, z_01, z_em, z_bit_p, Nat.not_le, Nat.not_lt, reduceCtorEq, if_true, if_false]
  rw [if_neg c3, if_neg c2]
  obtain ⟨A, a1, a2, a3⟩ := g3 c3
  have a1' : c_X10_takeWord_1 X (d + 5) (18 : UInt32) I T = z_r 0 A T := a1
  obtain ⟨-, g4, g5⟩ := k_w X (d + 3) 19 56 (by decide) (by decide +kernel) (by decide +kernel) A T a3
  by_cases c4 : t_isW (t_w 56) B N p = true
  · rw [if_pos c4]
    obtain ⟨C, b1, b2, b3⟩ := g4 c4
    have b1' : c_X10_takeWord_1 X (d + 5) (19 : UInt32) A T = z_r 1 C T := b1
    have Li := z_ck_m (k_quota X (d + 1) C T b3 (k_D_ta hD (z_fr_t a2 b2)) ho) (z_rd_ta (z_fr_t a2 b2))
    have st : q_bd (z_r (z_b (t_isW (t_w 53) B N p = true)) I T) (fun v h' => q_res X q_sb q_pg (d + 5) cd_X0_readLine 4 [some (.ref 126)] (v.toList ++ []) h') = q_bd (c_X0_readQuota_126 X (d + 5) C T) (fun v h' => q_res X q_sb q_pg (d + 5) cd_X0_readLine 49 [some (.ref 126)] (v.toList ++ []) h') := by
      simp (disch := omega) only [e_X0_readLine_126_4, k_X0_readLine_126_4, e_X0_readLine_126_21, k_X0_readLine_126_21, e_X0_readLine_126_38, k_X0_readLine_126_38, e_X0_readLine_126_46, k_X0_readLine_126_46, c1, e1', c2, a1', b1', q_bd_l, z_ltT, z_ltF, z_eqT, z_eqF, z_ltlT, z_ltlF, z_lltT, z_lltF, z_eqlT, z_eqlF, z_in, z_k7, z_cl, z_lneg, z_llT, z_llF, z_s1, z_nI_cl, z_nlt0, z_ne_m1, z_b0, z_b1, z_la, z_al, z_lm, z_ml, z_nm, nI_add, pk_mul, ↓reduceIte, not_true_eq_false, not_false_eq_true, true_or, or_true, false_or, or_false, true_and, and_true, and_false, false_and, Classical.not_not, Nat.add_zero, z_01, z_em, z_bit_p, Nat.not_le, Nat.not_lt, reduceCtorEq, if_true, if_false]
    rw [st]
    refine z_ck_b Li (fun J => ?_) (fun J => ?_)
    · simp (disch := omega) only [e_X0_readLine_126_49, k_X0_readLine_126_49, q_bd_l, z_ltT, z_ltF, z_eqT, z_eqF, z_ltlT, z_ltlF, z_lltT, z_lltF, z_eqlT, z_eqlF, z_in, z_k7, z_cl, z_lneg, z_llT, z_llF, z_s1, z_nI_cl, z_nlt0, z_ne_m1, z_b0, z_b1, z_la, z_al, z_lm, z_ml, z_nm, nI_add, pk_mul, ↓reduceIte, not_true_eq_false, not_false_eq_true, true_or, or_true, false_or, or_false, true_and, and_true, and_false, false_and, Classical.not_not, Nat.add_zero, z_01, z_em, z_bit_p, Nat.not_le, Nat.not_lt, reduceCtorEq, if_true, if_false]
    · simp (disch := omega) only [e_X0_readLine_126_49, k_X0_readLine_126_49, q_bd_l, z_ltT, z_ltF, z_eqT, z_eqF, z_ltlT, z_ltlF, z_lltT, z_lltF, z_eqlT, z_eqlF, z_in, z_k7, z_cl, z_lneg, z_llT, z_llF, z_s1, z_nI_cl, z_nlt0, z_ne_m1, z_b0, z_b1, z_la, z_al, z_lm, z_ml, z_nm, nI_add, pk_mul, ↓reduceIte, not_true_eq_false, not_false_eq_true, true_or, or_true, false_or, or_false, true_and, and_true, and_false, false_and, Classical.not_not, Nat.add_zero, z_01, z_em, z_bit_p, Nat.not_le, Nat.not_lt, reduceCtorEq, if_true, if_false]
  rw [if_neg c4]
  obtain ⟨C, b1, b2, b3⟩ := g5 c4
  have b1' : c_X10_takeWord_1 X (d + 5) (19 : UInt32) A T = z_r 0 C T := b1
  obtain ⟨-, g6, g7⟩ := k_w X (d + 3) 20 57 (by decide) (by decide +kernel) (by decide +kernel) C T b3
  by_cases c5 : t_isW (t_w 57) B N p = true
  · rw [if_pos c5]
    obtain ⟨E, f1, f2, f3⟩ := g6 c5
    have f1' : c_X10_takeWord_1 X (d + 5) (20 : UInt32) C T = z_r 1 E T := f1
    have Li := z_ck_m (k_peelL X (d + 1) E T f3 (k_D_ta hD (z_fr_t a2 (z_fr_t b2 f2))) ho) (z_rd_ta (z_fr_t a2 (z_fr_t b2 f2)))
    have st : q_bd (z_r (z_b (t_isW (t_w 53) B N p = true)) I T) (fun v h' => q_res X q_sb q_pg (d + 5) cd_X0_readLine 4 [some (.ref 126)] (v.toList ++ []) h') = q_bd (c_X0_readPeel_126 X (d + 5) E T) (fun v h' => q_res X q_sb q_pg (d + 5) cd_X0_readLine 57 [some (.ref 126)] (v.toList ++ []) h') := by
      simp (disch := omega) only [e_X0_readLine_126_4, k_X0_readLine_126_4, e_X0_readLine_126_21, k_X0_readLine_126_21, e_X0_readLine_126_38, k_X0_readLine_126_38, e_X0_readLine_126_46, k_X0_readLine_126_46, e_X0_readLine_126_54, k_X0_readLine_126_54, c1, e1', c2, a1', b1', f1', q_bd_l, z_ltT, z_ltF, z_eqT, z_eqF, z_ltlT, z_ltlF, z_lltT, z_lltF, z_eqlT, z_eqlF, z_in, z_k7, z_cl, z_lneg, z_llT, z_llF, z_s1, z_nI_cl, z_nlt0, z_ne_m1, z_b0, z_b1, z_la, z_al, z_lm, z_ml, z_nm, nI_add, pk_mul, ↓reduceIte, not_true_eq_false, not_false_eq_true, true_or, or_true, false_or, or_false, true_and, and_true, and_false, false_and, Classical.not_not, Nat.add_zero, z_01, z_em, z_bit_p, Nat.not_le, Nat.not_lt, reduceCtorEq, if_true, if_false]
    rw [st]
    refine z_ck_b Li (fun J => ?_) (fun J => ?_)
    · simp (disch := omega) only [e_X0_readLine_126_57, k_X0_readLine_126_57, q_bd_l, z_ltT, z_ltF, z_eqT, z_eqF, z_ltlT, z_ltlF, z_lltT, z_lltF, z_eqlT, z_eqlF, z_in, z_k7, z_cl, z_lneg, z_llT, z_llF, z_s1, z_nI_cl, z_nlt0, z_ne_m1, z_b0, z_b1, z_la, z_al, z_lm, z_ml, z_nm, nI_add, pk_mul, ↓reduceIte, not_true_eq_false, not_false_eq_true, true_or, or_true, false_or, or_false, true_and, and_true, and_false, false_and, Classical.not_not, Nat.add_zero, z_01, z_em, z_bit_p, Nat.not_le, Nat.not_lt, reduceCtorEq, if_true, if_false]
    · simp (disch := omega) only [e_X0_readLine_126_57, k_X0_readLine_126_57, q_bd_l, z_ltT, z_ltF, z_eqT, z_eqF, z_ltlT, z_ltlF, z_lltT, z_lltF, z_eqlT, z_eqlF, z_in, z_k7, z_cl, z_lneg, z_llT, z_llF, z_s1, z_nI_cl, z_nlt0, z_ne_m1, z_b0, z_b1, z_la, z_al, z_lm, z_ml, z_nm, nI_add, pk_mul, ↓reduceIte, not_true_eq_false, not_false_eq_true, true_or, or_true, false_or, or_false, true_and, and_true, and_false, false_and, Classical.not_not, Nat.add_zero, z_01, z_em, z_bit_p, Nat.not_le, Nat.not_lt, reduceCtorEq, if_true, if_false]
  rw [if_neg c5]
  obtain ⟨E, f1, f2, f3⟩ := g7 c5
  have f1' : c_X10_takeWord_1 X (d + 5) (20 : UInt32) C T = z_r 0 E T := f1
  have fE := z_fr_t a2 (z_fr_t b2 f2)
  obtain ⟨-, g8, g9⟩ := k_w X (d + 3) 21 58 (by decide) (by decide +kernel) (by decide +kernel) E T f3
  by_cases c6 : t_isW (t_w 58) B N p = true
  · rw [if_pos c6]
    obtain ⟨G, q1, q2, q3⟩ := g8 c6
    have q1' : c_X10_takeWord_1 X (d + 5) (21 : UInt32) E T = z_r 1 G T := q1
    have Li := z_ck_m (k_waspL X (d + 1) G T q3 (k_D_ta hD (z_fr_t fE q2)) ho) (z_rd_ta (z_fr_t fE q2))
    have st : q_bd (z_r (z_b (t_isW (t_w 53) B N p = true)) I T) (fun v h' => q_res X q_sb q_pg (d + 5) cd_X0_readLine 4 [some (.ref 126)] (v.toList ++ []) h') = q_bd (c_X0_readWasps_126 X (d + 5) G T) (fun v h' => q_res X q_sb q_pg (d + 5) cd_X0_readLine 65 [some (.ref 126)] (v.toList ++ []) h') := by
      simp (disch := omega) only [e_X0_readLine_126_4, k_X0_readLine_126_4, e_X0_readLine_126_21, k_X0_readLine_126_21, e_X0_readLine_126_38, k_X0_readLine_126_38, e_X0_readLine_126_46, k_X0_readLine_126_46, e_X0_readLine_126_54, k_X0_readLine_126_54, e_X0_readLine_126_62, k_X0_readLine_126_62, c1, e1', c2, a1', b1', f1', q1', q_bd_l, z_ltT, z_ltF, z_eqT, z_eqF, z_ltlT, z_ltlF, z_lltT, z_lltF, z_eqlT, z_eqlF, z_in, z_k7, z_cl, z_lneg, z_llT, z_llF, z_s1, z_nI_cl, z_nlt0, z_ne_m1, z_b0, z_b1, z_la, z_al, z_lm, z_ml, z_nm, nI_add, pk_mul, ↓reduceIte, not_true_eq_false, not_false_eq_true, true_or, or_true, false_or, or_false, true_and, and_true, and_false, false_and, Classical.not_not, Nat.add_zero, z_01, z_em, z_bit_p, Nat.not_le, Nat.not_lt, reduceCtorEq, if_true, if_false]
    rw [st]
    refine z_ck_b Li (fun J => ?_) (fun J => ?_)
    · simp (disch := omega) only [e_X0_readLine_126_65, k_X0_readLine_126_65, e_X0_readLine_126_68, q_bd_l, z_ltT, z_ltF, z_eqT, z_eqF, z_ltlT, z_ltlF, z_lltT, z_lltF, z_eqlT, z_eqlF, z_in, z_k7, z_cl, z_lneg, z_llT, z_llF, z_s1, z_nI_cl, z_nlt0, z_ne_m1, z_b0, z_b1, z_la, z_al, z_lm, z_ml, z_nm, nI_add, pk_mul, ↓reduceIte, not_true_eq_false, not_false_eq_true, true_or, or_true, false_or, or_false, true_and, and_true, and_false, false_and, Classical.not_not, Nat.add_zero, z_01, z_em, z_bit_p, Nat.not_le, Nat.not_lt, reduceCtorEq, if_true, if_false]
    · simp (disch := omega) only [e_X0_readLine_126_65, k_X0_readLine_126_65, e_X0_readLine_126_68, q_bd_l, z_ltT, z_ltF, z_eqT, z_eqF, z_ltlT, z_ltlF, z_lltT, z_lltF, z_eqlT, z_eqlF, z_in, z_k7, z_cl, z_lneg, z_llT, z_llF, z_s1, z_nI_cl, z_nlt0, z_ne_m1, z_b0, z_b1, z_la, z_al, z_lm, z_ml, z_nm, nI_add, pk_mul, ↓reduceIte, not_true_eq_false, not_false_eq_true, true_or, or_true, false_or, or_false, true_and, and_true, and_false, false_and, Classical.not_not, Nat.add_zero, z_01, z_em, z_bit_p, Nat.not_le, Nat.not_lt, reduceCtorEq, if_true, if_false]
  rw [if_neg c6]
  obtain ⟨G, q1, q2, q3⟩ := g9 c6
  have q1' : c_X10_takeWord_1 X (d + 5) (21 : UInt32) E T = z_r 0 G T := q1
  refine z_ck_e (J := G) ?_ q3 (z_rd_ta (z_fr_t fE q2))
  simp (disch := omega) only [e_X0_readLine_126_4, k_X0_readLine_126_4, e_X0_readLine_126_21, k_X0_readLine_126_21, e_X0_readLine_126_38, k_X0_readLine_126_38, e_X0_readLine_126_46, k_X0_readLine_126_46, e_X0_readLine_126_54, k_X0_readLine_126_54, e_X0_readLine_126_62, k_X0_readLine_126_62, e_X0_readLine_126_68, c1, e1', c2, a1', b1', f1', q1', q_bd_l, z_ltT, z_ltF, z_eqT, z_eqF, z_ltlT, z_ltlF, z_lltT, z_lltF, z_eqlT, z_eqlF, z_in, z_k7, z_cl, z_lneg, z_llT, z_llF, z_s1, z_nI_cl, z_nlt0, z_ne_m1, z_b0, z_b1, z_la, z_al, z_lm, z_ml, z_nm, nI_add, pk_mul, ↓reduceIte, not_true_eq_false, not_false_eq_true, true_or, or_true, false_or, or_false, true_and, and_true, and_false, false_and, Classical.not_not, Nat.add_zero, z_01, z_em, z_bit_p, Nat.not_le, Nat.not_lt, reduceCtorEq, if_true, if_false]
def z_ct (I : Ii) (T : Tt) (N : Nat) (res : Except Nat (Nat → Int32)) (x : Rs) : Prop := (∀ r', res = .ok r' → ∃ J n m, x = z_r 1 J T ∧ R_ok r' n m ∧ k_D J r' n m ∧ z_fr m_rd I J) ∧ (∀ e, res = .error e → ∃ J, x = z_r 0 J T ∧ J 1 2 = nI e ∧ e ≤ N ∧ z_fr m_rd I J)
theorem k_cls (X : Sx) (d : Nat) (T : Tt) {B : Nat → Nat} {N : Nat} : ∀ (g i p n m : Nat) (r : Nat → Int32) (I : Ii), g + i = 14 → z_Rd I B N p → k_D I r n m → R_ok r n m → z_ct I T N (C_ls B N g r p) (c_X0_readText_126_11 X (d + 6) (nI i) I T) := by
  intro g
  induction g with
  | zero =>
    intro i p n m r I hg h hD ho
    have hi : i = 14 := by omega
    subst hi
    refine ⟨fun r' e => (by cases e), fun e he => ?_⟩
    cases he
    refine ⟨I, ?_, h.2.2.1, h.2.1.1, z_fr_r _ _⟩
    rw [e_X0_readText_126_11, if_neg (by decide)]
  | succ g ih =>
    intro i p n m r I hg h hD ho
    have hp := h.2.1.1
    have L := k_cline X d I T h hD ho
    obtain ⟨cn, cm⟩ := C_nm ho
    have hlo := fun q r' => C_line_ok (B := B) (N := N) (p := p) (q := q) (r' := r') ho hp
    unfold C_ls
    rw [cn, cm]
    have e14 : nI i < (14 : Int32) := nI_lt (b := 14) (by omega) (by omega)
    rw [e_X0_readText_126_11, if_pos e14]
    cases hr : C_line B N n m r p with
    | error e =>
      obtain ⟨J, x1, x2, x3, x4⟩ := L.2 e hr
      refine ⟨fun r' e => (by cases e), fun e' he => ?_⟩
      cases he
      refine ⟨J, ?_, x2, x3, x4⟩
      rw [x1]
      simp (disch := omega) only [e_X0_readText_126_16, k_X0_readText_126_16, q_bd_l, z_ltT, z_ltF, z_eqT, z_eqF, z_ltlT, z_ltlF, z_lltT, z_lltF, z_eqlT, z_eqlF, z_in, z_k7, z_cl, z_lneg, z_llT, z_llF, z_s1, z_nI_cl, z_nlt0, z_ne_m1, z_b0, z_b1, z_la, z_al, z_lm, z_ml, z_nm, nI_add, pk_mul, ↓reduceIte, not_true_eq_false, not_false_eq_true, true_or, or_true, false_or, or_false, true_and, and_true, and_false, false_and, Classical.not_not, Nat.add_zero, z_01, z_em, z_bit_p, Nat.not_le, Nat.not_lt, reduceCtorEq, if_true, if_false]
    | ok a =>
      obtain ⟨q1, r'⟩ := a
      obtain ⟨⟨n', m', ho'⟩, -, hq1, hat⟩ := hlo q1 r' hr
      obtain ⟨J, x1, x2, x3, x4⟩ := L.1 q1 r' hr n' m' ho'
      have ae := k_isAtEnd X (d + 5) J T x2
      rw [x1]
      dsimp only
      by_cases c1 : q1 = N
      · rw [if_pos c1]
        refine ⟨fun r'' e => ?_, fun e he => (by cases he)⟩
        cases e
        refine ⟨J, n', m', ?_, ho', x3, x4⟩
        have c1' : N ≤ q1 := by omega
        simp (disch := omega) only [e_X0_readText_126_16, k_X0_readText_126_16, e_X0_readText_126_22, k_X0_readText_126_22, ae, c1', q_bd_l, z_ltT, z_ltF, z_eqT, z_eqF, z_ltlT, z_ltlF, z_lltT, z_lltF, z_eqlT, z_eqlF, z_in, z_k7, z_cl, z_lneg, z_llT, z_llF, z_s1, z_nI_cl, z_nlt0, z_ne_m1, z_b0, z_b1, z_la, z_al, z_lm, z_ml, z_nm, nI_add, pk_mul, ↓reduceIte, not_true_eq_false, not_false_eq_true, true_or, or_true, false_or, or_false, true_and, and_true, and_false, false_and, Classical.not_not, Nat.add_zero, z_01, z_em, z_bit_p, Nat.not_le, Nat.not_lt, reduceCtorEq, if_true, if_false]
      · rw [if_neg c1]
        have c1' : ¬ N ≤ q1 := by omega
        obtain ⟨K, k1, k2, k3, -⟩ := k_takeSign X (d + 3) 59 (by decide) rfl rfl J T x2
        have k1' : c_X10_takeSign_1 X (d + 6) 59 J T = _ := k1
        by_cases c2 : t_isS 59 B N q1 = true
        · rw [if_pos c2]
          rw [z_b, if_pos c2] at k1'
          rw [if_pos c2] at k3
          have nx := ih (i + 1) (t_nx B N q1) n' m' r' K (by omega) k3 (k_D_ta x3 k2) ho'
          have st : q_bd (z_r 1 J T) (fun v h' => q_res X q_sb q_pg (d + 6) cd_X0_readText 16 [some (.ref 126), some (.int (nI i))] (v.toList ++ []) h') = c_X0_readText_126_11 X (d + 6) (nI (i + 1)) K T := by
            simp (disch := omega) only [e_X0_readText_126_16, k_X0_readText_126_16, e_X0_readText_126_22, k_X0_readText_126_22, e_X0_readText_126_29, k_X0_readText_126_29, ae, c1', k1', q_bd_l, z_ltT, z_ltF, z_eqT, z_eqF, z_ltlT, z_ltlF, z_lltT, z_lltF, z_eqlT, z_eqlF, z_in, z_k7, z_cl, z_lneg, z_llT, z_llF, z_s1, z_nI_cl, z_nlt0, z_ne_m1, z_b0, z_b1, z_la, z_al, z_lm, z_ml, z_nm, nI_add, pk_mul, ↓reduceIte, not_true_eq_false, not_false_eq_true, true_or, or_true, false_or, or_false, true_and, and_true, and_false, false_and, Classical.not_not, Nat.add_zero, z_01, z_em, z_bit_p, Nat.not_le, Nat.not_lt, reduceCtorEq, if_true, if_false]
          rw [st]
          refine ⟨fun r'' e => ?_, fun e he => ?_⟩
          · obtain ⟨M, n2, m2, y1, y2, y3, y4⟩ := nx.1 r'' e
            exact ⟨M, n2, m2, y1, y2, y3, z_fr_t x4 (z_fr_t (z_rd_ta k2) y4)⟩
          · obtain ⟨M, y1, y2, y3, y4⟩ := nx.2 e he
            exact ⟨M, y1, y2, y3, z_fr_t x4 (z_fr_t (z_rd_ta k2) y4)⟩
        · rw [if_neg c2]
          rw [z_b, if_neg c2] at k1'
          rw [if_neg c2] at k3
          refine ⟨fun r'' e => (by cases e), fun e he => ?_⟩
          cases he
          refine ⟨K, ?_, k3.2.2.1, hq1, z_fr_t x4 (z_rd_ta k2)⟩
          simp (disch := omega) only [e_X0_readText_126_16, k_X0_readText_126_16, e_X0_readText_126_22, k_X0_readText_126_22, e_X0_readText_126_29, k_X0_readText_126_29, ae, c1', k1', q_bd_l, z_ltT, z_ltF, z_eqT, z_eqF, z_ltlT, z_ltlF, z_lltT, z_lltF, z_eqlT, z_eqlF, z_in, z_k7, z_cl, z_lneg, z_llT, z_llF, z_s1, z_nI_cl, z_nlt0, z_ne_m1, z_b0, z_b1, z_la, z_al, z_lm, z_ml, z_nm, nI_add, pk_mul, ↓reduceIte, not_true_eq_false, not_false_eq_true, true_or, or_true, false_or, or_false, true_and, and_true, and_false, false_and, Classical.not_not, Nat.add_zero, z_01, z_em, z_bit_p, Nat.not_le, Nat.not_lt, reduceCtorEq, if_true, if_false]
theorem k_ctext (X : Sx) (d : Nat) (I : Ii) (T : Tt) {B : Nat → Nat} {N n m : Nat} {r : Nat → Int32} (h : z_Ta I B N) (hD : k_D I r n m) (ho : R_ok r n m) : z_ct I T N (C_cab B N r) (c_X0_readText_126 X (d + 7) I T) := by
  obtain ⟨S, s1, s2, s3⟩ := k_start X (d + 4) I T h
  have ae := k_isAtEnd X (d + 5) S T s3
  have L := k_cls X d T 14 0 (t_sk B N 0) n m r S (by omega) s3 (k_D_ta hD s2) ho
  have hs := s3.2.1.1
  rw [e_X0_readText_126, s1]
  unfold C_cab
  by_cases c : t_sk B N 0 = N
  · rw [if_pos c]
    have c' : N ≤ t_sk B N 0 := by omega
    refine ⟨fun r' e => ?_, fun e he => (by cases he)⟩
    cases e
    refine ⟨S, n, m, ?_, ho, k_D_ta hD s2, z_rd_ta s2⟩
    simp (disch := omega) only [e_X0_readText_126_3, k_X0_readText_126_3, e_X0_readText_126_6, k_X0_readText_126_6, ae, c', q_bd_l, z_ltT, z_ltF, z_eqT, z_eqF, z_ltlT, z_ltlF, z_lltT, z_lltF, z_eqlT, z_eqlF, z_in, z_k7, z_cl, z_lneg, z_llT, z_llF, z_s1, z_nI_cl, z_nlt0, z_ne_m1, z_b0, z_b1, z_la, z_al, z_lm, z_ml, z_nm, nI_add, pk_mul, ↓reduceIte, not_true_eq_false, not_false_eq_true, true_or, or_true, false_or, or_false, true_and, and_true, and_false, false_and, Classical.not_not, Nat.add_zero, z_01, z_em, z_bit_p, Nat.not_le, Nat.not_lt, reduceCtorEq, if_true, if_false]
  · rw [if_neg c]
    have c' : ¬ N ≤ t_sk B N 0 := by omega
    have st : q_bd (z_v S T) (fun v h' => q_res X q_sb q_pg (d + 6) cd_X0_readText 3 [some (.ref 126), none] (v.toList ++ []) h') = c_X0_readText_126_11 X (d + 6) (nI 0) S T := by
      simp (disch := omega) only [e_X0_readText_126_3, k_X0_readText_126_3, e_X0_readText_126_6, k_X0_readText_126_6, ae, c', q_bd_l, z_ltT, z_ltF, z_eqT, z_eqF, z_ltlT, z_ltlF, z_lltT, z_lltF, z_eqlT, z_eqlF, z_in, z_k7, z_cl, z_lneg, z_llT, z_llF, z_s1, z_nI_cl, z_nlt0, z_ne_m1, z_b0, z_b1, z_la, z_al, z_lm, z_ml, z_nm, nI_add, pk_mul, ↓reduceIte, not_true_eq_false, not_false_eq_true, true_or, or_true, false_or, or_false, true_and, and_true, and_false, false_and, Classical.not_not, Nat.add_zero, z_01, z_em, z_bit_p, Nat.not_le, Nat.not_lt, reduceCtorEq, if_true, if_false]
      rfl
    rw [st]
    refine ⟨fun r'' e => ?_, fun e he => ?_⟩
    · obtain ⟨M, n2, m2, y1, y2, y3, y4⟩ := L.1 r'' e
      exact ⟨M, n2, m2, y1, y2, y3, z_fr_t (z_rd_ta s2) y4⟩
    · obtain ⟨M, y1, y2, y3, y4⟩ := L.2 e he
      exact ⟨M, y1, y2, y3, z_fr_t (z_rd_ta s2) y4⟩
