/-! ===== THE CLASS: moving, years ===== -/
theorem k_Xmove0 (X : Sx) (d : Nat) (I : Ii) (T : Tt) (n : Nat) (v u : Int32) (h3 : I 3 0 = nI n) (hn : n ≤ 10) (hv : z_no v n ∨ (∃ j, j < n ∧ v = nI j) ∧ z_no u 12) : c_X11_move_0 X (d + 12) v u I T = z_x 2 I T := by
  rw [e_X11_move_0]
  rcases hv with hv | ⟨⟨j, hj, rfl⟩, hu⟩
  · rw [k_needJar0 X _ v I T n h3 hv, z_x_bd]
  · rw [k_needJar1 X _ I T n j h3 hn hj]
    simp (disch := omega) only [e_X11_move_0_3, k_X11_move_0_3, e_X11_move_0_5, k_X11_move_0_5, e_X11_move_0_12, k_X11_move_0_12, e_X11_move_0_18, k_X11_move_0_18, e_X11_move_0_36, k_needPlace0 X _ u I T hu, z_x_bd, q_bd_l, z_ltT, z_ltF, z_eqT, z_eqF, z_ltlT, z_ltlF, z_lltT, z_lltF, z_eqlT, z_eqlF, z_in, z_k7, z_cl, z_lneg, z_llT, z_llF, z_s1, z_nI_cl, z_nlt0, z_ne_m1, z_b0, z_b1, z_la, z_al, z_lm, z_ml, z_nm, nI_add, pk_mul, ↓reduceIte, not_true_eq_false, not_false_eq_true, true_or, or_true, false_or, or_false, true_and, and_true, and_false, false_and, Classical.not_not, Nat.add_zero, z_01, z_em, z_bit_p, Nat.not_le, Nat.not_lt, reduceCtorEq, if_true, if_false]
theorem k_Xmove1 (X : Sx) (d : Nat) (I : Ii) (T : Tt) (n m : Nat) (G : Nat → Nat) (p z : Nat) (H : Nat → Nat → Int32) (h : k_S I n m G p z H) (j q : Nat) (hj : j < n) (hq : q < 12) : ∃ K, c_X11_move_0 X (d + 12) (nI j) (nI q) I T = z_r (if R_on (H z) n (nI q) = j then -1 else if R_on (H z) n (nI q) < n then nI (R_on (H z) n (nI q)) else -1) K T ∧ z_fr m_ac I K ∧ k_S K n m (k_H' z G) ((p + 1) % 12) (k_z z) (k_up (k_z z) (k_H' z H) (R_mov (H z) n j (nI q))) := by
  have h27 := k_S_27 h
  have hn := h27.1.2.1
  have hm := h27.1.2.2.2.1
  have n3 := k_n3 h27
  obtain ⟨J, j1, j2, j3⟩ := k_S_rem X (d + 9) I T n m G p z H h
  obtain ⟨e1, e2, e3⟩ := k_H'_eq z G h.2.1
  obtain ⟨-, -, f3⟩ := k_H'_eq z H h.2.1
  have hJ := j3.2.2.2.2.1
  rw [e3, f3] at hJ
  have jo := k_jarOn X (d + 10) I T (H z) n m (nI q) h27
  have c : J 28 j = H z (12 + 13 * j + 1) := hJ.2.2.2.1.2.2.2.2.1 j hj
  have hle : R_on (H z) n (nI q) ≤ n := z_fst_le _ _
  have mc : ∀ i, i < n → r_mc (12 + 13 * i + 1) := fun i hi => .inr (.inr (.inr (.inr (.inl ⟨i, 1, by omega, rfl, by omega⟩))))
  have hjv := (hJ.1.2.2.2.2.2.2.2.2.2.2.1 j hj).2.1
  have hqv : z_le (nI q) 11 := ⟨q, by omega, rfl⟩
  have hLg : z_Lg J 27 61 (H z) (k_H' z G (k_z z)) := by rw [e3]; exact hJ.2.2.2.2
  rw [e_X11_move_0, k_needJar1 X _ I T n j n3 hn hj]
  unfold R_mov
  generalize R_on (H z) n (nI q) = o at *
  by_cases ho : o = j
  · refine ⟨J, ?_, m_ac_hi j2, ?_⟩
    · simp (disch := omega) only [e_X11_move_0_3, k_X11_move_0_3, e_X11_move_0_5, k_X11_move_0_5, e_X11_move_0_12, k_X11_move_0_12, e_X11_move_0_18, k_X11_move_0_18, e_X11_move_0_36, k_needPlace1 X _ I T q hq, n3, jo, ho, hj, j1, q_bd_l, z_ltT, z_ltF, z_eqT, z_eqF, z_ltlT, z_ltlF, z_lltT, z_lltF, z_eqlT, z_eqlF, z_in, z_k7, z_cl, z_lneg, z_llT, z_llF, z_s1, z_nI_cl, z_nlt0, z_ne_m1, z_b0, z_b1, z_la, z_al, z_lm, z_ml, z_nm, nI_add, pk_mul, ↓reduceIte, not_true_eq_false, not_false_eq_true, true_or, or_true, false_or, or_false, true_and, and_true, and_false, false_and, Classical.not_not, Nat.add_zero, z_01, z_em, z_bit_p, Nat.not_le, Nat.not_lt, reduceCtorEq, if_true, if_false]
    · rw [if_pos ho, ← f3, k_up_id]; exact j3
  · by_cases h1 : o < n
    · refine ⟨q_w (q_w J 28 o (H z (12 + 13 * j + 1))) 28 j (nI q), ?_, z_fr_w (z_fr_w (m_ac_hi j2) 28 _ _ rfl) 28 _ _ rfl, ?_⟩
      · simp (disch := omega) only [e_X11_move_0_3, k_X11_move_0_3, e_X11_move_0_5, k_X11_move_0_5, e_X11_move_0_12, k_X11_move_0_12, e_X11_move_0_18, k_X11_move_0_18, e_X11_move_0_36, k_needPlace1 X _ I T q hq, n3, jo, ho, h1, j1, c, q_bd_l, z_ltT, z_ltF, z_eqT, z_eqF, z_ltlT, z_ltlF, z_lltT, z_lltF, z_eqlT, z_eqlF, z_in, z_k7, z_cl, z_lneg, z_llT, z_llF, z_s1, z_nI_cl, z_nlt0, z_ne_m1, z_b0, z_b1, z_la, z_al, z_lm, z_ml, z_nm, nI_add, pk_mul, ↓reduceIte, not_true_eq_false, not_false_eq_true, true_or, or_true, false_or, or_false, true_and, and_true, and_false, false_and, Classical.not_not, Nat.add_zero, z_01, z_em, z_bit_p, Nat.not_le, Nat.not_lt, reduceCtorEq, if_true, if_false]
      · rw [if_neg ho, if_pos h1]
        refine k_S_now j3 e1 e2 _ (fun a ha => by rw [z_w_a _ _ _ _ _ (by omega), z_w_a _ _ _ _ _ (by omega)]) (by rw [z_w_a _ _ _ _ _ (by decide), z_w_a _ _ _ _ _ (by decide)]) (z_Mo_w1 (z_Mo_w1 hJ.2.2.2.1 hn o h1 _) hn j hj _) (R_ok_w1 (R_ok_w1 hJ.1 o h1 _ hjv) j hj _ hqv) (z_Sh_up (z_Sh_up hJ.2.1 hn hm (mc o h1) _) hn hm (mc j hj) _) (z_La_up (z_La_up hJ.2.2.1 (by omega) (by omega) _) (by omega) (by omega) _) (z_Lg_up (z_Lg_up hLg (by omega) (by omega) _) (by omega) (by omega) _)
    · have e9 : (-1 = nI j) = False := eq_false (fun h9 => (z_ne_m1 j (by omega)).mp h9.symm)
      refine ⟨q_w J 28 j (nI q), ?_, z_fr_w (m_ac_hi j2) 28 _ _ rfl, ?_⟩
      · simp (disch := omega) only [e_X11_move_0_3, k_X11_move_0_3, e_X11_move_0_5, k_X11_move_0_5, e_X11_move_0_12, k_X11_move_0_12, e_X11_move_0_18, k_X11_move_0_18, e_X11_move_0_36, k_needPlace1 X _ I T q hq, n3, jo, ho, h1, j1, e9, q_bd_l, z_ltT, z_ltF, z_eqT, z_eqF, z_ltlT, z_ltlF, z_lltT, z_lltF, z_eqlT, z_eqlF, z_in, z_k7, z_cl, z_lneg, z_llT, z_llF, z_s1, z_nI_cl, z_nlt0, z_ne_m1, z_b0, z_b1, z_la, z_al, z_lm, z_ml, z_nm, nI_add, pk_mul, ↓reduceIte, not_true_eq_false, not_false_eq_true, true_or, or_true, false_or, or_false, true_and, and_true, and_false, false_and, Classical.not_not, Nat.add_zero, z_01, z_em, z_bit_p, Nat.not_le, Nat.not_lt, reduceCtorEq, if_true, if_false]
      · rw [if_neg ho, if_neg h1]
        exact k_S_now j3 e1 e2 _ (fun a ha => by rw [z_w_a _ _ _ _ _ (by omega)]) (by rw [z_w_a _ _ _ _ _ (by decide)]) (z_Mo_w1 hJ.2.2.2.1 hn j hj _) (R_ok_w1 hJ.1 j hj _ hqv) (z_Sh_up hJ.2.1 hn hm (mc j hj) _) (z_La_up hJ.2.2.1 (by omega) (by omega) _) (z_Lg_up hLg (by omega) (by omega) _)
