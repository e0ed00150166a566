/-! ===== THE CLASS: mixing, moving, undoing ===== -/
theorem k_jarOn (X : Sx) (d : Nat) (I : Ii) (T : Tt) (r : Nat → Int32) (n m : Nat) (v : Int32) (h : k_H27 I r n m) : c_X7_jarOn_27 X (d + 1) v (nI n) I T = z_r (if R_on r n v < n then nI (R_on r n v) else -1) I T := by
  have hn := h.1.2.1
  rw [e_X7_jarOn_27]
  refine (z_find (fun k => c_X7_jarOn_27_2 X d v (nI n) (nI k) I T) (fun k => z_r (nI k) I T) (fun i => decide (r (12 + 13 * i + 1) = v)) n (fun k hk => ?_)).trans ?_
  · have c : I 28 k = r (12 + 13 * k + 1) := h.2.2.1.2.2.2.2.1 k hk
    rw [e_X7_jarOn_27_2]
    by_cases h4 : r (12 + 13 * k + 1) = v <;> simp (disch := omega) only [c, h4, q_bd_l, z_ltT, z_ltF, z_eqT, z_eqF, z_ltlT, z_ltlF, z_lltT, z_lltF, z_eqlT, z_eqlF, z_in, z_k7, z_cl, z_lneg, z_llT, z_llF, z_s1, z_nI_cl, z_nlt0, z_ne_m1, z_b0, z_b1, z_la, z_al, z_lm, z_ml, z_nm, nI_add, pk_mul, ↓reduceIte, not_true_eq_false, not_false_eq_true, true_or, or_true, false_or, or_false, true_and, and_true, and_false, false_and, Classical.not_not, Nat.add_zero, z_01, z_em, z_bit_p, Nat.not_le, Nat.not_lt, reduceCtorEq, if_true, if_false, decide_true, decide_false, Bool.and_true, Bool.and_false, Bool.true_and, Bool.false_and, Bool.or_true, Bool.or_false, Bool.true_or, Bool.false_or, Bool.false_eq_true, ne_eq, Bool.not_true, Bool.not_false, decide_not]
  · rw [e_X7_jarOn_27_2]
    unfold R_on
    split <;> simp (disch := omega) only [q_bd_l, z_ltT, z_ltF, z_eqT, z_eqF, z_ltlT, z_ltlF, z_lltT, z_lltF, z_eqlT, z_eqlF, z_in, z_k7, z_cl, z_lneg, z_llT, z_llF, z_s1, z_nI_cl, z_nlt0, z_ne_m1, z_b0, z_b1, z_la, z_al, z_lm, z_ml, z_nm, nI_add, pk_mul, ↓reduceIte, not_true_eq_false, not_false_eq_true, true_or, or_true, false_or, or_false, true_and, and_true, and_false, false_and, Classical.not_not, Nat.add_zero, z_01, z_em, z_bit_p, Nat.not_le, Nat.not_lt, reduceCtorEq, if_true, if_false]
theorem k_Xmix1 (X : Sx) (d : Nat) (I : Ii) (T : Tt) (n m : Nat) (G : Nat → Nat) (p z : Nat) (H : Nat → Nat → Int32) (h : k_S I n m G p z H) (j o t : Nat) (hj : j < n) (ho : o < n) (hne : j ≠ o) (ht : t < 6) (hs : H z (12 + 13 * j + 2) ≠ 0) (hs2 : H z (12 + 13 * o + 2) ≠ 0) : ∃ K, c_X11_mix_0 X (d + 12) (nI j) (nI o) (nI t) I T = z_r (R_mx (H z) j o t) K T ∧ z_fr m_ac I K ∧ k_S K n m (k_up (k_z z) (k_H' z G) (G z + 1)) ((p + 1) % 12) (k_z z) (k_up (k_z z) (k_H' z H) (R_log (nI j) (nI o) (nI t) (R_mx (H z) j o t) (R_take o (R_take j (H z))))) := by
  have h27 := k_S_27 h
  have hn := h27.1.2.1
  have n3 := k_n3 h27
  obtain ⟨A, a1, a2⟩ := k_mixtureOf X (d + 5) I T (H z) n m j o t h27 hj ho ht
  have hA := k_S_cs h a2
  obtain ⟨J, j1, j2, j3⟩ := k_S_rem X (d + 9) A T n m G p z H hA
  obtain ⟨e1, e2, e3⟩ := k_H'_eq z G h.2.1
  obtain ⟨-, -, f3⟩ := k_H'_eq z H h.2.1
  have hJ := j3.2.2.2.2.1
  rw [e3, f3] at hJ
  obtain ⟨C, c1, c2, c3⟩ := k_useSpoon27 X (d + 10) J T (H z) n j hJ.2.2.2.1 hn hj
  have hfo := fun a x y w => mo_row c2 a x y w
  have hC := k_M_take hJ hj hs c2 (c2 27 8 rfl) hfo (c2 42 0 rfl) c3
  obtain ⟨C2, b1, b2, b3⟩ := k_useSpoon27 X (d + 10) C T (R_take j (H z)) n o hC.2.2.2.1 hn ho
  have hfo2 := fun a x y w => mo_row b2 a x y w
  have hs3 : R_take j (H z) (12 + 13 * o + 2) ≠ 0 := by
    unfold R_take
    rw [ru_ne (by omega), ru_ne (by omega)]; exact hs2
  have hC2 := k_M_take hC ho hs3 b2 (b2 27 8 rfl) hfo2 (b2 42 0 rfl) b3
  obtain ⟨D, d1, d2, d3⟩ := k_S_enter X (d + 10) T j3 e1 e2 (R_take o (R_take j (H z))) (by rw [e3]; exact hC2) (fun a x y w => (hfo2 a x y w).trans (hfo a x y w)) ((b2 42 0 rfl).trans (c2 42 0 rfl)) (nI j) (nI o) (nI t) (R_mx (H z) j o t)
  rw [e3] at d3
  refine ⟨D, ?_, z_fr_t (m_ac_cs a2) (z_fr_t (m_ac_hi j2) (z_fr_t (m_ac_mo c2) (z_fr_t (m_ac_mo b2) (m_ac_en d2)))), d3⟩
  rw [e_X11_mix_0, k_needTwo1 X _ I T n j o t n3 hn hj ho hne ht]
  simp (disch := omega) only [e_X11_mix_0_5, k_X11_mix_0_5, e_X11_mix_0_8, k_X11_mix_0_8, e_X11_mix_0_11, k_X11_mix_0_11, e_X11_mix_0_17, k_X11_mix_0_17, e_X11_mix_0_23, k_X11_mix_0_23, e_X11_mix_0_27, k_X11_mix_0_27, e_X11_mix_0_31, k_X11_mix_0_31, e_X11_mix_0_40, k_X11_mix_0_40, k_needSpoon1 X _ I T (H z) n m j h27 hj hs, k_needSpoon1 X _ I T (H z) n m o h27 ho hs2, a1, j1, c1, b1, d1, q_bd_l, z_ltT, z_ltF, z_eqT, z_eqF, z_ltlT, z_ltlF, z_lltT, z_lltF, z_eqlT, z_eqlF, z_in, z_k7, z_cl, z_lneg, z_llT, z_llF, z_s1, z_nI_cl, z_nlt0, z_ne_m1, z_b0, z_b1, z_la, z_al, z_lm, z_ml, z_nm, nI_add, pk_mul, ↓reduceIte, not_true_eq_false, not_false_eq_true, true_or, or_true, false_or, or_false, true_and, and_true, and_false, false_and, Classical.not_not, Nat.add_zero, z_01, z_em, z_bit_p, Nat.not_le, Nat.not_lt, reduceCtorEq, if_true, if_false]
theorem k_Xmix0 (X : Sx) (d : Nat) (I : Ii) (T : Tt) (r : Nat → Int32) (n m : Nat) (h : k_H27 I r n m) (v u w c : Int32) (hc : z_two n v u w c ∧ (c = 1 ∨ c = 2) ∨ c = 3 ∧ ∃ j o t, j < n ∧ o < n ∧ j ≠ o ∧ t < 6 ∧ v = nI j ∧ u = nI o ∧ w = nI t ∧ (r (12 + 13 * j + 2) = 0 ∨ r (12 + 13 * o + 2) = 0)) : c_X11_mix_0 X (d + 12) v u w I T = z_x (if c = 1 then 2 else if c = 2 then 0 else 4) I T := by
  have hn := h.1.2.1
  have n3 := k_n3 h
  rw [e_X11_mix_0]
  rcases hc with ⟨h0, h1⟩ | ⟨e, j, o, t, hj, ho, hne, ht, rfl, rfl, rfl, hs⟩
  · have hc0 : c ≠ 0 := by rcases h1 with rfl | rfl <;> decide
    rw [k_needTwo0 X _ I T n v u w c n3 hn h0 hc0, z_x_bd]
    rcases h1 with rfl | rfl <;> rfl
  · have e1 : ¬ c = 1 := by rw [e]; decide
    have e2 : ¬ c = 2 := by rw [e]; decide
    rw [if_neg e1, if_neg e2, k_needTwo1 X _ I T n j o t n3 hn hj ho hne ht]
    by_cases hs1 : r (12 + 13 * j + 2) = 0
    · simp (disch := omega) only [e_X11_mix_0_5, k_X11_mix_0_5, e_X11_mix_0_8, k_X11_mix_0_8, e_X11_mix_0_11, k_X11_mix_0_11, e_X11_mix_0_17, k_X11_mix_0_17, e_X11_mix_0_23, k_X11_mix_0_23, e_X11_mix_0_27, k_X11_mix_0_27, e_X11_mix_0_31, k_X11_mix_0_31, e_X11_mix_0_40, k_X11_mix_0_40, k_needSpoon0 X _ I T r n m j h hj hs1, z_x_bd, q_bd_l, z_ltT, z_ltF, z_eqT, z_eqF, z_ltlT, z_ltlF, z_lltT, z_lltF, z_eqlT, z_eqlF, z_in, z_k7, z_cl, z_lneg, z_llT, z_llF, z_s1, z_nI_cl, z_nlt0, z_ne_m1, z_b0, z_b1, z_la, z_al, z_lm, z_ml, z_nm, nI_add, pk_mul, ↓reduceIte, not_true_eq_false, not_false_eq_true, true_or, or_true, false_or, or_false, true_and, and_true, and_false, false_and, Classical.not_not, Nat.add_zero, z_01, z_em, z_bit_p, Nat.not_le, Nat.not_lt, reduceCtorEq, if_true, if_false]
    · have hs2 : r (12 + 13 * o + 2) = 0 := by rcases hs with a | a; exact absurd a hs1; exact a
      simp (disch := omega) only [e_X11_mix_0_5, k_X11_mix_0_5, e_X11_mix_0_8, k_X11_mix_0_8, e_X11_mix_0_11, k_X11_mix_0_11, e_X11_mix_0_17, k_X11_mix_0_17, e_X11_mix_0_23, k_X11_mix_0_23, e_X11_mix_0_27, k_X11_mix_0_27, e_X11_mix_0_31, k_X11_mix_0_31, e_X11_mix_0_40, k_X11_mix_0_40, k_needSpoon1 X _ I T r n m j h hj hs1, k_needSpoon0 X _ I T r n m o h ho hs2, z_x_bd, q_bd_l, z_ltT, z_ltF, z_eqT, z_eqF, z_ltlT, z_ltlF, z_lltT, z_lltF, z_eqlT, z_eqlF, z_in, z_k7, z_cl, z_lneg, z_llT, z_llF, z_s1, z_nI_cl, z_nlt0, z_ne_m1, z_b0, z_b1, z_la, z_al, z_lm, z_ml, z_nm, nI_add, pk_mul, ↓reduceIte, not_true_eq_false, not_false_eq_true, true_or, or_true, false_or, or_false, true_and, and_true, and_false, false_and, Classical.not_not, Nat.add_zero, z_01, z_em, z_bit_p, Nat.not_le, Nat.not_lt, reduceCtorEq, if_true, if_false]
theorem k_Xundo0 (X : Sx) (d : Nat) (I : Ii) (T : Tt) (h2 : I 64 2 = nI 0) : c_X11_undo_0 X (d + 12) I T = z_r 0 I T := by
  rw [e_X11_undo_0, k_giveBack0 X (d + 9) I T h2]
  simp (disch := omega) only [e_X11_undo_0_5, k_X11_undo_0_5, q_bd_l, z_ltT, z_ltF, z_eqT, z_eqF, z_ltlT, z_ltlF, z_lltT, z_lltF, z_eqlT, z_eqlF, z_in, z_k7, z_cl, z_lneg, z_llT, z_llF, z_s1, z_nI_cl, z_nlt0, z_ne_m1, z_b0, z_b1, z_la, z_al, z_lm, z_ml, z_nm, nI_add, pk_mul, ↓reduceIte, not_true_eq_false, not_false_eq_true, true_or, or_true, false_or, or_false, true_and, and_true, and_false, false_and, Classical.not_not, Nat.add_zero, z_01, z_em, z_bit_p, Nat.not_le, Nat.not_lt, reduceCtorEq, if_true, if_false]
theorem k_Xundo1 (X : Sx) (d : Nat) (I : Ii) (T : Tt) (n m : Nat) (G : Nat → Nat) (p z : Nat) (H : Nat → Nat → Int32) (h : k_S I n m G p (z + 1) H) : ∃ K, c_X11_undo_0 X (d + 12) I T = z_r 1 K T ∧ z_fr m_ac I K ∧ k_S K n m G ((p + 11) % 12) z H := by
  obtain ⟨hp, hz, h1, h2, h3, h4, h5⟩ := h
  have hn := h3.1.2.1
  have e := k_giveBack1 X (d + 9) I T p z hp (by omega) h1 h2
  have hat : k_at p (z + 1) z = 66 + 5 * ((p + 11) % 12) := by
    unfold k_at
    have : (p + 12 - (z + 1) + z) % 12 = (p + 11) % 12 := by omega
    rw [this]
  have hM := h4 z (by omega)
  rw [hat] at hM
  have oth : ∀ a, a ≠ 64 → (a < 27 ∨ 31 < a) → k_cp (q_w (q_w I 64 1 (nI ((p + 11) % 12))) 64 2 (nI z)) (66 + 5 * ((p + 11) % 12)) 27 a = I a := by
    intro a b1 b2
    rw [k_cp_o _ _ _ _ (by omega), z_w_a _ _ _ _ _ b1, z_w_a _ _ _ _ _ b1]
  have r64 : k_cp (q_w (q_w I 64 1 (nI ((p + 11) % 12))) 64 2 (nI z)) (66 + 5 * ((p + 11) % 12)) 27 64 = q_w (q_w I 64 1 (nI ((p + 11) % 12))) 64 2 (nI z) 64 := k_cp_o _ _ _ _ (by omega)
  have hw : ∀ a, a ≠ 64 → q_w (q_w I 64 1 (nI ((p + 11) % 12))) 64 2 (nI z) a = I a := by
    intro a b1
    rw [z_w_a _ _ _ _ _ b1, z_w_a _ _ _ _ _ b1]
  refine ⟨k_cp (q_w (q_w I 64 1 (nI ((p + 11) % 12))) 64 2 (nI z)) (66 + 5 * ((p + 11) % 12)) 27, ?_, ?_, ?_⟩
  · rw [e_X11_undo_0, e]
    simp (disch := omega) only [e_X11_undo_0_5, k_X11_undo_0_5, q_bd_l, z_ltT, z_ltF, z_eqT, z_eqF, z_ltlT, z_ltlF, z_lltT, z_lltF, z_eqlT, z_eqlF, z_in, z_k7, z_cl, z_lneg, z_llT, z_llF, z_s1, z_nI_cl, z_nlt0, z_ne_m1, z_b0, z_b1, z_la, z_al, z_lm, z_ml, z_nm, nI_add, pk_mul, ↓reduceIte, not_true_eq_false, not_false_eq_true, true_or, or_true, false_or, or_false, true_and, and_true, and_false, false_and, Classical.not_not, Nat.add_zero, z_01, z_em, z_bit_p, Nat.not_le, Nat.not_lt, reduceCtorEq, if_true, if_false]
  · intro a k hm
    have c1 : ¬ (27 ≤ a ∧ a ≤ 31) := by
      intro c
      have : m_ac a k = true := by
        have e1 : Nat.ble 27 a = true := by rw [Nat.ble_eq]; omega
        have e2 : Nat.ble a 31 = true := by rw [Nat.ble_eq]; omega
        simp [m_ac, e1, e2]
      rw [this] at hm; cases hm
    by_cases a64 : a = 64
    · subst a64
      have c2 : k ≠ 1 ∧ k ≠ 2 := by
        constructor <;> (intro c; subst c; cases hm)
      rw [r64, z_w_k _ _ _ _ _ c2.2, z_w_k _ _ _ _ _ c2.1]
    · rw [oth a a64 (by omega)]
  · generalize hJ : k_cp (q_w (q_w I 64 1 (nI ((p + 11) % 12))) 64 2 (nI z)) (66 + 5 * ((p + 11) % 12)) 27 = J at *
    refine ⟨by omega, by omega, ?_, ?_, ?_, ?_, fun i j a b => h5 i j a (by omega)⟩
    · rw [r64, z_w_k _ _ _ _ _ (by decide), z_w_s]
    · rw [r64, z_w_s]
    · refine ⟨hM.1, z_Sh_fr hM.2.1 (fun a x y => oth a (by omega) (by omega)), z_La_fr hM.2.2.1 (by rw [oth 42 (by omega) (by omega)]) (fun a x y => oth a (by omega) (by omega)), ?_, ?_⟩
      · rw [← hJ]
        exact k_cp_Mo _ _ 27 (H z) n (by omega) hn (z_Mo_fr hM.2.2.2.1 (fun a x y => hw a (by omega)))
      · rw [← hJ]
        exact k_cp_Lg _ _ 27 61 (H z) (G z) (by omega) (z_Lg_fr hM.2.2.2.2 (by rw [hw _ (by omega)]) (hw 61 (by omega)))
    · intro i hi
      have ea : k_at ((p + 11) % 12) z i = k_at p (z + 1) i := by
        unfold k_at
        have : ((p + 11) % 12 + 12 - z + i) % 12 = (p + 12 - (z + 1) + i) % 12 := by omega
        rw [this]
      rw [ea]
      have hb := k_at_b p (z + 1) i
      exact k_M_fr (h4 i (by omega)) (fun a x y => oth a (by omega) (by omega)) (by rw [oth 42 (by omega) (by omega)]) (fun a x y => oth a (by omega) (by omega)) (fun a x y => oth a (by omega) (by omega)) (z_Lg_fr (h4 i (by omega)).2.2.2.2 (by rw [oth _ (by omega) (by omega)]) (oth 61 (by omega) (by omega)))
