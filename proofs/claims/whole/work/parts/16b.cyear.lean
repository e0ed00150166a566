/-! ===== THE CLASS: a year goes on ===== -/
def m_mo (mo a k : Nat) : Bool := m_la a k || (a == mo && (k == 4 || k == 5 || k == 6 || k == 7)) || (Nat.blt mo a && Nat.ble a (mo + 4))
/-- what a jar sours by is no number below 0 -/
theorem r_sk_pos (fc : Fc) (r : Nat → Int32) (k : Nat) : ∃ s, s ≤ 12000 ∧ r_sk fc r k = nI s := by
  unfold r_sk
  split
  · exact ⟨0, by omega, rfl⟩
  · have hlen := (R_ls_w r).2
    have key : ∀ n, n ≤ (R_ls r).length → ∃ s, s ≤ 1000 * n ∧ z_it (fun i a => a + (if (r_at (R_ls r) i).1 = k ∧ (r_at (R_ls r) i).2.2.2 fc ≠ 0 then nI (r_at (R_ls r) i).2.1 else 0)) n 0 = nI s := by
      intro n
      induction n with
      | zero => intro _; exact ⟨0, by omega, rfl⟩
      | succ n ih =>
        intro hn
        obtain ⟨s, hs, es⟩ := ih (by omega)
        have w2 := ((R_ls_w r).1 _ (k_at_mem (by omega : n < (R_ls r).length))).2.1
        show ∃ s, s ≤ 1000 * (n + 1) ∧ z_it (fun i a => a + (if (r_at (R_ls r) i).1 = k ∧ (r_at (R_ls r) i).2.2.2 fc ≠ 0 then nI (r_at (R_ls r) i).2.1 else 0)) n 0 + _ = nI s
        rw [es]
        split
        · exact ⟨s + (r_at (R_ls r) n).2.1, by omega, nI_add _ _⟩
        · exact ⟨s, by omega, Int32.add_zero _⟩
    obtain ⟨s, hs, es⟩ := key _ (Nat.le_refl _)
    exact ⟨s, by omega, es⟩
theorem R_say_sb_pos (r : Nat → Int32) (j : Nat) {k : Nat} (hk : k ≤ 99) : ¬ nI k + (R_say r j 0 0).2.1 < 0 := by
  by_cases h1 : r 1 = -1
  · unfold R_say
    rw [if_pos h1]
    show ¬ nI k + z_b (r (12 + 13 * j) = 0) < 0
    obtain ⟨c1, c2⟩ := z_b_c (r (12 + 13 * j) = 0)
    rw [c2, nI_add]
    exact nI_pos (by omega)
  · rw [← k_say_sb h1]
    obtain ⟨s, hs, es⟩ := r_sk_pos (r_fc r j 0 0) r 2
    rw [es, nI_add]
    exact nI_pos (by omega)
theorem k_H27_pl {I : Ii} {r : Nat → Int32} {n m : Nat} (h : k_H27 I r n m) (j : Nat) (hj : j < n) (v : Int32) (hv : z_le v 11) : k_H27 (q_w I 28 j v) (va_up r (12 + 13 * j + 1) v) n m := by
  obtain ⟨h1, h2, h3, h4⟩ := h
  have hn := h1.2.1
  have hm := h1.2.2.2.1
  refine ⟨R_ok_w1 h1 j hj v hv, z_Sh_up (z_Sh_fr h2 (fun a h5 h6 => z_w_a _ _ _ _ _ (by omega))) hn hm (.inr (.inr (.inr (.inr (.inl ⟨j, 1, by omega, rfl, by omega⟩))))) v, z_Mo_w1 h3 hn j hj v, z_La_up (z_La_fr h4 (by rw [z_w_a _ _ _ _ _ (by decide)]) (fun a h5 h6 => z_w_a _ _ _ _ _ (by omega))) (by omega) (by omega) v⟩
theorem k_H27_sp {I : Ii} {r : Nat → Int32} {n m : Nat} (h : k_H27 I r n m) (j : Nat) (hj : j < n) (v : Int32) (hv : z_le v 20) : k_H27 (q_w I 29 j v) (va_up r (12 + 13 * j + 2) v) n m := by
  obtain ⟨h1, h2, h3, h4⟩ := h
  have hn := h1.2.1
  have hm := h1.2.2.2.1
  refine ⟨R_ok_w2 h1 j hj v hv, z_Sh_up (z_Sh_fr h2 (fun a h5 h6 => z_w_a _ _ _ _ _ (by omega))) hn hm (.inr (.inr (.inr (.inr (.inl ⟨j, 2, by omega, rfl, by omega⟩))))) v, z_Mo_w2 h3 hn j hj v, z_La_up (z_La_fr h4 (by rw [z_w_a _ _ _ _ _ (by decide)]) (fun a h5 h6 => z_w_a _ _ _ _ _ (by omega))) (by omega) (by omega) v⟩
theorem k_H27_so {I : Ii} {r : Nat → Int32} {n m : Nat} (h : k_H27 I r n m) (j : Nat) (hj : j < n) (v : Int32) (hv : z_le v 99) : k_H27 (q_w I 30 j v) (va_up r (12 + 13 * j + 3) v) n m := by
  obtain ⟨h1, h2, h3, h4⟩ := h
  have hn := h1.2.1
  have hm := h1.2.2.2.1
  refine ⟨R_ok_w3 h1 j hj v hv, z_Sh_up (z_Sh_fr h2 (fun a h5 h6 => z_w_a _ _ _ _ _ (by omega))) hn hm (.inr (.inr (.inr (.inr (.inl ⟨j, 3, by omega, rfl, by omega⟩))))) v, z_Mo_w3 h3 hn j hj v, z_La_up (z_La_fr h4 (by rw [z_w_a _ _ _ _ _ (by decide)]) (fun a h5 h6 => z_w_a _ _ _ _ _ (by omega))) (by omega) (by omega) v⟩
theorem k_H27_lb {I : Ii} {r : Nat → Int32} {n m : Nat} (h : k_H27 I r n m) (j : Nat) (hj : j < n) (v : Int32) (hv : v = -1 ∨ ∃ k, k < n ∧ v = nI k) : k_H27 (q_w I 31 j v) (va_up r (12 + 13 * j + 5) v) n m := by
  obtain ⟨h1, h2, h3, h4⟩ := h
  have hn := h1.2.1
  have hm := h1.2.2.2.1
  refine ⟨R_ok_w5 h1 j hj v hv, z_Sh_up (z_Sh_fr h2 (fun a h5 h6 => z_w_a _ _ _ _ _ (by omega))) hn hm (.inr (.inr (.inr (.inr (.inl ⟨j, 5, by omega, rfl, by omega⟩))))) v, z_Mo_w5 h3 hn j hj v, z_La_up (z_La_fr h4 (by rw [z_w_a _ _ _ _ _ (by decide)]) (fun a h5 h6 => z_w_a _ _ _ _ _ (by omega))) (by omega) (by omega) v⟩
theorem k_H27_year {I : Ii} {r : Nat → Int32} {n m : Nat} (h : k_H27 I r n m) (v : Int32) : k_H27 (q_w I 27 5 v) (va_up r 8 v) n m := by
  obtain ⟨h1, h2, h3, h4⟩ := h
  have hn := h1.2.1
  have hm := h1.2.2.2.1
  refine ⟨R_ok_A h1 8 (by omega) v, z_Sh_up (z_Sh_fr h2 (fun a h5 h6 => z_w_a _ _ _ _ _ (by omega))) hn hm (by unfold r_mc; omega) v, z_Mo_year h3 v, z_La_up (z_La_fr h4 (by rw [z_w_a _ _ _ _ _ (by decide)]) (fun a h5 h6 => z_w_a _ _ _ _ _ (by omega))) (by omega) (by omega) v⟩
theorem k_H27_el {I : Ii} {r : Nat → Int32} {n m : Nat} (h : k_H27 I r n m) (v : Int32) : k_H27 (q_w I 27 7 v) (va_up r 9 v) n m := by
  obtain ⟨h1, h2, h3, h4⟩ := h
  have hn := h1.2.1
  have hm := h1.2.2.2.1
  refine ⟨R_ok_A h1 9 (by omega) v, z_Sh_up (z_Sh_fr h2 (fun a h5 h6 => z_w_a _ _ _ _ _ (by omega))) hn hm (by unfold r_mc; omega) v, z_Mo_el h3 v, z_La_up (z_La_fr h4 (by rw [z_w_a _ _ _ _ _ (by decide)]) (fun a h5 h6 => z_w_a _ _ _ _ _ (by omega))) (by omega) (by omega) v⟩
theorem k_H27_seed {I : Ii} {r : Nat → Int32} {n m : Nat} (h : k_H27 I r n m) (v : Int32) : k_H27 (q_w I 27 6 v) (va_up r 11 v) n m := by
  obtain ⟨h1, h2, h3, h4⟩ := h
  have hn := h1.2.1
  have hm := h1.2.2.2.1
  refine ⟨R_ok_A h1 11 (by omega) v, z_Sh_up (z_Sh_fr h2 (fun a h5 h6 => z_w_a _ _ _ _ _ (by omega))) hn hm (by unfold r_mc; omega) v, z_Mo_seed h3 v, z_La_up (z_La_fr h4 (by rw [z_w_a _ _ _ _ _ (by decide)]) (fun a h5 h6 => z_w_a _ _ _ _ _ (by omega))) (by omega) (by omega) v⟩
theorem k_sm27 (X : Sx) (d : Nat) (I : Ii) (T : Tt) (r : Nat → Int32) (n m j : Nat) (by9 : Int32) (h : k_H27 I r n m) (hj : j < n) : c_X7_sourMore_27 X (d + 1) (nI j) by9 I T = z_v (q_w I 30 j (z_99 (r (12 + 13 * j + 3) + by9))) T := by
  have hn := h.1.2.1
  have c3 : I 30 j = r (12 + 13 * j + 3) := h.2.2.1.2.2.2.2.2.2.1 j hj
  rw [e_X7_sourMore_27]
  simp (disch := omega) only [c3, z_99_c, q_bd_l, z_ltT, z_ltF, z_eqT, z_eqF, z_ltlT, z_ltlF, z_lltT, z_lltF, z_eqlT, z_eqlF, z_in, z_k7, z_cl, z_lneg, z_llT, z_llF, z_s1, z_nI_cl, z_nlt0, z_ne_m1, z_b0, z_b1, z_la, z_al, z_lm, z_ml, z_nm, nI_add, pk_mul, ↓reduceIte, not_true_eq_false, not_false_eq_true, true_or, or_true, false_or, or_false, true_and, and_true, and_false, false_and, Classical.not_not, Nat.add_zero, z_01, z_em, z_bit_p, Nat.not_le, Nat.not_lt, reduceCtorEq, if_true, if_false]
theorem k_pop27 (X : Sx) (d : Nat) (I : Ii) (T : Tt) (r : Nat → Int32) (n m j : Nat) (h : k_H27 I r n m) (hj : j < n) : ∃ J, c_X2_pop_135_27 X (d + 2) (nI j) I T = z_v J T ∧ z_fr (m_mo 27) I J ∧ k_H27 J (R_pops n j r) n m := by
  have hn := h.1.2.1
  have e7 : I 27 7 = r 9 := h.2.2.1.2.1
  have hK0 : k_H27 (q_w (q_w I 29 j 0) 27 7 (r 9 + 1)) (va_up (va_up r (12 + 13 * j + 2) 0) 9 (r 9 + 1)) n m := k_H27_el (k_H27_sp h j hj 0 ⟨0, by omega, rfl⟩) _
  have f0 : z_fr (m_mo 27) I (q_w (q_w I 29 j 0) 27 7 (r 9 + 1)) := z_fr_w (z_fr_w (z_fr_r _ _) 29 j _ (by simp [m_mo, m_la])) 27 7 _ rfl
  obtain ⟨J, ⟨p1, p2⟩, p4⟩ := z_foldP (β := Nat → Int32) (σ := Ii) (fun o r J => c_X2_pop_135_27_13 X (d + 1) (nI j) (nI o) J T) (R_sp j) (fun o r J => z_fr (m_mo 27) I J ∧ k_H27 J r n m) n (by
    intro o r J ho ⟨q1, q2⟩
    have n3 : J 3 0 = nI n := q2.2.1.1.trans q2.1.1
    have c1 : J 28 o = r (12 + 13 * o + 1) := q2.2.2.1.2.2.2.2.1 o ho
    have c1j : J 28 j = r (12 + 13 * j + 1) := q2.2.2.1.2.2.2.2.1 j hj
    have sm := k_sm27 X d J T r n m o 10 q2 ho
    rw [e_X2_pop_135_27_13]
    unfold R_sp
    by_cases hz : z_sz (r (12 + 13 * o + 1) - r (12 + 13 * j + 1)) = 1
    · rw [if_pos hz]
      have hs := (q2.1.2.2.2.2.2.2.2.2.2.2.1 o ho).2.2.2.1
      refine ⟨q_w J 30 o (z_99 (r (12 + 13 * o + 3) + 10)), ⟨z_fr_w q1 30 o _ (by simp [m_mo, m_la]), k_H27_so q2 o ho _ ?_⟩, ?_⟩
      · obtain ⟨k, hk, ek⟩ := hs
        rw [ek]
        refine z_99_le ?_
        rw [show nI k + 10 = nI (k + 10) from nI_add k 10]
        exact nI_pos (by omega)
      · simp (disch := omega) only [e_X2_pop_135_27_34, k_X2_pop_135_27_34, n3, c1, c1j, z_abs_c, hz, sm, q_bd_l, z_ltT, z_ltF, z_eqT, z_eqF, z_ltlT, z_ltlF, z_lltT, z_lltF, z_eqlT, z_eqlF, z_in, z_k7, z_cl, z_lneg, z_llT, z_llF, z_s1, z_nI_cl, z_nlt0, z_ne_m1, z_b0, z_b1, z_la, z_al, z_lm, z_ml, z_nm, nI_add, pk_mul, ↓reduceIte, not_true_eq_false, not_false_eq_true, true_or, or_true, false_or, or_false, true_and, and_true, and_false, false_and, Classical.not_not, Nat.add_zero, z_01, z_em, z_bit_p, Nat.not_le, Nat.not_lt, reduceCtorEq, if_true, if_false]
    · rw [if_neg hz]
      refine ⟨J, ⟨q1, q2⟩, ?_⟩
      simp (disch := omega) only [e_X2_pop_135_27_34, k_X2_pop_135_27_34, n3, c1, c1j, z_abs_c, hz, q_bd_l, z_ltT, z_ltF, z_eqT, z_eqF, z_ltlT, z_ltlF, z_lltT, z_lltF, z_eqlT, z_eqlF, z_in, z_k7, z_cl, z_lneg, z_llT, z_llF, z_s1, z_nI_cl, z_nlt0, z_ne_m1, z_b0, z_b1, z_la, z_al, z_lm, z_ml, z_nm, nI_add, pk_mul, ↓reduceIte, not_true_eq_false, not_false_eq_true, true_or, or_true, false_or, or_false, true_and, and_true, and_false, false_and, Classical.not_not, Nat.add_zero, z_01, z_em, z_bit_p, Nat.not_le, Nat.not_lt, reduceCtorEq, if_true, if_false]) _ _ ⟨f0, hK0⟩
  refine ⟨J, ?_, p1, p2⟩
  rw [e_X2_pop_135_27]
  simp (disch := omega) only [e7, q_bd_l, z_ltT, z_ltF, z_eqT, z_eqF, z_ltlT, z_ltlF, z_lltT, z_lltF, z_eqlT, z_eqlF, z_in, z_k7, z_cl, z_lneg, z_llT, z_llF, z_s1, z_nI_cl, z_nlt0, z_ne_m1, z_b0, z_b1, z_la, z_al, z_lm, z_ml, z_nm, nI_add, pk_mul, ↓reduceIte, not_true_eq_false, not_false_eq_true, true_or, or_true, false_or, or_false, true_and, and_true, and_false, false_and, Classical.not_not, Nat.add_zero, z_01, z_em, z_bit_p, Nat.not_le, Nat.not_lt, reduceCtorEq, if_true, if_false]
  refine p4.trans ?_
  have n3 : J 3 0 = nI n := p2.2.1.1.trans p2.1.1
  rw [e_X2_pop_135_27_13]
  simp (disch := omega) only [n3, q_bd_l, z_ltT, z_ltF, z_eqT, z_eqF, z_ltlT, z_ltlF, z_lltT, z_lltF, z_eqlT, z_eqlF, z_in, z_k7, z_cl, z_lneg, z_llT, z_llF, z_s1, z_nI_cl, z_nlt0, z_ne_m1, z_b0, z_b1, z_la, z_al, z_lm, z_ml, z_nm, nI_add, pk_mul, ↓reduceIte, not_true_eq_false, not_false_eq_true, true_or, or_true, false_or, or_false, true_and, and_true, and_false, false_and, Classical.not_not, Nat.add_zero, z_01, z_em, z_bit_p, Nat.not_le, Nat.not_lt, reduceCtorEq, if_true, if_false]
theorem k_goOn27 (X : Sx) (d : Nat) (I : Ii) (T : Tt) (r : Nat → Int32) (n m : Nat) (h : k_H27 I r n m) : ∃ J, c_X2_goOn_135_27 X (d + 5) I T = z_v J T ∧ z_fr (m_mo 27) I J ∧ k_H27 J (R_sours n r) n m := by
  have hn := h.1.2.1
  obtain ⟨J, ⟨p1, p2⟩, p4⟩ := z_foldP (β := Nat → Int32) (σ := Ii) (fun j r J => c_X2_goOn_135_27_2 X (d + 4) (nI j) J T) (fun j r => R_sj n j r) (fun o r J => z_fr (m_mo 27) I J ∧ k_H27 J r n m) n (by
    intro j r J hj ⟨q1, q2⟩
    have n3 : J 3 0 = nI n := q2.2.1.1.trans q2.1.1
    have c2 : J 29 j = r (12 + 13 * j + 2) := q2.2.2.1.2.2.2.2.2.1 j hj
    obtain ⟨k, hk, ek⟩ := (q2.1.2.2.2.2.2.2.2.2.2.2.1 j hj).2.2.1
    obtain ⟨k3, hk3, ek3⟩ := (q2.1.2.2.2.2.2.2.2.2.2.2.1 j hj).2.2.2.1
    rw [e_X2_goOn_135_27_2]
    unfold R_sj
    -- the souring
    have S : ∀ K, z_fr m_la J K → ∃ L, c_X2_goOn_135_27_25 X (d + 4) (nI j) K T = c_X2_goOn_135_27_2 X (d + 4) (nI (j + 1)) L T ∧ z_fr (m_mo 27) I L ∧ k_H27 L (va_up r (12 + 13 * j + 3) (z_99 (r (12 + 13 * j + 3) + (R_say r j 0 0).2.1))) n m := by
      intro K hK
      have qK := k_H27_fr q2 hK
      obtain ⟨L, l1, l2⟩ := k_sb27 X d K T r n m j qK hj
      have qL := k_H27_fr qK l2
      have sm := k_sm27 X (d + 3) L T r n m j (R_say r j 0 0).2.1 qL hj
      refine ⟨_, ?_, ?_, k_H27_so qL j hj _ ?_⟩
      · rw [e_X2_goOn_135_27_25]
        simp (disch := omega) only [e_X2_goOn_135_27_19, k_X2_goOn_135_27_19, e_X2_goOn_135_27_24, k_X2_goOn_135_27_24, e_X2_goOn_135_27_25, e_X2_goOn_135_27_34, k_X2_goOn_135_27_34, e_X2_goOn_135_27_35, k_X2_goOn_135_27_35, l1, sm, q_bd_l, z_ltT, z_ltF, z_eqT, z_eqF, z_ltlT, z_ltlF, z_lltT, z_lltF, z_eqlT, z_eqlF, z_in, z_k7, z_cl, z_lneg, z_llT, z_llF, z_s1, z_nI_cl, z_nlt0, z_ne_m1, z_b0, z_b1, z_la, z_al, z_lm, z_ml, z_nm, nI_add, pk_mul, ↓reduceIte, not_true_eq_false, not_false_eq_true, true_or, or_true, false_or, or_false, true_and, and_true, and_false, false_and, Classical.not_not, Nat.add_zero, z_01, z_em, z_bit_p, Nat.not_le, Nat.not_lt, reduceCtorEq, if_true, if_false]
      · exact z_fr_w (z_fr_t q1 (z_fr_m (z_fr_t hK l2) (fun a k h => by simp [m_mo, h]))) 30 j _ (by simp [m_mo, m_la])
      · refine z_99_le ?_
        rw [ek3]
        exact R_say_sb_pos r j hk3
    by_cases h0 : k = 0
    · have e0 : r (12 + 13 * j + 2) = 0 := by rw [ek, h0]; rfl
      rw [if_pos (.inr e0)]
      obtain ⟨L, l1, l2, l3⟩ := S J (z_fr_r _ _)
      refine ⟨L, ⟨l2, l3⟩, ?_⟩
      rw [← l1]
      simp (disch := omega) only [n3, c2, ek, q_bd_l, z_ltT, z_ltF, z_eqT, z_eqF, z_ltlT, z_ltlF, z_lltT, z_lltF, z_eqlT, z_eqlF, z_in, z_k7, z_cl, z_lneg, z_llT, z_llF, z_s1, z_nI_cl, z_nlt0, z_ne_m1, z_b0, z_b1, z_la, z_al, z_lm, z_ml, z_nm, nI_add, pk_mul, ↓reduceIte, not_true_eq_false, not_false_eq_true, true_or, or_true, false_or, or_false, true_and, and_true, and_false, false_and, Classical.not_not, Nat.add_zero, z_01, z_em, z_bit_p, Nat.not_le, Nat.not_lt, reduceCtorEq, if_true, if_false]
    · have e0 : ¬ r (12 + 13 * j + 2) = 0 := by rw [ek, show (0 : Int32) = nI 0 from rfl, z_nI_eq k 0 (by omega) (by omega)]; exact h0
      obtain ⟨K, k1, k2⟩ := k_pp27 X (d + 1) J T r n m j q2 hj
      by_cases hp : (R_say r j 0 0).2.2 = 0
      · rw [if_pos (.inl hp)]
        obtain ⟨L, l1, l2, l3⟩ := S K k2
        refine ⟨L, ⟨l2, l3⟩, ?_⟩
        rw [← l1]
        simp (disch := omega) only [e_X2_goOn_135_27_19, k_X2_goOn_135_27_19, n3, c2, ek, k1, hp, q_bd_l, z_ltT, z_ltF, z_eqT, z_eqF, z_ltlT, z_ltlF, z_lltT, z_lltF, z_eqlT, z_eqlF, z_in, z_k7, z_cl, z_lneg, z_llT, z_llF, z_s1, z_nI_cl, z_nlt0, z_ne_m1, z_b0, z_b1, z_la, z_al, z_lm, z_ml, z_nm, nI_add, pk_mul, ↓reduceIte, not_true_eq_false, not_false_eq_true, true_or, or_true, false_or, or_false, true_and, and_true, and_false, false_and, Classical.not_not, Nat.add_zero, z_01, z_em, z_bit_p, Nat.not_le, Nat.not_lt, reduceCtorEq, if_true, if_false]
      · rw [if_neg (fun a => by rcases a with a | a; exact hp a; exact e0 a)]
        have qK := k_H27_fr q2 k2
        obtain ⟨L, l1, l2, l3⟩ := k_pop27 X (d + 2) K T r n m j qK hj
        refine ⟨L, ⟨z_fr_t q1 (z_fr_t (z_fr_m k2 (fun a k h => by simp [m_mo, h])) l2), l3⟩, ?_⟩
        simp (disch := omega) only [e_X2_goOn_135_27_19, k_X2_goOn_135_27_19, e_X2_goOn_135_27_24, k_X2_goOn_135_27_24, e_X2_goOn_135_27_25, e_X2_goOn_135_27_34, k_X2_goOn_135_27_34, e_X2_goOn_135_27_35, k_X2_goOn_135_27_35, n3, c2, ek, k1, hp, l1, q_bd_l, z_ltT, z_ltF, z_eqT, z_eqF, z_ltlT, z_ltlF, z_lltT, z_lltF, z_eqlT, z_eqlF, z_in, z_k7, z_cl, z_lneg, z_llT, z_llF, z_s1, z_nI_cl, z_nlt0, z_ne_m1, z_b0, z_b1, z_la, z_al, z_lm, z_ml, z_nm, nI_add, pk_mul, ↓reduceIte, not_true_eq_false, not_false_eq_true, true_or, or_true, false_or, or_false, true_and, and_true, and_false, false_and, Classical.not_not, Nat.add_zero, z_01, z_em, z_bit_p, Nat.not_le, Nat.not_lt, reduceCtorEq, if_true, if_false]) r I ⟨z_fr_r _ _, h⟩
  refine ⟨J, ?_, p1, p2⟩
  rw [e_X2_goOn_135_27]
  refine p4.trans ?_
  have n3 : J 3 0 = nI n := p2.2.1.1.trans p2.1.1
  rw [e_X2_goOn_135_27_2]
  simp (disch := omega) only [n3, q_bd_l, z_ltT, z_ltF, z_eqT, z_eqF, z_ltlT, z_ltlF, z_lltT, z_lltF, z_eqlT, z_eqlF, z_in, z_k7, z_cl, z_lneg, z_llT, z_llF, z_s1, z_nI_cl, z_nlt0, z_ne_m1, z_b0, z_b1, z_la, z_al, z_lm, z_ml, z_nm, nI_add, pk_mul, ↓reduceIte, not_true_eq_false, not_false_eq_true, true_or, or_true, false_or, or_false, true_and, and_true, and_false, false_and, Classical.not_not, Nat.add_zero, z_01, z_em, z_bit_p, Nat.not_le, Nat.not_lt, reduceCtorEq, if_true, if_false]
theorem k_draw27 (X : Sx) (d : Nat) (I : Ii) (T : Tt) (r : Nat → Int32) (n m : Nat) (h : k_H27 I r n m) : c_X7_draw_27 X (d + 1) I T = z_r (nI (r_dn (R_sd r 11))) (q_w I 27 6 (R_sd r 11)) T ∧ k_H27 (q_w I 27 6 (R_sd r 11)) (R_sd r) n m := by
  have e6 : I 27 6 = r 11 := h.2.2.1.2.2.1
  have e := r_dn_eq (R_sd r 11)
  rw [R_sd_11] at e ⊢
  constructor
  · unfold R_seed at e ⊢
    rw [e_X7_draw_27, e6, e]
  · exact k_H27_seed h _
theorem k_peel27 (X : Sx) (d : Nat) (I : Ii) (T : Tt) (r : Nat → Int32) (n m : Nat) (h : k_H27 I r n m) : ∃ J, c_X2_peelLabel_135_27 X (d + 2) I T = z_v J T ∧ z_fr (m_mo 27) I J ∧ k_H27 J (R_peel n r) n m := by
  have hn := h.1.2.1
  obtain ⟨d1, d2⟩ := k_draw27 X d I T r n m h
  obtain ⟨d3, d4⟩ := k_draw27 X d _ T _ n m d2
  have f1 : z_fr (m_mo 27) I (q_w I 27 6 (R_sd r 11)) := z_fr_w (z_fr_r _ _) 27 6 _ rfl
  have f2 : z_fr (m_mo 27) I (q_w (q_w I 27 6 (R_sd r 11)) 27 6 (R_sd (R_sd r) 11)) := z_fr_w f1 27 6 _ rfl
  have lt1 := r_dn_lt (R_sd r 11)
  have lt2 := r_dn_lt (R_sd (R_sd r) 11)
  have m1 : nI (r_dn (R_sd r 11)) - nI (r_dn (R_sd r 11)) / (100 : Int32) * (100 : Int32) = nI (r_dn (R_sd r 11) % 100) := pk_rem (d := 100) (by omega) (by omega) (by omega)
  have n3 : (q_w I 27 6 (R_sd r 11)) 3 0 = nI n := d2.2.1.1.trans d2.1.1
  have n6 : (q_w I 27 6 (R_sd r 11)) 3 10 = r 6 := d2.2.1.2.2.2.1.trans (R_sd_k r 6 (by decide))
  have n3' : (q_w (q_w I 27 6 (R_sd r 11)) 27 6 (R_sd (R_sd r) 11)) 3 0 = nI n := d4.2.1.1.trans d4.1.1
  rw [e_X2_peelLabel_135_27, d1]
  unfold R_peel
  by_cases hp : nI (r_dn (R_sd r 11) % 100) < r 6
  · by_cases h0 : 0 < n
    · rw [if_pos ⟨hp, h0⟩]
      have hj : r_dn (R_sd (R_sd r) 11) % n < n := Nat.mod_lt _ h0
      have m2 : nI (r_dn (R_sd (R_sd r) 11)) - nI (r_dn (R_sd (R_sd r) 11)) / nI n * nI n = nI (r_dn (R_sd (R_sd r) 11) % n) := pk_rem (by omega) h0 (by omega)
      have hn0 : (nI n = 0) = False := z_eqF n 0 (by omega) (by omega) (by omega)
      refine ⟨q_w (q_w (q_w I 27 6 (R_sd r 11)) 27 6 (R_sd (R_sd r) 11)) 31 (r_dn (R_sd (R_sd r) 11) % n) (-1), ?_, z_fr_w f2 31 _ _ (by simp [m_mo, m_la]), k_H27_lb d4 _ hj (-1) (.inl rfl)⟩
      simp (disch := omega) only [e_X2_peelLabel_135_27, e_X2_peelLabel_135_27_2, k_X2_peelLabel_135_27_2, e_X2_peelLabel_135_27_11, e_X2_peelLabel_135_27_22, k_X2_peelLabel_135_27_22, m1, n6, hp, n3, d3, n3', m2, hn0, q_bd_l, z_ltT, z_ltF, z_eqT, z_eqF, z_ltlT, z_ltlF, z_lltT, z_lltF, z_eqlT, z_eqlF, z_in, z_k7, z_cl, z_lneg, z_llT, z_llF, z_s1, z_nI_cl, z_nlt0, z_ne_m1, z_b0, z_b1, z_la, z_al, z_lm, z_ml, z_nm, nI_add, pk_mul, ↓reduceIte, not_true_eq_false, not_false_eq_true, true_or, or_true, false_or, or_false, true_and, and_true, and_false, false_and, Classical.not_not, Nat.add_zero, z_01, z_em, z_bit_p, Nat.not_le, Nat.not_lt, reduceCtorEq, if_true, if_false]
    · rw [if_neg (fun a => h0 a.2)]
      refine ⟨_, ?_, f1, d2⟩
      simp (disch := omega) only [e_X2_peelLabel_135_27, e_X2_peelLabel_135_27_2, k_X2_peelLabel_135_27_2, e_X2_peelLabel_135_27_11, e_X2_peelLabel_135_27_22, k_X2_peelLabel_135_27_22, m1, n6, hp, n3, q_bd_l, z_ltT, z_ltF, z_eqT, z_eqF, z_ltlT, z_ltlF, z_lltT, z_lltF, z_eqlT, z_eqlF, z_in, z_k7, z_cl, z_lneg, z_llT, z_llF, z_s1, z_nI_cl, z_nlt0, z_ne_m1, z_b0, z_b1, z_la, z_al, z_lm, z_ml, z_nm, nI_add, pk_mul, ↓reduceIte, not_true_eq_false, not_false_eq_true, true_or, or_true, false_or, or_false, true_and, and_true, and_false, false_and, Classical.not_not, Nat.add_zero, z_01, z_em, z_bit_p, Nat.not_le, Nat.not_lt, reduceCtorEq, if_true, if_false]
  · rw [if_neg (fun a => hp a.1)]
    refine ⟨_, ?_, f1, d2⟩
    simp (disch := omega) only [e_X2_peelLabel_135_27, e_X2_peelLabel_135_27_2, k_X2_peelLabel_135_27_2, e_X2_peelLabel_135_27_11, e_X2_peelLabel_135_27_22, k_X2_peelLabel_135_27_22, m1, n6, hp, q_bd_l, z_ltT, z_ltF, z_eqT, z_eqF, z_ltlT, z_ltlF, z_lltT, z_lltF, z_eqlT, z_eqlF, z_in, z_k7, z_cl, z_lneg, z_llT, z_llF, z_s1, z_nI_cl, z_nlt0, z_ne_m1, z_b0, z_b1, z_la, z_al, z_lm, z_ml, z_nm, nI_add, pk_mul, ↓reduceIte, not_true_eq_false, not_false_eq_true, true_or, or_true, false_or, or_false, true_and, and_true, and_false, false_and, Classical.not_not, Nat.add_zero, z_01, z_em, z_bit_p, Nat.not_le, Nat.not_lt, reduceCtorEq, if_true, if_false]
theorem k_isOpen27 (X : Sx) (d : Nat) (I : Ii) (T : Tt) (r : Nat → Int32) (n m j : Nat) (h : k_H27 I r n m) (hj : j < n) : c_X7_isOpen_27 X (d + 1) (nI j) I T = z_r (z_b (r (12 + 13 * j + 6) = 1)) I T := by
  have hn := h.1.2.1
  obtain ⟨b1, b2, b3, b4, b5, b6, b7, b8, o, b9, b10, b11⟩ := h.2.2.1
  have o2 : o < 2 ^ 31 := Nat.lt_trans b9 (Nat.pow_lt_pow_right (by decide) (by omega))
  have hb : z_bit (I 27 4) j = o.testBit j := by rw [b10]; exact z_bit_nI o j o2 (by omega)
  have hob := b11 j hj
  rw [e_X7_isOpen_27]
  simp only [hob, z_b1]
  unfold z_b
  simp only [z_bit_p, hb]
  split <;> rfl
theorem k_wasp27 (X : Sx) (d : Nat) (I : Ii) (T : Tt) (r : Nat → Int32) (n m : Nat) (h : k_H27 I r n m) : ∃ J, c_X2_feedWasps_135_27 X (d + 2) I T = z_v J T ∧ z_fr (m_mo 27) I J ∧ k_H27 J (R_wasp n r) n m := by
  have hn := h.1.2.1
  obtain ⟨d1, d2⟩ := k_draw27 X d I T r n m h
  obtain ⟨d3, d4⟩ := k_draw27 X d _ T _ n m d2
  have f1 : z_fr (m_mo 27) I (q_w I 27 6 (R_sd r 11)) := z_fr_w (z_fr_r _ _) 27 6 _ rfl
  have f2 : z_fr (m_mo 27) I (q_w (q_w I 27 6 (R_sd r 11)) 27 6 (R_sd (R_sd r) 11)) := z_fr_w f1 27 6 _ rfl
  have lt1 := r_dn_lt (R_sd r 11)
  have lt2 := r_dn_lt (R_sd (R_sd r) 11)
  have m1 : nI (r_dn (R_sd r 11)) - nI (r_dn (R_sd r 11)) / (100 : Int32) * (100 : Int32) = nI (r_dn (R_sd r 11) % 100) := pk_rem (d := 100) (by omega) (by omega) (by omega)
  have n3 : (q_w I 27 6 (R_sd r 11)) 3 0 = nI n := d2.2.1.1.trans d2.1.1
  have n7 : (q_w I 27 6 (R_sd r 11)) 3 11 = r 7 := d2.2.1.2.2.2.2.1.trans (R_sd_k r 7 (by decide))
  have n3' : (q_w (q_w I 27 6 (R_sd r 11)) 27 6 (R_sd (R_sd r) 11)) 3 0 = nI n := d4.2.1.1.trans d4.1.1
  rw [e_X2_feedWasps_135_27, d1]
  unfold R_wasp
  by_cases hp : nI (r_dn (R_sd r 11) % 100) < r 7
  · by_cases h0 : 0 < n
    · rw [if_pos ⟨hp, h0⟩]
      have hj : R_wj n r < n := Nat.mod_lt _ h0
      have m2 : nI (r_dn (R_sd (R_sd r) 11)) - nI (r_dn (R_sd (R_sd r) 11)) / nI n * nI n = nI (R_wj n r) := pk_rem (by omega) h0 (by omega)
      have hn0 : (nI n = 0) = False := z_eqF n 0 (by omega) (by omega) (by omega)
      have io := k_isOpen27 X d _ T _ n m (R_wj n r) d4 hj
      generalize R_wj n r = w at *
      have r6 : R_sd (R_sd r) (12 + 13 * w + 6) = r (12 + 13 * w + 6) := by rw [R_sd_k _ _ (by omega), R_sd_k _ _ (by omega)]
      have r2 : R_sd (R_sd r) (12 + 13 * w + 2) = r (12 + 13 * w + 2) := by rw [R_sd_k _ _ (by omega), R_sd_k _ _ (by omega)]
      rw [r6] at io
      have c2 : (q_w (q_w I 27 6 (R_sd r 11)) 27 6 (R_sd (R_sd r) 11)) 29 w = r (12 + 13 * w + 2) := (d4.2.2.1.2.2.2.2.2.1 w hj).trans r2
      by_cases h1 : r (12 + 13 * w + 6) = 1
      · by_cases h3 : 0 < r (12 + 13 * w + 2)
        · rw [if_pos ⟨h1, h3⟩]
          refine ⟨q_w (q_w (q_w I 27 6 (R_sd r 11)) 27 6 (R_sd (R_sd r) 11)) 29 w (r (12 + 13 * w + 2) - 1), ?_, z_fr_w f2 29 _ _ (by simp [m_mo, m_la]), k_H27_sp d4 w hj _ ?_⟩
          · simp (disch := omega) only [e_X2_feedWasps_135_27, e_X2_feedWasps_135_27_2, k_X2_feedWasps_135_27_2, e_X2_feedWasps_135_27_11, e_X2_feedWasps_135_27_20, k_X2_feedWasps_135_27_20, e_X2_feedWasps_135_27_28, k_X2_feedWasps_135_27_28, m1, n7, hp, n3, d3, n3', m2, hn0, io, h1, c2, h3, q_bd_l, z_ltT, z_ltF, z_eqT, z_eqF, z_ltlT, z_ltlF, z_lltT, z_lltF, z_eqlT, z_eqlF, z_in, z_k7, z_cl, z_lneg, z_llT, z_llF, z_s1, z_nI_cl, z_nlt0, z_ne_m1, z_b0, z_b1, z_la, z_al, z_lm, z_ml, z_nm, nI_add, pk_mul, ↓reduceIte, not_true_eq_false, not_false_eq_true, true_or, or_true, false_or, or_false, true_and, and_true, and_false, false_and, Classical.not_not, Nat.add_zero, z_01, z_em, z_bit_p, Nat.not_le, Nat.not_lt, reduceCtorEq, if_true, if_false]
          · obtain ⟨k, hk, ek⟩ := (d4.1.2.2.2.2.2.2.2.2.2.2.1 w hj).2.2.1
            rw [r2] at ek
            rw [ek] at h3 ⊢
            have hk0 : 0 < k := by
              rcases Nat.eq_zero_or_pos k with e | e
              · subst e; exact absurd h3 (by decide)
              · exact e
            exact ⟨k - 1, by omega, pk_sub (b := 1) hk0⟩
        · rw [if_neg (fun a => h3 a.2)]
          refine ⟨_, ?_, f2, d4⟩
          simp (disch := omega) only [e_X2_feedWasps_135_27, e_X2_feedWasps_135_27_2, k_X2_feedWasps_135_27_2, e_X2_feedWasps_135_27_11, e_X2_feedWasps_135_27_20, k_X2_feedWasps_135_27_20, e_X2_feedWasps_135_27_28, k_X2_feedWasps_135_27_28, m1, n7, hp, n3, d3, n3', m2, hn0, io, h1, c2, h3, q_bd_l, z_ltT, z_ltF, z_eqT, z_eqF, z_ltlT, z_ltlF, z_lltT, z_lltF, z_eqlT, z_eqlF, z_in, z_k7, z_cl, z_lneg, z_llT, z_llF, z_s1, z_nI_cl, z_nlt0, z_ne_m1, z_b0, z_b1, z_la, z_al, z_lm, z_ml, z_nm, nI_add, pk_mul, ↓reduceIte, not_true_eq_false, not_false_eq_true, true_or, or_true, false_or, or_false, true_and, and_true, and_false, false_and, Classical.not_not, Nat.add_zero, z_01, z_em, z_bit_p, Nat.not_le, Nat.not_lt, reduceCtorEq, if_true, if_false]
      · rw [if_neg (fun a => h1 a.1)]
        refine ⟨_, ?_, f2, d4⟩
        simp (disch := omega) only [e_X2_feedWasps_135_27, e_X2_feedWasps_135_27_2, k_X2_feedWasps_135_27_2, e_X2_feedWasps_135_27_11, e_X2_feedWasps_135_27_20, k_X2_feedWasps_135_27_20, e_X2_feedWasps_135_27_28, k_X2_feedWasps_135_27_28, m1, n7, hp, n3, d3, n3', m2, hn0, io, h1, q_bd_l, z_ltT, z_ltF, z_eqT, z_eqF, z_ltlT, z_ltlF, z_lltT, z_lltF, z_eqlT, z_eqlF, z_in, z_k7, z_cl, z_lneg, z_llT, z_llF, z_s1, z_nI_cl, z_nlt0, z_ne_m1, z_b0, z_b1, z_la, z_al, z_lm, z_ml, z_nm, nI_add, pk_mul, ↓reduceIte, not_true_eq_false, not_false_eq_true, true_or, or_true, false_or, or_false, true_and, and_true, and_false, false_and, Classical.not_not, Nat.add_zero, z_01, z_em, z_bit_p, Nat.not_le, Nat.not_lt, reduceCtorEq, if_true, if_false]
    · rw [if_neg (fun a => h0 a.2)]
      refine ⟨_, ?_, f1, d2⟩
      simp (disch := omega) only [e_X2_feedWasps_135_27, e_X2_feedWasps_135_27_2, k_X2_feedWasps_135_27_2, e_X2_feedWasps_135_27_11, e_X2_feedWasps_135_27_20, k_X2_feedWasps_135_27_20, e_X2_feedWasps_135_27_28, k_X2_feedWasps_135_27_28, m1, n7, hp, n3, q_bd_l, z_ltT, z_ltF, z_eqT, z_eqF, z_ltlT, z_ltlF, z_lltT, z_lltF, z_eqlT, z_eqlF, z_in, z_k7, z_cl, z_lneg, z_llT, z_llF, z_s1, z_nI_cl, z_nlt0, z_ne_m1, z_b0, z_b1, z_la, z_al, z_lm, z_ml, z_nm, nI_add, pk_mul, ↓reduceIte, not_true_eq_false, not_false_eq_true, true_or, or_true, false_or, or_false, true_and, and_true, and_false, false_and, Classical.not_not, Nat.add_zero, z_01, z_em, z_bit_p, Nat.not_le, Nat.not_lt, reduceCtorEq, if_true, if_false]
  · rw [if_neg (fun a => hp a.1)]
    refine ⟨_, ?_, f1, d2⟩
    simp (disch := omega) only [e_X2_feedWasps_135_27, e_X2_feedWasps_135_27_2, k_X2_feedWasps_135_27_2, e_X2_feedWasps_135_27_11, e_X2_feedWasps_135_27_20, k_X2_feedWasps_135_27_20, e_X2_feedWasps_135_27_28, k_X2_feedWasps_135_27_28, m1, n7, hp, q_bd_l, z_ltT, z_ltF, z_eqT, z_eqF, z_ltlT, z_ltlF, z_lltT, z_lltF, z_eqlT, z_eqlF, z_in, z_k7, z_cl, z_lneg, z_llT, z_llF, z_s1, z_nI_cl, z_nlt0, z_ne_m1, z_b0, z_b1, z_la, z_al, z_lm, z_ml, z_nm, nI_add, pk_mul, ↓reduceIte, not_true_eq_false, not_false_eq_true, true_or, or_true, false_or, or_false, true_and, and_true, and_false, false_and, Classical.not_not, Nat.add_zero, z_01, z_em, z_bit_p, Nat.not_le, Nat.not_lt, reduceCtorEq, if_true, if_false]
theorem k_pass27 (X : Sx) (d : Nat) (I : Ii) (T : Tt) (r : Nat → Int32) (n m q : Nat) (hq : q ≤ 100) (h : k_H27 I r n m) : ∃ J, c_X2_passYears_135_27 X (d + 6) (nI q) I T = z_v J T ∧ z_fr (m_mo 27) I J ∧ k_H27 J (R_pass n q r) n m := by
  obtain ⟨J, ⟨p1, p2⟩, p4⟩ := z_foldP (β := Nat → Int32) (σ := Ii) (fun i r J => c_X2_passYears_135_27_2 X (d + 5) (nI q) (nI i) J T) (fun _ r => R_year n r) (fun o r J => z_fr (m_mo 27) I J ∧ k_H27 J r n m) q (by
    intro i r J hi ⟨q1, q2⟩
    obtain ⟨A, a1, a2, a3⟩ := k_goOn27 X d J T r n m q2
    obtain ⟨B, b1, b2, b3⟩ := k_peel27 X (d + 3) A T _ n m a3
    obtain ⟨C, c1, c2, c3⟩ := k_wasp27 X (d + 3) B T _ n m b3
    have e5 : C 27 5 = R_wasp n (R_peel n (R_sours n r)) 8 := c3.2.2.1.1
    refine ⟨_, ⟨z_fr_w (z_fr_t q1 (z_fr_t a2 (z_fr_t b2 c2))) 27 5 _ rfl, k_H27_year c3 (R_wasp n (R_peel n (R_sours n r)) 8 + 1)⟩, ?_⟩
    rw [e_X2_passYears_135_27_2]
    simp (disch := omega) only [e_X2_passYears_135_27_8, k_X2_passYears_135_27_8, e_X2_passYears_135_27_11, k_X2_passYears_135_27_11, e_X2_passYears_135_27_14, k_X2_passYears_135_27_14, a1, b1, c1, e5, q_bd_l, z_ltT, z_ltF, z_eqT, z_eqF, z_ltlT, z_ltlF, z_lltT, z_lltF, z_eqlT, z_eqlF, z_in, z_k7, z_cl, z_lneg, z_llT, z_llF, z_s1, z_nI_cl, z_nlt0, z_ne_m1, z_b0, z_b1, z_la, z_al, z_lm, z_ml, z_nm, nI_add, pk_mul, ↓reduceIte, not_true_eq_false, not_false_eq_true, true_or, or_true, false_or, or_false, true_and, and_true, and_false, false_and, Classical.not_not, Nat.add_zero, z_01, z_em, z_bit_p, Nat.not_le, Nat.not_lt, reduceCtorEq, if_true, if_false]) r I ⟨z_fr_r _ _, h⟩
  refine ⟨J, ?_, p1, p2⟩
  rw [e_X2_passYears_135_27]
  refine p4.trans ?_
  rw [e_X2_passYears_135_27_2]
  simp (disch := omega) only [q_bd_l, z_ltT, z_ltF, z_eqT, z_eqF, z_ltlT, z_ltlF, z_lltT, z_lltF, z_eqlT, z_eqlF, z_in, z_k7, z_cl, z_lneg, z_llT, z_llF, z_s1, z_nI_cl, z_nlt0, z_ne_m1, z_b0, z_b1, z_la, z_al, z_lm, z_ml, z_nm, nI_add, pk_mul, ↓reduceIte, not_true_eq_false, not_false_eq_true, true_or, or_true, false_or, or_false, true_and, and_true, and_false, false_and, Classical.not_not, Nat.add_zero, z_01, z_em, z_bit_p, Nat.not_le, Nat.not_lt, reduceCtorEq, if_true, if_false]
theorem k_H32_pl {I : Ii} {r : Nat → Int32} {n m : Nat} (h : k_H32 I r n m) (j : Nat) (hj : j < n) (v : Int32) (hv : z_le v 11) : k_H32 (q_w I 33 j v) (va_up r (12 + 13 * j + 1) v) n m := by
  obtain ⟨h1, h2, h3, h4⟩ := h
  have hn := h1.2.1
  have hm := h1.2.2.2.1
  refine ⟨R_ok_w1 h1 j hj v hv, z_Sh_up (z_Sh_fr h2 (fun a h5 h6 => z_w_a _ _ _ _ _ (by omega))) hn hm (.inr (.inr (.inr (.inr (.inl ⟨j, 1, by omega, rfl, by omega⟩))))) v, z_Mo_w1 h3 hn j hj v, z_La_up (z_La_fr h4 (by rw [z_w_a _ _ _ _ _ (by decide)]) (fun a h5 h6 => z_w_a _ _ _ _ _ (by omega))) (by omega) (by omega) v⟩
theorem k_H32_sp {I : Ii} {r : Nat → Int32} {n m : Nat} (h : k_H32 I r n m) (j : Nat) (hj : j < n) (v : Int32) (hv : z_le v 20) : k_H32 (q_w I 34 j v) (va_up r (12 + 13 * j + 2) v) n m := by
  obtain ⟨h1, h2, h3, h4⟩ := h
  have hn := h1.2.1
  have hm := h1.2.2.2.1
  refine ⟨R_ok_w2 h1 j hj v hv, z_Sh_up (z_Sh_fr h2 (fun a h5 h6 => z_w_a _ _ _ _ _ (by omega))) hn hm (.inr (.inr (.inr (.inr (.inl ⟨j, 2, by omega, rfl, by omega⟩))))) v, z_Mo_w2 h3 hn j hj v, z_La_up (z_La_fr h4 (by rw [z_w_a _ _ _ _ _ (by decide)]) (fun a h5 h6 => z_w_a _ _ _ _ _ (by omega))) (by omega) (by omega) v⟩
theorem k_H32_so {I : Ii} {r : Nat → Int32} {n m : Nat} (h : k_H32 I r n m) (j : Nat) (hj : j < n) (v : Int32) (hv : z_le v 99) : k_H32 (q_w I 35 j v) (va_up r (12 + 13 * j + 3) v) n m := by
  obtain ⟨h1, h2, h3, h4⟩ := h
  have hn := h1.2.1
  have hm := h1.2.2.2.1
  refine ⟨R_ok_w3 h1 j hj v hv, z_Sh_up (z_Sh_fr h2 (fun a h5 h6 => z_w_a _ _ _ _ _ (by omega))) hn hm (.inr (.inr (.inr (.inr (.inl ⟨j, 3, by omega, rfl, by omega⟩))))) v, z_Mo_w3 h3 hn j hj v, z_La_up (z_La_fr h4 (by rw [z_w_a _ _ _ _ _ (by decide)]) (fun a h5 h6 => z_w_a _ _ _ _ _ (by omega))) (by omega) (by omega) v⟩
theorem k_H32_lb {I : Ii} {r : Nat → Int32} {n m : Nat} (h : k_H32 I r n m) (j : Nat) (hj : j < n) (v : Int32) (hv : v = -1 ∨ ∃ k, k < n ∧ v = nI k) : k_H32 (q_w I 36 j v) (va_up r (12 + 13 * j + 5) v) n m := by
  obtain ⟨h1, h2, h3, h4⟩ := h
  have hn := h1.2.1
  have hm := h1.2.2.2.1
  refine ⟨R_ok_w5 h1 j hj v hv, z_Sh_up (z_Sh_fr h2 (fun a h5 h6 => z_w_a _ _ _ _ _ (by omega))) hn hm (.inr (.inr (.inr (.inr (.inl ⟨j, 5, by omega, rfl, by omega⟩))))) v, z_Mo_w5 h3 hn j hj v, z_La_up (z_La_fr h4 (by rw [z_w_a _ _ _ _ _ (by decide)]) (fun a h5 h6 => z_w_a _ _ _ _ _ (by omega))) (by omega) (by omega) v⟩
theorem k_H32_year {I : Ii} {r : Nat → Int32} {n m : Nat} (h : k_H32 I r n m) (v : Int32) : k_H32 (q_w I 32 5 v) (va_up r 8 v) n m := by
  obtain ⟨h1, h2, h3, h4⟩ := h
  have hn := h1.2.1
  have hm := h1.2.2.2.1
  refine ⟨R_ok_A h1 8 (by omega) v, z_Sh_up (z_Sh_fr h2 (fun a h5 h6 => z_w_a _ _ _ _ _ (by omega))) hn hm (by unfold r_mc; omega) v, z_Mo_year h3 v, z_La_up (z_La_fr h4 (by rw [z_w_a _ _ _ _ _ (by decide)]) (fun a h5 h6 => z_w_a _ _ _ _ _ (by omega))) (by omega) (by omega) v⟩
theorem k_H32_el {I : Ii} {r : Nat → Int32} {n m : Nat} (h : k_H32 I r n m) (v : Int32) : k_H32 (q_w I 32 7 v) (va_up r 9 v) n m := by
  obtain ⟨h1, h2, h3, h4⟩ := h
  have hn := h1.2.1
  have hm := h1.2.2.2.1
  refine ⟨R_ok_A h1 9 (by omega) v, z_Sh_up (z_Sh_fr h2 (fun a h5 h6 => z_w_a _ _ _ _ _ (by omega))) hn hm (by unfold r_mc; omega) v, z_Mo_el h3 v, z_La_up (z_La_fr h4 (by rw [z_w_a _ _ _ _ _ (by decide)]) (fun a h5 h6 => z_w_a _ _ _ _ _ (by omega))) (by omega) (by omega) v⟩
theorem k_H32_seed {I : Ii} {r : Nat → Int32} {n m : Nat} (h : k_H32 I r n m) (v : Int32) : k_H32 (q_w I 32 6 v) (va_up r 11 v) n m := by
  obtain ⟨h1, h2, h3, h4⟩ := h
  have hn := h1.2.1
  have hm := h1.2.2.2.1
  refine ⟨R_ok_A h1 11 (by omega) v, z_Sh_up (z_Sh_fr h2 (fun a h5 h6 => z_w_a _ _ _ _ _ (by omega))) hn hm (by unfold r_mc; omega) v, z_Mo_seed h3 v, z_La_up (z_La_fr h4 (by rw [z_w_a _ _ _ _ _ (by decide)]) (fun a h5 h6 => z_w_a _ _ _ _ _ (by omega))) (by omega) (by omega) v⟩
theorem k_sm32 (X : Sx) (d : Nat) (I : Ii) (T : Tt) (r : Nat → Int32) (n m j : Nat) (by9 : Int32) (h : k_H32 I r n m) (hj : j < n) : c_X7_sourMore_32 X (d + 1) (nI j) by9 I T = z_v (q_w I 35 j (z_99 (r (12 + 13 * j + 3) + by9))) T := by
  have hn := h.1.2.1
  have c3 : I 35 j = r (12 + 13 * j + 3) := h.2.2.1.2.2.2.2.2.2.1 j hj
  rw [e_X7_sourMore_32]
  simp (disch := omega) only [c3, z_99_c, q_bd_l, z_ltT, z_ltF, z_eqT, z_eqF, z_ltlT, z_ltlF, z_lltT, z_lltF, z_eqlT, z_eqlF, z_in, z_k7, z_cl, z_lneg, z_llT, z_llF, z_s1, z_nI_cl, z_nlt0, z_ne_m1, z_b0, z_b1, z_la, z_al, z_lm, z_ml, z_nm, nI_add, pk_mul, ↓reduceIte, not_true_eq_false, not_false_eq_true, true_or, or_true, false_or, or_false, true_and, and_true, and_false, false_and, Classical.not_not, Nat.add_zero, z_01, z_em, z_bit_p, Nat.not_le, Nat.not_lt, reduceCtorEq, if_true, if_false]
theorem k_pop32 (X : Sx) (d : Nat) (I : Ii) (T : Tt) (r : Nat → Int32) (n m j : Nat) (h : k_H32 I r n m) (hj : j < n) : ∃ J, c_X2_pop_135_32 X (d + 2) (nI j) I T = z_v J T ∧ z_fr (m_mo 32) I J ∧ k_H32 J (R_pops n j r) n m := by
  have hn := h.1.2.1
  have e7 : I 32 7 = r 9 := h.2.2.1.2.1
  have hK0 : k_H32 (q_w (q_w I 34 j 0) 32 7 (r 9 + 1)) (va_up (va_up r (12 + 13 * j + 2) 0) 9 (r 9 + 1)) n m := k_H32_el (k_H32_sp h j hj 0 ⟨0, by omega, rfl⟩) _
  have f0 : z_fr (m_mo 32) I (q_w (q_w I 34 j 0) 32 7 (r 9 + 1)) := z_fr_w (z_fr_w (z_fr_r _ _) 34 j _ (by simp [m_mo, m_la])) 32 7 _ rfl
  obtain ⟨J, ⟨p1, p2⟩, p4⟩ := z_foldP (β := Nat → Int32) (σ := Ii) (fun o r J => c_X2_pop_135_32_13 X (d + 1) (nI j) (nI o) J T) (R_sp j) (fun o r J => z_fr (m_mo 32) I J ∧ k_H32 J r n m) n (by
    intro o r J ho ⟨q1, q2⟩
    have n3 : J 3 0 = nI n := q2.2.1.1.trans q2.1.1
    have c1 : J 33 o = r (12 + 13 * o + 1) := q2.2.2.1.2.2.2.2.1 o ho
    have c1j : J 33 j = r (12 + 13 * j + 1) := q2.2.2.1.2.2.2.2.1 j hj
    have sm := k_sm32 X d J T r n m o 10 q2 ho
    rw [e_X2_pop_135_32_13]
    unfold R_sp
    by_cases hz : z_sz (r (12 + 13 * o + 1) - r (12 + 13 * j + 1)) = 1
    · rw [if_pos hz]
      have hs := (q2.1.2.2.2.2.2.2.2.2.2.2.1 o ho).2.2.2.1
      refine ⟨q_w J 35 o (z_99 (r (12 + 13 * o + 3) + 10)), ⟨z_fr_w q1 35 o _ (by simp [m_mo, m_la]), k_H32_so q2 o ho _ ?_⟩, ?_⟩
      · obtain ⟨k, hk, ek⟩ := hs
        rw [ek]
        refine z_99_le ?_
        rw [show nI k + 10 = nI (k + 10) from nI_add k 10]
        exact nI_pos (by omega)
      · simp (disch := omega) only [e_X2_pop_135_32_34, k_X2_pop_135_32_34, n3, c1, c1j, z_abs_c, hz, sm, q_bd_l, z_ltT, z_ltF, z_eqT, z_eqF, z_ltlT, z_ltlF, z_lltT, z_lltF, z_eqlT, z_eqlF, z_in, z_k7, z_cl, z_lneg, z_llT, z_llF, z_s1, z_nI_cl, z_nlt0, z_ne_m1, z_b0, z_b1, z_la, z_al, z_lm, z_ml, z_nm, nI_add, pk_mul, ↓reduceIte, not_true_eq_false, not_false_eq_true, true_or, or_true, false_or, or_false, true_and, and_true, and_false, false_and, Classical.not_not, Nat.add_zero, z_01, z_em, z_bit_p, Nat.not_le, Nat.not_lt, reduceCtorEq, if_true, if_false]
    · rw [if_neg hz]
      refine ⟨J, ⟨q1, q2⟩, ?_⟩
      simp (disch := omega) only [e_X2_pop_135_32_34, k_X2_pop_135_32_34, n3, c1, c1j, z_abs_c, hz, q_bd_l, z_ltT, z_ltF, z_eqT, z_eqF, z_ltlT, z_ltlF, z_lltT, z_lltF, z_eqlT, z_eqlF, z_in, z_k7, z_cl, z_lneg, z_llT, z_llF, z_s1, z_nI_cl, z_nlt0, z_ne_m1, z_b0, z_b1, z_la, z_al, z_lm, z_ml, z_nm, nI_add, pk_mul, ↓reduceIte, not_true_eq_false, not_false_eq_true, true_or, or_true, false_or, or_false, true_and, and_true, and_false, false_and, Classical.not_not, Nat.add_zero, z_01, z_em, z_bit_p, Nat.not_le, Nat.not_lt, reduceCtorEq, if_true, if_false]) _ _ ⟨f0, hK0⟩
  refine ⟨J, ?_, p1, p2⟩
  rw [e_X2_pop_135_32]
  simp (disch := omega) only [e7, q_bd_l, z_ltT, z_ltF, z_eqT, z_eqF, z_ltlT, z_ltlF, z_lltT, z_lltF, z_eqlT, z_eqlF, z_in, z_k7, z_cl, z_lneg, z_llT, z_llF, z_s1, z_nI_cl, z_nlt0, z_ne_m1, z_b0, z_b1, z_la, z_al, z_lm, z_ml, z_nm, nI_add, pk_mul, ↓reduceIte, not_true_eq_false, not_false_eq_true, true_or, or_true, false_or, or_false, true_and, and_true, and_false, false_and, Classical.not_not, Nat.add_zero, z_01, z_em, z_bit_p, Nat.not_le, Nat.not_lt, reduceCtorEq, if_true, if_false]
  refine p4.trans ?_
  have n3 : J 3 0 = nI n := p2.2.1.1.trans p2.1.1
  rw [e_X2_pop_135_32_13]
  simp (disch := omega) only [n3, q_bd_l, z_ltT, z_ltF, z_eqT, z_eqF, z_ltlT, z_ltlF, z_lltT, z_lltF, z_eqlT, z_eqlF, z_in, z_k7, z_cl, z_lneg, z_llT, z_llF, z_s1, z_nI_cl, z_nlt0, z_ne_m1, z_b0, z_b1, z_la, z_al, z_lm, z_ml, z_nm, nI_add, pk_mul, ↓reduceIte, not_true_eq_false, not_false_eq_true, true_or, or_true, false_or, or_false, true_and, and_true, and_false, false_and, Classical.not_not, Nat.add_zero, z_01, z_em, z_bit_p, Nat.not_le, Nat.not_lt, reduceCtorEq, if_true, if_false]
theorem k_goOn32 (X : Sx) (d : Nat) (I : Ii) (T : Tt) (r : Nat → Int32) (n m : Nat) (h : k_H32 I r n m) : ∃ J, c_X2_goOn_135_32 X (d + 5) I T = z_v J T ∧ z_fr (m_mo 32) I J ∧ k_H32 J (R_sours n r) n m := by
  have hn := h.1.2.1
  obtain ⟨J, ⟨p1, p2⟩, p4⟩ := z_foldP (β := Nat → Int32) (σ := Ii) (fun j r J => c_X2_goOn_135_32_2 X (d + 4) (nI j) J T) (fun j r => R_sj n j r) (fun o r J => z_fr (m_mo 32) I J ∧ k_H32 J r n m) n (by
    intro j r J hj ⟨q1, q2⟩
    have n3 : J 3 0 = nI n := q2.2.1.1.trans q2.1.1
    have c2 : J 34 j = r (12 + 13 * j + 2) := q2.2.2.1.2.2.2.2.2.1 j hj
    obtain ⟨k, hk, ek⟩ := (q2.1.2.2.2.2.2.2.2.2.2.2.1 j hj).2.2.1
    obtain ⟨k3, hk3, ek3⟩ := (q2.1.2.2.2.2.2.2.2.2.2.2.1 j hj).2.2.2.1
    rw [e_X2_goOn_135_32_2]
    unfold R_sj
    -- the souring
    have S : ∀ K, z_fr m_la J K → ∃ L, c_X2_goOn_135_32_25 X (d + 4) (nI j) K T = c_X2_goOn_135_32_2 X (d + 4) (nI (j + 1)) L T ∧ z_fr (m_mo 32) I L ∧ k_H32 L (va_up r (12 + 13 * j + 3) (z_99 (r (12 + 13 * j + 3) + (R_say r j 0 0).2.1))) n m := by
      intro K hK
      have qK := k_H32_fr q2 hK
      obtain ⟨L, l1, l2⟩ := k_sb32 X d K T r n m j qK hj
      have qL := k_H32_fr qK l2
      have sm := k_sm32 X (d + 3) L T r n m j (R_say r j 0 0).2.1 qL hj
      refine ⟨_, ?_, ?_, k_H32_so qL j hj _ ?_⟩
      · rw [e_X2_goOn_135_32_25]
        simp (disch := omega) only [e_X2_goOn_135_32_19, k_X2_goOn_135_32_19, e_X2_goOn_135_32_24, k_X2_goOn_135_32_24, e_X2_goOn_135_32_25, e_X2_goOn_135_32_34, k_X2_goOn_135_32_34, e_X2_goOn_135_32_35, k_X2_goOn_135_32_35, l1, sm, q_bd_l, z_ltT, z_ltF, z_eqT, z_eqF, z_ltlT, z_ltlF, z_lltT, z_lltF, z_eqlT, z_eqlF, z_in, z_k7, z_cl, z_lneg, z_llT, z_llF, z_s1, z_nI_cl, z_nlt0, z_ne_m1, z_b0, z_b1, z_la, z_al, z_lm, z_ml, z_nm, nI_add, pk_mul, ↓reduceIte, not_true_eq_false, not_false_eq_true, true_or, or_true, false_or, or_false, true_and, and_true, and_false, false_and, Classical.not_not, Nat.add_zero, z_01, z_em, z_bit_p, Nat.not_le, Nat.not_lt, reduceCtorEq, if_true, if_false]
      · exact z_fr_w (z_fr_t q1 (z_fr_m (z_fr_t hK l2) (fun a k h => by simp [m_mo, h]))) 35 j _ (by simp [m_mo, m_la])
      · refine z_99_le ?_
        rw [ek3]
        exact R_say_sb_pos r j hk3
    by_cases h0 : k = 0
    · have e0 : r (12 + 13 * j + 2) = 0 := by rw [ek, h0]; rfl
      rw [if_pos (.inr e0)]
      obtain ⟨L, l1, l2, l3⟩ := S J (z_fr_r _ _)
      refine ⟨L, ⟨l2, l3⟩, ?_⟩
      rw [← l1]
      simp (disch := omega) only [n3, c2, ek, q_bd_l, z_ltT, z_ltF, z_eqT, z_eqF, z_ltlT, z_ltlF, z_lltT, z_lltF, z_eqlT, z_eqlF, z_in, z_k7, z_cl, z_lneg, z_llT, z_llF, z_s1, z_nI_cl, z_nlt0, z_ne_m1, z_b0, z_b1, z_la, z_al, z_lm, z_ml, z_nm, nI_add, pk_mul, ↓reduceIte, not_true_eq_false, not_false_eq_true, true_or, or_true, false_or, or_false, true_and, and_true, and_false, false_and, Classical.not_not, Nat.add_zero, z_01, z_em, z_bit_p, Nat.not_le, Nat.not_lt, reduceCtorEq, if_true, if_false]
    · have e0 : ¬ r (12 + 13 * j + 2) = 0 := by rw [ek, show (0 : Int32) = nI 0 from rfl, z_nI_eq k 0 (by omega) (by omega)]; exact h0
      obtain ⟨K, k1, k2⟩ := k_pp32 X (d + 1) J T r n m j q2 hj
      by_cases hp : (R_say r j 0 0).2.2 = 0
      · rw [if_pos (.inl hp)]
        obtain ⟨L, l1, l2, l3⟩ := S K k2
        refine ⟨L, ⟨l2, l3⟩, ?_⟩
        rw [← l1]
        simp (disch := omega) only [e_X2_goOn_135_32_19, k_X2_goOn_135_32_19, n3, c2, ek, k1, hp, q_bd_l, z_ltT, z_ltF, z_eqT, z_eqF, z_ltlT, z_ltlF, z_lltT, z_lltF, z_eqlT, z_eqlF, z_in, z_k7, z_cl, z_lneg, z_llT, z_llF, z_s1, z_nI_cl, z_nlt0, z_ne_m1, z_b0, z_b1, z_la, z_al, z_lm, z_ml, z_nm, nI_add, pk_mul, ↓reduceIte, not_true_eq_false, not_false_eq_true, true_or, or_true, false_or, or_false, true_and, and_true, and_false, false_and, Classical.not_not, Nat.add_zero, z_01, z_em, z_bit_p, Nat.not_le, Nat.not_lt, reduceCtorEq, if_true, if_false]
      · rw [if_neg (fun a => by rcases a with a | a; exact hp a; exact e0 a)]
        have qK := k_H32_fr q2 k2
        obtain ⟨L, l1, l2, l3⟩ := k_pop32 X (d + 2) K T r n m j qK hj
        refine ⟨L, ⟨z_fr_t q1 (z_fr_t (z_fr_m k2 (fun a k h => by simp [m_mo, h])) l2), l3⟩, ?_⟩
        simp (disch := omega) only [e_X2_goOn_135_32_19, k_X2_goOn_135_32_19, e_X2_goOn_135_32_24, k_X2_goOn_135_32_24, e_X2_goOn_135_32_25, e_X2_goOn_135_32_34, k_X2_goOn_135_32_34, e_X2_goOn_135_32_35, k_X2_goOn_135_32_35, n3, c2, ek, k1, hp, l1, q_bd_l, z_ltT, z_ltF, z_eqT, z_eqF, z_ltlT, z_ltlF, z_lltT, z_lltF, z_eqlT, z_eqlF, z_in, z_k7, z_cl, z_lneg, z_llT, z_llF, z_s1, z_nI_cl, z_nlt0, z_ne_m1, z_b0, z_b1, z_la, z_al, z_lm, z_ml, z_nm, nI_add, pk_mul, ↓reduceIte, not_true_eq_false, not_false_eq_true, true_or, or_true, false_or, or_false, true_and, and_true, and_false, false_and, Classical.not_not, Nat.add_zero, z_01, z_em, z_bit_p, Nat.not_le, Nat.not_lt, reduceCtorEq, if_true, if_false]) r I ⟨z_fr_r _ _, h⟩
  refine ⟨J, ?_, p1, p2⟩
  rw [e_X2_goOn_135_32]
  refine p4.trans ?_
  have n3 : J 3 0 = nI n := p2.2.1.1.trans p2.1.1
  rw [e_X2_goOn_135_32_2]
  simp (disch := omega) only [n3, q_bd_l, z_ltT, z_ltF, z_eqT, z_eqF, z_ltlT, z_ltlF, z_lltT, z_lltF, z_eqlT, z_eqlF, z_in, z_k7, z_cl, z_lneg, z_llT, z_llF, z_s1, z_nI_cl, z_nlt0, z_ne_m1, z_b0, z_b1, z_la, z_al, z_lm, z_ml, z_nm, nI_add, pk_mul, ↓reduceIte, not_true_eq_false, not_false_eq_true, true_or, or_true, false_or, or_false, true_and, and_true, and_false, false_and, Classical.not_not, Nat.add_zero, z_01, z_em, z_bit_p, Nat.not_le, Nat.not_lt, reduceCtorEq, if_true, if_false]
theorem k_draw32 (X : Sx) (d : Nat) (I : Ii) (T : Tt) (r : Nat → Int32) (n m : Nat) (h : k_H32 I r n m) : c_X7_draw_32 X (d + 1) I T = z_r (nI (r_dn (R_sd r 11))) (q_w I 32 6 (R_sd r 11)) T ∧ k_H32 (q_w I 32 6 (R_sd r 11)) (R_sd r) n m := by
  have e6 : I 32 6 = r 11 := h.2.2.1.2.2.1
  have e := r_dn_eq (R_sd r 11)
  rw [R_sd_11] at e ⊢
  constructor
  · unfold R_seed at e ⊢
    rw [e_X7_draw_32, e6, e]
  · exact k_H32_seed h _
theorem k_peel32 (X : Sx) (d : Nat) (I : Ii) (T : Tt) (r : Nat → Int32) (n m : Nat) (h : k_H32 I r n m) : ∃ J, c_X2_peelLabel_135_32 X (d + 2) I T = z_v J T ∧ z_fr (m_mo 32) I J ∧ k_H32 J (R_peel n r) n m := by
  have hn := h.1.2.1
  obtain ⟨d1, d2⟩ := k_draw32 X d I T r n m h
  obtain ⟨d3, d4⟩ := k_draw32 X d _ T _ n m d2
  have f1 : z_fr (m_mo 32) I (q_w I 32 6 (R_sd r 11)) := z_fr_w (z_fr_r _ _) 32 6 _ rfl
  have f2 : z_fr (m_mo 32) I (q_w (q_w I 32 6 (R_sd r 11)) 32 6 (R_sd (R_sd r) 11)) := z_fr_w f1 32 6 _ rfl
  have lt1 := r_dn_lt (R_sd r 11)
  have lt2 := r_dn_lt (R_sd (R_sd r) 11)
  have m1 : nI (r_dn (R_sd r 11)) - nI (r_dn (R_sd r 11)) / (100 : Int32) * (100 : Int32) = nI (r_dn (R_sd r 11) % 100) := pk_rem (d := 100) (by omega) (by omega) (by omega)
  have n3 : (q_w I 32 6 (R_sd r 11)) 3 0 = nI n := d2.2.1.1.trans d2.1.1
  have n6 : (q_w I 32 6 (R_sd r 11)) 3 10 = r 6 := d2.2.1.2.2.2.1.trans (R_sd_k r 6 (by decide))
  have n3' : (q_w (q_w I 32 6 (R_sd r 11)) 32 6 (R_sd (R_sd r) 11)) 3 0 = nI n := d4.2.1.1.trans d4.1.1
  rw [e_X2_peelLabel_135_32, d1]
  unfold R_peel
  by_cases hp : nI (r_dn (R_sd r 11) % 100) < r 6
  · by_cases h0 : 0 < n
    · rw [if_pos ⟨hp, h0⟩]
      have hj : r_dn (R_sd (R_sd r) 11) % n < n := Nat.mod_lt _ h0
      have m2 : nI (r_dn (R_sd (R_sd r) 11)) - nI (r_dn (R_sd (R_sd r) 11)) / nI n * nI n = nI (r_dn (R_sd (R_sd r) 11) % n) := pk_rem (by omega) h0 (by omega)
      have hn0 : (nI n = 0) = False := z_eqF n 0 (by omega) (by omega) (by omega)
      refine ⟨q_w (q_w (q_w I 32 6 (R_sd r 11)) 32 6 (R_sd (R_sd r) 11)) 36 (r_dn (R_sd (R_sd r) 11) % n) (-1), ?_, z_fr_w f2 36 _ _ (by simp [m_mo, m_la]), k_H32_lb d4 _ hj (-1) (.inl rfl)⟩
      simp (disch := omega) only [e_X2_peelLabel_135_32, e_X2_peelLabel_135_32_2, k_X2_peelLabel_135_32_2, e_X2_peelLabel_135_32_11, e_X2_peelLabel_135_32_22, k_X2_peelLabel_135_32_22, m1, n6, hp, n3, d3, n3', m2, hn0, q_bd_l, z_ltT, z_ltF, z_eqT, z_eqF, z_ltlT, z_ltlF, z_lltT, z_lltF, z_eqlT, z_eqlF, z_in, z_k7, z_cl, z_lneg, z_llT, z_llF, z_s1, z_nI_cl, z_nlt0, z_ne_m1, z_b0, z_b1, z_la, z_al, z_lm, z_ml, z_nm, nI_add, pk_mul, ↓reduceIte, not_true_eq_false, not_false_eq_true, true_or, or_true, false_or, or_false, true_and, and_true, and_false, false_and, Classical.not_not, Nat.add_zero, z_01, z_em, z_bit_p, Nat.not_le, Nat.not_lt, reduceCtorEq, if_true, if_false]
    · rw [if_neg (fun a => h0 a.2)]
      refine ⟨_, ?_, f1, d2⟩
      simp (disch := omega) only [e_X2_peelLabel_135_32, e_X2_peelLabel_135_32_2, k_X2_peelLabel_135_32_2, e_X2_peelLabel_135_32_11, e_X2_peelLabel_135_32_22, k_X2_peelLabel_135_32_22, m1, n6, hp, n3, q_bd_l, z_ltT, z_ltF, z_eqT, z_eqF, z_ltlT, z_ltlF, z_lltT, z_lltF, z_eqlT, z_eqlF, z_in, z_k7, z_cl, z_lneg, z_llT, z_llF, z_s1, z_nI_cl, z_nlt0, z_ne_m1, z_b0, z_b1, z_la, z_al, z_lm, z_ml, z_nm, nI_add, pk_mul, ↓reduceIte, not_true_eq_false, not_false_eq_true, true_or, or_true, false_or, or_false, true_and, and_true, and_false, false_and, Classical.not_not, Nat.add_zero, z_01, z_em, z_bit_p, Nat.not_le, Nat.not_lt, reduceCtorEq, if_true, if_false]
  · rw [if_neg (fun a => hp a.1)]
    refine ⟨_, ?_, f1, d2⟩
    simp (disch := omega) only [e_X2_peelLabel_135_32, e_X2_peelLabel_135_32_2, k_X2_peelLabel_135_32_2, e_X2_peelLabel_135_32_11, e_X2_peelLabel_135_32_22, k_X2_peelLabel_135_32_22, m1, n6, hp, q_bd_l, z_ltT, z_ltF, z_eqT, z_eqF, z_ltlT, z_ltlF, z_lltT, z_lltF, z_eqlT, z_eqlF, z_in, z_k7, z_cl, z_lneg, z_llT, z_llF, z_s1, z_nI_cl, z_nlt0, z_ne_m1, z_b0, z_b1, z_la, z_al, z_lm, z_ml, z_nm, nI_add, pk_mul, ↓reduceIte, not_true_eq_false, not_false_eq_true, true_or, or_true, false_or, or_false, true_and, and_true, and_false, false_and, Classical.not_not, Nat.add_zero, z_01, z_em, z_bit_p, Nat.not_le, Nat.not_lt, reduceCtorEq, if_true, if_false]
theorem k_isOpen32 (X : Sx) (d : Nat) (I : Ii) (T : Tt) (r : Nat → Int32) (n m j : Nat) (h : k_H32 I r n m) (hj : j < n) : c_X7_isOpen_32 X (d + 1) (nI j) I T = z_r (z_b (r (12 + 13 * j + 6) = 1)) I T := by
  have hn := h.1.2.1
  obtain ⟨b1, b2, b3, b4, b5, b6, b7, b8, o, b9, b10, b11⟩ := h.2.2.1
  have o2 : o < 2 ^ 31 := Nat.lt_trans b9 (Nat.pow_lt_pow_right (by decide) (by omega))
  have hb : z_bit (I 32 4) j = o.testBit j := by rw [b10]; exact z_bit_nI o j o2 (by omega)
  have hob := b11 j hj
  rw [e_X7_isOpen_32]
  simp only [hob, z_b1]
  unfold z_b
  simp only [z_bit_p, hb]
  split <;> rfl
theorem k_wasp32 (X : Sx) (d : Nat) (I : Ii) (T : Tt) (r : Nat → Int32) (n m : Nat) (h : k_H32 I r n m) : ∃ J, c_X2_feedWasps_135_32 X (d + 2) I T = z_v J T ∧ z_fr (m_mo 32) I J ∧ k_H32 J (R_wasp n r) n m := by
  have hn := h.1.2.1
  obtain ⟨d1, d2⟩ := k_draw32 X d I T r n m h
  obtain ⟨d3, d4⟩ := k_draw32 X d _ T _ n m d2
  have f1 : z_fr (m_mo 32) I (q_w I 32 6 (R_sd r 11)) := z_fr_w (z_fr_r _ _) 32 6 _ rfl
  have f2 : z_fr (m_mo 32) I (q_w (q_w I 32 6 (R_sd r 11)) 32 6 (R_sd (R_sd r) 11)) := z_fr_w f1 32 6 _ rfl
  have lt1 := r_dn_lt (R_sd r 11)
  have lt2 := r_dn_lt (R_sd (R_sd r) 11)
  have m1 : nI (r_dn (R_sd r 11)) - nI (r_dn (R_sd r 11)) / (100 : Int32) * (100 : Int32) = nI (r_dn (R_sd r 11) % 100) := pk_rem (d := 100) (by omega) (by omega) (by omega)
  have n3 : (q_w I 32 6 (R_sd r 11)) 3 0 = nI n := d2.2.1.1.trans d2.1.1
  have n7 : (q_w I 32 6 (R_sd r 11)) 3 11 = r 7 := d2.2.1.2.2.2.2.1.trans (R_sd_k r 7 (by decide))
  have n3' : (q_w (q_w I 32 6 (R_sd r 11)) 32 6 (R_sd (R_sd r) 11)) 3 0 = nI n := d4.2.1.1.trans d4.1.1
  rw [e_X2_feedWasps_135_32, d1]
  unfold R_wasp
  by_cases hp : nI (r_dn (R_sd r 11) % 100) < r 7
  · by_cases h0 : 0 < n
    · rw [if_pos ⟨hp, h0⟩]
      have hj : R_wj n r < n := Nat.mod_lt _ h0
      have m2 : nI (r_dn (R_sd (R_sd r) 11)) - nI (r_dn (R_sd (R_sd r) 11)) / nI n * nI n = nI (R_wj n r) := pk_rem (by omega) h0 (by omega)
      have hn0 : (nI n = 0) = False := z_eqF n 0 (by omega) (by omega) (by omega)
      have io := k_isOpen32 X d _ T _ n m (R_wj n r) d4 hj
      generalize R_wj n r = w at *
      have r6 : R_sd (R_sd r) (12 + 13 * w + 6) = r (12 + 13 * w + 6) := by rw [R_sd_k _ _ (by omega), R_sd_k _ _ (by omega)]
      have r2 : R_sd (R_sd r) (12 + 13 * w + 2) = r (12 + 13 * w + 2) := by rw [R_sd_k _ _ (by omega), R_sd_k _ _ (by omega)]
      rw [r6] at io
      have c2 : (q_w (q_w I 32 6 (R_sd r 11)) 32 6 (R_sd (R_sd r) 11)) 34 w = r (12 + 13 * w + 2) := (d4.2.2.1.2.2.2.2.2.1 w hj).trans r2
      by_cases h1 : r (12 + 13 * w + 6) = 1
      · by_cases h3 : 0 < r (12 + 13 * w + 2)
        · rw [if_pos ⟨h1, h3⟩]
          refine ⟨q_w (q_w (q_w I 32 6 (R_sd r 11)) 32 6 (R_sd (R_sd r) 11)) 34 w (r (12 + 13 * w + 2) - 1), ?_, z_fr_w f2 34 _ _ (by simp [m_mo, m_la]), k_H32_sp d4 w hj _ ?_⟩
          · simp (disch := omega) only [e_X2_feedWasps_135_32, e_X2_feedWasps_135_32_2, k_X2_feedWasps_135_32_2, e_X2_feedWasps_135_32_11, e_X2_feedWasps_135_32_20, k_X2_feedWasps_135_32_20, e_X2_feedWasps_135_32_28, k_X2_feedWasps_135_32_28, m1, n7, hp, n3, d3, n3', m2, hn0, io, h1, c2, h3, q_bd_l, z_ltT, z_ltF, z_eqT, z_eqF, z_ltlT, z_ltlF, z_lltT, z_lltF, z_eqlT, z_eqlF, z_in, z_k7, z_cl, z_lneg, z_llT, z_llF, z_s1, z_nI_cl, z_nlt0, z_ne_m1, z_b0, z_b1, z_la, z_al, z_lm, z_ml, z_nm, nI_add, pk_mul, ↓reduceIte, not_true_eq_false, not_false_eq_true, true_or, or_true, false_or, or_false, true_and, and_true, and_false, false_and, Classical.not_not, Nat.add_zero, z_01, z_em, z_bit_p, Nat.not_le, Nat.not_lt, reduceCtorEq, if_true, if_false]
          · obtain ⟨k, hk, ek⟩ := (d4.1.2.2.2.2.2.2.2.2.2.2.1 w hj).2.2.1
            rw [r2] at ek
            rw [ek] at h3 ⊢
            have hk0 : 0 < k := by
              rcases Nat.eq_zero_or_pos k with e | e
              · subst e; exact absurd h3 (by decide)
              · exact e
            exact ⟨k - 1, by omega, pk_sub (b := 1) hk0⟩
        · rw [if_neg (fun a => h3 a.2)]
          refine ⟨_, ?_, f2, d4⟩
          simp (disch := omega) only [e_X2_feedWasps_135_32, e_X2_feedWasps_135_32_2, k_X2_feedWasps_135_32_2, e_X2_feedWasps_135_32_11, e_X2_feedWasps_135_32_20, k_X2_feedWasps_135_32_20, e_X2_feedWasps_135_32_28, k_X2_feedWasps_135_32_28, m1, n7, hp, n3, d3, n3', m2, hn0, io, h1, c2, h3, q_bd_l, z_ltT, z_ltF, z_eqT, z_eqF, z_ltlT, z_ltlF, z_lltT, z_lltF, z_eqlT, z_eqlF, z_in, z_k7, z_cl, z_lneg, z_llT, z_llF, z_s1, z_nI_cl, z_nlt0, z_ne_m1, z_b0, z_b1, z_la, z_al, z_lm, z_ml, z_nm, nI_add, pk_mul, ↓reduceIte, not_true_eq_false, not_false_eq_true, true_or, or_true, false_or, or_false, true_and, and_true, and_false, false_and, Classical.not_not, Nat.add_zero, z_01, z_em, z_bit_p, Nat.not_le, Nat.not_lt, reduceCtorEq, if_true, if_false]
      · rw [if_neg (fun a => h1 a.1)]
        refine ⟨_, ?_, f2, d4⟩
        simp (disch := omega) only [e_X2_feedWasps_135_32, e_X2_feedWasps_135_32_2, k_X2_feedWasps_135_32_2, e_X2_feedWasps_135_32_11, e_X2_feedWasps_135_32_20, k_X2_feedWasps_135_32_20, e_X2_feedWasps_135_32_28, k_X2_feedWasps_135_32_28, m1, n7, hp, n3, d3, n3', m2, hn0, io, h1, q_bd_l, z_ltT, z_ltF, z_eqT, z_eqF, z_ltlT, z_ltlF, z_lltT, z_lltF, z_eqlT, z_eqlF, z_in, z_k7, z_cl, z_lneg, z_llT, z_llF, z_s1, z_nI_cl, z_nlt0, z_ne_m1, z_b0, z_b1, z_la, z_al, z_lm, z_ml, z_nm, nI_add, pk_mul, ↓reduceIte, not_true_eq_false, not_false_eq_true, true_or, or_true, false_or, or_false, true_and, and_true, and_false, false_and, Classical.not_not, Nat.add_zero, z_01, z_em, z_bit_p, Nat.not_le, Nat.not_lt, reduceCtorEq, if_true, if_false]
    · rw [if_neg (fun a => h0 a.2)]
      refine ⟨_, ?_, f1, d2⟩
      simp (disch := omega) only [e_X2_feedWasps_135_32, e_X2_feedWasps_135_32_2, k_X2_feedWasps_135_32_2, e_X2_feedWasps_135_32_11, e_X2_feedWasps_135_32_20, k_X2_feedWasps_135_32_20, e_X2_feedWasps_135_32_28, k_X2_feedWasps_135_32_28, m1, n7, hp, n3, q_bd_l, z_ltT, z_ltF, z_eqT, z_eqF, z_ltlT, z_ltlF, z_lltT, z_lltF, z_eqlT, z_eqlF, z_in, z_k7, z_cl, z_lneg, z_llT, z_llF, z_s1, z_nI_cl, z_nlt0, z_ne_m1, z_b0, z_b1, z_la, z_al, z_lm, z_ml, z_nm, nI_add, pk_mul, ↓reduceIte, not_true_eq_false, not_false_eq_true, true_or, or_true, false_or, or_false, true_and, and_true, and_false, false_and, Classical.not_not, Nat.add_zero, z_01, z_em, z_bit_p, Nat.not_le, Nat.not_lt, reduceCtorEq, if_true, if_false]
  · rw [if_neg (fun a => hp a.1)]
    refine ⟨_, ?_, f1, d2⟩
    simp (disch := omega) only [e_X2_feedWasps_135_32, e_X2_feedWasps_135_32_2, k_X2_feedWasps_135_32_2, e_X2_feedWasps_135_32_11, e_X2_feedWasps_135_32_20, k_X2_feedWasps_135_32_20, e_X2_feedWasps_135_32_28, k_X2_feedWasps_135_32_28, m1, n7, hp, q_bd_l, z_ltT, z_ltF, z_eqT, z_eqF, z_ltlT, z_ltlF, z_lltT, z_lltF, z_eqlT, z_eqlF, z_in, z_k7, z_cl, z_lneg, z_llT, z_llF, z_s1, z_nI_cl, z_nlt0, z_ne_m1, z_b0, z_b1, z_la, z_al, z_lm, z_ml, z_nm, nI_add, pk_mul, ↓reduceIte, not_true_eq_false, not_false_eq_true, true_or, or_true, false_or, or_false, true_and, and_true, and_false, false_and, Classical.not_not, Nat.add_zero, z_01, z_em, z_bit_p, Nat.not_le, Nat.not_lt, reduceCtorEq, if_true, if_false]
theorem k_pass32 (X : Sx) (d : Nat) (I : Ii) (T : Tt) (r : Nat → Int32) (n m q : Nat) (hq : q ≤ 100) (h : k_H32 I r n m) : ∃ J, c_X2_passYears_135_32 X (d + 6) (nI q) I T = z_v J T ∧ z_fr (m_mo 32) I J ∧ k_H32 J (R_pass n q r) n m := by
  obtain ⟨J, ⟨p1, p2⟩, p4⟩ := z_foldP (β := Nat → Int32) (σ := Ii) (fun i r J => c_X2_passYears_135_32_2 X (d + 5) (nI q) (nI i) J T) (fun _ r => R_year n r) (fun o r J => z_fr (m_mo 32) I J ∧ k_H32 J r n m) q (by
    intro i r J hi ⟨q1, q2⟩
    obtain ⟨A, a1, a2, a3⟩ := k_goOn32 X d J T r n m q2
    obtain ⟨B, b1, b2, b3⟩ := k_peel32 X (d + 3) A T _ n m a3
    obtain ⟨C, c1, c2, c3⟩ := k_wasp32 X (d + 3) B T _ n m b3
    have e5 : C 32 5 = R_wasp n (R_peel n (R_sours n r)) 8 := c3.2.2.1.1
    refine ⟨_, ⟨z_fr_w (z_fr_t q1 (z_fr_t a2 (z_fr_t b2 c2))) 32 5 _ rfl, k_H32_year c3 (R_wasp n (R_peel n (R_sours n r)) 8 + 1)⟩, ?_⟩
    rw [e_X2_passYears_135_32_2]
    simp (disch := omega) only [e_X2_passYears_135_32_8, k_X2_passYears_135_32_8, e_X2_passYears_135_32_11, k_X2_passYears_135_32_11, e_X2_passYears_135_32_14, k_X2_passYears_135_32_14, a1, b1, c1, e5, q_bd_l, z_ltT, z_ltF, z_eqT, z_eqF, z_ltlT, z_ltlF, z_lltT, z_lltF, z_eqlT, z_eqlF, z_in, z_k7, z_cl, z_lneg, z_llT, z_llF, z_s1, z_nI_cl, z_nlt0, z_ne_m1, z_b0, z_b1, z_la, z_al, z_lm, z_ml, z_nm, nI_add, pk_mul, ↓reduceIte, not_true_eq_false, not_false_eq_true, true_or, or_true, false_or, or_false, true_and, and_true, and_false, false_and, Classical.not_not, Nat.add_zero, z_01, z_em, z_bit_p, Nat.not_le, Nat.not_lt, reduceCtorEq, if_true, if_false]) r I ⟨z_fr_r _ _, h⟩
  refine ⟨J, ?_, p1, p2⟩
  rw [e_X2_passYears_135_32]
  refine p4.trans ?_
  rw [e_X2_passYears_135_32_2]
  simp (disch := omega) only [q_bd_l, z_ltT, z_ltF, z_eqT, z_eqF, z_ltlT, z_ltlF, z_lltT, z_lltF, z_eqlT, z_eqlF, z_in, z_k7, z_cl, z_lneg, z_llT, z_llF, z_s1, z_nI_cl, z_nlt0, z_ne_m1, z_b0, z_b1, z_la, z_al, z_lm, z_ml, z_nm, nI_add, pk_mul, ↓reduceIte, not_true_eq_false, not_false_eq_true, true_or, or_true, false_or, or_false, true_and, and_true, and_false, false_and, Classical.not_not, Nat.add_zero, z_01, z_em, z_bit_p, Nat.not_le, Nat.not_lt, reduceCtorEq, if_true, if_false]
