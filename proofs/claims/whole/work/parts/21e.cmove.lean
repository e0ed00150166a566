/-! ===== THE CLASS: moving, years ===== -/
theorem k_Xmove0 (X : Sx) (d : Nat) (I : Ii) (T : Tt) (n : Nat) (v u : Int32) (h3 : I 3 0 = nI n) (hn : n ≤ 10) (hv : z_no v n ∨ (∃ j, j < n ∧ v = nI j) ∧ z_no u 12) : c_X11_move_0 X (d + 12) v u I T = z_x 2 I T := by
  rw [e_X11_move_0]
  rcases hv with hv | ⟨⟨j, hj, rfl⟩, hu⟩
  · rw [k_needJar0 X _ v I T n h3 hv, z_x_bd]
  · rw [k_needJar1 X _ I T n j h3 hn hj]
    simp (disch := omega) only [e_X11_move_0_3, k_X11_move_0_3, e_X11_move_0_5, k_X11_move_0_5, e_X11_move_0_12, k_X11_move_0_12, e_X11_move_0_18, k_X11_move_0_18, e_X11_move_0_36, k_needPlace0 X _ u I T hu, z_x_bd, q_bd_l, z_ltT, z_ltF, z_eqT, z_eqF, z_ltlT, z_ltlF, z_lltT, z_lltF, z_eqlT, z_eqlF, z_in, z_k7, z_cl, z_lneg, z_llT, z_llF, z_s1, z_nI_cl, z_nlt0, z_ne_m1, z_b0, z_b1, z_la, z_al, z_lm, z_ml, z_nm, nI_add, pk_mul, ↓reduceIte, not_true_eq_false, not_false_eq_true, true_or, or_true, false_or, or_false, true_and, and_true, and_false, false_and, Classical.not_not, Nat.add_zero, z_01, z_em, z_bit_p, Nat.not_le, Nat.not_lt, reduceCtorEq, if_true, if_false]
theorem k_Xmove1 (X : Sx) (d : Nat) (I : Ii) (T : Tt) (n m : Nat) (G : Nat → Nat) (p z : Nat) (H : Nat → Nat → Int32) (h : k_S I n m G p z H) (j q : Nat) (hj : j < n) (hq : q < 12) : ∃ K, c_X11_move_0 X (d + 12) (nI j) (nI q) I T = z_r (if R_on (H z) n (nI q) = j then -1 else if R_on (H z) n (nI q) < n then nI (R_on (H z) n (nI q)) else -1) K T ∧ z_fr m_ac I K ∧ k_S K n m (k_H' z G) ((p + 1) % 12) (k_z z) (k_up (k_z z) (k_H' z H) (R_mov (H z) n j (nI q))) := by
  have h27 := k_S_27 h
  have hn := h27.1.2.1
  have hm := h27.1.2.2.2.1
  have n3 := k_n3 h27
  obtain ⟨J, j1, j2, j3⟩ := k_S_rem X (d + 9) I T n m G p z H h
  obtain ⟨e1, e2, e3⟩ := k_H'_eq z G h.2.1
  obtain ⟨-, -, f3⟩ := k_H'_eq z H h.2.1
  have hJ := j3.2.2.2.2.1
  rw [e3, f3] at hJ
  have jo := k_jarOn X (d + 10) I T (H z) n m (nI q) h27
  have c : J 28 j = H z (12 + 13 * j + 1) := hJ.2.2.2.1.2.2.2.2.1 j hj
  have hle : R_on (H z) n (nI q) ≤ n := z_fst_le _ _
  have mc : ∀ i, i < n → r_mc (12 + 13 * i + 1) := fun i hi => .inr (.inr (.inr (.inr (.inl ⟨i, 1, by omega, rfl, by omega⟩))))
  have hjv := (hJ.1.2.2.2.2.2.2.2.2.2.2.1 j hj).2.1
  have hqv : z_le (nI q) 11 := ⟨q, by omega, rfl⟩
  have hLg : z_Lg J 27 61 (H z) (k_H' z G (k_z z)) := by rw [e3]; exact hJ.2.2.2.2
  rw [e_X11_move_0, k_needJar1 X _ I T n j n3 hn hj]
  unfold R_mov
  generalize R_on (H z) n (nI q) = o at *
  by_cases ho : o = j
  · refine ⟨J, ?_, m_ac_hi j2, ?_⟩
    · simp (disch := omega) only [e_X11_move_0_3, k_X11_move_0_3, e_X11_move_0_5, k_X11_move_0_5, e_X11_move_0_12, k_X11_move_0_12, e_X11_move_0_18, k_X11_move_0_18, e_X11_move_0_36, k_needPlace1 X _ I T q hq, n3, jo, ho, hj, j1, q_bd_l, z_ltT, z_ltF, z_eqT, z_eqF, z_ltlT, z_ltlF, z_lltT, z_lltF, z_eqlT, z_eqlF, z_in, z_k7, z_cl, z_lneg, z_llT, z_llF, z_s1, z_nI_cl, z_nlt0, z_ne_m1, z_b0, z_b1, z_la, z_al, z_lm, z_ml, z_nm, nI_add, pk_mul, ↓reduceIte, not_true_eq_false, not_false_eq_true, true_or, or_true, false_or, or_false, true_and, and_true, and_false, false_and, Classical.not_not, Nat.add_zero, z_01, z_em, z_bit_p, Nat.not_le, Nat.not_lt, reduceCtorEq, if_true, if_false]
    · rw [if_pos ho, ← f3, k_up_id]; exact j3
  · by_cases h1 : o < n
    · refine ⟨q_w (q_w J 28 o (H z (12 + 13 * j + 1))) 28 j (nI q), ?_, z_fr_w (z_fr_w (m_ac_hi j2) 28 _ _ rfl) 28 _ _ rfl, ?_⟩
      · simp (disch := omega) only [e_X11_move_0_3, k_X11_move_0_3, e_X11_move_0_5, k_X11_move_0_5, e_X11_move_0_12, k_X11_move_0_12, e_X11_move_0_18, k_X11_move_0_18, e_X11_move_0_36, k_needPlace1 X _ I T q hq, n3, jo, ho, h1, j1, c, q_bd_l, z_ltT, z_ltF, z_eqT, z_eqF, z_ltlT, z_ltlF, z_lltT, z_lltF, z_eqlT, z_eqlF, z_in, z_k7, z_cl, z_lneg, z_llT, z_llF, z_s1, z_nI_cl, z_nlt0, z_ne_m1, z_b0, z_b1, z_la, z_al, z_lm, z_ml, z_nm, nI_add, pk_mul, ↓reduceIte, not_true_eq_false, not_false_eq_true, true_or, or_true, false_or, or_false, true_and, and_true, and_false, false_and, Classical.not_not, Nat.add_zero, z_01, z_em, z_bit_p, Nat.not_le, Nat.not_lt, reduceCtorEq, if_true, if_false]
      · rw [if_neg ho, if_pos h1]
        refine k_S_now j3 e1 e2 _ (fun a ha => by rw [z_w_a _ _ _ _ _ (by omega), z_w_a _ _ _ _ _ (by omega)]) (by rw [z_w_a _ _ _ _ _ (by decide), z_w_a _ _ _ _ _ (by decide)]) (z_Mo_w1 (z_Mo_w1 hJ.2.2.2.1 hn o h1 _) hn j hj _) (R_ok_w1 (R_ok_w1 hJ.1 o h1 _ hjv) j hj _ hqv) (z_Sh_up (z_Sh_up hJ.2.1 hn hm (mc o h1) _) hn hm (mc j hj) _) (z_La_up (z_La_up hJ.2.2.1 (by omega) (by omega) _) (by omega) (by omega) _) (z_Lg_up (z_Lg_up hLg (by omega) (by omega) _) (by omega) (by omega) _)
    · have e9 : (-1 = nI j) = False := eq_false (fun h9 => (z_ne_m1 j (by omega)).mp h9.symm)
      refine ⟨q_w J 28 j (nI q), ?_, z_fr_w (m_ac_hi j2) 28 _ _ rfl, ?_⟩
      · simp (disch := omega) only [e_X11_move_0_3, k_X11_move_0_3, e_X11_move_0_5, k_X11_move_0_5, e_X11_move_0_12, k_X11_move_0_12, e_X11_move_0_18, k_X11_move_0_18, e_X11_move_0_36, k_needPlace1 X _ I T q hq, n3, jo, ho, h1, j1, e9, q_bd_l, z_ltT, z_ltF, z_eqT, z_eqF, z_ltlT, z_ltlF, z_lltT, z_lltF, z_eqlT, z_eqlF, z_in, z_k7, z_cl, z_lneg, z_llT, z_llF, z_s1, z_nI_cl, z_nlt0, z_ne_m1, z_b0, z_b1, z_la, z_al, z_lm, z_ml, z_nm, nI_add, pk_mul, ↓reduceIte, not_true_eq_false, not_false_eq_true, true_or, or_true, false_or, or_false, true_and, and_true, and_false, false_and, Classical.not_not, Nat.add_zero, z_01, z_em, z_bit_p, Nat.not_le, Nat.not_lt, reduceCtorEq, if_true, if_false]
      · rw [if_neg ho, if_neg h1]
        exact k_S_now j3 e1 e2 _ (fun a ha => by rw [z_w_a _ _ _ _ _ (by omega)]) (by rw [z_w_a _ _ _ _ _ (by decide)]) (z_Mo_w1 hJ.2.2.2.1 hn j hj _) (R_ok_w1 hJ.1 j hj _ hqv) (z_Sh_up hJ.2.1 hn hm (mc j hj) _) (z_La_up hJ.2.2.1 (by omega) (by omega) _) (z_Lg_up hLg (by omega) (by omega) _)
/-- what years leave as it is -/
def R_kp (r r' : Nat → Int32) : Prop := ∀ i, i = 10 ∨ 184 ≤ i → r' i = r i
theorem R_kp_r (r : Nat → Int32) : R_kp r r := fun _ _ => rfl
theorem R_kp_t {r s t : Nat → Int32} (h : R_kp r s) (h2 : R_kp s t) : R_kp r t := fun i hi => (h2 i hi).trans (h i hi)
theorem R_kp_up {r s : Nat → Int32} (h : R_kp r s) {k : Nat} (hk : k < 184) (h2 : k ≠ 10) (v : Int32) : R_kp r (va_up s k v) := fun i hi => by rw [ru_ne (by omega)]; exact h i hi
theorem R_kp_sp (j k : Nat) (hk : k < 10) (r : Nat → Int32) : R_kp r (R_sp j k r) := by
  unfold R_sp
  split
  · exact R_kp_up (R_kp_r _) (by omega) (by omega) _
  · exact R_kp_r _
theorem R_kp_sj (n j : Nat) (hn : n ≤ 10) (hj : j < n) (r : Nat → Int32) : R_kp r (R_sj n j r) := by
  unfold R_sj
  split
  · exact R_kp_up (R_kp_r _) (by omega) (by omega) _
  · unfold R_pops
    exact z_it_P (P := R_kp r) (R_kp_up (R_kp_up (R_kp_r _) (by omega) (by omega) _) (by omega) (by omega) _) (fun k a hk ha => R_kp_t ha (R_kp_sp j k (by omega) a))
theorem R_kp_sours (n : Nat) (hn : n ≤ 10) (r : Nat → Int32) : R_kp r (R_sours n r) := z_it_P (P := R_kp r) (R_kp_r _) (fun k a hk ha => R_kp_t ha (R_kp_sj n k hn hk a))
theorem R_kp_sd (r : Nat → Int32) : R_kp r (R_sd r) := R_kp_up (R_kp_r _) (by omega) (by omega) _
theorem R_kp_year (n : Nat) (hn : n ≤ 10) (r : Nat → Int32) : R_kp r (R_year n r) := by
  unfold R_year R_next
  refine R_kp_up (R_kp_t (R_kp_sours n hn r) ?_) (by omega) (by omega) _
  generalize R_sours n r = s
  have h1 : R_kp s (R_peel n s) := by
    unfold R_peel
    split
    · rename_i c
      have := Nat.mod_lt (r_dn (R_sd (R_sd s) 11)) c.2
      exact R_kp_up (R_kp_t (R_kp_sd _) (R_kp_sd _)) (by omega) (by omega) _
    · exact R_kp_sd _
  refine R_kp_t h1 ?_
  generalize R_peel n s = t
  unfold R_wasp
  split
  · rename_i c
    have hl : R_wj n t < n := Nat.mod_lt _ c.2
    split
    · exact R_kp_up (R_kp_t (R_kp_sd _) (R_kp_sd _)) (by omega) (by omega) _
    · exact R_kp_t (R_kp_sd _) (R_kp_sd _)
  · exact R_kp_sd _
theorem R_kp_pass (n q : Nat) (hn : n ≤ 10) (r : Nat → Int32) : R_kp r (R_pass n q r) := z_it_P (P := R_kp r) (R_kp_r _) (fun k a _ ha => R_kp_t ha (R_kp_year n hn a))
theorem k_Xyears0 (X : Sx) (d : Nat) (I : Ii) (T : Tt) (v : Int32) (hv : v < 1 ∨ 50 < v) : c_X11_years_0 X (d + 12) v I T = z_x 0 I T := by
  rw [e_X11_years_0]
  by_cases c : v < 1
  · simp (disch := omega) only [e_X11_years_0_6, c, z_x_e, q_bd_l, z_ltT, z_ltF, z_eqT, z_eqF, z_ltlT, z_ltlF, z_lltT, z_lltF, z_eqlT, z_eqlF, z_in, z_k7, z_cl, z_lneg, z_llT, z_llF, z_s1, z_nI_cl, z_nlt0, z_ne_m1, z_b0, z_b1, z_la, z_al, z_lm, z_ml, z_nm, nI_add, pk_mul, ↓reduceIte, not_true_eq_false, not_false_eq_true, true_or, or_true, false_or, or_false, true_and, and_true, and_false, false_and, Classical.not_not, Nat.add_zero, z_01, z_em, z_bit_p, Nat.not_le, Nat.not_lt, reduceCtorEq, if_true, if_false]
  · have c2 : 50 < v := by rcases hv with a | a; exact absurd a c; exact a
    simp (disch := omega) only [e_X11_years_0_6, c, c2, z_x_e, q_bd_l, z_ltT, z_ltF, z_eqT, z_eqF, z_ltlT, z_ltlF, z_lltT, z_lltF, z_eqlT, z_eqlF, z_in, z_k7, z_cl, z_lneg, z_llT, z_llF, z_s1, z_nI_cl, z_nlt0, z_ne_m1, z_b0, z_b1, z_la, z_al, z_lm, z_ml, z_nm, nI_add, pk_mul, ↓reduceIte, not_true_eq_false, not_false_eq_true, true_or, or_true, false_or, or_false, true_and, and_true, and_false, false_and, Classical.not_not, Nat.add_zero, z_01, z_em, z_bit_p, Nat.not_le, Nat.not_lt, reduceCtorEq, if_true, if_false]
theorem k_Xyears1 (X : Sx) (d : Nat) (I : Ii) (T : Tt) (n m : Nat) (G : Nat → Nat) (p z : Nat) (H : Nat → Nat → Int32) (h : k_S I n m G p z H) (q : Nat) (h1 : 1 ≤ q) (hq : q ≤ 50) : ∃ K, c_X11_years_0 X (d + 12) (nI q) I T = z_r (R_pass n q (H z) 9 - H z 9) K T ∧ z_fr m_ac I K ∧ k_S K n m (k_H' z G) ((p + 1) % 12) (k_z z) (k_up (k_z z) (k_H' z H) (R_pass n q (H z))) := by
  have h27 := k_S_27 h
  have hn := h27.1.2.1
  have c7 : I 27 7 = H z 9 := h27.2.2.1.2.1
  obtain ⟨J, j1, j2, j3⟩ := k_S_rem X (d + 9) I T n m G p z H h
  obtain ⟨e1, e2, e3⟩ := k_H'_eq z G h.2.1
  obtain ⟨-, -, f3⟩ := k_H'_eq z H h.2.1
  have hJ := j3.2.2.2.2.1
  rw [e3, f3] at hJ
  obtain ⟨K, k1, k2, k3⟩ := k_pass27 X (d + 5) J T (H z) n m q (by omega) ⟨hJ.1, hJ.2.1, hJ.2.2.2.1, hJ.2.2.1⟩
  have k7 : K 27 7 = R_pass n q (H z) 9 := k3.2.2.1.2.1
  have kp := R_kp_pass n q hn (H z)
  have hfo := fun a x y w => mo_row k2 a x y w
  refine ⟨K, ?_, z_fr_t (m_ac_hi j2) (m_ac_mo k2), ?_⟩
  · rw [e_X11_years_0]
    simp (disch := omega) only [e_X11_years_0_6, e_X11_years_0_20, k_X11_years_0_20, e_X11_years_0_26, k_X11_years_0_26, c7, j1, k1, k7, q_bd_l, z_ltT, z_ltF, z_eqT, z_eqF, z_ltlT, z_ltlF, z_lltT, z_lltF, z_eqlT, z_eqlF, z_in, z_k7, z_cl, z_lneg, z_llT, z_llF, z_s1, z_nI_cl, z_nlt0, z_ne_m1, z_b0, z_b1, z_la, z_al, z_lm, z_ml, z_nm, nI_add, pk_mul, ↓reduceIte, not_true_eq_false, not_false_eq_true, true_or, or_true, false_or, or_false, true_and, and_true, and_false, false_and, Classical.not_not, Nat.add_zero, z_01, z_em, z_bit_p, Nat.not_le, Nat.not_lt, reduceCtorEq, if_true, if_false]
  · have hLg : z_Lg K 27 61 (R_pass n q (H z)) (G z) := ⟨(k2 27 8 rfl).trans hJ.2.2.2.2.1, fun i c a b e => by
      rw [kp 10 (.inl rfl)] at a
      rw [kp _ (.inr (by omega)), hfo 61 (by omega) (by omega) (by omega)]
      exact hJ.2.2.2.2.2 i c a b e⟩
    have := k_S_upd (J := K) j3 e1 e2 (R_pass n q (H z)) (G z) (by rw [e3]; omega) ⟨k3.1, k3.2.1, k3.2.2.2, k3.2.2.1, hLg⟩ (fun a x y => hfo a (by omega) (by omega) (by omega)) (k2 42 0 rfl) (fun a x y => hfo a (by omega) (by omega) (by omega)) (fun a x y => hfo a (by omega) (by omega) (by omega)) ⟨by rw [hfo 64 (by omega) (by omega) (by omega)], by rw [hfo 64 (by omega) (by omega) (by omega)]⟩ (fun i hi => by
      have hb := k_at_b ((p + 1) % 12) (k_z z) i
      exact z_Lg_fr (j3.2.2.2.2.2.1 i hi).2.2.2.2 (by rw [hfo _ (by omega) (by omega) (by omega)]) (hfo 61 (by omega) (by omega) (by omega)))
    have eG : k_up (k_z z) (k_H' z G) (G z) = k_H' z G := by rw [← e3, k_up_id]
    rw [eG] at this
    exact this
