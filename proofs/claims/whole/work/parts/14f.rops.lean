/-! ===== THE REFERENCE: calls that ask ===== -/
/-- no number of n -/
def z_no (v : Int32) (n : Nat) : Prop := v < 0 ∨ nI n ≤ v
theorem z_yn (v : Int32) (n : Nat) (hn : n < 2147483648) : (∃ j, j < n ∧ v = nI j) ∨ z_no v n := by
  rcases pk_ix v hn with h | h | h
  · exact .inr (.inl h)
  · exact .inr (.inr h)
  · exact .inl h
theorem z_no_p {v : Int32} {n : Nat} (hn : n < 1000000) (h : z_no v n) : (¬ v < 0 ∧ ¬ nI n - 1 < v) = False := by
  refine eq_false (fun a => ?_)
  rcases h with h | h
  · exact a.1 h
  · refine a.2 ?_
    rcases Nat.eq_zero_or_pos n with e | e
    · subst e
      rw [fa_lt']
      rw [fa_le'] at h
      have e1 : (nI 0 - 1 : Int32).toInt = -1 := by decide
      have e2 : (nI 0).toInt = 0 := by decide
      omega
    · have e1 : nI n - 1 = nI (n - 1) := pk_sub e
      rw [e1, fa_lt', nI_toInt (by omega)]
      rw [fa_le', nI_toInt (by omega)] at h
      omega
where
  fa_lt' {a b : Int32} : a < b ↔ a.toInt < b.toInt := Int32.lt_iff_toInt_lt
  fa_le' {a b : Int32} : a ≤ b ↔ a.toInt ≤ b.toInt := Int32.le_iff_toInt_le
theorem z_yes_p {j n : Nat} (hn : n < 1000000) (h : j < n) : (¬ nI j < 0 ∧ ¬ nI n - 1 < nI j) = True := by
  have e1 : nI n - 1 = nI (n - 1) := pk_sub (by omega : 1 ≤ n)
  rw [e1]
  exact eq_true ⟨nI_pos (by omega), nI_nlt (by omega) (by omega)⟩
theorem z_no_l {v : Int32} {b : Nat} (hb : b < 100000) (h : z_no v (b + 1)) : (¬ v < 0 ∧ ¬ nI b < v) = False := by
  have := z_no_p (n := b + 1) (by omega) h
  have e1 : nI (b + 1) - 1 = nI b := nI_pred b
  rw [e1] at this
  exact this
theorem z_yes_l {j b : Nat} (hb : b < 1000000) (h : j ≤ b) : (¬ nI j < 0 ∧ ¬ nI b < nI j) = True := eq_true ⟨nI_pos (by omega), nI_nlt h (by omega)⟩
theorem l_jar1 (X : Sx) (d : Nat) (I : Ii) (T : Tt) (n j : Nat) (h3 : I 140 3 = nI n) (hn : n ≤ 10) (hj : j < n) : c_X12_isJar_139 X (d + 2) (nI j) I T = z_r 1 I T := by
  have e := z_yes_p (n := n) (by omega) hj
  rw [l_isJar, h3]
  simp only [e, z_b, ↓reduceIte]
theorem l_jar0 (X : Sx) (d : Nat) (v : Int32) (I : Ii) (T : Tt) (n : Nat) (h3 : I 140 3 = nI n) (hn : n ≤ 10) (hj : z_no v n) : c_X12_isJar_139 X (d + 2) v I T = z_r 0 I T := by
  have e := z_no_p (by omega) hj
  rw [l_isJar, h3]
  simp only [e, z_b, ↓reduceIte]
theorem l_mat1 (X : Sx) (d : Nat) (I : Ii) (T : Tt) (j : Nat) (hj : j < 6) : c_X12_isMatter X (d + 2) (nI j) I T = z_r 1 I T := by
  have e := z_yes_l (b := 5) (by omega) (by omega : j ≤ 5)
  rw [l_isMatter]
  exact congrArg (fun v => z_r v I T) (by rw [show (5 : Int32) = nI 5 from rfl]; simp only [e, z_b, ↓reduceIte])
theorem l_mat0 (X : Sx) (d : Nat) (v : Int32) (I : Ii) (T : Tt) (hj : z_no v 6) : c_X12_isMatter X (d + 2) v I T = z_r 0 I T := by
  have e := z_no_l (b := 5) (by omega) hj
  rw [l_isMatter]
  exact congrArg (fun v => z_r v I T) (by rw [show (5 : Int32) = nI 5 from rfl]; simp only [e, z_b, ↓reduceIte])
theorem l_pla1 (X : Sx) (d : Nat) (I : Ii) (T : Tt) (j : Nat) (hj : j < 12) : c_X12_isPlace X (d + 2) (nI j) I T = z_r 1 I T := by
  have e := z_yes_l (b := 11) (by omega) (by omega : j ≤ 11)
  rw [l_isPlace]
  exact congrArg (fun v => z_r v I T) (by rw [show (11 : Int32) = nI 11 from rfl]; simp only [e, z_b, ↓reduceIte])
theorem l_pla0 (X : Sx) (d : Nat) (v : Int32) (I : Ii) (T : Tt) (hj : z_no v 12) : c_X12_isPlace X (d + 2) v I T = z_r 0 I T := by
  have e := z_no_l (b := 11) (by omega) hj
  rw [l_isPlace]
  exact congrArg (fun v => z_r v I T) (by rw [show (11 : Int32) = nI 11 from rfl]; simp only [e, z_b, ↓reduceIte])
theorem l_in1 (X : Sx) (d : Nat) (I : Ii) (T : Tt) (j b : Nat) (hb : b < 1000000) (hj : j ≤ b) : c_X12_isIn X (d + 1) (nI j) 0 (no_index (OfNat.ofNat b) : Int32) I T = z_r 1 I T := by
  have e := z_yes_l hb hj
  rw [l_isIn]
  exact congrArg (fun v => z_r v I T) (by rw [show (OfNat.ofNat b : Int32) = nI b from rfl]; simp only [e, z_b, ↓reduceIte])
theorem l_in0 (X : Sx) (d : Nat) (v : Int32) (I : Ii) (T : Tt) (b : Nat) (hb : b < 100000) (hj : z_no v (b + 1)) : c_X12_isIn X (d + 1) v 0 (no_index (OfNat.ofNat b) : Int32) I T = z_r 0 I T := by
  have e := z_no_l hb hj
  rw [l_isIn]
  exact congrArg (fun v => z_r v I T) (by rw [show (OfNat.ofNat b : Int32) = nI b from rfl]; simp only [e, z_b, ↓reduceIte])
theorem l_inR1 (X : Sx) (d : Nat) (I : Ii) (T : Tt) (w : Int32) (j n : Nat) (hw : w = nI n) (hn : n < 1000000) (hj : j < n) : c_X12_isIn X (d + 1) (nI j) 0 (w - 1) I T = z_r 1 I T := by
  have e := z_yes_p hn hj
  rw [l_isIn, hw]
  simp only [e, z_b, ↓reduceIte]
theorem l_inR0 (X : Sx) (d : Nat) (v : Int32) (I : Ii) (T : Tt) (w : Int32) (n : Nat) (hw : w = nI n) (hn : n < 1000000) (hj : z_no v n) : c_X12_isIn X (d + 1) v 0 (w - 1) I T = z_r 0 I T := by
  have e := z_no_p hn hj
  rw [l_isIn, hw]
  simp only [e, z_b, ↓reduceIte]
-- light
theorem l_light1 (X : Sx) (d : Nat) (I : Ii) (T : Tt) (p : Nat) (hp : p < 12) : c_X12_light_139 X (d + 3) (nI p) I T = z_r (I 140 (142 + p)) (q_w I 139 0 0) T := by
  rw [e_X12_light_139, l_pla1 X d I T p hp]
  simp (disch := omega) only [e_X12_light_139, e_X12_light_139_3, k_X12_light_139_3, e_X12_light_139_7, z_w_a, q_bd_l, z_ltT, z_ltF, z_eqT, z_eqF, z_ltlT, z_ltlF, z_lltT, z_lltF, z_eqlT, z_eqlF, z_in, z_k7, z_cl, z_lneg, z_llT, z_llF, z_s1, z_nI_cl, z_nlt0, z_ne_m1, z_b0, z_b1, z_la, z_al, z_lm, z_ml, z_nm, nI_add, pk_mul, ↓reduceIte, not_true_eq_false, not_false_eq_true, true_or, or_true, false_or, or_false, true_and, and_true, and_false, false_and, Classical.not_not, Nat.add_zero, z_01, z_em, z_bit_p, Nat.not_le, Nat.not_lt, reduceCtorEq, if_true, if_false]
theorem l_light0 (X : Sx) (d : Nat) (v : Int32) (I : Ii) (T : Tt) (hp : z_no v 12) : c_X12_light_139 X (d + 3) v I T = z_r 0 (q_w I 139 0 1) T := by
  rw [e_X12_light_139, l_pla0 X d v I T hp]
  simp (disch := omega) only [e_X12_light_139, e_X12_light_139_3, k_X12_light_139_3, e_X12_light_139_7, q_bd_l, z_ltT, z_ltF, z_eqT, z_eqF, z_ltlT, z_ltlF, z_lltT, z_lltF, z_eqlT, z_eqlF, z_in, z_k7, z_cl, z_lneg, z_llT, z_llF, z_s1, z_nI_cl, z_nlt0, z_ne_m1, z_b0, z_b1, z_la, z_al, z_lm, z_ml, z_nm, nI_add, pk_mul, ↓reduceIte, not_true_eq_false, not_false_eq_true, true_or, or_true, false_or, or_false, true_and, and_true, and_false, false_and, Classical.not_not, Nat.add_zero, z_01, z_em, z_bit_p, Nat.not_le, Nat.not_lt, reduceCtorEq, if_true, if_false]
-- advice
theorem l_advice1 (X : Sx) (d : Nat) (I : Ii) (T : Tt) (n j t : Nat) (w : Int32) (h : R_g n (I 140)) (hj : j < n) (ht : t < 6) : ∃ K, c_X12_advice_139 X (d + 36) (nI j) (nI t) w I T = z_r (if w = 0 then I 140 (12 + 13 * j + (7 + t)) else R_adv (I 140) j t) K T ∧ K 139 0 = 0 ∧ z_fr m_q I K := by
  have h10 := h.2.1
  have e : (q_w I 139 0 0) 140 = I 140 := z_w_a _ _ _ _ _ (by decide)
  obtain ⟨J, h1, h2⟩ := l_adv X (d + 1) (q_w I 139 0 0) T j t (by omega) ht (by rw [e]; exact h.2.2)
  rw [e] at h1
  rw [e_X12_advice_139, l_jar1 X _ I T n j h.1 (by omega) hj]
  by_cases hw : w = 0
  · refine ⟨q_w I 139 0 0, ?_, z_w_s _ _ _ _, z_q0 I 0⟩
    simp (disch := omega) only [e_X12_advice_139, e_X12_advice_139_4, k_X12_advice_139_4, e_X12_advice_139_7, k_X12_advice_139_7, e_X12_advice_139_8, e_X12_advice_139_11, e_X12_advice_139_23, k_X12_advice_139_23, e_X12_advice_139_30, k_X12_advice_139_30, l_mat1 X _ I T t ht, hw, l_ofn, z_w_a, q_bd_l, z_ltT, z_ltF, z_eqT, z_eqF, z_ltlT, z_ltlF, z_lltT, z_lltF, z_eqlT, z_eqlF, z_in, z_k7, z_cl, z_lneg, z_llT, z_llF, z_s1, z_nI_cl, z_nlt0, z_ne_m1, z_b0, z_b1, z_la, z_al, z_lm, z_ml, z_nm, nI_add, pk_mul, ↓reduceIte, not_true_eq_false, not_false_eq_true, true_or, or_true, false_or, or_false, true_and, and_true, and_false, false_and, Classical.not_not, Nat.add_zero, z_01, z_em, z_bit_p, Nat.not_le, Nat.not_lt, reduceCtorEq, if_true, if_false]
  · refine ⟨J, ?_, (h2 139 0 rfl).trans (z_w_s _ _ _ _), z_fr_t (z_q0 I 0) (z_fr_q h2)⟩
    simp (disch := omega) only [e_X12_advice_139, e_X12_advice_139_4, k_X12_advice_139_4, e_X12_advice_139_7, k_X12_advice_139_7, e_X12_advice_139_8, e_X12_advice_139_11, e_X12_advice_139_23, k_X12_advice_139_23, e_X12_advice_139_30, k_X12_advice_139_30, l_mat1 X _ I T t ht, hw, h1, q_bd_l, z_ltT, z_ltF, z_eqT, z_eqF, z_ltlT, z_ltlF, z_lltT, z_lltF, z_eqlT, z_eqlF, z_in, z_k7, z_cl, z_lneg, z_llT, z_llF, z_s1, z_nI_cl, z_nlt0, z_ne_m1, z_b0, z_b1, z_la, z_al, z_lm, z_ml, z_nm, nI_add, pk_mul, ↓reduceIte, not_true_eq_false, not_false_eq_true, true_or, or_true, false_or, or_false, true_and, and_true, and_false, false_and, Classical.not_not, Nat.add_zero, z_01, z_em, z_bit_p, Nat.not_le, Nat.not_lt, reduceCtorEq, if_true, if_false]
theorem l_advice0 (X : Sx) (d : Nat) (I : Ii) (T : Tt) (n : Nat) (v u w : Int32) (h : R_g n (I 140)) (hv : z_no v n ∨ (∃ j, j < n ∧ v = nI j) ∧ z_no u 6) : c_X12_advice_139 X (d + 36) v u w I T = z_r 0 (q_w I 139 0 1) T := by
  have h10 := h.2.1
  rw [e_X12_advice_139]
  rcases hv with hv | ⟨⟨j, hj, rfl⟩, hu⟩
  · rw [l_jar0 X _ v I T n h.1 h10 hv]
    simp (disch := omega) only [e_X12_advice_139, e_X12_advice_139_4, k_X12_advice_139_4, e_X12_advice_139_7, k_X12_advice_139_7, e_X12_advice_139_8, e_X12_advice_139_11, e_X12_advice_139_23, k_X12_advice_139_23, e_X12_advice_139_30, k_X12_advice_139_30, q_bd_l, z_ltT, z_ltF, z_eqT, z_eqF, z_ltlT, z_ltlF, z_lltT, z_lltF, z_eqlT, z_eqlF, z_in, z_k7, z_cl, z_lneg, z_llT, z_llF, z_s1, z_nI_cl, z_nlt0, z_ne_m1, z_b0, z_b1, z_la, z_al, z_lm, z_ml, z_nm, nI_add, pk_mul, ↓reduceIte, not_true_eq_false, not_false_eq_true, true_or, or_true, false_or, or_false, true_and, and_true, and_false, false_and, Classical.not_not, Nat.add_zero, z_01, z_em, z_bit_p, Nat.not_le, Nat.not_lt, reduceCtorEq, if_true, if_false]
  · rw [l_jar1 X _ I T n j h.1 h10 hj]
    simp (disch := omega) only [e_X12_advice_139, e_X12_advice_139_4, k_X12_advice_139_4, e_X12_advice_139_7, k_X12_advice_139_7, e_X12_advice_139_8, e_X12_advice_139_11, e_X12_advice_139_23, k_X12_advice_139_23, e_X12_advice_139_30, k_X12_advice_139_30, l_mat0 X _ u I T hu, q_bd_l, z_ltT, z_ltF, z_eqT, z_eqF, z_ltlT, z_ltlF, z_lltT, z_lltF, z_eqlT, z_eqlF, z_in, z_k7, z_cl, z_lneg, z_llT, z_llF, z_s1, z_nI_cl, z_nlt0, z_ne_m1, z_b0, z_b1, z_la, z_al, z_lm, z_ml, z_nm, nI_add, pk_mul, ↓reduceIte, not_true_eq_false, not_false_eq_true, true_or, or_true, false_or, or_false, true_and, and_true, and_false, false_and, Classical.not_not, Nat.add_zero, z_01, z_em, z_bit_p, Nat.not_le, Nat.not_lt, reduceCtorEq, if_true, if_false]
-- two
def z_two (n : Nat) (v u w : Int32) (c : Int32) : Prop := (c = 1 ∧ (z_no v n ∨ (∃ j, j < n ∧ v = nI j) ∧ z_no u n ∨ (∃ j, j < n ∧ v = nI j) ∧ (∃ j, j < n ∧ u = nI j) ∧ z_no w 6)) ∨ (c = 2 ∧ ∃ j t, j < n ∧ t < 6 ∧ v = nI j ∧ u = nI j ∧ w = nI t) ∨ (c = 0 ∧ ∃ j o t, j < n ∧ o < n ∧ j ≠ o ∧ t < 6 ∧ v = nI j ∧ u = nI o ∧ w = nI t)
theorem z_two_ex (n : Nat) (hn : n ≤ 10) (v u w : Int32) : ∃ c, z_two n v u w c := by
  rcases z_yn v n (by omega) with hv | hv
  · rcases z_yn u n (by omega) with hu | hu
    · rcases z_yn w 6 (by omega) with hw | hw
      · obtain ⟨j, hj, rfl⟩ := hv
        obtain ⟨o, ho, rfl⟩ := hu
        obtain ⟨t, ht, rfl⟩ := hw
        by_cases e : j = o
        · subst e; exact ⟨2, .inr (.inl ⟨rfl, j, t, hj, ht, rfl, rfl, rfl⟩)⟩
        · exact ⟨0, .inr (.inr ⟨rfl, j, o, t, hj, ho, e, ht, rfl, rfl, rfl⟩)⟩
      · exact ⟨1, .inl ⟨rfl, .inr (.inr ⟨hv, hu, hw⟩)⟩⟩
    · exact ⟨1, .inl ⟨rfl, .inr (.inl ⟨hv, hu⟩)⟩⟩
  · exact ⟨1, .inl ⟨rfl, .inl hv⟩⟩
theorem l_two (X : Sx) (d : Nat) (I : Ii) (T : Tt) (n : Nat) (h3 : I 140 3 = nI n) (hn : n ≤ 10) (v u w c : Int32) (h : z_two n v u w c) : c_X12_two_139 X (d + 3) v u w I T = z_r c I T := by
  rw [e_X12_two_139]
  rcases h with ⟨rfl, h | ⟨⟨j, hj, rfl⟩, h⟩ | ⟨⟨j, hj, rfl⟩, ⟨o, ho, rfl⟩, h⟩⟩ | ⟨rfl, j, t, hj, ht, rfl, rfl, rfl⟩ | ⟨rfl, j, o, t, hj, ho, hne, ht, rfl, rfl, rfl⟩
  · rw [l_jar0 X _ v I T n h3 hn h]
    simp (disch := omega) only [e_X12_two_139, e_X12_two_139_3, k_X12_two_139_3, e_X12_two_139_7, k_X12_two_139_7, e_X12_two_139_10, k_X12_two_139_10, e_X12_two_139_11, q_bd_l, z_ltT, z_ltF, z_eqT, z_eqF, z_ltlT, z_ltlF, z_lltT, z_lltF, z_eqlT, z_eqlF, z_in, z_k7, z_cl, z_lneg, z_llT, z_llF, z_s1, z_nI_cl, z_nlt0, z_ne_m1, z_b0, z_b1, z_la, z_al, z_lm, z_ml, z_nm, nI_add, pk_mul, ↓reduceIte, not_true_eq_false, not_false_eq_true, true_or, or_true, false_or, or_false, true_and, and_true, and_false, false_and, Classical.not_not, Nat.add_zero, z_01, z_em, z_bit_p, Nat.not_le, Nat.not_lt, reduceCtorEq, if_true, if_false]
  · rw [l_jar1 X _ I T n j h3 hn hj]
    simp (disch := omega) only [e_X12_two_139, e_X12_two_139_3, k_X12_two_139_3, e_X12_two_139_7, k_X12_two_139_7, e_X12_two_139_10, k_X12_two_139_10, e_X12_two_139_11, l_jar0 X _ u I T n h3 hn h, q_bd_l, z_ltT, z_ltF, z_eqT, z_eqF, z_ltlT, z_ltlF, z_lltT, z_lltF, z_eqlT, z_eqlF, z_in, z_k7, z_cl, z_lneg, z_llT, z_llF, z_s1, z_nI_cl, z_nlt0, z_ne_m1, z_b0, z_b1, z_la, z_al, z_lm, z_ml, z_nm, nI_add, pk_mul, ↓reduceIte, not_true_eq_false, not_false_eq_true, true_or, or_true, false_or, or_false, true_and, and_true, and_false, false_and, Classical.not_not, Nat.add_zero, z_01, z_em, z_bit_p, Nat.not_le, Nat.not_lt, reduceCtorEq, if_true, if_false]
  · rw [l_jar1 X _ I T n j h3 hn hj]
    simp (disch := omega) only [e_X12_two_139, e_X12_two_139_3, k_X12_two_139_3, e_X12_two_139_7, k_X12_two_139_7, e_X12_two_139_10, k_X12_two_139_10, e_X12_two_139_11, l_jar1 X _ I T n o h3 hn ho, l_mat0 X _ w I T h, q_bd_l, z_ltT, z_ltF, z_eqT, z_eqF, z_ltlT, z_ltlF, z_lltT, z_lltF, z_eqlT, z_eqlF, z_in, z_k7, z_cl, z_lneg, z_llT, z_llF, z_s1, z_nI_cl, z_nlt0, z_ne_m1, z_b0, z_b1, z_la, z_al, z_lm, z_ml, z_nm, nI_add, pk_mul, ↓reduceIte, not_true_eq_false, not_false_eq_true, true_or, or_true, false_or, or_false, true_and, and_true, and_false, false_and, Classical.not_not, Nat.add_zero, z_01, z_em, z_bit_p, Nat.not_le, Nat.not_lt, reduceCtorEq, if_true, if_false]
  · rw [l_jar1 X _ I T n j h3 hn hj]
    simp (disch := omega) only [e_X12_two_139, e_X12_two_139_3, k_X12_two_139_3, e_X12_two_139_7, k_X12_two_139_7, e_X12_two_139_10, k_X12_two_139_10, e_X12_two_139_11, l_jar1 X _ I T n j h3 hn hj, l_mat1 X _ I T t ht, q_bd_l, z_ltT, z_ltF, z_eqT, z_eqF, z_ltlT, z_ltlF, z_lltT, z_lltF, z_eqlT, z_eqlF, z_in, z_k7, z_cl, z_lneg, z_llT, z_llF, z_s1, z_nI_cl, z_nlt0, z_ne_m1, z_b0, z_b1, z_la, z_al, z_lm, z_ml, z_nm, nI_add, pk_mul, ↓reduceIte, not_true_eq_false, not_false_eq_true, true_or, or_true, false_or, or_false, true_and, and_true, and_false, false_and, Classical.not_not, Nat.add_zero, z_01, z_em, z_bit_p, Nat.not_le, Nat.not_lt, reduceCtorEq, if_true, if_false]
  · rw [l_jar1 X _ I T n j h3 hn hj]
    simp (disch := omega) only [e_X12_two_139, e_X12_two_139_3, k_X12_two_139_3, e_X12_two_139_7, k_X12_two_139_7, e_X12_two_139_10, k_X12_two_139_10, e_X12_two_139_11, l_jar1 X _ I T n o h3 hn ho, l_mat1 X _ I T t ht, q_bd_l, z_ltT, z_ltF, z_eqT, z_eqF, z_ltlT, z_ltlF, z_lltT, z_lltF, z_eqlT, z_eqlF, z_in, z_k7, z_cl, z_lneg, z_llT, z_llF, z_s1, z_nI_cl, z_nlt0, z_ne_m1, z_b0, z_b1, z_la, z_al, z_lm, z_ml, z_nm, nI_add, pk_mul, ↓reduceIte, not_true_eq_false, not_false_eq_true, true_or, or_true, false_or, or_false, true_and, and_true, and_false, false_and, Classical.not_not, Nat.add_zero, z_01, z_em, z_bit_p, Nat.not_le, Nat.not_lt, reduceCtorEq, if_true, if_false]
theorem l_mixture1 (X : Sx) (d : Nat) (I : Ii) (T : Tt) (n j o t : Nat) (h : R_g n (I 140)) (hj : j < n) (ho : o < n) (hne : j ≠ o) (ht : t < 6) : ∃ K, c_X12_mixture_139 X (d + 37) (nI j) (nI o) (nI t) I T = z_r (R_mx (I 140) j o t) K T ∧ K 139 0 = 0 ∧ z_fr m_q I K := by
  have h10 := h.2.1
  have e : (q_w I 139 0 0) 140 = I 140 := z_w_a _ _ _ _ _ (by decide)
  obtain ⟨J, h1, h2⟩ := l_mixed X d (q_w I 139 0 0) T j o t (by omega) (by omega) ht (by rw [e]; exact h.2.2)
  rw [e] at h1
  refine ⟨J, ?_, (h2 139 0 rfl).trans (z_w_s _ _ _ _), z_fr_t (z_q0 I 0) (z_fr_q h2)⟩
  rw [e_X12_mixture_139, l_two X _ I T n h.1 h10 _ _ _ 0 (.inr (.inr ⟨rfl, j, o, t, hj, ho, hne, ht, rfl, rfl, rfl⟩))]
  simp (disch := omega) only [e_X12_mixture_139, e_X12_mixture_139_6, k_X12_mixture_139_6, e_X12_mixture_139_17, k_X12_mixture_139_17, h1, q_bd_l, z_ltT, z_ltF, z_eqT, z_eqF, z_ltlT, z_ltlF, z_lltT, z_lltF, z_eqlT, z_eqlF, z_in, z_k7, z_cl, z_lneg, z_llT, z_llF, z_s1, z_nI_cl, z_nlt0, z_ne_m1, z_b0, z_b1, z_la, z_al, z_lm, z_ml, z_nm, nI_add, pk_mul, ↓reduceIte, not_true_eq_false, not_false_eq_true, true_or, or_true, false_or, or_false, true_and, and_true, and_false, false_and, Classical.not_not, Nat.add_zero, z_01, z_em, z_bit_p, Nat.not_le, Nat.not_lt, reduceCtorEq, if_true, if_false]
theorem l_mixture0 (X : Sx) (d : Nat) (I : Ii) (T : Tt) (n : Nat) (v u w c : Int32) (h : R_g n (I 140)) (hc : z_two n v u w c) (h0 : c = 1 ∨ c = 2) : c_X12_mixture_139 X (d + 37) v u w I T = z_r 0 (q_w I 139 0 c) T := by
  rw [e_X12_mixture_139, l_two X _ I T n h.1 h.2.1 _ _ _ c hc]
  rcases h0 with rfl | rfl <;> simp (disch := omega) only [e_X12_mixture_139, e_X12_mixture_139_6, k_X12_mixture_139_6, e_X12_mixture_139_17, k_X12_mixture_139_17, q_bd_l, z_ltT, z_ltF, z_eqT, z_eqF, z_ltlT, z_ltlF, z_lltT, z_lltF, z_eqlT, z_eqlF, z_in, z_k7, z_cl, z_lneg, z_llT, z_llF, z_s1, z_nI_cl, z_nlt0, z_ne_m1, z_b0, z_b1, z_la, z_al, z_lm, z_ml, z_nm, nI_add, pk_mul, ↓reduceIte, not_true_eq_false, not_false_eq_true, true_or, or_true, false_or, or_false, true_and, and_true, and_false, false_and, Classical.not_not, Nat.add_zero, z_01, z_em, z_bit_p, Nat.not_le, Nat.not_lt, reduceCtorEq, if_true, if_false]
-- best
theorem l_bestC1 (X : Sx) (d : Nat) (I : Ii) (T : Tt) (n t m : Nat) (h : R_g n (I 140)) (ht : t < 6) (hm : m ≤ 9) : ∃ K, c_X12_best_139 X (d + 37) (nI t) (nI m) I T = z_r (R_best (I 140) n t (nI m) 2000000000) K T ∧ K 139 0 = 0 ∧ z_fr m_q I K := by
  have e : (q_w I 139 0 0) 140 = I 140 := z_w_a _ _ _ _ _ (by decide)
  obtain ⟨J, h1, h2⟩ := l_best26 X d (q_w I 139 0 0) T n t (nI m) ht (by rw [e]; exact h)
  rw [e] at h1
  refine ⟨J, ?_, (h2 139 0 rfl).trans (z_w_s _ _ _ _), z_fr_t (z_q0 I 0) (z_fr_q h2)⟩
  rw [e_X12_best_139, l_mat1 X _ I T t ht]
  simp (disch := omega) only [e_X12_best_139, e_X12_best_139_3, k_X12_best_139_3, e_X12_best_139_10, k_X12_best_139_10, e_X12_best_139_14, e_X12_best_139_47, k_X12_best_139_47, e_X12_best_139_50, k_X12_best_139_50, e_X12_best_139_63, l_in1 X _ I T m 9 (by omega) hm, h1, q_bd_l, z_ltT, z_ltF, z_eqT, z_eqF, z_ltlT, z_ltlF, z_lltT, z_lltF, z_eqlT, z_eqlF, z_in, z_k7, z_cl, z_lneg, z_llT, z_llF, z_s1, z_nI_cl, z_nlt0, z_ne_m1, z_b0, z_b1, z_la, z_al, z_lm, z_ml, z_nm, nI_add, pk_mul, ↓reduceIte, not_true_eq_false, not_false_eq_true, true_or, or_true, false_or, or_false, true_and, and_true, and_false, false_and, Classical.not_not, Nat.add_zero, z_01, z_em, z_bit_p, Nat.not_le, Nat.not_lt, reduceCtorEq, if_true, if_false]
theorem l_bestC0 (X : Sx) (d : Nat) (I : Ii) (T : Tt) (v u : Int32) (c : Int32) (hc : c = 1 ∧ z_no v 6 ∨ c = 2 ∧ (∃ t, t < 6 ∧ v = nI t) ∧ z_no u 10) : c_X12_best_139 X (d + 37) v u I T = z_r 0 (q_w I 139 0 c) T := by
  rw [e_X12_best_139]
  rcases hc with ⟨rfl, hv⟩ | ⟨rfl, ⟨t, ht, rfl⟩, hu⟩
  · rw [l_mat0 X _ v I T hv]
    simp (disch := omega) only [e_X12_best_139, e_X12_best_139_3, k_X12_best_139_3, e_X12_best_139_10, k_X12_best_139_10, e_X12_best_139_14, e_X12_best_139_47, k_X12_best_139_47, e_X12_best_139_50, k_X12_best_139_50, e_X12_best_139_63, q_bd_l, z_ltT, z_ltF, z_eqT, z_eqF, z_ltlT, z_ltlF, z_lltT, z_lltF, z_eqlT, z_eqlF, z_in, z_k7, z_cl, z_lneg, z_llT, z_llF, z_s1, z_nI_cl, z_nlt0, z_ne_m1, z_b0, z_b1, z_la, z_al, z_lm, z_ml, z_nm, nI_add, pk_mul, ↓reduceIte, not_true_eq_false, not_false_eq_true, true_or, or_true, false_or, or_false, true_and, and_true, and_false, false_and, Classical.not_not, Nat.add_zero, z_01, z_em, z_bit_p, Nat.not_le, Nat.not_lt, reduceCtorEq, if_true, if_false]
  · rw [l_mat1 X _ I T t ht]
    simp (disch := omega) only [e_X12_best_139, e_X12_best_139_3, k_X12_best_139_3, e_X12_best_139_10, k_X12_best_139_10, e_X12_best_139_14, e_X12_best_139_47, k_X12_best_139_47, e_X12_best_139_50, k_X12_best_139_50, e_X12_best_139_63, l_in0 X _ u I T 9 (by omega) hu, q_bd_l, z_ltT, z_ltF, z_eqT, z_eqF, z_ltlT, z_ltlF, z_lltT, z_lltF, z_eqlT, z_eqlF, z_in, z_k7, z_cl, z_lneg, z_llT, z_llF, z_s1, z_nI_cl, z_nlt0, z_ne_m1, z_b0, z_b1, z_la, z_al, z_lm, z_ml, z_nm, nI_add, pk_mul, ↓reduceIte, not_true_eq_false, not_false_eq_true, true_or, or_true, false_or, or_false, true_and, and_true, and_false, false_and, Classical.not_not, Nat.add_zero, z_01, z_em, z_bit_p, Nat.not_le, Nat.not_lt, reduceCtorEq, if_true, if_false]
-- falls
def R_worst (r : Nat → Int32) (n : Nat) : Int32 := z_it (fun k f => if R_falls r n f < R_falls r n (nI (k + 1)) then nI (k + 1) else f) 11 0
theorem l_fallsW (X : Sx) (d : Nat) (I : Ii) (T : Tt) (n : Nat) (h3 : I 140 3 = nI n) (hn : n ≤ 10) : c_X12_falls_139 X (d + 4) (-1) I T = z_r (R_worst (I 140) n) (q_w I 139 0 0) T := by
  have e : (q_w I 139 0 0) 140 = I 140 := z_w_a _ _ _ _ _ (by decide)
  rw [e_X12_falls_139]
  simp (disch := omega) only [e_X12_falls_139_6, k_X12_falls_139_6, e_X12_falls_139_9, e_X12_falls_139_10, e_X12_falls_139_22, k_X12_falls_139_22, e_X12_falls_139_33, k_X12_falls_139_33, e_X12_falls_139_36, k_X12_falls_139_36, e_X12_falls_139_39, q_bd_l, z_ltT, z_ltF, z_eqT, z_eqF, z_ltlT, z_ltlF, z_lltT, z_lltF, z_eqlT, z_eqlF, z_in, z_k7, z_cl, z_lneg, z_llT, z_llF, z_s1, z_nI_cl, z_nlt0, z_ne_m1, z_b0, z_b1, z_la, z_al, z_lm, z_ml, z_nm, nI_add, pk_mul, ↓reduceIte, not_true_eq_false, not_false_eq_true, true_or, or_true, false_or, or_false, true_and, and_true, and_false, false_and, Classical.not_not, Nat.add_zero, z_01, z_em, z_bit_p, Nat.not_le, Nat.not_lt, reduceCtorEq, if_true, if_false]
  generalize q_w I 139 0 0 = J at *
  rw [← e] at h3 ⊢
  refine (z_for (fun k f => c_X12_falls_139_27 X (d + 3) (-1) f (nI (k + 1)) J T) (fun k f => if R_falls (J 140) n f < R_falls (J 140) n (nI (k + 1)) then nI (k + 1) else f) 11 (fun k f hk => ?_) 0).trans ?_
  · rw [e_X12_falls_139_27]
    by_cases h4 : R_falls (J 140) n f < R_falls (J 140) n (nI (k + 1)) <;> simp (disch := omega) only [e_X12_falls_139_6, k_X12_falls_139_6, e_X12_falls_139_9, e_X12_falls_139_10, e_X12_falls_139_22, k_X12_falls_139_22, e_X12_falls_139_33, k_X12_falls_139_33, e_X12_falls_139_36, k_X12_falls_139_36, e_X12_falls_139_39, l_fallsFrom X _ J T _ n h3 hn, h4, q_bd_l, z_ltT, z_ltF, z_eqT, z_eqF, z_ltlT, z_ltlF, z_lltT, z_lltF, z_eqlT, z_eqlF, z_in, z_k7, z_cl, z_lneg, z_llT, z_llF, z_s1, z_nI_cl, z_nlt0, z_ne_m1, z_b0, z_b1, z_la, z_al, z_lm, z_ml, z_nm, nI_add, pk_mul, ↓reduceIte, not_true_eq_false, not_false_eq_true, true_or, or_true, false_or, or_false, true_and, and_true, and_false, false_and, Classical.not_not, Nat.add_zero, z_01, z_em, z_bit_p, Nat.not_le, Nat.not_lt, reduceCtorEq, if_true, if_false]
  · rw [e_X12_falls_139_27]
    simp (disch := omega) only [q_bd_l, z_ltT, z_ltF, z_eqT, z_eqF, z_ltlT, z_ltlF, z_lltT, z_lltF, z_eqlT, z_eqlF, z_in, z_k7, z_cl, z_lneg, z_llT, z_llF, z_s1, z_nI_cl, z_nlt0, z_ne_m1, z_b0, z_b1, z_la, z_al, z_lm, z_ml, z_nm, nI_add, pk_mul, ↓reduceIte, not_true_eq_false, not_false_eq_true, true_or, or_true, false_or, or_false, true_and, and_true, and_false, false_and, Classical.not_not, Nat.add_zero, z_01, z_em, z_bit_p, Nat.not_le, Nat.not_lt, reduceCtorEq, if_true, if_false]
    rfl
theorem l_falls1 (X : Sx) (d : Nat) (I : Ii) (T : Tt) (n p : Nat) (h3 : I 140 3 = nI n) (hn : n ≤ 10) (hp : p < 12) : c_X12_falls_139 X (d + 4) (nI p) I T = z_r (R_falls (I 140) n (nI p)) (q_w I 139 0 0) T := by
  have e : (q_w I 139 0 0) 140 = I 140 := z_w_a _ _ _ _ _ (by decide)
  have h1 := l_fallsFrom X (d + 1) (q_w I 139 0 0) T (nI p) n (by rw [e]; exact h3) hn
  rw [e] at h1
  rw [e_X12_falls_139, l_pla1 X _ I T p hp]
  simp (disch := omega) only [e_X12_falls_139_6, k_X12_falls_139_6, e_X12_falls_139_9, e_X12_falls_139_10, e_X12_falls_139_22, k_X12_falls_139_22, e_X12_falls_139_33, k_X12_falls_139_33, e_X12_falls_139_36, k_X12_falls_139_36, e_X12_falls_139_39, h1, q_bd_l, z_ltT, z_ltF, z_eqT, z_eqF, z_ltlT, z_ltlF, z_lltT, z_lltF, z_eqlT, z_eqlF, z_in, z_k7, z_cl, z_lneg, z_llT, z_llF, z_s1, z_nI_cl, z_nlt0, z_ne_m1, z_b0, z_b1, z_la, z_al, z_lm, z_ml, z_nm, nI_add, pk_mul, ↓reduceIte, not_true_eq_false, not_false_eq_true, true_or, or_true, false_or, or_false, true_and, and_true, and_false, false_and, Classical.not_not, Nat.add_zero, z_01, z_em, z_bit_p, Nat.not_le, Nat.not_lt, reduceCtorEq, if_true, if_false]
theorem l_falls0 (X : Sx) (d : Nat) (I : Ii) (T : Tt) (v : Int32) (hp : z_no v 12) (hm : v ≠ -1) : c_X12_falls_139 X (d + 4) v I T = z_r 0 (q_w I 139 0 1) T := by
  rw [e_X12_falls_139, l_pla0 X _ v I T hp]
  simp (disch := omega) only [e_X12_falls_139_6, k_X12_falls_139_6, e_X12_falls_139_9, e_X12_falls_139_10, e_X12_falls_139_22, k_X12_falls_139_22, e_X12_falls_139_33, k_X12_falls_139_33, e_X12_falls_139_36, k_X12_falls_139_36, e_X12_falls_139_39, hm, q_bd_l, z_ltT, z_ltF, z_eqT, z_eqF, z_ltlT, z_ltlF, z_lltT, z_lltF, z_eqlT, z_eqlF, z_in, z_k7, z_cl, z_lneg, z_llT, z_llF, z_s1, z_nI_cl, z_nlt0, z_ne_m1, z_b0, z_b1, z_la, z_al, z_lm, z_ml, z_nm, nI_add, pk_mul, ↓reduceIte, not_true_eq_false, not_false_eq_true, true_or, or_true, false_or, or_false, true_and, and_true, and_false, false_and, Classical.not_not, Nat.add_zero, z_01, z_em, z_bit_p, Nat.not_le, Nat.not_lt, reduceCtorEq, if_true, if_false]
-- labels
def R_wr (r : Nat → Int32) (n : Nat) (nl : Bool) : Int32 := z_set (fun j => if r (12 + 13 * j + 5) = -1 then nl else (!nl && decide (r (12 + 13 * j + 5) ≠ nI j))) n
theorem l_wrongC (X : Sx) (d : Nat) (I : Ii) (T : Tt) (n : Nat) (v : Int32) (nl : Bool) (hv : (v = 0) = (nl = false)) (h3 : I 140 3 = nI n) (hn : n ≤ 10) : c_X12_wrong__139 X (d + 2) v I T = z_r (R_wr (I 140) n nl) (q_w I 139 0 0) T := by
  rw [e_X12_wrong__139]
  have e : (q_w I 139 0 0) 140 = I 140 := z_w_a _ _ _ _ _ (by decide)
  generalize q_w I 139 0 0 = J at *
  rw [← e] at h3 ⊢
  refine (z_for (fun k a => c_X12_wrong__139_7 X (d + 1) v a (nI k) J T) (fun j a => a ||| (if (if J 140 (12 + 13 * j + 5) = -1 then nl else (!nl && decide (J 140 (12 + 13 * j + 5) ≠ nI j))) = true then (1 : Int32) <<< (nI j &&& 31) else 0)) n (fun k a hk => ?_) 0).trans ?_
  · rw [e_X12_wrong__139_7]
    cases nl with
    | false =>
      have hv' : (v = 0) = True := by rw [hv]; simp
      by_cases h4 : J 140 (12 + 13 * k + 5) = -1
      · simp (disch := omega) only [e_X12_wrong__139_18, k_X12_wrong__139_18, e_X12_wrong__139_34, k_X12_wrong__139_34, e_X12_wrong__139_40, e_X12_wrong__139_41, h3, l_of, h4, hv', q_bd_l, z_ltT, z_ltF, z_eqT, z_eqF, z_ltlT, z_ltlF, z_lltT, z_lltF, z_eqlT, z_eqlF, z_in, z_k7, z_cl, z_lneg, z_llT, z_llF, z_s1, z_nI_cl, z_nlt0, z_ne_m1, z_b0, z_b1, z_la, z_al, z_lm, z_ml, z_nm, nI_add, pk_mul, ↓reduceIte, not_true_eq_false, not_false_eq_true, true_or, or_true, false_or, or_false, true_and, and_true, and_false, false_and, Classical.not_not, Nat.add_zero, z_01, z_em, z_bit_p, Nat.not_le, Nat.not_lt, reduceCtorEq, if_true, if_false, decide_true, decide_false, Bool.and_true, Bool.and_false, Bool.true_and, Bool.false_and, Bool.or_true, Bool.or_false, Bool.true_or, Bool.false_or, Bool.false_eq_true, ne_eq, Bool.not_true, Bool.not_false, decide_not]
      · by_cases h5 : J 140 (12 + 13 * k + 5) = nI k
        · have h6 : (nI k = -1) = False := z_ne_m1 k (by omega)
          simp (disch := omega) only [e_X12_wrong__139_18, k_X12_wrong__139_18, e_X12_wrong__139_34, k_X12_wrong__139_34, e_X12_wrong__139_40, e_X12_wrong__139_41, h3, l_of, h5, h6, hv', q_bd_l, z_ltT, z_ltF, z_eqT, z_eqF, z_ltlT, z_ltlF, z_lltT, z_lltF, z_eqlT, z_eqlF, z_in, z_k7, z_cl, z_lneg, z_llT, z_llF, z_s1, z_nI_cl, z_nlt0, z_ne_m1, z_b0, z_b1, z_la, z_al, z_lm, z_ml, z_nm, nI_add, pk_mul, ↓reduceIte, not_true_eq_false, not_false_eq_true, true_or, or_true, false_or, or_false, true_and, and_true, and_false, false_and, Classical.not_not, Nat.add_zero, z_01, z_em, z_bit_p, Nat.not_le, Nat.not_lt, reduceCtorEq, if_true, if_false, decide_true, decide_false, Bool.and_true, Bool.and_false, Bool.true_and, Bool.false_and, Bool.or_true, Bool.or_false, Bool.true_or, Bool.false_or, Bool.false_eq_true, ne_eq, Bool.not_true, Bool.not_false, decide_not]
        · simp (disch := omega) only [e_X12_wrong__139_18, k_X12_wrong__139_18, e_X12_wrong__139_34, k_X12_wrong__139_34, e_X12_wrong__139_40, e_X12_wrong__139_41, h3, l_of, h4, h5, hv', q_bd_l, z_ltT, z_ltF, z_eqT, z_eqF, z_ltlT, z_ltlF, z_lltT, z_lltF, z_eqlT, z_eqlF, z_in, z_k7, z_cl, z_lneg, z_llT, z_llF, z_s1, z_nI_cl, z_nlt0, z_ne_m1, z_b0, z_b1, z_la, z_al, z_lm, z_ml, z_nm, nI_add, pk_mul, ↓reduceIte, not_true_eq_false, not_false_eq_true, true_or, or_true, false_or, or_false, true_and, and_true, and_false, false_and, Classical.not_not, Nat.add_zero, z_01, z_em, z_bit_p, Nat.not_le, Nat.not_lt, reduceCtorEq, if_true, if_false, decide_true, decide_false, Bool.and_true, Bool.and_false, Bool.true_and, Bool.false_and, Bool.or_true, Bool.or_false, Bool.true_or, Bool.false_or, Bool.false_eq_true, ne_eq, Bool.not_true, Bool.not_false, decide_not]
    | true =>
      have hv' : (v = 0) = False := by rw [hv]; simp
      by_cases h4 : J 140 (12 + 13 * k + 5) = -1
      · simp (disch := omega) only [e_X12_wrong__139_18, k_X12_wrong__139_18, e_X12_wrong__139_34, k_X12_wrong__139_34, e_X12_wrong__139_40, e_X12_wrong__139_41, h3, l_of, h4, hv', q_bd_l, z_ltT, z_ltF, z_eqT, z_eqF, z_ltlT, z_ltlF, z_lltT, z_lltF, z_eqlT, z_eqlF, z_in, z_k7, z_cl, z_lneg, z_llT, z_llF, z_s1, z_nI_cl, z_nlt0, z_ne_m1, z_b0, z_b1, z_la, z_al, z_lm, z_ml, z_nm, nI_add, pk_mul, ↓reduceIte, not_true_eq_false, not_false_eq_true, true_or, or_true, false_or, or_false, true_and, and_true, and_false, false_and, Classical.not_not, Nat.add_zero, z_01, z_em, z_bit_p, Nat.not_le, Nat.not_lt, reduceCtorEq, if_true, if_false, decide_true, decide_false, Bool.and_true, Bool.and_false, Bool.true_and, Bool.false_and, Bool.or_true, Bool.or_false, Bool.true_or, Bool.false_or, Bool.false_eq_true, ne_eq, Bool.not_true, Bool.not_false, decide_not]
      · simp (disch := omega) only [e_X12_wrong__139_18, k_X12_wrong__139_18, e_X12_wrong__139_34, k_X12_wrong__139_34, e_X12_wrong__139_40, e_X12_wrong__139_41, h3, l_of, h4, hv', q_bd_l, z_ltT, z_ltF, z_eqT, z_eqF, z_ltlT, z_ltlF, z_lltT, z_lltF, z_eqlT, z_eqlF, z_in, z_k7, z_cl, z_lneg, z_llT, z_llF, z_s1, z_nI_cl, z_nlt0, z_ne_m1, z_b0, z_b1, z_la, z_al, z_lm, z_ml, z_nm, nI_add, pk_mul, ↓reduceIte, not_true_eq_false, not_false_eq_true, true_or, or_true, false_or, or_false, true_and, and_true, and_false, false_and, Classical.not_not, Nat.add_zero, z_01, z_em, z_bit_p, Nat.not_le, Nat.not_lt, reduceCtorEq, if_true, if_false, decide_true, decide_false, Bool.and_true, Bool.and_false, Bool.true_and, Bool.false_and, Bool.or_true, Bool.or_false, Bool.true_or, Bool.false_or, Bool.false_eq_true, ne_eq, Bool.not_true, Bool.not_false, decide_not]
  · rw [e_X12_wrong__139_7]
    simp (disch := omega) only [h3, q_bd_l, z_ltT, z_ltF, z_eqT, z_eqF, z_ltlT, z_ltlF, z_lltT, z_lltF, z_eqlT, z_eqlF, z_in, z_k7, z_cl, z_lneg, z_llT, z_llF, z_s1, z_nI_cl, z_nlt0, z_ne_m1, z_b0, z_b1, z_la, z_al, z_lm, z_ml, z_nm, nI_add, pk_mul, ↓reduceIte, not_true_eq_false, not_false_eq_true, true_or, or_true, false_or, or_false, true_and, and_true, and_false, false_and, Classical.not_not, Nat.add_zero, z_01, z_em, z_bit_p, Nat.not_le, Nat.not_lt, reduceCtorEq, if_true, if_false]
    rfl
def z_f1 (p : Nat → Bool) (n : Nat) : Int32 := if z_fst p n < n then nI (z_fst p n) else -1
theorem l_whose1 (X : Sx) (d : Nat) (I : Ii) (T : Tt) (n j : Nat) (h3 : I 140 3 = nI n) (hn : n ≤ 10) (hj : j < n) : c_X12_whose_139 X (d + 3) (nI j) I T = z_r (z_f1 (fun i => decide (I 140 (12 + 13 * i + 5) = nI j)) n) (q_w I 139 0 0) T := by
  rw [e_X12_whose_139, l_jar1 X _ I T n j h3 hn hj]
  have e : (q_w I 139 0 0) 140 = I 140 := z_w_a _ _ _ _ _ (by decide)
  simp (disch := omega) only [e_X12_whose_139_4, k_X12_whose_139_4, e_X12_whose_139_8, e_X12_whose_139_26, k_X12_whose_139_26, q_bd_l, z_ltT, z_ltF, z_eqT, z_eqF, z_ltlT, z_ltlF, z_lltT, z_lltF, z_eqlT, z_eqlF, z_in, z_k7, z_cl, z_lneg, z_llT, z_llF, z_s1, z_nI_cl, z_nlt0, z_ne_m1, z_b0, z_b1, z_la, z_al, z_lm, z_ml, z_nm, nI_add, pk_mul, ↓reduceIte, not_true_eq_false, not_false_eq_true, true_or, or_true, false_or, or_false, true_and, and_true, and_false, false_and, Classical.not_not, Nat.add_zero, z_01, z_em, z_bit_p, Nat.not_le, Nat.not_lt, reduceCtorEq, if_true, if_false]
  generalize q_w I 139 0 0 = J at *
  rw [← e] at h3 ⊢
  refine (z_find (fun k => c_X12_whose_139_16 X (d + 2) (nI j) (nI k) J T) (fun k => z_r (nI k) J T) (fun i => decide (J 140 (12 + 13 * i + 5) = nI j)) n (fun k hk => ?_)).trans ?_
  · rw [e_X12_whose_139_16]
    by_cases h4 : J 140 (12 + 13 * k + 5) = nI j <;> simp (disch := omega) only [e_X12_whose_139_4, k_X12_whose_139_4, e_X12_whose_139_8, e_X12_whose_139_26, k_X12_whose_139_26, h3, l_of, h4, q_bd_l, z_ltT, z_ltF, z_eqT, z_eqF, z_ltlT, z_ltlF, z_lltT, z_lltF, z_eqlT, z_eqlF, z_in, z_k7, z_cl, z_lneg, z_llT, z_llF, z_s1, z_nI_cl, z_nlt0, z_ne_m1, z_b0, z_b1, z_la, z_al, z_lm, z_ml, z_nm, nI_add, pk_mul, ↓reduceIte, not_true_eq_false, not_false_eq_true, true_or, or_true, false_or, or_false, true_and, and_true, and_false, false_and, Classical.not_not, Nat.add_zero, z_01, z_em, z_bit_p, Nat.not_le, Nat.not_lt, reduceCtorEq, if_true, if_false, decide_true, decide_false, Bool.and_true, Bool.and_false, Bool.true_and, Bool.false_and, Bool.or_true, Bool.or_false, Bool.true_or, Bool.false_or, Bool.false_eq_true, ne_eq, Bool.not_true, Bool.not_false, decide_not]
  · rw [e_X12_whose_139_16]
    unfold z_f1
    split <;> simp (disch := omega) only [h3, q_bd_l, z_ltT, z_ltF, z_eqT, z_eqF, z_ltlT, z_ltlF, z_lltT, z_lltF, z_eqlT, z_eqlF, z_in, z_k7, z_cl, z_lneg, z_llT, z_llF, z_s1, z_nI_cl, z_nlt0, z_ne_m1, z_b0, z_b1, z_la, z_al, z_lm, z_ml, z_nm, nI_add, pk_mul, ↓reduceIte, not_true_eq_false, not_false_eq_true, true_or, or_true, false_or, or_false, true_and, and_true, and_false, false_and, Classical.not_not, Nat.add_zero, z_01, z_em, z_bit_p, Nat.not_le, Nat.not_lt, reduceCtorEq, if_true, if_false]
theorem l_whose0 (X : Sx) (d : Nat) (I : Ii) (T : Tt) (n : Nat) (v : Int32) (h3 : I 140 3 = nI n) (hn : n ≤ 10) (hv : z_no v n) : c_X12_whose_139 X (d + 3) v I T = z_r 0 (q_w I 139 0 1) T := by
  rw [e_X12_whose_139, l_jar0 X _ v I T n h3 hn hv]
  simp (disch := omega) only [e_X12_whose_139, e_X12_whose_139_4, k_X12_whose_139_4, e_X12_whose_139_8, e_X12_whose_139_26, k_X12_whose_139_26, q_bd_l, z_ltT, z_ltF, z_eqT, z_eqF, z_ltlT, z_ltlF, z_lltT, z_lltF, z_eqlT, z_eqlF, z_in, z_k7, z_cl, z_lneg, z_llT, z_llF, z_s1, z_nI_cl, z_nlt0, z_ne_m1, z_b0, z_b1, z_la, z_al, z_lm, z_ml, z_nm, nI_add, pk_mul, ↓reduceIte, not_true_eq_false, not_false_eq_true, true_or, or_true, false_or, or_false, true_and, and_true, and_false, false_and, Classical.not_not, Nat.add_zero, z_01, z_em, z_bit_p, Nat.not_le, Nat.not_lt, reduceCtorEq, if_true, if_false]
-- the log
theorem l_logged (X : Sx) (d : Nat) (i w : Nat) (I : Ii) (T : Tt) (h : 184 + 5 * i + OfNat.ofNat w < 884) : c_X12_logged_139 X (d + 1) (nI i) (no_index (OfNat.ofNat w) : Int32) I T = z_r (I 140 (184 + 5 * i + OfNat.ofNat w)) I T := by
  rw [e_X12_logged_139]
  simp (disch := omega) only [q_bd_l, z_ltT, z_ltF, z_eqT, z_eqF, z_ltlT, z_ltlF, z_lltT, z_lltF, z_eqlT, z_eqlF, z_in, z_k7, z_cl, z_lneg, z_llT, z_llF, z_s1, z_nI_cl, z_nlt0, z_ne_m1, z_b0, z_b1, z_la, z_al, z_lm, z_ml, z_nm, nI_add, pk_mul, ↓reduceIte, not_true_eq_false, not_false_eq_true, true_or, or_true, false_or, or_false, true_and, and_true, and_false, false_and, Classical.not_not, Nat.add_zero, z_01, z_em, z_bit_p, Nat.not_le, Nat.not_lt, reduceCtorEq, if_true, if_false]
theorem l_loggedn (X : Sx) (d : Nat) (i w : Nat) (I : Ii) (T : Tt) (h : 184 + 5 * i + w < 884) : c_X12_logged_139 X (d + 1) (nI i) (nI w) I T = z_r (I 140 (184 + 5 * i + w)) I T := l_logged X d i w I T h
def R_oft (r : Nat → Int32) (L : Nat) (v : Int32) : Int32 := z_it (fun i a => a + (if r (184 + 5 * i + 1) = v ∨ r (184 + 5 * i + 2) = v then 1 else 0)) L 0
theorem l_often (X : Sx) (d : Nat) (v : Int32) (I : Ii) (T : Tt) (L : Nat) (hL : I 140 10 = nI L) (h60 : L ≤ 60) : c_X12_often_139 X (d + 2) v I T = z_r (R_oft (I 140) L v) I T := by
  rw [e_X12_often_139]
  refine (z_for (fun k a => c_X12_often_139_4 X (d + 1) v a (nI k) I T) (fun i a => a + (if I 140 (184 + 5 * i + 1) = v ∨ I 140 (184 + 5 * i + 2) = v then 1 else 0)) L (fun k a hk => ?_) 0).trans ?_
  · rw [e_X12_often_139_4]
    by_cases h4 : I 140 (184 + 5 * k + 1) = v
    · simp (disch := omega) only [e_X12_often_139_15, k_X12_often_139_15, e_X12_often_139_21, k_X12_often_139_21, e_X12_often_139_23, e_X12_often_139_26, hL, l_logged, h4, q_bd_l, z_ltT, z_ltF, z_eqT, z_eqF, z_ltlT, z_ltlF, z_lltT, z_lltF, z_eqlT, z_eqlF, z_in, z_k7, z_cl, z_lneg, z_llT, z_llF, z_s1, z_nI_cl, z_nlt0, z_ne_m1, z_b0, z_b1, z_la, z_al, z_lm, z_ml, z_nm, nI_add, pk_mul, ↓reduceIte, not_true_eq_false, not_false_eq_true, true_or, or_true, false_or, or_false, true_and, and_true, and_false, false_and, Classical.not_not, Nat.add_zero, z_01, z_em, z_bit_p, Nat.not_le, Nat.not_lt, reduceCtorEq, if_true, if_false]
    · by_cases h5 : I 140 (184 + 5 * k + 2) = v <;> simp (disch := omega) only [e_X12_often_139_15, k_X12_often_139_15, e_X12_often_139_21, k_X12_often_139_21, e_X12_often_139_23, e_X12_often_139_26, hL, l_logged, h4, h5, q_bd_l, z_ltT, z_ltF, z_eqT, z_eqF, z_ltlT, z_ltlF, z_lltT, z_lltF, z_eqlT, z_eqlF, z_in, z_k7, z_cl, z_lneg, z_llT, z_llF, z_s1, z_nI_cl, z_nlt0, z_ne_m1, z_b0, z_b1, z_la, z_al, z_lm, z_ml, z_nm, nI_add, pk_mul, ↓reduceIte, not_true_eq_false, not_false_eq_true, true_or, or_true, false_or, or_false, true_and, and_true, and_false, false_and, Classical.not_not, Nat.add_zero, z_01, z_em, z_bit_p, Nat.not_le, Nat.not_lt, reduceCtorEq, if_true, if_false]
  · rw [e_X12_often_139_4]
    simp (disch := omega) only [hL, q_bd_l, z_ltT, z_ltF, z_eqT, z_eqF, z_ltlT, z_ltlF, z_lltT, z_lltF, z_eqlT, z_eqlF, z_in, z_k7, z_cl, z_lneg, z_llT, z_llF, z_s1, z_nI_cl, z_nlt0, z_ne_m1, z_b0, z_b1, z_la, z_al, z_lm, z_ml, z_nm, nI_add, pk_mul, ↓reduceIte, not_true_eq_false, not_false_eq_true, true_or, or_true, false_or, or_false, true_and, and_true, and_false, false_and, Classical.not_not, Nat.add_zero, z_01, z_em, z_bit_p, Nat.not_le, Nat.not_lt, reduceCtorEq, if_true, if_false]
    rfl
def R_askm (r : Nat → Int32) (L n : Nat) : Int32 := (z_it (fun j (q : Int32 × Int32) => if q.2 < R_oft r L (nI j) then (nI j, R_oft r L (nI j)) else q) n (-1, 0)).1
theorem l_askedM (X : Sx) (d : Nat) (I : Ii) (T : Tt) (n L : Nat) (h3 : I 140 3 = nI n) (hn : n ≤ 10) (hL : I 140 10 = nI L) (h60 : L ≤ 60) : c_X12_asked_139 X (d + 4) (-1) I T = z_r (R_askm (I 140) L n) (q_w I 139 0 0) T := by
  rw [e_X12_asked_139]
  have e : (q_w I 139 0 0) 140 = I 140 := z_w_a _ _ _ _ _ (by decide)
  simp (disch := omega) only [e_X12_asked_139_7, k_X12_asked_139_7, e_X12_asked_139_10, e_X12_asked_139_11, e_X12_asked_139_23, k_X12_asked_139_23, e_X12_asked_139_39, k_X12_asked_139_39, e_X12_asked_139_45, k_X12_asked_139_45, e_X12_asked_139_48, q_bd_l, z_ltT, z_ltF, z_eqT, z_eqF, z_ltlT, z_ltlF, z_lltT, z_lltF, z_eqlT, z_eqlF, z_in, z_k7, z_cl, z_lneg, z_llT, z_llF, z_s1, z_nI_cl, z_nlt0, z_ne_m1, z_b0, z_b1, z_la, z_al, z_lm, z_ml, z_nm, nI_add, pk_mul, ↓reduceIte, not_true_eq_false, not_false_eq_true, true_or, or_true, false_or, or_false, true_and, and_true, and_false, false_and, Classical.not_not, Nat.add_zero, z_01, z_em, z_bit_p, Nat.not_le, Nat.not_lt, reduceCtorEq, if_true, if_false]
  generalize q_w I 139 0 0 = J at *
  rw [← e] at h3 hL ⊢
  refine (z_for (fun k (q : Int32 × Int32) => c_X12_asked_139_30 X (d + 3) (-1) q.1 q.2 (nI k) J T) (fun j (q : Int32 × Int32) => if q.2 < R_oft (J 140) L (nI j) then (nI j, R_oft (J 140) L (nI j)) else q) n (fun k q hk => ?_) (-1, 0)).trans ?_
  · rw [e_X12_asked_139_30]
    by_cases h4 : q.2 < R_oft (J 140) L (nI k) <;> simp (disch := omega) only [e_X12_asked_139_7, k_X12_asked_139_7, e_X12_asked_139_10, e_X12_asked_139_11, e_X12_asked_139_23, k_X12_asked_139_23, e_X12_asked_139_39, k_X12_asked_139_39, e_X12_asked_139_45, k_X12_asked_139_45, e_X12_asked_139_48, h3, l_often X _ _ J T L hL h60, h4, q_bd_l, z_ltT, z_ltF, z_eqT, z_eqF, z_ltlT, z_ltlF, z_lltT, z_lltF, z_eqlT, z_eqlF, z_in, z_k7, z_cl, z_lneg, z_llT, z_llF, z_s1, z_nI_cl, z_nlt0, z_ne_m1, z_b0, z_b1, z_la, z_al, z_lm, z_ml, z_nm, nI_add, pk_mul, ↓reduceIte, not_true_eq_false, not_false_eq_true, true_or, or_true, false_or, or_false, true_and, and_true, and_false, false_and, Classical.not_not, Nat.add_zero, z_01, z_em, z_bit_p, Nat.not_le, Nat.not_lt, reduceCtorEq, if_true, if_false]
  · rw [e_X12_asked_139_30]
    simp (disch := omega) only [h3, q_bd_l, z_ltT, z_ltF, z_eqT, z_eqF, z_ltlT, z_ltlF, z_lltT, z_lltF, z_eqlT, z_eqlF, z_in, z_k7, z_cl, z_lneg, z_llT, z_llF, z_s1, z_nI_cl, z_nlt0, z_ne_m1, z_b0, z_b1, z_la, z_al, z_lm, z_ml, z_nm, nI_add, pk_mul, ↓reduceIte, not_true_eq_false, not_false_eq_true, true_or, or_true, false_or, or_false, true_and, and_true, and_false, false_and, Classical.not_not, Nat.add_zero, z_01, z_em, z_bit_p, Nat.not_le, Nat.not_lt, reduceCtorEq, if_true, if_false]
    rfl
theorem l_asked1 (X : Sx) (d : Nat) (I : Ii) (T : Tt) (n j L : Nat) (h3 : I 140 3 = nI n) (hn : n ≤ 10) (hj : j < n) (hL : I 140 10 = nI L) (h60 : L ≤ 60) : c_X12_asked_139 X (d + 4) (nI j) I T = z_r (R_oft (I 140) L (nI j)) (q_w I 139 0 0) T := by
  have e : (q_w I 139 0 0) 140 = I 140 := z_w_a _ _ _ _ _ (by decide)
  have h1 := l_often X (d + 1) (nI j) (q_w I 139 0 0) T L (by rw [e]; exact hL) h60
  rw [e] at h1
  rw [e_X12_asked_139, l_jar1 X _ I T n j h3 hn hj]
  simp (disch := omega) only [e_X12_asked_139_7, k_X12_asked_139_7, e_X12_asked_139_10, e_X12_asked_139_11, e_X12_asked_139_23, k_X12_asked_139_23, e_X12_asked_139_39, k_X12_asked_139_39, e_X12_asked_139_45, k_X12_asked_139_45, e_X12_asked_139_48, h1, q_bd_l, z_ltT, z_ltF, z_eqT, z_eqF, z_ltlT, z_ltlF, z_lltT, z_lltF, z_eqlT, z_eqlF, z_in, z_k7, z_cl, z_lneg, z_llT, z_llF, z_s1, z_nI_cl, z_nlt0, z_ne_m1, z_b0, z_b1, z_la, z_al, z_lm, z_ml, z_nm, nI_add, pk_mul, ↓reduceIte, not_true_eq_false, not_false_eq_true, true_or, or_true, false_or, or_false, true_and, and_true, and_false, false_and, Classical.not_not, Nat.add_zero, z_01, z_em, z_bit_p, Nat.not_le, Nat.not_lt, reduceCtorEq, if_true, if_false]
theorem l_asked0 (X : Sx) (d : Nat) (I : Ii) (T : Tt) (n : Nat) (v : Int32) (h3 : I 140 3 = nI n) (hn : n ≤ 10) (hv : z_no v n) (hm : v ≠ -1) : c_X12_asked_139 X (d + 4) v I T = z_r 0 (q_w I 139 0 1) T := by
  rw [e_X12_asked_139, l_jar0 X _ v I T n h3 hn hv]
  simp (disch := omega) only [e_X12_asked_139_7, k_X12_asked_139_7, e_X12_asked_139_10, e_X12_asked_139_11, e_X12_asked_139_23, k_X12_asked_139_23, e_X12_asked_139_39, k_X12_asked_139_39, e_X12_asked_139_45, k_X12_asked_139_45, e_X12_asked_139_48, hm, q_bd_l, z_ltT, z_ltF, z_eqT, z_eqF, z_ltlT, z_ltlF, z_lltT, z_lltF, z_eqlT, z_eqlF, z_in, z_k7, z_cl, z_lneg, z_llT, z_llF, z_s1, z_nI_cl, z_nlt0, z_ne_m1, z_b0, z_b1, z_la, z_al, z_lm, z_ml, z_nm, nI_add, pk_mul, ↓reduceIte, not_true_eq_false, not_false_eq_true, true_or, or_true, false_or, or_false, true_and, and_true, and_false, false_and, Classical.not_not, Nat.add_zero, z_01, z_em, z_bit_p, Nat.not_le, Nat.not_lt, reduceCtorEq, if_true, if_false]
def R_led (r : Nat → Int32) (L : Nat) (v : Int32) : Int32 := if z_fst (fun i => decide (r (184 + 5 * i + 3) = v)) L < L then r (184 + 5 * z_fst (fun i => decide (r (184 + 5 * i + 3) = v)) L + 1) else -1
theorem l_led1 (X : Sx) (d : Nat) (I : Ii) (T : Tt) (t L : Nat) (ht : t < 6) (hL : I 140 10 = nI L) (h60 : L ≤ 60) : c_X12_led_139 X (d + 3) (nI t) I T = z_r (R_led (I 140) L (nI t)) (q_w I 139 0 0) T := by
  rw [e_X12_led_139, l_mat1 X _ I T t ht]
  have e : (q_w I 139 0 0) 140 = I 140 := z_w_a _ _ _ _ _ (by decide)
  simp (disch := omega) only [e_X12_led_139_3, k_X12_led_139_3, e_X12_led_139_7, e_X12_led_139_25, k_X12_led_139_25, e_X12_led_139_31, k_X12_led_139_31, q_bd_l, z_ltT, z_ltF, z_eqT, z_eqF, z_ltlT, z_ltlF, z_lltT, z_lltF, z_eqlT, z_eqlF, z_in, z_k7, z_cl, z_lneg, z_llT, z_llF, z_s1, z_nI_cl, z_nlt0, z_ne_m1, z_b0, z_b1, z_la, z_al, z_lm, z_ml, z_nm, nI_add, pk_mul, ↓reduceIte, not_true_eq_false, not_false_eq_true, true_or, or_true, false_or, or_false, true_and, and_true, and_false, false_and, Classical.not_not, Nat.add_zero, z_01, z_em, z_bit_p, Nat.not_le, Nat.not_lt, reduceCtorEq, if_true, if_false]
  generalize q_w I 139 0 0 = J at *
  rw [← e] at hL ⊢
  refine (z_find (fun k => c_X12_led_139_15 X (d + 2) (nI t) (nI k) J T) (fun k => z_r (J 140 (184 + 5 * k + 1)) J T) (fun i => decide (J 140 (184 + 5 * i + 3) = nI t)) L (fun k hk => ?_)).trans ?_
  · rw [e_X12_led_139_15]
    by_cases h4 : J 140 (184 + 5 * k + 3) = nI t <;> simp (disch := omega) only [e_X12_led_139_3, k_X12_led_139_3, e_X12_led_139_7, e_X12_led_139_25, k_X12_led_139_25, e_X12_led_139_31, k_X12_led_139_31, hL, l_logged, h4, q_bd_l, z_ltT, z_ltF, z_eqT, z_eqF, z_ltlT, z_ltlF, z_lltT, z_lltF, z_eqlT, z_eqlF, z_in, z_k7, z_cl, z_lneg, z_llT, z_llF, z_s1, z_nI_cl, z_nlt0, z_ne_m1, z_b0, z_b1, z_la, z_al, z_lm, z_ml, z_nm, nI_add, pk_mul, ↓reduceIte, not_true_eq_false, not_false_eq_true, true_or, or_true, false_or, or_false, true_and, and_true, and_false, false_and, Classical.not_not, Nat.add_zero, z_01, z_em, z_bit_p, Nat.not_le, Nat.not_lt, reduceCtorEq, if_true, if_false, decide_true, decide_false, Bool.and_true, Bool.and_false, Bool.true_and, Bool.false_and, Bool.or_true, Bool.or_false, Bool.true_or, Bool.false_or, Bool.false_eq_true, ne_eq, Bool.not_true, Bool.not_false, decide_not]
  · rw [e_X12_led_139_15]
    unfold R_led
    split <;> simp (disch := omega) only [hL, q_bd_l, z_ltT, z_ltF, z_eqT, z_eqF, z_ltlT, z_ltlF, z_lltT, z_lltF, z_eqlT, z_eqlF, z_in, z_k7, z_cl, z_lneg, z_llT, z_llF, z_s1, z_nI_cl, z_nlt0, z_ne_m1, z_b0, z_b1, z_la, z_al, z_lm, z_ml, z_nm, nI_add, pk_mul, ↓reduceIte, not_true_eq_false, not_false_eq_true, true_or, or_true, false_or, or_false, true_and, and_true, and_false, false_and, Classical.not_not, Nat.add_zero, z_01, z_em, z_bit_p, Nat.not_le, Nat.not_lt, reduceCtorEq, if_true, if_false]
theorem l_led0 (X : Sx) (d : Nat) (I : Ii) (T : Tt) (v : Int32) (hv : z_no v 6) : c_X12_led_139 X (d + 3) v I T = z_r 0 (q_w I 139 0 1) T := by
  rw [e_X12_led_139, l_mat0 X _ v I T hv]
  simp (disch := omega) only [e_X12_led_139, e_X12_led_139_3, k_X12_led_139_3, e_X12_led_139_7, e_X12_led_139_25, k_X12_led_139_25, e_X12_led_139_31, k_X12_led_139_31, q_bd_l, z_ltT, z_ltF, z_eqT, z_eqF, z_ltlT, z_ltlF, z_lltT, z_lltF, z_eqlT, z_eqlF, z_in, z_k7, z_cl, z_lneg, z_llT, z_llF, z_s1, z_nI_cl, z_nlt0, z_ne_m1, z_b0, z_b1, z_la, z_al, z_lm, z_ml, z_nm, nI_add, pk_mul, ↓reduceIte, not_true_eq_false, not_false_eq_true, true_or, or_true, false_or, or_false, true_and, and_true, and_false, false_and, Classical.not_not, Nat.add_zero, z_01, z_em, z_bit_p, Nat.not_le, Nat.not_lt, reduceCtorEq, if_true, if_false]
theorem l_log1 (X : Sx) (d : Nat) (I : Ii) (T : Tt) (i w L : Nat) (hw : w ≤ 4) (hi : i < L) (hL : I 140 10 = nI L) (h60 : L ≤ 60) : c_X12_log_139 X (d + 2) (nI i) (nI w) I T = z_r (I 140 (184 + 5 * i + w)) (q_w I 139 0 0) T := by
  have e : (q_w I 139 0 0) 140 = I 140 := z_w_a _ _ _ _ _ (by decide)
  rw [e_X12_log_139, l_in1 X _ I T w 4 (by omega) hw]
  simp (disch := omega) only [e_X12_log_139, e_X12_log_139_5, k_X12_log_139_5, e_X12_log_139_9, e_X12_log_139_24, k_X12_log_139_24, e_X12_log_139_29, k_X12_log_139_29, l_inR1 X _ (q_w I 139 0 0) T (I 140 10) i L hL (by omega) hi, l_loggedn, e, q_bd_l, z_ltT, z_ltF, z_eqT, z_eqF, z_ltlT, z_ltlF, z_lltT, z_lltF, z_eqlT, z_eqlF, z_in, z_k7, z_cl, z_lneg, z_llT, z_llF, z_s1, z_nI_cl, z_nlt0, z_ne_m1, z_b0, z_b1, z_la, z_al, z_lm, z_ml, z_nm, nI_add, pk_mul, ↓reduceIte, not_true_eq_false, not_false_eq_true, true_or, or_true, false_or, or_false, true_and, and_true, and_false, false_and, Classical.not_not, Nat.add_zero, z_01, z_em, z_bit_p, Nat.not_le, Nat.not_lt, reduceCtorEq, if_true, if_false]
theorem l_log9 (X : Sx) (d : Nat) (I : Ii) (T : Tt) (v : Int32) (w L : Nat) (hw : w ≤ 4) (hv : z_no v L) (hL : I 140 10 = nI L) (h60 : L ≤ 60) : c_X12_log_139 X (d + 2) v (nI w) I T = z_r (-99) (q_w I 139 0 0) T := by
  rw [e_X12_log_139, l_in1 X _ I T w 4 (by omega) hw]
  simp (disch := omega) only [e_X12_log_139, e_X12_log_139_5, k_X12_log_139_5, e_X12_log_139_9, e_X12_log_139_24, k_X12_log_139_24, e_X12_log_139_29, k_X12_log_139_29, l_inR0 X _ v (q_w I 139 0 0) T (I 140 10) L hL (by omega) hv, q_bd_l, z_ltT, z_ltF, z_eqT, z_eqF, z_ltlT, z_ltlF, z_lltT, z_lltF, z_eqlT, z_eqlF, z_in, z_k7, z_cl, z_lneg, z_llT, z_llF, z_s1, z_nI_cl, z_nlt0, z_ne_m1, z_b0, z_b1, z_la, z_al, z_lm, z_ml, z_nm, nI_add, pk_mul, ↓reduceIte, not_true_eq_false, not_false_eq_true, true_or, or_true, false_or, or_false, true_and, and_true, and_false, false_and, Classical.not_not, Nat.add_zero, z_01, z_em, z_bit_p, Nat.not_le, Nat.not_lt, reduceCtorEq, if_true, if_false]
theorem l_log0 (X : Sx) (d : Nat) (I : Ii) (T : Tt) (v u : Int32) (hu : z_no u 5) : c_X12_log_139 X (d + 2) v u I T = z_r 0 (q_w I 139 0 1) T := by
  rw [e_X12_log_139, l_in0 X _ u I T 4 (by omega) hu]
  simp (disch := omega) only [e_X12_log_139, e_X12_log_139_5, k_X12_log_139_5, e_X12_log_139_9, e_X12_log_139_24, k_X12_log_139_24, e_X12_log_139_29, k_X12_log_139_29, q_bd_l, z_ltT, z_ltF, z_eqT, z_eqF, z_ltlT, z_ltlF, z_lltT, z_lltF, z_eqlT, z_eqlF, z_in, z_k7, z_cl, z_lneg, z_llT, z_llF, z_s1, z_nI_cl, z_nlt0, z_ne_m1, z_b0, z_b1, z_la, z_al, z_lm, z_ml, z_nm, nI_add, pk_mul, ↓reduceIte, not_true_eq_false, not_false_eq_true, true_or, or_true, false_or, or_false, true_and, and_true, and_false, false_and, Classical.not_not, Nat.add_zero, z_01, z_em, z_bit_p, Nat.not_le, Nat.not_lt, reduceCtorEq, if_true, if_false]
