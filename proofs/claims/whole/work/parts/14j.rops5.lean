/-! ===== THE REFERENCE: ahead, spoils, ripe, goes, trial, span, count ===== -/
theorem l_ahead1 (X : Sx) (d : Nat) (I : Ii) (T : Tt) (n j m w : Nat) (h : R_g n (I 140)) (hj : j < n) (hm : m ≤ 40) (hw : w ≤ 7) : ∃ K, c_X12_ahead__139 X (d + 37) (nI j) (nI m) (nI w) I T = z_r (if w = 0 then R_ahs n m (I 140) (12 + 13 * j + 3) else if w = 1 then R_ahs n m (I 140) (12 + 13 * j + 2) else R_adv (R_ahs n m (I 140)) j (w - 2)) K T ∧ K 139 0 = 0 ∧ z_fr m_q I K := by
  have h10 := h.2.1
  obtain ⟨J, j1, j2⟩ := l_as0 X (d + 35) I T n h
  obtain ⟨K, k1, k4⟩ := z_foldP (β := Nat → Int32) (σ := Ii) (fun i r K => c_X12_ahead__139_32 X (d + 36) (nI j) (nI m) (nI w) (nI i) K T) (fun _ r => R_ah n r) (fun i r K => z_as I n r K) m (by
    intro i r K hi hK
    obtain ⟨L, l1, l2⟩ := l_asAh X d I K T hK
    refine ⟨L, l2, ?_⟩
    rw [e_X12_ahead__139_32]
    simp (disch := omega) only [e_X12_ahead__139_4, k_X12_ahead__139_4, e_X12_ahead__139_11, k_X12_ahead__139_11, e_X12_ahead__139_18, k_X12_ahead__139_18, e_X12_ahead__139_22, e_X12_ahead__139_30, k_X12_ahead__139_30, e_X12_ahead__139_37, k_X12_ahead__139_37, e_X12_ahead__139_45, k_X12_ahead__139_45, e_X12_ahead__139_53, k_X12_ahead__139_53, e_X12_ahead__139_60, k_X12_ahead__139_60, e_X12_ahead__139_63, k_X12_ahead__139_63, l1, q_bd_l, z_ltT, z_ltF, z_eqT, z_eqF, z_ltlT, z_ltlF, z_lltT, z_lltF, z_eqlT, z_eqlF, z_in, z_k7, z_cl, z_lneg, z_llT, z_llF, z_s1, z_nI_cl, z_nlt0, z_ne_m1, z_b0, z_b1, z_la, z_al, z_lm, z_ml, z_nm, nI_add, pk_mul, ↓reduceIte, not_true_eq_false, not_false_eq_true, true_or, or_true, false_or, or_false, true_and, and_true, and_false, false_and, Classical.not_not, Nat.add_zero, z_01, z_em, z_bit_p, Nat.not_le, Nat.not_lt, reduceCtorEq, if_true, if_false]) (I 140) J j2
  have er : z_it (fun _ r => R_ah n r) m (I 140) = R_ahs n m (I 140) := rfl
  rw [er] at k1
  have st : c_X12_ahead__139 X (d + 37) (nI j) (nI m) (nI w) I T = c_X12_ahead__139_32 X (d + 36) (nI j) (nI m) (nI w) (nI m) K T := by
    refine Eq.trans ?_ k4
    rw [e_X12_ahead__139, l_jar1 X _ I T n j h.1 h10 hj]
    simp (disch := omega) only [e_X12_ahead__139_4, k_X12_ahead__139_4, e_X12_ahead__139_11, k_X12_ahead__139_11, e_X12_ahead__139_18, k_X12_ahead__139_18, e_X12_ahead__139_22, e_X12_ahead__139_30, k_X12_ahead__139_30, e_X12_ahead__139_37, k_X12_ahead__139_37, e_X12_ahead__139_45, k_X12_ahead__139_45, e_X12_ahead__139_53, k_X12_ahead__139_53, e_X12_ahead__139_60, k_X12_ahead__139_60, e_X12_ahead__139_63, k_X12_ahead__139_63, l_in1 X _ I T m 40 (by omega) hm, l_in1 X _ I T w 7 (by omega) hw, j1, q_bd_l, z_ltT, z_ltF, z_eqT, z_eqF, z_ltlT, z_ltlF, z_lltT, z_lltF, z_eqlT, z_eqlF, z_in, z_k7, z_cl, z_lneg, z_llT, z_llF, z_s1, z_nI_cl, z_nlt0, z_ne_m1, z_b0, z_b1, z_la, z_al, z_lm, z_ml, z_nm, nI_add, pk_mul, ↓reduceIte, not_true_eq_false, not_false_eq_true, true_or, or_true, false_or, or_false, true_and, and_true, and_false, false_and, Classical.not_not, Nat.add_zero, z_01, z_em, z_bit_p, Nat.not_le, Nat.not_lt, reduceCtorEq, if_true, if_false]
    rfl
  rw [st, e_X12_ahead__139_32]
  generalize R_ahs n m (I 140) = r at *
  have e140 := k1.2.2.2.1
  by_cases h0 : w = 0
  · obtain ⟨M, b1, b2, b3⟩ := l_asB X (d + 35) I K T k1
    refine ⟨M, ?_, b3, b2⟩
    simp (disch := omega) only [e_X12_ahead__139_4, k_X12_ahead__139_4, e_X12_ahead__139_11, k_X12_ahead__139_11, e_X12_ahead__139_18, k_X12_ahead__139_18, e_X12_ahead__139_22, e_X12_ahead__139_30, k_X12_ahead__139_30, e_X12_ahead__139_37, k_X12_ahead__139_37, e_X12_ahead__139_45, k_X12_ahead__139_45, e_X12_ahead__139_53, k_X12_ahead__139_53, e_X12_ahead__139_60, k_X12_ahead__139_60, e_X12_ahead__139_63, k_X12_ahead__139_63, h0, l_of, e140, b1, q_bd_l, z_ltT, z_ltF, z_eqT, z_eqF, z_ltlT, z_ltlF, z_lltT, z_lltF, z_eqlT, z_eqlF, z_in, z_k7, z_cl, z_lneg, z_llT, z_llF, z_s1, z_nI_cl, z_nlt0, z_ne_m1, z_b0, z_b1, z_la, z_al, z_lm, z_ml, z_nm, nI_add, pk_mul, ↓reduceIte, not_true_eq_false, not_false_eq_true, true_or, or_true, false_or, or_false, true_and, and_true, and_false, false_and, Classical.not_not, Nat.add_zero, z_01, z_em, z_bit_p, Nat.not_le, Nat.not_lt, reduceCtorEq, if_true, if_false]
  · by_cases h1 : w = 1
    · obtain ⟨M, b1, b2, b3⟩ := l_asB X (d + 35) I K T k1
      refine ⟨M, ?_, b3, b2⟩
      simp (disch := omega) only [e_X12_ahead__139_4, k_X12_ahead__139_4, e_X12_ahead__139_11, k_X12_ahead__139_11, e_X12_ahead__139_18, k_X12_ahead__139_18, e_X12_ahead__139_22, e_X12_ahead__139_30, k_X12_ahead__139_30, e_X12_ahead__139_37, k_X12_ahead__139_37, e_X12_ahead__139_45, k_X12_ahead__139_45, e_X12_ahead__139_53, k_X12_ahead__139_53, e_X12_ahead__139_60, k_X12_ahead__139_60, e_X12_ahead__139_63, k_X12_ahead__139_63, h0, h1, l_of, e140, b1, q_bd_l, z_ltT, z_ltF, z_eqT, z_eqF, z_ltlT, z_ltlF, z_lltT, z_lltF, z_eqlT, z_eqlF, z_in, z_k7, z_cl, z_lneg, z_llT, z_llF, z_s1, z_nI_cl, z_nlt0, z_ne_m1, z_b0, z_b1, z_la, z_al, z_lm, z_ml, z_nm, nI_add, pk_mul, ↓reduceIte, not_true_eq_false, not_false_eq_true, true_or, or_true, false_or, or_false, true_and, and_true, and_false, false_and, Classical.not_not, Nat.add_zero, z_01, z_em, z_bit_p, Nat.not_le, Nat.not_lt, reduceCtorEq, if_true, if_false]
    · obtain ⟨L, l1, l2⟩ := l_asAdv X (d + 2) I K T k1 j (w - 2) hj (by omega)
      obtain ⟨M, b1, b2, b3⟩ := l_asB X (d + 35) I L T l2
      refine ⟨M, ?_, b3, b2⟩
      simp (disch := omega) only [e_X12_ahead__139_4, k_X12_ahead__139_4, e_X12_ahead__139_11, k_X12_ahead__139_11, e_X12_ahead__139_18, k_X12_ahead__139_18, e_X12_ahead__139_22, e_X12_ahead__139_30, k_X12_ahead__139_30, e_X12_ahead__139_37, k_X12_ahead__139_37, e_X12_ahead__139_45, k_X12_ahead__139_45, e_X12_ahead__139_53, k_X12_ahead__139_53, e_X12_ahead__139_60, k_X12_ahead__139_60, e_X12_ahead__139_63, k_X12_ahead__139_63, h0, h1, l1, b1, q_bd_l, z_ltT, z_ltF, z_eqT, z_eqF, z_ltlT, z_ltlF, z_lltT, z_lltF, z_eqlT, z_eqlF, z_in, z_k7, z_cl, z_lneg, z_llT, z_llF, z_s1, z_nI_cl, z_nlt0, z_ne_m1, z_b0, z_b1, z_la, z_al, z_lm, z_ml, z_nm, nI_add, pk_mul, ↓reduceIte, not_true_eq_false, not_false_eq_true, true_or, or_true, false_or, or_false, true_and, and_true, and_false, false_and, Classical.not_not, Nat.add_zero, z_01, z_em, z_bit_p, Nat.not_le, Nat.not_lt, reduceCtorEq, if_true, if_false]
theorem l_ahead0 (X : Sx) (d : Nat) (I : Ii) (T : Tt) (n : Nat) (v u w c : Int32) (h3 : I 140 3 = nI n) (hn : n ≤ 10) (hc : c = 1 ∧ z_no v n ∨ c = 2 ∧ (∃ k, k < n ∧ v = nI k) ∧ z_no u 41 ∨ c = 3 ∧ (∃ k, k < n ∧ v = nI k) ∧ (∃ k, k < 41 ∧ u = nI k) ∧ z_no w 8) : c_X12_ahead__139 X (d + 37) v u w I T = z_r 0 (q_w I 139 0 c) T := by
  rw [e_X12_ahead__139]
  rcases hc with ⟨rfl, hv⟩ | ⟨rfl, ⟨k, hk, rfl⟩, hu⟩ | ⟨rfl, ⟨k, hk, rfl⟩, ⟨m, hm, rfl⟩, hw⟩
  · rw [l_jar0 X _ v I T n h3 hn hv]
    simp (disch := omega) only [e_X12_ahead__139, e_X12_ahead__139_4, k_X12_ahead__139_4, e_X12_ahead__139_11, k_X12_ahead__139_11, e_X12_ahead__139_18, k_X12_ahead__139_18, e_X12_ahead__139_22, e_X12_ahead__139_30, k_X12_ahead__139_30, e_X12_ahead__139_37, k_X12_ahead__139_37, e_X12_ahead__139_45, k_X12_ahead__139_45, e_X12_ahead__139_53, k_X12_ahead__139_53, e_X12_ahead__139_60, k_X12_ahead__139_60, e_X12_ahead__139_63, k_X12_ahead__139_63, q_bd_l, z_ltT, z_ltF, z_eqT, z_eqF, z_ltlT, z_ltlF, z_lltT, z_lltF, z_eqlT, z_eqlF, z_in, z_k7, z_cl, z_lneg, z_llT, z_llF, z_s1, z_nI_cl, z_nlt0, z_ne_m1, z_b0, z_b1, z_la, z_al, z_lm, z_ml, z_nm, nI_add, pk_mul, ↓reduceIte, not_true_eq_false, not_false_eq_true, true_or, or_true, false_or, or_false, true_and, and_true, and_false, false_and, Classical.not_not, Nat.add_zero, z_01, z_em, z_bit_p, Nat.not_le, Nat.not_lt, reduceCtorEq, if_true, if_false]
  · rw [l_jar1 X _ I T n k h3 hn hk]
    simp (disch := omega) only [e_X12_ahead__139, e_X12_ahead__139_4, k_X12_ahead__139_4, e_X12_ahead__139_11, k_X12_ahead__139_11, e_X12_ahead__139_18, k_X12_ahead__139_18, e_X12_ahead__139_22, e_X12_ahead__139_30, k_X12_ahead__139_30, e_X12_ahead__139_37, k_X12_ahead__139_37, e_X12_ahead__139_45, k_X12_ahead__139_45, e_X12_ahead__139_53, k_X12_ahead__139_53, e_X12_ahead__139_60, k_X12_ahead__139_60, e_X12_ahead__139_63, k_X12_ahead__139_63, l_in0 X _ u I T 40 (by omega) hu, q_bd_l, z_ltT, z_ltF, z_eqT, z_eqF, z_ltlT, z_ltlF, z_lltT, z_lltF, z_eqlT, z_eqlF, z_in, z_k7, z_cl, z_lneg, z_llT, z_llF, z_s1, z_nI_cl, z_nlt0, z_ne_m1, z_b0, z_b1, z_la, z_al, z_lm, z_ml, z_nm, nI_add, pk_mul, ↓reduceIte, not_true_eq_false, not_false_eq_true, true_or, or_true, false_or, or_false, true_and, and_true, and_false, false_and, Classical.not_not, Nat.add_zero, z_01, z_em, z_bit_p, Nat.not_le, Nat.not_lt, reduceCtorEq, if_true, if_false]
  · rw [l_jar1 X _ I T n k h3 hn hk]
    simp (disch := omega) only [e_X12_ahead__139, e_X12_ahead__139_4, k_X12_ahead__139_4, e_X12_ahead__139_11, k_X12_ahead__139_11, e_X12_ahead__139_18, k_X12_ahead__139_18, e_X12_ahead__139_22, e_X12_ahead__139_30, k_X12_ahead__139_30, e_X12_ahead__139_37, k_X12_ahead__139_37, e_X12_ahead__139_45, k_X12_ahead__139_45, e_X12_ahead__139_53, k_X12_ahead__139_53, e_X12_ahead__139_60, k_X12_ahead__139_60, e_X12_ahead__139_63, k_X12_ahead__139_63, l_in1 X _ I T m 40 (by omega) (by omega), l_in0 X _ w I T 7 (by omega) hw, q_bd_l, z_ltT, z_ltF, z_eqT, z_eqF, z_ltlT, z_ltlF, z_lltT, z_lltF, z_eqlT, z_eqlF, z_in, z_k7, z_cl, z_lneg, z_llT, z_llF, z_s1, z_nI_cl, z_nlt0, z_ne_m1, z_b0, z_b1, z_la, z_al, z_lm, z_ml, z_nm, nI_add, pk_mul, ↓reduceIte, not_true_eq_false, not_false_eq_true, true_or, or_true, false_or, or_false, true_and, and_true, and_false, false_and, Classical.not_not, Nat.add_zero, z_01, z_em, z_bit_p, Nat.not_le, Nat.not_lt, reduceCtorEq, if_true, if_false]
theorem z_it_s {α : Type} (s : α → α) (n : Nat) (a : α) : z_it (fun _ x => s x) (n + 1) a = s (z_it (fun _ x => s x) n a) := rfl
-- spoils
theorem l_spoils1 (X : Sx) (d : Nat) (I : Ii) (T : Tt) (n j t : Nat) (w : Int32) (m : Nat) (hw : w = nI m) (hm : m ≤ 10) (h : R_g n (I 140)) (hj : j < n) (ht : t < 6) : ∃ K, c_X12_spoils_139 X (d + 37) (nI j) (nI t) w I T = z_r (z_f1 (fun i => decide (R_adv (R_ahs n i (I 140)) j t < w)) 41) K T ∧ K 139 0 = 0 ∧ z_fr m_q I K := by
  have h10 := h.2.1
  obtain ⟨J, j1, j2⟩ := l_as0 X (d + 35) I T n h
  -- from step i on, nothing found yet
  have go : ∀ q i J, i + q = 41 → z_as I n (R_ahs n i (I 140)) J → (∀ k, k < i → decide (R_adv (R_ahs n k (I 140)) j t < w) = false) → ∃ K, c_X12_spoils_139_30 X (d + 36) (nI j) (nI t) w (-1) (nI i) J T = z_r (z_f1 (fun i => decide (R_adv (R_ahs n i (I 140)) j t < w)) 41) K T ∧ K 139 0 = 0 ∧ z_fr m_q I K := by
    intro q
    induction q with
    | zero =>
      intro i J hi hJ hno
      have hi : i = 41 := by omega
      subst hi
      obtain ⟨M, b1, b2, b3⟩ := l_asB X (d + 35) I J T hJ
      refine ⟨M, ?_, b3, b2⟩
      unfold z_f1
      rw [e_X12_spoils_139_30, z_fst_no hno]
      simp (disch := omega) only [e_X12_spoils_139_4, k_X12_spoils_139_4, e_X12_spoils_139_7, k_X12_spoils_139_7, e_X12_spoils_139_8, e_X12_spoils_139_14, k_X12_spoils_139_14, e_X12_spoils_139_18, e_X12_spoils_139_26, k_X12_spoils_139_26, e_X12_spoils_139_40, k_X12_spoils_139_40, e_X12_spoils_139_44, e_X12_spoils_139_46, k_X12_spoils_139_46, e_X12_spoils_139_48, e_X12_spoils_139_50, k_X12_spoils_139_50, b1, q_bd_l, z_ltT, z_ltF, z_eqT, z_eqF, z_ltlT, z_ltlF, z_lltT, z_lltF, z_eqlT, z_eqlF, z_in, z_k7, z_cl, z_lneg, z_llT, z_llF, z_s1, z_nI_cl, z_nlt0, z_ne_m1, z_b0, z_b1, z_la, z_al, z_lm, z_ml, z_nm, nI_add, pk_mul, ↓reduceIte, not_true_eq_false, not_false_eq_true, true_or, or_true, false_or, or_false, true_and, and_true, and_false, false_and, Classical.not_not, Nat.add_zero, z_01, z_em, z_bit_p, Nat.not_le, Nat.not_lt, reduceCtorEq, if_true, if_false]
      rfl
    | succ q ih =>
      intro i J hi hJ hno
      obtain ⟨K, k1, k2⟩ := l_asAdv X (d + 2) I J T hJ j t hj ht
      obtain ⟨L, l1, l2⟩ := l_asAh X d I K T k2
      by_cases hc : R_adv (R_ahs n i (I 140)) j t < w
      · obtain ⟨M, b1, b2, b3⟩ := l_asB X (d + 35) I L T l2
        refine ⟨M, ?_, b3, b2⟩
        unfold z_f1
        rw [e_X12_spoils_139_30, z_fst_hit hno (decide_eq_true hc) (by omega), if_pos (show i < 41 by omega)]
        simp (disch := omega) only [e_X12_spoils_139_4, k_X12_spoils_139_4, e_X12_spoils_139_7, k_X12_spoils_139_7, e_X12_spoils_139_8, e_X12_spoils_139_14, k_X12_spoils_139_14, e_X12_spoils_139_18, e_X12_spoils_139_26, k_X12_spoils_139_26, e_X12_spoils_139_40, k_X12_spoils_139_40, e_X12_spoils_139_44, e_X12_spoils_139_46, k_X12_spoils_139_46, e_X12_spoils_139_48, e_X12_spoils_139_50, k_X12_spoils_139_50, k1, hc, l1, q_bd_l, z_ltT, z_ltF, z_eqT, z_eqF, z_ltlT, z_ltlF, z_lltT, z_lltF, z_eqlT, z_eqlF, z_in, z_k7, z_cl, z_lneg, z_llT, z_llF, z_s1, z_nI_cl, z_nlt0, z_ne_m1, z_b0, z_b1, z_la, z_al, z_lm, z_ml, z_nm, nI_add, pk_mul, ↓reduceIte, not_true_eq_false, not_false_eq_true, true_or, or_true, false_or, or_false, true_and, and_true, and_false, false_and, Classical.not_not, Nat.add_zero, z_01, z_em, z_bit_p, Nat.not_le, Nat.not_lt, reduceCtorEq, if_true, if_false]
        rw [e_X12_spoils_139_30]
        by_cases h40 : i = 40
        · simp (disch := omega) only [e_X12_spoils_139_4, k_X12_spoils_139_4, e_X12_spoils_139_7, k_X12_spoils_139_7, e_X12_spoils_139_8, e_X12_spoils_139_14, k_X12_spoils_139_14, e_X12_spoils_139_18, e_X12_spoils_139_26, k_X12_spoils_139_26, e_X12_spoils_139_40, k_X12_spoils_139_40, e_X12_spoils_139_44, e_X12_spoils_139_46, k_X12_spoils_139_46, e_X12_spoils_139_48, e_X12_spoils_139_50, k_X12_spoils_139_50, b1, q_bd_l, z_ltT, z_ltF, z_eqT, z_eqF, z_ltlT, z_ltlF, z_lltT, z_lltF, z_eqlT, z_eqlF, z_in, z_k7, z_cl, z_lneg, z_llT, z_llF, z_s1, z_nI_cl, z_nlt0, z_ne_m1, z_b0, z_b1, z_la, z_al, z_lm, z_ml, z_nm, nI_add, pk_mul, ↓reduceIte, not_true_eq_false, not_false_eq_true, true_or, or_true, false_or, or_false, true_and, and_true, and_false, false_and, Classical.not_not, Nat.add_zero, z_01, z_em, z_bit_p, Nat.not_le, Nat.not_lt, reduceCtorEq, if_true, if_false]
        · simp (disch := omega) only [e_X12_spoils_139_4, k_X12_spoils_139_4, e_X12_spoils_139_7, k_X12_spoils_139_7, e_X12_spoils_139_8, e_X12_spoils_139_14, k_X12_spoils_139_14, e_X12_spoils_139_18, e_X12_spoils_139_26, k_X12_spoils_139_26, e_X12_spoils_139_40, k_X12_spoils_139_40, e_X12_spoils_139_44, e_X12_spoils_139_46, k_X12_spoils_139_46, e_X12_spoils_139_48, e_X12_spoils_139_50, k_X12_spoils_139_50, b1, q_bd_l, z_ltT, z_ltF, z_eqT, z_eqF, z_ltlT, z_ltlF, z_lltT, z_lltF, z_eqlT, z_eqlF, z_in, z_k7, z_cl, z_lneg, z_llT, z_llF, z_s1, z_nI_cl, z_nlt0, z_ne_m1, z_b0, z_b1, z_la, z_al, z_lm, z_ml, z_nm, nI_add, pk_mul, ↓reduceIte, not_true_eq_false, not_false_eq_true, true_or, or_true, false_or, or_false, true_and, and_true, and_false, false_and, Classical.not_not, Nat.add_zero, z_01, z_em, z_bit_p, Nat.not_le, Nat.not_lt, reduceCtorEq, if_true, if_false]
      · obtain ⟨M, m1, m2, m3⟩ := ih (i + 1) L (by omega) l2 (fun k hk => by
          by_cases e : k = i
          · subst e; exact decide_eq_false hc
          · exact hno k (by omega))
        refine ⟨M, ?_, m2, m3⟩
        rw [← m1, e_X12_spoils_139_30]
        simp (disch := omega) only [e_X12_spoils_139_4, k_X12_spoils_139_4, e_X12_spoils_139_7, k_X12_spoils_139_7, e_X12_spoils_139_8, e_X12_spoils_139_14, k_X12_spoils_139_14, e_X12_spoils_139_18, e_X12_spoils_139_26, k_X12_spoils_139_26, e_X12_spoils_139_40, k_X12_spoils_139_40, e_X12_spoils_139_44, e_X12_spoils_139_46, k_X12_spoils_139_46, e_X12_spoils_139_48, e_X12_spoils_139_50, k_X12_spoils_139_50, k1, hc, l1, q_bd_l, z_ltT, z_ltF, z_eqT, z_eqF, z_ltlT, z_ltlF, z_lltT, z_lltF, z_eqlT, z_eqlF, z_in, z_k7, z_cl, z_lneg, z_llT, z_llF, z_s1, z_nI_cl, z_nlt0, z_ne_m1, z_b0, z_b1, z_la, z_al, z_lm, z_ml, z_nm, nI_add, pk_mul, ↓reduceIte, not_true_eq_false, not_false_eq_true, true_or, or_true, false_or, or_false, true_and, and_true, and_false, false_and, Classical.not_not, Nat.add_zero, z_01, z_em, z_bit_p, Nat.not_le, Nat.not_lt, reduceCtorEq, if_true, if_false]
  obtain ⟨M, m1, m2, m3⟩ := go 41 0 J (by omega) j2 (fun k hk => by omega)
  refine ⟨M, ?_, m2, m3⟩
  rw [← m1, e_X12_spoils_139, l_jar1 X _ I T n j h.1 h10 hj]
  subst hw
  simp (disch := omega) only [e_X12_spoils_139_4, k_X12_spoils_139_4, e_X12_spoils_139_7, k_X12_spoils_139_7, e_X12_spoils_139_8, e_X12_spoils_139_14, k_X12_spoils_139_14, e_X12_spoils_139_18, e_X12_spoils_139_26, k_X12_spoils_139_26, e_X12_spoils_139_40, k_X12_spoils_139_40, e_X12_spoils_139_44, e_X12_spoils_139_46, k_X12_spoils_139_46, e_X12_spoils_139_48, e_X12_spoils_139_50, k_X12_spoils_139_50, l_mat1 X _ I T t ht, l_in1 X _ I T m 10 (by omega) hm, j1, q_bd_l, z_ltT, z_ltF, z_eqT, z_eqF, z_ltlT, z_ltlF, z_lltT, z_lltF, z_eqlT, z_eqlF, z_in, z_k7, z_cl, z_lneg, z_llT, z_llF, z_s1, z_nI_cl, z_nlt0, z_ne_m1, z_b0, z_b1, z_la, z_al, z_lm, z_ml, z_nm, nI_add, pk_mul, ↓reduceIte, not_true_eq_false, not_false_eq_true, true_or, or_true, false_or, or_false, true_and, and_true, and_false, false_and, Classical.not_not, Nat.add_zero, z_01, z_em, z_bit_p, Nat.not_le, Nat.not_lt, reduceCtorEq, if_true, if_false]
  rfl
theorem l_spoils0 (X : Sx) (d : Nat) (I : Ii) (T : Tt) (n : Nat) (v u w c : Int32) (h3 : I 140 3 = nI n) (hn : n ≤ 10) (hc : c = 1 ∧ z_no v n ∨ c = 1 ∧ (∃ k, k < n ∧ v = nI k) ∧ z_no u 6 ∨ c = 2 ∧ (∃ k, k < n ∧ v = nI k) ∧ (∃ k, k < 6 ∧ u = nI k) ∧ z_no w 11) : c_X12_spoils_139 X (d + 37) v u w I T = z_r 0 (q_w I 139 0 c) T := by
  rw [e_X12_spoils_139]
  rcases hc with ⟨rfl, hv⟩ | ⟨rfl, ⟨k, hk, rfl⟩, hu⟩ | ⟨rfl, ⟨k, hk, rfl⟩, ⟨m, hm, rfl⟩, hw⟩
  · rw [l_jar0 X _ v I T n h3 hn hv]
    simp (disch := omega) only [e_X12_spoils_139, e_X12_spoils_139_4, k_X12_spoils_139_4, e_X12_spoils_139_7, k_X12_spoils_139_7, e_X12_spoils_139_8, e_X12_spoils_139_14, k_X12_spoils_139_14, e_X12_spoils_139_18, e_X12_spoils_139_26, k_X12_spoils_139_26, e_X12_spoils_139_40, k_X12_spoils_139_40, e_X12_spoils_139_44, e_X12_spoils_139_46, k_X12_spoils_139_46, e_X12_spoils_139_48, e_X12_spoils_139_50, k_X12_spoils_139_50, q_bd_l, z_ltT, z_ltF, z_eqT, z_eqF, z_ltlT, z_ltlF, z_lltT, z_lltF, z_eqlT, z_eqlF, z_in, z_k7, z_cl, z_lneg, z_llT, z_llF, z_s1, z_nI_cl, z_nlt0, z_ne_m1, z_b0, z_b1, z_la, z_al, z_lm, z_ml, z_nm, nI_add, pk_mul, ↓reduceIte, not_true_eq_false, not_false_eq_true, true_or, or_true, false_or, or_false, true_and, and_true, and_false, false_and, Classical.not_not, Nat.add_zero, z_01, z_em, z_bit_p, Nat.not_le, Nat.not_lt, reduceCtorEq, if_true, if_false]
  · rw [l_jar1 X _ I T n k h3 hn hk]
    simp (disch := omega) only [e_X12_spoils_139, e_X12_spoils_139_4, k_X12_spoils_139_4, e_X12_spoils_139_7, k_X12_spoils_139_7, e_X12_spoils_139_8, e_X12_spoils_139_14, k_X12_spoils_139_14, e_X12_spoils_139_18, e_X12_spoils_139_26, k_X12_spoils_139_26, e_X12_spoils_139_40, k_X12_spoils_139_40, e_X12_spoils_139_44, e_X12_spoils_139_46, k_X12_spoils_139_46, e_X12_spoils_139_48, e_X12_spoils_139_50, k_X12_spoils_139_50, l_mat0 X _ u I T hu, q_bd_l, z_ltT, z_ltF, z_eqT, z_eqF, z_ltlT, z_ltlF, z_lltT, z_lltF, z_eqlT, z_eqlF, z_in, z_k7, z_cl, z_lneg, z_llT, z_llF, z_s1, z_nI_cl, z_nlt0, z_ne_m1, z_b0, z_b1, z_la, z_al, z_lm, z_ml, z_nm, nI_add, pk_mul, ↓reduceIte, not_true_eq_false, not_false_eq_true, true_or, or_true, false_or, or_false, true_and, and_true, and_false, false_and, Classical.not_not, Nat.add_zero, z_01, z_em, z_bit_p, Nat.not_le, Nat.not_lt, reduceCtorEq, if_true, if_false]
  · rw [l_jar1 X _ I T n k h3 hn hk]
    simp (disch := omega) only [e_X12_spoils_139, e_X12_spoils_139_4, k_X12_spoils_139_4, e_X12_spoils_139_7, k_X12_spoils_139_7, e_X12_spoils_139_8, e_X12_spoils_139_14, k_X12_spoils_139_14, e_X12_spoils_139_18, e_X12_spoils_139_26, k_X12_spoils_139_26, e_X12_spoils_139_40, k_X12_spoils_139_40, e_X12_spoils_139_44, e_X12_spoils_139_46, k_X12_spoils_139_46, e_X12_spoils_139_48, e_X12_spoils_139_50, k_X12_spoils_139_50, l_mat1 X _ I T m hm, l_in0 X _ w I T 10 (by omega) hw, q_bd_l, z_ltT, z_ltF, z_eqT, z_eqF, z_ltlT, z_ltlF, z_lltT, z_lltF, z_eqlT, z_eqlF, z_in, z_k7, z_cl, z_lneg, z_llT, z_llF, z_s1, z_nI_cl, z_nlt0, z_ne_m1, z_b0, z_b1, z_la, z_al, z_lm, z_ml, z_nm, nI_add, pk_mul, ↓reduceIte, not_true_eq_false, not_false_eq_true, true_or, or_true, false_or, or_false, true_and, and_true, and_false, false_and, Classical.not_not, Nat.add_zero, z_01, z_em, z_bit_p, Nat.not_le, Nat.not_lt, reduceCtorEq, if_true, if_false]
-- ripe
def R_r1 (r : Nat → Int32) (n j t i : Nat) (q : Int32 × Int32) : Int32 × Int32 := if q.2 < R_adv (R_ahs n i r) j t then (nI i, R_adv (R_ahs n i r) j t) else q
def R_ripe (r : Nat → Int32) (n j t : Nat) : Int32 × Int32 := z_it (R_r1 r n j t) 41 (0, -1)
theorem l_ripe1 (X : Sx) (d : Nat) (I : Ii) (T : Tt) (n j t : Nat) (w : Int32) (h : R_g n (I 140)) (hj : j < n) (ht : t < 6) : ∃ K, c_X12_ripe_139 X (d + 37) (nI j) (nI t) w I T = z_r (if w = 0 then (R_ripe (I 140) n j t).1 else (R_ripe (I 140) n j t).2) K T ∧ K 139 0 = 0 ∧ z_fr m_q I K := by
  have h10 := h.2.1
  obtain ⟨J, j1, j2⟩ := l_as0 X (d + 35) I T n h
  obtain ⟨⟨K, o⟩, k1, k4⟩ := z_foldP (β := Int32 × Int32) (σ := Ii × Option Value) (fun i q K => c_X12_ripe_139_25 X (d + 36) (nI j) (nI t) w q.1 q.2 (nI i) K.2 K.1 T) (R_r1 (I 140) n j t) (fun i q K => z_as I n (R_ahs n i (I 140)) K.1) 41 (by
    intro i q K hi hK
    obtain ⟨K, o⟩ := K
    dsimp only at hK ⊢
    obtain ⟨L, l1, l2⟩ := l_asAdv X (d + 2) I K T hK j t hj ht
    obtain ⟨M, m1, m2⟩ := l_asAh X d I L T l2
    refine ⟨(M, some (.int (R_adv (R_ahs n i (I 140)) j t))), m2, ?_⟩
    dsimp only
    rw [e_X12_ripe_139_25]
    unfold R_r1
    by_cases hc : q.2 < R_adv (R_ahs n i (I 140)) j t
    · have hc2 : ¬ R_adv (R_ahs n i (I 140)) j t < q.2 := fun a => by rw [Int32.lt_iff_toInt_lt] at a hc; omega
      simp (disch := omega) only [e_X12_ripe_139_4, k_X12_ripe_139_4, e_X12_ripe_139_7, k_X12_ripe_139_7, e_X12_ripe_139_8, e_X12_ripe_139_11, e_X12_ripe_139_19, k_X12_ripe_139_19, e_X12_ripe_139_32, k_X12_ripe_139_32, e_X12_ripe_139_39, e_X12_ripe_139_43, k_X12_ripe_139_43, e_X12_ripe_139_46, k_X12_ripe_139_46, e_X12_ripe_139_50, k_X12_ripe_139_50, l1, hc, hc2, l_greater, m1, q_bd_l, z_ltT, z_ltF, z_eqT, z_eqF, z_ltlT, z_ltlF, z_lltT, z_lltF, z_eqlT, z_eqlF, z_in, z_k7, z_cl, z_lneg, z_llT, z_llF, z_s1, z_nI_cl, z_nlt0, z_ne_m1, z_b0, z_b1, z_la, z_al, z_lm, z_ml, z_nm, nI_add, pk_mul, ↓reduceIte, not_true_eq_false, not_false_eq_true, true_or, or_true, false_or, or_false, true_and, and_true, and_false, false_and, Classical.not_not, Nat.add_zero, z_01, z_em, z_bit_p, Nat.not_le, Nat.not_lt, reduceCtorEq, if_true, if_false]
    · by_cases hc2 : R_adv (R_ahs n i (I 140)) j t < q.2
      · simp (disch := omega) only [e_X12_ripe_139_4, k_X12_ripe_139_4, e_X12_ripe_139_7, k_X12_ripe_139_7, e_X12_ripe_139_8, e_X12_ripe_139_11, e_X12_ripe_139_19, k_X12_ripe_139_19, e_X12_ripe_139_32, k_X12_ripe_139_32, e_X12_ripe_139_39, e_X12_ripe_139_43, k_X12_ripe_139_43, e_X12_ripe_139_46, k_X12_ripe_139_46, e_X12_ripe_139_50, k_X12_ripe_139_50, l1, hc, hc2, l_greater, m1, q_bd_l, z_ltT, z_ltF, z_eqT, z_eqF, z_ltlT, z_ltlF, z_lltT, z_lltF, z_eqlT, z_eqlF, z_in, z_k7, z_cl, z_lneg, z_llT, z_llF, z_s1, z_nI_cl, z_nlt0, z_ne_m1, z_b0, z_b1, z_la, z_al, z_lm, z_ml, z_nm, nI_add, pk_mul, ↓reduceIte, not_true_eq_false, not_false_eq_true, true_or, or_true, false_or, or_false, true_and, and_true, and_false, false_and, Classical.not_not, Nat.add_zero, z_01, z_em, z_bit_p, Nat.not_le, Nat.not_lt, reduceCtorEq, if_true, if_false]
      · have e : R_adv (R_ahs n i (I 140)) j t = q.2 := by
          rw [Int32.lt_iff_toInt_lt] at hc hc2
          exact Int32.toInt_inj.mp (by omega)
        simp (disch := omega) only [e_X12_ripe_139_4, k_X12_ripe_139_4, e_X12_ripe_139_7, k_X12_ripe_139_7, e_X12_ripe_139_8, e_X12_ripe_139_11, e_X12_ripe_139_19, k_X12_ripe_139_19, e_X12_ripe_139_32, k_X12_ripe_139_32, e_X12_ripe_139_39, e_X12_ripe_139_43, k_X12_ripe_139_43, e_X12_ripe_139_46, k_X12_ripe_139_46, e_X12_ripe_139_50, k_X12_ripe_139_50, l1, hc, hc2, l_greater, m1, q_bd_l, z_ltT, z_ltF, z_eqT, z_eqF, z_ltlT, z_ltlF, z_lltT, z_lltF, z_eqlT, z_eqlF, z_in, z_k7, z_cl, z_lneg, z_llT, z_llF, z_s1, z_nI_cl, z_nlt0, z_ne_m1, z_b0, z_b1, z_la, z_al, z_lm, z_ml, z_nm, nI_add, pk_mul, ↓reduceIte, not_true_eq_false, not_false_eq_true, true_or, or_true, false_or, or_false, true_and, and_true, and_false, false_and, Classical.not_not, Nat.add_zero, z_01, z_em, z_bit_p, Nat.not_le, Nat.not_lt, reduceCtorEq, if_true, if_false]
        rw [e]) (0, -1) (J, none) j2
  dsimp only at k1 k4
  obtain ⟨M, b1, b2, b3⟩ := l_asB X (d + 35) I K T k1
  refine ⟨M, ?_, b3, b2⟩
  have st : c_X12_ripe_139 X (d + 37) (nI j) (nI t) w I T = c_X12_ripe_139_25 X (d + 36) (nI j) (nI t) w 0 (-1) (nI 0) none J T := by
    rw [e_X12_ripe_139, l_jar1 X _ I T n j h.1 h10 hj]
    simp (disch := omega) only [e_X12_ripe_139_4, k_X12_ripe_139_4, e_X12_ripe_139_7, k_X12_ripe_139_7, e_X12_ripe_139_8, e_X12_ripe_139_11, e_X12_ripe_139_19, k_X12_ripe_139_19, e_X12_ripe_139_32, k_X12_ripe_139_32, e_X12_ripe_139_39, e_X12_ripe_139_43, k_X12_ripe_139_43, e_X12_ripe_139_46, k_X12_ripe_139_46, e_X12_ripe_139_50, k_X12_ripe_139_50, l_mat1 X _ I T t ht, j1, q_bd_l, z_ltT, z_ltF, z_eqT, z_eqF, z_ltlT, z_ltlF, z_lltT, z_lltF, z_eqlT, z_eqlF, z_in, z_k7, z_cl, z_lneg, z_llT, z_llF, z_s1, z_nI_cl, z_nlt0, z_ne_m1, z_b0, z_b1, z_la, z_al, z_lm, z_ml, z_nm, nI_add, pk_mul, ↓reduceIte, not_true_eq_false, not_false_eq_true, true_or, or_true, false_or, or_false, true_and, and_true, and_false, false_and, Classical.not_not, Nat.add_zero, z_01, z_em, z_bit_p, Nat.not_le, Nat.not_lt, reduceCtorEq, if_true, if_false]
    rfl
  rw [st]
  refine k4.trans ?_
  rw [e_X12_ripe_139_25]
  by_cases hw : w = 0
  · simp (disch := omega) only [e_X12_ripe_139_4, k_X12_ripe_139_4, e_X12_ripe_139_7, k_X12_ripe_139_7, e_X12_ripe_139_8, e_X12_ripe_139_11, e_X12_ripe_139_19, k_X12_ripe_139_19, e_X12_ripe_139_32, k_X12_ripe_139_32, e_X12_ripe_139_39, e_X12_ripe_139_43, k_X12_ripe_139_43, e_X12_ripe_139_46, k_X12_ripe_139_46, e_X12_ripe_139_50, k_X12_ripe_139_50, b1, hw, q_bd_l, z_ltT, z_ltF, z_eqT, z_eqF, z_ltlT, z_ltlF, z_lltT, z_lltF, z_eqlT, z_eqlF, z_in, z_k7, z_cl, z_lneg, z_llT, z_llF, z_s1, z_nI_cl, z_nlt0, z_ne_m1, z_b0, z_b1, z_la, z_al, z_lm, z_ml, z_nm, nI_add, pk_mul, ↓reduceIte, not_true_eq_false, not_false_eq_true, true_or, or_true, false_or, or_false, true_and, and_true, and_false, false_and, Classical.not_not, Nat.add_zero, z_01, z_em, z_bit_p, Nat.not_le, Nat.not_lt, reduceCtorEq, if_true, if_false]
    rfl
  · simp (disch := omega) only [e_X12_ripe_139_4, k_X12_ripe_139_4, e_X12_ripe_139_7, k_X12_ripe_139_7, e_X12_ripe_139_8, e_X12_ripe_139_11, e_X12_ripe_139_19, k_X12_ripe_139_19, e_X12_ripe_139_32, k_X12_ripe_139_32, e_X12_ripe_139_39, e_X12_ripe_139_43, k_X12_ripe_139_43, e_X12_ripe_139_46, k_X12_ripe_139_46, e_X12_ripe_139_50, k_X12_ripe_139_50, b1, hw, q_bd_l, z_ltT, z_ltF, z_eqT, z_eqF, z_ltlT, z_ltlF, z_lltT, z_lltF, z_eqlT, z_eqlF, z_in, z_k7, z_cl, z_lneg, z_llT, z_llF, z_s1, z_nI_cl, z_nlt0, z_ne_m1, z_b0, z_b1, z_la, z_al, z_lm, z_ml, z_nm, nI_add, pk_mul, ↓reduceIte, not_true_eq_false, not_false_eq_true, true_or, or_true, false_or, or_false, true_and, and_true, and_false, false_and, Classical.not_not, Nat.add_zero, z_01, z_em, z_bit_p, Nat.not_le, Nat.not_lt, reduceCtorEq, if_true, if_false]
    rfl
theorem l_ripe0 (X : Sx) (d : Nat) (I : Ii) (T : Tt) (n : Nat) (v u w : Int32) (h3 : I 140 3 = nI n) (hn : n ≤ 10) (hc : z_no v n ∨ (∃ k, k < n ∧ v = nI k) ∧ z_no u 6) : c_X12_ripe_139 X (d + 37) v u w I T = z_r 0 (q_w I 139 0 1) T := by
  rw [e_X12_ripe_139]
  rcases hc with hv | ⟨⟨k, hk, rfl⟩, hu⟩
  · rw [l_jar0 X _ v I T n h3 hn hv]
    simp (disch := omega) only [e_X12_ripe_139, e_X12_ripe_139_4, k_X12_ripe_139_4, e_X12_ripe_139_7, k_X12_ripe_139_7, e_X12_ripe_139_8, e_X12_ripe_139_11, e_X12_ripe_139_19, k_X12_ripe_139_19, e_X12_ripe_139_32, k_X12_ripe_139_32, e_X12_ripe_139_39, e_X12_ripe_139_43, k_X12_ripe_139_43, e_X12_ripe_139_46, k_X12_ripe_139_46, e_X12_ripe_139_50, k_X12_ripe_139_50, q_bd_l, z_ltT, z_ltF, z_eqT, z_eqF, z_ltlT, z_ltlF, z_lltT, z_lltF, z_eqlT, z_eqlF, z_in, z_k7, z_cl, z_lneg, z_llT, z_llF, z_s1, z_nI_cl, z_nlt0, z_ne_m1, z_b0, z_b1, z_la, z_al, z_lm, z_ml, z_nm, nI_add, pk_mul, ↓reduceIte, not_true_eq_false, not_false_eq_true, true_or, or_true, false_or, or_false, true_and, and_true, and_false, false_and, Classical.not_not, Nat.add_zero, z_01, z_em, z_bit_p, Nat.not_le, Nat.not_lt, reduceCtorEq, if_true, if_false]
  · rw [l_jar1 X _ I T n k h3 hn hk]
    simp (disch := omega) only [e_X12_ripe_139, e_X12_ripe_139_4, k_X12_ripe_139_4, e_X12_ripe_139_7, k_X12_ripe_139_7, e_X12_ripe_139_8, e_X12_ripe_139_11, e_X12_ripe_139_19, k_X12_ripe_139_19, e_X12_ripe_139_32, k_X12_ripe_139_32, e_X12_ripe_139_39, e_X12_ripe_139_43, k_X12_ripe_139_43, e_X12_ripe_139_46, k_X12_ripe_139_46, e_X12_ripe_139_50, k_X12_ripe_139_50, l_mat0 X _ u I T hu, q_bd_l, z_ltT, z_ltF, z_eqT, z_eqF, z_ltlT, z_ltlF, z_lltT, z_lltF, z_eqlT, z_eqlF, z_in, z_k7, z_cl, z_lneg, z_llT, z_llF, z_s1, z_nI_cl, z_nlt0, z_ne_m1, z_b0, z_b1, z_la, z_al, z_lm, z_ml, z_nm, nI_add, pk_mul, ↓reduceIte, not_true_eq_false, not_false_eq_true, true_or, or_true, false_or, or_false, true_and, and_true, and_false, false_and, Classical.not_not, Nat.add_zero, z_01, z_em, z_bit_p, Nat.not_le, Nat.not_lt, reduceCtorEq, if_true, if_false]
-- goes
def R_goes (r : Nat → Int32) (n j : Nat) : Int32 := if r (12 + 13 * j + 2) = 0 then -1 else if z_fst (fun i => decide (R_ahs n (i + 1) r (12 + 13 * j + 2) = 0)) 40 < 40 then nI (z_fst (fun i => decide (R_ahs n (i + 1) r (12 + 13 * j + 2) = 0)) 40 + 1) else -1
theorem l_goes1 (X : Sx) (d : Nat) (I : Ii) (T : Tt) (n j : Nat) (h : R_g n (I 140)) (hj : j < n) : ∃ K, c_X12_goes_139 X (d + 37) (nI j) I T = z_r (R_goes (I 140) n j) K T ∧ K 139 0 = 0 ∧ z_fr m_q I K := by
  have h10 := h.2.1
  have e : (q_w I 139 0 0) 140 = I 140 := z_w_a _ _ _ _ _ (by decide)
  have e0 : (q_w I 139 0 0) 139 0 = 0 := z_w_s _ _ _ _
  unfold R_goes
  rw [e_X12_goes_139, l_jar1 X _ I T n j h.1 h10 hj]
  by_cases hs : I 140 (12 + 13 * j + 2) = 0
  · refine ⟨q_w I 139 0 0, ?_, e0, z_q0 I 0⟩
    simp (disch := omega) only [e_X12_goes_139_4, k_X12_goes_139_4, e_X12_goes_139_8, e_X12_goes_139_16, k_X12_goes_139_16, e_X12_goes_139_17, e_X12_goes_139_26, k_X12_goes_139_26, e_X12_goes_139_38, k_X12_goes_139_38, e_X12_goes_139_42, k_X12_goes_139_42, e_X12_goes_139_45, e_X12_goes_139_47, e_X12_goes_139_49, k_X12_goes_139_49, l_of, e, hs, e0, q_bd_l, z_ltT, z_ltF, z_eqT, z_eqF, z_ltlT, z_ltlF, z_lltT, z_lltF, z_eqlT, z_eqlF, z_in, z_k7, z_cl, z_lneg, z_llT, z_llF, z_s1, z_nI_cl, z_nlt0, z_ne_m1, z_b0, z_b1, z_la, z_al, z_lm, z_ml, z_nm, nI_add, pk_mul, ↓reduceIte, not_true_eq_false, not_false_eq_true, true_or, or_true, false_or, or_false, true_and, and_true, and_false, false_and, Classical.not_not, Nat.add_zero, z_01, z_em, z_bit_p, Nat.not_le, Nat.not_lt, reduceCtorEq, if_true, if_false]
  · rw [if_neg hs]
    obtain ⟨J, j1, j2⟩ := l_as0 X (d + 35) I T n h
    have go : ∀ q i J, i + q = 40 → z_as I n (R_ahs n i (I 140)) J → (∀ k, k < i → decide (R_ahs n (k + 1) (I 140) (12 + 13 * j + 2) = 0) = false) → ∃ K, c_X12_goes_139_30 X (d + 36) (nI j) (-1) (nI (i + 1)) J T = z_r (if z_fst (fun i => decide (R_ahs n (i + 1) (I 140) (12 + 13 * j + 2) = 0)) 40 < 40 then nI (z_fst (fun i => decide (R_ahs n (i + 1) (I 140) (12 + 13 * j + 2) = 0)) 40 + 1) else -1) K T ∧ K 139 0 = 0 ∧ z_fr m_q I K := by
      intro q
      induction q with
      | zero =>
        intro i J hi hJ hno
        have hi : i = 40 := by omega
        subst hi
        obtain ⟨M, b1, b2, b3⟩ := l_asB X (d + 35) I J T hJ
        refine ⟨M, ?_, b3, b2⟩
        rw [e_X12_goes_139_30, z_fst_no hno]
        simp (disch := omega) only [e_X12_goes_139_4, k_X12_goes_139_4, e_X12_goes_139_8, e_X12_goes_139_16, k_X12_goes_139_16, e_X12_goes_139_17, e_X12_goes_139_26, k_X12_goes_139_26, e_X12_goes_139_38, k_X12_goes_139_38, e_X12_goes_139_42, k_X12_goes_139_42, e_X12_goes_139_45, e_X12_goes_139_47, e_X12_goes_139_49, k_X12_goes_139_49, b1, q_bd_l, z_ltT, z_ltF, z_eqT, z_eqF, z_ltlT, z_ltlF, z_lltT, z_lltF, z_eqlT, z_eqlF, z_in, z_k7, z_cl, z_lneg, z_llT, z_llF, z_s1, z_nI_cl, z_nlt0, z_ne_m1, z_b0, z_b1, z_la, z_al, z_lm, z_ml, z_nm, nI_add, pk_mul, ↓reduceIte, not_true_eq_false, not_false_eq_true, true_or, or_true, false_or, or_false, true_and, and_true, and_false, false_and, Classical.not_not, Nat.add_zero, z_01, z_em, z_bit_p, Nat.not_le, Nat.not_lt, reduceCtorEq, if_true, if_false]
        rfl
      | succ q ih =>
        intro i J hi hJ hno
        obtain ⟨L, l1, l2⟩ := l_asAh X d I J T hJ
        have e140 : L 140 = R_ahs n (i + 1) (I 140) := l2.2.2.2.1
        by_cases hc : R_ahs n (i + 1) (I 140) (12 + 13 * j + 2) = 0
        · obtain ⟨M, b1, b2, b3⟩ := l_asB X (d + 35) I L T l2
          refine ⟨M, ?_, b3, b2⟩
          rw [e_X12_goes_139_30, z_fst_hit hno (decide_eq_true hc) (by omega), if_pos (show i < 40 by omega)]
          simp (disch := omega) only [e_X12_goes_139_4, k_X12_goes_139_4, e_X12_goes_139_8, e_X12_goes_139_16, k_X12_goes_139_16, e_X12_goes_139_17, e_X12_goes_139_26, k_X12_goes_139_26, e_X12_goes_139_38, k_X12_goes_139_38, e_X12_goes_139_42, k_X12_goes_139_42, e_X12_goes_139_45, e_X12_goes_139_47, e_X12_goes_139_49, k_X12_goes_139_49, l1, l_of, e140, hc, q_bd_l, z_ltT, z_ltF, z_eqT, z_eqF, z_ltlT, z_ltlF, z_lltT, z_lltF, z_eqlT, z_eqlF, z_in, z_k7, z_cl, z_lneg, z_llT, z_llF, z_s1, z_nI_cl, z_nlt0, z_ne_m1, z_b0, z_b1, z_la, z_al, z_lm, z_ml, z_nm, nI_add, pk_mul, ↓reduceIte, not_true_eq_false, not_false_eq_true, true_or, or_true, false_or, or_false, true_and, and_true, and_false, false_and, Classical.not_not, Nat.add_zero, z_01, z_em, z_bit_p, Nat.not_le, Nat.not_lt, reduceCtorEq, if_true, if_false]
          rw [e_X12_goes_139_30]
          by_cases h40 : i = 39
          · simp (disch := omega) only [e_X12_goes_139_4, k_X12_goes_139_4, e_X12_goes_139_8, e_X12_goes_139_16, k_X12_goes_139_16, e_X12_goes_139_17, e_X12_goes_139_26, k_X12_goes_139_26, e_X12_goes_139_38, k_X12_goes_139_38, e_X12_goes_139_42, k_X12_goes_139_42, e_X12_goes_139_45, e_X12_goes_139_47, e_X12_goes_139_49, k_X12_goes_139_49, b1, q_bd_l, z_ltT, z_ltF, z_eqT, z_eqF, z_ltlT, z_ltlF, z_lltT, z_lltF, z_eqlT, z_eqlF, z_in, z_k7, z_cl, z_lneg, z_llT, z_llF, z_s1, z_nI_cl, z_nlt0, z_ne_m1, z_b0, z_b1, z_la, z_al, z_lm, z_ml, z_nm, nI_add, pk_mul, ↓reduceIte, not_true_eq_false, not_false_eq_true, true_or, or_true, false_or, or_false, true_and, and_true, and_false, false_and, Classical.not_not, Nat.add_zero, z_01, z_em, z_bit_p, Nat.not_le, Nat.not_lt, reduceCtorEq, if_true, if_false]
          · simp (disch := omega) only [e_X12_goes_139_4, k_X12_goes_139_4, e_X12_goes_139_8, e_X12_goes_139_16, k_X12_goes_139_16, e_X12_goes_139_17, e_X12_goes_139_26, k_X12_goes_139_26, e_X12_goes_139_38, k_X12_goes_139_38, e_X12_goes_139_42, k_X12_goes_139_42, e_X12_goes_139_45, e_X12_goes_139_47, e_X12_goes_139_49, k_X12_goes_139_49, b1, q_bd_l, z_ltT, z_ltF, z_eqT, z_eqF, z_ltlT, z_ltlF, z_lltT, z_lltF, z_eqlT, z_eqlF, z_in, z_k7, z_cl, z_lneg, z_llT, z_llF, z_s1, z_nI_cl, z_nlt0, z_ne_m1, z_b0, z_b1, z_la, z_al, z_lm, z_ml, z_nm, nI_add, pk_mul, ↓reduceIte, not_true_eq_false, not_false_eq_true, true_or, or_true, false_or, or_false, true_and, and_true, and_false, false_and, Classical.not_not, Nat.add_zero, z_01, z_em, z_bit_p, Nat.not_le, Nat.not_lt, reduceCtorEq, if_true, if_false]
        · obtain ⟨M, m1, m2, m3⟩ := ih (i + 1) L (by omega) l2 (fun k hk => by
            by_cases e : k = i
            · subst e; exact decide_eq_false hc
            · exact hno k (by omega))
          refine ⟨M, ?_, m2, m3⟩
          rw [← m1, e_X12_goes_139_30]
          simp (disch := omega) only [e_X12_goes_139_4, k_X12_goes_139_4, e_X12_goes_139_8, e_X12_goes_139_16, k_X12_goes_139_16, e_X12_goes_139_17, e_X12_goes_139_26, k_X12_goes_139_26, e_X12_goes_139_38, k_X12_goes_139_38, e_X12_goes_139_42, k_X12_goes_139_42, e_X12_goes_139_45, e_X12_goes_139_47, e_X12_goes_139_49, k_X12_goes_139_49, l1, l_of, e140, hc, q_bd_l, z_ltT, z_ltF, z_eqT, z_eqF, z_ltlT, z_ltlF, z_lltT, z_lltF, z_eqlT, z_eqlF, z_in, z_k7, z_cl, z_lneg, z_llT, z_llF, z_s1, z_nI_cl, z_nlt0, z_ne_m1, z_b0, z_b1, z_la, z_al, z_lm, z_ml, z_nm, nI_add, pk_mul, ↓reduceIte, not_true_eq_false, not_false_eq_true, true_or, or_true, false_or, or_false, true_and, and_true, and_false, false_and, Classical.not_not, Nat.add_zero, z_01, z_em, z_bit_p, Nat.not_le, Nat.not_lt, reduceCtorEq, if_true, if_false]
    obtain ⟨M, m1, m2, m3⟩ := go 40 0 J (by omega) j2 (fun k hk => by omega)
    refine ⟨M, ?_, m2, m3⟩
    rw [← m1]
    simp (disch := omega) only [e_X12_goes_139_4, k_X12_goes_139_4, e_X12_goes_139_8, e_X12_goes_139_16, k_X12_goes_139_16, e_X12_goes_139_17, e_X12_goes_139_26, k_X12_goes_139_26, e_X12_goes_139_38, k_X12_goes_139_38, e_X12_goes_139_42, k_X12_goes_139_42, e_X12_goes_139_45, e_X12_goes_139_47, e_X12_goes_139_49, k_X12_goes_139_49, l_of, e, hs, j1, q_bd_l, z_ltT, z_ltF, z_eqT, z_eqF, z_ltlT, z_ltlF, z_lltT, z_lltF, z_eqlT, z_eqlF, z_in, z_k7, z_cl, z_lneg, z_llT, z_llF, z_s1, z_nI_cl, z_nlt0, z_ne_m1, z_b0, z_b1, z_la, z_al, z_lm, z_ml, z_nm, nI_add, pk_mul, ↓reduceIte, not_true_eq_false, not_false_eq_true, true_or, or_true, false_or, or_false, true_and, and_true, and_false, false_and, Classical.not_not, Nat.add_zero, z_01, z_em, z_bit_p, Nat.not_le, Nat.not_lt, reduceCtorEq, if_true, if_false]
    rfl
theorem l_goes0 (X : Sx) (d : Nat) (I : Ii) (T : Tt) (n : Nat) (v : Int32) (h3 : I 140 3 = nI n) (hn : n ≤ 10) (hv : z_no v n) : c_X12_goes_139 X (d + 37) v I T = z_r 0 (q_w I 139 0 1) T := by
  have e0 : (q_w I 139 0 1) 139 0 = 1 := z_w_s _ _ _ _
  rw [e_X12_goes_139, l_jar0 X _ v I T n h3 hn hv]
  simp (disch := omega) only [e_X12_goes_139, e_X12_goes_139_4, k_X12_goes_139_4, e_X12_goes_139_8, e_X12_goes_139_16, k_X12_goes_139_16, e_X12_goes_139_17, e_X12_goes_139_26, k_X12_goes_139_26, e_X12_goes_139_38, k_X12_goes_139_38, e_X12_goes_139_42, k_X12_goes_139_42, e_X12_goes_139_45, e_X12_goes_139_47, e_X12_goes_139_49, k_X12_goes_139_49, e0, q_bd_l, z_ltT, z_ltF, z_eqT, z_eqF, z_ltlT, z_ltlF, z_lltT, z_lltF, z_eqlT, z_eqlF, z_in, z_k7, z_cl, z_lneg, z_llT, z_llF, z_s1, z_nI_cl, z_nlt0, z_ne_m1, z_b0, z_b1, z_la, z_al, z_lm, z_ml, z_nm, nI_add, pk_mul, ↓reduceIte, not_true_eq_false, not_false_eq_true, true_or, or_true, false_or, or_false, true_and, and_true, and_false, false_and, Classical.not_not, Nat.add_zero, z_01, z_em, z_bit_p, Nat.not_le, Nat.not_lt, reduceCtorEq, if_true, if_false]
-- trial
theorem l_asPass (X : Sx) (d : Nat) (I J : Ii) (T : Tt) {n : Nat} {r : Nat → Int32} (h : z_as I n r J) (m : Nat) (hm : m ≤ 100) : ∃ K, c_X12_passes_139 X (d + 37) (nI m) J T = z_r (R_pass n m r 9 - r 9) K T ∧ z_as I n (R_pass n m r) K := by
  obtain ⟨h1, h2, h3, h4, h5, h6⟩ := id h
  subst h4
  obtain ⟨K, k1, k2, k3⟩ := l_passes X d J T n m hm h5
  exact ⟨K, k1, z_as_ry h k2 k3 (R_pass_g h5) (R_hi_pass h5.2.1 h3)⟩
theorem l_trial1 (X : Sx) (d : Nat) (I : Ii) (T : Tt) (n m : Nat) (w : Int32) (h : R_g n (I 140)) (hm : m ≤ 30) : ∃ K, c_X12_trial_139 X (d + 38) (nI m) w I T = z_r (if w = 0 then R_spo (R_pass n m (I 140)) n else R_pass n m (I 140) 9 - I 140 9) K T ∧ K 139 0 = 0 ∧ z_fr m_q I K := by
  have h10 := h.2.1
  obtain ⟨J, j1, j2⟩ := l_as0 X (d + 36) I T n h
  obtain ⟨K, k1, k2⟩ := l_asPass X d I J T j2 m (by omega)
  obtain ⟨M, b1, b2, b3⟩ := l_asB X (d + 36) I K T k2
  have e140 := k2.2.2.2.1
  have sp := l_spoons X (d + 35) K T n (by rw [e140]; exact k2.2.2.2.2.1.1) h10
  rw [e140] at sp
  refine ⟨M, ?_, b3, b2⟩
  rw [e_X12_trial_139, l_in1 X _ I T m 30 (by omega) hm]
  by_cases hw : w = 0
  · simp (disch := omega) only [e_X12_trial_139, e_X12_trial_139_5, k_X12_trial_139_5, e_X12_trial_139_9, e_X12_trial_139_17, k_X12_trial_139_17, e_X12_trial_139_20, k_X12_trial_139_20, e_X12_trial_139_27, k_X12_trial_139_27, e_X12_trial_139_30, k_X12_trial_139_30, j1, k1, sp, hw, b1, q_bd_l, z_ltT, z_ltF, z_eqT, z_eqF, z_ltlT, z_ltlF, z_lltT, z_lltF, z_eqlT, z_eqlF, z_in, z_k7, z_cl, z_lneg, z_llT, z_llF, z_s1, z_nI_cl, z_nlt0, z_ne_m1, z_b0, z_b1, z_la, z_al, z_lm, z_ml, z_nm, nI_add, pk_mul, ↓reduceIte, not_true_eq_false, not_false_eq_true, true_or, or_true, false_or, or_false, true_and, and_true, and_false, false_and, Classical.not_not, Nat.add_zero, z_01, z_em, z_bit_p, Nat.not_le, Nat.not_lt, reduceCtorEq, if_true, if_false]
  · simp (disch := omega) only [e_X12_trial_139, e_X12_trial_139_5, k_X12_trial_139_5, e_X12_trial_139_9, e_X12_trial_139_17, k_X12_trial_139_17, e_X12_trial_139_20, k_X12_trial_139_20, e_X12_trial_139_27, k_X12_trial_139_27, e_X12_trial_139_30, k_X12_trial_139_30, j1, k1, sp, hw, b1, q_bd_l, z_ltT, z_ltF, z_eqT, z_eqF, z_ltlT, z_ltlF, z_lltT, z_lltF, z_eqlT, z_eqlF, z_in, z_k7, z_cl, z_lneg, z_llT, z_llF, z_s1, z_nI_cl, z_nlt0, z_ne_m1, z_b0, z_b1, z_la, z_al, z_lm, z_ml, z_nm, nI_add, pk_mul, ↓reduceIte, not_true_eq_false, not_false_eq_true, true_or, or_true, false_or, or_false, true_and, and_true, and_false, false_and, Classical.not_not, Nat.add_zero, z_01, z_em, z_bit_p, Nat.not_le, Nat.not_lt, reduceCtorEq, if_true, if_false]
theorem l_trial0 (X : Sx) (d : Nat) (I : Ii) (T : Tt) (v w : Int32) (hv : z_no v 31) : c_X12_trial_139 X (d + 38) v w I T = z_r 0 (q_w I 139 0 1) T := by
  rw [e_X12_trial_139, l_in0 X _ v I T 30 (by omega) hv]
  simp (disch := omega) only [e_X12_trial_139, e_X12_trial_139_5, k_X12_trial_139_5, e_X12_trial_139_9, e_X12_trial_139_17, k_X12_trial_139_17, e_X12_trial_139_20, k_X12_trial_139_20, e_X12_trial_139_27, k_X12_trial_139_27, e_X12_trial_139_30, k_X12_trial_139_30, q_bd_l, z_ltT, z_ltF, z_eqT, z_eqF, z_ltlT, z_ltlF, z_lltT, z_lltF, z_eqlT, z_eqlF, z_in, z_k7, z_cl, z_lneg, z_llT, z_llF, z_s1, z_nI_cl, z_nlt0, z_ne_m1, z_b0, z_b1, z_la, z_al, z_lm, z_ml, z_nm, nI_add, pk_mul, ↓reduceIte, not_true_eq_false, not_false_eq_true, true_or, or_true, false_or, or_false, true_and, and_true, and_false, false_and, Classical.not_not, Nat.add_zero, z_01, z_em, z_bit_p, Nat.not_le, Nat.not_lt, reduceCtorEq, if_true, if_false]
-- span
def R_tr (r : Nat → Int32) (n m s : Nat) : Int32 := R_spo (R_pass n m (va_up r 11 (nI s))) n
def R_sp1 (r : Nat → Int32) (n m : Nat) (w : Int32) (i : Nat) (f : Int32) : Int32 := if f = -1 then R_tr r n m (i + 1) else if w = 0 then (if f < R_tr r n m (i + 1) then f else R_tr r n m (i + 1)) else (if R_tr r n m (i + 1) < f then f else R_tr r n m (i + 1))
def R_span (r : Nat → Int32) (n m : Nat) (w : Int32) : Int32 := z_it (R_sp1 r n m w) 6 (-1)
theorem l_span1 (X : Sx) (d : Nat) (I : Ii) (T : Tt) (n m : Nat) (w : Int32) (h : R_g n (I 140)) (hm : m ≤ 30) : ∃ K, c_X12_span_139 X (d + 38) (nI m) w I T = z_r (R_span (I 140) n m w) K T ∧ K 139 0 = 0 ∧ z_fr m_q I K := by
  have h10 := h.2.1
  obtain ⟨J, j1, j2⟩ := l_as0 X (d + 36) I T n h
  obtain ⟨⟨K, o5, o6⟩, k1, k4⟩ := z_foldP (β := Int32) (σ := Ii × Option Value × Option Value) (fun i f K => c_X12_span_139_21 X (d + 37) (nI m) w f (nI (i + 1)) K.2.1 K.2.2 K.1 T) (R_sp1 (I 140) n m w) (fun i f K => z_as I n (I 140) K.1) 6 (by
    intro i f K hi hK
    obtain ⟨K, o5, o6⟩ := K
    dsimp only at hK ⊢
    have hK1 : z_as I n (va_up (I 140) 11 (nI (i + 1))) (q_w K 140 11 (nI (i + 1))) := by
      obtain ⟨a1, a2, a3, a4, a5, a6⟩ := hK
      have er : (q_w K 140 11 (nI (i + 1))) 140 = va_up (I 140) 11 (nI (i + 1)) := by rw [z_w_row, a4]
      refine ⟨z_fr_w a1 140 11 _ (by simp [m_qa]), fun k hk => by rw [z_w_a _ _ _ _ _ (by decide)]; exact a2 k hk, by rw [er]; exact R_hi_up (R_hi_r _) (by omega) _, er, R_g_up a5 (by omega) (by omega) _, by rw [z_w_a _ _ _ _ _ (by decide)]; exact a6⟩
    obtain ⟨L, l1, l2⟩ := l_asPass X d I _ T hK1 m (by omega)
    have e140 := l2.2.2.2.1
    have sp := l_spoons X (d + 35) L T n (by rw [e140]; exact l2.2.2.2.2.1.1) h10
    rw [e140] at sp
    obtain ⟨M, b1, b2, b3, b4⟩ := l_back X (d + 36) L T
    have hM : z_as I n (I 140) M := by
      obtain ⟨a1, a2, a3, a4, a5, a6⟩ := l2
      have hz := z_back2 a1 a2 a3 b2 b3 b4
      have er : M 140 = I 140 := z_q140 (z_q1q hz)
      refine ⟨z_fr_m hz (fun a k h => by simp [m_qa, h]), fun k hk => by rw [b2 142 k rfl]; exact a2 k hk, by rw [er]; exact R_hi_r _, er, h, (b2 139 0 rfl).trans a6⟩
    refine ⟨(M, some (.int (R_pass n m (va_up (I 140) 11 (nI (i + 1))) 9 - va_up (I 140) 11 (nI (i + 1)) 9)), some (.int (R_tr (I 140) n m (i + 1)))), hM, ?_⟩
    dsimp only
    rw [e_X12_span_139_21]
    unfold R_sp1
    have et : R_spo (R_pass n m (va_up (I 140) 11 (nI (i + 1)))) n = R_tr (I 140) n m (i + 1) := rfl
    rw [et] at sp
    by_cases hf : f = -1
    · simp (disch := omega) only [e_X12_span_139_5, k_X12_span_139_5, e_X12_span_139_9, e_X12_span_139_17, k_X12_span_139_17, e_X12_span_139_32, k_X12_span_139_32, e_X12_span_139_35, k_X12_span_139_35, e_X12_span_139_38, k_X12_span_139_38, e_X12_span_139_48, k_X12_span_139_48, e_X12_span_139_52, k_X12_span_139_52, l1, sp, b1, hf, q_bd_l, z_ltT, z_ltF, z_eqT, z_eqF, z_ltlT, z_ltlF, z_lltT, z_lltF, z_eqlT, z_eqlF, z_in, z_k7, z_cl, z_lneg, z_llT, z_llF, z_s1, z_nI_cl, z_nlt0, z_ne_m1, z_b0, z_b1, z_la, z_al, z_lm, z_ml, z_nm, nI_add, pk_mul, ↓reduceIte, not_true_eq_false, not_false_eq_true, true_or, or_true, false_or, or_false, true_and, and_true, and_false, false_and, Classical.not_not, Nat.add_zero, z_01, z_em, z_bit_p, Nat.not_le, Nat.not_lt, reduceCtorEq, if_true, if_false]
    · by_cases hw : w = 0
      · simp (disch := omega) only [e_X12_span_139_5, k_X12_span_139_5, e_X12_span_139_9, e_X12_span_139_17, k_X12_span_139_17, e_X12_span_139_32, k_X12_span_139_32, e_X12_span_139_35, k_X12_span_139_35, e_X12_span_139_38, k_X12_span_139_38, e_X12_span_139_48, k_X12_span_139_48, e_X12_span_139_52, k_X12_span_139_52, l1, sp, b1, hf, hw, l_lesser, q_bd_l, z_ltT, z_ltF, z_eqT, z_eqF, z_ltlT, z_ltlF, z_lltT, z_lltF, z_eqlT, z_eqlF, z_in, z_k7, z_cl, z_lneg, z_llT, z_llF, z_s1, z_nI_cl, z_nlt0, z_ne_m1, z_b0, z_b1, z_la, z_al, z_lm, z_ml, z_nm, nI_add, pk_mul, ↓reduceIte, not_true_eq_false, not_false_eq_true, true_or, or_true, false_or, or_false, true_and, and_true, and_false, false_and, Classical.not_not, Nat.add_zero, z_01, z_em, z_bit_p, Nat.not_le, Nat.not_lt, reduceCtorEq, if_true, if_false]
      · simp (disch := omega) only [e_X12_span_139_5, k_X12_span_139_5, e_X12_span_139_9, e_X12_span_139_17, k_X12_span_139_17, e_X12_span_139_32, k_X12_span_139_32, e_X12_span_139_35, k_X12_span_139_35, e_X12_span_139_38, k_X12_span_139_38, e_X12_span_139_48, k_X12_span_139_48, e_X12_span_139_52, k_X12_span_139_52, l1, sp, b1, hf, hw, l_greater, q_bd_l, z_ltT, z_ltF, z_eqT, z_eqF, z_ltlT, z_ltlF, z_lltT, z_lltF, z_eqlT, z_eqlF, z_in, z_k7, z_cl, z_lneg, z_llT, z_llF, z_s1, z_nI_cl, z_nlt0, z_ne_m1, z_b0, z_b1, z_la, z_al, z_lm, z_ml, z_nm, nI_add, pk_mul, ↓reduceIte, not_true_eq_false, not_false_eq_true, true_or, or_true, false_or, or_false, true_and, and_true, and_false, false_and, Classical.not_not, Nat.add_zero, z_01, z_em, z_bit_p, Nat.not_le, Nat.not_lt, reduceCtorEq, if_true, if_false]) (-1) (J, none, none) j2
  dsimp only at k1 k4
  refine ⟨K, ?_, k1.2.2.2.2.2, ?_⟩
  · rw [e_X12_span_139, l_in1 X _ I T m 30 (by omega) hm]
    have st : q_bd (z_r 1 I T) (fun v9 h' => q_res X q_sb q_pg (d + 37) cd_X12_span 5 [some (.ref 139), some (.int (nI m)), some (.int w), none, none, none, none] (v9.toList ++ [.ref 139]) h') = c_X12_span_139_21 X (d + 37) (nI m) w (-1) (nI (0 + 1)) none none J T := by
      simp (disch := omega) only [e_X12_span_139_5, k_X12_span_139_5, e_X12_span_139_9, e_X12_span_139_17, k_X12_span_139_17, e_X12_span_139_32, k_X12_span_139_32, e_X12_span_139_35, k_X12_span_139_35, e_X12_span_139_38, k_X12_span_139_38, e_X12_span_139_48, k_X12_span_139_48, e_X12_span_139_52, k_X12_span_139_52, j1, q_bd_l, z_ltT, z_ltF, z_eqT, z_eqF, z_ltlT, z_ltlF, z_lltT, z_lltF, z_eqlT, z_eqlF, z_in, z_k7, z_cl, z_lneg, z_llT, z_llF, z_s1, z_nI_cl, z_nlt0, z_ne_m1, z_b0, z_b1, z_la, z_al, z_lm, z_ml, z_nm, nI_add, pk_mul, ↓reduceIte, not_true_eq_false, not_false_eq_true, true_or, or_true, false_or, or_false, true_and, and_true, and_false, false_and, Classical.not_not, Nat.add_zero, z_01, z_em, z_bit_p, Nat.not_le, Nat.not_lt, reduceCtorEq, if_true, if_false]
      rfl
    rw [st]
    refine k4.trans ?_
    rw [e_X12_span_139_21]
    simp (disch := omega) only [q_bd_l, z_ltT, z_ltF, z_eqT, z_eqF, z_ltlT, z_ltlF, z_lltT, z_lltF, z_eqlT, z_eqlF, z_in, z_k7, z_cl, z_lneg, z_llT, z_llF, z_s1, z_nI_cl, z_nlt0, z_ne_m1, z_b0, z_b1, z_la, z_al, z_lm, z_ml, z_nm, nI_add, pk_mul, ↓reduceIte, not_true_eq_false, not_false_eq_true, true_or, or_true, false_or, or_false, true_and, and_true, and_false, false_and, Classical.not_not, Nat.add_zero, z_01, z_em, z_bit_p, Nat.not_le, Nat.not_lt, reduceCtorEq, if_true, if_false]
    rfl
  · intro a k hm
    by_cases e : a = 140
    · subst e; rw [k1.2.2.2.1]
    · exact k1.1 a k (by simp [m_qa, m_q1_of hm, e])
theorem l_span0 (X : Sx) (d : Nat) (I : Ii) (T : Tt) (v w : Int32) (hv : z_no v 31) : c_X12_span_139 X (d + 38) v w I T = z_r 0 (q_w I 139 0 1) T := by
  rw [e_X12_span_139, l_in0 X _ v I T 30 (by omega) hv]
  simp (disch := omega) only [e_X12_span_139, e_X12_span_139_5, k_X12_span_139_5, e_X12_span_139_9, e_X12_span_139_17, k_X12_span_139_17, e_X12_span_139_32, k_X12_span_139_32, e_X12_span_139_35, k_X12_span_139_35, e_X12_span_139_38, k_X12_span_139_38, e_X12_span_139_48, k_X12_span_139_48, e_X12_span_139_52, k_X12_span_139_52, q_bd_l, z_ltT, z_ltF, z_eqT, z_eqF, z_ltlT, z_ltlF, z_lltT, z_lltF, z_eqlT, z_eqlF, z_in, z_k7, z_cl, z_lneg, z_llT, z_llF, z_s1, z_nI_cl, z_nlt0, z_ne_m1, z_b0, z_b1, z_la, z_al, z_lm, z_ml, z_nm, nI_add, pk_mul, ↓reduceIte, not_true_eq_false, not_false_eq_true, true_or, or_true, false_or, or_false, true_and, and_true, and_false, false_and, Classical.not_not, Nat.add_zero, z_01, z_em, z_bit_p, Nat.not_le, Nat.not_lt, reduceCtorEq, if_true, if_false]
-- count
def R_count (r : Nat → Int32) (n : Nat) (ac v : Int32) : Int32 := if v = 0 then r 3 else if v = 1 then r 4 else if v = 2 then r 0 else if v = 3 then r 1 else if v = 4 then r 8 else if v = 5 then r 5 else if v = 6 then r 6 else if v = 7 then r 7 else if v = 8 then R_spo r n else if v = 9 then R_seals r n (nI (2 ^ n - 1)) else if v = 10 then r 9 else if v = 11 then z_set (fun j => decide (r (12 + 13 * j + 6) = 1)) n else if v = 12 then r 10 else if v = 13 then ac else -1
theorem z_no_ne {v : Int32} {n : Nat} (h : z_no v n) (hn : n < 1000000) (k : Nat) (hk : k < n) : (v = nI k) = False := by
  refine eq_false (fun e => ?_)
  subst e
  rcases h with h | h
  · exact nI_pos (by omega) h
  · exact nI_ge hk (by omega) h
theorem z_no_nel {v : Int32} {n : Nat} (h : z_no v n) (hn : n < 1000000) (k : Nat) (hk : OfNat.ofNat k < n) : (v = (no_index (OfNat.ofNat k) : Int32)) = False := z_no_ne h hn k hk
theorem l_count (X : Sx) (d : Nat) (I : Ii) (T : Tt) (n : Nat) (v : Int32) (h3 : I 140 3 = nI n) (hn : n ≤ 10) : c_X12_count_139 X (d + 4) v I T = z_r (R_count (I 140) n (I 139 6) v) (q_w I 139 0 0) T := by
  have e : (q_w I 139 0 0) 140 = I 140 := z_w_a _ _ _ _ _ (by decide)
  have e6 : (q_w I 139 0 0) 139 6 = I 139 6 := z_w_k _ _ _ _ _ (by decide)
  have h3' : (q_w I 139 0 0) 140 3 = nI n := by rw [e]; exact h3
  have a1 := l_spoons X (d + 1) (q_w I 139 0 0) T n h3' hn
  have a2 := l_allJars X (d + 2) (q_w I 139 0 0) T n h3' hn
  have a3 := fun s => l_seals X (d + 1) s (q_w I 139 0 0) T n h3' hn
  have a4 := l_opens X (d + 1) (q_w I 139 0 0) T n h3' hn
  rw [e] at a1 a4
  simp only [e] at a3
  unfold R_count
  rw [e_X12_count_139]
  rcases z_yn v 14 (by omega) with ⟨w, hw, rfl⟩ | hv
  · rcases (by omega : w = 0 ∨ w = 1 ∨ w = 2 ∨ w = 3 ∨ w = 4 ∨ w = 5 ∨ w = 6 ∨ w = 7 ∨ w = 8 ∨ w = 9 ∨ w = 10 ∨ w = 11 ∨ w = 12 ∨ w = 13) with rfl | rfl | rfl | rfl | rfl | rfl | rfl | rfl | rfl | rfl | rfl | rfl | rfl | rfl <;> (simp (disch := omega) only [e_X12_count_139_46, k_X12_count_139_46, e_X12_count_139_61, k_X12_count_139_61, e_X12_count_139_68, k_X12_count_139_68, e_X12_count_139_69, k_X12_count_139_69, e_X12_count_139_83, k_X12_count_139_83, l_isIn, a1, a2, a3, a4, e, e6, q_bd_l, z_ltT, z_ltF, z_eqT, z_eqF, z_ltlT, z_ltlF, z_lltT, z_lltF, z_eqlT, z_eqlF, z_in, z_k7, z_cl, z_lneg, z_llT, z_llF, z_s1, z_nI_cl, z_nlt0, z_ne_m1, z_b0, z_b1, z_la, z_al, z_lm, z_ml, z_nm, nI_add, pk_mul, ↓reduceIte, not_true_eq_false, not_false_eq_true, true_or, or_true, false_or, or_false, true_and, and_true, and_false, false_and, Classical.not_not, Nat.add_zero, z_01, z_em, z_bit_p, Nat.not_le, Nat.not_lt, reduceCtorEq, if_true, if_false])
  · have hin : (¬ v < 5 ∧ ¬ 7 < v) = False := by
      refine eq_false (fun a => ?_)
      have b1 := a.1; have b2 := a.2
      rw [Int32.lt_iff_toInt_lt] at b1 b2
      have e5 : (5 : Int32).toInt = 5 := rfl
      have e7 : (7 : Int32).toInt = 7 := rfl
      rcases hv with h | h
      · rw [Int32.lt_iff_toInt_lt] at h
        have e0 : (0 : Int32).toInt = 0 := rfl
        omega
      · rw [Int32.le_iff_toInt_le, nI_toInt (by omega)] at h
        omega
    simp (disch := omega) only [e_X12_count_139_46, k_X12_count_139_46, e_X12_count_139_61, k_X12_count_139_61, e_X12_count_139_68, k_X12_count_139_68, e_X12_count_139_69, k_X12_count_139_69, e_X12_count_139_83, k_X12_count_139_83, l_isIn, hin, z_no_nel hv, q_bd_l, z_ltT, z_ltF, z_eqT, z_eqF, z_ltlT, z_ltlF, z_lltT, z_lltF, z_eqlT, z_eqlF, z_in, z_k7, z_cl, z_lneg, z_llT, z_llF, z_s1, z_nI_cl, z_nlt0, z_ne_m1, z_b0, z_b1, z_la, z_al, z_lm, z_ml, z_nm, nI_add, pk_mul, ↓reduceIte, not_true_eq_false, not_false_eq_true, true_or, or_true, false_or, or_false, true_and, and_true, and_false, false_and, Classical.not_not, Nat.add_zero, z_01, z_em, z_bit_p, Nat.not_le, Nat.not_lt, reduceCtorEq, if_true, if_false]
