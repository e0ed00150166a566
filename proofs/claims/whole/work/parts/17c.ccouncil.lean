/-! ===== THE CLASS: the council ===== -/
theorem k_bc (X : Sx) (d : Nat) (I : Ii) (T : Tt) (s : Nat) (hs : s < 1024) : c_J6_bitCount_0f7a4 X (d + 1) (nI s) I T = z_r (R_bits (nI s)) I T := by
  rw [e_J6_bitCount_0f7a4]
  refine congrArg (fun v => z_r v I T) ?_
  clear T I d X
  revert s
  decide +kernel
theorem k_adv128 (X : Sx) (d : Nat) (I : Ii) (T : Tt) (r : Nat → Int32) (n m j t : Nat) (h : k_H27 I r n m) (hj : j < n) (ht : t < 6) : ∃ J, c_X1_adviceOf_128 X (d + 5) (nI j) (nI t) I T = z_r (R_adv r j t) J T ∧ z_fr m_la I J := by
  obtain ⟨J, j1, j2⟩ := k_adv27 X d I T r n m j t h hj ht
  refine ⟨J, ?_, j2⟩
  rw [e_X1_adviceOf_128, j1]
  simp (disch := omega) only [e_X1_adviceOf_128, e_X1_adviceOf_128_9, k_X1_adviceOf_128_9, q_bd_l, z_ltT, z_ltF, z_eqT, z_eqF, z_ltlT, z_ltlF, z_lltT, z_lltF, z_eqlT, z_eqlF, z_in, z_k7, z_cl, z_lneg, z_llT, z_llF, z_s1, z_nI_cl, z_nlt0, z_ne_m1, z_b0, z_b1, z_la, z_al, z_lm, z_ml, z_nm, nI_add, pk_mul, ↓reduceIte, not_true_eq_false, not_false_eq_true, true_or, or_true, false_or, or_false, true_and, and_true, and_false, false_and, Classical.not_not, Nat.add_zero, z_01, z_em, z_bit_p, Nat.not_le, Nat.not_lt, reduceCtorEq, if_true, if_false]
def m_h (a k : Nat) : Bool := m_la a k || a == 129
theorem z_cs_h {I J : Ii} (h : z_fr m_h I J) : z_fr m_cs I J := z_fr_m h (fun a k h => by
  simp [m_h] at h
  rcases h with h | h
  · simp [m_cs, h]
  · subst h; rfl)
theorem k_hear (X : Sx) (d : Nat) (I : Ii) (T : Tt) (r : Nat → Int32) (n m t : Nat) (h : k_H27 I r n m) (ht : t < 6) : ∃ J, c_X1_hear_128 X (d + 6) (nI t) I T = z_v J T ∧ z_fr m_h I J ∧ (∀ j, j < n → J 129 (j * 6 + t) = R_adv r j t) ∧ ∀ i, (∀ j, j < n → i ≠ j * 6 + t) → J 129 i = I 129 i := by
  have hn := h.1.2.1
  obtain ⟨J, ⟨p1, p2, p3⟩, p4⟩ := z_foldP (β := Unit) (σ := Ii) (fun j _ J => c_X1_hear_128_2 X (d + 5) (nI t) (nI j) J T) (fun _ u => u) (fun k _ J => z_fr m_h I J ∧ (∀ j, j < k → J 129 (j * 6 + t) = R_adv r j t) ∧ ∀ i, (∀ j, j < k → i ≠ j * 6 + t) → J 129 i = I 129 i) n (by
    intro k _ J hk ⟨q1, q2, q3⟩
    have hJ := k_H27_cs h (z_cs_h q1)
    have n3 : J 3 0 = nI n := hJ.2.1.1.trans hJ.1.1
    obtain ⟨K, k1, k2⟩ := k_adv128 X d J T r n m k t hJ hk ht
    have e129 : ∀ i, K 129 i = J 129 i := fun i => k2 129 i rfl
    refine ⟨q_w K 129 (k * 6 + t) (R_adv r k t), ⟨z_fr_w (z_fr_t q1 (z_fr_m k2 (fun a k h => by simp [m_h, h]))) 129 _ _ (by simp [m_h]), fun j hj => ?_, fun i hi => ?_⟩, ?_⟩
    · by_cases e : j = k
      · subst e; exact z_w_s _ _ _ _
      · rw [z_w_k _ _ _ _ _ (by omega), e129]; exact q2 j (by omega)
    · rw [z_w_k _ _ _ _ _ (hi k (by omega)), e129]; exact q3 i (fun j hj => hi j (by omega))
    · rw [e_X1_hear_128_2]
      simp (disch := omega) only [e_X1_hear_128_18, k_X1_hear_128_18, n3, k1, q_bd_l, z_ltT, z_ltF, z_eqT, z_eqF, z_ltlT, z_ltlF, z_lltT, z_lltF, z_eqlT, z_eqlF, z_in, z_k7, z_cl, z_lneg, z_llT, z_llF, z_s1, z_nI_cl, z_nlt0, z_ne_m1, z_b0, z_b1, z_la, z_al, z_lm, z_ml, z_nm, nI_add, pk_mul, ↓reduceIte, not_true_eq_false, not_false_eq_true, true_or, or_true, false_or, or_false, true_and, and_true, and_false, false_and, Classical.not_not, Nat.add_zero, z_01, z_em, z_bit_p, Nat.not_le, Nat.not_lt, reduceCtorEq, if_true, if_false]) () I ⟨z_fr_r _ _, fun j hj => (by omega), fun i _ => rfl⟩
  have hJ := k_H27_cs h (z_cs_h p1)
  have n3 : J 3 0 = nI n := hJ.2.1.1.trans hJ.1.1
  refine ⟨J, ?_, p1, p2, p3⟩
  rw [e_X1_hear_128]
  refine p4.trans ?_
  rw [e_X1_hear_128_2]
  simp (disch := omega) only [n3, q_bd_l, z_ltT, z_ltF, z_eqT, z_eqF, z_ltlT, z_ltlF, z_lltT, z_lltF, z_eqlT, z_eqlF, z_in, z_k7, z_cl, z_lneg, z_llT, z_llF, z_s1, z_nI_cl, z_nlt0, z_ne_m1, z_b0, z_b1, z_la, z_al, z_lm, z_ml, z_nm, nI_add, pk_mul, ↓reduceIte, not_true_eq_false, not_false_eq_true, true_or, or_true, false_or, or_false, true_and, and_true, and_false, false_and, Classical.not_not, Nat.add_zero, z_01, z_em, z_bit_p, Nat.not_le, Nat.not_lt, reduceCtorEq, if_true, if_false]
/-- all was heard -/
def k_A (I : Ii) (r : Nat → Int32) (n m : Nat) : Prop := k_H27 I r n m ∧ ∀ j t, j < n → t < 6 → I 129 (j * 6 + t) = R_adv r j t
theorem k_hearAll (X : Sx) (d : Nat) (I : Ii) (T : Tt) (r : Nat → Int32) (n m : Nat) (h : k_H27 I r n m) : ∃ J, c_X1_hearAll_128 X (d + 7) I T = z_v J T ∧ z_fr m_cs I J ∧ k_A J r n m := by
  have hn := h.1.2.1
  obtain ⟨J, ⟨p1, p2⟩, p4⟩ := z_foldP (β := Unit) (σ := Ii) (fun t _ J => c_X1_hearAll_128_2 X (d + 6) (nI t) J T) (fun _ u => u) (fun k _ J => z_fr m_h I J ∧ ∀ j t, j < n → t < k → J 129 (j * 6 + t) = R_adv r j t) 6 (by
    intro t _ J ht ⟨q1, q2⟩
    have hJ := k_H27_cs h (z_cs_h q1)
    obtain ⟨K, k1, k2, k3, k4⟩ := k_hear X d J T r n m t hJ ht
    refine ⟨K, ⟨z_fr_t q1 k2, fun j t' hj ht' => ?_⟩, ?_⟩
    · by_cases e : t' = t
      · subst e; exact k3 j hj
      · rw [k4 _ (fun j' hj' => by omega)]; exact q2 j t' hj (by omega)
    · rw [e_X1_hearAll_128_2]
      simp (disch := omega) only [e_X1_hearAll_128_8, k_X1_hearAll_128_8, k1, q_bd_l, z_ltT, z_ltF, z_eqT, z_eqF, z_ltlT, z_ltlF, z_lltT, z_lltF, z_eqlT, z_eqlF, z_in, z_k7, z_cl, z_lneg, z_llT, z_llF, z_s1, z_nI_cl, z_nlt0, z_ne_m1, z_b0, z_b1, z_la, z_al, z_lm, z_ml, z_nm, nI_add, pk_mul, ↓reduceIte, not_true_eq_false, not_false_eq_true, true_or, or_true, false_or, or_false, true_and, and_true, and_false, false_and, Classical.not_not, Nat.add_zero, z_01, z_em, z_bit_p, Nat.not_le, Nat.not_lt, reduceCtorEq, if_true, if_false]) () I ⟨z_fr_r _ _, fun j t hj ht => by omega⟩
  refine ⟨J, ?_, z_cs_h p1, k_H27_cs h (z_cs_h p1), p2⟩
  rw [e_X1_hearAll_128]
  refine p4.trans ?_
  rw [e_X1_hearAll_128_2]
  simp (disch := omega) only [q_bd_l, z_ltT, z_ltF, z_eqT, z_eqF, z_ltlT, z_ltlF, z_lltT, z_lltF, z_eqlT, z_eqlF, z_in, z_k7, z_cl, z_lneg, z_llT, z_llF, z_s1, z_nI_cl, z_nlt0, z_ne_m1, z_b0, z_b1, z_la, z_al, z_lm, z_ml, z_nm, nI_add, pk_mul, ↓reduceIte, not_true_eq_false, not_false_eq_true, true_or, or_true, false_or, or_false, true_and, and_true, and_false, false_and, Classical.not_not, Nat.add_zero, z_01, z_em, z_bit_p, Nat.not_le, Nat.not_lt, reduceCtorEq, if_true, if_false]
theorem k_heard (X : Sx) (d : Nat) (I : Ii) (T : Tt) (r : Nat → Int32) (n m j t : Nat) (h : k_A I r n m) (hj : j < n) (ht : t < 6) : c_X1_heard_128 X (d + 1) (nI j) (nI t) I T = z_r (R_adv r j t) I T := by
  have hn := h.1.1.2.1
  have e := h.2 j t hj ht
  rw [e_X1_heard_128]
  simp (disch := omega) only [e, q_bd_l, z_ltT, z_ltF, z_eqT, z_eqF, z_ltlT, z_ltlF, z_lltT, z_lltF, z_eqlT, z_eqlF, z_in, z_k7, z_cl, z_lneg, z_llT, z_llF, z_s1, z_nI_cl, z_nlt0, z_ne_m1, z_b0, z_b1, z_la, z_al, z_lm, z_ml, z_nm, nI_add, pk_mul, ↓reduceIte, not_true_eq_false, not_false_eq_true, true_or, or_true, false_or, or_false, true_and, and_true, and_false, false_and, Classical.not_not, Nat.add_zero, z_01, z_em, z_bit_p, Nat.not_le, Nat.not_lt, reduceCtorEq, if_true, if_false]
theorem k_n3 {I : Ii} {r : Nat → Int32} {n m : Nat} (h : k_H27 I r n m) : I 3 0 = nI n := h.2.1.1.trans h.1.1
theorem k_cIn (X : Sx) (d : Nat) (s : Int32) (k : Nat) (I : Ii) (T : Tt) : c_X1_isIn X (d + 1) s (nI k) I T = z_r (z_b (z_bit s k = true)) I T := by
  rw [e_X1_isIn]
  unfold z_b
  simp only [z_bit_p]
  split <;> rfl
-- clashes
theorem R_dc_self (r : Nat → Int32) (j : Nat) : R_dc r j j = false := by
  unfold R_dc
  cases hq : z_any (fun t => decide (¬ z_sz (R_adv r j t - R_adv r j t) < 5)) 6
  · rfl
  · rw [z_any_p] at hq
    obtain ⟨k, -, h⟩ := hq
    exfalso
    rw [decide_eq_true_eq, Int32.sub_self] at h
    exact h (by decide)
theorem R_cl_eq (r : Nat → Int32) (n j : Nat) : R_cl r n j = z_set (fun o => R_dc r j o) n := z_set_c (fun o _ => by
  by_cases e : o = j
  · subst e; rw [R_dc_self]; simp
  · simp [e])
theorem k_doClash (X : Sx) (d : Nat) (I : Ii) (T : Tt) (r : Nat → Int32) (n m j o : Nat) (h : k_A I r n m) (hj : j < n) (ho : o < n) : c_X1_doClash_128 X (d + 2) (nI j) (nI o) I T = z_r (z_i (R_dc r j o)) I T := by
  rw [e_X1_doClash_128]
  refine (z_find (fun t => c_X1_doClash_128_2 X (d + 1) (nI j) (nI o) (nI t) I T) (fun _ => z_r 1 I T) (fun t => decide (¬ z_sz (R_adv r j t - R_adv r o t) < 5)) 6 (fun t ht => ?_)).trans ?_
  · rw [e_X1_doClash_128_2]
    by_cases hc : z_sz (R_adv r j t - R_adv r o t) < 5 <;> simp (disch := omega) only [e_X1_doClash_128_9, k_X1_doClash_128_9, e_X1_doClash_128_13, k_X1_doClash_128_13, k_heard X _ I T r n m j t h hj ht, k_heard X _ I T r n m o t h ho ht, z_abs_c, hc, q_bd_l, z_ltT, z_ltF, z_eqT, z_eqF, z_ltlT, z_ltlF, z_lltT, z_lltF, z_eqlT, z_eqlF, z_in, z_k7, z_cl, z_lneg, z_llT, z_llF, z_s1, z_nI_cl, z_nlt0, z_ne_m1, z_b0, z_b1, z_la, z_al, z_lm, z_ml, z_nm, nI_add, pk_mul, ↓reduceIte, not_true_eq_false, not_false_eq_true, true_or, or_true, false_or, or_false, true_and, and_true, and_false, false_and, Classical.not_not, Nat.add_zero, z_01, z_em, z_bit_p, Nat.not_le, Nat.not_lt, reduceCtorEq, if_true, if_false, decide_true, decide_false, Bool.and_true, Bool.and_false, Bool.true_and, Bool.false_and, Bool.or_true, Bool.or_false, Bool.true_or, Bool.false_or, Bool.false_eq_true, ne_eq, Bool.not_true, Bool.not_false, decide_not]
  · rw [e_X1_doClash_128_2]
    unfold R_dc
    by_cases hz : z_fst (fun t => decide (¬ z_sz (R_adv r j t - R_adv r o t) < 5)) 6 < 6
    · rw [if_pos hz, z_fst_any.mpr hz]; rfl
    · rw [if_neg hz]
      cases hq : z_any (fun t => decide (¬ z_sz (R_adv r j t - R_adv r o t) < 5)) 6
      · simp (disch := omega) only [q_bd_l, z_ltT, z_ltF, z_eqT, z_eqF, z_ltlT, z_ltlF, z_lltT, z_lltF, z_eqlT, z_eqlF, z_in, z_k7, z_cl, z_lneg, z_llT, z_llF, z_s1, z_nI_cl, z_nlt0, z_ne_m1, z_b0, z_b1, z_la, z_al, z_lm, z_ml, z_nm, nI_add, pk_mul, ↓reduceIte, not_true_eq_false, not_false_eq_true, true_or, or_true, false_or, or_false, true_and, and_true, and_false, false_and, Classical.not_not, Nat.add_zero, z_01, z_em, z_bit_p, Nat.not_le, Nat.not_lt, reduceCtorEq, if_true, if_false]
        rfl
      · exact absurd (z_fst_any.mp hq) hz
theorem k_heardClashes (X : Sx) (d : Nat) (I : Ii) (T : Tt) (r : Nat → Int32) (n m j : Nat) (h : k_A I r n m) (hj : j < n) : c_X1_heardClashes_128 X (d + 3) (nI j) I T = z_r (R_cl r n j) I T := by
  have hn := h.1.1.2.1
  have n3 := k_n3 h.1
  rw [e_X1_heardClashes_128, R_cl_eq]
  refine (z_for (fun o a => c_X1_heardClashes_128_4 X (d + 2) (nI j) a (nI o) I T) (fun o a => a ||| (if R_dc r j o = true then (1 : Int32) <<< (nI o &&& 31) else 0)) n (fun o a ho => ?_) 0).trans ?_
  · rw [e_X1_heardClashes_128_4]
    cases hc : R_dc r j o <;> simp (disch := omega) only [e_X1_heardClashes_128_14, k_X1_heardClashes_128_14, e_X1_heardClashes_128_20, n3, k_doClash X _ I T r n m j o h hj ho, hc, z_i, q_bd_l, z_ltT, z_ltF, z_eqT, z_eqF, z_ltlT, z_ltlF, z_lltT, z_lltF, z_eqlT, z_eqlF, z_in, z_k7, z_cl, z_lneg, z_llT, z_llF, z_s1, z_nI_cl, z_nlt0, z_ne_m1, z_b0, z_b1, z_la, z_al, z_lm, z_ml, z_nm, nI_add, pk_mul, ↓reduceIte, not_true_eq_false, not_false_eq_true, true_or, or_true, false_or, or_false, true_and, and_true, and_false, false_and, Classical.not_not, Nat.add_zero, z_01, z_em, z_bit_p, Nat.not_le, Nat.not_lt, reduceCtorEq, if_true, if_false, decide_true, decide_false, Bool.and_true, Bool.and_false, Bool.true_and, Bool.false_and, Bool.or_true, Bool.or_false, Bool.true_or, Bool.false_or, Bool.false_eq_true, ne_eq, Bool.not_true, Bool.not_false, decide_not]
  · rw [e_X1_heardClashes_128_4]
    simp (disch := omega) only [n3, q_bd_l, z_ltT, z_ltF, z_eqT, z_eqF, z_ltlT, z_ltlF, z_lltT, z_lltF, z_eqlT, z_eqlF, z_in, z_k7, z_cl, z_lneg, z_llT, z_llF, z_s1, z_nI_cl, z_nlt0, z_ne_m1, z_b0, z_b1, z_la, z_al, z_lm, z_ml, z_nm, nI_add, pk_mul, ↓reduceIte, not_true_eq_false, not_false_eq_true, true_or, or_true, false_or, or_false, true_and, and_true, and_false, false_and, Classical.not_not, Nat.add_zero, z_01, z_em, z_bit_p, Nat.not_le, Nat.not_lt, reduceCtorEq, if_true, if_false]
    rfl
theorem k_clashesWith (X : Sx) (d : Nat) (I : Ii) (T : Tt) (r : Nat → Int32) (n m j : Nat) (h : k_H27 I r n m) (hj : j < n) : ∃ J, c_X1_clashesWith_128 X (d + 8) (nI j) I T = z_r (R_cl r n j) J T ∧ z_fr m_cs I J := by
  obtain ⟨J, j1, j2, j3⟩ := k_hearAll X d I T r n m h
  refine ⟨J, ?_, j2⟩
  rw [e_X1_clashesWith_128, j1]
  simp (disch := omega) only [e_X1_clashesWith_128, e_X1_clashesWith_128_2, k_X1_clashesWith_128_2, e_X1_clashesWith_128_5, k_X1_clashesWith_128_5, k_heardClashes X _ J T r n m j j3 hj, q_bd_l, z_ltT, z_ltF, z_eqT, z_eqF, z_ltlT, z_ltlF, z_lltT, z_lltF, z_eqlT, z_eqlF, z_in, z_k7, z_cl, z_lneg, z_llT, z_llF, z_s1, z_nI_cl, z_nlt0, z_ne_m1, z_b0, z_b1, z_la, z_al, z_lm, z_ml, z_nm, nI_add, pk_mul, ↓reduceIte, not_true_eq_false, not_false_eq_true, true_or, or_true, false_or, or_false, true_and, and_true, and_false, false_and, Classical.not_not, Nat.add_zero, z_01, z_em, z_bit_p, Nat.not_le, Nat.not_lt, reduceCtorEq, if_true, if_false]
-- alike
theorem k_areAlike (X : Sx) (d : Nat) (I : Ii) (T : Tt) (r : Nat → Int32) (n m j o : Nat) (h : k_A I r n m) (hj : j < n) (ho : o < n) : c_X1_areAlike_128 X (d + 2) (nI j) (nI o) I T = z_r (z_i (z_all (fun t => decide (R_adv r o t = R_adv r j t)) 6)) I T := by
  rw [e_X1_areAlike_128]
  refine (z_find (fun t => c_X1_areAlike_128_2 X (d + 1) (nI j) (nI o) (nI t) I T) (fun _ => z_r 0 I T) (fun t => decide (¬ R_adv r j t = R_adv r o t)) 6 (fun t ht => ?_)).trans ?_
  · rw [e_X1_areAlike_128_2]
    by_cases hc : R_adv r j t = R_adv r o t <;> simp (disch := omega) only [e_X1_areAlike_128_9, k_X1_areAlike_128_9, e_X1_areAlike_128_13, k_X1_areAlike_128_13, k_heard X _ I T r n m j t h hj ht, k_heard X _ I T r n m o t h ho ht, hc, q_bd_l, z_ltT, z_ltF, z_eqT, z_eqF, z_ltlT, z_ltlF, z_lltT, z_lltF, z_eqlT, z_eqlF, z_in, z_k7, z_cl, z_lneg, z_llT, z_llF, z_s1, z_nI_cl, z_nlt0, z_ne_m1, z_b0, z_b1, z_la, z_al, z_lm, z_ml, z_nm, nI_add, pk_mul, ↓reduceIte, not_true_eq_false, not_false_eq_true, true_or, or_true, false_or, or_false, true_and, and_true, and_false, false_and, Classical.not_not, Nat.add_zero, z_01, z_em, z_bit_p, Nat.not_le, Nat.not_lt, reduceCtorEq, if_true, if_false, decide_true, decide_false, Bool.and_true, Bool.and_false, Bool.true_and, Bool.false_and, Bool.or_true, Bool.or_false, Bool.true_or, Bool.false_or, Bool.false_eq_true, ne_eq, Bool.not_true, Bool.not_false, decide_not]
  · rw [e_X1_areAlike_128_2]
    by_cases hz : z_fst (fun t => decide (¬ R_adv r j t = R_adv r o t)) 6 < 6
    · rw [if_pos hz]
      have hq := z_fst_any.mpr hz
      rw [z_any_p] at hq
      obtain ⟨k, hk, hp⟩ := hq
      cases ha : z_all (fun t => decide (R_adv r o t = R_adv r j t)) 6
      · rfl
      · rw [z_all_p] at ha
        exact absurd (of_decide_eq_true (ha k hk)).symm (of_decide_eq_true hp)
    · rw [if_neg hz]
      have ha : z_all (fun t => decide (R_adv r o t = R_adv r j t)) 6 = true := by
        rw [z_all_p]
        intro k hk
        rw [decide_eq_true_eq]
        by_cases e : R_adv r o k = R_adv r j k
        · exact e
        · exact absurd (z_fst_any.mp (by rw [z_any_p]; exact ⟨k, hk, decide_eq_true (fun a => e a.symm)⟩)) hz
      rw [ha]
      simp (disch := omega) only [q_bd_l, z_ltT, z_ltF, z_eqT, z_eqF, z_ltlT, z_ltlF, z_lltT, z_lltF, z_eqlT, z_eqlF, z_in, z_k7, z_cl, z_lneg, z_llT, z_llF, z_s1, z_nI_cl, z_nlt0, z_ne_m1, z_b0, z_b1, z_la, z_al, z_lm, z_ml, z_nm, nI_add, pk_mul, ↓reduceIte, not_true_eq_false, not_false_eq_true, true_or, or_true, false_or, or_false, true_and, and_true, and_false, false_and, Classical.not_not, Nat.add_zero, z_01, z_em, z_bit_p, Nat.not_le, Nat.not_lt, reduceCtorEq, if_true, if_false]
      rfl
theorem k_alikeTo (X : Sx) (d : Nat) (I : Ii) (T : Tt) (r : Nat → Int32) (n m j : Nat) (h : k_H27 I r n m) (hj : j < n) : ∃ J, c_X1_alikeTo_128 X (d + 8) (nI j) I T = z_r (R_al r n j) J T ∧ z_fr m_cs I J := by
  have hn := h.1.2.1
  obtain ⟨J, j1, j2, j3⟩ := k_hearAll X d I T r n m h
  have n3 := k_n3 j3.1
  refine ⟨J, ?_, j2⟩
  rw [e_X1_alikeTo_128, j1]
  simp (disch := omega) only [e_X1_alikeTo_128_2, k_X1_alikeTo_128_2, q_bd_l, z_ltT, z_ltF, z_eqT, z_eqF, z_ltlT, z_ltlF, z_lltT, z_lltF, z_eqlT, z_eqlF, z_in, z_k7, z_cl, z_lneg, z_llT, z_llF, z_s1, z_nI_cl, z_nlt0, z_ne_m1, z_b0, z_b1, z_la, z_al, z_lm, z_ml, z_nm, nI_add, pk_mul, ↓reduceIte, not_true_eq_false, not_false_eq_true, true_or, or_true, false_or, or_false, true_and, and_true, and_false, false_and, Classical.not_not, Nat.add_zero, z_01, z_em, z_bit_p, Nat.not_le, Nat.not_lt, reduceCtorEq, if_true, if_false]
  refine (z_for (fun o a => c_X1_alikeTo_128_6 X (d + 7) (nI j) a (nI o) J T) (fun o a => a ||| (if (decide (o ≠ j) && z_all (fun t => decide (R_adv r o t = R_adv r j t)) 6) = true then (1 : Int32) <<< (nI o &&& 31) else 0)) n (fun o a ho => ?_) 0).trans ?_
  · rw [e_X1_alikeTo_128_6]
    by_cases e : o = j
    · subst e
      simp (disch := omega) only [e_X1_alikeTo_128_2, k_X1_alikeTo_128_2, e_X1_alikeTo_128_19, k_X1_alikeTo_128_19, e_X1_alikeTo_128_24, e_X1_alikeTo_128_25, n3, q_bd_l, z_ltT, z_ltF, z_eqT, z_eqF, z_ltlT, z_ltlF, z_lltT, z_lltF, z_eqlT, z_eqlF, z_in, z_k7, z_cl, z_lneg, z_llT, z_llF, z_s1, z_nI_cl, z_nlt0, z_ne_m1, z_b0, z_b1, z_la, z_al, z_lm, z_ml, z_nm, nI_add, pk_mul, ↓reduceIte, not_true_eq_false, not_false_eq_true, true_or, or_true, false_or, or_false, true_and, and_true, and_false, false_and, Classical.not_not, Nat.add_zero, z_01, z_em, z_bit_p, Nat.not_le, Nat.not_lt, reduceCtorEq, if_true, if_false, decide_true, decide_false, Bool.and_true, Bool.and_false, Bool.true_and, Bool.false_and, Bool.or_true, Bool.or_false, Bool.true_or, Bool.false_or, Bool.false_eq_true, ne_eq, Bool.not_true, Bool.not_false, decide_not]
    · cases hc : z_all (fun t => decide (R_adv r o t = R_adv r j t)) 6 <;> simp (disch := omega) only [e_X1_alikeTo_128_2, k_X1_alikeTo_128_2, e_X1_alikeTo_128_19, k_X1_alikeTo_128_19, e_X1_alikeTo_128_24, e_X1_alikeTo_128_25, n3, e, k_areAlike X _ J T r n m j o j3 hj ho, hc, z_i, q_bd_l, z_ltT, z_ltF, z_eqT, z_eqF, z_ltlT, z_ltlF, z_lltT, z_lltF, z_eqlT, z_eqlF, z_in, z_k7, z_cl, z_lneg, z_llT, z_llF, z_s1, z_nI_cl, z_nlt0, z_ne_m1, z_b0, z_b1, z_la, z_al, z_lm, z_ml, z_nm, nI_add, pk_mul, ↓reduceIte, not_true_eq_false, not_false_eq_true, true_or, or_true, false_or, or_false, true_and, and_true, and_false, false_and, Classical.not_not, Nat.add_zero, z_01, z_em, z_bit_p, Nat.not_le, Nat.not_lt, reduceCtorEq, if_true, if_false, decide_true, decide_false, Bool.and_true, Bool.and_false, Bool.true_and, Bool.false_and, Bool.or_true, Bool.or_false, Bool.true_or, Bool.false_or, Bool.false_eq_true, ne_eq, Bool.not_true, Bool.not_false, decide_not]
  · rw [e_X1_alikeTo_128_6]
    simp (disch := omega) only [n3, q_bd_l, z_ltT, z_ltF, z_eqT, z_eqF, z_ltlT, z_ltlF, z_lltT, z_lltF, z_eqlT, z_eqlF, z_in, z_k7, z_cl, z_lneg, z_llT, z_llF, z_s1, z_nI_cl, z_nlt0, z_ne_m1, z_b0, z_b1, z_la, z_al, z_lm, z_ml, z_nm, nI_add, pk_mul, ↓reduceIte, not_true_eq_false, not_false_eq_true, true_or, or_true, false_or, or_false, true_and, and_true, and_false, false_and, Classical.not_not, Nat.add_zero, z_01, z_em, z_bit_p, Nat.not_le, Nat.not_lt, reduceCtorEq, if_true, if_false]
    rfl
-- mixtures
theorem k_mixedC (X : Sx) (d : Nat) (I : Ii) (T : Tt) (r : Nat → Int32) (a b t : Nat) : c_X1_mixed X (d + 1) (R_adv r a t) (R_adv r b t) I T = z_r (R_mx r a b t) I T := by
  rw [e_X1_mixed]
  unfold R_mx
  simp only [z_abs_c]
  by_cases hc : z_sz (R_adv r a t - R_adv r b t) < 5 <;> simp (disch := omega) only [hc, q_bd_l, z_ltT, z_ltF, z_eqT, z_eqF, z_ltlT, z_ltlF, z_lltT, z_lltF, z_eqlT, z_eqlF, z_in, z_k7, z_cl, z_lneg, z_llT, z_llF, z_s1, z_nI_cl, z_nlt0, z_ne_m1, z_b0, z_b1, z_la, z_al, z_lm, z_ml, z_nm, nI_add, pk_mul, ↓reduceIte, not_true_eq_false, not_false_eq_true, true_or, or_true, false_or, or_false, true_and, and_true, and_false, false_and, Classical.not_not, Nat.add_zero, z_01, z_em, z_bit_p, Nat.not_le, Nat.not_lt, reduceCtorEq, if_true, if_false]
theorem k_mixtureOf (X : Sx) (d : Nat) (I : Ii) (T : Tt) (r : Nat → Int32) (n m a b t : Nat) (h : k_H27 I r n m) (ha : a < n) (hb : b < n) (ht : t < 6) : ∃ J, c_X1_mixtureOf_128 X (d + 6) (nI a) (nI b) (nI t) I T = z_r (R_mx r a b t) J T ∧ z_fr m_cs I J := by
  obtain ⟨J, j1, j2⟩ := k_adv128 X d I T r n m a t h ha ht
  obtain ⟨K, k1, k2⟩ := k_adv128 X d J T r n m b t (k_H27_fr h j2) hb ht
  refine ⟨K, ?_, z_cs_la (z_fr_t j2 k2)⟩
  rw [e_X1_mixtureOf_128, j1]
  simp (disch := omega) only [e_X1_mixtureOf_128, e_X1_mixtureOf_128_4, k_X1_mixtureOf_128_4, e_X1_mixtureOf_128_8, k_X1_mixtureOf_128_8, e_X1_mixtureOf_128_9, k_X1_mixtureOf_128_9, k1, k_mixedC, q_bd_l, z_ltT, z_ltF, z_eqT, z_eqF, z_ltlT, z_ltlF, z_lltT, z_lltF, z_eqlT, z_eqlF, z_in, z_k7, z_cl, z_lneg, z_llT, z_llF, z_s1, z_nI_cl, z_nlt0, z_ne_m1, z_b0, z_b1, z_la, z_al, z_lm, z_ml, z_nm, nI_add, pk_mul, ↓reduceIte, not_true_eq_false, not_false_eq_true, true_or, or_true, false_or, or_false, true_and, and_true, and_false, false_and, Classical.not_not, Nat.add_zero, z_01, z_em, z_bit_p, Nat.not_le, Nat.not_lt, reduceCtorEq, if_true, if_false]
