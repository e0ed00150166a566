/-! ===== THE CLASS: what is to come ===== -/
/-- what questions may change in the class -/
def m_cs (a k : Nat) : Bool := m_la a k || (Nat.ble 32 a && Nat.ble a 36) || (Nat.ble 129 a && Nat.ble a 131) || a == 133 || a == 134 || (Nat.ble 136 a && Nat.ble a 138) || (a == 135 && k == 7) || (a == 1 && (Nat.ble 2 k && Nat.ble k 6)) || (Nat.ble 11 a && Nat.ble a 18) || (Nat.ble 48 a && Nat.ble a 53)
theorem z_cs_la {I J : Ii} (h : z_fr m_la I J) : z_fr m_cs I J := z_fr_m h (fun a k h => by simp [m_cs, h])
theorem z_cs_32 {I J : Ii} (h : z_fr (m_mo 32) I J) : z_fr m_cs I J := z_fr_m h (fun a k h => by
  simp [m_mo] at h
  simp [m_cs]
  rcases h with (h | h) | h
  · simp [h]
  · omega
  · omega)
theorem k_H27_cs {I J : Ii} {r : Nat → Int32} {n m : Nat} (h : k_H27 I r n m) (hf : z_fr m_cs I J) : k_H27 J r n m := by
  obtain ⟨h1, h2, h3, h4⟩ := h
  have row : ∀ a, (3 ≤ a ∧ a ≤ 10) ∨ (27 ≤ a ∧ a ≤ 31) ∨ (43 ≤ a ∧ a ≤ 46) → J a = I a := fun a ha => z_fr_row hf a (fun k => by
    rcases (by omega : a = 3 ∨ a = 4 ∨ a = 5 ∨ a = 6 ∨ a = 7 ∨ a = 8 ∨ a = 9 ∨ a = 10 ∨ a = 27 ∨ a = 28 ∨ a = 29 ∨ a = 30 ∨ a = 31 ∨ a = 43 ∨ a = 44 ∨ a = 45 ∨ a = 46) with rfl | rfl | rfl | rfl | rfl | rfl | rfl | rfl | rfl | rfl | rfl | rfl | rfl | rfl | rfl | rfl | rfl <;> rfl)
  refine ⟨h1, z_Sh_fr h2 (fun a _ _ => row a (by omega)), z_Mo_fr h3 (fun a _ _ => row a (by omega)), z_La_fr h4 (hf 42 0 rfl) (fun a _ _ => row a (by omega))⟩
/-- what looking ahead changes -/
def m_lk (a k : Nat) : Bool := m_la a k || (Nat.ble 32 a && Nat.ble a 36)
theorem z_cs_m32 {I J : Ii} (h : z_fr m_lk I J) : z_fr m_cs I J := z_fr_m h (fun a k h => by
  simp only [m_lk] at h
  simp only [m_cs, h, Bool.true_or])
theorem z_32_la {I J : Ii} (h : z_fr m_la I J) : z_fr m_lk I J := z_fr_m h (fun a k h => by simp [m_lk, h])
theorem z_32_mo {I J : Ii} (h : z_fr (m_mo 32) I J) : z_fr m_lk I J := z_fr_m h (fun a k h => by
  simp [m_mo] at h
  simp [m_lk]
  rcases h with (h | h) | h
  · simp [h]
  · omega
  · omega)
theorem k_become32 (X : Sx) (d : Nat) (I : Ii) (T : Tt) (r : Nat → Int32) (n m : Nat) (h : k_H27 I r n m) : ∃ J, c_X7_become_32_27 X (d + 1) I T = z_v J T ∧ z_fr m_lk I J ∧ k_H32 J r n m := by
  have hn := h.1.2.1
  refine ⟨_, e_X7_become_32_27 X d I T, ?_, ?_⟩
  · intro a k hm
    have ha : a ≠ 32 ∧ a ≠ 33 ∧ a ≠ 34 ∧ a ≠ 35 ∧ a ≠ 36 := by
      refine ⟨?_, ?_, ?_, ?_, ?_⟩ <;> (intro e; subst e; exact absurd (hm.symm.trans (rfl : m_lk _ k = true)) (by decide))
    obtain ⟨h0, h1, h2, h3, h4⟩ := ha
    rw [z_w_a _ _ _ _ _ h0, z_w_a _ _ _ _ _ h0, z_w_a _ _ _ _ _ h0, z_w_a _ _ _ _ _ h0, z_w_a _ _ _ _ _ h0, z_w_a _ _ _ _ _ h0, z_y_a _ _ _ _ _ _ _ h4, z_y_a _ _ _ _ _ _ _ h3, z_y_a _ _ _ _ _ _ _ h2, z_y_a _ _ _ _ _ _ _ h1]
  · obtain ⟨h1, h2, h3, h4⟩ := h
    obtain ⟨b1, b2, b3, b4, b5, b6, b7, b8, o, b9, b10, b11⟩ := h3
    have ot : ∀ a, a < 32 ∨ 36 < a → (q_w (q_w (q_w (q_w (q_w (q_w (q_y (q_y (q_y (q_y I 28 0 33 0 10) 29 0 34 0 10) 30 0 35 0 10) 31 0 36 0 10) 32 4 (I 27 4)) 32 5 (I 27 5)) 32 6 (I 27 6)) 32 7 (I 27 7)) 32 8 (I 27 8)) 32 9 (I 27 9)) a = I a := by
      intro a ha
      rw [z_w_a _ _ _ _ _ (by omega), z_w_a _ _ _ _ _ (by omega), z_w_a _ _ _ _ _ (by omega), z_w_a _ _ _ _ _ (by omega), z_w_a _ _ _ _ _ (by omega), z_w_a _ _ _ _ _ (by omega), z_y_a _ _ _ _ _ _ _ (by omega), z_y_a _ _ _ _ _ _ _ (by omega), z_y_a _ _ _ _ _ _ _ (by omega), z_y_a _ _ _ _ _ _ _ (by omega)]
    refine ⟨h1, z_Sh_fr h2 (fun a _ _ => ot a (by omega)), ?_, z_La_fr h4 (by rw [ot 42 (by omega)]) (fun a _ _ => ot a (by omega))⟩
    have w : ∀ a, 33 ≤ a → a ≤ 36 → (q_w (q_w (q_w (q_w (q_w (q_w (q_y (q_y (q_y (q_y I 28 0 33 0 10) 29 0 34 0 10) 30 0 35 0 10) 31 0 36 0 10) 32 4 (I 27 4)) 32 5 (I 27 5)) 32 6 (I 27 6)) 32 7 (I 27 7)) 32 8 (I 27 8)) 32 9 (I 27 9)) a = (q_y (q_y (q_y (q_y I 28 0 33 0 10) 29 0 34 0 10) 30 0 35 0 10) 31 0 36 0 10) a := by
      intro a h1 h2
      rw [z_w_a _ _ _ _ _ (by omega), z_w_a _ _ _ _ _ (by omega), z_w_a _ _ _ _ _ (by omega), z_w_a _ _ _ _ _ (by omega), z_w_a _ _ _ _ _ (by omega), z_w_a _ _ _ _ _ (by omega)]
    refine ⟨?_, ?_, ?_, ?_, ?_, ?_, ?_, ?_, o, b9, ?_, b11⟩
    · simp [z_w]; exact b1
    · simp [z_w]; exact b2
    · simp [z_w]; exact b3
    · simp [z_w]; exact b4
    · intro j hj
      rw [w _ (by omega) (by omega), z_y_a _ _ _ _ _ _ _ (by decide), z_y_a _ _ _ _ _ _ _ (by decide), z_y_a _ _ _ _ _ _ _ (by decide), z_y_in _ _ _ _ _ (by omega)]; exact b5 j hj
    · intro j hj
      rw [w _ (by omega) (by omega), z_y_a _ _ _ _ _ _ _ (by decide), z_y_a _ _ _ _ _ _ _ (by decide), z_y_in _ _ _ _ _ (by omega), z_y_a _ _ _ _ _ _ _ (by decide)]; exact b6 j hj
    · intro j hj
      rw [w _ (by omega) (by omega), z_y_a _ _ _ _ _ _ _ (by decide), z_y_in _ _ _ _ _ (by omega), z_y_a _ _ _ _ _ _ _ (by decide), z_y_a _ _ _ _ _ _ _ (by decide)]; exact b7 j hj
    · intro j hj
      rw [w _ (by omega) (by omega), z_y_in _ _ _ _ _ (by omega), z_y_a _ _ _ _ _ _ _ (by decide), z_y_a _ _ _ _ _ _ _ (by decide), z_y_a _ _ _ _ _ _ _ (by decide)]; exact b8 j hj
    · simp [z_w]; exact b10
theorem k_lookOn (X : Sx) (d : Nat) (I : Ii) (T : Tt) (r : Nat → Int32) (n m : Nat) (h : k_H32 I r n m) : ∃ J, c_X2_lookOn_135 X (d + 6) I T = z_v J T ∧ z_fr m_lk I J ∧ k_H32 J (R_ah n r) n m := by
  obtain ⟨J, j1, j2, j3⟩ := k_goOn32 X d I T r n m h
  have e5 : J 32 5 = R_sours n r 8 := j3.2.2.1.1
  refine ⟨_, ?_, z_fr_w (z_32_mo j2) 32 5 _ rfl, k_H32_year j3 (R_sours n r 8 + 1)⟩
  rw [e_X2_lookOn_135, j1]
  simp (disch := omega) only [e_X2_lookOn_135, e_X2_lookOn_135_4, k_X2_lookOn_135_4, e5, q_bd_l, z_ltT, z_ltF, z_eqT, z_eqF, z_ltlT, z_ltlF, z_lltT, z_lltF, z_eqlT, z_eqlF, z_in, z_k7, z_cl, z_lneg, z_llT, z_llF, z_s1, z_nI_cl, z_nlt0, z_ne_m1, z_b0, z_b1, z_la, z_al, z_lm, z_ml, z_nm, nI_add, pk_mul, ↓reduceIte, not_true_eq_false, not_false_eq_true, true_or, or_true, false_or, or_false, true_and, and_true, and_false, false_and, Classical.not_not, Nat.add_zero, z_01, z_em, z_bit_p, Nat.not_le, Nat.not_lt, reduceCtorEq, if_true, if_false]
theorem k_lookAtNow (X : Sx) (d : Nat) (I : Ii) (T : Tt) (r : Nat → Int32) (n m : Nat) (h : k_H27 I r n m) : ∃ J, c_X2_lookAtNow_135 X (d + 2) I T = z_v J T ∧ z_fr m_lk I J ∧ k_H32 J r n m := by
  obtain ⟨J, j1, j2, j3⟩ := k_become32 X d I T r n m h
  refine ⟨J, ?_, j2, j3⟩
  rw [e_X2_lookAtNow_135, j1]
  simp (disch := omega) only [e_X2_lookAtNow_135_5, k_X2_lookAtNow_135_5, q_bd_l, z_ltT, z_ltF, z_eqT, z_eqF, z_ltlT, z_ltlF, z_lltT, z_lltF, z_eqlT, z_eqlF, z_in, z_k7, z_cl, z_lneg, z_llT, z_llF, z_s1, z_nI_cl, z_nlt0, z_ne_m1, z_b0, z_b1, z_la, z_al, z_lm, z_ml, z_nm, nI_add, pk_mul, ↓reduceIte, not_true_eq_false, not_false_eq_true, true_or, or_true, false_or, or_false, true_and, and_true, and_false, false_and, Classical.not_not, Nat.add_zero, z_01, z_em, z_bit_p, Nat.not_le, Nat.not_lt, reduceCtorEq, if_true, if_false]
theorem k_lookAhead (X : Sx) (d : Nat) (I : Ii) (T : Tt) (r : Nat → Int32) (n m q : Nat) (hq : q ≤ 100) (h : k_H27 I r n m) : ∃ J, c_X2_lookAhead_135 X (d + 7) (nI q) I T = z_v J T ∧ z_fr m_lk I J ∧ k_H32 J (R_ahs n q r) n m := by
  obtain ⟨J, j1, j2, j3⟩ := k_lookAtNow X (d + 4) I T r n m h
  obtain ⟨K, ⟨p1, p2⟩, p4⟩ := z_foldP (β := Nat → Int32) (σ := Ii) (fun i r J => c_X2_lookAhead_135_4 X (d + 6) (nI q) (nI i) J T) (fun _ r => R_ah n r) (fun o r J => z_fr m_lk I J ∧ k_H32 J r n m) q (by
    intro i r J hi ⟨q1, q2⟩
    obtain ⟨A, a1, a2, a3⟩ := k_lookOn X d J T r n m q2
    refine ⟨A, ⟨z_fr_t q1 a2, a3⟩, ?_⟩
    rw [e_X2_lookAhead_135_4]
    simp (disch := omega) only [e_X2_lookAhead_135_2, k_X2_lookAhead_135_2, e_X2_lookAhead_135_9, k_X2_lookAhead_135_9, a1, q_bd_l, z_ltT, z_ltF, z_eqT, z_eqF, z_ltlT, z_ltlF, z_lltT, z_lltF, z_eqlT, z_eqlF, z_in, z_k7, z_cl, z_lneg, z_llT, z_llF, z_s1, z_nI_cl, z_nlt0, z_ne_m1, z_b0, z_b1, z_la, z_al, z_lm, z_ml, z_nm, nI_add, pk_mul, ↓reduceIte, not_true_eq_false, not_false_eq_true, true_or, or_true, false_or, or_false, true_and, and_true, and_false, false_and, Classical.not_not, Nat.add_zero, z_01, z_em, z_bit_p, Nat.not_le, Nat.not_lt, reduceCtorEq, if_true, if_false]) r J ⟨j2, j3⟩
  refine ⟨K, ?_, p1, p2⟩
  have st : c_X2_lookAhead_135 X (d + 7) (nI q) I T = c_X2_lookAhead_135_4 X (d + 6) (nI q) (nI 0) J T := by
    rw [e_X2_lookAhead_135, j1]
    simp (disch := omega) only [e_X2_lookAhead_135_2, k_X2_lookAhead_135_2, e_X2_lookAhead_135_9, k_X2_lookAhead_135_9, q_bd_l, z_ltT, z_ltF, z_eqT, z_eqF, z_ltlT, z_ltlF, z_lltT, z_lltF, z_eqlT, z_eqlF, z_in, z_k7, z_cl, z_lneg, z_llT, z_llF, z_s1, z_nI_cl, z_nlt0, z_ne_m1, z_b0, z_b1, z_la, z_al, z_lm, z_ml, z_nm, nI_add, pk_mul, ↓reduceIte, not_true_eq_false, not_false_eq_true, true_or, or_true, false_or, or_false, true_and, and_true, and_false, false_and, Classical.not_not, Nat.add_zero, z_01, z_em, z_bit_p, Nat.not_le, Nat.not_lt, reduceCtorEq, if_true, if_false]
    rfl
  rw [st]
  refine p4.trans ?_
  rw [e_X2_lookAhead_135_4]
  simp (disch := omega) only [q_bd_l, z_ltT, z_ltF, z_eqT, z_eqF, z_ltlT, z_ltlF, z_lltT, z_lltF, z_eqlT, z_eqlF, z_in, z_k7, z_cl, z_lneg, z_llT, z_llF, z_s1, z_nI_cl, z_nlt0, z_ne_m1, z_b0, z_b1, z_la, z_al, z_lm, z_ml, z_nm, nI_add, pk_mul, ↓reduceIte, not_true_eq_false, not_false_eq_true, true_or, or_true, false_or, or_false, true_and, and_true, and_false, false_and, Classical.not_not, Nat.add_zero, z_01, z_em, z_bit_p, Nat.not_le, Nat.not_lt, reduceCtorEq, if_true, if_false]
theorem k_look0 (X : Sx) (d : Nat) (I : Ii) (T : Tt) (r : Nat → Int32) (n m : Nat) (h : k_H27 I r n m) : ∃ J, c_X2_lookAtNow_135 X (d + 7) I T = z_v J T ∧ z_fr m_lk I J ∧ k_H32 J r n m := k_lookAtNow X (d + 5) I T r n m h
theorem k_advThen (X : Sx) (d : Nat) (I : Ii) (T : Tt) (r : Nat → Int32) (n m j t : Nat) (h : k_H32 I r n m) (hj : j < n) (ht : t < 6) : ∃ J, c_X2_adviceThen_135 X (d + 5) (nI j) (nI t) I T = z_r (R_adv r j t) J T ∧ z_fr m_lk I J ∧ k_H32 J r n m := by
  obtain ⟨J, j1, j2⟩ := k_adv32 X d I T r n m j t h hj ht
  refine ⟨J, ?_, z_32_la j2, k_H32_fr h j2⟩
  rw [e_X2_adviceThen_135, j1]
  simp (disch := omega) only [e_X2_adviceThen_135, e_X2_adviceThen_135_9, k_X2_adviceThen_135_9, q_bd_l, z_ltT, z_ltF, z_eqT, z_eqF, z_ltlT, z_ltlF, z_lltT, z_lltF, z_eqlT, z_eqlF, z_in, z_k7, z_cl, z_lneg, z_llT, z_llF, z_s1, z_nI_cl, z_nlt0, z_ne_m1, z_b0, z_b1, z_la, z_al, z_lm, z_ml, z_nm, nI_add, pk_mul, ↓reduceIte, not_true_eq_false, not_false_eq_true, true_or, or_true, false_or, or_false, true_and, and_true, and_false, false_and, Classical.not_not, Nat.add_zero, z_01, z_em, z_bit_p, Nat.not_le, Nat.not_lt, reduceCtorEq, if_true, if_false]
theorem k_firstBelow (X : Sx) (d : Nat) (I : Ii) (T : Tt) (r : Nat → Int32) (n m j t : Nat) (w : Int32) (h : k_H27 I r n m) (hj : j < n) (ht : t < 6) : ∃ J, c_X2_firstBelow_135 X (d + 8) (nI j) (nI t) w I T = z_r (z_f1 (fun i => decide (R_adv (R_ahs n i r) j t < w)) 41) J T ∧ z_fr m_lk I J := by
  obtain ⟨J, j1, j2, j3⟩ := k_look0 X d I T r n m h
  have go : ∀ q i J, i + q = 41 → z_fr m_lk I J → k_H32 J (R_ahs n i r) n m → (∀ k, k < i → decide (R_adv (R_ahs n k r) j t < w) = false) → ∃ K, c_X2_firstBelow_135_4 X (d + 7) (nI j) (nI t) w (nI i) J T = z_r (z_f1 (fun i => decide (R_adv (R_ahs n i r) j t < w)) 41) K T ∧ z_fr m_lk I K := by
    intro q
    induction q with
    | zero =>
      intro i J hi hf hJ hno
      have hi : i = 41 := by omega
      subst hi
      refine ⟨J, ?_, hf⟩
      unfold z_f1
      rw [e_X2_firstBelow_135_4, z_fst_no hno]
      simp (disch := omega) only [q_bd_l, z_ltT, z_ltF, z_eqT, z_eqF, z_ltlT, z_ltlF, z_lltT, z_lltF, z_eqlT, z_eqlF, z_in, z_k7, z_cl, z_lneg, z_llT, z_llF, z_s1, z_nI_cl, z_nlt0, z_ne_m1, z_b0, z_b1, z_la, z_al, z_lm, z_ml, z_nm, nI_add, pk_mul, ↓reduceIte, not_true_eq_false, not_false_eq_true, true_or, or_true, false_or, or_false, true_and, and_true, and_false, false_and, Classical.not_not, Nat.add_zero, z_01, z_em, z_bit_p, Nat.not_le, Nat.not_lt, reduceCtorEq, if_true, if_false]
      rfl
    | succ q ih =>
      intro i J hi hf hJ hno
      obtain ⟨K, k1, k2, k3⟩ := k_advThen X (d + 2) J T _ n m j t hJ hj ht
      by_cases hc : R_adv (R_ahs n i r) j t < w
      · refine ⟨K, ?_, z_fr_t hf k2⟩
        unfold z_f1
        rw [e_X2_firstBelow_135_4, z_fst_hit hno (decide_eq_true hc) (by omega), if_pos (show i < 41 by omega)]
        simp (disch := omega) only [e_X2_firstBelow_135_2, k_X2_firstBelow_135_2, e_X2_firstBelow_135_11, k_X2_firstBelow_135_11, e_X2_firstBelow_135_17, k_X2_firstBelow_135_17, k1, hc, q_bd_l, z_ltT, z_ltF, z_eqT, z_eqF, z_ltlT, z_ltlF, z_lltT, z_lltF, z_eqlT, z_eqlF, z_in, z_k7, z_cl, z_lneg, z_llT, z_llF, z_s1, z_nI_cl, z_nlt0, z_ne_m1, z_b0, z_b1, z_la, z_al, z_lm, z_ml, z_nm, nI_add, pk_mul, ↓reduceIte, not_true_eq_false, not_false_eq_true, true_or, or_true, false_or, or_false, true_and, and_true, and_false, false_and, Classical.not_not, Nat.add_zero, z_01, z_em, z_bit_p, Nat.not_le, Nat.not_lt, reduceCtorEq, if_true, if_false]
      · obtain ⟨L, l1, l2, l3⟩ := k_lookOn X (d + 1) K T _ n m k3
        obtain ⟨M, m1, m2⟩ := ih (i + 1) L (by omega) (z_fr_t hf (z_fr_t k2 l2)) l3 (fun k hk => by
          by_cases e : k = i
          · subst e; exact decide_eq_false hc
          · exact hno k (by omega))
        refine ⟨M, ?_, m2⟩
        rw [← m1, e_X2_firstBelow_135_4]
        simp (disch := omega) only [e_X2_firstBelow_135_2, k_X2_firstBelow_135_2, e_X2_firstBelow_135_11, k_X2_firstBelow_135_11, e_X2_firstBelow_135_17, k_X2_firstBelow_135_17, k1, hc, l1, q_bd_l, z_ltT, z_ltF, z_eqT, z_eqF, z_ltlT, z_ltlF, z_lltT, z_lltF, z_eqlT, z_eqlF, z_in, z_k7, z_cl, z_lneg, z_llT, z_llF, z_s1, z_nI_cl, z_nlt0, z_ne_m1, z_b0, z_b1, z_la, z_al, z_lm, z_ml, z_nm, nI_add, pk_mul, ↓reduceIte, not_true_eq_false, not_false_eq_true, true_or, or_true, false_or, or_false, true_and, and_true, and_false, false_and, Classical.not_not, Nat.add_zero, z_01, z_em, z_bit_p, Nat.not_le, Nat.not_lt, reduceCtorEq, if_true, if_false]
  obtain ⟨M, m1, m2⟩ := go 41 0 J (by omega) j2 j3 (fun k hk => by omega)
  refine ⟨M, ?_, m2⟩
  rw [← m1, e_X2_firstBelow_135, j1]
  simp (disch := omega) only [e_X2_firstBelow_135_2, k_X2_firstBelow_135_2, e_X2_firstBelow_135_11, k_X2_firstBelow_135_11, e_X2_firstBelow_135_17, k_X2_firstBelow_135_17, q_bd_l, z_ltT, z_ltF, z_eqT, z_eqF, z_ltlT, z_ltlF, z_lltT, z_lltF, z_eqlT, z_eqlF, z_in, z_k7, z_cl, z_lneg, z_llT, z_llF, z_s1, z_nI_cl, z_nlt0, z_ne_m1, z_b0, z_b1, z_la, z_al, z_lm, z_ml, z_nm, nI_add, pk_mul, ↓reduceIte, not_true_eq_false, not_false_eq_true, true_or, or_true, false_or, or_false, true_and, and_true, and_false, false_and, Classical.not_not, Nat.add_zero, z_01, z_em, z_bit_p, Nat.not_le, Nat.not_lt, reduceCtorEq, if_true, if_false]
  rfl
theorem k_ripest (X : Sx) (d : Nat) (I : Ii) (T : Tt) (r : Nat → Int32) (n m j t : Nat) (w : Int32) (h : k_H27 I r n m) (hj : j < n) (ht : t < 6) : ∃ J, c_X2_ripest_135 X (d + 8) (nI j) (nI t) w I T = z_r (if w = 0 then (R_ripe r n j t).1 else (R_ripe r n j t).2) J T ∧ z_fr m_lk I J := by
  obtain ⟨J, j1, j2, j3⟩ := k_look0 X d I T r n m h
  obtain ⟨⟨K, o⟩, ⟨p1, p2⟩, p4⟩ := z_foldP (β := Int32 × Int32) (σ := Ii × Option Value) (fun i q K => c_X2_ripest_135_8 X (d + 7) (nI j) (nI t) w q.2 q.1 (nI i) K.2 K.1 T) (R_r1 r n j t) (fun i q K => z_fr m_lk I K.1 ∧ k_H32 K.1 (R_ahs n i r) n m) 41 (by
    intro i q K hi ⟨q1, q2⟩
    obtain ⟨K, o⟩ := K
    dsimp only at q1 q2 ⊢
    obtain ⟨L, l1, l2, l3⟩ := k_advThen X (d + 2) K T _ n m j t q2 hj ht
    obtain ⟨M, m1, m2, m3⟩ := k_lookOn X (d + 1) L T _ n m l3
    refine ⟨(M, some (.int (R_adv (R_ahs n i r) j t))), ⟨z_fr_t q1 (z_fr_t l2 m2), m3⟩, ?_⟩
    dsimp only
    rw [e_X2_ripest_135_8]
    unfold R_r1
    by_cases hc : q.2 < R_adv (R_ahs n i r) j t <;> simp (disch := omega) only [e_X2_ripest_135_2, k_X2_ripest_135_2, e_X2_ripest_135_15, k_X2_ripest_135_15, e_X2_ripest_135_23, e_X2_ripest_135_25, k_X2_ripest_135_25, l1, hc, m1, q_bd_l, z_ltT, z_ltF, z_eqT, z_eqF, z_ltlT, z_ltlF, z_lltT, z_lltF, z_eqlT, z_eqlF, z_in, z_k7, z_cl, z_lneg, z_llT, z_llF, z_s1, z_nI_cl, z_nlt0, z_ne_m1, z_b0, z_b1, z_la, z_al, z_lm, z_ml, z_nm, nI_add, pk_mul, ↓reduceIte, not_true_eq_false, not_false_eq_true, true_or, or_true, false_or, or_false, true_and, and_true, and_false, false_and, Classical.not_not, Nat.add_zero, z_01, z_em, z_bit_p, Nat.not_le, Nat.not_lt, reduceCtorEq, if_true, if_false]) (0, -1) (J, none) ⟨j2, j3⟩
  dsimp only at p1 p2 p4
  refine ⟨K, ?_, p1⟩
  have st : c_X2_ripest_135 X (d + 8) (nI j) (nI t) w I T = c_X2_ripest_135_8 X (d + 7) (nI j) (nI t) w (-1) 0 (nI 0) none J T := by
    rw [e_X2_ripest_135, j1]
    simp (disch := omega) only [e_X2_ripest_135_2, k_X2_ripest_135_2, e_X2_ripest_135_15, k_X2_ripest_135_15, e_X2_ripest_135_23, e_X2_ripest_135_25, k_X2_ripest_135_25, q_bd_l, z_ltT, z_ltF, z_eqT, z_eqF, z_ltlT, z_ltlF, z_lltT, z_lltF, z_eqlT, z_eqlF, z_in, z_k7, z_cl, z_lneg, z_llT, z_llF, z_s1, z_nI_cl, z_nlt0, z_ne_m1, z_b0, z_b1, z_la, z_al, z_lm, z_ml, z_nm, nI_add, pk_mul, ↓reduceIte, not_true_eq_false, not_false_eq_true, true_or, or_true, false_or, or_false, true_and, and_true, and_false, false_and, Classical.not_not, Nat.add_zero, z_01, z_em, z_bit_p, Nat.not_le, Nat.not_lt, reduceCtorEq, if_true, if_false]
    rfl
  rw [st]
  refine p4.trans ?_
  rw [e_X2_ripest_135_8]
  by_cases hw : w = 0
  · simp (disch := omega) only [hw, q_bd_l, z_ltT, z_ltF, z_eqT, z_eqF, z_ltlT, z_ltlF, z_lltT, z_lltF, z_eqlT, z_eqlF, z_in, z_k7, z_cl, z_lneg, z_llT, z_llF, z_s1, z_nI_cl, z_nlt0, z_ne_m1, z_b0, z_b1, z_la, z_al, z_lm, z_ml, z_nm, nI_add, pk_mul, ↓reduceIte, not_true_eq_false, not_false_eq_true, true_or, or_true, false_or, or_false, true_and, and_true, and_false, false_and, Classical.not_not, Nat.add_zero, z_01, z_em, z_bit_p, Nat.not_le, Nat.not_lt, reduceCtorEq, if_true, if_false]
    rfl
  · simp (disch := omega) only [hw, q_bd_l, z_ltT, z_ltF, z_eqT, z_eqF, z_ltlT, z_ltlF, z_lltT, z_lltF, z_eqlT, z_eqlF, z_in, z_k7, z_cl, z_lneg, z_llT, z_llF, z_s1, z_nI_cl, z_nlt0, z_ne_m1, z_b0, z_b1, z_la, z_al, z_lm, z_ml, z_nm, nI_add, pk_mul, ↓reduceIte, not_true_eq_false, not_false_eq_true, true_or, or_true, false_or, or_false, true_and, and_true, and_false, false_and, Classical.not_not, Nat.add_zero, z_01, z_em, z_bit_p, Nat.not_le, Nat.not_lt, reduceCtorEq, if_true, if_false]
    rfl
theorem k_firstPopped (X : Sx) (d : Nat) (I : Ii) (T : Tt) (r : Nat → Int32) (n m j : Nat) (h : k_H27 I r n m) (hj : j < n) : ∃ J, c_X2_firstPopped_135 X (d + 8) (nI j) I T = z_r (R_goes r n j) J T ∧ z_fr m_lk I J := by
  have hn := h.1.2.1
  have sp : ∀ {K : Ii} {s : Nat → Int32}, k_H32 K s n m → (K 34 j = s (12 + 13 * j + 2)) ∧ ((0 < s (12 + 13 * j + 2)) = ¬ s (12 + 13 * j + 2) = 0) := by
    intro K s hK
    refine ⟨hK.2.2.1.2.2.2.2.2.1 j hj, ?_⟩
    obtain ⟨k, hk, ek⟩ := (hK.1.2.2.2.2.2.2.2.2.2.2.1 j hj).2.2.1
    rw [ek, show (0 : Int32) = nI 0 from rfl, z_nI_lt 0 k (by omega) (by omega), z_nI_eq k 0 (by omega) (by omega)]
    exact propext ⟨fun h => by omega, fun h => by omega⟩
  obtain ⟨J, j1, j2, j3⟩ := k_look0 X d I T r n m h
  unfold R_goes
  obtain ⟨s1, s2⟩ := sp j3
  rw [e_X2_firstPopped_135, j1]
  by_cases hs : r (12 + 13 * j + 2) = 0
  · rw [if_pos hs]
    refine ⟨J, ?_, j2⟩
    simp (disch := omega) only [e_X2_firstPopped_135_2, k_X2_firstPopped_135_2, e_X2_firstPopped_135_17, k_X2_firstPopped_135_17, s1, s2, hs, q_bd_l, z_ltT, z_ltF, z_eqT, z_eqF, z_ltlT, z_ltlF, z_lltT, z_lltF, z_eqlT, z_eqlF, z_in, z_k7, z_cl, z_lneg, z_llT, z_llF, z_s1, z_nI_cl, z_nlt0, z_ne_m1, z_b0, z_b1, z_la, z_al, z_lm, z_ml, z_nm, nI_add, pk_mul, ↓reduceIte, not_true_eq_false, not_false_eq_true, true_or, or_true, false_or, or_false, true_and, and_true, and_false, false_and, Classical.not_not, Nat.add_zero, z_01, z_em, z_bit_p, Nat.not_le, Nat.not_lt, reduceCtorEq, if_true, if_false]
  · rw [if_neg hs]
    have go : ∀ q i J, i + q = 40 → z_fr m_lk I J → k_H32 J (R_ahs n i r) n m → (∀ k, k < i → decide (R_ahs n (k + 1) r (12 + 13 * j + 2) = 0) = false) → ∃ K, c_X2_firstPopped_135_12 X (d + 7) (nI j) (nI (i + 1)) J T = z_r (if z_fst (fun i => decide (R_ahs n (i + 1) r (12 + 13 * j + 2) = 0)) 40 < 40 then nI (z_fst (fun i => decide (R_ahs n (i + 1) r (12 + 13 * j + 2) = 0)) 40 + 1) else -1) K T ∧ z_fr m_lk I K := by
      intro q
      induction q with
      | zero =>
        intro i J hi hf hJ hno
        have hi : i = 40 := by omega
        subst hi
        refine ⟨J, ?_, hf⟩
        rw [e_X2_firstPopped_135_12, z_fst_no hno]
        simp (disch := omega) only [q_bd_l, z_ltT, z_ltF, z_eqT, z_eqF, z_ltlT, z_ltlF, z_lltT, z_lltF, z_eqlT, z_eqlF, z_in, z_k7, z_cl, z_lneg, z_llT, z_llF, z_s1, z_nI_cl, z_nlt0, z_ne_m1, z_b0, z_b1, z_la, z_al, z_lm, z_ml, z_nm, nI_add, pk_mul, ↓reduceIte, not_true_eq_false, not_false_eq_true, true_or, or_true, false_or, or_false, true_and, and_true, and_false, false_and, Classical.not_not, Nat.add_zero, z_01, z_em, z_bit_p, Nat.not_le, Nat.not_lt, reduceCtorEq, if_true, if_false]
        rfl
      | succ q ih =>
        intro i J hi hf hJ hno
        obtain ⟨L, l1, l2, l3⟩ := k_lookOn X (d + 1) J T _ n m hJ
        have l3' : k_H32 L (R_ahs n (i + 1) r) n m := l3
        obtain ⟨s1, s2⟩ := sp l3'
        by_cases hc : R_ahs n (i + 1) r (12 + 13 * j + 2) = 0
        · refine ⟨L, ?_, z_fr_t hf l2⟩
          rw [e_X2_firstPopped_135_12, z_fst_hit hno (decide_eq_true hc) (by omega), if_pos (show i < 40 by omega)]
          simp (disch := omega) only [e_X2_firstPopped_135_2, k_X2_firstPopped_135_2, e_X2_firstPopped_135_17, k_X2_firstPopped_135_17, l1, s1, s2, hc, q_bd_l, z_ltT, z_ltF, z_eqT, z_eqF, z_ltlT, z_ltlF, z_lltT, z_lltF, z_eqlT, z_eqlF, z_in, z_k7, z_cl, z_lneg, z_llT, z_llF, z_s1, z_nI_cl, z_nlt0, z_ne_m1, z_b0, z_b1, z_la, z_al, z_lm, z_ml, z_nm, nI_add, pk_mul, ↓reduceIte, not_true_eq_false, not_false_eq_true, true_or, or_true, false_or, or_false, true_and, and_true, and_false, false_and, Classical.not_not, Nat.add_zero, z_01, z_em, z_bit_p, Nat.not_le, Nat.not_lt, reduceCtorEq, if_true, if_false]
        · obtain ⟨M, m1, m2⟩ := ih (i + 1) L (by omega) (z_fr_t hf l2) l3 (fun k hk => by
            by_cases e : k = i
            · subst e; exact decide_eq_false hc
            · exact hno k (by omega))
          refine ⟨M, ?_, m2⟩
          rw [← m1, e_X2_firstPopped_135_12]
          simp (disch := omega) only [e_X2_firstPopped_135_2, k_X2_firstPopped_135_2, e_X2_firstPopped_135_17, k_X2_firstPopped_135_17, l1, s1, s2, hc, q_bd_l, z_ltT, z_ltF, z_eqT, z_eqF, z_ltlT, z_ltlF, z_lltT, z_lltF, z_eqlT, z_eqlF, z_in, z_k7, z_cl, z_lneg, z_llT, z_llF, z_s1, z_nI_cl, z_nlt0, z_ne_m1, z_b0, z_b1, z_la, z_al, z_lm, z_ml, z_nm, nI_add, pk_mul, ↓reduceIte, not_true_eq_false, not_false_eq_true, true_or, or_true, false_or, or_false, true_and, and_true, and_false, false_and, Classical.not_not, Nat.add_zero, z_01, z_em, z_bit_p, Nat.not_le, Nat.not_lt, reduceCtorEq, if_true, if_false]
    obtain ⟨M, m1, m2⟩ := go 40 0 J (by omega) j2 j3 (fun k hk => by omega)
    refine ⟨M, ?_, m2⟩
    rw [← m1]
    simp (disch := omega) only [e_X2_firstPopped_135_2, k_X2_firstPopped_135_2, e_X2_firstPopped_135_17, k_X2_firstPopped_135_17, s1, s2, hs, q_bd_l, z_ltT, z_ltF, z_eqT, z_eqF, z_ltlT, z_ltlF, z_lltT, z_lltF, z_eqlT, z_eqlF, z_in, z_k7, z_cl, z_lneg, z_llT, z_llF, z_s1, z_nI_cl, z_nlt0, z_ne_m1, z_b0, z_b1, z_la, z_al, z_lm, z_ml, z_nm, nI_add, pk_mul, ↓reduceIte, not_true_eq_false, not_false_eq_true, true_or, or_true, false_or, or_false, true_and, and_true, and_false, false_and, Classical.not_not, Nat.add_zero, z_01, z_em, z_bit_p, Nat.not_le, Nat.not_lt, reduceCtorEq, if_true, if_false]
    rfl
theorem k_spoons32 (X : Sx) (d : Nat) (I : Ii) (T : Tt) (r : Nat → Int32) (n m : Nat) (h : k_H32 I r n m) : c_X7_spoonsOfAll_32 X (d + 1) (nI n) I T = z_r (R_spo r n) I T := by
  have hn := h.1.2.1
  rw [e_X7_spoonsOfAll_32]
  refine (z_for (fun k a => c_X7_spoonsOfAll_32_4 X d (nI n) a (nI k) I T) (fun k a => a + r (12 + 13 * k + 2)) n (fun k a hk => ?_) 0).trans ?_
  · have c2 : I 34 k = r (12 + 13 * k + 2) := h.2.2.1.2.2.2.2.2.1 k hk
    rw [e_X7_spoonsOfAll_32_4]
    simp (disch := omega) only [c2, q_bd_l, z_ltT, z_ltF, z_eqT, z_eqF, z_ltlT, z_ltlF, z_lltT, z_lltF, z_eqlT, z_eqlF, z_in, z_k7, z_cl, z_lneg, z_llT, z_llF, z_s1, z_nI_cl, z_nlt0, z_ne_m1, z_b0, z_b1, z_la, z_al, z_lm, z_ml, z_nm, nI_add, pk_mul, ↓reduceIte, not_true_eq_false, not_false_eq_true, true_or, or_true, false_or, or_false, true_and, and_true, and_false, false_and, Classical.not_not, Nat.add_zero, z_01, z_em, z_bit_p, Nat.not_le, Nat.not_lt, reduceCtorEq, if_true, if_false]
  · rw [e_X7_spoonsOfAll_32_4]
    simp (disch := omega) only [q_bd_l, z_ltT, z_ltF, z_eqT, z_eqF, z_ltlT, z_ltlF, z_lltT, z_lltF, z_eqlT, z_eqlF, z_in, z_k7, z_cl, z_lneg, z_llT, z_llF, z_s1, z_nI_cl, z_nlt0, z_ne_m1, z_b0, z_b1, z_la, z_al, z_lm, z_ml, z_nm, nI_add, pk_mul, ↓reduceIte, not_true_eq_false, not_false_eq_true, true_or, or_true, false_or, or_false, true_and, and_true, and_false, false_and, Classical.not_not, Nat.add_zero, z_01, z_em, z_bit_p, Nat.not_le, Nat.not_lt, reduceCtorEq, if_true, if_false]
    rfl
theorem k_spoons27 (X : Sx) (d : Nat) (I : Ii) (T : Tt) (r : Nat → Int32) (n m : Nat) (h : k_H27 I r n m) : c_X7_spoonsOfAll_27 X (d + 1) (nI n) I T = z_r (R_spo r n) I T := by
  have hn := h.1.2.1
  rw [e_X7_spoonsOfAll_27]
  refine (z_for (fun k a => c_X7_spoonsOfAll_27_4 X d (nI n) a (nI k) I T) (fun k a => a + r (12 + 13 * k + 2)) n (fun k a hk => ?_) 0).trans ?_
  · have c2 : I 29 k = r (12 + 13 * k + 2) := h.2.2.1.2.2.2.2.2.1 k hk
    rw [e_X7_spoonsOfAll_27_4]
    simp (disch := omega) only [c2, q_bd_l, z_ltT, z_ltF, z_eqT, z_eqF, z_ltlT, z_ltlF, z_lltT, z_lltF, z_eqlT, z_eqlF, z_in, z_k7, z_cl, z_lneg, z_llT, z_llF, z_s1, z_nI_cl, z_nlt0, z_ne_m1, z_b0, z_b1, z_la, z_al, z_lm, z_ml, z_nm, nI_add, pk_mul, ↓reduceIte, not_true_eq_false, not_false_eq_true, true_or, or_true, false_or, or_false, true_and, and_true, and_false, false_and, Classical.not_not, Nat.add_zero, z_01, z_em, z_bit_p, Nat.not_le, Nat.not_lt, reduceCtorEq, if_true, if_false]
  · rw [e_X7_spoonsOfAll_27_4]
    simp (disch := omega) only [q_bd_l, z_ltT, z_ltF, z_eqT, z_eqF, z_ltlT, z_ltlF, z_lltT, z_lltF, z_eqlT, z_eqlF, z_in, z_k7, z_cl, z_lneg, z_llT, z_llF, z_s1, z_nI_cl, z_nlt0, z_ne_m1, z_b0, z_b1, z_la, z_al, z_lm, z_ml, z_nm, nI_add, pk_mul, ↓reduceIte, not_true_eq_false, not_false_eq_true, true_or, or_true, false_or, or_false, true_and, and_true, and_false, false_and, Classical.not_not, Nat.add_zero, z_01, z_em, z_bit_p, Nat.not_le, Nat.not_lt, reduceCtorEq, if_true, if_false]
    rfl
theorem R_spo_pos (r : Nat → Int32) (n m : Nat) (h : R_ok r n m) : ∃ s, s ≤ 200 ∧ R_spo r n = nI s := by
  have hn := h.2.1
  have key : ∀ k, k ≤ n → ∃ s, s ≤ 20 * k ∧ z_it (fun k a => a + r (12 + 13 * k + 2)) k 0 = nI s := by
    intro k
    induction k with
    | zero => intro _; exact ⟨0, by omega, rfl⟩
    | succ k ih =>
      intro hk
      obtain ⟨s, hs, es⟩ := ih (by omega)
      obtain ⟨x, hx, ex⟩ := (h.2.2.2.2.2.2.2.2.2.2.1 k (by omega)).2.2.1
      show ∃ s, s ≤ 20 * (k + 1) ∧ z_it (fun k a => a + r (12 + 13 * k + 2)) k 0 + r (12 + 13 * k + 2) = nI s
      rw [es, ex, nI_add]
      exact ⟨s + x, by omega, rfl⟩
  obtain ⟨s, hs, es⟩ := key n (Nat.le_refl _)
  exact ⟨s, by omega, es⟩
theorem k_trySeed (X : Sx) (d : Nat) (I : Ii) (T : Tt) (r : Nat → Int32) (n m q : Nat) (s : Int32) (hq : q ≤ 100) (h : k_H27 I r n m) : ∃ J, c_X2_trySeed_135 X (d + 7) (nI q) s I T = z_r (R_spo (R_pass n q (va_up r 11 s)) n) J T ∧ z_fr m_lk I J ∧ J 32 7 = R_pass n q (va_up r 11 s) 9 ∧ ∃ x, x ≤ 200 ∧ R_spo (R_pass n q (va_up r 11 s)) n = nI x := by
  obtain ⟨J, j1, j2, j3⟩ := k_become32 X (d + 5) I T r n m h
  have j4 := k_H32_seed j3 s
  obtain ⟨K, k1, k2, k3⟩ := k_pass32 X d _ T _ n m q hq j4
  have n3 : K 3 0 = nI n := k3.2.1.1.trans k3.1.1
  have sp := k_spoons32 X (d + 5) K T _ n m k3
  refine ⟨K, ?_, z_fr_t (z_fr_w j2 32 6 _ rfl) (z_32_mo k2), k3.2.2.1.2.1, R_spo_pos _ n m k3.1⟩
  rw [e_X2_trySeed_135, j1]
  simp (disch := omega) only [e_X2_trySeed_135, e_X2_trySeed_135_5, k_X2_trySeed_135_5, e_X2_trySeed_135_14, k_X2_trySeed_135_14, e_X2_trySeed_135_20, k_X2_trySeed_135_20, k1, n3, sp, q_bd_l, z_ltT, z_ltF, z_eqT, z_eqF, z_ltlT, z_ltlF, z_lltT, z_lltF, z_eqlT, z_eqlF, z_in, z_k7, z_cl, z_lneg, z_llT, z_llF, z_s1, z_nI_cl, z_nlt0, z_ne_m1, z_b0, z_b1, z_la, z_al, z_lm, z_ml, z_nm, nI_add, pk_mul, ↓reduceIte, not_true_eq_false, not_false_eq_true, true_or, or_true, false_or, or_false, true_and, and_true, and_false, false_and, Classical.not_not, Nat.add_zero, z_01, z_em, z_bit_p, Nat.not_le, Nat.not_lt, reduceCtorEq, if_true, if_false]
