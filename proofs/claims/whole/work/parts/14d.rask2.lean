/-! ===== THE REFERENCE: alike, mixtures, who agrees ===== -/
def z_i (g : Bool) : Int32 := if g = true then 1 else 0
theorem z_i0 (g : Bool) : (z_i g = 0) = (g = false) := by cases g <;> simp [z_i]
theorem z_i_01 (g : Bool) : z_i g = 0 ∨ z_i g = 1 := by cases g <;> simp [z_i]
def R_al (r : Nat → Int32) (n j : Nat) : Int32 := z_set (fun o => decide (o ≠ j) && z_all (fun t => decide (R_adv r o t = R_adv r j t)) 6) n
theorem z_all_s (p : Nat → Bool) (n : Nat) (g : Bool) : z_it (fun k b => b && p k) n g = (g && z_all p n) := by
  induction n with
  | zero => simp [z_it, z_all]
  | succ n ih =>
    show (z_it (fun k b => b && p k) n g && p n) = (g && (z_all p n && p n))
    rw [ih, Bool.and_assoc]
theorem l_alike (X : Sx) (d : Nat) (I : Ii) (T : Tt) (n j : Nat) (hj : j < n) (h : R_g n (I 140)) : ∃ J, c_X12_alike_139 X (d + 36) (nI j) I T = z_r (R_al (I 140) n j) J T ∧ z_fr m_r I J := by
  have h10 := h.2.1
  obtain ⟨⟨J, o4, o5⟩, p1, p4⟩ := z_foldP (β := Int32) (σ := Ii × Option Value × Option Value) (fun k a J => c_X12_alike_139_4 X (d + 35) (nI j) a (nI k) J.2.1 J.2.2 J.1 T) (fun o a => a ||| (if (decide (o ≠ j) && z_all (fun t => decide (R_adv (I 140) o t = R_adv (I 140) j t)) 6) = true then (1 : Int32) <<< (nI o &&& 31) else 0)) (fun k a J => z_fr m_r I J.1) n (by
    intro k a J hk hP
    obtain ⟨J, o4, o5⟩ := J
    dsimp only at hP ⊢
    have e := z_r140 hP
    obtain ⟨K, q1, q4⟩ := z_foldP (β := Bool) (σ := Ii) (fun t g K => c_X12_alike_139_19 X (d + 35) (nI j) a (nI k) (z_i g) (nI t) K T) (fun t g => g && decide (R_adv (I 140) k t = R_adv (I 140) j t)) (fun t g K => z_fr m_r I K) 6 (by
      intro t g K ht hK
      have eK := z_r140 hK
      rw [e_X12_alike_139_19]
      cases g with
      | false =>
        refine ⟨K, hK, ?_⟩
        simp (disch := omega) only [e_X12_alike_139_16, e_X12_alike_139_28, k_X12_alike_139_28, e_X12_alike_139_32, k_X12_alike_139_32, e_X12_alike_139_35, e_X12_alike_139_36, e_X12_alike_139_47, z_i, q_bd_l, z_ltT, z_ltF, z_eqT, z_eqF, z_ltlT, z_ltlF, z_lltT, z_lltF, z_eqlT, z_eqlF, z_in, z_k7, z_cl, z_lneg, z_llT, z_llF, z_s1, z_nI_cl, z_nlt0, z_ne_m1, z_b0, z_b1, z_la, z_al, z_lm, z_ml, z_nm, nI_add, pk_mul, ↓reduceIte, not_true_eq_false, not_false_eq_true, true_or, or_true, false_or, or_false, true_and, and_true, and_false, false_and, Classical.not_not, Nat.add_zero, z_01, z_em, z_bit_p, Nat.not_le, Nat.not_lt, reduceCtorEq, if_true, if_false, decide_true, decide_false, Bool.and_true, Bool.and_false, Bool.true_and, Bool.false_and, Bool.or_true, Bool.or_false, Bool.true_or, Bool.false_or, Bool.false_eq_true, ne_eq, Bool.not_true, Bool.not_false, decide_not]
      | true =>
        obtain ⟨K2, c1, c2⟩ := l_adv X (d + 1) K T k t (by omega) ht (by rw [eK]; exact h.2.2)
        have eK2 := z_r140 c2
        obtain ⟨K3, c3, c4⟩ := l_adv X (d + 1) K2 T j t (by omega) ht (by rw [eK2, eK]; exact h.2.2)
        rw [eK] at c1
        rw [eK2, eK] at c3
        refine ⟨K3, z_fr_t hK (z_fr_t c2 c4), ?_⟩
        by_cases hc : R_adv (I 140) k t = R_adv (I 140) j t <;> simp (disch := omega) only [e_X12_alike_139_16, e_X12_alike_139_28, k_X12_alike_139_28, e_X12_alike_139_32, k_X12_alike_139_32, e_X12_alike_139_35, e_X12_alike_139_36, e_X12_alike_139_47, z_i, c1, c3, hc, q_bd_l, z_ltT, z_ltF, z_eqT, z_eqF, z_ltlT, z_ltlF, z_lltT, z_lltF, z_eqlT, z_eqlF, z_in, z_k7, z_cl, z_lneg, z_llT, z_llF, z_s1, z_nI_cl, z_nlt0, z_ne_m1, z_b0, z_b1, z_la, z_al, z_lm, z_ml, z_nm, nI_add, pk_mul, ↓reduceIte, not_true_eq_false, not_false_eq_true, true_or, or_true, false_or, or_false, true_and, and_true, and_false, false_and, Classical.not_not, Nat.add_zero, z_01, z_em, z_bit_p, Nat.not_le, Nat.not_lt, reduceCtorEq, if_true, if_false, decide_true, decide_false, Bool.and_true, Bool.and_false, Bool.true_and, Bool.false_and, Bool.or_true, Bool.or_false, Bool.true_or, Bool.false_or, Bool.false_eq_true, ne_eq, Bool.not_true, Bool.not_false, decide_not]) (decide (k ≠ j)) J hP
    rw [z_all_s] at q4
    refine ⟨(K, some (.int (z_i (decide (k ≠ j) && z_all (fun t => decide (R_adv (I 140) k t = R_adv (I 140) j t)) 6))), some (.int (nI 6))), q1, ?_⟩
    dsimp only
    have n3 : J 140 3 = nI n := by rw [e]; exact h.1
    have go : c_X12_alike_139_4 X (d + 35) (nI j) a (nI k) o4 o5 J T = c_X12_alike_139_19 X (d + 35) (nI j) a (nI k) (z_i (decide (k ≠ j))) (nI 0) J T := by
      rw [e_X12_alike_139_4]
      by_cases ej : k = j
      · subst ej
        simp (disch := omega) only [e_X12_alike_139_16, e_X12_alike_139_28, k_X12_alike_139_28, e_X12_alike_139_32, k_X12_alike_139_32, e_X12_alike_139_35, e_X12_alike_139_36, e_X12_alike_139_47, n3, z_i, q_bd_l, z_ltT, z_ltF, z_eqT, z_eqF, z_ltlT, z_ltlF, z_lltT, z_lltF, z_eqlT, z_eqlF, z_in, z_k7, z_cl, z_lneg, z_llT, z_llF, z_s1, z_nI_cl, z_nlt0, z_ne_m1, z_b0, z_b1, z_la, z_al, z_lm, z_ml, z_nm, nI_add, pk_mul, ↓reduceIte, not_true_eq_false, not_false_eq_true, true_or, or_true, false_or, or_false, true_and, and_true, and_false, false_and, Classical.not_not, Nat.add_zero, z_01, z_em, z_bit_p, Nat.not_le, Nat.not_lt, reduceCtorEq, if_true, if_false, decide_true, decide_false, Bool.and_true, Bool.and_false, Bool.true_and, Bool.false_and, Bool.or_true, Bool.or_false, Bool.true_or, Bool.false_or, Bool.false_eq_true, ne_eq, Bool.not_true, Bool.not_false, decide_not]
        rfl
      · simp (disch := omega) only [e_X12_alike_139_16, e_X12_alike_139_28, k_X12_alike_139_28, e_X12_alike_139_32, k_X12_alike_139_32, e_X12_alike_139_35, e_X12_alike_139_36, e_X12_alike_139_47, n3, z_i, ej, q_bd_l, z_ltT, z_ltF, z_eqT, z_eqF, z_ltlT, z_ltlF, z_lltT, z_lltF, z_eqlT, z_eqlF, z_in, z_k7, z_cl, z_lneg, z_llT, z_llF, z_s1, z_nI_cl, z_nlt0, z_ne_m1, z_b0, z_b1, z_la, z_al, z_lm, z_ml, z_nm, nI_add, pk_mul, ↓reduceIte, not_true_eq_false, not_false_eq_true, true_or, or_true, false_or, or_false, true_and, and_true, and_false, false_and, Classical.not_not, Nat.add_zero, z_01, z_em, z_bit_p, Nat.not_le, Nat.not_lt, reduceCtorEq, if_true, if_false, decide_true, decide_false, Bool.and_true, Bool.and_false, Bool.true_and, Bool.false_and, Bool.or_true, Bool.or_false, Bool.true_or, Bool.false_or, Bool.false_eq_true, ne_eq, Bool.not_true, Bool.not_false, decide_not]
        rfl
    rw [go, q4, e_X12_alike_139_19]
    cases hg : (decide (k ≠ j) && z_all (fun t => decide (R_adv (I 140) k t = R_adv (I 140) j t)) 6) <;> simp (disch := omega) only [e_X12_alike_139_16, e_X12_alike_139_28, k_X12_alike_139_28, e_X12_alike_139_32, k_X12_alike_139_32, e_X12_alike_139_35, e_X12_alike_139_36, e_X12_alike_139_47, z_i, q_bd_l, z_ltT, z_ltF, z_eqT, z_eqF, z_ltlT, z_ltlF, z_lltT, z_lltF, z_eqlT, z_eqlF, z_in, z_k7, z_cl, z_lneg, z_llT, z_llF, z_s1, z_nI_cl, z_nlt0, z_ne_m1, z_b0, z_b1, z_la, z_al, z_lm, z_ml, z_nm, nI_add, pk_mul, ↓reduceIte, not_true_eq_false, not_false_eq_true, true_or, or_true, false_or, or_false, true_and, and_true, and_false, false_and, Classical.not_not, Nat.add_zero, z_01, z_em, z_bit_p, Nat.not_le, Nat.not_lt, reduceCtorEq, if_true, if_false, decide_true, decide_false, Bool.and_true, Bool.and_false, Bool.true_and, Bool.false_and, Bool.or_true, Bool.or_false, Bool.true_or, Bool.false_or, Bool.false_eq_true, ne_eq, Bool.not_true, Bool.not_false, decide_not]) 0 (I, none, none) (z_fr_r _ _)
  dsimp only at p1 p4
  refine ⟨J, ?_, p1⟩
  rw [e_X12_alike_139]
  refine p4.trans ?_
  have n3 : J 140 3 = nI n := by rw [z_r140 p1]; exact h.1
  rw [e_X12_alike_139_4]
  simp (disch := omega) only [n3, q_bd_l, z_ltT, z_ltF, z_eqT, z_eqF, z_ltlT, z_ltlF, z_lltT, z_lltF, z_eqlT, z_eqlF, z_in, z_k7, z_cl, z_lneg, z_llT, z_llF, z_s1, z_nI_cl, z_nlt0, z_ne_m1, z_b0, z_b1, z_la, z_al, z_lm, z_ml, z_nm, nI_add, pk_mul, ↓reduceIte, not_true_eq_false, not_false_eq_true, true_or, or_true, false_or, or_false, true_and, and_true, and_false, false_and, Classical.not_not, Nat.add_zero, z_01, z_em, z_bit_p, Nat.not_le, Nat.not_lt, reduceCtorEq, if_true, if_false]
  rfl
def R_mx (r : Nat → Int32) (a b t : Nat) : Int32 := if ¬ z_sz (R_adv r a t - R_adv r b t) < 5 then 0 else (R_adv r a t + R_adv r b t) / 2
theorem l_mixed (X : Sx) (d : Nat) (I : Ii) (T : Tt) (a b t : Nat) (ha : a < 10) (hb : b < 10) (ht : t < 6) (hL : R_lo (I 140)) : ∃ J, c_X12_mixed_139 X (d + 36) (nI a) (nI b) (nI t) I T = z_r (R_mx (I 140) a b t) J T ∧ z_fr m_r I J := by
  obtain ⟨J, h1, h2⟩ := l_clash X d I T a b t ha hb ht hL
  have e := z_r140 h2
  obtain ⟨K, k1, k2⟩ := l_adv X (d + 1) J T a t ha ht (by rw [e]; exact hL)
  have e2 := z_r140 k2
  obtain ⟨L, l1, l2⟩ := l_adv X (d + 1) K T b t hb ht (by rw [e2, e]; exact hL)
  rw [e] at k1
  rw [e2, e] at l1
  rw [e_X12_mixed_139, h1]
  unfold R_mx
  by_cases hc : z_sz (R_adv (I 140) a t - R_adv (I 140) b t) < 5
  · refine ⟨L, ?_, z_fr_t h2 (z_fr_t k2 l2)⟩
    simp (disch := omega) only [e_X12_mixed_139, e_X12_mixed_139_5, k_X12_mixed_139_5, e_X12_mixed_139_12, k_X12_mixed_139_12, e_X12_mixed_139_16, k_X12_mixed_139_16, hc, k1, l1, q_bd_l, z_ltT, z_ltF, z_eqT, z_eqF, z_ltlT, z_ltlF, z_lltT, z_lltF, z_eqlT, z_eqlF, z_in, z_k7, z_cl, z_lneg, z_llT, z_llF, z_s1, z_nI_cl, z_nlt0, z_ne_m1, z_b0, z_b1, z_la, z_al, z_lm, z_ml, z_nm, nI_add, pk_mul, ↓reduceIte, not_true_eq_false, not_false_eq_true, true_or, or_true, false_or, or_false, true_and, and_true, and_false, false_and, Classical.not_not, Nat.add_zero, z_01, z_em, z_bit_p, Nat.not_le, Nat.not_lt, reduceCtorEq, if_true, if_false, decide_true, decide_false, Bool.and_true, Bool.and_false, Bool.true_and, Bool.false_and, Bool.or_true, Bool.or_false, Bool.true_or, Bool.false_or, Bool.false_eq_true, ne_eq, Bool.not_true, Bool.not_false, decide_not]
  · refine ⟨J, ?_, h2⟩
    simp (disch := omega) only [e_X12_mixed_139, e_X12_mixed_139_5, k_X12_mixed_139_5, e_X12_mixed_139_12, k_X12_mixed_139_12, e_X12_mixed_139_16, k_X12_mixed_139_16, hc, q_bd_l, z_ltT, z_ltF, z_eqT, z_eqF, z_ltlT, z_ltlF, z_lltT, z_lltF, z_eqlT, z_eqlF, z_in, z_k7, z_cl, z_lneg, z_llT, z_llF, z_s1, z_nI_cl, z_nlt0, z_ne_m1, z_b0, z_b1, z_la, z_al, z_lm, z_ml, z_nm, nI_add, pk_mul, ↓reduceIte, not_true_eq_false, not_false_eq_true, true_or, or_true, false_or, or_false, true_and, and_true, and_false, false_and, Classical.not_not, Nat.add_zero, z_01, z_em, z_bit_p, Nat.not_le, Nat.not_lt, reduceCtorEq, if_true, if_false, decide_true, decide_false, Bool.and_true, Bool.and_false, Bool.true_and, Bool.false_and, Bool.or_true, Bool.or_false, Bool.true_or, Bool.false_or, Bool.false_eq_true, ne_eq, Bool.not_true, Bool.not_false, decide_not]
/-- who agrees: the advice told last, and whether all are at one -/
def R_a1 (r : Nat → Int32) (s : Int32) (t : Nat) (j : Nat) (q : Int32 × Bool) : Int32 × Bool := if z_bit s j = true then (R_adv r j t, q.2 && decide (q.1 = -1 ∨ q.1 = R_adv r j t)) else q
def R_at (r : Nat → Int32) (n : Nat) (s : Int32) (t : Nat) : Bool := (z_it (R_a1 r s t) n (-1, true)).2
def R_ag (r : Nat → Int32) (n : Nat) (s : Int32) : Int32 := z_set (fun t => R_at r n s t) 6
theorem l_agree (X : Sx) (d : Nat) (I : Ii) (T : Tt) (n : Nat) (s : Int32) (h : R_g n (I 140)) : ∃ J, c_X12_agree_139 X (d + 36) s I T = z_r (R_ag (I 140) n s) J T ∧ z_fr m_q I J ∧ J 139 0 = 0 := by
  have h10 := h.2.1
  obtain ⟨⟨J, o4, o5, o6, o7⟩, ⟨p1, p2⟩, p4⟩ := z_foldP (β := Int32) (σ := Ii × Option Value × Option Value × Option Value × Option Value) (fun t a J => c_X12_agree_139_7 X (d + 35) s a (nI t) J.2.1 J.2.2.1 J.2.2.2.1 J.2.2.2.2 J.1 T) (fun t a => a ||| (if R_at (I 140) n s t = true then (1 : Int32) <<< (nI t &&& 31) else 0)) (fun k a J => z_fr m_q I J.1 ∧ J.1 139 0 = 0) 6 (by
    intro t a J ht hP
    obtain ⟨J, o4, o5, o6, o7⟩ := J
    dsimp only at hP ⊢
    have e := z_q140 hP.1
    have n3 : J 140 3 = nI n := by rw [e]; exact h.1
    obtain ⟨⟨K, p7⟩, ⟨q1, q2⟩, q4⟩ := z_foldP (β := Int32 × Bool) (σ := Ii × Option Value) (fun j q K => c_X12_agree_139_16 X (d + 35) s a (nI t) q.1 (z_i q.2) (nI j) K.2 K.1 T) (R_a1 (I 140) s t) (fun j q K => z_fr m_q I K.1 ∧ K.1 139 0 = 0) n (by
      intro j q K hj hK
      obtain ⟨K, p7⟩ := K
      dsimp only at hK ⊢
      have eK := z_q140 hK.1
      have n3 : K 140 3 = nI n := by rw [eK]; exact h.1
      rw [e_X12_agree_139_16]
      unfold R_a1
      cases hb : z_bit s j with
      | false =>
        refine ⟨(K, p7), hK, ?_⟩
        simp (disch := omega) only [e_X12_agree_139_25, k_X12_agree_139_25, e_X12_agree_139_31, k_X12_agree_139_31, e_X12_agree_139_40, e_X12_agree_139_42, e_X12_agree_139_43, e_X12_agree_139_46, e_X12_agree_139_56, n3, l_isOf, hb, q_bd_l, z_ltT, z_ltF, z_eqT, z_eqF, z_ltlT, z_ltlF, z_lltT, z_lltF, z_eqlT, z_eqlF, z_in, z_k7, z_cl, z_lneg, z_llT, z_llF, z_s1, z_nI_cl, z_nlt0, z_ne_m1, z_b0, z_b1, z_la, z_al, z_lm, z_ml, z_nm, nI_add, pk_mul, ↓reduceIte, not_true_eq_false, not_false_eq_true, true_or, or_true, false_or, or_false, true_and, and_true, and_false, false_and, Classical.not_not, Nat.add_zero, z_01, z_em, z_bit_p, Nat.not_le, Nat.not_lt, reduceCtorEq, if_true, if_false, decide_true, decide_false, Bool.and_true, Bool.and_false, Bool.true_and, Bool.false_and, Bool.or_true, Bool.or_false, Bool.true_or, Bool.false_or, Bool.false_eq_true, ne_eq, Bool.not_true, Bool.not_false, decide_not]
      | true =>
        obtain ⟨K2, c1, c2⟩ := l_adv X (d + 1) K T j t (by omega) ht (by rw [eK]; exact h.2.2)
        rw [eK] at c1
        refine ⟨(K2, some (.int (R_adv (I 140) j t))), ⟨z_fr_t hK.1 (z_fr_q c2), (c2 139 0 rfl).trans hK.2⟩, ?_⟩
        obtain ⟨q1, q2⟩ := q
        cases q2 with
        | false => simp (disch := omega) only [e_X12_agree_139_25, k_X12_agree_139_25, e_X12_agree_139_31, k_X12_agree_139_31, e_X12_agree_139_40, e_X12_agree_139_42, e_X12_agree_139_43, e_X12_agree_139_46, e_X12_agree_139_56, n3, l_isOf, hb, c1, z_i, q_bd_l, z_ltT, z_ltF, z_eqT, z_eqF, z_ltlT, z_ltlF, z_lltT, z_lltF, z_eqlT, z_eqlF, z_in, z_k7, z_cl, z_lneg, z_llT, z_llF, z_s1, z_nI_cl, z_nlt0, z_ne_m1, z_b0, z_b1, z_la, z_al, z_lm, z_ml, z_nm, nI_add, pk_mul, ↓reduceIte, not_true_eq_false, not_false_eq_true, true_or, or_true, false_or, or_false, true_and, and_true, and_false, false_and, Classical.not_not, Nat.add_zero, z_01, z_em, z_bit_p, Nat.not_le, Nat.not_lt, reduceCtorEq, if_true, if_false, decide_true, decide_false, Bool.and_true, Bool.and_false, Bool.true_and, Bool.false_and, Bool.or_true, Bool.or_false, Bool.true_or, Bool.false_or, Bool.false_eq_true, ne_eq, Bool.not_true, Bool.not_false, decide_not]
        | true =>
          by_cases h1 : q1 = -1
          · simp (disch := omega) only [e_X12_agree_139_25, k_X12_agree_139_25, e_X12_agree_139_31, k_X12_agree_139_31, e_X12_agree_139_40, e_X12_agree_139_42, e_X12_agree_139_43, e_X12_agree_139_46, e_X12_agree_139_56, n3, l_isOf, hb, c1, z_i, h1, q_bd_l, z_ltT, z_ltF, z_eqT, z_eqF, z_ltlT, z_ltlF, z_lltT, z_lltF, z_eqlT, z_eqlF, z_in, z_k7, z_cl, z_lneg, z_llT, z_llF, z_s1, z_nI_cl, z_nlt0, z_ne_m1, z_b0, z_b1, z_la, z_al, z_lm, z_ml, z_nm, nI_add, pk_mul, ↓reduceIte, not_true_eq_false, not_false_eq_true, true_or, or_true, false_or, or_false, true_and, and_true, and_false, false_and, Classical.not_not, Nat.add_zero, z_01, z_em, z_bit_p, Nat.not_le, Nat.not_lt, reduceCtorEq, if_true, if_false, decide_true, decide_false, Bool.and_true, Bool.and_false, Bool.true_and, Bool.false_and, Bool.or_true, Bool.or_false, Bool.true_or, Bool.false_or, Bool.false_eq_true, ne_eq, Bool.not_true, Bool.not_false, decide_not]
          · by_cases h2 : q1 = R_adv (I 140) j t <;> simp (disch := omega) only [e_X12_agree_139_25, k_X12_agree_139_25, e_X12_agree_139_31, k_X12_agree_139_31, e_X12_agree_139_40, e_X12_agree_139_42, e_X12_agree_139_43, e_X12_agree_139_46, e_X12_agree_139_56, n3, l_isOf, hb, c1, z_i, h1, h2, ite_self, q_bd_l, z_ltT, z_ltF, z_eqT, z_eqF, z_ltlT, z_ltlF, z_lltT, z_lltF, z_eqlT, z_eqlF, z_in, z_k7, z_cl, z_lneg, z_llT, z_llF, z_s1, z_nI_cl, z_nlt0, z_ne_m1, z_b0, z_b1, z_la, z_al, z_lm, z_ml, z_nm, nI_add, pk_mul, ↓reduceIte, not_true_eq_false, not_false_eq_true, true_or, or_true, false_or, or_false, true_and, and_true, and_false, false_and, Classical.not_not, Nat.add_zero, z_01, z_em, z_bit_p, Nat.not_le, Nat.not_lt, reduceCtorEq, if_true, if_false, decide_true, decide_false, Bool.and_true, Bool.and_false, Bool.true_and, Bool.false_and, Bool.or_true, Bool.or_false, Bool.true_or, Bool.false_or, Bool.false_eq_true, ne_eq, Bool.not_true, Bool.not_false, decide_not]) (-1, true) (J, o7) hP
    dsimp only at q1 q2 q4
    have n3K : K 140 3 = nI n := by rw [z_q140 q1]; exact h.1
    refine ⟨(K, some (.int (z_it (R_a1 (I 140) s t) n (-1, true)).1), some (.int (z_i (z_it (R_a1 (I 140) s t) n (-1, true)).2)), some (.int (nI n)), p7), ⟨q1, q2⟩, ?_⟩
    dsimp only
    have go : c_X12_agree_139_7 X (d + 35) s a (nI t) o4 o5 o6 o7 J T = c_X12_agree_139_16 X (d + 35) s a (nI t) (-1) (z_i true) (nI 0) o7 J T := by
      rw [e_X12_agree_139_7]
      simp (disch := omega) only [q_bd_l, z_ltT, z_ltF, z_eqT, z_eqF, z_ltlT, z_ltlF, z_lltT, z_lltF, z_eqlT, z_eqlF, z_in, z_k7, z_cl, z_lneg, z_llT, z_llF, z_s1, z_nI_cl, z_nlt0, z_ne_m1, z_b0, z_b1, z_la, z_al, z_lm, z_ml, z_nm, nI_add, pk_mul, ↓reduceIte, not_true_eq_false, not_false_eq_true, true_or, or_true, false_or, or_false, true_and, and_true, and_false, false_and, Classical.not_not, Nat.add_zero, z_01, z_em, z_bit_p, Nat.not_le, Nat.not_lt, reduceCtorEq, if_true, if_false]
      rfl
    rw [go, q4, e_X12_agree_139_16]
    unfold R_at
    cases hg : (z_it (R_a1 (I 140) s t) n (-1, true)).2 <;> simp (disch := omega) only [e_X12_agree_139_25, k_X12_agree_139_25, e_X12_agree_139_31, k_X12_agree_139_31, e_X12_agree_139_40, e_X12_agree_139_42, e_X12_agree_139_43, e_X12_agree_139_46, e_X12_agree_139_56, n3K, z_i, q_bd_l, z_ltT, z_ltF, z_eqT, z_eqF, z_ltlT, z_ltlF, z_lltT, z_lltF, z_eqlT, z_eqlF, z_in, z_k7, z_cl, z_lneg, z_llT, z_llF, z_s1, z_nI_cl, z_nlt0, z_ne_m1, z_b0, z_b1, z_la, z_al, z_lm, z_ml, z_nm, nI_add, pk_mul, ↓reduceIte, not_true_eq_false, not_false_eq_true, true_or, or_true, false_or, or_false, true_and, and_true, and_false, false_and, Classical.not_not, Nat.add_zero, z_01, z_em, z_bit_p, Nat.not_le, Nat.not_lt, reduceCtorEq, if_true, if_false, decide_true, decide_false, Bool.and_true, Bool.and_false, Bool.true_and, Bool.false_and, Bool.or_true, Bool.or_false, Bool.true_or, Bool.false_or, Bool.false_eq_true, ne_eq, Bool.not_true, Bool.not_false, decide_not]) 0 (q_w I 139 0 0, none, none, none, none) ⟨z_q0 I 0, z_w_s I 139 0 0⟩
  dsimp only at p1 p2 p4
  refine ⟨J, ?_, p1, p2⟩
  rw [e_X12_agree_139]
  refine p4.trans ?_
  rw [e_X12_agree_139_7]
  simp (disch := omega) only [q_bd_l, z_ltT, z_ltF, z_eqT, z_eqF, z_ltlT, z_ltlF, z_lltT, z_lltF, z_eqlT, z_eqlF, z_in, z_k7, z_cl, z_lneg, z_llT, z_llF, z_s1, z_nI_cl, z_nlt0, z_ne_m1, z_b0, z_b1, z_la, z_al, z_lm, z_ml, z_nm, nI_add, pk_mul, ↓reduceIte, not_true_eq_false, not_false_eq_true, true_or, or_true, false_or, or_false, true_and, and_true, and_false, false_and, Classical.not_not, Nat.add_zero, z_01, z_em, z_bit_p, Nat.not_le, Nat.not_lt, reduceCtorEq, if_true, if_false]
  rfl
/-- the best mix so far: which, how far off -/
def R_b1 (r : Nat → Int32) (t : Nat) (num : Int32) (a b : Nat) (q : Int32 × Int32) : Int32 × Int32 := if z_sz (R_mx r a b t - num) < q.2 then (nI (10 * a + b), z_sz (R_mx r a b t - num)) else q
def R_b2 (r : Nat → Int32) (n t : Nat) (num : Int32) (a : Nat) (q : Int32 × Int32) : Int32 × Int32 := z_it (fun i q => R_b1 r t num a (a + 1 + i) q) (n - (a + 1)) q
def R_best (r : Nat → Int32) (n t : Nat) (num off : Int32) : Int32 := (z_it (R_b2 r n t num) n (-1, off)).1
theorem l_best26 (X : Sx) (d : Nat) (I : Ii) (T : Tt) (n t : Nat) (num : Int32) (ht : t < 6) (h : R_g n (I 140)) : ∃ J, c_X12_best_139_26 X (d + 36) (nI t) num (-1) 2000000000 0 none none I T = z_r (R_best (I 140) n t num 2000000000) J T ∧ z_fr m_r I J := by
  have h10 := h.2.1
  obtain ⟨⟨J, o6, o7⟩, p1, p4⟩ := z_foldP (β := Int32 × Int32) (σ := Ii × Option Value × Option Value) (fun k q J => c_X12_best_139_26 X (d + 36) (nI t) num q.1 q.2 (nI k) J.2.1 J.2.2 J.1 T) (R_b2 (I 140) n t num) (fun k q J => z_fr m_r I J.1) n (by
    intro k q J hk hP
    obtain ⟨J, o6, o7⟩ := J
    dsimp only at hP ⊢
    have e := z_r140 hP
    have n3 : J 140 3 = nI n := by rw [e]; exact h.1
    obtain ⟨⟨K, p7⟩, q1, q4⟩ := z_foldP (β := Int32 × Int32) (σ := Ii × Option Value) (fun i q K => c_X12_best_139_36 X (d + 36) (nI t) num q.1 q.2 (nI k) (nI (k + 1 + i)) K.2 K.1 T) (fun i q => R_b1 (I 140) t num k (k + 1 + i) q) (fun i q K => z_fr m_r I K.1) (n - (k + 1)) (by
      intro i q K hi hK
      obtain ⟨K, p7⟩ := K
      dsimp only at hK ⊢
      have eK := z_r140 hK
      have n3 : K 140 3 = nI n := by rw [eK]; exact h.1
      obtain ⟨K2, c1, c2⟩ := l_mixed X d K T k (k + 1 + i) t (by omega) (by omega) ht (by rw [eK]; exact h.2.2)
      rw [eK] at c1
      refine ⟨(K2, some (.int (z_sz (R_mx (I 140) k (k + 1 + i) t - num)))), z_fr_t hK c2, ?_⟩
      rw [e_X12_best_139_36]
      unfold R_b1
      have ez : ∀ a, (if a < 0 then -a else a) = z_sz a := fun a => rfl
      have e9 : k + 1 + (i + 1) = k + 1 + i + 1 := by omega
      by_cases hc : z_sz (R_mx (I 140) k (k + 1 + i) t - num) < q.2 <;> simp (disch := omega) only [e_X12_best_139_3, k_X12_best_139_3, e_X12_best_139_10, k_X12_best_139_10, e_X12_best_139_14, e_X12_best_139_47, k_X12_best_139_47, e_X12_best_139_50, k_X12_best_139_50, e_X12_best_139_63, n3, c1, l_size, ez, hc, e9, q_bd_l, z_ltT, z_ltF, z_eqT, z_eqF, z_ltlT, z_ltlF, z_lltT, z_lltF, z_eqlT, z_eqlF, z_in, z_k7, z_cl, z_lneg, z_llT, z_llF, z_s1, z_nI_cl, z_nlt0, z_ne_m1, z_b0, z_b1, z_la, z_al, z_lm, z_ml, z_nm, nI_add, pk_mul, ↓reduceIte, not_true_eq_false, not_false_eq_true, true_or, or_true, false_or, or_false, true_and, and_true, and_false, false_and, Classical.not_not, Nat.add_zero, z_01, z_em, z_bit_p, Nat.not_le, Nat.not_lt, reduceCtorEq, if_true, if_false]) q (J, o7) hP
    dsimp only at q1 q4
    have n3K : K 140 3 = nI n := by rw [z_r140 q1]; exact h.1
    refine ⟨(K, some (.int (nI (k + 1 + (n - (k + 1))))), p7), q1, ?_⟩
    dsimp only
    have go : c_X12_best_139_26 X (d + 36) (nI t) num q.1 q.2 (nI k) o6 o7 J T = c_X12_best_139_36 X (d + 36) (nI t) num q.1 q.2 (nI k) (nI (k + 1)) o7 J T := by
      rw [e_X12_best_139_26]
      simp (disch := omega) only [n3, q_bd_l, z_ltT, z_ltF, z_eqT, z_eqF, z_ltlT, z_ltlF, z_lltT, z_lltF, z_eqlT, z_eqlF, z_in, z_k7, z_cl, z_lneg, z_llT, z_llF, z_s1, z_nI_cl, z_nlt0, z_ne_m1, z_b0, z_b1, z_la, z_al, z_lm, z_ml, z_nm, nI_add, pk_mul, ↓reduceIte, not_true_eq_false, not_false_eq_true, true_or, or_true, false_or, or_false, true_and, and_true, and_false, false_and, Classical.not_not, Nat.add_zero, z_01, z_em, z_bit_p, Nat.not_le, Nat.not_lt, reduceCtorEq, if_true, if_false]
    rw [go]
    refine q4.trans ?_
    rw [e_X12_best_139_36]
    simp (disch := omega) only [n3K, q_bd_l, z_ltT, z_ltF, z_eqT, z_eqF, z_ltlT, z_ltlF, z_lltT, z_lltF, z_eqlT, z_eqlF, z_in, z_k7, z_cl, z_lneg, z_llT, z_llF, z_s1, z_nI_cl, z_nlt0, z_ne_m1, z_b0, z_b1, z_la, z_al, z_lm, z_ml, z_nm, nI_add, pk_mul, ↓reduceIte, not_true_eq_false, not_false_eq_true, true_or, or_true, false_or, or_false, true_and, and_true, and_false, false_and, Classical.not_not, Nat.add_zero, z_01, z_em, z_bit_p, Nat.not_le, Nat.not_lt, reduceCtorEq, if_true, if_false]
    rfl) (-1, 2000000000) (I, none, none) (z_fr_r _ _)
  dsimp only at p1 p4
  refine ⟨J, ?_, p1⟩
  refine p4.trans ?_
  have n3 : J 140 3 = nI n := by rw [z_r140 p1]; exact h.1
  rw [e_X12_best_139_26]
  simp (disch := omega) only [n3, q_bd_l, z_ltT, z_ltF, z_eqT, z_eqF, z_ltlT, z_ltlF, z_lltT, z_lltF, z_eqlT, z_eqlF, z_in, z_k7, z_cl, z_lneg, z_llT, z_llF, z_s1, z_nI_cl, z_nlt0, z_ne_m1, z_b0, z_b1, z_la, z_al, z_lm, z_ml, z_nm, nI_add, pk_mul, ↓reduceIte, not_true_eq_false, not_false_eq_true, true_or, or_true, false_or, or_false, true_and, and_true, and_false, false_and, Classical.not_not, Nat.add_zero, z_01, z_em, z_bit_p, Nat.not_le, Nat.not_lt, reduceCtorEq, if_true, if_false]
  rfl
