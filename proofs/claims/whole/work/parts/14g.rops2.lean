/-! ===== THE REFERENCE: coalition, cover, tastes ===== -/
def R_c1 (r : Nat → Int32) (n s : Nat) (f : Int32) : Int32 := if z_all (fun j => !z_bit (nI s) j || decide (R_cl r n j &&& nI s = 0)) n = true ∧ R_bits f < R_bits (nI s) then nI s else f
def R_coal (r : Nat → Int32) (n : Nat) : Int32 := z_it (R_c1 r n) (2 ^ n) 0
theorem l_coalition (X : Sx) (d : Nat) (I : Ii) (T : Tt) (n : Nat) (h : R_g n (I 140)) : ∃ K, c_X12_coalition_139 X (d + 37) I T = z_r (R_coal (I 140) n) K T ∧ K 139 0 = 0 ∧ z_fr m_q I K := by
  have h10 := h.2.1
  have h2n := z_2n h10
  have e : (q_w I 139 0 0) 140 = I 140 := z_w_a _ _ _ _ _ (by decide)
  obtain ⟨J, ⟨p1, p2, p3⟩, p4⟩ := z_foldP (β := Unit) (σ := Ii) (fun k _ J => c_X12_coalition_139_5 X (d + 36) (nI k) J T) (fun _ u => u) (fun k _ J => z_fr m_q I J ∧ J 139 0 = 0 ∧ ∀ i, i < k → J 146 i = R_cl (I 140) n i) n (by
    intro k _ J hk ⟨q1, q2, q3⟩
    have eJ := z_q140 q1
    obtain ⟨K, k1, k2⟩ := l_clashes X d J T n k hk (by rw [eJ]; exact h)
    rw [eJ] at k1
    have n3 : J 140 3 = nI n := by rw [eJ]; exact h.1
    refine ⟨q_w K 146 k (R_cl (I 140) n k), ⟨z_fr_w (z_fr_t q1 (z_fr_q k2)) 146 k _ (by simp [m_q]), ?_, fun i hi => ?_⟩, ?_⟩
    · rw [z_w_a _ _ _ _ _ (by decide), k2 139 0 rfl]; exact q2
    · by_cases ei : i = k
      · subst ei; exact z_w_s _ _ _ _
      · rw [z_w_k _ _ _ _ _ ei, k2 146 i rfl]; exact q3 i (by omega)
    · rw [e_X12_coalition_139_5]
      simp (disch := omega) only [e_X12_coalition_139_17, k_X12_coalition_139_17, e_X12_coalition_139_27, k_X12_coalition_139_27, e_X12_coalition_139_43, k_X12_coalition_139_43, e_X12_coalition_139_51, e_X12_coalition_139_53, e_X12_coalition_139_54, e_X12_coalition_139_61, k_X12_coalition_139_61, e_X12_coalition_139_63, k_X12_coalition_139_63, e_X12_coalition_139_66, n3, k1, q_bd_l, z_ltT, z_ltF, z_eqT, z_eqF, z_ltlT, z_ltlF, z_lltT, z_lltF, z_eqlT, z_eqlF, z_in, z_k7, z_cl, z_lneg, z_llT, z_llF, z_s1, z_nI_cl, z_nlt0, z_ne_m1, z_b0, z_b1, z_la, z_al, z_lm, z_ml, z_nm, nI_add, pk_mul, ↓reduceIte, not_true_eq_false, not_false_eq_true, true_or, or_true, false_or, or_false, true_and, and_true, and_false, false_and, Classical.not_not, Nat.add_zero, z_01, z_em, z_bit_p, Nat.not_le, Nat.not_lt, reduceCtorEq, if_true, if_false]) () (q_w I 139 0 0) ⟨z_q0 I 0, z_w_s _ _ _ _, fun i hi => by omega⟩
  have n3 : J 140 3 = nI n := by rw [z_q140 p1]; exact h.1
  refine ⟨J, ?_, p2, p1⟩
  rw [e_X12_coalition_139]
  refine p4.trans ?_
  rw [e_X12_coalition_139_5]
  simp (disch := omega) only [n3, q_bd_l, z_ltT, z_ltF, z_eqT, z_eqF, z_ltlT, z_ltlF, z_lltT, z_lltF, z_eqlT, z_eqlF, z_in, z_k7, z_cl, z_lneg, z_llT, z_llF, z_s1, z_nI_cl, z_nlt0, z_ne_m1, z_b0, z_b1, z_la, z_al, z_lm, z_ml, z_nm, nI_add, pk_mul, ↓reduceIte, not_true_eq_false, not_false_eq_true, true_or, or_true, false_or, or_false, true_and, and_true, and_false, false_and, Classical.not_not, Nat.add_zero, z_01, z_em, z_bit_p, Nat.not_le, Nat.not_lt, reduceCtorEq, if_true, if_false]
  obtain ⟨⟨o3, o4⟩, -, t4⟩ := z_foldP (β := Int32) (σ := Option Value × Option Value) (fun s f o => c_X12_coalition_139_24 X (d + 36) f (nI s) o.1 o.2 J T) (R_c1 (I 140) n) (fun _ _ _ => True) (2 ^ n) (by
    intro s f o hs _
    obtain ⟨o3, o4⟩ := o
    have inner := z_for (fun j g => c_X12_coalition_139_32 X (d + 36) f (nI s) (z_i g) (nI j) J T) (fun j g => g && (!z_bit (nI s) j || decide (R_cl (I 140) n j &&& nI s = 0))) n (fun j g hj => by
      rw [e_X12_coalition_139_32]
      have ej := p3 j hj
      cases g with
      | false => simp (disch := omega) only [e_X12_coalition_139_17, k_X12_coalition_139_17, e_X12_coalition_139_27, k_X12_coalition_139_27, e_X12_coalition_139_43, k_X12_coalition_139_43, e_X12_coalition_139_51, e_X12_coalition_139_53, e_X12_coalition_139_54, e_X12_coalition_139_61, k_X12_coalition_139_61, e_X12_coalition_139_63, k_X12_coalition_139_63, e_X12_coalition_139_66, n3, z_i, q_bd_l, z_ltT, z_ltF, z_eqT, z_eqF, z_ltlT, z_ltlF, z_lltT, z_lltF, z_eqlT, z_eqlF, z_in, z_k7, z_cl, z_lneg, z_llT, z_llF, z_s1, z_nI_cl, z_nlt0, z_ne_m1, z_b0, z_b1, z_la, z_al, z_lm, z_ml, z_nm, nI_add, pk_mul, ↓reduceIte, not_true_eq_false, not_false_eq_true, true_or, or_true, false_or, or_false, true_and, and_true, and_false, false_and, Classical.not_not, Nat.add_zero, z_01, z_em, z_bit_p, Nat.not_le, Nat.not_lt, reduceCtorEq, if_true, if_false, decide_true, decide_false, Bool.and_true, Bool.and_false, Bool.true_and, Bool.false_and, Bool.or_true, Bool.or_false, Bool.true_or, Bool.false_or, Bool.false_eq_true, ne_eq, Bool.not_true, Bool.not_false, decide_not]
      | true =>
        cases hb : z_bit (nI s) j with
        | false => simp (disch := omega) only [e_X12_coalition_139_17, k_X12_coalition_139_17, e_X12_coalition_139_27, k_X12_coalition_139_27, e_X12_coalition_139_43, k_X12_coalition_139_43, e_X12_coalition_139_51, e_X12_coalition_139_53, e_X12_coalition_139_54, e_X12_coalition_139_61, k_X12_coalition_139_61, e_X12_coalition_139_63, k_X12_coalition_139_63, e_X12_coalition_139_66, n3, z_i, l_isOf, hb, q_bd_l, z_ltT, z_ltF, z_eqT, z_eqF, z_ltlT, z_ltlF, z_lltT, z_lltF, z_eqlT, z_eqlF, z_in, z_k7, z_cl, z_lneg, z_llT, z_llF, z_s1, z_nI_cl, z_nlt0, z_ne_m1, z_b0, z_b1, z_la, z_al, z_lm, z_ml, z_nm, nI_add, pk_mul, ↓reduceIte, not_true_eq_false, not_false_eq_true, true_or, or_true, false_or, or_false, true_and, and_true, and_false, false_and, Classical.not_not, Nat.add_zero, z_01, z_em, z_bit_p, Nat.not_le, Nat.not_lt, reduceCtorEq, if_true, if_false, decide_true, decide_false, Bool.and_true, Bool.and_false, Bool.true_and, Bool.false_and, Bool.or_true, Bool.or_false, Bool.true_or, Bool.false_or, Bool.false_eq_true, ne_eq, Bool.not_true, Bool.not_false, decide_not]
        | true => by_cases hc : R_cl (I 140) n j &&& nI s = 0 <;> simp (disch := omega) only [e_X12_coalition_139_17, k_X12_coalition_139_17, e_X12_coalition_139_27, k_X12_coalition_139_27, e_X12_coalition_139_43, k_X12_coalition_139_43, e_X12_coalition_139_51, e_X12_coalition_139_53, e_X12_coalition_139_54, e_X12_coalition_139_61, k_X12_coalition_139_61, e_X12_coalition_139_63, k_X12_coalition_139_63, e_X12_coalition_139_66, n3, z_i, l_isOf, hb, ej, hc, q_bd_l, z_ltT, z_ltF, z_eqT, z_eqF, z_ltlT, z_ltlF, z_lltT, z_lltF, z_eqlT, z_eqlF, z_in, z_k7, z_cl, z_lneg, z_llT, z_llF, z_s1, z_nI_cl, z_nlt0, z_ne_m1, z_b0, z_b1, z_la, z_al, z_lm, z_ml, z_nm, nI_add, pk_mul, ↓reduceIte, not_true_eq_false, not_false_eq_true, true_or, or_true, false_or, or_false, true_and, and_true, and_false, false_and, Classical.not_not, Nat.add_zero, z_01, z_em, z_bit_p, Nat.not_le, Nat.not_lt, reduceCtorEq, if_true, if_false, decide_true, decide_false, Bool.and_true, Bool.and_false, Bool.true_and, Bool.false_and, Bool.or_true, Bool.or_false, Bool.true_or, Bool.false_or, Bool.false_eq_true, ne_eq, Bool.not_true, Bool.not_false, decide_not]) true
    refine ⟨(some (.int (z_i (z_all (fun j => !z_bit (nI s) j || decide (R_cl (I 140) n j &&& nI s = 0)) n))), some (.int (nI n))), trivial, ?_⟩
    dsimp only
    have go : c_X12_coalition_139_24 X (d + 36) f (nI s) o3 o4 J T = c_X12_coalition_139_32 X (d + 36) f (nI s) (z_i true) (nI 0) J T := by
      rw [e_X12_coalition_139_24]
      simp (disch := omega) only [e_X12_coalition_139_27, k_X12_coalition_139_27, l_allJars X _ J T n n3 h10, q_bd_l, z_ltT, z_ltF, z_eqT, z_eqF, z_ltlT, z_ltlF, z_lltT, z_lltF, z_eqlT, z_eqlF, z_in, z_k7, z_cl, z_lneg, z_llT, z_llF, z_s1, z_nI_cl, z_nlt0, z_ne_m1, z_b0, z_b1, z_la, z_al, z_lm, z_ml, z_nm, nI_add, pk_mul, ↓reduceIte, not_true_eq_false, not_false_eq_true, true_or, or_true, false_or, or_false, true_and, and_true, and_false, false_and, Classical.not_not, Nat.add_zero, z_01, z_em, z_bit_p, Nat.not_le, Nat.not_lt, reduceCtorEq, if_true, if_false]
      rfl
    rw [go]
    refine inner.trans ?_
    rw [e_X12_coalition_139_32]
    show _ = c_X12_coalition_139_24 X (d + 36) (R_c1 (I 140) n s f) (nI (s + 1)) (some (.int (z_i (z_all (fun j => !z_bit (nI s) j || decide (R_cl (I 140) n j &&& nI s = 0)) n)))) (some (.int (nI n))) J T
    have eall : z_it (fun j g => g && (!z_bit (nI s) j || decide (R_cl (I 140) n j &&& nI s = 0))) n true = z_all (fun j => !z_bit (nI s) j || decide (R_cl (I 140) n j &&& nI s = 0)) n := rfl
    rw [eall]
    unfold R_c1
    cases hg : z_all (fun j => !z_bit (nI s) j || decide (R_cl (I 140) n j &&& nI s = 0)) n with
    | false => simp (disch := omega) only [e_X12_coalition_139_17, k_X12_coalition_139_17, e_X12_coalition_139_27, k_X12_coalition_139_27, e_X12_coalition_139_43, k_X12_coalition_139_43, e_X12_coalition_139_51, e_X12_coalition_139_53, e_X12_coalition_139_54, e_X12_coalition_139_61, k_X12_coalition_139_61, e_X12_coalition_139_63, k_X12_coalition_139_63, e_X12_coalition_139_66, n3, z_i, q_bd_l, z_ltT, z_ltF, z_eqT, z_eqF, z_ltlT, z_ltlF, z_lltT, z_lltF, z_eqlT, z_eqlF, z_in, z_k7, z_cl, z_lneg, z_llT, z_llF, z_s1, z_nI_cl, z_nlt0, z_ne_m1, z_b0, z_b1, z_la, z_al, z_lm, z_ml, z_nm, nI_add, pk_mul, ↓reduceIte, not_true_eq_false, not_false_eq_true, true_or, or_true, false_or, or_false, true_and, and_true, and_false, false_and, Classical.not_not, Nat.add_zero, z_01, z_em, z_bit_p, Nat.not_le, Nat.not_lt, reduceCtorEq, if_true, if_false, decide_true, decide_false, Bool.and_true, Bool.and_false, Bool.true_and, Bool.false_and, Bool.or_true, Bool.or_false, Bool.true_or, Bool.false_or, Bool.false_eq_true, ne_eq, Bool.not_true, Bool.not_false, decide_not]
    | true => by_cases hc : R_bits f < R_bits (nI s) <;> simp (disch := omega) only [e_X12_coalition_139_17, k_X12_coalition_139_17, e_X12_coalition_139_27, k_X12_coalition_139_27, e_X12_coalition_139_43, k_X12_coalition_139_43, e_X12_coalition_139_51, e_X12_coalition_139_53, e_X12_coalition_139_54, e_X12_coalition_139_61, k_X12_coalition_139_61, e_X12_coalition_139_63, k_X12_coalition_139_63, e_X12_coalition_139_66, n3, z_i, l_bits, hc, q_bd_l, z_ltT, z_ltF, z_eqT, z_eqF, z_ltlT, z_ltlF, z_lltT, z_lltF, z_eqlT, z_eqlF, z_in, z_k7, z_cl, z_lneg, z_llT, z_llF, z_s1, z_nI_cl, z_nlt0, z_ne_m1, z_b0, z_b1, z_la, z_al, z_lm, z_ml, z_nm, nI_add, pk_mul, ↓reduceIte, not_true_eq_false, not_false_eq_true, true_or, or_true, false_or, or_false, true_and, and_true, and_false, false_and, Classical.not_not, Nat.add_zero, z_01, z_em, z_bit_p, Nat.not_le, Nat.not_lt, reduceCtorEq, if_true, if_false, decide_true, decide_false, Bool.and_true, Bool.and_false, Bool.true_and, Bool.false_and, Bool.or_true, Bool.or_false, Bool.true_or, Bool.false_or, Bool.false_eq_true, ne_eq, Bool.not_true, Bool.not_false, decide_not]) 0 (none, none) trivial
  refine t4.trans ?_
  dsimp only
  rw [e_X12_coalition_139_24]
  simp (disch := omega) only [e_X12_coalition_139_27, k_X12_coalition_139_27, l_allJars X _ J T n n3 h10, q_bd_l, z_ltT, z_ltF, z_eqT, z_eqF, z_ltlT, z_ltlF, z_lltT, z_lltF, z_eqlT, z_eqlF, z_in, z_k7, z_cl, z_lneg, z_llT, z_llF, z_s1, z_nI_cl, z_nlt0, z_ne_m1, z_b0, z_b1, z_la, z_al, z_lm, z_ml, z_nm, nI_add, pk_mul, ↓reduceIte, not_true_eq_false, not_false_eq_true, true_or, or_true, false_or, or_false, true_and, and_true, and_false, false_and, Classical.not_not, Nat.add_zero, z_01, z_em, z_bit_p, Nat.not_le, Nat.not_lt, reduceCtorEq, if_true, if_false]
  rfl
/-- MATTERS of which a jar's advice is that at least -/
def R_can (r : Nat → Int32) (num : Int32) (j : Nat) : Int32 := z_set (fun t => decide (¬ R_adv r j t < num)) 6
def R_mat (r : Nat → Int32) (n : Nat) (num : Int32) (s : Nat) : Int32 := z_it (fun j a => a ||| (if z_bit (nI s) j = true then R_can r num j else 0)) n 0
def R_v1 (r : Nat → Int32) (n : Nat) (num : Int32) (s : Nat) (f : Int32) : Int32 := if (f = -1 ∨ R_bits (nI s) < R_bits f) ∧ R_mat r n num s = 63 then nI s else f
def R_cov (r : Nat → Int32) (n : Nat) (num : Int32) : Int32 := z_it (R_v1 r n num) (2 ^ n) (-1)
theorem l_cover1 (X : Sx) (d : Nat) (I : Ii) (T : Tt) (n m : Nat) (h : R_g n (I 140)) (hm : m ≤ 9) : ∃ K, c_X12_cover_139 X (d + 36) (nI m) I T = z_r (R_cov (I 140) n (nI m)) K T ∧ K 139 0 = 0 ∧ z_fr m_q I K := by
  have h10 := h.2.1
  have h2n := z_2n h10
  have e : (q_w I 139 0 0) 140 = I 140 := z_w_a _ _ _ _ _ (by decide)
  obtain ⟨⟨J, o⟩, ⟨p1, p2, p3⟩, p4⟩ := z_foldP (β := Unit) (σ := Ii × Option Value) (fun k _ J => c_X12_cover_139_17 X (d + 35) (nI m) (nI k) J.2 J.1 T) (fun _ u => u) (fun k _ J => z_fr m_q I J.1 ∧ J.1 139 0 = 0 ∧ ∀ i, i < k → J.1 146 i = R_can (I 140) (nI m) i) n (by
    intro k _ J hk ⟨q1, q2, q3⟩
    obtain ⟨J, o⟩ := J
    dsimp only at q1 q2 q3 ⊢
    have eJ := z_q140 q1
    have n3 : J 140 3 = nI n := by rw [eJ]; exact h.1
    obtain ⟨K, ⟨k1, k2, k3, k4⟩, k5⟩ := z_foldP (β := Int32) (σ := Ii) (fun t _ K => c_X12_cover_139_30 X (d + 35) (nI m) (nI k) (nI t) K T) (fun t a => a ||| (if decide (¬ R_adv (I 140) k t < nI m) = true then (1 : Int32) <<< (nI t &&& 31) else 0)) (fun t a K => z_fr m_q I K ∧ K 139 0 = 0 ∧ (∀ i, i < k → K 146 i = R_can (I 140) (nI m) i) ∧ K 146 k = a) 6 (by
      intro t a K ht ⟨a1, a2, a3, a4⟩
      have eK := z_q140 a1
      obtain ⟨L, l1, l2⟩ := l_adv X (d + 1) K T k t (by omega) ht (by rw [eK]; exact h.2.2)
      rw [eK] at l1
      refine ⟨q_w L 146 k (a ||| (if decide (¬ R_adv (I 140) k t < nI m) = true then (1 : Int32) <<< (nI t &&& 31) else 0)), ⟨z_fr_w (z_fr_t a1 (z_fr_q l2)) 146 k _ (by simp [m_q]), ?_, fun i hi => ?_, z_w_s _ _ _ _⟩, ?_⟩
      · rw [z_w_a _ _ _ _ _ (by decide), l2 139 0 rfl]; exact a2
      · rw [z_w_k _ _ _ _ _ (by omega), l2 146 i rfl]; exact a3 i hi
      · rw [e_X12_cover_139_30]
        by_cases hc : R_adv (I 140) k t < nI m <;> simp (disch := omega) only [e_X12_cover_139_5, k_X12_cover_139_5, e_X12_cover_139_9, e_X12_cover_139_42, k_X12_cover_139_42, e_X12_cover_139_49, e_X12_cover_139_62, k_X12_cover_139_62, e_X12_cover_139_68, k_X12_cover_139_68, e_X12_cover_139_70, k_X12_cover_139_70, e_X12_cover_139_72, e_X12_cover_139_86, k_X12_cover_139_86, e_X12_cover_139_93, e_X12_cover_139_102, l1, a4, hc, q_bd_l, z_ltT, z_ltF, z_eqT, z_eqF, z_ltlT, z_ltlF, z_lltT, z_lltF, z_eqlT, z_eqlF, z_in, z_k7, z_cl, z_lneg, z_llT, z_llF, z_s1, z_nI_cl, z_nlt0, z_ne_m1, z_b0, z_b1, z_la, z_al, z_lm, z_ml, z_nm, nI_add, pk_mul, ↓reduceIte, not_true_eq_false, not_false_eq_true, true_or, or_true, false_or, or_false, true_and, and_true, and_false, false_and, Classical.not_not, Nat.add_zero, z_01, z_em, z_bit_p, Nat.not_le, Nat.not_lt, reduceCtorEq, if_true, if_false, decide_true, decide_false, Bool.and_true, Bool.and_false, Bool.true_and, Bool.false_and, Bool.or_true, Bool.or_false, Bool.true_or, Bool.false_or, Bool.false_eq_true, ne_eq, Bool.not_true, Bool.not_false, decide_not]) 0 (q_w J 146 k 0) ⟨z_fr_w q1 146 k _ (by simp [m_q]), by rw [z_w_a _ _ _ _ _ (by decide)]; exact q2, fun i hi => by rw [z_w_k _ _ _ _ _ (by omega)]; exact q3 i hi, z_w_s _ _ _ _⟩
    refine ⟨(K, some (.int (nI 6))), ⟨k1, k2, fun i hi => ?_⟩, ?_⟩
    · by_cases ei : i = k
      · subst ei; exact k4
      · exact k3 i (by omega)
    · dsimp only
      rw [e_X12_cover_139_17]
      simp (disch := omega) only [n3, q_bd_l, z_ltT, z_ltF, z_eqT, z_eqF, z_ltlT, z_ltlF, z_lltT, z_lltF, z_eqlT, z_eqlF, z_in, z_k7, z_cl, z_lneg, z_llT, z_llF, z_s1, z_nI_cl, z_nlt0, z_ne_m1, z_b0, z_b1, z_la, z_al, z_lm, z_ml, z_nm, nI_add, pk_mul, ↓reduceIte, not_true_eq_false, not_false_eq_true, true_or, or_true, false_or, or_false, true_and, and_true, and_false, false_and, Classical.not_not, Nat.add_zero, z_01, z_em, z_bit_p, Nat.not_le, Nat.not_lt, reduceCtorEq, if_true, if_false]
      refine k5.trans ?_
      rw [e_X12_cover_139_30]
      simp (disch := omega) only [q_bd_l, z_ltT, z_ltF, z_eqT, z_eqF, z_ltlT, z_ltlF, z_lltT, z_lltF, z_eqlT, z_eqlF, z_in, z_k7, z_cl, z_lneg, z_llT, z_llF, z_s1, z_nI_cl, z_nlt0, z_ne_m1, z_b0, z_b1, z_la, z_al, z_lm, z_ml, z_nm, nI_add, pk_mul, ↓reduceIte, not_true_eq_false, not_false_eq_true, true_or, or_true, false_or, or_false, true_and, and_true, and_false, false_and, Classical.not_not, Nat.add_zero, z_01, z_em, z_bit_p, Nat.not_le, Nat.not_lt, reduceCtorEq, if_true, if_false]) () (q_w I 139 0 0, none) ⟨z_q0 I 0, z_w_s I 139 0 0, fun i hi => by omega⟩
  dsimp only at p1 p2 p3 p4
  have n3 : J 140 3 = nI n := by rw [z_q140 p1]; exact h.1
  refine ⟨J, ?_, p2, p1⟩
  rw [e_X12_cover_139, l_in1 X _ I T m 9 (by omega) hm]
  simp (disch := omega) only [e_X12_cover_139_5, e_X12_cover_139_9, k_X12_cover_139_5, q_bd_l, z_ltT, z_ltF, z_eqT, z_eqF, z_ltlT, z_ltlF, z_lltT, z_lltF, z_eqlT, z_eqlF, z_in, z_k7, z_cl, z_lneg, z_llT, z_llF, z_s1, z_nI_cl, z_nlt0, z_ne_m1, z_b0, z_b1, z_la, z_al, z_lm, z_ml, z_nm, nI_add, pk_mul, ↓reduceIte, not_true_eq_false, not_false_eq_true, true_or, or_true, false_or, or_false, true_and, and_true, and_false, false_and, Classical.not_not, Nat.add_zero, z_01, z_em, z_bit_p, Nat.not_le, Nat.not_lt, reduceCtorEq, if_true, if_false]
  refine p4.trans ?_
  rw [e_X12_cover_139_17]
  simp (disch := omega) only [n3, q_bd_l, z_ltT, z_ltF, z_eqT, z_eqF, z_ltlT, z_ltlF, z_lltT, z_lltF, z_eqlT, z_eqlF, z_in, z_k7, z_cl, z_lneg, z_llT, z_llF, z_s1, z_nI_cl, z_nlt0, z_ne_m1, z_b0, z_b1, z_la, z_al, z_lm, z_ml, z_nm, nI_add, pk_mul, ↓reduceIte, not_true_eq_false, not_false_eq_true, true_or, or_true, false_or, or_false, true_and, and_true, and_false, false_and, Classical.not_not, Nat.add_zero, z_01, z_em, z_bit_p, Nat.not_le, Nat.not_lt, reduceCtorEq, if_true, if_false]
  obtain ⟨⟨o3, o4⟩, -, t4⟩ := z_foldP (β := Int32) (σ := Option Value × Option Value) (fun s f o => c_X12_cover_139_59 X (d + 35) (nI m) f (nI s) o.1 o.2 J T) (R_v1 (I 140) n (nI m)) (fun _ _ _ => True) (2 ^ n) (by
    intro s f o hs _
    obtain ⟨o3, o4⟩ := o
    have inner := z_for (fun j a => c_X12_cover_139_76 X (d + 35) (nI m) f (nI s) a (nI j) J T) (fun j a => a ||| (if z_bit (nI s) j = true then R_can (I 140) (nI m) j else 0)) n (fun j a hj => by
      rw [e_X12_cover_139_76]
      have ej := p3 j hj
      cases hb : z_bit (nI s) j <;> simp (disch := omega) only [e_X12_cover_139_5, k_X12_cover_139_5, e_X12_cover_139_9, e_X12_cover_139_42, k_X12_cover_139_42, e_X12_cover_139_49, e_X12_cover_139_62, k_X12_cover_139_62, e_X12_cover_139_68, k_X12_cover_139_68, e_X12_cover_139_70, k_X12_cover_139_70, e_X12_cover_139_72, e_X12_cover_139_86, k_X12_cover_139_86, e_X12_cover_139_93, e_X12_cover_139_102, n3, l_isOf, hb, ej, q_bd_l, z_ltT, z_ltF, z_eqT, z_eqF, z_ltlT, z_ltlF, z_lltT, z_lltF, z_eqlT, z_eqlF, z_in, z_k7, z_cl, z_lneg, z_llT, z_llF, z_s1, z_nI_cl, z_nlt0, z_ne_m1, z_b0, z_b1, z_la, z_al, z_lm, z_ml, z_nm, nI_add, pk_mul, ↓reduceIte, not_true_eq_false, not_false_eq_true, true_or, or_true, false_or, or_false, true_and, and_true, and_false, false_and, Classical.not_not, Nat.add_zero, z_01, z_em, z_bit_p, Nat.not_le, Nat.not_lt, reduceCtorEq, if_true, if_false, decide_true, decide_false, Bool.and_true, Bool.and_false, Bool.true_and, Bool.false_and, Bool.or_true, Bool.or_false, Bool.true_or, Bool.false_or, Bool.false_eq_true, ne_eq, Bool.not_true, Bool.not_false, decide_not]) 0
    dsimp only
    unfold R_v1
    by_cases h1 : f = -1 ∨ R_bits (nI s) < R_bits f
    · have go : c_X12_cover_139_59 X (d + 35) (nI m) f (nI s) o3 o4 J T = c_X12_cover_139_76 X (d + 35) (nI m) f (nI s) 0 (nI 0) J T := by
        rw [e_X12_cover_139_59]
        by_cases h2 : f = -1
        · simp (disch := omega) only [e_X12_cover_139_5, k_X12_cover_139_5, e_X12_cover_139_9, e_X12_cover_139_42, k_X12_cover_139_42, e_X12_cover_139_49, e_X12_cover_139_62, k_X12_cover_139_62, e_X12_cover_139_68, k_X12_cover_139_68, e_X12_cover_139_70, k_X12_cover_139_70, e_X12_cover_139_72, e_X12_cover_139_86, k_X12_cover_139_86, e_X12_cover_139_93, e_X12_cover_139_102, l_allJars X _ J T n n3 h10, h2, q_bd_l, z_ltT, z_ltF, z_eqT, z_eqF, z_ltlT, z_ltlF, z_lltT, z_lltF, z_eqlT, z_eqlF, z_in, z_k7, z_cl, z_lneg, z_llT, z_llF, z_s1, z_nI_cl, z_nlt0, z_ne_m1, z_b0, z_b1, z_la, z_al, z_lm, z_ml, z_nm, nI_add, pk_mul, ↓reduceIte, not_true_eq_false, not_false_eq_true, true_or, or_true, false_or, or_false, true_and, and_true, and_false, false_and, Classical.not_not, Nat.add_zero, z_01, z_em, z_bit_p, Nat.not_le, Nat.not_lt, reduceCtorEq, if_true, if_false]
          rfl
        · have h3 : R_bits (nI s) < R_bits f := by rcases h1 with h | h; exact absurd h h2; exact h
          simp (disch := omega) only [e_X12_cover_139_5, k_X12_cover_139_5, e_X12_cover_139_9, e_X12_cover_139_42, k_X12_cover_139_42, e_X12_cover_139_49, e_X12_cover_139_62, k_X12_cover_139_62, e_X12_cover_139_68, k_X12_cover_139_68, e_X12_cover_139_70, k_X12_cover_139_70, e_X12_cover_139_72, e_X12_cover_139_86, k_X12_cover_139_86, e_X12_cover_139_93, e_X12_cover_139_102, l_allJars X _ J T n n3 h10, h2, h3, l_bits, q_bd_l, z_ltT, z_ltF, z_eqT, z_eqF, z_ltlT, z_ltlF, z_lltT, z_lltF, z_eqlT, z_eqlF, z_in, z_k7, z_cl, z_lneg, z_llT, z_llF, z_s1, z_nI_cl, z_nlt0, z_ne_m1, z_b0, z_b1, z_la, z_al, z_lm, z_ml, z_nm, nI_add, pk_mul, ↓reduceIte, not_true_eq_false, not_false_eq_true, true_or, or_true, false_or, or_false, true_and, and_true, and_false, false_and, Classical.not_not, Nat.add_zero, z_01, z_em, z_bit_p, Nat.not_le, Nat.not_lt, reduceCtorEq, if_true, if_false]
          rfl
      refine ⟨(some (.int (R_mat (I 140) n (nI m) s)), some (.int (nI n))), trivial, ?_⟩
      rw [go]
      refine inner.trans ?_
      rw [e_X12_cover_139_76]
      have em : z_it (fun j a => a ||| (if z_bit (nI s) j = true then R_can (I 140) (nI m) j else 0)) n 0 = R_mat (I 140) n (nI m) s := rfl
      rw [em]
      have h1' := eq_true h1
      by_cases h4 : R_mat (I 140) n (nI m) s = 63 <;> simp (disch := omega) only [e_X12_cover_139_5, k_X12_cover_139_5, e_X12_cover_139_9, e_X12_cover_139_42, k_X12_cover_139_42, e_X12_cover_139_49, e_X12_cover_139_62, k_X12_cover_139_62, e_X12_cover_139_68, k_X12_cover_139_68, e_X12_cover_139_70, k_X12_cover_139_70, e_X12_cover_139_72, e_X12_cover_139_86, k_X12_cover_139_86, e_X12_cover_139_93, e_X12_cover_139_102, n3, h4, h1', q_bd_l, z_ltT, z_ltF, z_eqT, z_eqF, z_ltlT, z_ltlF, z_lltT, z_lltF, z_eqlT, z_eqlF, z_in, z_k7, z_cl, z_lneg, z_llT, z_llF, z_s1, z_nI_cl, z_nlt0, z_ne_m1, z_b0, z_b1, z_la, z_al, z_lm, z_ml, z_nm, nI_add, pk_mul, ↓reduceIte, not_true_eq_false, not_false_eq_true, true_or, or_true, false_or, or_false, true_and, and_true, and_false, false_and, Classical.not_not, Nat.add_zero, z_01, z_em, z_bit_p, Nat.not_le, Nat.not_lt, reduceCtorEq, if_true, if_false]
    · have h2 : ¬ f = -1 := fun a => h1 (.inl a)
      have h3 : ¬ R_bits (nI s) < R_bits f := fun a => h1 (.inr a)
      refine ⟨(o3, o4), trivial, ?_⟩
      rw [e_X12_cover_139_59]
      simp (disch := omega) only [e_X12_cover_139_5, k_X12_cover_139_5, e_X12_cover_139_9, e_X12_cover_139_42, k_X12_cover_139_42, e_X12_cover_139_49, e_X12_cover_139_62, k_X12_cover_139_62, e_X12_cover_139_68, k_X12_cover_139_68, e_X12_cover_139_70, k_X12_cover_139_70, e_X12_cover_139_72, e_X12_cover_139_86, k_X12_cover_139_86, e_X12_cover_139_93, e_X12_cover_139_102, l_allJars X _ J T n n3 h10, h2, h3, l_bits, q_bd_l, z_ltT, z_ltF, z_eqT, z_eqF, z_ltlT, z_ltlF, z_lltT, z_lltF, z_eqlT, z_eqlF, z_in, z_k7, z_cl, z_lneg, z_llT, z_llF, z_s1, z_nI_cl, z_nlt0, z_ne_m1, z_b0, z_b1, z_la, z_al, z_lm, z_ml, z_nm, nI_add, pk_mul, ↓reduceIte, not_true_eq_false, not_false_eq_true, true_or, or_true, false_or, or_false, true_and, and_true, and_false, false_and, Classical.not_not, Nat.add_zero, z_01, z_em, z_bit_p, Nat.not_le, Nat.not_lt, reduceCtorEq, if_true, if_false]) (-1) (none, none) trivial
  refine t4.trans ?_
  dsimp only
  rw [e_X12_cover_139_59]
  simp (disch := omega) only [e_X12_cover_139_5, k_X12_cover_139_5, e_X12_cover_139_9, e_X12_cover_139_42, k_X12_cover_139_42, e_X12_cover_139_49, e_X12_cover_139_62, k_X12_cover_139_62, e_X12_cover_139_68, k_X12_cover_139_68, e_X12_cover_139_70, k_X12_cover_139_70, e_X12_cover_139_72, e_X12_cover_139_86, k_X12_cover_139_86, e_X12_cover_139_93, e_X12_cover_139_102, l_allJars X _ J T n n3 h10, q_bd_l, z_ltT, z_ltF, z_eqT, z_eqF, z_ltlT, z_ltlF, z_lltT, z_lltF, z_eqlT, z_eqlF, z_in, z_k7, z_cl, z_lneg, z_llT, z_llF, z_s1, z_nI_cl, z_nlt0, z_ne_m1, z_b0, z_b1, z_la, z_al, z_lm, z_ml, z_nm, nI_add, pk_mul, ↓reduceIte, not_true_eq_false, not_false_eq_true, true_or, or_true, false_or, or_false, true_and, and_true, and_false, false_and, Classical.not_not, Nat.add_zero, z_01, z_em, z_bit_p, Nat.not_le, Nat.not_lt, reduceCtorEq, if_true, if_false]
  rfl
theorem l_cover0 (X : Sx) (d : Nat) (I : Ii) (T : Tt) (v : Int32) (hv : z_no v 10) : c_X12_cover_139 X (d + 36) v I T = z_r 0 (q_w I 139 0 1) T := by
  rw [e_X12_cover_139, l_in0 X _ v I T 9 (by omega) hv]
  simp (disch := omega) only [e_X12_cover_139_5, e_X12_cover_139_9, k_X12_cover_139_5, q_bd_l, z_ltT, z_ltF, z_eqT, z_eqF, z_ltlT, z_ltlF, z_lltT, z_lltF, z_eqlT, z_eqlF, z_in, z_k7, z_cl, z_lneg, z_llT, z_llF, z_s1, z_nI_cl, z_nlt0, z_ne_m1, z_b0, z_b1, z_la, z_al, z_lm, z_ml, z_nm, nI_add, pk_mul, ↓reduceIte, not_true_eq_false, not_false_eq_true, true_or, or_true, false_or, or_false, true_and, and_true, and_false, false_and, Classical.not_not, Nat.add_zero, z_01, z_em, z_bit_p, Nat.not_le, Nat.not_lt, reduceCtorEq, if_true, if_false]
