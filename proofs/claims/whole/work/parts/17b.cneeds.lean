/-! ===== THE CLASS: spans, needs ===== -/
theorem z_it_0 {α : Type} (s : Nat → α → α) : ∀ (n : Nat) (a : α), z_it s (n + 1) a = z_it (fun k x => s (k + 1) x) n (s 0 a)
  | 0, _ => rfl
  | n + 1, a => by
    show s (n + 1) (z_it s (n + 1) a) = s (n + 1) (z_it (fun k x => s (k + 1) x) n (s 0 a))
    rw [z_it_0 s n a]
theorem z_min_c (f c : Int32) : (if c < f then c else f) = (if f < c then f else c) := by
  have t : ∀ x y : Int32, (x < y) = (x.toInt < y.toInt) := fun x y => propext Int32.lt_iff_toInt_lt
  simp only [t]
  by_cases h1 : c.toInt < f.toInt
  · rw [if_pos h1, if_neg (by omega)]
  · rw [if_neg h1]
    by_cases h2 : f.toInt < c.toInt
    · rw [if_pos h2]
    · rw [if_neg h2]; exact Int32.toInt_inj.mp (by omega)
theorem z_max_c (f c : Int32) : (if f < c then c else f) = (if c < f then f else c) := by
  have t : ∀ x y : Int32, (x < y) = (x.toInt < y.toInt) := fun x y => propext Int32.lt_iff_toInt_lt
  simp only [t]
  by_cases h1 : f.toInt < c.toInt
  · rw [if_pos h1, if_neg (by omega)]
  · rw [if_neg h1]
    by_cases h2 : c.toInt < f.toInt
    · rw [if_pos h2]
    · rw [if_neg h2]; exact Int32.toInt_inj.mp (by omega)
theorem k_span (X : Sx) (d : Nat) (I : Ii) (T : Tt) (r : Nat → Int32) (n m q : Nat) (w : Int32) (hq : q ≤ 100) (h : k_H27 I r n m) : ∃ J, c_X2_spanOfTrials_135 X (d + 8) (nI q) w I T = z_r (R_span r n q w) J T ∧ z_fr m_cs I J := by
  obtain ⟨J, j1, j2, -, x, hx, ex⟩ := k_trySeed X d I T r n m q 1 hq h
  have e1 : R_spo (R_pass n q (va_up r 11 1)) n = R_tr r n q 1 := rfl
  rw [e1] at j1 ex
  obtain ⟨⟨K, o⟩, ⟨p1, p2⟩, p4⟩ := z_foldP (β := Int32) (σ := Ii × Option Value) (fun i f K => c_X2_spanOfTrials_135_7 X (d + 7) (nI q) w f (nI (i + 2)) K.2 K.1 T) (fun i f => R_sp1 r n q w (i + 1) f) (fun i f K => z_fr m_lk I K.1 ∧ ∃ x, x ≤ 200 ∧ f = nI x) 5 (by
    intro i f K hi ⟨q1, y, hy, ey⟩
    obtain ⟨K, o⟩ := K
    dsimp only at q1 ⊢
    obtain ⟨L, l1, l2, -, x, hx, ex⟩ := k_trySeed X d K T r n m q (nI (i + 2)) hq (k_H27_cs h (z_cs_m32 q1))
    have e2 : R_spo (R_pass n q (va_up r 11 (nI (i + 2)))) n = R_tr r n q (i + 1 + 1) := rfl
    rw [e2] at l1 ex
    have hf : ¬ f = -1 := by rw [ey, z_ne_m1 y (by omega)]; exact not_false
    refine ⟨(L, some (.int (R_tr r n q (i + 1 + 1)))), ⟨z_fr_t q1 l2, ?_⟩, ?_⟩
    · unfold R_sp1
      rw [if_neg hf]
      split <;> split
      · exact ⟨y, hy, ey⟩
      · exact ⟨x, hx, ex⟩
      · exact ⟨y, hy, ey⟩
      · exact ⟨x, hx, ex⟩
    · dsimp only
      rw [e_X2_spanOfTrials_135_7]
      unfold R_sp1
      rw [if_neg hf]
      by_cases hw : w = 0
      · simp (disch := omega) only [e_X2_spanOfTrials_135_4, k_X2_spanOfTrials_135_4, e_X2_spanOfTrials_135_14, k_X2_spanOfTrials_135_14, e_X2_spanOfTrials_135_24, l1, hw, q_bd_l, z_ltT, z_ltF, z_eqT, z_eqF, z_ltlT, z_ltlF, z_lltT, z_lltF, z_eqlT, z_eqlF, z_in, z_k7, z_cl, z_lneg, z_llT, z_llF, z_s1, z_nI_cl, z_nlt0, z_ne_m1, z_b0, z_b1, z_la, z_al, z_lm, z_ml, z_nm, nI_add, pk_mul, ↓reduceIte, not_true_eq_false, not_false_eq_true, true_or, or_true, false_or, or_false, true_and, and_true, and_false, false_and, Classical.not_not, Nat.add_zero, z_01, z_em, z_bit_p, Nat.not_le, Nat.not_lt, reduceCtorEq, if_true, if_false]
        rw [z_min_c]
      · simp (disch := omega) only [e_X2_spanOfTrials_135_4, k_X2_spanOfTrials_135_4, e_X2_spanOfTrials_135_14, k_X2_spanOfTrials_135_14, e_X2_spanOfTrials_135_24, l1, hw, q_bd_l, z_ltT, z_ltF, z_eqT, z_eqF, z_ltlT, z_ltlF, z_lltT, z_lltF, z_eqlT, z_eqlF, z_in, z_k7, z_cl, z_lneg, z_llT, z_llF, z_s1, z_nI_cl, z_nlt0, z_ne_m1, z_b0, z_b1, z_la, z_al, z_lm, z_ml, z_nm, nI_add, pk_mul, ↓reduceIte, not_true_eq_false, not_false_eq_true, true_or, or_true, false_or, or_false, true_and, and_true, and_false, false_and, Classical.not_not, Nat.add_zero, z_01, z_em, z_bit_p, Nat.not_le, Nat.not_lt, reduceCtorEq, if_true, if_false]
        rw [z_max_c]) (R_tr r n q 1) (J, none) ⟨j2, x, hx, ex⟩
  dsimp only at p1 p4
  refine ⟨K, ?_, z_cs_m32 p1⟩
  have st : c_X2_spanOfTrials_135 X (d + 8) (nI q) w I T = c_X2_spanOfTrials_135_7 X (d + 7) (nI q) w (R_tr r n q 1) (nI (0 + 2)) none J T := by
    rw [e_X2_spanOfTrials_135, j1]
    simp (disch := omega) only [e_X2_spanOfTrials_135_4, k_X2_spanOfTrials_135_4, e_X2_spanOfTrials_135_14, k_X2_spanOfTrials_135_14, e_X2_spanOfTrials_135_24, q_bd_l, z_ltT, z_ltF, z_eqT, z_eqF, z_ltlT, z_ltlF, z_lltT, z_lltF, z_eqlT, z_eqlF, z_in, z_k7, z_cl, z_lneg, z_llT, z_llF, z_s1, z_nI_cl, z_nlt0, z_ne_m1, z_b0, z_b1, z_la, z_al, z_lm, z_ml, z_nm, nI_add, pk_mul, ↓reduceIte, not_true_eq_false, not_false_eq_true, true_or, or_true, false_or, or_false, true_and, and_true, and_false, false_and, Classical.not_not, Nat.add_zero, z_01, z_em, z_bit_p, Nat.not_le, Nat.not_lt, reduceCtorEq, if_true, if_false]
    rfl
  rw [st]
  refine p4.trans ?_
  rw [e_X2_spanOfTrials_135_7]
  simp (disch := omega) only [q_bd_l, z_ltT, z_ltF, z_eqT, z_eqF, z_ltlT, z_ltlF, z_lltT, z_lltF, z_eqlT, z_eqlF, z_in, z_k7, z_cl, z_lneg, z_llT, z_llF, z_s1, z_nI_cl, z_nlt0, z_ne_m1, z_b0, z_b1, z_la, z_al, z_lm, z_ml, z_nm, nI_add, pk_mul, ↓reduceIte, not_true_eq_false, not_false_eq_true, true_or, or_true, false_or, or_false, true_and, and_true, and_false, false_and, Classical.not_not, Nat.add_zero, z_01, z_em, z_bit_p, Nat.not_le, Nat.not_lt, reduceCtorEq, if_true, if_false]
  unfold R_span
  rw [z_it_0]
  rfl
-- needs
theorem R_ahs_8 (n : Nat) (hn : n ≤ 10) (r : Nat → Int32) : ∀ i, R_ahs n i r 8 = r 8 + nI i
  | 0 => (Int32.add_zero _).symm
  | i + 1 => by
    have ih := R_ahs_8 n hn r i
    show R_ah n (R_ahs n i r) 8 = _
    have e : R_sours n (R_ahs n i r) 8 = R_ahs n i r 8 := by
      refine z_it_P (P := fun (s : Nat → Int32) => s 8 = R_ahs n i r 8) rfl (fun k s hk hs => ?_)
      show R_sj n k s 8 = _
      unfold R_sj
      split
      · rw [ru_ne (by omega)]; exact hs
      · refine z_it_P (P := fun (s : Nat → Int32) => s 8 = R_ahs n i r 8) (by rw [ru_ne (by omega), ru_ne (by omega)]; exact hs) (fun o s ho hs => ?_)
        show R_sp k o s 8 = _
        unfold R_sp
        split
        · rw [ru_ne (by omega)]; exact hs
        · exact hs
    unfold R_ah R_next
    rw [ru_s, e, ih, Int32.add_assoc, z_s1]
theorem k_answersThen (X : Sx) (d : Nat) (I : Ii) (T : Tt) (r : Nat → Int32) (n m k : Nat) (h : k_H32 I r n m) (hk : k < m) : ∃ J, c_X2_answersThen_135 X (d + 6) (nI k) I T = z_r (R_an1 n k r) J T ∧ z_fr m_la I J := by
  have hn := h.1.2.1
  have hm := h.1.2.2.2.1
  obtain ⟨⟨t, ht, et⟩, -⟩ := h.1.2.2.2.2.2.2.2.2.2.2.2 k hk
  have et2 : (r (154 + 3 * k + 1)).toNatClampNeg = t := by rw [et, nI_clamp (by omega)]
  obtain ⟨⟨J, o⟩, p1, p4⟩ := z_foldP (β := Int32) (σ := Ii × Option Value) (fun j a J => c_X2_answersThen_135_4 X (d + 5) (nI k) a (nI j) J.2 J.1 T) (fun j a => a ||| (if (decide (0 < r (12 + 13 * j + 2)) && decide (¬ R_adv r j (r (154 + 3 * k + 1)).toNatClampNeg < r (154 + 3 * k + 2))) = true then (1 : Int32) <<< (nI j &&& 31) else 0)) (fun _ _ J => z_fr m_la I J.1) n (by
    intro j a J hj hP
    obtain ⟨J, o⟩ := J
    dsimp only at hP ⊢
    have hJ := k_H32_fr h hP
    have n3 : J 3 0 = nI n := hJ.2.1.1.trans hJ.1.1
    have c2 : J 34 j = r (12 + 13 * j + 2) := hJ.2.2.1.2.2.2.2.2.1 j hj
    have c9 : J 9 k = nI t := (hJ.2.1.2.2.2.2.2.2.2.2.2.2.2.1 k hk).trans et
    rw [e_X2_answersThen_135_4, et2]
    by_cases hs : 0 < r (12 + 13 * j + 2)
    · obtain ⟨L, l1, l2⟩ := k_adv32 X d J T r n m j t hJ hj (by omega)
      have l1' : c_X2_adviceThen_135 X (d + 5) (nI j) (nI t) J T = z_r (R_adv r j t) L T := by
        rw [e_X2_adviceThen_135, l1]
        simp (disch := omega) only [e_X2_adviceThen_135, e_X2_adviceThen_135_9, k_X2_adviceThen_135_9, q_bd_l, z_ltT, z_ltF, z_eqT, z_eqF, z_ltlT, z_ltlF, z_lltT, z_lltF, z_eqlT, z_eqlF, z_in, z_k7, z_cl, z_lneg, z_llT, z_llF, z_s1, z_nI_cl, z_nlt0, z_ne_m1, z_b0, z_b1, z_la, z_al, z_lm, z_ml, z_nm, nI_add, pk_mul, ↓reduceIte, not_true_eq_false, not_false_eq_true, true_or, or_true, false_or, or_false, true_and, and_true, and_false, false_and, Classical.not_not, Nat.add_zero, z_01, z_em, z_bit_p, Nat.not_le, Nat.not_lt, reduceCtorEq, if_true, if_false]
      have hL := k_H32_fr hJ l2
      have c10 : L 10 k = r (154 + 3 * k + 2) := hL.2.1.2.2.2.2.2.2.2.2.2.2.2.2 k hk
      by_cases ha : R_adv r j t < r (154 + 3 * k + 2)
      · refine ⟨(L, some (.int 0)), z_fr_t hP l2, ?_⟩
        simp (disch := omega) only [e_X2_answersThen_135_23, k_X2_answersThen_135_23, e_X2_answersThen_135_31, e_X2_answersThen_135_32, e_X2_answersThen_135_41, n3, c2, hs, c9, l1', c10, ha, q_bd_l, z_ltT, z_ltF, z_eqT, z_eqF, z_ltlT, z_ltlF, z_lltT, z_lltF, z_eqlT, z_eqlF, z_in, z_k7, z_cl, z_lneg, z_llT, z_llF, z_s1, z_nI_cl, z_nlt0, z_ne_m1, z_b0, z_b1, z_la, z_al, z_lm, z_ml, z_nm, nI_add, pk_mul, ↓reduceIte, not_true_eq_false, not_false_eq_true, true_or, or_true, false_or, or_false, true_and, and_true, and_false, false_and, Classical.not_not, Nat.add_zero, z_01, z_em, z_bit_p, Nat.not_le, Nat.not_lt, reduceCtorEq, if_true, if_false, decide_true, decide_false, Bool.and_true, Bool.and_false, Bool.true_and, Bool.false_and, Bool.or_true, Bool.or_false, Bool.true_or, Bool.false_or, Bool.false_eq_true, ne_eq, Bool.not_true, Bool.not_false, decide_not]
      · refine ⟨(L, some (.int 1)), z_fr_t hP l2, ?_⟩
        simp (disch := omega) only [e_X2_answersThen_135_23, k_X2_answersThen_135_23, e_X2_answersThen_135_31, e_X2_answersThen_135_32, e_X2_answersThen_135_41, n3, c2, hs, c9, l1', c10, ha, q_bd_l, z_ltT, z_ltF, z_eqT, z_eqF, z_ltlT, z_ltlF, z_lltT, z_lltF, z_eqlT, z_eqlF, z_in, z_k7, z_cl, z_lneg, z_llT, z_llF, z_s1, z_nI_cl, z_nlt0, z_ne_m1, z_b0, z_b1, z_la, z_al, z_lm, z_ml, z_nm, nI_add, pk_mul, ↓reduceIte, not_true_eq_false, not_false_eq_true, true_or, or_true, false_or, or_false, true_and, and_true, and_false, false_and, Classical.not_not, Nat.add_zero, z_01, z_em, z_bit_p, Nat.not_le, Nat.not_lt, reduceCtorEq, if_true, if_false, decide_true, decide_false, Bool.and_true, Bool.and_false, Bool.true_and, Bool.false_and, Bool.or_true, Bool.or_false, Bool.true_or, Bool.false_or, Bool.false_eq_true, ne_eq, Bool.not_true, Bool.not_false, decide_not]
    · refine ⟨(J, some (.int 0)), hP, ?_⟩
      simp (disch := omega) only [e_X2_answersThen_135_23, k_X2_answersThen_135_23, e_X2_answersThen_135_31, e_X2_answersThen_135_32, e_X2_answersThen_135_41, n3, c2, hs, q_bd_l, z_ltT, z_ltF, z_eqT, z_eqF, z_ltlT, z_ltlF, z_lltT, z_lltF, z_eqlT, z_eqlF, z_in, z_k7, z_cl, z_lneg, z_llT, z_llF, z_s1, z_nI_cl, z_nlt0, z_ne_m1, z_b0, z_b1, z_la, z_al, z_lm, z_ml, z_nm, nI_add, pk_mul, ↓reduceIte, not_true_eq_false, not_false_eq_true, true_or, or_true, false_or, or_false, true_and, and_true, and_false, false_and, Classical.not_not, Nat.add_zero, z_01, z_em, z_bit_p, Nat.not_le, Nat.not_lt, reduceCtorEq, if_true, if_false, decide_true, decide_false, Bool.and_true, Bool.and_false, Bool.true_and, Bool.false_and, Bool.or_true, Bool.or_false, Bool.true_or, Bool.false_or, Bool.false_eq_true, ne_eq, Bool.not_true, Bool.not_false, decide_not]) 0 (I, none) (z_fr_r _ _)
  dsimp only at p1 p4
  refine ⟨J, ?_, p1⟩
  rw [e_X2_answersThen_135]
  refine p4.trans ?_
  have hJ := k_H32_fr h p1
  have n3 : J 3 0 = nI n := hJ.2.1.1.trans hJ.1.1
  rw [e_X2_answersThen_135_4]
  simp (disch := omega) only [n3, q_bd_l, z_ltT, z_ltF, z_eqT, z_eqF, z_ltlT, z_ltlF, z_lltT, z_lltF, z_eqlT, z_eqlF, z_in, z_k7, z_cl, z_lneg, z_llT, z_llF, z_s1, z_nI_cl, z_nlt0, z_ne_m1, z_b0, z_b1, z_la, z_al, z_lm, z_ml, z_nm, nI_add, pk_mul, ↓reduceIte, not_true_eq_false, not_false_eq_true, true_or, or_true, false_or, or_false, true_and, and_true, and_false, false_and, Classical.not_not, Nat.add_zero, z_01, z_em, z_bit_p, Nat.not_le, Nat.not_lt, reduceCtorEq, if_true, if_false]
  rfl
theorem k_farthest (X : Sx) (d : Nat) (I : Ii) (T : Tt) (r : Nat → Int32) (n m : Nat) (h : k_H27 I r n m) : ∃ N, N ≤ 41 ∧ c_X2_farthestNeed_135 X (d + 1) I T = z_r (nI N - 1) I T ∧ ∀ k, k < m → ∀ i, i ≤ 40 → r (154 + 3 * k) - r 8 = nI i → i < N := by
  have hm := h.1.2.2.2.1
  have n5 : I 3 5 = nI m := h.2.1.2.1.trans h.1.2.2.1
  have e5 : I 27 5 = r 8 := h.2.2.1.1
  have key : ∀ k f N, k < m → N ≤ 41 → f = nI N - 1 → (∀ k', k' < k → ∀ j, j ≤ 40 → r (154 + 3 * k') - r 8 = nI j → j < N) → ∃ N', N' ≤ 41 ∧ (if 40 < r (154 + 3 * k) - r 8 then f else if f < r (154 + 3 * k) - r 8 then r (154 + 3 * k) - r 8 else f) = nI N' - 1 ∧ ∀ k', k' < k + 1 → ∀ j, j ≤ 40 → r (154 + 3 * k') - r 8 = nI j → j < N' := by
    intro k f N hk hN ef hN2
    have eN : (nI N - 1 : Int32).toInt = (N : Int) - 1 := pk_sub_toInt (b := 1) (by omega) (by omega)
    have t : ∀ x y : Int32, (x < y) ↔ (x.toInt < y.toInt) := fun x y => Int32.lt_iff_toInt_lt
    have e40 : (40 : Int32).toInt = 40 := rfl
    by_cases h1 : 40 < r (154 + 3 * k) - r 8
    · rw [if_pos h1]
      refine ⟨N, hN, ef, fun k' hk' j hj e => ?_⟩
      by_cases ek : k' = k
      · subst ek
        rw [t, e40, e, nI_toInt (by omega)] at h1
        omega
      · exact hN2 k' (by omega) j hj e
    · rw [if_neg h1]
      rw [t, e40] at h1
      by_cases h2 : f < r (154 + 3 * k) - r 8
      · rw [if_pos h2]
        rw [t, ef, eN] at h2
        obtain ⟨i0, hi0, e0⟩ := nI_of (x := r (154 + 3 * k) - r 8) (by rw [t]; have : (0 : Int32).toInt = 0 := rfl; omega)
        have e1 : (r (154 + 3 * k) - r 8).toInt = (i0 : Int) := by rw [e0, nI_toInt hi0]
        refine ⟨i0 + 1, by omega, by rw [e0]; exact (nI_pred i0).symm, fun k' hk' j hj e => ?_⟩
        by_cases ek : k' = k
        · subst ek
          rw [e, nI_toInt (by omega)] at e1
          omega
        · have := hN2 k' (by omega) j hj e
          omega
      · rw [if_neg h2]
        rw [t, ef, eN] at h2
        refine ⟨N, hN, ef, fun k' hk' j hj e => ?_⟩
        by_cases ek : k' = k
        · subst ek
          rw [e, nI_toInt (by omega)] at h2
          omega
        · exact hN2 k' (by omega) j hj e
  obtain ⟨o, ⟨N, hN, ef, hN2⟩, p4⟩ := z_foldP (β := Int32) (σ := Option Value) (fun k f o => c_X2_farthestNeed_135_4 X d f (nI k) o I T) (fun k f => if 40 < r (154 + 3 * k) - r 8 then f else if f < r (154 + 3 * k) - r 8 then r (154 + 3 * k) - r 8 else f) (fun i f _ => ∃ N, N ≤ 41 ∧ f = nI N - 1 ∧ ∀ k, k < i → ∀ j, j ≤ 40 → r (154 + 3 * k) - r 8 = nI j → j < N) m (by
    intro k f o hk ⟨N, hN, ef, hN2⟩
    have c8 : I 8 k = r (154 + 3 * k) := h.2.1.2.2.2.2.2.2.2.2.2.2.1 k hk
    refine ⟨some (.int (r (154 + 3 * k) - r 8)), key k f N hk hN ef hN2, ?_⟩
    rw [e_X2_farthestNeed_135_4]
    by_cases h1 : 40 < r (154 + 3 * k) - r 8
    · simp (disch := omega) only [e_X2_farthestNeed_135_26, n5, c8, e5, h1, q_bd_l, z_ltT, z_ltF, z_eqT, z_eqF, z_ltlT, z_ltlF, z_lltT, z_lltF, z_eqlT, z_eqlF, z_in, z_k7, z_cl, z_lneg, z_llT, z_llF, z_s1, z_nI_cl, z_nlt0, z_ne_m1, z_b0, z_b1, z_la, z_al, z_lm, z_ml, z_nm, nI_add, pk_mul, ↓reduceIte, not_true_eq_false, not_false_eq_true, true_or, or_true, false_or, or_false, true_and, and_true, and_false, false_and, Classical.not_not, Nat.add_zero, z_01, z_em, z_bit_p, Nat.not_le, Nat.not_lt, reduceCtorEq, if_true, if_false]
    · simp (disch := omega) only [e_X2_farthestNeed_135_26, n5, c8, e5, h1, q_bd_l, z_ltT, z_ltF, z_eqT, z_eqF, z_ltlT, z_ltlF, z_lltT, z_lltF, z_eqlT, z_eqlF, z_in, z_k7, z_cl, z_lneg, z_llT, z_llF, z_s1, z_nI_cl, z_nlt0, z_ne_m1, z_b0, z_b1, z_la, z_al, z_lm, z_ml, z_nm, nI_add, pk_mul, ↓reduceIte, not_true_eq_false, not_false_eq_true, true_or, or_true, false_or, or_false, true_and, and_true, and_false, false_and, Classical.not_not, Nat.add_zero, z_01, z_em, z_bit_p, Nat.not_le, Nat.not_lt, reduceCtorEq, if_true, if_false]) (-1) none ⟨0, by omega, by decide, fun k hk => by omega⟩
  refine ⟨N, hN, ?_, fun k hk i hi e => hN2 k hk i hi e⟩
  rw [e_X2_farthestNeed_135]
  refine p4.trans ?_
  rw [e_X2_farthestNeed_135_4, ef]
  simp (disch := omega) only [n5, q_bd_l, z_ltT, z_ltF, z_eqT, z_eqF, z_ltlT, z_ltlF, z_lltT, z_lltF, z_eqlT, z_eqlF, z_in, z_k7, z_cl, z_lneg, z_llT, z_llF, z_s1, z_nI_cl, z_nlt0, z_ne_m1, z_b0, z_b1, z_la, z_al, z_lm, z_ml, z_nm, nI_add, pk_mul, ↓reduceIte, not_true_eq_false, not_false_eq_true, true_or, or_true, false_or, or_false, true_and, and_true, and_false, false_and, Classical.not_not, Nat.add_zero, z_01, z_em, z_bit_p, Nat.not_le, Nat.not_lt, reduceCtorEq, if_true, if_false]
/-- what is known of a need when years up to i were looked at -/
def k_an (r : Nat → Int32) (n : Nat) (i k : Nat) (v : Int32) : Prop := (∀ i', i' < i → r (154 + 3 * k) - r 8 = nI i' → v = R_an1 n k (R_ahs n i' r)) ∧ ((∀ i', i' < i → r (154 + 3 * k) - r 8 ≠ nI i') → v = 0)
theorem k_H32_136 {I : Ii} {r : Nat → Int32} {n m : Nat} (h : k_H32 I r n m) (k : Nat) (v : Int32) : k_H32 (q_w I 136 k v) r n m := by
  obtain ⟨h1, h2, h3, h4⟩ := h
  exact ⟨h1, z_Sh_fr h2 (fun a _ _ => z_w_a _ _ _ _ _ (by omega)), z_Mo_fr h3 (fun a _ _ => z_w_a _ _ _ _ _ (by omega)), z_La_fr h4 (by rw [z_w_a _ _ _ _ _ (by decide)]) (fun a _ _ => z_w_a _ _ _ _ _ (by omega))⟩
theorem k_findAnswers (X : Sx) (d : Nat) (I : Ii) (T : Tt) (r : Nat → Int32) (n m : Nat) (h : k_H27 I r n m) : ∃ J, c_X2_findAnswers_135 X (d + 8) I T = z_v J T ∧ z_fr m_cs I J ∧ ∀ k, k < m → J 136 k = R_ans r n k := by
  have hn := h.1.2.1
  have hm := h.1.2.2.2.1
  obtain ⟨N, hN, f1, f2⟩ := k_farthest X (d + 6) I T r n m h
  obtain ⟨F, hF⟩ : ∃ F, F = nI N - 1 := ⟨_, rfl⟩
  rw [← hF] at f1
  -- all answers are none at first
  obtain ⟨A, ⟨a1, a2⟩, a4⟩ := z_foldP (β := Unit) (σ := Ii) (fun k _ A => c_X2_findAnswers_135_5 X (d + 7) F (nI k) A T) (fun _ u => u) (fun k _ A => z_fr m_cs I A ∧ ∀ i, i < k → A 136 i = 0) m (by
    intro k _ A hk ⟨q1, q2⟩
    have hA := k_H27_cs h q1
    have n5 : A 3 5 = nI m := hA.2.1.2.1.trans hA.1.2.2.1
    refine ⟨q_w A 136 k 0, ⟨z_fr_w q1 136 k _ rfl, fun i hi => ?_⟩, ?_⟩
    · by_cases e : i = k
      · subst e; exact z_w_s _ _ _ _
      · rw [z_w_k _ _ _ _ _ e]; exact q2 i (by omega)
    · rw [e_X2_findAnswers_135_5]
      simp (disch := omega) only [n5, q_bd_l, z_ltT, z_ltF, z_eqT, z_eqF, z_ltlT, z_ltlF, z_lltT, z_lltF, z_eqlT, z_eqlF, z_in, z_k7, z_cl, z_lneg, z_llT, z_llF, z_s1, z_nI_cl, z_nlt0, z_ne_m1, z_b0, z_b1, z_la, z_al, z_lm, z_ml, z_nm, nI_add, pk_mul, ↓reduceIte, not_true_eq_false, not_false_eq_true, true_or, or_true, false_or, or_false, true_and, and_true, and_false, false_and, Classical.not_not, Nat.add_zero, z_01, z_em, z_bit_p, Nat.not_le, Nat.not_lt, reduceCtorEq, if_true, if_false]) () I ⟨z_fr_r _ _, fun i hi => by omega⟩
  have hA := k_H27_cs h a1
  have n5 : A 3 5 = nI m := hA.2.1.2.1.trans hA.1.2.2.1
  obtain ⟨B, b1, b2, b3⟩ := k_look0 X d A T r n m hA
  have b136 : ∀ k, k < m → B 136 k = 0 := fun k hk => (b2 136 k rfl).trans (a2 k hk)
  have fB : z_fr m_cs I B := z_fr_t a1 (z_cs_m32 b2)
  obtain ⟨⟨C, o⟩, ⟨c1, c2, c3⟩, c4⟩ := z_foldP (β := Unit) (σ := Ii × Option Value) (fun i _ C => c_X2_findAnswers_135_21 X (d + 7) F (nI i) C.2 C.1 T) (fun _ u => u) (fun i _ C => z_fr m_cs I C.1 ∧ k_H32 C.1 (R_ahs n i r) n m ∧ ∀ k, k < m → k_an r n i k (C.1 136 k)) N (by
    intro i _ C hi ⟨q1, q2, q3⟩
    obtain ⟨C, o⟩ := C
    dsimp only at q1 q2 q3 ⊢
    obtain ⟨D, ⟨d1, d2, d3, d3'⟩, d4⟩ := z_foldP (β := Unit) (σ := Ii) (fun k _ D => c_X2_findAnswers_135_26 X (d + 7) F (nI i) (nI k) D T) (fun _ u => u) (fun k _ D => z_fr m_cs I D ∧ k_H32 D (R_ahs n i r) n m ∧ (∀ k', k' < k → k_an r n (i + 1) k' (D 136 k')) ∧ ∀ k', k ≤ k' → k' < m → k_an r n i k' (D 136 k')) m (by
      intro k _ D hk ⟨p1, p2, p3, p5⟩
      have n5 : D 3 5 = nI m := p2.2.1.2.1.trans p2.1.2.2.1
      have e8 : R_ahs n i r 8 = r 8 + nI i := R_ahs_8 n hn r i
      have c8 : D 8 k = r (154 + 3 * k) := (p2.2.1.2.2.2.2.2.2.2.2.2.2.1 k hk).trans (R_ahs_nd hn (by omega))
      have c5 : D 32 5 = r 8 + nI i := p2.2.2.1.1.trans e8
      have eq9 : (r (154 + 3 * k) = r 8 + nI i) = (r (154 + 3 * k) - r 8 = nI i) := propext ⟨fun e => by rw [e]; grind, fun e => by rw [← e]; grind⟩
      have pk := p5 k (Nat.le_refl _) hk
      rw [e_X2_findAnswers_135_26]
      by_cases hc : r (154 + 3 * k) - r 8 = nI i
      · obtain ⟨E, e1, e2⟩ := k_answersThen X (d + 1) D T _ n m k p2 hk
        have hE := k_H32_fr p2 e2
        have eE : ∀ k', E 136 k' = D 136 k' := fun k' => e2 136 k' rfl
        refine ⟨q_w E 136 k (R_an1 n k (R_ahs n i r)), ⟨z_fr_w (z_fr_t p1 (z_cs_la e2)) 136 k _ rfl, k_H32_136 hE k _, ?_, ?_⟩, ?_⟩
        · intro k' hk'
          by_cases ek : k' = k
          · subst ek
            rw [z_w_s]
            refine ⟨fun i' hi' e => ?_, fun hno => absurd hc (hno i (by omega))⟩
            have : i' = i := by
              rw [hc, z_nI_eq i i' (by omega) (by omega)] at e
              exact e.symm
            rw [this]
          · rw [z_w_k _ _ _ _ _ ek, eE]; exact p3 k' (by omega)
        · intro k' h1 h2
          rw [z_w_k _ _ _ _ _ (by omega), eE]; exact p5 k' (by omega) h2
        · simp (disch := omega) only [e_X2_findAnswers_135_2, k_X2_findAnswers_135_2, k_X2_findAnswers_135_19, e_X2_findAnswers_135_46, k_X2_findAnswers_135_46, e_X2_findAnswers_135_47, k_X2_findAnswers_135_51, n5, c8, c5, eq9, hc, e1, q_bd_l, z_ltT, z_ltF, z_eqT, z_eqF, z_ltlT, z_ltlF, z_lltT, z_lltF, z_eqlT, z_eqlF, z_in, z_k7, z_cl, z_lneg, z_llT, z_llF, z_s1, z_nI_cl, z_nlt0, z_ne_m1, z_b0, z_b1, z_la, z_al, z_lm, z_ml, z_nm, nI_add, pk_mul, ↓reduceIte, not_true_eq_false, not_false_eq_true, true_or, or_true, false_or, or_false, true_and, and_true, and_false, false_and, Classical.not_not, Nat.add_zero, z_01, z_em, z_bit_p, Nat.not_le, Nat.not_lt, reduceCtorEq, if_true, if_false]
      · refine ⟨D, ⟨p1, p2, ?_, fun k' h1 h2 => p5 k' (by omega) h2⟩, ?_⟩
        · intro k' hk'
          by_cases ek : k' = k
          · subst ek
            refine ⟨fun i' hi' e => ?_, fun hno => pk.2 (fun i' hi' => hno i' (by omega))⟩
            by_cases ei : i' = i
            · subst ei; exact absurd e hc
            · exact pk.1 i' (by omega) e
          · exact p3 k' (by omega)
        · simp (disch := omega) only [e_X2_findAnswers_135_2, k_X2_findAnswers_135_2, k_X2_findAnswers_135_19, e_X2_findAnswers_135_46, k_X2_findAnswers_135_46, e_X2_findAnswers_135_47, k_X2_findAnswers_135_51, n5, c8, c5, eq9, hc, q_bd_l, z_ltT, z_ltF, z_eqT, z_eqF, z_ltlT, z_ltlF, z_lltT, z_lltF, z_eqlT, z_eqlF, z_in, z_k7, z_cl, z_lneg, z_llT, z_llF, z_s1, z_nI_cl, z_nlt0, z_ne_m1, z_b0, z_b1, z_la, z_al, z_lm, z_ml, z_nm, nI_add, pk_mul, ↓reduceIte, not_true_eq_false, not_false_eq_true, true_or, or_true, false_or, or_false, true_and, and_true, and_false, false_and, Classical.not_not, Nat.add_zero, z_01, z_em, z_bit_p, Nat.not_le, Nat.not_lt, reduceCtorEq, if_true, if_false]) () C ⟨q1, q2, fun k' hk' => (by omega), fun k' _ hk' => q3 k' hk'⟩
    obtain ⟨E, e1, e2, e3⟩ := k_lookOn X (d + 1) D T _ n m d2
    have n5 : D 3 5 = nI m := d2.2.1.2.1.trans d2.1.2.2.1
    refine ⟨(E, some (.int (nI m))), ⟨z_fr_t d1 (z_cs_m32 e2), e3, fun k hk => by have := d3 k hk; rw [← e2 136 k rfl] at this; exact this⟩, ?_⟩
    dsimp only
    have hNi : (F < nI i) = False := by
      have e0 : nI N - 1 = nI (N - 1) := pk_sub (b := 1) (by omega)
      rw [hF, e0]; exact z_ltF _ _ (by omega) (by omega)
    rw [e_X2_findAnswers_135_21]
    simp (disch := omega) only [hNi, q_bd_l, z_ltT, z_ltF, z_eqT, z_eqF, z_ltlT, z_ltlF, z_lltT, z_lltF, z_eqlT, z_eqlF, z_in, z_k7, z_cl, z_lneg, z_llT, z_llF, z_s1, z_nI_cl, z_nlt0, z_ne_m1, z_b0, z_b1, z_la, z_al, z_lm, z_ml, z_nm, nI_add, pk_mul, ↓reduceIte, not_true_eq_false, not_false_eq_true, true_or, or_true, false_or, or_false, true_and, and_true, and_false, false_and, Classical.not_not, Nat.add_zero, z_01, z_em, z_bit_p, Nat.not_le, Nat.not_lt, reduceCtorEq, if_true, if_false]
    refine d4.trans ?_
    rw [e_X2_findAnswers_135_26]
    simp (disch := omega) only [e_X2_findAnswers_135_2, k_X2_findAnswers_135_2, k_X2_findAnswers_135_19, e_X2_findAnswers_135_46, k_X2_findAnswers_135_46, e_X2_findAnswers_135_47, e_X2_findAnswers_135_51, k_X2_findAnswers_135_51, n5, e1, q_bd_l, z_ltT, z_ltF, z_eqT, z_eqF, z_ltlT, z_ltlF, z_lltT, z_lltF, z_eqlT, z_eqlF, z_in, z_k7, z_cl, z_lneg, z_llT, z_llF, z_s1, z_nI_cl, z_nlt0, z_ne_m1, z_b0, z_b1, z_la, z_al, z_lm, z_ml, z_nm, nI_add, pk_mul, ↓reduceIte, not_true_eq_false, not_false_eq_true, true_or, or_true, false_or, or_false, true_and, and_true, and_false, false_and, Classical.not_not, Nat.add_zero, z_01, z_em, z_bit_p, Nat.not_le, Nat.not_lt, reduceCtorEq, if_true, if_false]) () (B, none) ⟨fB, b3, fun k hk => ⟨fun i' hi' => (by omega), fun _ => b136 k hk⟩⟩
  dsimp only at c1 c2 c3 c4
  refine ⟨C, ?_, c1, fun k hk => ?_⟩
  · have st : c_X2_findAnswers_135 X (d + 8) I T = c_X2_findAnswers_135_5 X (d + 7) F (nI 0) I T := by
      rw [e_X2_findAnswers_135, f1]
      simp (disch := omega) only [e_X2_findAnswers_135_2, k_X2_findAnswers_135_2, e_X2_findAnswers_135_19, k_X2_findAnswers_135_19, e_X2_findAnswers_135_46, k_X2_findAnswers_135_46, e_X2_findAnswers_135_47, e_X2_findAnswers_135_51, k_X2_findAnswers_135_51, q_bd_l, z_ltT, z_ltF, z_eqT, z_eqF, z_ltlT, z_ltlF, z_lltT, z_lltF, z_eqlT, z_eqlF, z_in, z_k7, z_cl, z_lneg, z_llT, z_llF, z_s1, z_nI_cl, z_nlt0, z_ne_m1, z_b0, z_b1, z_la, z_al, z_lm, z_ml, z_nm, nI_add, pk_mul, ↓reduceIte, not_true_eq_false, not_false_eq_true, true_or, or_true, false_or, or_false, true_and, and_true, and_false, false_and, Classical.not_not, Nat.add_zero, z_01, z_em, z_bit_p, Nat.not_le, Nat.not_lt, reduceCtorEq, if_true, if_false]
      rfl
    rw [st]
    refine a4.trans ?_
    have st2 : c_X2_findAnswers_135_5 X (d + 7) F (nI m) A T = c_X2_findAnswers_135_21 X (d + 7) F (nI 0) none B T := by
      rw [e_X2_findAnswers_135_5]
      simp (disch := omega) only [e_X2_findAnswers_135_2, k_X2_findAnswers_135_2, e_X2_findAnswers_135_19, k_X2_findAnswers_135_19, e_X2_findAnswers_135_46, k_X2_findAnswers_135_46, e_X2_findAnswers_135_47, e_X2_findAnswers_135_51, k_X2_findAnswers_135_51, n5, b1, q_bd_l, z_ltT, z_ltF, z_eqT, z_eqF, z_ltlT, z_ltlF, z_lltT, z_lltF, z_eqlT, z_eqlF, z_in, z_k7, z_cl, z_lneg, z_llT, z_llF, z_s1, z_nI_cl, z_nlt0, z_ne_m1, z_b0, z_b1, z_la, z_al, z_lm, z_ml, z_nm, nI_add, pk_mul, ↓reduceIte, not_true_eq_false, not_false_eq_true, true_or, or_true, false_or, or_false, true_and, and_true, and_false, false_and, Classical.not_not, Nat.add_zero, z_01, z_em, z_bit_p, Nat.not_le, Nat.not_lt, reduceCtorEq, if_true, if_false]
      rfl
    rw [st2]
    refine c4.trans ?_
    have eN : (nI N - 1 : Int32).toInt = (N : Int) - 1 := pk_sub_toInt (b := 1) (by omega) (by omega)
    have hNN : (F < nI N) = True := by
      refine eq_true ?_
      rw [hF, Int32.lt_iff_toInt_lt, eN, nI_toInt (by omega)]
      omega
    rw [e_X2_findAnswers_135_21]
    simp (disch := omega) only [hNN, q_bd_l, z_ltT, z_ltF, z_eqT, z_eqF, z_ltlT, z_ltlF, z_lltT, z_lltF, z_eqlT, z_eqlF, z_in, z_k7, z_cl, z_lneg, z_llT, z_llF, z_s1, z_nI_cl, z_nlt0, z_ne_m1, z_b0, z_b1, z_la, z_al, z_lm, z_ml, z_nm, nI_add, pk_mul, ↓reduceIte, not_true_eq_false, not_false_eq_true, true_or, or_true, false_or, or_false, true_and, and_true, and_false, false_and, Classical.not_not, Nat.add_zero, z_01, z_em, z_bit_p, Nat.not_le, Nat.not_lt, reduceCtorEq, if_true, if_false]
  · obtain ⟨k1, k2⟩ := c3 k hk
    unfold R_ans
    by_cases hc : ¬ r (154 + 3 * k) - r 8 < 0 ∧ ¬ 40 < r (154 + 3 * k) - r 8
    · rw [if_pos hc]
      obtain ⟨j, hj, e⟩ := nI_of hc.1
      have h40 : j ≤ 40 := by
        have h2 := hc.2
        rw [e, show (40 : Int32) = nI 40 from rfl, z_nI_lt 40 j (by omega) hj] at h2
        omega
      rw [e, nI_clamp hj]
      exact k1 j (f2 k hk j h40 e) e
    · rw [if_neg hc]
      refine k2 (fun i' hi' e => hc ?_)
      rw [e]
      exact ⟨nI_pos (by omega), nI_nlt (b := i') (a := 40) (by omega) (by omega)⟩
theorem k_answersTo (X : Sx) (d : Nat) (I : Ii) (T : Tt) (r : Nat → Int32) (n m k : Nat) (h : k_H27 I r n m) (hk : k < m) : ∃ J, c_X2_answersTo_135 X (d + 9) (nI k) I T = z_r (R_ans r n k) J T ∧ z_fr m_cs I J := by
  have hm := h.1.2.2.2.1
  obtain ⟨J, j1, j2, j3⟩ := k_findAnswers X d I T r n m h
  have e := j3 k hk
  refine ⟨J, ?_, j2⟩
  rw [e_X2_answersTo_135, j1]
  simp (disch := omega) only [e_X2_answersTo_135, e_X2_answersTo_135_2, k_X2_answersTo_135_2, e, q_bd_l, z_ltT, z_ltF, z_eqT, z_eqF, z_ltlT, z_ltlF, z_lltT, z_lltF, z_eqlT, z_eqlF, z_in, z_k7, z_cl, z_lneg, z_llT, z_llF, z_s1, z_nI_cl, z_nlt0, z_ne_m1, z_b0, z_b1, z_la, z_al, z_lm, z_ml, z_nm, nI_add, pk_mul, ↓reduceIte, not_true_eq_false, not_false_eq_true, true_or, or_true, false_or, or_false, true_and, and_true, and_false, false_and, Classical.not_not, Nat.add_zero, z_01, z_em, z_bit_p, Nat.not_le, Nat.not_lt, reduceCtorEq, if_true, if_false]
theorem k_firstUnmet (X : Sx) (d : Nat) (I : Ii) (T : Tt) (r : Nat → Int32) (n m : Nat) (h : k_H27 I r n m) : ∃ J, c_X2_firstUnmet_135 X (d + 9) I T = z_r (z_f1 (fun k => decide (R_ans r n k = 0)) m) J T ∧ z_fr m_cs I J := by
  have hm := h.1.2.2.2.1
  obtain ⟨J, j1, j2, j3⟩ := k_findAnswers X d I T r n m h
  have hJ := k_H27_cs h j2
  have n5 : J 3 5 = nI m := hJ.2.1.2.1.trans hJ.1.2.2.1
  refine ⟨J, ?_, j2⟩
  rw [e_X2_firstUnmet_135, j1]
  simp (disch := omega) only [e_X2_firstUnmet_135_2, k_X2_firstUnmet_135_2, q_bd_l, z_ltT, z_ltF, z_eqT, z_eqF, z_ltlT, z_ltlF, z_lltT, z_lltF, z_eqlT, z_eqlF, z_in, z_k7, z_cl, z_lneg, z_llT, z_llF, z_s1, z_nI_cl, z_nlt0, z_ne_m1, z_b0, z_b1, z_la, z_al, z_lm, z_ml, z_nm, nI_add, pk_mul, ↓reduceIte, not_true_eq_false, not_false_eq_true, true_or, or_true, false_or, or_false, true_and, and_true, and_false, false_and, Classical.not_not, Nat.add_zero, z_01, z_em, z_bit_p, Nat.not_le, Nat.not_lt, reduceCtorEq, if_true, if_false]
  refine (z_find (fun k => c_X2_firstUnmet_135_4 X (d + 8) (nI k) J T) (fun k => z_r (nI k) J T) (fun k => decide (R_ans r n k = 0)) m (fun k hk => ?_)).trans ?_
  · have e := j3 k hk
    rw [e_X2_firstUnmet_135_4]
    by_cases hc : R_ans r n k = 0 <;> simp (disch := omega) only [n5, e, hc, q_bd_l, z_ltT, z_ltF, z_eqT, z_eqF, z_ltlT, z_ltlF, z_lltT, z_lltF, z_eqlT, z_eqlF, z_in, z_k7, z_cl, z_lneg, z_llT, z_llF, z_s1, z_nI_cl, z_nlt0, z_ne_m1, z_b0, z_b1, z_la, z_al, z_lm, z_ml, z_nm, nI_add, pk_mul, ↓reduceIte, not_true_eq_false, not_false_eq_true, true_or, or_true, false_or, or_false, true_and, and_true, and_false, false_and, Classical.not_not, Nat.add_zero, z_01, z_em, z_bit_p, Nat.not_le, Nat.not_lt, reduceCtorEq, if_true, if_false, decide_true, decide_false, Bool.and_true, Bool.and_false, Bool.true_and, Bool.false_and, Bool.or_true, Bool.or_false, Bool.true_or, Bool.false_or, Bool.false_eq_true, ne_eq, Bool.not_true, Bool.not_false, decide_not]
  · rw [e_X2_firstUnmet_135_4]
    unfold z_f1
    split <;> simp (disch := omega) only [n5, q_bd_l, z_ltT, z_ltF, z_eqT, z_eqF, z_ltlT, z_ltlF, z_lltT, z_lltF, z_eqlT, z_eqlF, z_in, z_k7, z_cl, z_lneg, z_llT, z_llF, z_s1, z_nI_cl, z_nlt0, z_ne_m1, z_b0, z_b1, z_la, z_al, z_lm, z_ml, z_nm, nI_add, pk_mul, ↓reduceIte, not_true_eq_false, not_false_eq_true, true_or, or_true, false_or, or_false, true_and, and_true, and_false, false_and, Classical.not_not, Nat.add_zero, z_01, z_em, z_bit_p, Nat.not_le, Nat.not_lt, reduceCtorEq, if_true, if_false]
