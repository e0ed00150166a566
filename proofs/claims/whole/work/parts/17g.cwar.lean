theorem k_isC (X : Sx) (d : Nat) (a : Int32) (I : Ii) (T : Tt) : c_X1_isContent X (d + 2) a 0 0 I T = z_r (if R_wo 0 0 a < R_wo 1 0 a then 0 else 1) I T ∧ c_X1_isContent X (d + 2) a 0 1 I T = z_r (if R_wo 0 1 a < R_wo 1 1 a then 0 else 1) I T ∧ c_X1_isContent X (d + 2) a 1 0 I T = z_r (if R_wo 1 0 a < R_wo 0 0 a then 0 else 1) I T ∧ c_X1_isContent X (d + 2) a 1 1 I T = z_r (if R_wo 1 1 a < R_wo 0 1 a then 0 else 1) I T := by
  have e : ∀ p : Prop, [Decidable p] → z_b (¬ p) = (if p then 0 else 1) := by
    intro p _
    unfold z_b
    by_cases h : p <;> simp [h]
  refine ⟨(k_isContent X d a false false I T).trans ?_, (k_isContent X d a false true I T).trans ?_, (k_isContent X d a true false I T).trans ?_, (k_isContent X d a true true I T).trans ?_⟩ <;> rw [e] <;> rfl
theorem k_isC0 (X : Sx) (d : Nat) (a : Int32) (I : Ii) (T : Tt) : c_X1_isContent X (d + 2) a 0 0 I T = z_r (if R_wo 0 0 a < R_wo 1 0 a then 0 else 1) I T := (k_isC X d a I T).1
theorem k_isC1 (X : Sx) (d : Nat) (a : Int32) (I : Ii) (T : Tt) : c_X1_isContent X (d + 2) a 0 1 I T = z_r (if R_wo 0 1 a < R_wo 1 1 a then 0 else 1) I T := (k_isC X d a I T).2.1
theorem k_isC2 (X : Sx) (d : Nat) (a : Int32) (I : Ii) (T : Tt) : c_X1_isContent X (d + 2) a 1 0 I T = z_r (if R_wo 1 0 a < R_wo 0 0 a then 0 else 1) I T := (k_isC X d a I T).2.2.1
theorem k_isC3 (X : Sx) (d : Nat) (a : Int32) (I : Ii) (T : Tt) : c_X1_isContent X (d + 2) a 1 1 I T = z_r (if R_wo 1 1 a < R_wo 0 1 a then 0 else 1) I T := (k_isC X d a I T).2.2.2
-- war
theorem k_war14 (X : Sx) (d : Nat) (I : Ii) (T : Tt) (v1 v2 v3 a b : Int32) : c_X1_restsOfWar_128_14 X (d + 2) v1 v2 v3 a b 0 0 none none none I T = z_r (R_war a b) I T := by
  obtain ⟨⟨o8, o9, o10⟩, -, p4⟩ := z_foldP (β := Int32) (σ := Option Value × Option Value × Option Value) (fun k s o => c_X1_restsOfWar_128_14 X (d + 2) v1 v2 v3 a b s (nI k) o.1 o.2.1 o.2.2 I T) (R_w1 a b) (fun _ _ _ => True) 4 (by
    intro k s o hk _
    refine ⟨(some (.int (z_i (decide (k % 2 = 1)))), some (.int (z_i (decide (1 < k)))), some (.int (if R_wo (z_i (decide (k % 2 = 1))) (z_i (decide (1 < k))) a < R_wo (z_i (!decide (k % 2 = 1))) (z_i (decide (1 < k))) a then 0 else if R_wo (z_i (decide (1 < k))) (z_i (decide (k % 2 = 1))) b < R_wo (z_i (!decide (1 < k))) (z_i (decide (k % 2 = 1))) b then 0 else 1))), trivial, ?_⟩
    dsimp only
    rw [e_X1_restsOfWar_128_14]
    unfold R_w1
    have c1 : (nI k &&& 1 = 1) = (k % 2 = 1) := by
      have : k = 0 ∨ k = 1 ∨ k = 2 ∨ k = 3 := by omega
      rcases this with rfl | rfl | rfl | rfl <;> decide
    have c2 : (nI k &&& 2 = 2) = (1 < k) := by
      have : k = 0 ∨ k = 1 ∨ k = 2 ∨ k = 3 := by omega
      rcases this with rfl | rfl | rfl | rfl <;> decide
    generalize hp : decide (k % 2 = 1) = p at *
    generalize hq : decide (1 < k) = q at *
    have c4 : (k % 2 = 1) = (p = true) := by rw [← hp]; simp
    have c5 : (1 < k) = (q = true) := by rw [← hq]; simp
    rw [c4] at c1
    rw [c5] at c2
    by_cases h1 : R_wo (z_i p) (z_i q) a < R_wo (z_i (!p)) (z_i q) a <;> by_cases h2 : R_wo (z_i q) (z_i p) b < R_wo (z_i (!q)) (z_i p) b <;> simp only [h1, h2, if_true, if_false] <;> cases p <;> cases q <;> simp only [z_i, if_true, Bool.not_true, Bool.not_false, Bool.false_eq_true, if_false] at h1 h2 c1 c2 ⊢ <;>
    simp (disch := omega) only [e_X1_restsOfWar_128_4, k_X1_restsOfWar_128_4, e_X1_restsOfWar_128_9, k_X1_restsOfWar_128_9, e_X1_restsOfWar_128_25, e_X1_restsOfWar_128_34, e_X1_restsOfWar_128_39, k_X1_restsOfWar_128_39, e_X1_restsOfWar_128_44, k_X1_restsOfWar_128_44, e_X1_restsOfWar_128_47, e_X1_restsOfWar_128_48, e_X1_restsOfWar_128_57, c1, c2, k_isC0, k_isC1, k_isC2, k_isC3, z_i, h1, h2, Int32.or_zero, q_bd_l, z_ltT, z_ltF, z_eqT, z_eqF, z_ltlT, z_ltlF, z_lltT, z_lltF, z_eqlT, z_eqlF, z_in, z_k7, z_cl, z_lneg, z_llT, z_llF, z_s1, z_nI_cl, z_nlt0, z_ne_m1, z_b0, z_b1, z_la, z_al, z_lm, z_ml, z_nm, nI_add, pk_mul, ↓reduceIte, not_true_eq_false, not_false_eq_true, true_or, or_true, false_or, or_false, true_and, and_true, and_false, false_and, Classical.not_not, Nat.add_zero, z_01, z_em, z_bit_p, Nat.not_le, Nat.not_lt, reduceCtorEq, if_true, if_false, decide_true, decide_false, Bool.and_true, Bool.and_false, Bool.true_and, Bool.false_and, Bool.or_true, Bool.or_false, Bool.true_or, Bool.false_or, Bool.false_eq_true, ne_eq, Bool.not_true, Bool.not_false, decide_not]) 0 (none, none, none) trivial
  refine p4.trans ?_
  dsimp only
  rw [e_X1_restsOfWar_128_14]
  simp (disch := omega) only [q_bd_l, z_ltT, z_ltF, z_eqT, z_eqF, z_ltlT, z_ltlF, z_lltT, z_lltF, z_eqlT, z_eqlF, z_in, z_k7, z_cl, z_lneg, z_llT, z_llF, z_s1, z_nI_cl, z_nlt0, z_ne_m1, z_b0, z_b1, z_la, z_al, z_lm, z_ml, z_nm, nI_add, pk_mul, ↓reduceIte, not_true_eq_false, not_false_eq_true, true_or, or_true, false_or, or_false, true_and, and_true, and_false, false_and, Classical.not_not, Nat.add_zero, z_01, z_em, z_bit_p, Nat.not_le, Nat.not_lt, reduceCtorEq, if_true, if_false]
  rfl
theorem k_war (X : Sx) (d : Nat) (I : Ii) (T : Tt) (r : Nat → Int32) (n m j o t : Nat) (h : k_H27 I r n m) (hj : j < n) (ho : o < n) (ht : t < 6) : ∃ J, c_X1_restsOfWar_128 X (d + 6) (nI j) (nI o) (nI t) I T = z_r (R_war (R_adv r j t) (R_adv r o t)) J T ∧ z_fr m_la I J := by
  obtain ⟨J, j1, j2⟩ := k_adv128 X d I T r n m j t h hj ht
  obtain ⟨K, k1, k2⟩ := k_adv128 X d J T r n m o t (k_H27_cs h (z_cs_la j2)) ho ht
  refine ⟨K, ?_, z_fr_t j2 k2⟩
  rw [e_X1_restsOfWar_128, j1]
  simp (disch := omega) only [e_X1_restsOfWar_128_4, k_X1_restsOfWar_128_4, e_X1_restsOfWar_128_9, k_X1_restsOfWar_128_9, e_X1_restsOfWar_128_25, e_X1_restsOfWar_128_34, e_X1_restsOfWar_128_39, k_X1_restsOfWar_128_39, e_X1_restsOfWar_128_44, k_X1_restsOfWar_128_44, e_X1_restsOfWar_128_47, e_X1_restsOfWar_128_48, e_X1_restsOfWar_128_57, k1, k_war14 X (d + 3), q_bd_l, z_ltT, z_ltF, z_eqT, z_eqF, z_ltlT, z_ltlF, z_lltT, z_lltF, z_eqlT, z_eqlF, z_in, z_k7, z_cl, z_lneg, z_llT, z_llF, z_s1, z_nI_cl, z_nlt0, z_ne_m1, z_b0, z_b1, z_la, z_al, z_lm, z_ml, z_nm, nI_add, pk_mul, ↓reduceIte, not_true_eq_false, not_false_eq_true, true_or, or_true, false_or, or_false, true_and, and_true, and_false, false_and, Classical.not_not, Nat.add_zero, z_01, z_em, z_bit_p, Nat.not_le, Nat.not_lt, reduceCtorEq, if_true, if_false]
