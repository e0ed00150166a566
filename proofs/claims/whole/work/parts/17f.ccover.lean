/-! ===== THE CLASS: cover, tastes' groups, war ===== -/
theorem z_set_n (p : Nat → Bool) : ∀ n, n ≤ 30 → ∃ x, x < 2 ^ n ∧ z_set p n = nI x ∧ ∀ k, k < n → x.testBit k = p k
  | 0, _ => ⟨0, by decide, rfl, fun k hk => by omega⟩
  | n + 1, hn => by
    obtain ⟨x, h1, h2, h3⟩ := z_set_n p n (by omega)
    have hp : 2 ^ (n + 1) = 2 * 2 ^ n := by rw [Nat.pow_succ]; omega
    have e : z_set p (n + 1) = z_set p n ||| (if p n = true then (1 : Int32) <<< (nI n &&& 31) else 0) := rfl
    rw [e, h2]
    cases hq : p n with
    | false =>
      refine ⟨x, by omega, ?_, fun k hk => ?_⟩
      · show nI x ||| (0 : Int32) = nI x
        exact Int32.or_zero
      · by_cases ek : k = n
        · subst ek; rw [hq]; exact Nat.testBit_lt_two_pow h1
        · exact h3 k (by omega)
    | true =>
      refine ⟨x ||| 2 ^ n, ?_, ?_, fun k hk => ?_⟩
      · exact Nat.or_lt_two_pow (by omega) (by omega)
      · rw [if_pos rfl, z_shl1 n (by omega), z_nor]
      · rw [Nat.testBit_or]
        by_cases ek : k = n
        · subst ek; rw [hq, Nat.testBit_two_pow_self, Bool.or_true]
        · rw [h3 k (by omega), Nat.testBit_two_pow_of_ne (by omega), Bool.or_false]
theorem R_mat_n (r : Nat → Int32) (num : Int32) (s : Nat) : ∀ n, ∃ y, y < 2 ^ 6 ∧ R_mat r n num s = nI y ∧ ∀ t, t < 6 → y.testBit t = z_any (fun j => z_bit (nI s) j && decide (¬ R_adv r j t < num)) n
  | 0 => ⟨0, by decide, rfl, fun t _ => by simp [z_any, z_it]⟩
  | n + 1 => by
    obtain ⟨y, h1, h2, h3⟩ := R_mat_n r num s n
    obtain ⟨x, g1, g2, g3⟩ := z_set_n (fun t => decide (¬ R_adv r n t < num)) 6 (by omega)
    have e : R_mat r (n + 1) num s = R_mat r n num s ||| (if z_bit (nI s) n = true then R_can r num n else 0) := rfl
    have ec : R_can r num n = nI x := g2
    have ea : ∀ t, z_any (fun j => z_bit (nI s) j && decide (¬ R_adv r j t < num)) (n + 1) = (z_any (fun j => z_bit (nI s) j && decide (¬ R_adv r j t < num)) n || (z_bit (nI s) n && decide (¬ R_adv r n t < num))) := fun t => rfl
    rw [e, h2]
    cases hb : z_bit (nI s) n with
    | false =>
      refine ⟨y, h1, ?_, fun t ht => ?_⟩
      · show nI y ||| (0 : Int32) = nI y
        exact Int32.or_zero
      · rw [ea, hb, h3 t ht]; simp
    | true =>
      refine ⟨y ||| x, Nat.or_lt_two_pow h1 g1, ?_, fun t ht => ?_⟩
      · rw [if_pos rfl, ec, z_nor]
      · rw [ea, hb, Nat.testBit_or, h3 t ht, g3 t ht, Bool.true_and]
theorem R_mat_63 (r : Nat → Int32) (n : Nat) (num : Int32) (s : Nat) : (R_mat r n num s = 63) = (z_all (fun t => z_any (fun j => z_bit (nI s) j && decide (¬ R_adv r j t < num)) n) 6 = true) := by
  obtain ⟨y, h1, h2, h3⟩ := R_mat_n r num s n
  rw [h2, z_all_p, show (63 : Int32) = nI 63 from rfl, z_nI_eq y 63 (by omega) (by omega)]
  refine propext ⟨fun e t ht => ?_, fun h => ?_⟩
  · rw [← h3 t ht, e]
    rcases (by omega : t = 0 ∨ t = 1 ∨ t = 2 ∨ t = 3 ∨ t = 4 ∨ t = 5) with rfl | rfl | rfl | rfl | rfl | rfl <;> decide
  · apply Nat.eq_of_testBit_eq
    intro i
    rcases Nat.lt_or_ge i 6 with hi | hi
    · rw [h3 i hi, h i hi]
      rcases (by omega : i = 0 ∨ i = 1 ∨ i = 2 ∨ i = 3 ∨ i = 4 ∨ i = 5) with rfl | rfl | rfl | rfl | rfl | rfl <;> decide
    · rw [Nat.testBit_lt_two_pow (Nat.lt_of_lt_of_le h1 (Nat.pow_le_pow_right (by decide) hi)), Nat.testBit_lt_two_pow (Nat.lt_of_lt_of_le (by decide : 63 < 2 ^ 6) (Nat.pow_le_pow_right (by decide) hi))]
def R_gr (r : Nat → Int32) (n : Nat) (s : Int32) (t : Nat) : Int32 := z_it (fun j g => if z_bit s j = true then (if g < R_adv r j t then R_adv r j t else g) else g) n (-1)
theorem k_greatest (X : Sx) (d : Nat) (I : Ii) (T : Tt) (r : Nat → Int32) (n m t : Nat) (s : Int32) (h : k_A I r n m) (ht : t < 6) : c_X1_greatestOf_128 X (d + 2) s (nI t) I T = z_r (R_gr r n s t) I T := by
  have hn := h.1.1.2.1
  have n3 := k_n3 h.1
  rw [e_X1_greatestOf_128]
  refine (z_for (fun j g => c_X1_greatestOf_128_4 X (d + 1) s (nI t) g (nI j) I T) (fun j g => if z_bit s j = true then (if g < R_adv r j t then R_adv r j t else g) else g) n (fun j g hj => ?_) (-1)).trans ?_
  · rw [e_X1_greatestOf_128_4]
    cases hb : z_bit s j <;> simp (disch := omega) only [e_X1_greatestOf_128_12, k_X1_greatestOf_128_12, e_X1_greatestOf_128_18, k_X1_greatestOf_128_18, e_X1_greatestOf_128_20, n3, k_cIn, hb, k_heard X _ I T r n m j t h hj ht, q_bd_l, z_ltT, z_ltF, z_eqT, z_eqF, z_ltlT, z_ltlF, z_lltT, z_lltF, z_eqlT, z_eqlF, z_in, z_k7, z_cl, z_lneg, z_llT, z_llF, z_s1, z_nI_cl, z_nlt0, z_ne_m1, z_b0, z_b1, z_la, z_al, z_lm, z_ml, z_nm, nI_add, pk_mul, ↓reduceIte, not_true_eq_false, not_false_eq_true, true_or, or_true, false_or, or_false, true_and, and_true, and_false, false_and, Classical.not_not, Nat.add_zero, z_01, z_em, z_bit_p, Nat.not_le, Nat.not_lt, reduceCtorEq, if_true, if_false, decide_true, decide_false, Bool.and_true, Bool.and_false, Bool.true_and, Bool.false_and, Bool.or_true, Bool.or_false, Bool.true_or, Bool.false_or, Bool.false_eq_true, ne_eq, Bool.not_true, Bool.not_false, decide_not]
  · rw [e_X1_greatestOf_128_4]
    simp (disch := omega) only [n3, q_bd_l, z_ltT, z_ltF, z_eqT, z_eqF, z_ltlT, z_ltlF, z_lltT, z_lltF, z_eqlT, z_eqlF, z_in, z_k7, z_cl, z_lneg, z_llT, z_llF, z_s1, z_nI_cl, z_nlt0, z_ne_m1, z_b0, z_b1, z_la, z_al, z_lm, z_ml, z_nm, nI_add, pk_mul, ↓reduceIte, not_true_eq_false, not_false_eq_true, true_or, or_true, false_or, or_false, true_and, and_true, and_false, false_and, Classical.not_not, Nat.add_zero, z_01, z_em, z_bit_p, Nat.not_le, Nat.not_lt, reduceCtorEq, if_true, if_false]
    rfl
theorem R_gr_lt (r : Nat → Int32) (s : Int32) (t m : Nat) (hm : m < 100) : ∀ n, (R_gr r n s t < nI m) = ¬ (z_any (fun j => z_bit s j && decide (¬ R_adv r j t < nI m)) n = true)
  | 0 => by
    have e : (-1 : Int32) < nI m := by rw [Int32.lt_iff_toInt_lt, nI_toInt (by omega)]; show (-1 : Int) < m; omega
    refine propext ⟨fun _ => by simp [z_any, z_it], fun _ => e⟩
  | n + 1 => by
    have ih := R_gr_lt r s t m hm n
    have e1 : R_gr r (n + 1) s t = if z_bit s n = true then (if R_gr r n s t < R_adv r n t then R_adv r n t else R_gr r n s t) else R_gr r n s t := rfl
    have e2 : z_any (fun j => z_bit s j && decide (¬ R_adv r j t < nI m)) (n + 1) = (z_any (fun j => z_bit s j && decide (¬ R_adv r j t < nI m)) n || (z_bit s n && decide (¬ R_adv r n t < nI m))) := rfl
    rw [e1, e2]
    cases hb : z_bit s n with
    | false =>
      rw [Bool.false_and, Bool.or_false, ← ih]
      simp
    | true =>
      rw [Bool.true_and, if_pos rfl]
      have tt : ∀ x y : Int32, (x < y) ↔ (x.toInt < y.toInt) := fun x y => Int32.lt_iff_toInt_lt
      cases ha : z_any (fun j => z_bit s j && decide (¬ R_adv r j t < nI m)) n with
      | true =>
        have h1 : ¬ R_gr r n s t < nI m := by rw [ih, ha]; simp
        rw [Bool.true_or]
        refine propext ⟨fun h2 => absurd h2 ?_, fun h2 => absurd rfl h2⟩
        split
        · rename_i h3
          rw [tt] at h1 h3 ⊢
          omega
        · exact h1
      | false =>
        have h1 : R_gr r n s t < nI m := by rw [ih, ha]; simp
        rw [Bool.false_or, decide_eq_true_eq]
        refine propext ⟨fun h2 h3 => h3 ?_, fun h2 => ?_⟩
        · split at h2
          · exact h2
          · rename_i h4
            rw [tt] at h1 h4 ⊢
            omega
        · split
          · exact Classical.not_not.mp h2
          · exact h1
theorem k_doCover (X : Sx) (d : Nat) (I : Ii) (T : Tt) (r : Nat → Int32) (n m q s : Nat) (h : k_A I r n m) (hq : q ≤ 9) : c_X1_doCover_128 X (d + 4) (nI s) (nI q) I T = z_r (z_i (z_all (fun t => z_any (fun j => z_bit (nI s) j && decide (¬ R_adv r j t < nI q)) n) 6)) I T := by
  rw [e_X1_doCover_128, z_all_f]
  refine (z_find (fun t => c_X1_doCover_128_2 X (d + 3) (nI s) (nI q) (nI t) I T) (fun _ => z_r 0 I T) (fun t => !z_any (fun j => z_bit (nI s) j && decide (¬ R_adv r j t < nI q)) n) 6 (fun t ht => ?_)).trans ?_
  · have e := R_gr_lt r (nI s) t q (by omega) n
    have gr := k_greatest X (d + 1) I T r n m t (nI s) h ht
    rw [e_X1_doCover_128_2]
    cases ha : z_any (fun j => z_bit (nI s) j && decide (¬ R_adv r j t < nI q)) n with
    | true =>
      rw [ha] at e
      have e' : (R_gr r n (nI s) t < nI q) = False := by rw [e]; simp
      simp (disch := omega) only [e_X1_doCover_128_9, k_X1_doCover_128_9, gr, e', q_bd_l, z_ltT, z_ltF, z_eqT, z_eqF, z_ltlT, z_ltlF, z_lltT, z_lltF, z_eqlT, z_eqlF, z_in, z_k7, z_cl, z_lneg, z_llT, z_llF, z_s1, z_nI_cl, z_nlt0, z_ne_m1, z_b0, z_b1, z_la, z_al, z_lm, z_ml, z_nm, nI_add, pk_mul, ↓reduceIte, not_true_eq_false, not_false_eq_true, true_or, or_true, false_or, or_false, true_and, and_true, and_false, false_and, Classical.not_not, Nat.add_zero, z_01, z_em, z_bit_p, Nat.not_le, Nat.not_lt, reduceCtorEq, if_true, if_false, decide_true, decide_false, Bool.and_true, Bool.and_false, Bool.true_and, Bool.false_and, Bool.or_true, Bool.or_false, Bool.true_or, Bool.false_or, Bool.false_eq_true, ne_eq, Bool.not_true, Bool.not_false, decide_not]
    | false =>
      rw [ha] at e
      have e' : (R_gr r n (nI s) t < nI q) = True := by rw [e]; simp
      simp (disch := omega) only [e_X1_doCover_128_9, k_X1_doCover_128_9, gr, e', q_bd_l, z_ltT, z_ltF, z_eqT, z_eqF, z_ltlT, z_ltlF, z_lltT, z_lltF, z_eqlT, z_eqlF, z_in, z_k7, z_cl, z_lneg, z_llT, z_llF, z_s1, z_nI_cl, z_nlt0, z_ne_m1, z_b0, z_b1, z_la, z_al, z_lm, z_ml, z_nm, nI_add, pk_mul, ↓reduceIte, not_true_eq_false, not_false_eq_true, true_or, or_true, false_or, or_false, true_and, and_true, and_false, false_and, Classical.not_not, Nat.add_zero, z_01, z_em, z_bit_p, Nat.not_le, Nat.not_lt, reduceCtorEq, if_true, if_false, decide_true, decide_false, Bool.and_true, Bool.and_false, Bool.true_and, Bool.false_and, Bool.or_true, Bool.or_false, Bool.true_or, Bool.false_or, Bool.false_eq_true, ne_eq, Bool.not_true, Bool.not_false, decide_not]
  · rw [e_X1_doCover_128_2]
    split
    · rfl
    · simp (disch := omega) only [q_bd_l, z_ltT, z_ltF, z_eqT, z_eqF, z_ltlT, z_ltlF, z_lltT, z_lltF, z_eqlT, z_eqlF, z_in, z_k7, z_cl, z_lneg, z_llT, z_llF, z_s1, z_nI_cl, z_nlt0, z_ne_m1, z_b0, z_b1, z_la, z_al, z_lm, z_ml, z_nm, nI_add, pk_mul, ↓reduceIte, not_true_eq_false, not_false_eq_true, true_or, or_true, false_or, or_false, true_and, and_true, and_false, false_and, Classical.not_not, Nat.add_zero, z_01, z_em, z_bit_p, Nat.not_le, Nat.not_lt, reduceCtorEq, if_true, if_false]
theorem k_cover (X : Sx) (d : Nat) (I : Ii) (T : Tt) (r : Nat → Int32) (n m q : Nat) (hq : q ≤ 9) (h : k_H27 I r n m) : ∃ J, c_X1_fewestThatCover_128 X (d + 8) (nI q) I T = z_r (R_cov r n (nI q)) J T ∧ z_fr m_cs I J := by
  have hn := h.1.2.1
  have h2 := z_2n hn
  obtain ⟨J, a1, a2, a3⟩ := k_hearAll X d I T r n m h
  have n3 := k_n3 a3.1
  obtain ⟨o, -, t4⟩ := z_foldP (β := Int32) (σ := Option Value) (fun k f o => c_X1_fewestThatCover_128_12 X (d + 7) (nI q) f (if f = -1 then 11 else R_bits f) (nI (2 ^ n - 1)) (nI (k + 1)) o J T) (fun k f => R_v1 r n (nI q) (k + 1) f) (fun _ _ _ => True) (2 ^ n - 1) (by
    intro k f o hk _
    refine ⟨some (.int (R_bits (nI (k + 1)))), trivial, ?_⟩
    rw [e_X1_fewestThatCover_128_12]
    unfold R_v1
    have bc := k_bc X (d + 6) J T (k + 1) (by omega)
    have b11 := R_bits_11 (k + 1) (by omega)
    have dc := k_doCover X (d + 3) J T r n m q (k + 1) a3 hq
    have ne1 : (nI (k + 1) = -1) = False := z_ne_m1 _ (by omega)
    have e63 := R_mat_63 r n (nI q) (k + 1)
    cases hg : z_all (fun t => z_any (fun j => z_bit (nI (k + 1)) j && decide (¬ R_adv r j t < nI q)) n) 6 with
    | false =>
      rw [hg] at dc e63
      have e63' : (R_mat r n (nI q) (k + 1) = 63) = False := by rw [e63]; simp
      by_cases h5 : f = -1
      · simp (disch := omega) only [e_X1_fewestThatCover_128_2, k_X1_fewestThatCover_128_2, e_X1_fewestThatCover_128_9, k_X1_fewestThatCover_128_9, e_X1_fewestThatCover_128_17, k_X1_fewestThatCover_128_17, e_X1_fewestThatCover_128_25, k_X1_fewestThatCover_128_25, e_X1_fewestThatCover_128_30, bc, b11, dc, e63', h5, z_i, q_bd_l, z_ltT, z_ltF, z_eqT, z_eqF, z_ltlT, z_ltlF, z_lltT, z_lltF, z_eqlT, z_eqlF, z_in, z_k7, z_cl, z_lneg, z_llT, z_llF, z_s1, z_nI_cl, z_nlt0, z_ne_m1, z_b0, z_b1, z_la, z_al, z_lm, z_ml, z_nm, nI_add, pk_mul, ↓reduceIte, not_true_eq_false, not_false_eq_true, true_or, or_true, false_or, or_false, true_and, and_true, and_false, false_and, Classical.not_not, Nat.add_zero, z_01, z_em, z_bit_p, Nat.not_le, Nat.not_lt, reduceCtorEq, if_true, if_false, decide_true, decide_false, Bool.and_true, Bool.and_false, Bool.true_and, Bool.false_and, Bool.or_true, Bool.or_false, Bool.true_or, Bool.false_or, Bool.false_eq_true, ne_eq, Bool.not_true, Bool.not_false, decide_not]
      · by_cases h6 : R_bits (nI (k + 1)) < R_bits f <;> simp (disch := omega) only [e_X1_fewestThatCover_128_2, k_X1_fewestThatCover_128_2, e_X1_fewestThatCover_128_9, k_X1_fewestThatCover_128_9, e_X1_fewestThatCover_128_17, k_X1_fewestThatCover_128_17, e_X1_fewestThatCover_128_25, k_X1_fewestThatCover_128_25, e_X1_fewestThatCover_128_30, bc, dc, e63', h5, h6, z_i, q_bd_l, z_ltT, z_ltF, z_eqT, z_eqF, z_ltlT, z_ltlF, z_lltT, z_lltF, z_eqlT, z_eqlF, z_in, z_k7, z_cl, z_lneg, z_llT, z_llF, z_s1, z_nI_cl, z_nlt0, z_ne_m1, z_b0, z_b1, z_la, z_al, z_lm, z_ml, z_nm, nI_add, pk_mul, ↓reduceIte, not_true_eq_false, not_false_eq_true, true_or, or_true, false_or, or_false, true_and, and_true, and_false, false_and, Classical.not_not, Nat.add_zero, z_01, z_em, z_bit_p, Nat.not_le, Nat.not_lt, reduceCtorEq, if_true, if_false, decide_true, decide_false, Bool.and_true, Bool.and_false, Bool.true_and, Bool.false_and, Bool.or_true, Bool.or_false, Bool.true_or, Bool.false_or, Bool.false_eq_true, ne_eq, Bool.not_true, Bool.not_false, decide_not]
    | true =>
      rw [hg] at dc e63
      have e63' : (R_mat r n (nI q) (k + 1) = 63) = True := by rw [e63]; simp
      by_cases h5 : f = -1
      · simp (disch := omega) only [e_X1_fewestThatCover_128_2, k_X1_fewestThatCover_128_2, e_X1_fewestThatCover_128_9, k_X1_fewestThatCover_128_9, e_X1_fewestThatCover_128_17, k_X1_fewestThatCover_128_17, e_X1_fewestThatCover_128_25, k_X1_fewestThatCover_128_25, e_X1_fewestThatCover_128_30, bc, b11, dc, e63', h5, ne1, z_i, q_bd_l, z_ltT, z_ltF, z_eqT, z_eqF, z_ltlT, z_ltlF, z_lltT, z_lltF, z_eqlT, z_eqlF, z_in, z_k7, z_cl, z_lneg, z_llT, z_llF, z_s1, z_nI_cl, z_nlt0, z_ne_m1, z_b0, z_b1, z_la, z_al, z_lm, z_ml, z_nm, nI_add, pk_mul, ↓reduceIte, not_true_eq_false, not_false_eq_true, true_or, or_true, false_or, or_false, true_and, and_true, and_false, false_and, Classical.not_not, Nat.add_zero, z_01, z_em, z_bit_p, Nat.not_le, Nat.not_lt, reduceCtorEq, if_true, if_false, decide_true, decide_false, Bool.and_true, Bool.and_false, Bool.true_and, Bool.false_and, Bool.or_true, Bool.or_false, Bool.true_or, Bool.false_or, Bool.false_eq_true, ne_eq, Bool.not_true, Bool.not_false, decide_not]
      · by_cases h6 : R_bits (nI (k + 1)) < R_bits f <;> simp (disch := omega) only [e_X1_fewestThatCover_128_2, k_X1_fewestThatCover_128_2, e_X1_fewestThatCover_128_9, k_X1_fewestThatCover_128_9, e_X1_fewestThatCover_128_17, k_X1_fewestThatCover_128_17, e_X1_fewestThatCover_128_25, k_X1_fewestThatCover_128_25, e_X1_fewestThatCover_128_30, bc, dc, e63', h5, h6, ne1, z_i, q_bd_l, z_ltT, z_ltF, z_eqT, z_eqF, z_ltlT, z_ltlF, z_lltT, z_lltF, z_eqlT, z_eqlF, z_in, z_k7, z_cl, z_lneg, z_llT, z_llF, z_s1, z_nI_cl, z_nlt0, z_ne_m1, z_b0, z_b1, z_la, z_al, z_lm, z_ml, z_nm, nI_add, pk_mul, ↓reduceIte, not_true_eq_false, not_false_eq_true, true_or, or_true, false_or, or_false, true_and, and_true, and_false, false_and, Classical.not_not, Nat.add_zero, z_01, z_em, z_bit_p, Nat.not_le, Nat.not_lt, reduceCtorEq, if_true, if_false, decide_true, decide_false, Bool.and_true, Bool.and_false, Bool.true_and, Bool.false_and, Bool.or_true, Bool.or_false, Bool.true_or, Bool.false_or, Bool.false_eq_true, ne_eq, Bool.not_true, Bool.not_false, decide_not]) (-1) none trivial
  have st : c_X1_fewestThatCover_128 X (d + 8) (nI q) I T = c_X1_fewestThatCover_128_12 X (d + 7) (nI q) (-1) (if (-1 : Int32) = -1 then 11 else R_bits (-1)) (nI (2 ^ n - 1)) (nI (0 + 1)) none J T := by
    rw [e_X1_fewestThatCover_128, a1]
    simp (disch := omega) only [e_X1_fewestThatCover_128_2, k_X1_fewestThatCover_128_2, e_X1_fewestThatCover_128_9, k_X1_fewestThatCover_128_9, e_X1_fewestThatCover_128_17, k_X1_fewestThatCover_128_17, e_X1_fewestThatCover_128_25, k_X1_fewestThatCover_128_25, e_X1_fewestThatCover_128_30, k_everyJar X _ J T n n3 hn, q_bd_l, z_ltT, z_ltF, z_eqT, z_eqF, z_ltlT, z_ltlF, z_lltT, z_lltF, z_eqlT, z_eqlF, z_in, z_k7, z_cl, z_lneg, z_llT, z_llF, z_s1, z_nI_cl, z_nlt0, z_ne_m1, z_b0, z_b1, z_la, z_al, z_lm, z_ml, z_nm, nI_add, pk_mul, ↓reduceIte, not_true_eq_false, not_false_eq_true, true_or, or_true, false_or, or_false, true_and, and_true, and_false, false_and, Classical.not_not, Nat.add_zero, z_01, z_em, z_bit_p, Nat.not_le, Nat.not_lt, reduceCtorEq, if_true, if_false]
    rfl
  refine ⟨J, ?_, a2⟩
  rw [st]
  refine t4.trans ?_
  rw [e_X1_fewestThatCover_128_12]
  have hlt : (nI (2 ^ n - 1) < nI (2 ^ n - 1 + 1)) = True := z_ltT _ _ (by omega) (by omega)
  simp (disch := omega) only [hlt, q_bd_l, z_ltT, z_ltF, z_eqT, z_eqF, z_ltlT, z_ltlF, z_lltT, z_lltF, z_eqlT, z_eqlF, z_in, z_k7, z_cl, z_lneg, z_llT, z_llF, z_s1, z_nI_cl, z_nlt0, z_ne_m1, z_b0, z_b1, z_la, z_al, z_lm, z_ml, z_nm, nI_add, pk_mul, ↓reduceIte, not_true_eq_false, not_false_eq_true, true_or, or_true, false_or, or_false, true_and, and_true, and_false, false_and, Classical.not_not, Nat.add_zero, z_01, z_em, z_bit_p, Nat.not_le, Nat.not_lt, reduceCtorEq, if_true, if_false]
  unfold R_cov
  have e0 : R_v1 r n (nI q) 0 (-1) = -1 := by
    unfold R_v1
    rw [if_neg]
    intro a
    have h63 := a.2
    rw [R_mat_63, z_all_p] at h63
    have h0 := h63 0 (by omega)
    rw [z_any_p] at h0
    obtain ⟨k, hk, hp⟩ := h0
    have hb : z_bit (nI 0) k = false := by rw [z_bit_nI 0 k (by omega) (by omega)]; exact Nat.zero_testBit k
    rw [hb] at hp
    cases hp
  have e1 : 2 ^ n = 2 ^ n - 1 + 1 := by omega
  rw [e1, z_it_0, e0]
  rfl
-- groups
theorem k_mostAtOne (X : Sx) (d : Nat) (I : Ii) (T : Tt) (r : Nat → Int32) (n m t : Nat) (s : Int32) (h : k_A I r n m) (ht : t < 6) : c_X1_mostAtOne_128 X (d + 2) s (nI t) I T = z_r (R_grp r n s t) I T := by
  have hn := h.1.1.2.1
  have n3 := k_n3 h.1
  obtain ⟨⟨o5, o6⟩, -, p4⟩ := z_foldP (β := Int32) (σ := Option Value × Option Value) (fun a x o => c_X1_mostAtOne_128_4 X (d + 1) s (nI t) x (nI a) o.1 o.2 I T) (fun a x => if R_g1 r n s t a < x then x else R_g1 r n s t a) (fun _ _ _ => True) 10 (by
    intro a x o ha _
    have inner := z_for (fun j y => c_X1_mostAtOne_128_11 X (d + 1) s (nI t) x (nI a) y (nI j) I T) (fun j y => y + (if z_bit s j = true ∧ R_adv r j t = nI a then 1 else 0)) n (fun j y hj => by
      rw [e_X1_mostAtOne_128_11]
      cases hb : z_bit s j with
      | false => simp (disch := omega) only [e_X1_mostAtOne_128_20, k_X1_mostAtOne_128_20, e_X1_mostAtOne_128_25, k_X1_mostAtOne_128_25, e_X1_mostAtOne_128_29, e_X1_mostAtOne_128_30, n3, k_cIn, hb, q_bd_l, z_ltT, z_ltF, z_eqT, z_eqF, z_ltlT, z_ltlF, z_lltT, z_lltF, z_eqlT, z_eqlF, z_in, z_k7, z_cl, z_lneg, z_llT, z_llF, z_s1, z_nI_cl, z_nlt0, z_ne_m1, z_b0, z_b1, z_la, z_al, z_lm, z_ml, z_nm, nI_add, pk_mul, ↓reduceIte, not_true_eq_false, not_false_eq_true, true_or, or_true, false_or, or_false, true_and, and_true, and_false, false_and, Classical.not_not, Nat.add_zero, z_01, z_em, z_bit_p, Nat.not_le, Nat.not_lt, reduceCtorEq, if_true, if_false, decide_true, decide_false, Bool.and_true, Bool.and_false, Bool.true_and, Bool.false_and, Bool.or_true, Bool.or_false, Bool.true_or, Bool.false_or, Bool.false_eq_true, ne_eq, Bool.not_true, Bool.not_false, decide_not]
      | true => by_cases hc : R_adv r j t = nI a <;> simp (disch := omega) only [e_X1_mostAtOne_128_20, k_X1_mostAtOne_128_20, e_X1_mostAtOne_128_25, k_X1_mostAtOne_128_25, e_X1_mostAtOne_128_29, e_X1_mostAtOne_128_30, n3, k_cIn, hb, k_heard X _ I T r n m j t h hj ht, hc, q_bd_l, z_ltT, z_ltF, z_eqT, z_eqF, z_ltlT, z_ltlF, z_lltT, z_lltF, z_eqlT, z_eqlF, z_in, z_k7, z_cl, z_lneg, z_llT, z_llF, z_s1, z_nI_cl, z_nlt0, z_ne_m1, z_b0, z_b1, z_la, z_al, z_lm, z_ml, z_nm, nI_add, pk_mul, ↓reduceIte, not_true_eq_false, not_false_eq_true, true_or, or_true, false_or, or_false, true_and, and_true, and_false, false_and, Classical.not_not, Nat.add_zero, z_01, z_em, z_bit_p, Nat.not_le, Nat.not_lt, reduceCtorEq, if_true, if_false, decide_true, decide_false, Bool.and_true, Bool.and_false, Bool.true_and, Bool.false_and, Bool.or_true, Bool.or_false, Bool.true_or, Bool.false_or, Bool.false_eq_true, ne_eq, Bool.not_true, Bool.not_false, decide_not]) 0
    refine ⟨(some (.int (R_g1 r n s t a)), some (.int (nI n))), trivial, ?_⟩
    dsimp only
    rw [e_X1_mostAtOne_128_4]
    simp (disch := omega) only [q_bd_l, z_ltT, z_ltF, z_eqT, z_eqF, z_ltlT, z_ltlF, z_lltT, z_lltF, z_eqlT, z_eqlF, z_in, z_k7, z_cl, z_lneg, z_llT, z_llF, z_s1, z_nI_cl, z_nlt0, z_ne_m1, z_b0, z_b1, z_la, z_al, z_lm, z_ml, z_nm, nI_add, pk_mul, ↓reduceIte, not_true_eq_false, not_false_eq_true, true_or, or_true, false_or, or_false, true_and, and_true, and_false, false_and, Classical.not_not, Nat.add_zero, z_01, z_em, z_bit_p, Nat.not_le, Nat.not_lt, reduceCtorEq, if_true, if_false]
    refine inner.trans ?_
    rw [e_X1_mostAtOne_128_11]
    have er : z_it (fun j y => y + (if z_bit s j = true ∧ R_adv r j t = nI a then 1 else 0)) n 0 = R_g1 r n s t a := rfl
    rw [er]
    simp (disch := omega) only [n3, q_bd_l, z_ltT, z_ltF, z_eqT, z_eqF, z_ltlT, z_ltlF, z_lltT, z_lltF, z_eqlT, z_eqlF, z_in, z_k7, z_cl, z_lneg, z_llT, z_llF, z_s1, z_nI_cl, z_nlt0, z_ne_m1, z_b0, z_b1, z_la, z_al, z_lm, z_ml, z_nm, nI_add, pk_mul, ↓reduceIte, not_true_eq_false, not_false_eq_true, true_or, or_true, false_or, or_false, true_and, and_true, and_false, false_and, Classical.not_not, Nat.add_zero, z_01, z_em, z_bit_p, Nat.not_le, Nat.not_lt, reduceCtorEq, if_true, if_false]
    rw [z_max_c]) 0 (none, none) trivial
  rw [e_X1_mostAtOne_128]
  refine p4.trans ?_
  dsimp only
  rw [e_X1_mostAtOne_128_4]
  simp (disch := omega) only [q_bd_l, z_ltT, z_ltF, z_eqT, z_eqF, z_ltlT, z_ltlF, z_lltT, z_lltF, z_eqlT, z_eqlF, z_in, z_k7, z_cl, z_lneg, z_llT, z_llF, z_s1, z_nI_cl, z_nlt0, z_ne_m1, z_b0, z_b1, z_la, z_al, z_lm, z_ml, z_nm, nI_add, pk_mul, ↓reduceIte, not_true_eq_false, not_false_eq_true, true_or, or_true, false_or, or_false, true_and, and_true, and_false, false_and, Classical.not_not, Nat.add_zero, z_01, z_em, z_bit_p, Nat.not_le, Nat.not_lt, reduceCtorEq, if_true, if_false]
  rfl
theorem R_grp_le (r : Nat → Int32) (n : Nat) (hn : n ≤ 10) (s : Int32) (t : Nat) : z_le (R_grp r n s t) 10 := by
  refine z_it_P (P := fun (x : Int32) => z_le x 10) ⟨0, by omega, rfl⟩ (fun a x _ hx => ?_)
  show z_le (if R_g1 r n s t a < x then x else R_g1 r n s t a) 10
  split
  · exact hx
  · have key : ∀ k, k ≤ n → z_le (z_it (fun j y => y + (if z_bit s j = true ∧ R_adv r j t = nI a then 1 else 0)) k 0) k := by
      intro k
      induction k with
      | zero => intro _; exact ⟨0, by omega, rfl⟩
      | succ k ih =>
        intro hk
        obtain ⟨y, hy, ey⟩ := ih (by omega)
        show z_le (z_it (fun j y => y + (if z_bit s j = true ∧ R_adv r j t = nI a then 1 else 0)) k 0 + (if z_bit s k = true ∧ R_adv r k t = nI a then 1 else 0)) (k + 1)
        rw [ey]
        split
        · exact ⟨y + 1, by omega, nI_1 y⟩
        · exact ⟨y, by omega, Int32.add_zero _⟩
    exact z_le_w (key n (Nat.le_refl _)) hn
theorem R_nxt_11 (r : Nat → Int32) (n : Nat) (hn : n ≤ 10) (s : Int32) : R_nxt r n s 11 = R_nxt r n s 2000000000 := by
  unfold R_nxt
  split
  · refine (z_it_R (R := fun (q q' : Int32 × Int32) => q.1 = q'.1 ∧ (q.2 = q'.2 ∨ q.2 = 11 ∧ q'.2 = 2000000000)) (a := ((-1 : Int32), (11 : Int32))) (b := ((-1 : Int32), (2000000000 : Int32))) (fun t q q' _ h => ?_) ⟨rfl, .inr ⟨rfl, rfl⟩⟩).1
    obtain ⟨h1, h2⟩ := h
    obtain ⟨y, hy, ey⟩ := R_grp_le r n hn s t
    unfold R_nx1
    rw [ey]
    rcases h2 with h2 | ⟨h2, h3⟩
    · rw [h2]
      split
      · exact ⟨rfl, .inl rfl⟩
      · exact ⟨h1, .inl h2⟩
    · have e1 : nI y < q.2 := by rw [h2]; exact nI_lt (b := 11) (by omega) (by omega)
      have e2 : nI y < q'.2 := by rw [h3]; exact nI_lt (b := 2000000000) (by omega) (by omega)
      rw [if_pos e1, if_pos e2]
      exact ⟨rfl, .inl rfl⟩
  · rfl
theorem k_nextTaste (X : Sx) (d : Nat) (I : Ii) (T : Tt) (r : Nat → Int32) (n m s : Nat) (hs : s < 1024) (h : k_H27 I r n m) : ∃ J, c_X1_nextTasteAmong_128 X (d + 8) (nI s) I T = z_r (R_nxt r n (nI s) 11) J T ∧ z_fr m_cs I J := by
  have hn := h.1.2.1
  have bc := k_bc X (d + 6) I T s hs
  rw [e_X1_nextTasteAmong_128]
  unfold R_nxt
  have tt : ∀ x y : Int32, (x < y) ↔ (x.toInt < y.toInt) := fun x y => Int32.lt_iff_toInt_lt
  by_cases hb : 1 < R_bits (nI s)
  · have hb2 : ¬ R_bits (nI s) < 2 := by
      rw [tt] at hb ⊢
      have e1 : (1 : Int32).toInt = 1 := rfl
      have e2 : (2 : Int32).toInt = 2 := rfl
      omega
    obtain ⟨J, a1, a2, a3⟩ := k_hearAll X d I T r n m h
    obtain ⟨o, -, p4⟩ := z_foldP (β := Int32 × Int32) (σ := Option Value) (fun t q o => c_X1_nextTasteAmong_128_14 X (d + 7) (nI s) q.1 q.2 (nI t) o J T) (R_nx1 r n (nI s)) (fun _ _ _ => True) 6 (by
      intro t q o ht _
      refine ⟨some (.int (R_grp r n (nI s) t)), trivial, ?_⟩
      rw [e_X1_nextTasteAmong_128_14]
      unfold R_nx1
      by_cases hc : R_grp r n (nI s) t < q.2 <;> simp (disch := omega) only [e_X1_nextTasteAmong_128_2, k_X1_nextTasteAmong_128_2, e_X1_nextTasteAmong_128_8, k_X1_nextTasteAmong_128_8, e_X1_nextTasteAmong_128_21, k_X1_nextTasteAmong_128_21, e_X1_nextTasteAmong_128_29, k_mostAtOne X _ J T r n m t (nI s) a3 ht, hc, q_bd_l, z_ltT, z_ltF, z_eqT, z_eqF, z_ltlT, z_ltlF, z_lltT, z_lltF, z_eqlT, z_eqlF, z_in, z_k7, z_cl, z_lneg, z_llT, z_llF, z_s1, z_nI_cl, z_nlt0, z_ne_m1, z_b0, z_b1, z_la, z_al, z_lm, z_ml, z_nm, nI_add, pk_mul, ↓reduceIte, not_true_eq_false, not_false_eq_true, true_or, or_true, false_or, or_false, true_and, and_true, and_false, false_and, Classical.not_not, Nat.add_zero, z_01, z_em, z_bit_p, Nat.not_le, Nat.not_lt, reduceCtorEq, if_true, if_false]) (-1, 11) none trivial
    refine ⟨J, ?_, a2⟩
    rw [if_pos hb]
    simp (disch := omega) only [e_X1_nextTasteAmong_128_2, e_X1_nextTasteAmong_128_8, k_X1_nextTasteAmong_128_2, k_X1_nextTasteAmong_128_8, bc, hb2, a1, q_bd_l, z_ltT, z_ltF, z_eqT, z_eqF, z_ltlT, z_ltlF, z_lltT, z_lltF, z_eqlT, z_eqlF, z_in, z_k7, z_cl, z_lneg, z_llT, z_llF, z_s1, z_nI_cl, z_nlt0, z_ne_m1, z_b0, z_b1, z_la, z_al, z_lm, z_ml, z_nm, nI_add, pk_mul, ↓reduceIte, not_true_eq_false, not_false_eq_true, true_or, or_true, false_or, or_false, true_and, and_true, and_false, false_and, Classical.not_not, Nat.add_zero, z_01, z_em, z_bit_p, Nat.not_le, Nat.not_lt, reduceCtorEq, if_true, if_false]
    refine p4.trans ?_
    rw [e_X1_nextTasteAmong_128_14]
    simp (disch := omega) only [q_bd_l, z_ltT, z_ltF, z_eqT, z_eqF, z_ltlT, z_ltlF, z_lltT, z_lltF, z_eqlT, z_eqlF, z_in, z_k7, z_cl, z_lneg, z_llT, z_llF, z_s1, z_nI_cl, z_nlt0, z_ne_m1, z_b0, z_b1, z_la, z_al, z_lm, z_ml, z_nm, nI_add, pk_mul, ↓reduceIte, not_true_eq_false, not_false_eq_true, true_or, or_true, false_or, or_false, true_and, and_true, and_false, false_and, Classical.not_not, Nat.add_zero, z_01, z_em, z_bit_p, Nat.not_le, Nat.not_lt, reduceCtorEq, if_true, if_false]
  · have hb2 : R_bits (nI s) < 2 := by
      rw [tt] at hb ⊢
      have e1 : (1 : Int32).toInt = 1 := rfl
      have e2 : (2 : Int32).toInt = 2 := rfl
      omega
    refine ⟨I, ?_, z_fr_r _ _⟩
    rw [if_neg hb]
    simp (disch := omega) only [e_X1_nextTasteAmong_128_2, k_X1_nextTasteAmong_128_2, bc, hb2, q_bd_l, z_ltT, z_ltF, z_eqT, z_eqF, z_ltlT, z_ltlF, z_lltT, z_lltF, z_eqlT, z_eqlF, z_in, z_k7, z_cl, z_lneg, z_llT, z_llF, z_s1, z_nI_cl, z_nlt0, z_ne_m1, z_b0, z_b1, z_la, z_al, z_lm, z_ml, z_nm, nI_add, pk_mul, ↓reduceIte, not_true_eq_false, not_false_eq_true, true_or, or_true, false_or, or_false, true_and, and_true, and_false, false_and, Classical.not_not, Nat.add_zero, z_01, z_em, z_bit_p, Nat.not_le, Nat.not_lt, reduceCtorEq, if_true, if_false]
-- war
theorem k_gain (X : Sx) (d : Nat) (a o q : Int32) (I : Ii) (T : Tt) : c_X1_gain X (d + 1) a o q I T = z_r (R_wo o q a) I T := by
  rw [e_X1_gain]
  unfold R_wo
  by_cases h1 : o = 0 <;> by_cases h2 : q = 0 <;> simp (disch := omega) only [h1, h2, q_bd_l, z_ltT, z_ltF, z_eqT, z_eqF, z_ltlT, z_ltlF, z_lltT, z_lltF, z_eqlT, z_eqlF, z_in, z_k7, z_cl, z_lneg, z_llT, z_llF, z_s1, z_nI_cl, z_nlt0, z_ne_m1, z_b0, z_b1, z_la, z_al, z_lm, z_ml, z_nm, nI_add, pk_mul, ↓reduceIte, not_true_eq_false, not_false_eq_true, true_or, or_true, false_or, or_false, true_and, and_true, and_false, false_and, Classical.not_not, Nat.add_zero, z_01, z_em, z_bit_p, Nat.not_le, Nat.not_lt, reduceCtorEq, if_true, if_false]
theorem k_isContent (X : Sx) (d : Nat) (a : Int32) (o q : Bool) (I : Ii) (T : Tt) : c_X1_isContent X (d + 2) a (z_i o) (z_i q) I T = z_r (z_b (¬ R_wo (z_i o) (z_i q) a < R_wo (z_i (!o)) (z_i q) a)) I T := by
  rw [e_X1_isContent]
  unfold z_b
  by_cases h : R_wo (z_i o) (z_i q) a < R_wo (z_i (!o)) (z_i q) a
  · cases o <;> (simp only [Bool.not_true, Bool.not_false] at h; simp (disch := omega) only [e_X1_isContent_4, k_X1_isContent_4, e_X1_isContent_10, e_X1_isContent_12, k_X1_isContent_12, k_gain, z_i, h, q_bd_l, z_ltT, z_ltF, z_eqT, z_eqF, z_ltlT, z_ltlF, z_lltT, z_lltF, z_eqlT, z_eqlF, z_in, z_k7, z_cl, z_lneg, z_llT, z_llF, z_s1, z_nI_cl, z_nlt0, z_ne_m1, z_b0, z_b1, z_la, z_al, z_lm, z_ml, z_nm, nI_add, pk_mul, ↓reduceIte, not_true_eq_false, not_false_eq_true, true_or, or_true, false_or, or_false, true_and, and_true, and_false, false_and, Classical.not_not, Nat.add_zero, z_01, z_em, z_bit_p, Nat.not_le, Nat.not_lt, reduceCtorEq, if_true, if_false, decide_true, decide_false, Bool.and_true, Bool.and_false, Bool.true_and, Bool.false_and, Bool.or_true, Bool.or_false, Bool.true_or, Bool.false_or, Bool.false_eq_true, ne_eq, Bool.not_true, Bool.not_false, decide_not]; simp only [z_i, ↓reduceIte, Bool.false_eq_true] at h; simp (disch := omega) only [h, q_bd_l, z_ltT, z_ltF, z_eqT, z_eqF, z_ltlT, z_ltlF, z_lltT, z_lltF, z_eqlT, z_eqlF, z_in, z_k7, z_cl, z_lneg, z_llT, z_llF, z_s1, z_nI_cl, z_nlt0, z_ne_m1, z_b0, z_b1, z_la, z_al, z_lm, z_ml, z_nm, nI_add, pk_mul, ↓reduceIte, not_true_eq_false, not_false_eq_true, true_or, or_true, false_or, or_false, true_and, and_true, and_false, false_and, Classical.not_not, Nat.add_zero, z_01, z_em, z_bit_p, Nat.not_le, Nat.not_lt, reduceCtorEq, if_true, if_false, decide_true, decide_false, Bool.and_true, Bool.and_false, Bool.true_and, Bool.false_and, Bool.or_true, Bool.or_false, Bool.true_or, Bool.false_or, Bool.false_eq_true, ne_eq, Bool.not_true, Bool.not_false, decide_not])
  · cases o <;> (simp only [Bool.not_true, Bool.not_false] at h; simp (disch := omega) only [e_X1_isContent_4, k_X1_isContent_4, e_X1_isContent_10, e_X1_isContent_12, k_X1_isContent_12, k_gain, z_i, h, q_bd_l, z_ltT, z_ltF, z_eqT, z_eqF, z_ltlT, z_ltlF, z_lltT, z_lltF, z_eqlT, z_eqlF, z_in, z_k7, z_cl, z_lneg, z_llT, z_llF, z_s1, z_nI_cl, z_nlt0, z_ne_m1, z_b0, z_b1, z_la, z_al, z_lm, z_ml, z_nm, nI_add, pk_mul, ↓reduceIte, not_true_eq_false, not_false_eq_true, true_or, or_true, false_or, or_false, true_and, and_true, and_false, false_and, Classical.not_not, Nat.add_zero, z_01, z_em, z_bit_p, Nat.not_le, Nat.not_lt, reduceCtorEq, if_true, if_false, decide_true, decide_false, Bool.and_true, Bool.and_false, Bool.true_and, Bool.false_and, Bool.or_true, Bool.or_false, Bool.true_or, Bool.false_or, Bool.false_eq_true, ne_eq, Bool.not_true, Bool.not_false, decide_not]; simp only [z_i, ↓reduceIte, Bool.false_eq_true] at h; simp (disch := omega) only [h, q_bd_l, z_ltT, z_ltF, z_eqT, z_eqF, z_ltlT, z_ltlF, z_lltT, z_lltF, z_eqlT, z_eqlF, z_in, z_k7, z_cl, z_lneg, z_llT, z_llF, z_s1, z_nI_cl, z_nlt0, z_ne_m1, z_b0, z_b1, z_la, z_al, z_lm, z_ml, z_nm, nI_add, pk_mul, ↓reduceIte, not_true_eq_false, not_false_eq_true, true_or, or_true, false_or, or_false, true_and, and_true, and_false, false_and, Classical.not_not, Nat.add_zero, z_01, z_em, z_bit_p, Nat.not_le, Nat.not_lt, reduceCtorEq, if_true, if_false, decide_true, decide_false, Bool.and_true, Bool.and_false, Bool.true_and, Bool.false_and, Bool.or_true, Bool.or_false, Bool.true_or, Bool.false_or, Bool.false_eq_true, ne_eq, Bool.not_true, Bool.not_false, decide_not])
