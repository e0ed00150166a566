/-! ===== THE CLASS: who agrees, cover, seals ===== -/
theorem R_a1_f (r : Nat → Int32) (s : Int32) (t : Nat) (n : Nat) : ∀ k q, k ≤ n → q.2 = false → (z_it (fun i x => R_a1 r s t (k + i) x) (n - k) q).2 = false := by
  intro k q hk hq
  refine z_it_P (P := fun (x : Int32 × Bool) => x.2 = false) hq (fun i x _ hx => ?_)
  show (R_a1 r s t (k + i) x).2 = false
  unfold R_a1
  split
  · show (x.2 && _) = false
    rw [hx]; rfl
  · exact hx
theorem z_it_sp {α : Type} (s : Nat → α → α) (k : Nat) : ∀ (m : Nat) (a : α), z_it s (k + m) a = z_it (fun i x => s (k + i) x) m (z_it s k a)
  | 0, _ => rfl
  | m + 1, a => by
    show s (k + m) (z_it s (k + m) a) = s (k + m) (z_it (fun i x => s (k + i) x) m (z_it s k a))
    rw [z_it_sp s k m a]
theorem k_areAtOne (X : Sx) (d : Nat) (I : Ii) (T : Tt) (r : Nat → Int32) (n m t : Nat) (s : Int32) (h : k_A I r n m) (ht : t < 6) : c_X1_areAtOne_128 X (d + 2) s (nI t) I T = z_r (z_i (R_at r n s t)) I T := by
  have hn := h.1.1.2.1
  have n3 := k_n3 h.1
  rw [e_X1_areAtOne_128]
  have key : ∀ m' k v, k + m' = n → z_it (R_a1 r s t) k (-1, true) = (v, true) → c_X1_areAtOne_128_4 X (d + 1) s (nI t) v (nI k) I T = z_r (z_i (R_at r n s t)) I T := by
    intro m'
    induction m' with
    | zero =>
      intro k v hk hv
      have hk : k = n := by omega
      subst hk
      unfold R_at
      rw [hv, e_X1_areAtOne_128_4]
      simp (disch := omega) only [n3, q_bd_l, z_ltT, z_ltF, z_eqT, z_eqF, z_ltlT, z_ltlF, z_lltT, z_lltF, z_eqlT, z_eqlF, z_in, z_k7, z_cl, z_lneg, z_llT, z_llF, z_s1, z_nI_cl, z_nlt0, z_ne_m1, z_b0, z_b1, z_la, z_al, z_lm, z_ml, z_nm, nI_add, pk_mul, ↓reduceIte, not_true_eq_false, not_false_eq_true, true_or, or_true, false_or, or_false, true_and, and_true, and_false, false_and, Classical.not_not, Nat.add_zero, z_01, z_em, z_bit_p, Nat.not_le, Nat.not_lt, reduceCtorEq, if_true, if_false]
      rfl
    | succ m' ih =>
      intro k v hk hv
      have e1 : z_it (R_a1 r s t) (k + 1) (-1, true) = if z_bit s k = true then (R_adv r k t, true && decide (v = -1 ∨ v = R_adv r k t)) else (v, true) := by
        show R_a1 r s t k (z_it (R_a1 r s t) k (-1, true)) = _
        rw [hv]; rfl
      rw [e_X1_areAtOne_128_4]
      cases hb : z_bit s k with
      | false =>
        rw [hb] at e1
        rw [← ih (k + 1) v (by omega) e1]
        simp (disch := omega) only [e_X1_areAtOne_128_12, k_X1_areAtOne_128_12, e_X1_areAtOne_128_20, k_X1_areAtOne_128_20, e_X1_areAtOne_128_24, e_X1_areAtOne_128_28, k_X1_areAtOne_128_28, e_X1_areAtOne_128_29, n3, k_cIn, hb, q_bd_l, z_ltT, z_ltF, z_eqT, z_eqF, z_ltlT, z_ltlF, z_lltT, z_lltF, z_eqlT, z_eqlF, z_in, z_k7, z_cl, z_lneg, z_llT, z_llF, z_s1, z_nI_cl, z_nlt0, z_ne_m1, z_b0, z_b1, z_la, z_al, z_lm, z_ml, z_nm, nI_add, pk_mul, ↓reduceIte, not_true_eq_false, not_false_eq_true, true_or, or_true, false_or, or_false, true_and, and_true, and_false, false_and, Classical.not_not, Nat.add_zero, z_01, z_em, z_bit_p, Nat.not_le, Nat.not_lt, reduceCtorEq, if_true, if_false, decide_true, decide_false, Bool.and_true, Bool.and_false, Bool.true_and, Bool.false_and, Bool.or_true, Bool.or_false, Bool.true_or, Bool.false_or, Bool.false_eq_true, ne_eq, Bool.not_true, Bool.not_false, decide_not]
      | true =>
        rw [hb, if_pos rfl] at e1
        have hd := fun d' => k_heard X d' I T r n m k t h (by omega) ht
        by_cases h1 : v = -1
        · rw [← ih (k + 1) (R_adv r k t) (by omega) (by rw [e1]; simp [h1])]
          simp (disch := omega) only [e_X1_areAtOne_128_12, k_X1_areAtOne_128_12, e_X1_areAtOne_128_20, k_X1_areAtOne_128_20, e_X1_areAtOne_128_24, e_X1_areAtOne_128_28, k_X1_areAtOne_128_28, e_X1_areAtOne_128_29, n3, k_cIn, hb, hd, h1, q_bd_l, z_ltT, z_ltF, z_eqT, z_eqF, z_ltlT, z_ltlF, z_lltT, z_lltF, z_eqlT, z_eqlF, z_in, z_k7, z_cl, z_lneg, z_llT, z_llF, z_s1, z_nI_cl, z_nlt0, z_ne_m1, z_b0, z_b1, z_la, z_al, z_lm, z_ml, z_nm, nI_add, pk_mul, ↓reduceIte, not_true_eq_false, not_false_eq_true, true_or, or_true, false_or, or_false, true_and, and_true, and_false, false_and, Classical.not_not, Nat.add_zero, z_01, z_em, z_bit_p, Nat.not_le, Nat.not_lt, reduceCtorEq, if_true, if_false, decide_true, decide_false, Bool.and_true, Bool.and_false, Bool.true_and, Bool.false_and, Bool.or_true, Bool.or_false, Bool.true_or, Bool.false_or, Bool.false_eq_true, ne_eq, Bool.not_true, Bool.not_false, decide_not]
        · by_cases h2 : R_adv r k t = v
          · rw [← ih (k + 1) (R_adv r k t) (by omega) (by rw [e1]; simp [h2])]
            simp (disch := omega) only [e_X1_areAtOne_128_12, k_X1_areAtOne_128_12, e_X1_areAtOne_128_20, k_X1_areAtOne_128_20, e_X1_areAtOne_128_24, e_X1_areAtOne_128_28, k_X1_areAtOne_128_28, e_X1_areAtOne_128_29, n3, k_cIn, hb, hd, h1, h2, q_bd_l, z_ltT, z_ltF, z_eqT, z_eqF, z_ltlT, z_ltlF, z_lltT, z_lltF, z_eqlT, z_eqlF, z_in, z_k7, z_cl, z_lneg, z_llT, z_llF, z_s1, z_nI_cl, z_nlt0, z_ne_m1, z_b0, z_b1, z_la, z_al, z_lm, z_ml, z_nm, nI_add, pk_mul, ↓reduceIte, not_true_eq_false, not_false_eq_true, true_or, or_true, false_or, or_false, true_and, and_true, and_false, false_and, Classical.not_not, Nat.add_zero, z_01, z_em, z_bit_p, Nat.not_le, Nat.not_lt, reduceCtorEq, if_true, if_false, decide_true, decide_false, Bool.and_true, Bool.and_false, Bool.true_and, Bool.false_and, Bool.or_true, Bool.or_false, Bool.true_or, Bool.false_or, Bool.false_eq_true, ne_eq, Bool.not_true, Bool.not_false, decide_not]
          · have e2 : (z_it (R_a1 r s t) (k + 1) (-1, true)).2 = false := by
              rw [e1]
              have h3 : ¬ v = R_adv r k t := fun a => h2 a.symm
              simp [h1, h3]
            have e3 : R_at r n s t = false := by
              unfold R_at
              have := R_a1_f r s t n (k + 1) _ (by omega) e2
              rw [← z_it_sp, show k + 1 + (n - (k + 1)) = n by omega] at this
              exact this
            rw [e3]
            simp (disch := omega) only [e_X1_areAtOne_128_12, k_X1_areAtOne_128_12, e_X1_areAtOne_128_20, k_X1_areAtOne_128_20, e_X1_areAtOne_128_24, e_X1_areAtOne_128_28, k_X1_areAtOne_128_28, e_X1_areAtOne_128_29, n3, k_cIn, hb, hd, h1, h2, q_bd_l, z_ltT, z_ltF, z_eqT, z_eqF, z_ltlT, z_ltlF, z_lltT, z_lltF, z_eqlT, z_eqlF, z_in, z_k7, z_cl, z_lneg, z_llT, z_llF, z_s1, z_nI_cl, z_nlt0, z_ne_m1, z_b0, z_b1, z_la, z_al, z_lm, z_ml, z_nm, nI_add, pk_mul, ↓reduceIte, not_true_eq_false, not_false_eq_true, true_or, or_true, false_or, or_false, true_and, and_true, and_false, false_and, Classical.not_not, Nat.add_zero, z_01, z_em, z_bit_p, Nat.not_le, Nat.not_lt, reduceCtorEq, if_true, if_false, decide_true, decide_false, Bool.and_true, Bool.and_false, Bool.true_and, Bool.false_and, Bool.or_true, Bool.or_false, Bool.true_or, Bool.false_or, Bool.false_eq_true, ne_eq, Bool.not_true, Bool.not_false, decide_not]
            rfl
  exact key n 0 (-1) (by omega) rfl
theorem k_agreedBy (X : Sx) (d : Nat) (I : Ii) (T : Tt) (r : Nat → Int32) (n m : Nat) (s : Int32) (h : k_H27 I r n m) : ∃ J, c_X1_agreedBy_128 X (d + 8) s I T = z_r (R_ag r n s) J T ∧ z_fr m_cs I J := by
  obtain ⟨J, j1, j2, j3⟩ := k_hearAll X d I T r n m h
  refine ⟨J, ?_, j2⟩
  rw [e_X1_agreedBy_128, j1]
  simp (disch := omega) only [e_X1_agreedBy_128_2, k_X1_agreedBy_128_2, q_bd_l, z_ltT, z_ltF, z_eqT, z_eqF, z_ltlT, z_ltlF, z_lltT, z_lltF, z_eqlT, z_eqlF, z_in, z_k7, z_cl, z_lneg, z_llT, z_llF, z_s1, z_nI_cl, z_nlt0, z_ne_m1, z_b0, z_b1, z_la, z_al, z_lm, z_ml, z_nm, nI_add, pk_mul, ↓reduceIte, not_true_eq_false, not_false_eq_true, true_or, or_true, false_or, or_false, true_and, and_true, and_false, false_and, Classical.not_not, Nat.add_zero, z_01, z_em, z_bit_p, Nat.not_le, Nat.not_lt, reduceCtorEq, if_true, if_false]
  refine (z_for (fun t a => c_X1_agreedBy_128_6 X (d + 7) s a (nI t) J T) (fun t a => a ||| (if R_at r n s t = true then (1 : Int32) <<< (nI t &&& 31) else 0)) 6 (fun t a ht => ?_) 0).trans ?_
  · rw [e_X1_agreedBy_128_6]
    cases hc : R_at r n s t <;> simp (disch := omega) only [e_X1_agreedBy_128_2, k_X1_agreedBy_128_2, e_X1_agreedBy_128_14, k_X1_agreedBy_128_14, e_X1_agreedBy_128_20, k_areAtOne X _ J T r n m t s j3 ht, hc, z_i, q_bd_l, z_ltT, z_ltF, z_eqT, z_eqF, z_ltlT, z_ltlF, z_lltT, z_lltF, z_eqlT, z_eqlF, z_in, z_k7, z_cl, z_lneg, z_llT, z_llF, z_s1, z_nI_cl, z_nlt0, z_ne_m1, z_b0, z_b1, z_la, z_al, z_lm, z_ml, z_nm, nI_add, pk_mul, ↓reduceIte, not_true_eq_false, not_false_eq_true, true_or, or_true, false_or, or_false, true_and, and_true, and_false, false_and, Classical.not_not, Nat.add_zero, z_01, z_em, z_bit_p, Nat.not_le, Nat.not_lt, reduceCtorEq, if_true, if_false, decide_true, decide_false, Bool.and_true, Bool.and_false, Bool.true_and, Bool.false_and, Bool.or_true, Bool.or_false, Bool.true_or, Bool.false_or, Bool.false_eq_true, ne_eq, Bool.not_true, Bool.not_false, decide_not]
  · rw [e_X1_agreedBy_128_6]
    simp (disch := omega) only [q_bd_l, z_ltT, z_ltF, z_eqT, z_eqF, z_ltlT, z_ltlF, z_lltT, z_lltF, z_eqlT, z_eqlF, z_in, z_k7, z_cl, z_lneg, z_llT, z_llF, z_s1, z_nI_cl, z_nlt0, z_ne_m1, z_b0, z_b1, z_la, z_al, z_lm, z_ml, z_nm, nI_add, pk_mul, ↓reduceIte, not_true_eq_false, not_false_eq_true, true_or, or_true, false_or, or_false, true_and, and_true, and_false, false_and, Classical.not_not, Nat.add_zero, z_01, z_em, z_bit_p, Nat.not_le, Nat.not_lt, reduceCtorEq, if_true, if_false]
    rfl
theorem z_bit_l (s : Int32) (k : Nat) (hk : k < 32) : z_bit s k = s.toBitVec.getLsbD k := by
  have e : (s >>> (nI k &&& 31)).toBitVec = s.toBitVec.sshiftRight k := by
    rw [Int32.toBitVec_shiftRight]
    show s.toBitVec.sshiftRight ((nI k &&& 31).toBitVec.smod 32).toNat = _
    rw [z_sl k hk]
  have e2 : ((s >>> (nI k &&& 31)) &&& (1 : Int32) = 1) ↔ (s.toBitVec.sshiftRight k).getLsbD 0 = true := by
    rw [← Int32.toBitVec_inj, Int32.toBitVec_and, e]
    show (s.toBitVec.sshiftRight k &&& 1#32) = 1#32 ↔ _
    rw [BitVec.and_one_eq_setWidth_ofBool_getLsbD]
    cases (s.toBitVec.sshiftRight k).getLsbD 0 <;> decide
  have e3 : (s.toBitVec.sshiftRight k).getLsbD 0 = s.toBitVec.getLsbD k := by
    rw [BitVec.getLsbD_sshiftRight]
    simp [hk]
  rw [e3] at e2
  unfold z_bit
  cases hq : s.toBitVec.getLsbD k
  · rw [hq] at e2
    exact decide_eq_false (fun a => Bool.false_ne_true (e2.mp a))
  · rw [hq] at e2
    exact decide_eq_true (e2.mpr rfl)
theorem z_bit_mask (s : Int32) (n j : Nat) (hn : n ≤ 10) (hj : j < n) : z_bit (s &&& nI (2 ^ n - 1)) j = z_bit s j := by
  rw [z_bit_l _ j (by omega), z_bit_l _ j (by omega), Int32.toBitVec_and, BitVec.getLsbD_and]
  have e : (nI (2 ^ n - 1)).toBitVec.getLsbD j = true := by
    show (BitVec.ofNat 32 (2 ^ n - 1)).getLsbD j = true
    rw [BitVec.getLsbD_ofNat, Nat.testBit_two_pow_sub_one]
    simp
    omega
  rw [e, Bool.and_true]
theorem R_ag_and (r : Nat → Int32) (n : Nat) (hn : n ≤ 10) (s : Int32) : R_ag r n (s &&& nI (2 ^ n - 1)) = R_ag r n s := by
  refine z_set_c (fun t _ => ?_)
  unfold R_at
  congr 1
  refine z_it_c (fun j q hj => ?_)
  unfold R_a1
  rw [z_bit_mask s n j hn hj]
theorem R_seals_and (r : Nat → Int32) (n : Nat) (hn : n ≤ 10) (s : Int32) : R_seals r n (s &&& nI (2 ^ n - 1)) = R_seals r n s := by
  refine z_it_c (fun j q hj => ?_)
  rw [z_bit_mask s n j hn hj]
-- seals
theorem k_sealsOf (X : Sx) (d : Nat) (I : Ii) (T : Tt) (r : Nat → Int32) (n m : Nat) (s : Int32) (h : k_H27 I r n m) : c_X9_sealsOf_3 X (d + 1) s I T = z_r (R_seals r n s) I T := by
  have hn := h.1.2.1
  have n3 := k_n3 h
  rw [e_X9_sealsOf_3]
  refine (z_for (fun k a => c_X9_sealsOf_3_4 X d s a (nI k) I T) (fun k a => a + if z_bit s k = true then r (12 + 13 * k + 4) else 0) n (fun k a hk => ?_) 0).trans ?_
  · have c4 : I 5 k = r (12 + 13 * k + 4) := h.2.1.2.2.2.2.2.2.2.1 k hk
    rw [e_X9_sealsOf_3_4]
    cases hb : z_bit s k <;> simp (disch := omega) only [e_X9_sealsOf_3_22, n3, hb, c4, Int32.add_zero, q_bd_l, z_ltT, z_ltF, z_eqT, z_eqF, z_ltlT, z_ltlF, z_lltT, z_lltF, z_eqlT, z_eqlF, z_in, z_k7, z_cl, z_lneg, z_llT, z_llF, z_s1, z_nI_cl, z_nlt0, z_ne_m1, z_b0, z_b1, z_la, z_al, z_lm, z_ml, z_nm, nI_add, pk_mul, ↓reduceIte, not_true_eq_false, not_false_eq_true, true_or, or_true, false_or, or_false, true_and, and_true, and_false, false_and, Classical.not_not, Nat.add_zero, z_01, z_em, z_bit_p, Nat.not_le, Nat.not_lt, reduceCtorEq, if_true, if_false, decide_true, decide_false, Bool.and_true, Bool.and_false, Bool.true_and, Bool.false_and, Bool.or_true, Bool.or_false, Bool.true_or, Bool.false_or, Bool.false_eq_true, ne_eq, Bool.not_true, Bool.not_false, decide_not]
  · rw [e_X9_sealsOf_3_4]
    simp (disch := omega) only [n3, q_bd_l, z_ltT, z_ltF, z_eqT, z_eqF, z_ltlT, z_ltlF, z_lltT, z_lltF, z_eqlT, z_eqlF, z_in, z_k7, z_cl, z_lneg, z_llT, z_llF, z_s1, z_nI_cl, z_nlt0, z_ne_m1, z_b0, z_b1, z_la, z_al, z_lm, z_ml, z_nm, nI_add, pk_mul, ↓reduceIte, not_true_eq_false, not_false_eq_true, true_or, or_true, false_or, or_false, true_and, and_true, and_false, false_and, Classical.not_not, Nat.add_zero, z_01, z_em, z_bit_p, Nat.not_le, Nat.not_lt, reduceCtorEq, if_true, if_false]
    rfl
theorem R_seals_le (r : Nat → Int32) (n m : Nat) (h : R_ok r n m) (s : Int32) : z_le (R_seals r n s) 90 := by
  have hn := h.2.1
  have key : ∀ k, k ≤ n → z_le (z_it (fun k a => a + if z_bit s k = true then r (12 + 13 * k + 4) else 0) k 0) (9 * k) := by
    intro k
    induction k with
    | zero => intro _; exact ⟨0, by omega, rfl⟩
    | succ k ih =>
      intro hk
      obtain ⟨x, hx, ex⟩ := ih (by omega)
      obtain ⟨y, hy, ey⟩ := (h.2.2.2.2.2.2.2.2.2.2.1 k (by omega)).2.2.2.2.1
      show z_le (z_it (fun k a => a + if z_bit s k = true then r (12 + 13 * k + 4) else 0) k 0 + if z_bit s k = true then r (12 + 13 * k + 4) else 0) (9 * (k + 1))
      rw [ex]
      split
      · rw [ey, nI_add]; exact ⟨x + y, by omega, rfl⟩
      · exact ⟨x, by omega, Int32.add_zero _⟩
  exact z_le_w (key n (Nat.le_refl _)) (by omega)
theorem k_isWinning (X : Sx) (d : Nat) (I : Ii) (T : Tt) (r : Nat → Int32) (n m : Nat) (s : Int32) (h : k_H27 I r n m) : c_X1_isWinning_128 X (d + 2) s I T = z_r (z_b (¬ R_seals r n s < r 5)) I T := by
  have c9 : I 3 9 = r 5 := h.2.1.2.2.1
  rw [e_X1_isWinning_128, k_sealsOf X d I T r n m s h]
  unfold z_b
  by_cases hc : R_seals r n s < r 5 <;> simp (disch := omega) only [e_X1_isWinning_128, e_X1_isWinning_128_4, k_X1_isWinning_128_4, c9, hc, q_bd_l, z_ltT, z_ltF, z_eqT, z_eqF, z_ltlT, z_ltlF, z_lltT, z_lltF, z_eqlT, z_eqlF, z_in, z_k7, z_cl, z_lneg, z_llT, z_llF, z_s1, z_nI_cl, z_nlt0, z_ne_m1, z_b0, z_b1, z_la, z_al, z_lm, z_ml, z_nm, nI_add, pk_mul, ↓reduceIte, not_true_eq_false, not_false_eq_true, true_or, or_true, false_or, or_false, true_and, and_true, and_false, false_and, Classical.not_not, Nat.add_zero, z_01, z_em, z_bit_p, Nat.not_le, Nat.not_lt, reduceCtorEq, if_true, if_false]
theorem R_bits_11 : ∀ s, s < 1024 → R_bits (nI s) < 11 := by decide +kernel
theorem R_seals_0 (r : Nat → Int32) (n : Nat) : R_seals r n (nI 0) = 0 := by
  refine z_it_P (P := fun (a : Int32) => a = 0) rfl (fun k a _ ha => ?_)
  have hb : z_bit (nI 0) k = false := by
    unfold z_bit
    refine decide_eq_false (fun e => ?_)
    have e0 : nI 0 >>> (nI k &&& 31) = 0 := by
      apply Int32.toBitVec_inj.1
      rw [Int32.toBitVec_shiftRight]
      show (0#32).sshiftRight _ = 0#32
      simp
    rw [e0] at e
    exact absurd e (by decide)
  rw [ha, hb]
  rfl
theorem k_fewestWinning (X : Sx) (d : Nat) (I : Ii) (T : Tt) (r : Nat → Int32) (n m : Nat) (h : k_H27 I r n m) : c_X1_fewestWinning_128 X (d + 4) I T = z_r (R_sm r n false) I T := by
  have hn := h.1.2.1
  have h2 := z_2n hn
  have n3 := k_n3 h
  obtain ⟨q, hq1, hq2, hq3⟩ := h.1.2.2.2.2.2.1
  obtain ⟨o, -, t4⟩ := z_foldP (β := Int32) (σ := Option Value) (fun k f o => c_X1_fewestWinning_128_10 X (d + 3) f (if f = -1 then 11 else R_bits f) (nI (2 ^ n - 1)) (nI (k + 1)) o I T) (fun k f => R_s1 r n false (k + 1) f) (fun _ _ _ => True) (2 ^ n - 1) (by
    intro k f o hk _
    refine ⟨some (.int (R_bits (nI (k + 1)))), trivial, ?_⟩
    rw [e_X1_fewestWinning_128_10]
    unfold R_s1
    have bc := k_bc X (d + 2) I T (k + 1) (by omega)
    have b11 := R_bits_11 (k + 1) (by omega)
    have wi := k_isWinning X (d + 1) I T r n m (nI (k + 1)) h
    have ne1 : (nI (k + 1) = -1) = False := z_ne_m1 _ (by omega)
    by_cases h4 : R_seals r n (nI (k + 1)) < r 5
    · by_cases h5 : f = -1
      · simp (disch := omega) only [e_X1_fewestWinning_128_7, k_X1_fewestWinning_128_7, e_X1_fewestWinning_128_15, k_X1_fewestWinning_128_15, e_X1_fewestWinning_128_22, k_X1_fewestWinning_128_22, e_X1_fewestWinning_128_27, bc, b11, wi, h4, h5, q_bd_l, z_ltT, z_ltF, z_eqT, z_eqF, z_ltlT, z_ltlF, z_lltT, z_lltF, z_eqlT, z_eqlF, z_in, z_k7, z_cl, z_lneg, z_llT, z_llF, z_s1, z_nI_cl, z_nlt0, z_ne_m1, z_b0, z_b1, z_la, z_al, z_lm, z_ml, z_nm, nI_add, pk_mul, ↓reduceIte, not_true_eq_false, not_false_eq_true, true_or, or_true, false_or, or_false, true_and, and_true, and_false, false_and, Classical.not_not, Nat.add_zero, z_01, z_em, z_bit_p, Nat.not_le, Nat.not_lt, reduceCtorEq, if_true, if_false, decide_true, decide_false, Bool.and_true, Bool.and_false, Bool.true_and, Bool.false_and, Bool.or_true, Bool.or_false, Bool.true_or, Bool.false_or, Bool.false_eq_true, ne_eq, Bool.not_true, Bool.not_false, decide_not]
      · by_cases h6 : R_bits (nI (k + 1)) < R_bits f <;> simp (disch := omega) only [e_X1_fewestWinning_128_7, k_X1_fewestWinning_128_7, e_X1_fewestWinning_128_15, k_X1_fewestWinning_128_15, e_X1_fewestWinning_128_22, k_X1_fewestWinning_128_22, e_X1_fewestWinning_128_27, bc, b11, wi, h4, h5, h6, q_bd_l, z_ltT, z_ltF, z_eqT, z_eqF, z_ltlT, z_ltlF, z_lltT, z_lltF, z_eqlT, z_eqlF, z_in, z_k7, z_cl, z_lneg, z_llT, z_llF, z_s1, z_nI_cl, z_nlt0, z_ne_m1, z_b0, z_b1, z_la, z_al, z_lm, z_ml, z_nm, nI_add, pk_mul, ↓reduceIte, not_true_eq_false, not_false_eq_true, true_or, or_true, false_or, or_false, true_and, and_true, and_false, false_and, Classical.not_not, Nat.add_zero, z_01, z_em, z_bit_p, Nat.not_le, Nat.not_lt, reduceCtorEq, if_true, if_false, decide_true, decide_false, Bool.and_true, Bool.and_false, Bool.true_and, Bool.false_and, Bool.or_true, Bool.or_false, Bool.true_or, Bool.false_or, Bool.false_eq_true, ne_eq, Bool.not_true, Bool.not_false, decide_not]
    · by_cases h5 : f = -1
      · simp (disch := omega) only [e_X1_fewestWinning_128_7, k_X1_fewestWinning_128_7, e_X1_fewestWinning_128_15, k_X1_fewestWinning_128_15, e_X1_fewestWinning_128_22, k_X1_fewestWinning_128_22, e_X1_fewestWinning_128_27, bc, b11, wi, h4, h5, ne1, q_bd_l, z_ltT, z_ltF, z_eqT, z_eqF, z_ltlT, z_ltlF, z_lltT, z_lltF, z_eqlT, z_eqlF, z_in, z_k7, z_cl, z_lneg, z_llT, z_llF, z_s1, z_nI_cl, z_nlt0, z_ne_m1, z_b0, z_b1, z_la, z_al, z_lm, z_ml, z_nm, nI_add, pk_mul, ↓reduceIte, not_true_eq_false, not_false_eq_true, true_or, or_true, false_or, or_false, true_and, and_true, and_false, false_and, Classical.not_not, Nat.add_zero, z_01, z_em, z_bit_p, Nat.not_le, Nat.not_lt, reduceCtorEq, if_true, if_false, decide_true, decide_false, Bool.and_true, Bool.and_false, Bool.true_and, Bool.false_and, Bool.or_true, Bool.or_false, Bool.true_or, Bool.false_or, Bool.false_eq_true, ne_eq, Bool.not_true, Bool.not_false, decide_not]
      · by_cases h6 : R_bits (nI (k + 1)) < R_bits f <;> simp (disch := omega) only [e_X1_fewestWinning_128_7, k_X1_fewestWinning_128_7, e_X1_fewestWinning_128_15, k_X1_fewestWinning_128_15, e_X1_fewestWinning_128_22, k_X1_fewestWinning_128_22, e_X1_fewestWinning_128_27, bc, b11, wi, h4, h5, h6, ne1, q_bd_l, z_ltT, z_ltF, z_eqT, z_eqF, z_ltlT, z_ltlF, z_lltT, z_lltF, z_eqlT, z_eqlF, z_in, z_k7, z_cl, z_lneg, z_llT, z_llF, z_s1, z_nI_cl, z_nlt0, z_ne_m1, z_b0, z_b1, z_la, z_al, z_lm, z_ml, z_nm, nI_add, pk_mul, ↓reduceIte, not_true_eq_false, not_false_eq_true, true_or, or_true, false_or, or_false, true_and, and_true, and_false, false_and, Classical.not_not, Nat.add_zero, z_01, z_em, z_bit_p, Nat.not_le, Nat.not_lt, reduceCtorEq, if_true, if_false, decide_true, decide_false, Bool.and_true, Bool.and_false, Bool.true_and, Bool.false_and, Bool.or_true, Bool.or_false, Bool.true_or, Bool.false_or, Bool.false_eq_true, ne_eq, Bool.not_true, Bool.not_false, decide_not]) (-1) none trivial
  have st : c_X1_fewestWinning_128 X (d + 4) I T = c_X1_fewestWinning_128_10 X (d + 3) (-1) (if (-1 : Int32) = -1 then 11 else R_bits (-1)) (nI (2 ^ n - 1)) (nI (0 + 1)) none I T := by
    rw [e_X1_fewestWinning_128]
    simp (disch := omega) only [e_X1_fewestWinning_128_7, k_X1_fewestWinning_128_7, e_X1_fewestWinning_128_15, k_X1_fewestWinning_128_15, e_X1_fewestWinning_128_22, k_X1_fewestWinning_128_22, e_X1_fewestWinning_128_27, k_everyJar X _ I T n n3 hn, q_bd_l, z_ltT, z_ltF, z_eqT, z_eqF, z_ltlT, z_ltlF, z_lltT, z_lltF, z_eqlT, z_eqlF, z_in, z_k7, z_cl, z_lneg, z_llT, z_llF, z_s1, z_nI_cl, z_nlt0, z_ne_m1, z_b0, z_b1, z_la, z_al, z_lm, z_ml, z_nm, nI_add, pk_mul, ↓reduceIte, not_true_eq_false, not_false_eq_true, true_or, or_true, false_or, or_false, true_and, and_true, and_false, false_and, Classical.not_not, Nat.add_zero, z_01, z_em, z_bit_p, Nat.not_le, Nat.not_lt, reduceCtorEq, if_true, if_false]
    rfl
  rw [st]
  refine t4.trans ?_
  rw [e_X1_fewestWinning_128_10]
  have hlt : (nI (2 ^ n - 1) < nI (2 ^ n - 1 + 1)) = True := z_ltT _ _ (by omega) (by omega)
  simp (disch := omega) only [hlt, q_bd_l, z_ltT, z_ltF, z_eqT, z_eqF, z_ltlT, z_ltlF, z_lltT, z_lltF, z_eqlT, z_eqlF, z_in, z_k7, z_cl, z_lneg, z_llT, z_llF, z_s1, z_nI_cl, z_nlt0, z_ne_m1, z_b0, z_b1, z_la, z_al, z_lm, z_ml, z_nm, nI_add, pk_mul, ↓reduceIte, not_true_eq_false, not_false_eq_true, true_or, or_true, false_or, or_false, true_and, and_true, and_false, false_and, Classical.not_not, Nat.add_zero, z_01, z_em, z_bit_p, Nat.not_le, Nat.not_lt, reduceCtorEq, if_true, if_false]
  unfold R_sm
  have e0 : R_s1 r n false 0 (-1) = -1 := by
    unfold R_s1
    rw [R_seals_0, hq3, if_pos (show (0 : Int32) < nI q from nI_lt (a := 0) hq1 (by omega))]
  have e1 : 2 ^ n = 2 ^ n - 1 + 1 := by omega
  rw [e1, z_it_0, e0]
  rfl
theorem k_cheapestWinning (X : Sx) (d : Nat) (I : Ii) (T : Tt) (r : Nat → Int32) (n m : Nat) (h : k_H27 I r n m) : c_X1_cheapestWinning_128 X (d + 4) I T = z_r (R_sm r n true) I T := by
  have hn := h.1.2.1
  have h2 := z_2n hn
  have n3 := k_n3 h
  have c9 : I 3 9 = r 5 := h.2.1.2.2.1
  obtain ⟨q, hq1, hq2, hq3⟩ := h.1.2.2.2.2.2.1
  obtain ⟨o, -, t4⟩ := z_foldP (β := Int32) (σ := Option Value) (fun k f o => c_X1_cheapestWinning_128_10 X (d + 3) f (if f = -1 then 91 else R_seals r n f) (nI (2 ^ n - 1)) (nI (k + 1)) o I T) (fun k f => R_s1 r n true (k + 1) f) (fun _ _ _ => True) (2 ^ n - 1) (by
    intro k f o hk _
    refine ⟨some (.int (R_seals r n (nI (k + 1)))), trivial, ?_⟩
    rw [e_X1_cheapestWinning_128_10]
    unfold R_s1
    have so := k_sealsOf X (d + 2) I T r n m (nI (k + 1)) h
    have b91 : R_seals r n (nI (k + 1)) < 91 := by
      obtain ⟨x, hx, ex⟩ := R_seals_le r n m h.1 (nI (k + 1))
      rw [ex]; exact nI_lt (b := 91) (by omega) (by omega)
    have ne1 : (nI (k + 1) = -1) = False := z_ne_m1 _ (by omega)
    by_cases h4 : R_seals r n (nI (k + 1)) < r 5
    · simp (disch := omega) only [e_X1_cheapestWinning_128_7, k_X1_cheapestWinning_128_7, e_X1_cheapestWinning_128_17, k_X1_cheapestWinning_128_17, e_X1_cheapestWinning_128_30, so, c9, h4, q_bd_l, z_ltT, z_ltF, z_eqT, z_eqF, z_ltlT, z_ltlF, z_lltT, z_lltF, z_eqlT, z_eqlF, z_in, z_k7, z_cl, z_lneg, z_llT, z_llF, z_s1, z_nI_cl, z_nlt0, z_ne_m1, z_b0, z_b1, z_la, z_al, z_lm, z_ml, z_nm, nI_add, pk_mul, ↓reduceIte, not_true_eq_false, not_false_eq_true, true_or, or_true, false_or, or_false, true_and, and_true, and_false, false_and, Classical.not_not, Nat.add_zero, z_01, z_em, z_bit_p, Nat.not_le, Nat.not_lt, reduceCtorEq, if_true, if_false, decide_true, decide_false, Bool.and_true, Bool.and_false, Bool.true_and, Bool.false_and, Bool.or_true, Bool.or_false, Bool.true_or, Bool.false_or, Bool.false_eq_true, ne_eq, Bool.not_true, Bool.not_false, decide_not]
    · by_cases h5 : f = -1
      · simp (disch := omega) only [e_X1_cheapestWinning_128_7, k_X1_cheapestWinning_128_7, e_X1_cheapestWinning_128_17, k_X1_cheapestWinning_128_17, e_X1_cheapestWinning_128_30, so, c9, b91, h4, h5, ne1, q_bd_l, z_ltT, z_ltF, z_eqT, z_eqF, z_ltlT, z_ltlF, z_lltT, z_lltF, z_eqlT, z_eqlF, z_in, z_k7, z_cl, z_lneg, z_llT, z_llF, z_s1, z_nI_cl, z_nlt0, z_ne_m1, z_b0, z_b1, z_la, z_al, z_lm, z_ml, z_nm, nI_add, pk_mul, ↓reduceIte, not_true_eq_false, not_false_eq_true, true_or, or_true, false_or, or_false, true_and, and_true, and_false, false_and, Classical.not_not, Nat.add_zero, z_01, z_em, z_bit_p, Nat.not_le, Nat.not_lt, reduceCtorEq, if_true, if_false, decide_true, decide_false, Bool.and_true, Bool.and_false, Bool.true_and, Bool.false_and, Bool.or_true, Bool.or_false, Bool.true_or, Bool.false_or, Bool.false_eq_true, ne_eq, Bool.not_true, Bool.not_false, decide_not]
      · by_cases h6 : R_seals r n (nI (k + 1)) < R_seals r n f <;> simp (disch := omega) only [e_X1_cheapestWinning_128_7, k_X1_cheapestWinning_128_7, e_X1_cheapestWinning_128_17, k_X1_cheapestWinning_128_17, e_X1_cheapestWinning_128_30, so, c9, h4, h5, h6, ne1, q_bd_l, z_ltT, z_ltF, z_eqT, z_eqF, z_ltlT, z_ltlF, z_lltT, z_lltF, z_eqlT, z_eqlF, z_in, z_k7, z_cl, z_lneg, z_llT, z_llF, z_s1, z_nI_cl, z_nlt0, z_ne_m1, z_b0, z_b1, z_la, z_al, z_lm, z_ml, z_nm, nI_add, pk_mul, ↓reduceIte, not_true_eq_false, not_false_eq_true, true_or, or_true, false_or, or_false, true_and, and_true, and_false, false_and, Classical.not_not, Nat.add_zero, z_01, z_em, z_bit_p, Nat.not_le, Nat.not_lt, reduceCtorEq, if_true, if_false, decide_true, decide_false, Bool.and_true, Bool.and_false, Bool.true_and, Bool.false_and, Bool.or_true, Bool.or_false, Bool.true_or, Bool.false_or, Bool.false_eq_true, ne_eq, Bool.not_true, Bool.not_false, decide_not]) (-1) none trivial
  have st : c_X1_cheapestWinning_128 X (d + 4) I T = c_X1_cheapestWinning_128_10 X (d + 3) (-1) (if (-1 : Int32) = -1 then 91 else R_seals r n (-1)) (nI (2 ^ n - 1)) (nI (0 + 1)) none I T := by
    rw [e_X1_cheapestWinning_128]
    simp (disch := omega) only [e_X1_cheapestWinning_128_7, k_X1_cheapestWinning_128_7, e_X1_cheapestWinning_128_17, k_X1_cheapestWinning_128_17, e_X1_cheapestWinning_128_30, k_everyJar X _ I T n n3 hn, q_bd_l, z_ltT, z_ltF, z_eqT, z_eqF, z_ltlT, z_ltlF, z_lltT, z_lltF, z_eqlT, z_eqlF, z_in, z_k7, z_cl, z_lneg, z_llT, z_llF, z_s1, z_nI_cl, z_nlt0, z_ne_m1, z_b0, z_b1, z_la, z_al, z_lm, z_ml, z_nm, nI_add, pk_mul, ↓reduceIte, not_true_eq_false, not_false_eq_true, true_or, or_true, false_or, or_false, true_and, and_true, and_false, false_and, Classical.not_not, Nat.add_zero, z_01, z_em, z_bit_p, Nat.not_le, Nat.not_lt, reduceCtorEq, if_true, if_false]
    rfl
  rw [st]
  refine t4.trans ?_
  rw [e_X1_cheapestWinning_128_10]
  have hlt : (nI (2 ^ n - 1) < nI (2 ^ n - 1 + 1)) = True := z_ltT _ _ (by omega) (by omega)
  simp (disch := omega) only [hlt, q_bd_l, z_ltT, z_ltF, z_eqT, z_eqF, z_ltlT, z_ltlF, z_lltT, z_lltF, z_eqlT, z_eqlF, z_in, z_k7, z_cl, z_lneg, z_llT, z_llF, z_s1, z_nI_cl, z_nlt0, z_ne_m1, z_b0, z_b1, z_la, z_al, z_lm, z_ml, z_nm, nI_add, pk_mul, ↓reduceIte, not_true_eq_false, not_false_eq_true, true_or, or_true, false_or, or_false, true_and, and_true, and_false, false_and, Classical.not_not, Nat.add_zero, z_01, z_em, z_bit_p, Nat.not_le, Nat.not_lt, reduceCtorEq, if_true, if_false]
  unfold R_sm
  have e0 : R_s1 r n true 0 (-1) = -1 := by
    unfold R_s1
    rw [R_seals_0, hq3, if_pos (show (0 : Int32) < nI q from nI_lt (a := 0) hq1 (by omega))]
  have e1 : 2 ^ n = 2 ^ n - 1 + 1 := by omega
  rw [e1, z_it_0, e0]
  rfl
