/-! ===== THE CLASS: taking from the tape ===== -/
theorem k_takeWord (X : Sx) (d : Nat) (u : UInt32) (w : List Int32) (hu : u.toNat < q_sb.length) (hw : q_sb.getD u.toNat [] = w) (hw9 : 0 < w.length ∧ w.length < 100) (hw8 : ∀ i, i < w.length → ∃ c, c < 128 ∧ w.getD i 0 = nI c) (I : Ii) (T : Tt) {B : Nat → Nat} {n p : Nat} (h : z_Rd I B n p) : ∃ J, c_X10_takeWord_1 X (d + 2) u I T = z_r (z_b (t_isW w B n p = true)) J T ∧ z_fr m_ta I J ∧ z_Rd J B n (if t_isW w B n p = true then t_nx B n p else p) ∧ J 1 6 = I 1 6 := by
  have e := k_isWord X d u w hu hw hw9 hw8 I T h
  unfold z_b at e ⊢
  by_cases hc : t_isW w B n p = true
  · rw [if_pos hc] at e
    obtain ⟨J, j1, j2, j3, j4⟩ := k_stepR X d I T h
    refine ⟨J, ?_, j2, by rw [if_pos hc]; exact j3, j4⟩
    rw [e_X10_takeWord_1, e]
    simp (disch := omega) only [e_X10_takeWord_1_3, k_X10_takeWord_1_3, e_X10_takeWord_1_8, k_X10_takeWord_1_8, j1, hc, q_bd_l, z_ltT, z_ltF, z_eqT, z_eqF, z_ltlT, z_ltlF, z_lltT, z_lltF, z_eqlT, z_eqlF, z_in, z_k7, z_cl, z_lneg, z_llT, z_llF, z_s1, z_nI_cl, z_nlt0, z_ne_m1, z_b0, z_b1, z_la, z_al, z_lm, z_ml, z_nm, nI_add, pk_mul, ↓reduceIte, not_true_eq_false, not_false_eq_true, true_or, or_true, false_or, or_false, true_and, and_true, and_false, false_and, Classical.not_not, Nat.add_zero, z_01, z_em, z_bit_p, Nat.not_le, Nat.not_lt, reduceCtorEq, if_true, if_false]
  · rw [if_neg hc] at e
    refine ⟨I, ?_, z_fr_r _ _, by rw [if_neg hc]; exact h, rfl⟩
    rw [e_X10_takeWord_1, e]
    simp (disch := omega) only [e_X10_takeWord_1_3, k_X10_takeWord_1_3, e_X10_takeWord_1_8, k_X10_takeWord_1_8, hc, q_bd_l, z_ltT, z_ltF, z_eqT, z_eqF, z_ltlT, z_ltlF, z_lltT, z_lltF, z_eqlT, z_eqlF, z_in, z_k7, z_cl, z_lneg, z_llT, z_llF, z_s1, z_nI_cl, z_nlt0, z_ne_m1, z_b0, z_b1, z_la, z_al, z_lm, z_ml, z_nm, nI_add, pk_mul, ↓reduceIte, not_true_eq_false, not_false_eq_true, true_or, or_true, false_or, or_false, true_and, and_true, and_false, false_and, Classical.not_not, Nat.add_zero, z_01, z_em, z_bit_p, Nat.not_le, Nat.not_lt, reduceCtorEq, if_true, if_false]
theorem k_takeSign (X : Sx) (d : Nat) (c : Nat) (hc : c < 128) (hcl : t_let c = false) (hcd : t_dig c = false) (I : Ii) (T : Tt) {B : Nat → Nat} {n p : Nat} (h : z_Rd I B n p) : ∃ J, c_X10_takeSign_1 X (d + 3) (nI c) I T = z_r (z_b (t_isS c B n p = true)) J T ∧ z_fr m_ta I J ∧ z_Rd J B n (if t_isS c B n p = true then t_nx B n p else p) ∧ J 1 6 = I 1 6 := by
  have e := k_isSign X d c hc hcl hcd I T h
  unfold z_b at e ⊢
  by_cases hc : t_isS c B n p = true
  · rw [if_pos hc] at e
    obtain ⟨J, j1, j2, j3, j4⟩ := k_stepR X (d + 1) I T h
    refine ⟨J, ?_, j2, by rw [if_pos hc]; exact j3, j4⟩
    rw [e_X10_takeSign_1, e]
    simp (disch := omega) only [e_X10_takeSign_1_3, k_X10_takeSign_1_3, e_X10_takeSign_1_8, k_X10_takeSign_1_8, j1, hc, q_bd_l, z_ltT, z_ltF, z_eqT, z_eqF, z_ltlT, z_ltlF, z_lltT, z_lltF, z_eqlT, z_eqlF, z_in, z_k7, z_cl, z_lneg, z_llT, z_llF, z_s1, z_nI_cl, z_nlt0, z_ne_m1, z_b0, z_b1, z_la, z_al, z_lm, z_ml, z_nm, nI_add, pk_mul, ↓reduceIte, not_true_eq_false, not_false_eq_true, true_or, or_true, false_or, or_false, true_and, and_true, and_false, false_and, Classical.not_not, Nat.add_zero, z_01, z_em, z_bit_p, Nat.not_le, Nat.not_lt, reduceCtorEq, if_true, if_false]
  · rw [if_neg hc] at e
    refine ⟨I, ?_, z_fr_r _ _, by rw [if_neg hc]; exact h, rfl⟩
    rw [e_X10_takeSign_1, e]
    simp (disch := omega) only [e_X10_takeSign_1_3, k_X10_takeSign_1_3, e_X10_takeSign_1_8, k_X10_takeSign_1_8, hc, q_bd_l, z_ltT, z_ltF, z_eqT, z_eqF, z_ltlT, z_ltlF, z_lltT, z_lltF, z_eqlT, z_eqlF, z_in, z_k7, z_cl, z_lneg, z_llT, z_llF, z_s1, z_nI_cl, z_nlt0, z_ne_m1, z_b0, z_b1, z_la, z_al, z_lm, z_ml, z_nm, nI_add, pk_mul, ↓reduceIte, not_true_eq_false, not_false_eq_true, true_or, or_true, false_or, or_false, true_and, and_true, and_false, false_and, Classical.not_not, Nat.add_zero, z_01, z_em, z_bit_p, Nat.not_le, Nat.not_lt, reduceCtorEq, if_true, if_false]
theorem z_Rd_6 {I : Ii} {B : Nat → Nat} {n p : Nat} (h : z_Rd I B n p) (v : Int32) : z_Rd (q_w I 1 6 v) B n p := by
  obtain ⟨t1, t2, t3, t4, t5, t6⟩ := h
  exact ⟨z_Ta_fr t1 (z_fr_w (z_fr_r _ _) 1 6 _ rfl), t2, by rw [z_w_k _ _ _ _ _ (by decide)]; exact t3, by rw [z_w_k _ _ _ _ _ (by decide)]; exact t4, by rw [z_w_k _ _ _ _ _ (by decide)]; exact t5, fun a b => by rw [z_w_k _ _ _ _ _ (by decide)]; exact t6 a b⟩
theorem k_takeNumber (X : Sx) (d : Nat) (lo hi : Int32) (dg : Nat) (hdg : dg ≤ 4) (I : Ii) (T : Tt) {B : Nat → Nat} {n p : Nat} (h : z_Rd I B n p) : ∃ J, c_X10_takeNumber_1 X (d + 2) lo hi (nI dg) I T = z_r (z_b (t_isN lo hi dg B n p = true)) J T ∧ z_fr m_ta I J ∧ z_Rd J B n (if t_isN lo hi dg B n p = true then t_nx B n p else p) ∧ J 1 6 = (if t_isN lo hi dg B n p = true then nI (t_num B p (t_nf B n p)) else I 1 6) := by
  have e := k_isNumber X d lo hi dg hdg I T h
  unfold z_b at e ⊢
  by_cases hc : t_isN lo hi dg B n p = true
  · rw [if_pos hc] at e
    have f : z_fr m_ta I (q_w I 1 6 (I 1 5)) := z_fr_w (z_fr_r _ _) 1 6 _ rfl
    obtain ⟨J, j1, j2, j3, j4⟩ := k_stepR X d (q_w I 1 6 (I 1 5)) T (z_Rd_6 h _)
    refine ⟨J, ?_, z_fr_t f j2, by rw [if_pos hc]; exact j3, ?_⟩
    · rw [e_X10_takeNumber_1, e]
      simp (disch := omega) only [e_X10_takeNumber_1_5, k_X10_takeNumber_1_5, e_X10_takeNumber_1_14, k_X10_takeNumber_1_14, j1, hc, q_bd_l, z_ltT, z_ltF, z_eqT, z_eqF, z_ltlT, z_ltlF, z_lltT, z_lltF, z_eqlT, z_eqlF, z_in, z_k7, z_cl, z_lneg, z_llT, z_llF, z_s1, z_nI_cl, z_nlt0, z_ne_m1, z_b0, z_b1, z_la, z_al, z_lm, z_ml, z_nm, nI_add, pk_mul, ↓reduceIte, not_true_eq_false, not_false_eq_true, true_or, or_true, false_or, or_false, true_and, and_true, and_false, false_and, Classical.not_not, Nat.add_zero, z_01, z_em, z_bit_p, Nat.not_le, Nat.not_lt, reduceCtorEq, if_true, if_false]
    · rw [j4, z_w_s, if_pos hc]
      have hc2 := hc
      rw [t_isN_p] at hc2
      have hd : p < n ∧ t_dig (B p) = true := Classical.byContradiction (fun a => by have := t_nf_0 a; omega)
      rw [h.2.2.2.2.2 hd.1 hd.2]
      have hlt := t_num_lt B n p (t_nf B n p) (by have := t_scan_ge t_dig B n p; unfold t_nf; omega)
      have hpw : 10 ^ t_nf B n p ≤ 10 ^ 4 := Nat.pow_le_pow_right (by decide) (by omega)
      congr 1
      omega
  · rw [if_neg hc] at e
    refine ⟨I, ?_, z_fr_r _ _, by rw [if_neg hc]; exact h, by rw [if_neg hc]⟩
    rw [e_X10_takeNumber_1, e]
    simp (disch := omega) only [e_X10_takeNumber_1_5, k_X10_takeNumber_1_5, e_X10_takeNumber_1_14, k_X10_takeNumber_1_14, hc, q_bd_l, z_ltT, z_ltF, z_eqT, z_eqF, z_ltlT, z_ltlF, z_lltT, z_lltF, z_eqlT, z_eqlF, z_in, z_k7, z_cl, z_lneg, z_llT, z_llF, z_s1, z_nI_cl, z_nlt0, z_ne_m1, z_b0, z_b1, z_la, z_al, z_lm, z_ml, z_nm, nI_add, pk_mul, ↓reduceIte, not_true_eq_false, not_false_eq_true, true_or, or_true, false_or, or_false, true_and, and_true, and_false, false_and, Classical.not_not, Nat.add_zero, z_01, z_em, z_bit_p, Nat.not_le, Nat.not_lt, reduceCtorEq, if_true, if_false]
theorem l_end1 (X : Sx) (d : Nat) (I : Ii) (T : Tt) {B : Nat → Nat} {n : Nat} (h : z_Tr I B n) (h4 : n ≤ 400) (k : Nat) (hk : k ≤ n) : c_X12_end_139 X (d + 2) (nI k) I T = z_r 1 (q_w (q_w I 139 0 0) 139 8 (nI k)) T ∧ z_Tr (q_w (q_w I 139 0 0) 139 8 (nI k)) B k := by
  have h1 := h.1
  constructor
  · rw [e_X12_end_139, h1]
    simp (disch := omega) only [e_X12_end_139_8, k_X12_end_139_8, e_X12_isIn, e_X12_isIn_8, q_bd_l, z_ltT, z_ltF, z_eqT, z_eqF, z_ltlT, z_ltlF, z_lltT, z_lltF, z_eqlT, z_eqlF, z_in, z_k7, z_cl, z_lneg, z_llT, z_llF, z_s1, z_nI_cl, z_nlt0, z_ne_m1, z_b0, z_b1, z_la, z_al, z_lm, z_ml, z_nm, nI_add, pk_mul, ↓reduceIte, not_true_eq_false, not_false_eq_true, true_or, or_true, false_or, or_false, true_and, and_true, and_false, false_and, Classical.not_not, Nat.add_zero, z_01, z_em, z_bit_p, Nat.not_le, Nat.not_lt, reduceCtorEq, if_true, if_false]
  · exact ⟨z_w_s _ _ _ _, fun i hi => by rw [z_w_a _ _ _ _ _ (by decide), z_w_a _ _ _ _ _ (by decide)]; exact h.2 i (by omega)⟩
theorem l_end0 (X : Sx) (d : Nat) (I : Ii) (T : Tt) {B : Nat → Nat} {n : Nat} (h : z_Tr I B n) (v : Int32) (hv : v < 0 ∨ nI n < v) : c_X12_end_139 X (d + 2) v I T = z_r 0 (q_w I 139 0 0) T := by
  have h1 := h.1
  rw [e_X12_end_139, h1]
  by_cases c : v < 0
  · simp (disch := omega) only [e_X12_end_139_8, k_X12_end_139_8, e_X12_isIn, e_X12_isIn_8, c, q_bd_l, z_ltT, z_ltF, z_eqT, z_eqF, z_ltlT, z_ltlF, z_lltT, z_lltF, z_eqlT, z_eqlF, z_in, z_k7, z_cl, z_lneg, z_llT, z_llF, z_s1, z_nI_cl, z_nlt0, z_ne_m1, z_b0, z_b1, z_la, z_al, z_lm, z_ml, z_nm, nI_add, pk_mul, ↓reduceIte, not_true_eq_false, not_false_eq_true, true_or, or_true, false_or, or_false, true_and, and_true, and_false, false_and, Classical.not_not, Nat.add_zero, z_01, z_em, z_bit_p, Nat.not_le, Nat.not_lt, reduceCtorEq, if_true, if_false]
  · have c2 : nI n < v := by rcases hv with a | a; exact absurd a c; exact a
    simp (disch := omega) only [e_X12_end_139_8, k_X12_end_139_8, e_X12_isIn, e_X12_isIn_8, c, c2, q_bd_l, z_ltT, z_ltF, z_eqT, z_eqF, z_ltlT, z_ltlF, z_lltT, z_lltF, z_eqlT, z_eqlF, z_in, z_k7, z_cl, z_lneg, z_llT, z_llF, z_s1, z_nI_cl, z_nlt0, z_ne_m1, z_b0, z_b1, z_la, z_al, z_lm, z_ml, z_nm, nI_add, pk_mul, ↓reduceIte, not_true_eq_false, not_false_eq_true, true_or, or_true, false_or, or_false, true_and, and_true, and_false, false_and, Classical.not_not, Nat.add_zero, z_01, z_em, z_bit_p, Nat.not_le, Nat.not_lt, reduceCtorEq, if_true, if_false]
