/-! ===== THE CLASS: taking from the tape ===== -/
theorem k_takeWord (X : Sx) (d : Nat) (u : UInt32) (w : List Int32) (hu : u.toNat < q_sb.length) (hw : q_sb.getD u.toNat [] = w) (hw9 : 0 < w.length ∧ w.length < 100) (hw8 : ∀ i, i < w.length → ∃ c, c < 128 ∧ w.getD i 0 = nI c) (I : Ii) (T : Tt) {B : Nat → Nat} {n p : Nat} (h : z_Rd I B n p) : ∃ J, c_X10_takeWord_1 X (d + 2) u I T = z_r (z_b (t_isW w B n p = true)) J T ∧ z_fr m_ta I J ∧ z_Rd J B n (if t_isW w B n p = true then t_nx B n p else p) ∧ J 1 6 = I 1 6 := by
  have e := k_isWord X d u w hu hw hw9 hw8 I T h
  unfold z_b at e ⊢
  by_cases hc : t_isW w B n p = true
  · rw [if_pos hc] at e
    obtain ⟨J, j1, j2, j3, j4⟩ := k_stepR X d I T h
    refine ⟨J, ?_, j2, by rw [if_pos hc]; exact j3, j4⟩
    rw [e_X10_takeWord_1, e]
    simp (disch := omega) only [e_X10_takeWord_1_3, k_X10_takeWord_1_3, e_X10_takeWord_1_8, k_X10_takeWord_1_8, j1, hc, q_bd_l, z_ltT, z_ltF, z_eqT, z_eqF, z_ltlT, z_ltlF, z_lltT, z_lltF, z_eqlT, z_eqlF, z_in, z_k7, z_cl, z_lneg, z_llT, z_llF, z_s1, z_nI_cl, z_nlt0, z_ne_m1, z_b0, z_b1, z_la, z_al, z_lm, z_ml, z_nm, nI_add, pk_mul, ↓reduceIte, not_true_eq_false, not_false_eq_true, true_or, or_true, false_or, or_false, true_and, and_true, and_false, false_and, Classical.not_not, Nat.add_zero, z_01, z_em, z_bit_p, Nat.not_le, Nat.not_lt, reduceCtorEq, if_true, if_false]
  · rw [if_neg hc] at e
    refine ⟨I, ?_, z_fr_r _ _, by rw [if_neg hc]; exact h, rfl⟩
    rw [e_X10_takeWord_1, e]
    simp (disch := omega) only [e_X10_takeWord_1_3, k_X10_takeWord_1_3, e_X10_takeWord_1_8, k_X10_takeWord_1_8, hc, q_bd_l, z_ltT, z_ltF, z_eqT, z_eqF, z_ltlT, z_ltlF, z_lltT, z_lltF, z_eqlT, z_eqlF, z_in, z_k7, z_cl, z_lneg, z_llT, z_llF, z_s1, z_nI_cl, z_nlt0, z_ne_m1, z_b0, z_b1, z_la, z_al, z_lm, z_ml, z_nm, nI_add, pk_mul, ↓reduceIte, not_true_eq_false, not_false_eq_true, true_or, or_true, false_or, or_false, true_and, and_true, and_false, false_and, Classical.not_not, Nat.add_zero, z_01, z_em, z_bit_p, Nat.not_le, Nat.not_lt, reduceCtorEq, if_true, if_false]
theorem k_takeSign (X : Sx) (d : Nat) (c : Nat) (hc : c < 128) (hcl : t_let c = false) (hcd : t_dig c = false) (I : Ii) (T : Tt) {B : Nat → Nat} {n p : Nat} (h : z_Rd I B n p) : ∃ J, c_X10_takeSign_1 X (d + 3) (nI c) I T = z_r (z_b (t_isS c B n p = true)) J T ∧ z_fr m_ta I J ∧ z_Rd J B n (if t_isS c B n p = true then t_nx B n p else p) ∧ J 1 6 = I 1 6 := by
  have e := k_isSign X d c hc hcl hcd I T h
  unfold z_b at e ⊢
  by_cases hc : t_isS c B n p = true
  · rw [if_pos hc] at e
    obtain ⟨J, j1, j2, j3, j4⟩ := k_stepR X (d + 1) I T h
    refine ⟨J, ?_, j2, by rw [if_pos hc]; exact j3, j4⟩
    rw [e_X10_takeSign_1, e]
    simp (disch := omega) only [e_X10_takeSign_1_3, k_X10_takeSign_1_3, e_X10_takeSign_1_8, k_X10_takeSign_1_8, j1, hc, q_bd_l, z_ltT, z_ltF, z_eqT, z_eqF, z_ltlT, z_ltlF, z_lltT, z_lltF, z_eqlT, z_eqlF, z_in, z_k7, z_cl, z_lneg, z_llT, z_llF, z_s1, z_nI_cl, z_nlt0, z_ne_m1, z_b0, z_b1, z_la, z_al, z_lm, z_ml, z_nm, nI_add, pk_mul, ↓reduceIte, not_true_eq_false, not_false_eq_true, true_or, or_true, false_or, or_false, true_and, and_true, and_false, false_and, Classical.not_not, Nat.add_zero, z_01, z_em, z_bit_p, Nat.not_le, Nat.not_lt, reduceCtorEq, if_true, if_false]
  · rw [if_neg hc] at e
    refine ⟨I, ?_, z_fr_r _ _, by rw [if_neg hc]; exact h, rfl⟩
    rw [e_X10_takeSign_1, e]
    simp (disch := omega) only [e_X10_takeSign_1_3, k_X10_takeSign_1_3, e_X10_takeSign_1_8, k_X10_takeSign_1_8, hc, q_bd_l, z_ltT, z_ltF, z_eqT, z_eqF, z_ltlT, z_ltlF, z_lltT, z_lltF, z_eqlT, z_eqlF, z_in, z_k7, z_cl, z_lneg, z_llT, z_llF, z_s1, z_nI_cl, z_nlt0, z_ne_m1, z_b0, z_b1, z_la, z_al, z_lm, z_ml, z_nm, nI_add, pk_mul, ↓reduceIte, not_true_eq_false, not_false_eq_true, true_or, or_true, false_or, or_false, true_and, and_true, and_false, false_and, Classical.not_not, Nat.add_zero, z_01, z_em, z_bit_p, Nat.not_le, Nat.not_lt, reduceCtorEq, if_true, if_false]
theorem z_Rd_6 {I : Ii} {B : Nat → Nat} {n p : Nat} (h : z_Rd I B n p) (v : Int32) : z_Rd (q_w I 1 6 v) B n p := by
  obtain ⟨t1, t2, t3, t4, t5, t6⟩ := h
  exact ⟨z_Ta_fr t1 (z_fr_w (z_fr_r _ _) 1 6 _ rfl), t2, by rw [z_w_k _ _ _ _ _ (by decide)]; exact t3, by rw [z_w_k _ _ _ _ _ (by decide)]; exact t4, by rw [z_w_k _ _ _ _ _ (by decide)]; exact t5, fun a b => by rw [z_w_k _ _ _ _ _ (by decide)]; exact t6 a b⟩
theorem k_takeNumber (X : Sx) (d : Nat) (lo hi : Int32) (dg : Nat) (hdg : dg ≤ 4) (I : Ii) (T : Tt) {B : Nat → Nat} {n p : Nat} (h : z_Rd I B n p) : ∃ J, c_X10_takeNumber_1 X (d + 2) lo hi (nI dg) I T = z_r (z_b (t_isN lo hi dg B n p = true)) J T ∧ z_fr m_ta I J ∧ z_Rd J B n (if t_isN lo hi dg B n p = true then t_nx B n p else p) ∧ J 1 6 = (if t_isN lo hi dg B n p = true then nI (t_num B p (t_nf B n p)) else I 1 6) := by
  have e := k_isNumber X d lo hi dg hdg I T h
  unfold z_b at e ⊢
  by_cases hc : t_isN lo hi dg B n p = true
  · rw [if_pos hc] at e
    have f : z_fr m_ta I (q_w I 1 6 (I 1 5)) := z_fr_w (z_fr_r _ _) 1 6 _ rfl
    obtain ⟨J, j1, j2, j3, j4⟩ := k_stepR X d (q_w I 1 6 (I 1 5)) T (z_Rd_6 h _)
    refine ⟨J, ?_, z_fr_t f j2, by rw [if_pos hc]; exact j3, ?_⟩
    · rw [e_X10_takeNumber_1, e]
      simp (disch := omega) only [e_X10_takeNumber_1_5, k_X10_takeNumber_1_5, e_X10_takeNumber_1_14, k_X10_takeNumber_1_14, j1, hc, q_bd_l, z_ltT, z_ltF, z_eqT, z_eqF, z_ltlT, z_ltlF, z_lltT, z_lltF, z_eqlT, z_eqlF, z_in, z_k7, z_cl, z_lneg, z_llT, z_llF, z_s1, z_nI_cl, z_nlt0, z_ne_m1, z_b0, z_b1, z_la, z_al, z_lm, z_ml, z_nm, nI_add, pk_mul, ↓reduceIte, not_true_eq_false, not_false_eq_true, true_or, or_true, false_or, or_false, true_and, and_true, and_false, false_and, Classical.not_not, Nat.add_zero, z_01, z_em, z_bit_p, Nat.not_le, Nat.not_lt, reduceCtorEq, if_true, if_false]
    · rw [j4, z_w_s, if_pos hc]
      have hc2 := hc
      rw [t_isN_p] at hc2
      have hd : p < n ∧ t_dig (B p) = true := Classical.byContradiction (fun a => by have := t_nf_0 a; omega)
      rw [h.2.2.2.2.2 hd.1 hd.2]
      have hlt := t_num_lt B n p (t_nf B n p) (by have := t_scan_ge t_dig B n p; unfold t_nf; omega)
      have hpw : 10 ^ t_nf B n p ≤ 10 ^ 4 := Nat.pow_le_pow_right (by decide) (by omega)
      rw [t_vl_e (by omega)]
  · rw [if_neg hc] at e
    refine ⟨I, ?_, z_fr_r _ _, by rw [if_neg hc]; exact h, by rw [if_neg hc]⟩
    rw [e_X10_takeNumber_1, e]
    simp (disch := omega) only [e_X10_takeNumber_1_5, k_X10_takeNumber_1_5, e_X10_takeNumber_1_14, k_X10_takeNumber_1_14, hc, q_bd_l, z_ltT, z_ltF, z_eqT, z_eqF, z_ltlT, z_ltlF, z_lltT, z_lltF, z_eqlT, z_eqlF, z_in, z_k7, z_cl, z_lneg, z_llT, z_llF, z_s1, z_nI_cl, z_nlt0, z_ne_m1, z_b0, z_b1, z_la, z_al, z_lm, z_ml, z_nm, nI_add, pk_mul, ↓reduceIte, not_true_eq_false, not_false_eq_true, true_or, or_true, false_or, or_false, true_and, and_true, and_false, false_and, Classical.not_not, Nat.add_zero, z_01, z_em, z_bit_p, Nat.not_le, Nat.not_lt, reduceCtorEq, if_true, if_false]
theorem l_end1 (X : Sx) (d : Nat) (I : Ii) (T : Tt) {B : Nat → Nat} {n : Nat} (h : z_Tr I B n) (h4 : n ≤ 400) (k : Nat) (hk : k ≤ n) : c_X12_end_139 X (d + 2) (nI k) I T = z_r 1 (q_w (q_w I 139 0 0) 139 8 (nI k)) T ∧ z_Tr (q_w (q_w I 139 0 0) 139 8 (nI k)) B k := by
  have h1 := h.1
  constructor
  · rw [e_X12_end_139, h1]
    simp (disch := omega) only [e_X12_end_139_8, k_X12_end_139_8, e_X12_isIn, e_X12_isIn_8, q_bd_l, z_ltT, z_ltF, z_eqT, z_eqF, z_ltlT, z_ltlF, z_lltT, z_lltF, z_eqlT, z_eqlF, z_in, z_k7, z_cl, z_lneg, z_llT, z_llF, z_s1, z_nI_cl, z_nlt0, z_ne_m1, z_b0, z_b1, z_la, z_al, z_lm, z_ml, z_nm, nI_add, pk_mul, ↓reduceIte, not_true_eq_false, not_false_eq_true, true_or, or_true, false_or, or_false, true_and, and_true, and_false, false_and, Classical.not_not, Nat.add_zero, z_01, z_em, z_bit_p, Nat.not_le, Nat.not_lt, reduceCtorEq, if_true, if_false]
  · exact ⟨z_w_s _ _ _ _, fun i hi => by rw [z_w_a _ _ _ _ _ (by decide), z_w_a _ _ _ _ _ (by decide)]; exact h.2 i (by omega)⟩
theorem l_end0 (X : Sx) (d : Nat) (I : Ii) (T : Tt) {B : Nat → Nat} {n : Nat} (h : z_Tr I B n) (v : Int32) (hv : v < 0 ∨ nI n < v) : c_X12_end_139 X (d + 2) v I T = z_r 0 (q_w I 139 0 0) T := by
  have h1 := h.1
  rw [e_X12_end_139, h1]
  by_cases c : v < 0
  · simp (disch := omega) only [e_X12_end_139_8, k_X12_end_139_8, e_X12_isIn, e_X12_isIn_8, c, q_bd_l, z_ltT, z_ltF, z_eqT, z_eqF, z_ltlT, z_ltlF, z_lltT, z_lltF, z_eqlT, z_eqlF, z_in, z_k7, z_cl, z_lneg, z_llT, z_llF, z_s1, z_nI_cl, z_nlt0, z_ne_m1, z_b0, z_b1, z_la, z_al, z_lm, z_ml, z_nm, nI_add, pk_mul, ↓reduceIte, not_true_eq_false, not_false_eq_true, true_or, or_true, false_or, or_false, true_and, and_true, and_false, false_and, Classical.not_not, Nat.add_zero, z_01, z_em, z_bit_p, Nat.not_le, Nat.not_lt, reduceCtorEq, if_true, if_false]
  · have c2 : nI n < v := by rcases hv with a | a; exact absurd a c; exact a
    simp (disch := omega) only [e_X12_end_139_8, k_X12_end_139_8, e_X12_isIn, e_X12_isIn_8, c, c2, q_bd_l, z_ltT, z_ltF, z_eqT, z_eqF, z_ltlT, z_ltlF, z_lltT, z_lltF, z_eqlT, z_eqlF, z_in, z_k7, z_cl, z_lneg, z_llT, z_llF, z_s1, z_nI_cl, z_nlt0, z_ne_m1, z_b0, z_b1, z_la, z_al, z_lm, z_ml, z_nm, nI_add, pk_mul, ↓reduceIte, not_true_eq_false, not_false_eq_true, true_or, or_true, false_or, or_false, true_and, and_true, and_false, false_and, Classical.not_not, Nat.add_zero, z_01, z_em, z_bit_p, Nat.not_le, Nat.not_lt, reduceCtorEq, if_true, if_false]
-- tastes on the tape
theorem k_ht13 (X : Sx) (d : Nat) (I : Ii) (T : Tt) {B : Nat → Nat} {N M : Nat} (h : z_Ta I B N) (hM : N = 2 * M) : ∀ m i, i + m = M → c_X10_holdsTastes_1_13 X (d + 1) (nI (2 * i)) I T = z_r (z_b (∀ k, k < N → 2 * i ≤ k → B k < if k % 2 = 0 then 6 else 10)) I T
  | 0, i, hm => by
    have h1 := h.1
    have h2 := h.2.1
    rw [e_X10_holdsTastes_1_13]
    have e : (∀ k, k < N → 2 * i ≤ k → B k < if k % 2 = 0 then 6 else 10) = True := eq_true (fun k h1 h2 => by omega)
    unfold z_b
    simp (disch := omega) only [h2, e, q_bd_l, z_ltT, z_ltF, z_eqT, z_eqF, z_ltlT, z_ltlF, z_lltT, z_lltF, z_eqlT, z_eqlF, z_in, z_k7, z_cl, z_lneg, z_llT, z_llF, z_s1, z_nI_cl, z_nlt0, z_ne_m1, z_b0, z_b1, z_la, z_al, z_lm, z_ml, z_nm, nI_add, pk_mul, ↓reduceIte, not_true_eq_false, not_false_eq_true, true_or, or_true, false_or, or_false, true_and, and_true, and_false, false_and, Classical.not_not, Nat.add_zero, z_01, z_em, z_bit_p, Nat.not_le, Nat.not_lt, reduceCtorEq, if_true, if_false]
  | m + 1, i, hm => by
    have h1 := h.1
    have h2 := h.2.1
    have ih := k_ht13 X d I T h hM m (i + 1) (by omega)
    have b1 := k_byteAt X d I T h (2 * i) (by omega)
    have b2 := k_byteAt X d I T h (2 * i + 1) (by omega)
    have l1 := (h.2.2 (2 * i) (by omega)).1
    have l2 := (h.2.2 (2 * i + 1) (by omega)).1
    rw [e_X10_holdsTastes_1_13]
    have no : ∀ k, k < N → 2 * i ≤ k → ¬ (B k < if k % 2 = 0 then 6 else 10) → z_b (∀ k, k < N → 2 * i ≤ k → B k < if k % 2 = 0 then 6 else 10) = 0 := by
      intro k h1 h2 h3
      unfold z_b
      exact if_neg (fun a => h3 (a k h1 h2))
    by_cases c1 : B (2 * i) < 6
    · by_cases c2 : 9 < B (2 * i + 1)
      · rw [no (2 * i + 1) (by omega) (by omega) (by rw [if_neg (by omega)]; omega)]
        simp (disch := omega) only [e_X10_holdsTastes_1_9, e_X10_holdsTastes_1_20, k_X10_holdsTastes_1_20, e_X10_holdsTastes_1_27, k_X10_holdsTastes_1_27, e_X10_holdsTastes_1_29, h2, b1, b2, q_bd_l, z_ltT, z_ltF, z_eqT, z_eqF, z_ltlT, z_ltlF, z_lltT, z_lltF, z_eqlT, z_eqlF, z_in, z_k7, z_cl, z_lneg, z_llT, z_llF, z_s1, z_nI_cl, z_nlt0, z_ne_m1, z_b0, z_b1, z_la, z_al, z_lm, z_ml, z_nm, nI_add, pk_mul, ↓reduceIte, not_true_eq_false, not_false_eq_true, true_or, or_true, false_or, or_false, true_and, and_true, and_false, false_and, Classical.not_not, Nat.add_zero, z_01, z_em, z_bit_p, Nat.not_le, Nat.not_lt, reduceCtorEq, if_true, if_false]
      · have e : z_b (∀ k, k < N → 2 * i ≤ k → B k < if k % 2 = 0 then 6 else 10) = z_b (∀ k, k < N → 2 * (i + 1) ≤ k → B k < if k % 2 = 0 then 6 else 10) := by
          unfold z_b
          by_cases c : ∀ k, k < N → 2 * (i + 1) ≤ k → B k < if k % 2 = 0 then 6 else 10
          · rw [if_pos c, if_pos]
            intro k h1 h2
            by_cases e1 : k = 2 * i
            · subst e1; rw [if_pos (by omega)]; exact c1
            · by_cases e2 : k = 2 * i + 1
              · subst e2; rw [if_neg (by omega)]; omega
              · exact c k h1 (by omega)
          · rw [if_neg c, if_neg]
            exact fun a => c (fun k h1 h2 => a k h1 (by omega))
        rw [e, ← ih, show 2 * (i + 1) = 2 * i + 2 from rfl]
        simp (disch := omega) only [e_X10_holdsTastes_1_9, e_X10_holdsTastes_1_20, k_X10_holdsTastes_1_20, e_X10_holdsTastes_1_27, k_X10_holdsTastes_1_27, e_X10_holdsTastes_1_29, h2, b1, b2, q_bd_l, z_ltT, z_ltF, z_eqT, z_eqF, z_ltlT, z_ltlF, z_lltT, z_lltF, z_eqlT, z_eqlF, z_in, z_k7, z_cl, z_lneg, z_llT, z_llF, z_s1, z_nI_cl, z_nlt0, z_ne_m1, z_b0, z_b1, z_la, z_al, z_lm, z_ml, z_nm, nI_add, pk_mul, ↓reduceIte, not_true_eq_false, not_false_eq_true, true_or, or_true, false_or, or_false, true_and, and_true, and_false, false_and, Classical.not_not, Nat.add_zero, z_01, z_em, z_bit_p, Nat.not_le, Nat.not_lt, reduceCtorEq, if_true, if_false]
    · rw [no (2 * i) (by omega) (by omega) (by rw [if_pos (by omega)]; exact c1)]
      simp (disch := omega) only [e_X10_holdsTastes_1_9, e_X10_holdsTastes_1_20, k_X10_holdsTastes_1_20, e_X10_holdsTastes_1_27, k_X10_holdsTastes_1_27, e_X10_holdsTastes_1_29, h2, b1, b2, q_bd_l, z_ltT, z_ltF, z_eqT, z_eqF, z_ltlT, z_ltlF, z_lltT, z_lltF, z_eqlT, z_eqlF, z_in, z_k7, z_cl, z_lneg, z_llT, z_llF, z_s1, z_nI_cl, z_nlt0, z_ne_m1, z_b0, z_b1, z_la, z_al, z_lm, z_ml, z_nm, nI_add, pk_mul, ↓reduceIte, not_true_eq_false, not_false_eq_true, true_or, or_true, false_or, or_false, true_and, and_true, and_false, false_and, Classical.not_not, Nat.add_zero, z_01, z_em, z_bit_p, Nat.not_le, Nat.not_lt, reduceCtorEq, if_true, if_false]
theorem z_all_i (p : Nat → Bool) (n : Nat) : z_all p n = true ↔ ∀ k, k < n → p k = true := by
  induction n with
  | zero => exact ⟨fun _ k hk => by omega, fun _ => rfl⟩
  | succ n ih =>
    have e : z_all p (n + 1) = (z_all p n && p n) := rfl
    rw [e, Bool.and_eq_true, ih]
    constructor
    · intro a k hk
      by_cases e : k = n
      · subst e; exact a.2
      · exact a.1 k (by omega)
    · exact fun a => ⟨fun k hk => a k (by omega), a n (by omega)⟩
theorem k_holdsTastes (X : Sx) (d : Nat) (I : Ii) (T : Tt) {B : Nat → Nat} {N : Nat} (h : z_Ta I B N) : c_X10_holdsTastes_1 X (d + 2) I T = z_r (z_b (R_good B N = true)) I T := by
  have h1 := h.1
  have h2 := h.2.1
  have m2 := z_m2 N (by omega)
  rw [e_X10_holdsTastes_1, h2, m2]
  by_cases c1 : N % 2 = 0
  · by_cases c2 : N ≤ 40
    · have g := k_ht13 X d I T h (M := N / 2) (by omega) (N / 2) 0 (by omega)
      have e : z_b (R_good B N = true) = z_b (∀ k, k < N → 2 * 0 ≤ k → B k < if k % 2 = 0 then 6 else 10) := by
        have e2 : R_good B N = true ↔ ∀ k, k < N → 2 * 0 ≤ k → B k < if k % 2 = 0 then 6 else 10 := by
          unfold R_good
          rw [decide_eq_true c1, decide_eq_true c2, Bool.true_and, Bool.true_and, z_all_i]
          constructor
          · exact fun a k hk _ => of_decide_eq_true (a k hk)
          · exact fun a k hk => decide_eq_true (a k hk (Nat.zero_le _))
        unfold z_b
        by_cases c : R_good B N = true
        · rw [if_pos c, if_pos (e2.mp c)]
        · rw [if_neg c, if_neg (fun a => c (e2.mpr a))]
      rw [e, ← g]
      simp (disch := omega) only [c1, Nat.mul_zero, q_bd_l, z_ltT, z_ltF, z_eqT, z_eqF, z_ltlT, z_ltlF, z_lltT, z_lltF, z_eqlT, z_eqlF, z_in, z_k7, z_cl, z_lneg, z_llT, z_llF, z_s1, z_nI_cl, z_nlt0, z_ne_m1, z_b0, z_b1, z_la, z_al, z_lm, z_ml, z_nm, nI_add, pk_mul, ↓reduceIte, not_true_eq_false, not_false_eq_true, true_or, or_true, false_or, or_false, true_and, and_true, and_false, false_and, Classical.not_not, Nat.add_zero, z_01, z_em, z_bit_p, Nat.not_le, Nat.not_lt, reduceCtorEq, if_true, if_false]
      rfl
    · have e : ¬ R_good B N = true := by unfold R_good; simp [c2]
      unfold z_b
      simp (disch := omega) only [e_X10_holdsTastes_1_9, e_X10_holdsTastes_1_20, k_X10_holdsTastes_1_20, e_X10_holdsTastes_1_27, k_X10_holdsTastes_1_27, e_X10_holdsTastes_1_29, c1, e, q_bd_l, z_ltT, z_ltF, z_eqT, z_eqF, z_ltlT, z_ltlF, z_lltT, z_lltF, z_eqlT, z_eqlF, z_in, z_k7, z_cl, z_lneg, z_llT, z_llF, z_s1, z_nI_cl, z_nlt0, z_ne_m1, z_b0, z_b1, z_la, z_al, z_lm, z_ml, z_nm, nI_add, pk_mul, ↓reduceIte, not_true_eq_false, not_false_eq_true, true_or, or_true, false_or, or_false, true_and, and_true, and_false, false_and, Classical.not_not, Nat.add_zero, z_01, z_em, z_bit_p, Nat.not_le, Nat.not_lt, reduceCtorEq, if_true, if_false]
  · have e : ¬ R_good B N = true := by unfold R_good; simp [c1]
    unfold z_b
    simp (disch := omega) only [e_X10_holdsTastes_1_9, e_X10_holdsTastes_1_20, k_X10_holdsTastes_1_20, e_X10_holdsTastes_1_27, k_X10_holdsTastes_1_27, e_X10_holdsTastes_1_29, e, q_bd_l, z_ltT, z_ltF, z_eqT, z_eqF, z_ltlT, z_ltlF, z_lltT, z_lltF, z_eqlT, z_eqlF, z_in, z_k7, z_cl, z_lneg, z_llT, z_llF, z_s1, z_nI_cl, z_nlt0, z_ne_m1, z_b0, z_b1, z_la, z_al, z_lm, z_ml, z_nm, nI_add, pk_mul, ↓reduceIte, not_true_eq_false, not_false_eq_true, true_or, or_true, false_or, or_false, true_and, and_true, and_false, false_and, Classical.not_not, Nat.add_zero, z_01, z_em, z_bit_p, Nat.not_le, Nat.not_lt, reduceCtorEq, if_true, if_false]
theorem k_others (X : Sx) (d : Nat) (I : Ii) (T : Tt) (r : Nat → Int32) (n m j : Nat) {B : Nat → Nat} {N : Nat} (hA : k_A I r n m) (hj : j < n) (h : z_Ta I B N) (hg : R_good B N = true) : c_X1_othersOnTape_128_1 X (d + 2) (nI j) I T = z_r (R_nt r B N j) I T := by
  have h1 := h.1
  have h2 := h.2.1
  have hn := hA.1.1.2.1
  have hg2 := hg
  unfold R_good at hg2
  simp only [Bool.and_eq_true, decide_eq_true_eq] at hg2
  obtain ⟨⟨g1, g2⟩, g3⟩ := hg2
  rw [z_all_i] at g3
  rw [e_X1_othersOnTape_128_1]
  obtain ⟨o, -, p⟩ := z_foldP (β := Int32) (σ := Option Value) (fun i a o => c_X1_othersOnTape_128_1_4 X (d + 1) (nI j) a (nI (2 * i)) o I T) (fun i a => a + (if R_adv r j (B (2 * i)) = nI (B (2 * i + 1)) then 0 else 1)) (fun _ _ _ => True) (N / 2) (by
    intro i a o hi _
    refine ⟨some (.int (nI (B (2 * i)))), trivial, ?_⟩
    have b1 := k_byteAt X d I T h (2 * i) (by omega)
    have b2 := k_byteAt X d I T h (2 * i + 1) (by omega)
    have c1 : B (2 * i) < 6 := by
      have := of_decide_eq_true (g3 (2 * i) (by omega))
      rw [if_pos (by omega)] at this
      exact this
    have kh := k_heard X d I T r n m j (B (2 * i)) hA hj c1
    rw [e_X1_othersOnTape_128_1_4, show 2 * (i + 1) = 2 * i + 2 from rfl]
    by_cases c : R_adv r j (B (2 * i)) = nI (B (2 * i + 1)) <;> simp (disch := omega) only [e_X1_othersOnTape_128_1_11, k_X1_othersOnTape_128_1_11, e_X1_othersOnTape_128_1_21, k_X1_othersOnTape_128_1_21, e_X1_othersOnTape_128_1_26, k_X1_othersOnTape_128_1_26, e_X1_othersOnTape_128_1_28, h2, b1, b2, kh, c, Int32.add_zero, q_bd_l, z_ltT, z_ltF, z_eqT, z_eqF, z_ltlT, z_ltlF, z_lltT, z_lltF, z_eqlT, z_eqlF, z_in, z_k7, z_cl, z_lneg, z_llT, z_llF, z_s1, z_nI_cl, z_nlt0, z_ne_m1, z_b0, z_b1, z_la, z_al, z_lm, z_ml, z_nm, nI_add, pk_mul, ↓reduceIte, not_true_eq_false, not_false_eq_true, true_or, or_true, false_or, or_false, true_and, and_true, and_false, false_and, Classical.not_not, Nat.add_zero, z_01, z_em, z_bit_p, Nat.not_le, Nat.not_lt, reduceCtorEq, if_true, if_false]) 0 none trivial
  refine p.trans ?_
  have e : 2 * (N / 2) = N := by omega
  rw [e, e_X1_othersOnTape_128_1_4]
  simp (disch := omega) only [h2, q_bd_l, z_ltT, z_ltF, z_eqT, z_eqF, z_ltlT, z_ltlF, z_lltT, z_lltF, z_eqlT, z_eqlF, z_in, z_k7, z_cl, z_lneg, z_llT, z_llF, z_s1, z_nI_cl, z_nlt0, z_ne_m1, z_b0, z_b1, z_la, z_al, z_lm, z_ml, z_nm, nI_add, pk_mul, ↓reduceIte, not_true_eq_false, not_false_eq_true, true_or, or_true, false_or, or_false, true_and, and_true, and_false, false_and, Classical.not_not, Nat.add_zero, z_01, z_em, z_bit_p, Nat.not_le, Nat.not_lt, reduceCtorEq, if_true, if_false]
  rfl
theorem k_thatTaste (X : Sx) (d : Nat) (I : Ii) (T : Tt) (r : Nat → Int32) (n m : Nat) (most : Int32) {B : Nat → Nat} {N : Nat} (hH : k_H27 I r n m) (h : z_Ta I B N) (hg : R_good B N = true) : ∃ J, c_X1_thatTasteSo_128_1 X (d + 8) most I T = z_r (R_ts r B N n most) J T ∧ z_fr m_cs I J := by
  have hn := hH.1.2.1
  obtain ⟨J, a1, a2, a3⟩ := k_hearAll X d I T r n m hH
  have hJ : z_Ta J B N := ⟨h.1, (a2 1 1 rfl).trans h.2.1, fun k hk => ⟨(h.2.2 k hk).1, (a2 2 k rfl).trans (h.2.2 k hk).2⟩⟩
  have n3 := k_n3 a3.1
  refine ⟨J, ?_, a2⟩
  unfold R_ts
  rw [if_pos hg, e_X1_thatTasteSo_128_1, a1]
  simp (disch := omega) only [e_X1_thatTasteSo_128_1_2, k_X1_thatTasteSo_128_1_2, q_bd_l, z_ltT, z_ltF, z_eqT, z_eqF, z_ltlT, z_ltlF, z_lltT, z_lltF, z_eqlT, z_eqlF, z_in, z_k7, z_cl, z_lneg, z_llT, z_llF, z_s1, z_nI_cl, z_nlt0, z_ne_m1, z_b0, z_b1, z_la, z_al, z_lm, z_ml, z_nm, nI_add, pk_mul, ↓reduceIte, not_true_eq_false, not_false_eq_true, true_or, or_true, false_or, or_false, true_and, and_true, and_false, false_and, Classical.not_not, Nat.add_zero, z_01, z_em, z_bit_p, Nat.not_le, Nat.not_lt, reduceCtorEq, if_true, if_false]
  refine (z_for (fun k a => c_X1_thatTasteSo_128_1_6 X (d + 7) most a (nI k) J T) (fun j a => a ||| (if decide (¬ most < R_nt r B N j) = true then (1 : Int32) <<< (nI j &&& 31) else 0)) n (fun k a hk => ?_) 0).trans ?_
  · rw [e_X1_thatTasteSo_128_1_6]
    have ko := k_others X (d + 5) J T r n m k a3 hk hJ hg
    by_cases c : most < R_nt r B N k <;> simp (disch := omega) only [e_X1_thatTasteSo_128_1_2, k_X1_thatTasteSo_128_1_2, e_X1_thatTasteSo_128_1_16, k_X1_thatTasteSo_128_1_16, e_X1_thatTasteSo_128_1_23, n3, ko, c, q_bd_l, z_ltT, z_ltF, z_eqT, z_eqF, z_ltlT, z_ltlF, z_lltT, z_lltF, z_eqlT, z_eqlF, z_in, z_k7, z_cl, z_lneg, z_llT, z_llF, z_s1, z_nI_cl, z_nlt0, z_ne_m1, z_b0, z_b1, z_la, z_al, z_lm, z_ml, z_nm, nI_add, pk_mul, ↓reduceIte, not_true_eq_false, not_false_eq_true, true_or, or_true, false_or, or_false, true_and, and_true, and_false, false_and, Classical.not_not, Nat.add_zero, z_01, z_em, z_bit_p, Nat.not_le, Nat.not_lt, reduceCtorEq, if_true, if_false, decide_true, decide_false, Bool.and_true, Bool.and_false, Bool.true_and, Bool.false_and, Bool.or_true, Bool.or_false, Bool.true_or, Bool.false_or, Bool.false_eq_true, ne_eq, Bool.not_true, Bool.not_false, decide_not]
  · rw [e_X1_thatTasteSo_128_1_6]
    simp (disch := omega) only [n3, q_bd_l, z_ltT, z_ltF, z_eqT, z_eqF, z_ltlT, z_ltlF, z_lltT, z_lltF, z_eqlT, z_eqlF, z_in, z_k7, z_cl, z_lneg, z_llT, z_llF, z_s1, z_nI_cl, z_nlt0, z_ne_m1, z_b0, z_b1, z_la, z_al, z_lm, z_ml, z_nm, nI_add, pk_mul, ↓reduceIte, not_true_eq_false, not_false_eq_true, true_or, or_true, false_or, or_false, true_and, and_true, and_false, false_and, Classical.not_not, Nat.add_zero, z_01, z_em, z_bit_p, Nat.not_le, Nat.not_lt, reduceCtorEq, if_true, if_false]
    rfl
