/-! ===== THE CLASS READS THE LAW: steps, sums ===== -/
/-- the steps that the draft has so far -/
def k_St (I : Ii) (S : List Int32) : Prop := I 48 5 = nI S.length ∧ ∀ t, t < S.length → I 52 t = S.getD t 0
def m_lr (a k : Nat) : Bool := m_ta a k || a == 52 || (a == 48 && k == 5)
theorem z_lr_ta {I J : Ii} (h : z_fr m_ta I J) : z_fr m_lr I J := z_fr_m h (fun a k h => by simp [m_lr, h])
theorem k_St_ta {I J : Ii} {S : List Int32} (h : k_St I S) (hf : z_fr m_ta I J) : k_St J S := ⟨by rw [hf 48 5 rfl]; exact h.1, fun t ht => by rw [hf 52 t rfl]; exact h.2 t ht⟩
theorem k_add (X : Sx) (d : Nat) (I : Ii) (T : Tt) {S : List Int32} (s : Int32) {B : Nat → Nat} {n p : Nat} (h : k_St I S) (hl : S.length < 400) (hR : z_Rd I B n p) : ∃ J, c_X4_addStep_48 X (d + 1) s I T = z_v J T ∧ z_fr m_lr I J ∧ z_Rd J B n p ∧ k_St J (S ++ [s]) := by
  refine ⟨q_w (q_w I 52 S.length s) 48 5 (nI (S.length + 1)), ?_, z_fr_w (z_fr_w (z_fr_r _ _) 52 _ _ rfl) 48 5 _ rfl, z_Rd_w (z_Rd_w hR 52 _ _ (by omega)) 48 _ _ (by omega), ?_, fun t ht => ?_⟩
  · have h5 := h.1
    rw [e_X4_addStep_48]
    simp (disch := omega) only [h5, q_bd_l, z_ltT, z_ltF, z_eqT, z_eqF, z_ltlT, z_ltlF, z_lltT, z_lltF, z_eqlT, z_eqlF, z_in, z_k7, z_cl, z_lneg, z_llT, z_llF, z_s1, z_nI_cl, z_nlt0, z_ne_m1, z_b0, z_b1, z_la, z_al, z_lm, z_ml, z_nm, nI_add, pk_mul, ↓reduceIte, not_true_eq_false, not_false_eq_true, true_or, or_true, false_or, or_false, true_and, and_true, and_false, false_and, Classical.not_not, Nat.add_zero, z_01, z_em, z_bit_p, Nat.not_le, Nat.not_lt, reduceCtorEq, if_true, if_false]
  · rw [z_w_s, List.length_append]; rfl
  · rw [z_w_a _ _ _ _ _ (by decide), z_w]
    rw [List.length_append] at ht
    have ht : t < S.length + 1 := ht
    by_cases e : t = S.length
    · subst e
      rw [if_pos ⟨rfl, rfl⟩]
      simp
    · rw [if_neg (fun c => e c.2), h.2 t (by omega)]
      rw [List.getD_eq_getElem?_getD, List.getD_eq_getElem?_getD, List.getElem?_append_left (by omega)]
/-- what comes of a reading -/
def k_P (I : Ii) (T : Tt) (B : Nat → Nat) (n : Nat) (S : List Int32) (r : Pr) (x : Rs) : Prop := (∀ v, r = some (.ok v) → ∃ J, x = z_r 1 J T ∧ z_Rd J B n v.1 ∧ k_St J (S ++ v.2.1) ∧ z_fr m_lr I J) ∧ (∀ e, r = some (.error e) → ∃ J, x = z_r 0 J T ∧ z_Rd J B n e ∧ z_fr m_lr I J)
theorem k_partThere (X : Sx) (d : Nat) (I : Ii) (T : Tt) {B : Nat → Nat} {n p : Nat} (h : z_Rd I B n p) : c_X5_partThere_127 X (d + 2) I T = z_r (if p_pw B n p = 7 then -1 else nI (p_pw B n p)) I T := by
  have W := fun u i hu he hw => (k_w X d u i hu he hw I T h).1
  have w0 : c_X10_isWord_1 X (d + 1) (36 : UInt32) I T = _ := W 36 53 (by decide) (by decide +kernel) (by decide +kernel)
  have w1 : c_X10_isWord_1 X (d + 1) (37 : UInt32) I T = _ := W 37 59 (by decide) (by decide +kernel) (by decide +kernel)
  have w2 : c_X10_isWord_1 X (d + 1) (38 : UInt32) I T = _ := W 38 60 (by decide) (by decide +kernel) (by decide +kernel)
  have w3 : c_X10_isWord_1 X (d + 1) (30 : UInt32) I T = _ := W 30 51 (by decide) (by decide +kernel) (by decide +kernel)
  have w4 : c_X10_isWord_1 X (d + 1) (39 : UInt32) I T = _ := W 39 50 (by decide) (by decide +kernel) (by decide +kernel)
  have w5 : c_X10_isWord_1 X (d + 1) (40 : UInt32) I T = _ := W 40 61 (by decide) (by decide +kernel) (by decide +kernel)
  have w6 : c_X10_isWord_1 X (d + 1) (41 : UInt32) I T = _ := W 41 62 (by decide) (by decide +kernel) (by decide +kernel)
  rw [e_X5_partThere_127]
  unfold p_pw
  by_cases c0 : t_isW (t_w 53) B n p = true
  · simp (disch := omega) only [e_X5_partThere_127_4, k_X5_partThere_127_4, e_X5_partThere_127_11, k_X5_partThere_127_11, e_X5_partThere_127_18, k_X5_partThere_127_18, e_X5_partThere_127_25, k_X5_partThere_127_25, e_X5_partThere_127_32, k_X5_partThere_127_32, e_X5_partThere_127_39, k_X5_partThere_127_39, e_X5_partThere_127_46, k_X5_partThere_127_46, w0, c0, q_bd_l, z_ltT, z_ltF, z_eqT, z_eqF, z_ltlT, z_ltlF, z_lltT, z_lltF, z_eqlT, z_eqlF, z_in, z_k7, z_cl, z_lneg, z_llT, z_llF, z_s1, z_nI_cl, z_nlt0, z_ne_m1, z_b0, z_b1, z_la, z_al, z_lm, z_ml, z_nm, nI_add, pk_mul, ↓reduceIte, not_true_eq_false, not_false_eq_true, true_or, or_true, false_or, or_false, true_and, and_true, and_false, false_and, Classical.not_not, Nat.add_zero, z_01, z_em, z_bit_p, Nat.not_le, Nat.not_lt, reduceCtorEq, if_true, if_false]
    rfl
  by_cases c1 : t_isW (t_w 59) B n p = true
  · simp (disch := omega) only [e_X5_partThere_127_4, k_X5_partThere_127_4, e_X5_partThere_127_11, k_X5_partThere_127_11, e_X5_partThere_127_18, k_X5_partThere_127_18, e_X5_partThere_127_25, k_X5_partThere_127_25, e_X5_partThere_127_32, k_X5_partThere_127_32, e_X5_partThere_127_39, k_X5_partThere_127_39, e_X5_partThere_127_46, k_X5_partThere_127_46, w0, c0, w1, c1, q_bd_l, z_ltT, z_ltF, z_eqT, z_eqF, z_ltlT, z_ltlF, z_lltT, z_lltF, z_eqlT, z_eqlF, z_in, z_k7, z_cl, z_lneg, z_llT, z_llF, z_s1, z_nI_cl, z_nlt0, z_ne_m1, z_b0, z_b1, z_la, z_al, z_lm, z_ml, z_nm, nI_add, pk_mul, ↓reduceIte, not_true_eq_false, not_false_eq_true, true_or, or_true, false_or, or_false, true_and, and_true, and_false, false_and, Classical.not_not, Nat.add_zero, z_01, z_em, z_bit_p, Nat.not_le, Nat.not_lt, reduceCtorEq, if_true, if_false]
    rfl
  by_cases c2 : t_isW (t_w 60) B n p = true
  · simp (disch := omega) only [e_X5_partThere_127_4, k_X5_partThere_127_4, e_X5_partThere_127_11, k_X5_partThere_127_11, e_X5_partThere_127_18, k_X5_partThere_127_18, e_X5_partThere_127_25, k_X5_partThere_127_25, e_X5_partThere_127_32, k_X5_partThere_127_32, e_X5_partThere_127_39, k_X5_partThere_127_39, e_X5_partThere_127_46, k_X5_partThere_127_46, w0, c0, w1, c1, w2, c2, q_bd_l, z_ltT, z_ltF, z_eqT, z_eqF, z_ltlT, z_ltlF, z_lltT, z_lltF, z_eqlT, z_eqlF, z_in, z_k7, z_cl, z_lneg, z_llT, z_llF, z_s1, z_nI_cl, z_nlt0, z_ne_m1, z_b0, z_b1, z_la, z_al, z_lm, z_ml, z_nm, nI_add, pk_mul, ↓reduceIte, not_true_eq_false, not_false_eq_true, true_or, or_true, false_or, or_false, true_and, and_true, and_false, false_and, Classical.not_not, Nat.add_zero, z_01, z_em, z_bit_p, Nat.not_le, Nat.not_lt, reduceCtorEq, if_true, if_false]
    rfl
  by_cases c3 : t_isW (t_w 51) B n p = true
  · simp (disch := omega) only [e_X5_partThere_127_4, k_X5_partThere_127_4, e_X5_partThere_127_11, k_X5_partThere_127_11, e_X5_partThere_127_18, k_X5_partThere_127_18, e_X5_partThere_127_25, k_X5_partThere_127_25, e_X5_partThere_127_32, k_X5_partThere_127_32, e_X5_partThere_127_39, k_X5_partThere_127_39, e_X5_partThere_127_46, k_X5_partThere_127_46, w0, c0, w1, c1, w2, c2, w3, c3, q_bd_l, z_ltT, z_ltF, z_eqT, z_eqF, z_ltlT, z_ltlF, z_lltT, z_lltF, z_eqlT, z_eqlF, z_in, z_k7, z_cl, z_lneg, z_llT, z_llF, z_s1, z_nI_cl, z_nlt0, z_ne_m1, z_b0, z_b1, z_la, z_al, z_lm, z_ml, z_nm, nI_add, pk_mul, ↓reduceIte, not_true_eq_false, not_false_eq_true, true_or, or_true, false_or, or_false, true_and, and_true, and_false, false_and, Classical.not_not, Nat.add_zero, z_01, z_em, z_bit_p, Nat.not_le, Nat.not_lt, reduceCtorEq, if_true, if_false]
    rfl
  by_cases c4 : t_isW (t_w 50) B n p = true
  · simp (disch := omega) only [e_X5_partThere_127_4, k_X5_partThere_127_4, e_X5_partThere_127_11, k_X5_partThere_127_11, e_X5_partThere_127_18, k_X5_partThere_127_18, e_X5_partThere_127_25, k_X5_partThere_127_25, e_X5_partThere_127_32, k_X5_partThere_127_32, e_X5_partThere_127_39, k_X5_partThere_127_39, e_X5_partThere_127_46, k_X5_partThere_127_46, w0, c0, w1, c1, w2, c2, w3, c3, w4, c4, q_bd_l, z_ltT, z_ltF, z_eqT, z_eqF, z_ltlT, z_ltlF, z_lltT, z_lltF, z_eqlT, z_eqlF, z_in, z_k7, z_cl, z_lneg, z_llT, z_llF, z_s1, z_nI_cl, z_nlt0, z_ne_m1, z_b0, z_b1, z_la, z_al, z_lm, z_ml, z_nm, nI_add, pk_mul, ↓reduceIte, not_true_eq_false, not_false_eq_true, true_or, or_true, false_or, or_false, true_and, and_true, and_false, false_and, Classical.not_not, Nat.add_zero, z_01, z_em, z_bit_p, Nat.not_le, Nat.not_lt, reduceCtorEq, if_true, if_false]
    rfl
  by_cases c5 : t_isW (t_w 61) B n p = true
  · simp (disch := omega) only [e_X5_partThere_127_4, k_X5_partThere_127_4, e_X5_partThere_127_11, k_X5_partThere_127_11, e_X5_partThere_127_18, k_X5_partThere_127_18, e_X5_partThere_127_25, k_X5_partThere_127_25, e_X5_partThere_127_32, k_X5_partThere_127_32, e_X5_partThere_127_39, k_X5_partThere_127_39, e_X5_partThere_127_46, k_X5_partThere_127_46, w0, c0, w1, c1, w2, c2, w3, c3, w4, c4, w5, c5, q_bd_l, z_ltT, z_ltF, z_eqT, z_eqF, z_ltlT, z_ltlF, z_lltT, z_lltF, z_eqlT, z_eqlF, z_in, z_k7, z_cl, z_lneg, z_llT, z_llF, z_s1, z_nI_cl, z_nlt0, z_ne_m1, z_b0, z_b1, z_la, z_al, z_lm, z_ml, z_nm, nI_add, pk_mul, ↓reduceIte, not_true_eq_false, not_false_eq_true, true_or, or_true, false_or, or_false, true_and, and_true, and_false, false_and, Classical.not_not, Nat.add_zero, z_01, z_em, z_bit_p, Nat.not_le, Nat.not_lt, reduceCtorEq, if_true, if_false]
    rfl
  by_cases c6 : t_isW (t_w 62) B n p = true
  · simp (disch := omega) only [e_X5_partThere_127_4, k_X5_partThere_127_4, e_X5_partThere_127_11, k_X5_partThere_127_11, e_X5_partThere_127_18, k_X5_partThere_127_18, e_X5_partThere_127_25, k_X5_partThere_127_25, e_X5_partThere_127_32, k_X5_partThere_127_32, e_X5_partThere_127_39, k_X5_partThere_127_39, e_X5_partThere_127_46, k_X5_partThere_127_46, w0, c0, w1, c1, w2, c2, w3, c3, w4, c4, w5, c5, w6, c6, q_bd_l, z_ltT, z_ltF, z_eqT, z_eqF, z_ltlT, z_ltlF, z_lltT, z_lltF, z_eqlT, z_eqlF, z_in, z_k7, z_cl, z_lneg, z_llT, z_llF, z_s1, z_nI_cl, z_nlt0, z_ne_m1, z_b0, z_b1, z_la, z_al, z_lm, z_ml, z_nm, nI_add, pk_mul, ↓reduceIte, not_true_eq_false, not_false_eq_true, true_or, or_true, false_or, or_false, true_and, and_true, and_false, false_and, Classical.not_not, Nat.add_zero, z_01, z_em, z_bit_p, Nat.not_le, Nat.not_lt, reduceCtorEq, if_true, if_false]
    rfl
  simp (disch := omega) only [e_X5_partThere_127_4, k_X5_partThere_127_4, e_X5_partThere_127_11, k_X5_partThere_127_11, e_X5_partThere_127_18, k_X5_partThere_127_18, e_X5_partThere_127_25, k_X5_partThere_127_25, e_X5_partThere_127_32, k_X5_partThere_127_32, e_X5_partThere_127_39, k_X5_partThere_127_39, e_X5_partThere_127_46, k_X5_partThere_127_46, w0, c0, w1, c1, w2, c2, w3, c3, w4, c4, w5, c5, w6, c6, q_bd_l, z_ltT, z_ltF, z_eqT, z_eqF, z_ltlT, z_ltlF, z_lltT, z_lltF, z_eqlT, z_eqlF, z_in, z_k7, z_cl, z_lneg, z_llT, z_llF, z_s1, z_nI_cl, z_nlt0, z_ne_m1, z_b0, z_b1, z_la, z_al, z_lm, z_ml, z_nm, nI_add, pk_mul, ↓reduceIte, not_true_eq_false, not_false_eq_true, true_or, or_true, false_or, or_false, true_and, and_true, and_false, false_and, Classical.not_not, Nat.add_zero, z_01, z_em, z_bit_p, Nat.not_le, Nat.not_lt, reduceCtorEq, if_true, if_false]
theorem p_pw_dig {B : Nat → Nat} {n p : Nat} (h : t_dig (B p) = true) : p_pw B n p = 7 := by
  have key : ∀ i, 0 < (t_w i).length → ¬ t_isW (t_w i) B n p = true := by
    intro i hi c
    rw [t_isW_p] at c
    have : t_scan t_let B n p = p := t_scan_n (fun a => by
      have := a.2
      rw [t_let_p] at this
      rw [t_dig_p] at h
      omega)
    omega
  unfold p_pw
  rw [if_neg (key 53 (by decide +kernel)), if_neg (key 59 (by decide +kernel)), if_neg (key 60 (by decide +kernel)), if_neg (key 51 (by decide +kernel)), if_neg (key 50 (by decide +kernel)), if_neg (key 61 (by decide +kernel)), if_neg (key 62 (by decide +kernel))]
/-- a PART -/
theorem k_part (X : Sx) (d : Nat) (I : Ii) (T : Tt) (i : Nat) (o2 : Option Value) {S : List Int32} {B : Nat → Nat} {n p : Nat} (h : z_Rd I B n p) (hS : k_St I S) (hl : S.length < 400) : (∀ v, P_part B n p = some (.ok v) → ∃ J o, c_X5_readSum_127_12 X (d + 3) (nI i) o2 I T = c_X5_readSum_127_2 X (d + 3) (nI (i + 1)) o J T ∧ z_Rd J B n v.1 ∧ k_St J (S ++ v.2.1) ∧ z_fr m_lr I J) ∧ (∀ e, P_part B n p = some (.error e) → ∃ J, c_X5_readSum_127_12 X (d + 3) (nI i) o2 I T = z_r 0 J T ∧ z_Rd J B n e ∧ z_fr m_lr I J) := by
  obtain ⟨A, a1, a2, a3, a4⟩ := k_takeNumber X (d + 1) 0 999 3 (by omega) I T h
  have a1' : c_X10_takeNumber_1 X (d + 3) 0 999 3 I T = _ := a1
  have hSA := k_St_ta hS a2
  unfold P_part
  rw [e_X5_readSum_127_12]
  by_cases c1 : t_isN 0 999 3 B n p = true
  · have hd := t_isN_lt c1
    rw [if_pos ⟨hd.1, hd.2.1⟩, if_pos c1]
    rw [z_b, if_pos c1] at a1'
    rw [if_pos c1] at a3 a4
    refine ⟨fun v hv => ?_, fun e he => (by cases he)⟩
    cases hv
    obtain ⟨J, j1, j2, j3, j4⟩ := k_add X (d + 2) A T (A 1 6) hSA hl a3
    rw [a4] at j1 j4
    refine ⟨J, o2, ?_, j3, j4, z_fr_t (z_lr_ta a2) j2⟩
    simp (disch := omega) only [e_X5_readSum_127_18, k_X5_readSum_127_18, e_X5_readSum_127_25, k_X5_readSum_127_25, e_X5_readSum_127_43, k_X5_readSum_127_43, a1', a4, j1, q_bd_l, z_ltT, z_ltF, z_eqT, z_eqF, z_ltlT, z_ltlF, z_lltT, z_lltF, z_eqlT, z_eqlF, z_in, z_k7, z_cl, z_lneg, z_llT, z_llF, z_s1, z_nI_cl, z_nlt0, z_ne_m1, z_b0, z_b1, z_la, z_al, z_lm, z_ml, z_nm, nI_add, pk_mul, ↓reduceIte, not_true_eq_false, not_false_eq_true, true_or, or_true, false_or, or_false, true_and, and_true, and_false, false_and, Classical.not_not, Nat.add_zero, z_01, z_em, z_bit_p, Nat.not_le, Nat.not_lt, reduceCtorEq, if_true, if_false]
  · rw [z_b, if_neg c1] at a1'
    rw [if_neg c1] at a3
    have pt := k_partThere X (d + 1) A T a3
    by_cases cd : p < n ∧ t_dig (B p) = true
    · rw [if_pos cd, if_neg c1]
      rw [if_pos (p_pw_dig cd.2)] at pt
      refine ⟨fun v hv => (by cases hv), fun e he => ?_⟩
      cases he
      refine ⟨A, ?_, a3, z_lr_ta a2⟩
      simp (disch := omega) only [e_X5_readSum_127_18, k_X5_readSum_127_18, e_X5_readSum_127_28, k_X5_readSum_127_28, a1', pt, q_bd_l, z_ltT, z_ltF, z_eqT, z_eqF, z_ltlT, z_ltlF, z_lltT, z_lltF, z_eqlT, z_eqlF, z_in, z_k7, z_cl, z_lneg, z_llT, z_llF, z_s1, z_nI_cl, z_nlt0, z_ne_m1, z_b0, z_b1, z_la, z_al, z_lm, z_ml, z_nm, nI_add, pk_mul, ↓reduceIte, not_true_eq_false, not_false_eq_true, true_or, or_true, false_or, or_false, true_and, and_true, and_false, false_and, Classical.not_not, Nat.add_zero, z_01, z_em, z_bit_p, Nat.not_le, Nat.not_lt, reduceCtorEq, if_true, if_false]
    · rw [if_neg cd]
      by_cases c7 : p_pw B n p = 7
      · rw [if_pos c7]
        rw [if_pos c7] at pt
        refine ⟨fun v hv => (by cases hv), fun e he => ?_⟩
        cases he
        refine ⟨A, ?_, a3, z_lr_ta a2⟩
        simp (disch := omega) only [e_X5_readSum_127_18, k_X5_readSum_127_18, e_X5_readSum_127_28, k_X5_readSum_127_28, a1', pt, q_bd_l, z_ltT, z_ltF, z_eqT, z_eqF, z_ltlT, z_ltlF, z_lltT, z_lltF, z_eqlT, z_eqlF, z_in, z_k7, z_cl, z_lneg, z_llT, z_llF, z_s1, z_nI_cl, z_nlt0, z_ne_m1, z_b0, z_b1, z_la, z_al, z_lm, z_ml, z_nm, nI_add, pk_mul, ↓reduceIte, not_true_eq_false, not_false_eq_true, true_or, or_true, false_or, or_false, true_and, and_true, and_false, false_and, Classical.not_not, Nat.add_zero, z_01, z_em, z_bit_p, Nat.not_le, Nat.not_lt, reduceCtorEq, if_true, if_false]
      · rw [if_neg c7]
        rw [if_neg c7] at pt
        have hle := p_pw_le B n p
        refine ⟨fun v hv => ?_, fun e he => (by cases he)⟩
        cases hv
        obtain ⟨C, b1, b2, b3, b4⟩ := k_add X (d + 2) A T (nI (1000 + p_pw B n p)) hSA hl a3
        obtain ⟨J, j1, j2, j3, -⟩ := k_stepR X (d + 2) C T b3
        refine ⟨J, some (.int (nI (p_pw B n p))), ?_, j3, k_St_ta b4 j2, z_fr_t (z_lr_ta a2) (z_fr_t b2 (z_lr_ta j2))⟩
        simp (disch := omega) only [e_X5_readSum_127_18, k_X5_readSum_127_18, e_X5_readSum_127_28, k_X5_readSum_127_28, e_X5_readSum_127_40, k_X5_readSum_127_40, e_X5_readSum_127_43, k_X5_readSum_127_43, a1', pt, b1, j1, q_bd_l, z_ltT, z_ltF, z_eqT, z_eqF, z_ltlT, z_ltlF, z_lltT, z_lltF, z_eqlT, z_eqlF, z_in, z_k7, z_cl, z_lneg, z_llT, z_llF, z_s1, z_nI_cl, z_nlt0, z_ne_m1, z_b0, z_b1, z_la, z_al, z_lm, z_ml, z_nm, nI_add, pk_mul, ↓reduceIte, not_true_eq_false, not_false_eq_true, true_or, or_true, false_or, or_false, true_and, and_true, and_false, false_and, Classical.not_not, Nat.add_zero, z_01, z_em, z_bit_p, Nat.not_le, Nat.not_lt, reduceCtorEq, if_true, if_false]
