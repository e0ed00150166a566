/-! ===== THE REFERENCE: arranged ===== -/
def a_s (r : Nat → Int32) (j : Nat) : Nat := (r (12 + 13 * j + 2)).toNatClampNeg
def a_l (r : Nat → Int32) (p : Nat) : Nat := (r (142 + p)).toNatClampNeg
/-- spoons and lights in their bounds -/
def a_ok (r : Nat → Int32) (n : Nat) : Prop := r 3 = nI n ∧ n ≤ 10 ∧ (∀ j, j < n → r (12 + 13 * j + 2) = nI (a_s r j) ∧ a_s r j ≤ 20) ∧ ∀ p, p < 12 → r (142 + p) = nI (a_l r p) ∧ a_l r p ≤ 9
theorem a_ok_of {r : Nat → Int32} {n m : Nat} (h : R_ok r n m) : a_ok r n := by
  refine ⟨h.1, h.2.1, fun j hj => ?_, fun p hp => ?_⟩
  · obtain ⟨x, h1, h2⟩ := (h.2.2.2.2.2.2.2.2.2.2.1 j hj).2.2.1
    unfold a_s
    rw [h2, z_nI_cl _ (by omega)]
    exact ⟨rfl, h1⟩
  · obtain ⟨x, h1, h2⟩ := h.2.2.2.2.2.2.2.2.2.1 p hp
    unfold a_l
    rw [h2, z_nI_cl _ (by omega)]
    exact ⟨rfl, h1⟩
theorem l_harmAt (X : Sx) (d : Nat) (I : Ii) (T : Tt) (n j p : Nat) (h : a_ok (I 140) n) (hj : j < n) (hp : p < 12) : c_X12_harmAt_139 X (d + 2) (nI j) (nI p) I T = z_r (nI (a_l (I 140) p * a_s (I 140) j)) I T := by
  have hn := h.2.1
  have e1 := (h.2.2.1 j hj).1
  have e2 := (h.2.2.2 p hp).1
  rw [e_X12_harmAt_139]
  simp (disch := omega) only [e_X12_harmAt_139_10, k_X12_harmAt_139_10, l_of, e1, e2, q_bd_l, z_ltT, z_ltF, z_eqT, z_eqF, z_ltlT, z_ltlF, z_lltT, z_lltF, z_eqlT, z_eqlF, z_in, z_k7, z_cl, z_lneg, z_llT, z_llF, z_s1, z_nI_cl, z_nlt0, z_ne_m1, z_b0, z_b1, z_la, z_al, z_lm, z_ml, z_nm, nI_add, pk_mul, ↓reduceIte, not_true_eq_false, not_false_eq_true, true_or, or_true, false_or, or_false, true_and, and_true, and_false, false_and, Classical.not_not, Nat.add_zero, z_01, z_em, z_bit_p, Nat.not_le, Nat.not_lt, reduceCtorEq, if_true, if_false]
theorem l_from (X : Sx) (d : Nat) (I : Ii) (T : Tt) (j tk : Nat) (hj : j ≤ 10) (ht : tk < 4096) : c_X12_from_139 X (d + 1) (nI j) (nI tk) I T = z_r (I 149 (4096 * j + tk)) I T := by
  rw [e_X12_from_139]
  simp (disch := omega) only [q_bd_l, z_ltT, z_ltF, z_eqT, z_eqF, z_ltlT, z_ltlF, z_lltT, z_lltF, z_eqlT, z_eqlF, z_in, z_k7, z_cl, z_lneg, z_llT, z_llF, z_s1, z_nI_cl, z_nlt0, z_ne_m1, z_b0, z_b1, z_la, z_al, z_lm, z_ml, z_nm, nI_add, pk_mul, ↓reduceIte, not_true_eq_false, not_false_eq_true, true_or, or_true, false_or, or_false, true_and, and_true, and_false, false_and, Classical.not_not, Nat.add_zero, z_01, z_em, z_bit_p, Nat.not_le, Nat.not_lt, reduceCtorEq, if_true, if_false]
theorem a_or (tk p : Nat) (hp : p < 12) : nI tk ||| (1 : Int32) <<< (nI p &&& 31) = nI (tk ||| 2 ^ p) := by rw [z_shl1 p (by omega), z_nor]
theorem a_or_k {tk p : Nat} (h : tk < 4096) (hp : p < 12) : tk ||| 2 ^ p < 4096 := Nat.or_lt_two_pow (n := 12) h (Nat.pow_lt_pow_right (by decide) hp)
theorem a_dec (k : Nat) : nI (k + 1) + (-1) = nI k := by
  rw [← nI_add, Int32.add_assoc]
  have : nI 1 + (-1) = 0 := rfl
  rw [this, Int32.add_zero]
theorem l_arr41 (X : Sx) (d : Nat) (I : Ii) (T : Tt) (n k tk : Nat) (v : Int32) (h : a_ok (I 140) n) (hk : k < n) (ht : tk < 4096) (hr : ∀ t, t < 4096 → I 149 (4096 * (n - k) + t) = nI (a_T (a_s (I 140)) (a_l (I 140)) n k t)) : c_X12_arranged_139_41 X (d + 2) v (nI (n - (k + 1))) (nI tk) 2000000000 0 I T = c_X12_arranged_139_41 X (d + 2) v (nI (n - (k + 1))) (nI tk) (nI (a_T (a_s (I 140)) (a_l (I 140)) n (k + 1) tk)) (nI 12) I T := by
  have hn := h.2.1
  have h3 := h.1
  refine (z_forP (fun p b => c_X12_arranged_139_41 X (d + 2) v (nI (n - (k + 1))) (nI tk) (nI b) (nI p) I T) _ (fun _ b => b ≤ 2000000000) 12 (fun p b hp hbb => ?_) 2000000000 (Nat.le_refl _)).1
  have e1 := a_or tk p hp
  have e2 := a_or_k ht hp
  have e3 := hr _ e2
  have e4 : nI (n - (k + 1)) + 1 = nI (n - k) := by rw [z_s1, show n - (k + 1) + 1 = n - k from by omega]
  have e5 := l_harmAt X d I T n (n - (k + 1)) p h (by omega) hp
  have e6 := l_from X (d + 1) I T (n - k) (tk ||| 2 ^ p) (by omega) e2
  have e7 := a_T_k (a_s (I 140)) (a_l (I 140)) n k (tk ||| 2 ^ p)
  have e8 : a_l (I 140) p * a_s (I 140) (n - (k + 1)) ≤ 9 * 20 := Nat.mul_le_mul (h.2.2.2 p hp).2 (h.2.2.1 _ (by omega)).2
  rw [e3] at e6
  have hb : z_bit (nI tk) p = tk.testBit p := z_bit_nI tk p (by omega) (by omega)
  rw [e_X12_arranged_139_41]
  cases c1 : tk.testBit p with
  | true =>
    have es : ∀ V H, a_sp true V H b = b := fun V H => by simp [a_sp]
    rw [es]
    refine ⟨?_, hbb⟩
    simp (disch := omega) only [e_X12_arranged_139_7, k_X12_arranged_139_7, e_X12_arranged_139_10, e_X12_arranged_139_11, e_X12_arranged_139_38, e_X12_arranged_139_53, k_X12_arranged_139_53, e_X12_arranged_139_64, k_X12_arranged_139_64, e_X12_arranged_139_71, k_X12_arranged_139_71, e_X12_arranged_139_81, k_X12_arranged_139_81, e_X12_arranged_139_83, k_X12_arranged_139_83, e_X12_arranged_139_84, e_X12_arranged_139_86, e_X12_arranged_139_106, k_X12_arranged_139_106, e_X12_arranged_139_121, k_X12_arranged_139_121, e_X12_arranged_139_126, k_X12_arranged_139_126, e_X12_arranged_139_136, k_X12_arranged_139_136, e_X12_arranged_139_141, k_X12_arranged_139_141, e_X12_arranged_139_142, h3, l_isOf, hb, c1, q_bd_l, z_ltT, z_ltF, z_eqT, z_eqF, z_ltlT, z_ltlF, z_lltT, z_lltF, z_eqlT, z_eqlF, z_in, z_k7, z_cl, z_lneg, z_llT, z_llF, z_s1, z_nI_cl, z_nlt0, z_ne_m1, z_b0, z_b1, z_la, z_al, z_lm, z_ml, z_nm, nI_add, pk_mul, ↓reduceIte, not_true_eq_false, not_false_eq_true, true_or, or_true, false_or, or_false, true_and, and_true, and_false, false_and, Classical.not_not, Nat.add_zero, z_01, z_em, z_bit_p, Nat.not_le, Nat.not_lt, reduceCtorEq, if_true, if_false, decide_true, decide_false, Bool.and_true, Bool.and_false, Bool.true_and, Bool.false_and, Bool.or_true, Bool.or_false, Bool.true_or, Bool.false_or, Bool.false_eq_true, ne_eq, Bool.not_true, Bool.not_false, decide_not]
  | false =>
    generalize a_T (a_s (I 140)) (a_l (I 140)) n k (tk ||| 2 ^ p) = V at *
    generalize a_l (I 140) p * a_s (I 140) (n - (k + 1)) = H at *
    by_cases c2 : V < 2000000000
    · by_cases c3 : H + V < b
      · have es : a_sp false V H b = H + V := by simp [a_sp, c2, c3]
        rw [es]
        refine ⟨?_, by omega⟩
        simp (disch := omega) only [e_X12_arranged_139_7, k_X12_arranged_139_7, e_X12_arranged_139_10, e_X12_arranged_139_11, e_X12_arranged_139_38, e_X12_arranged_139_53, k_X12_arranged_139_53, e_X12_arranged_139_64, k_X12_arranged_139_64, e_X12_arranged_139_71, k_X12_arranged_139_71, e_X12_arranged_139_81, k_X12_arranged_139_81, e_X12_arranged_139_83, k_X12_arranged_139_83, e_X12_arranged_139_84, e_X12_arranged_139_86, e_X12_arranged_139_106, k_X12_arranged_139_106, e_X12_arranged_139_121, k_X12_arranged_139_121, e_X12_arranged_139_126, k_X12_arranged_139_126, e_X12_arranged_139_136, k_X12_arranged_139_136, e_X12_arranged_139_141, k_X12_arranged_139_141, e_X12_arranged_139_142, h3, l_isOf, hb, c1, e1, e4, e5, e6, l_lesser, q_bd_l, z_ltT, z_ltF, z_eqT, z_eqF, z_ltlT, z_ltlF, z_lltT, z_lltF, z_eqlT, z_eqlF, z_in, z_k7, z_cl, z_lneg, z_llT, z_llF, z_s1, z_nI_cl, z_nlt0, z_ne_m1, z_b0, z_b1, z_la, z_al, z_lm, z_ml, z_nm, nI_add, pk_mul, ↓reduceIte, not_true_eq_false, not_false_eq_true, true_or, or_true, false_or, or_false, true_and, and_true, and_false, false_and, Classical.not_not, Nat.add_zero, z_01, z_em, z_bit_p, Nat.not_le, Nat.not_lt, reduceCtorEq, if_true, if_false, decide_true, decide_false, Bool.and_true, Bool.and_false, Bool.true_and, Bool.false_and, Bool.or_true, Bool.or_false, Bool.true_or, Bool.false_or, Bool.false_eq_true, ne_eq, Bool.not_true, Bool.not_false, decide_not]
      · have es : a_sp false V H b = b := by simp [a_sp, c3]
        rw [es]
        refine ⟨?_, hbb⟩
        by_cases c4 : b < H + V
        · simp (disch := omega) only [e_X12_arranged_139_7, k_X12_arranged_139_7, e_X12_arranged_139_10, e_X12_arranged_139_11, e_X12_arranged_139_38, e_X12_arranged_139_53, k_X12_arranged_139_53, e_X12_arranged_139_64, k_X12_arranged_139_64, e_X12_arranged_139_71, k_X12_arranged_139_71, e_X12_arranged_139_81, k_X12_arranged_139_81, e_X12_arranged_139_83, k_X12_arranged_139_83, e_X12_arranged_139_84, e_X12_arranged_139_86, e_X12_arranged_139_106, k_X12_arranged_139_106, e_X12_arranged_139_121, k_X12_arranged_139_121, e_X12_arranged_139_126, k_X12_arranged_139_126, e_X12_arranged_139_136, k_X12_arranged_139_136, e_X12_arranged_139_141, k_X12_arranged_139_141, e_X12_arranged_139_142, h3, l_isOf, hb, c1, e1, e4, e5, e6, l_lesser, q_bd_l, z_ltT, z_ltF, z_eqT, z_eqF, z_ltlT, z_ltlF, z_lltT, z_lltF, z_eqlT, z_eqlF, z_in, z_k7, z_cl, z_lneg, z_llT, z_llF, z_s1, z_nI_cl, z_nlt0, z_ne_m1, z_b0, z_b1, z_la, z_al, z_lm, z_ml, z_nm, nI_add, pk_mul, ↓reduceIte, not_true_eq_false, not_false_eq_true, true_or, or_true, false_or, or_false, true_and, and_true, and_false, false_and, Classical.not_not, Nat.add_zero, z_01, z_em, z_bit_p, Nat.not_le, Nat.not_lt, reduceCtorEq, if_true, if_false, decide_true, decide_false, Bool.and_true, Bool.and_false, Bool.true_and, Bool.false_and, Bool.or_true, Bool.or_false, Bool.true_or, Bool.false_or, Bool.false_eq_true, ne_eq, Bool.not_true, Bool.not_false, decide_not]
        · have c5 : b = H + V := by omega
          subst c5
          simp (disch := omega) only [e_X12_arranged_139_7, k_X12_arranged_139_7, e_X12_arranged_139_10, e_X12_arranged_139_11, e_X12_arranged_139_38, e_X12_arranged_139_53, k_X12_arranged_139_53, e_X12_arranged_139_64, k_X12_arranged_139_64, e_X12_arranged_139_71, k_X12_arranged_139_71, e_X12_arranged_139_81, k_X12_arranged_139_81, e_X12_arranged_139_83, k_X12_arranged_139_83, e_X12_arranged_139_84, e_X12_arranged_139_86, e_X12_arranged_139_106, k_X12_arranged_139_106, e_X12_arranged_139_121, k_X12_arranged_139_121, e_X12_arranged_139_126, k_X12_arranged_139_126, e_X12_arranged_139_136, k_X12_arranged_139_136, e_X12_arranged_139_141, k_X12_arranged_139_141, e_X12_arranged_139_142, h3, l_isOf, hb, c1, e1, e4, e5, e6, l_lesser, q_bd_l, z_ltT, z_ltF, z_eqT, z_eqF, z_ltlT, z_ltlF, z_lltT, z_lltF, z_eqlT, z_eqlF, z_in, z_k7, z_cl, z_lneg, z_llT, z_llF, z_s1, z_nI_cl, z_nlt0, z_ne_m1, z_b0, z_b1, z_la, z_al, z_lm, z_ml, z_nm, nI_add, pk_mul, ↓reduceIte, not_true_eq_false, not_false_eq_true, true_or, or_true, false_or, or_false, true_and, and_true, and_false, false_and, Classical.not_not, Nat.add_zero, z_01, z_em, z_bit_p, Nat.not_le, Nat.not_lt, reduceCtorEq, if_true, if_false, decide_true, decide_false, Bool.and_true, Bool.and_false, Bool.true_and, Bool.false_and, Bool.or_true, Bool.or_false, Bool.true_or, Bool.false_or, Bool.false_eq_true, ne_eq, Bool.not_true, Bool.not_false, decide_not]
    · have es : a_sp false V H b = b := by simp [a_sp, c2]
      rw [es]
      refine ⟨?_, hbb⟩
      simp (disch := omega) only [e_X12_arranged_139_7, k_X12_arranged_139_7, e_X12_arranged_139_10, e_X12_arranged_139_11, e_X12_arranged_139_38, e_X12_arranged_139_53, k_X12_arranged_139_53, e_X12_arranged_139_64, k_X12_arranged_139_64, e_X12_arranged_139_71, k_X12_arranged_139_71, e_X12_arranged_139_81, k_X12_arranged_139_81, e_X12_arranged_139_83, k_X12_arranged_139_83, e_X12_arranged_139_84, e_X12_arranged_139_86, e_X12_arranged_139_106, k_X12_arranged_139_106, e_X12_arranged_139_121, k_X12_arranged_139_121, e_X12_arranged_139_126, k_X12_arranged_139_126, e_X12_arranged_139_136, k_X12_arranged_139_136, e_X12_arranged_139_141, k_X12_arranged_139_141, e_X12_arranged_139_142, h3, l_isOf, hb, c1, e1, e4, e5, e6, l_lesser, q_bd_l, z_ltT, z_ltF, z_eqT, z_eqF, z_ltlT, z_ltlF, z_lltT, z_lltF, z_eqlT, z_eqlF, z_in, z_k7, z_cl, z_lneg, z_llT, z_llF, z_s1, z_nI_cl, z_nlt0, z_ne_m1, z_b0, z_b1, z_la, z_al, z_lm, z_ml, z_nm, nI_add, pk_mul, ↓reduceIte, not_true_eq_false, not_false_eq_true, true_or, or_true, false_or, or_false, true_and, and_true, and_false, false_and, Classical.not_not, Nat.add_zero, z_01, z_em, z_bit_p, Nat.not_le, Nat.not_lt, reduceCtorEq, if_true, if_false, decide_true, decide_false, Bool.and_true, Bool.and_false, Bool.true_and, Bool.false_and, Bool.or_true, Bool.or_false, Bool.true_or, Bool.false_or, Bool.false_eq_true, ne_eq, Bool.not_true, Bool.not_false, decide_not]
def m_149 (a _k : Nat) : Bool := a == 149
/-- rows of the table for fewer than k jars are there -/
def a_tb (r : Nat → Int32) (n k : Nat) (J : Ii) : Prop := ∀ k', k' < k → ∀ t, t < 4096 → J 149 (4096 * (n - k') + t) = nI (a_T (a_s r) (a_l r) n k' t)
theorem l_arr26 (X : Sx) (d : Nat) (I : Ii) (T : Tt) (n k : Nat) (v : Int32) (o4 o5 : Option Value) (h : a_ok (I 140) n) (hk : k ≤ n) (hr : a_tb (I 140) n k I) : ∃ J o4' o5', c_X12_arranged_139_26 X (d + 2) v (nI (n - k)) 0 o4 o5 I T = c_X12_arranged_139_26 X (d + 2) v (nI (n - k)) (nI 4096) o4' o5' J T ∧ z_fr m_149 I J ∧ a_tb (I 140) n (k + 1) J := by
  have hn := h.2.1
  obtain ⟨⟨J, o4', o5'⟩, ⟨p1, p2, p3⟩, p4⟩ := z_foldP (β := Unit) (σ := Ii × Option Value × Option Value) (fun t _ S => c_X12_arranged_139_26 X (d + 2) v (nI (n - k)) (nI t) S.2.1 S.2.2 S.1 T) (fun _ a => a) (fun t _ S => z_fr m_149 I S.1 ∧ a_tb (I 140) n k S.1 ∧ ∀ t', t' < t → S.1 149 (4096 * (n - k) + t') = nI (a_T (a_s (I 140)) (a_l (I 140)) n k t')) 4096 (by
    intro t _ S ht ⟨q1, q2, q3⟩
    obtain ⟨J, u4, u5⟩ := S
    dsimp only at q1 q2 q3 ⊢
    have e140 : J 140 = I 140 := funext (fun i => q1 140 i rfl)
    have h' : a_ok (J 140) n := by rw [e140]; exact h
    have h3 : J 140 3 = nI n := h'.1
    have hlt : nI t < (4096 : Int32) := nI_lt (b := 4096) ht (by omega)
    have keep : ∀ w, z_fr m_149 I (q_w J 149 (4096 * (n - k) + t) w) ∧ a_tb (I 140) n k (q_w J 149 (4096 * (n - k) + t) w) := by
      intro w
      refine ⟨z_fr_w q1 149 _ w rfl, fun k' hk' t' ht' => ?_⟩
      rw [z_w_k _ _ _ _ _ (by omega)]
      exact q2 k' hk' t' ht'
    have fill : ∀ w, w = nI (a_T (a_s (I 140)) (a_l (I 140)) n k t) → ∀ t', t' < t + 1 → (q_w J 149 (4096 * (n - k) + t) w) 149 (4096 * (n - k) + t') = nI (a_T (a_s (I 140)) (a_l (I 140)) n k t') := by
      intro w hw t' ht'
      by_cases e : t' = t
      · subst e; rw [z_w_s, hw]
      · rw [z_w_k _ _ _ _ _ (by omega)]; exact q3 t' (by omega)
    rcases Nat.eq_zero_or_pos k with hk0 | hk0
    · subst hk0
      refine ⟨(q_w J 149 (4096 * (n - 0) + t) (nI 0), some (.int 0), some (.int 0)), ⟨(keep _).1, (keep _).2, fill _ rfl⟩, ?_⟩
      rw [e_X12_arranged_139_26]
      have e0 : n - 0 = n := Nat.sub_zero n
      rw [e0]
      rw [if_pos hlt, if_pos h3.symm, e_X12_arranged_139_38, e_X12_arranged_139_41]
      simp (disch := omega) only [e_X12_arranged_139_7, k_X12_arranged_139_7, e_X12_arranged_139_10, e_X12_arranged_139_11, e_X12_arranged_139_38, e_X12_arranged_139_53, k_X12_arranged_139_53, e_X12_arranged_139_64, k_X12_arranged_139_64, e_X12_arranged_139_71, k_X12_arranged_139_71, e_X12_arranged_139_81, k_X12_arranged_139_81, e_X12_arranged_139_83, k_X12_arranged_139_83, e_X12_arranged_139_84, e_X12_arranged_139_86, e_X12_arranged_139_106, k_X12_arranged_139_106, e_X12_arranged_139_121, k_X12_arranged_139_121, e_X12_arranged_139_126, k_X12_arranged_139_126, e_X12_arranged_139_136, k_X12_arranged_139_136, e_X12_arranged_139_141, k_X12_arranged_139_141, e_X12_arranged_139_142, h3, q_bd_l, z_ltT, z_ltF, z_eqT, z_eqF, z_ltlT, z_ltlF, z_lltT, z_lltF, z_eqlT, z_eqlF, z_in, z_k7, z_cl, z_lneg, z_llT, z_llF, z_s1, z_nI_cl, z_nlt0, z_ne_m1, z_b0, z_b1, z_la, z_al, z_lm, z_ml, z_nm, nI_add, pk_mul, ↓reduceIte, not_true_eq_false, not_false_eq_true, true_or, or_true, false_or, or_false, true_and, and_true, and_false, false_and, Classical.not_not, Nat.add_zero, z_01, z_em, z_bit_p, Nat.not_le, Nat.not_lt, reduceCtorEq, if_true, if_false]
      rfl
    · obtain ⟨k, rfl⟩ : ∃ k0, k = k0 + 1 := ⟨k - 1, by omega⟩
      have l41 := l_arr41 X d J T n k t v h' (by omega) ht (fun t' ht' => by rw [e140]; exact q2 k (by omega) t' ht')
      rw [e140] at l41
      refine ⟨(q_w J 149 (4096 * (n - (k + 1)) + t) (nI (a_T (a_s (I 140)) (a_l (I 140)) n (k + 1) t)), some (.int (nI (a_T (a_s (I 140)) (a_l (I 140)) n (k + 1) t))), some (.int (nI 12))), ⟨(keep _).1, (keep _).2, fill _ rfl⟩, ?_⟩
      have hne : ¬ nI (n - (k + 1)) = J 140 3 := by rw [h3, z_nI_eq _ _ (by omega) (by omega)]; omega
      rw [e_X12_arranged_139_26, if_pos hlt, if_neg hne, e_X12_arranged_139_38, l41, e_X12_arranged_139_41]
      simp (disch := omega) only [e_X12_arranged_139_7, k_X12_arranged_139_7, e_X12_arranged_139_10, e_X12_arranged_139_11, e_X12_arranged_139_38, e_X12_arranged_139_53, k_X12_arranged_139_53, e_X12_arranged_139_64, k_X12_arranged_139_64, e_X12_arranged_139_71, k_X12_arranged_139_71, e_X12_arranged_139_81, k_X12_arranged_139_81, e_X12_arranged_139_83, k_X12_arranged_139_83, e_X12_arranged_139_84, e_X12_arranged_139_86, e_X12_arranged_139_106, k_X12_arranged_139_106, e_X12_arranged_139_121, k_X12_arranged_139_121, e_X12_arranged_139_126, k_X12_arranged_139_126, e_X12_arranged_139_136, k_X12_arranged_139_136, e_X12_arranged_139_141, k_X12_arranged_139_141, e_X12_arranged_139_142, h3, q_bd_l, z_ltT, z_ltF, z_eqT, z_eqF, z_ltlT, z_ltlF, z_lltT, z_lltF, z_eqlT, z_eqlF, z_in, z_k7, z_cl, z_lneg, z_llT, z_llF, z_s1, z_nI_cl, z_nlt0, z_ne_m1, z_b0, z_b1, z_la, z_al, z_lm, z_ml, z_nm, nI_add, pk_mul, ↓reduceIte, not_true_eq_false, not_false_eq_true, true_or, or_true, false_or, or_false, true_and, and_true, and_false, false_and, Classical.not_not, Nat.add_zero, z_01, z_em, z_bit_p, Nat.not_le, Nat.not_lt, reduceCtorEq, if_true, if_false]) () (I, o4, o5) ⟨z_fr_r _ _, hr, fun t' ht' => by omega⟩
  refine ⟨J, o4', o5', p4, p1, fun k' hk' t ht => ?_⟩
  rcases Nat.eq_or_lt_of_le (Nat.lt_succ_iff.mp hk') with rfl | hlt
  · exact p3 t ht
  · exact p2 k' hlt t ht
theorem l_arr22 (X : Sx) (d : Nat) (I : Ii) (T : Tt) (n : Nat) (v : Int32) (h : a_ok (I 140) n) : ∃ J o3 o4 o5, c_X12_arranged_139_22 X (d + 2) v (nI n) none none none I T = c_X12_arranged_139_22 X (d + 2) v (-1) o3 o4 o5 J T ∧ z_fr m_149 I J ∧ a_tb (I 140) n (n + 1) J := by
  have hn := h.2.1
  have key : ∀ q k J (o3 o4 o5 : Option Value), k + q = n → z_fr m_149 I J → a_tb (I 140) n k J → ∃ J' o3' o4' o5', c_X12_arranged_139_22 X (d + 2) v (nI (n - k)) o3 o4 o5 J T = c_X12_arranged_139_22 X (d + 2) v (-1) o3' o4' o5' J' T ∧ z_fr m_149 I J' ∧ a_tb (I 140) n (n + 1) J' := by
    intro q
    induction q with
    | zero =>
      intro k J o3 o4 o5 hk hf ht
      have e140 : J 140 = I 140 := funext (fun i => hf 140 i rfl)
      obtain ⟨K, u4, u5, w1, w2, w3⟩ := l_arr26 X d J T n k v o4 o5 (by rw [e140]; exact h) (by omega) (by rw [e140]; exact ht)
      rw [e140] at w3
      have hk2 : k = n := by omega
      subst hk2
      refine ⟨K, some (.int (nI 4096)), u4, u5, ?_, z_fr_t hf w2, w3⟩
      rw [e_X12_arranged_139_22]
      have e0 : k - k = 0 := Nat.sub_self k
      rw [e0] at w1 ⊢
      rw [if_neg (by decide), w1, e_X12_arranged_139_26, if_neg (by decide)]
      rfl
    | succ q ih =>
      intro k J o3 o4 o5 hk hf ht
      have e140 : J 140 = I 140 := funext (fun i => hf 140 i rfl)
      obtain ⟨K, u4, u5, w1, w2, w3⟩ := l_arr26 X d J T n k v o4 o5 (by rw [e140]; exact h) (by omega) (by rw [e140]; exact ht)
      rw [e140] at w3
      obtain ⟨J', a, b, c, x1, x2, x3⟩ := ih (k + 1) K (some (.int (nI 4096))) u4 u5 (by omega) (z_fr_t hf w2) w3
      refine ⟨J', a, b, c, ?_, x2, x3⟩
      rw [← x1, e_X12_arranged_139_22, if_neg (nI_pos (by omega)), w1, e_X12_arranged_139_26, if_neg (by decide)]
      rw [show n - k = n - (k + 1) + 1 from by omega, a_dec]
  have := key n 0 I none none none (by omega) (z_fr_r _ _) (fun k' hk' => by omega)
  rwa [Nat.sub_zero] at this
/-- a place is tried .. -/
theorem l_arr118 (X : Sx) (d : Nat) (I : Ii) (T : Tt) (n j tk p : Nat) (v : Int32) (o5 : Option Value) (h : a_ok (I 140) n) (ht : a_tb (I 140) n (n + 1) I) (hj : j < n) (htk : tk < 4096) (hp : p < 12) (hf : n - j ≤ a_fr tk) : c_X12_arranged_139_118 X (d + 3) v (nI tk) (nI p) (nI j) o5 I T = if a_g (a_s (I 140)) (a_l (I 140)) n j tk p = true then c_X12_arranged_139_113 X (d + 3) v (nI (tk ||| 2 ^ p)) (nI p) (nI (j + 1)) o5 I T else c_X12_arranged_139_118 X (d + 3) v (nI tk) (nI (p + 1)) (nI j) o5 I T := by
  have hn := h.2.1
  have hs := fun j hj => (h.2.2.1 j hj).2
  have hl := fun p hp => (h.2.2.2 p hp).2
  have hb : z_bit (nI tk) p = tk.testBit p := z_bit_nI tk p (by omega) (by omega)
  have e1 := a_or tk p hp
  have e2 := a_or_k htk hp
  rw [e_X12_arranged_139_118]
  unfold a_g
  cases c1 : tk.testBit p with
  | true =>
    rw [if_neg (by simp)]
    simp (disch := omega) only [e_X12_arranged_139_7, k_X12_arranged_139_7, e_X12_arranged_139_10, e_X12_arranged_139_11, e_X12_arranged_139_38, e_X12_arranged_139_53, k_X12_arranged_139_53, e_X12_arranged_139_64, k_X12_arranged_139_64, e_X12_arranged_139_71, k_X12_arranged_139_71, e_X12_arranged_139_81, k_X12_arranged_139_81, e_X12_arranged_139_83, k_X12_arranged_139_83, e_X12_arranged_139_84, e_X12_arranged_139_86, e_X12_arranged_139_106, k_X12_arranged_139_106, e_X12_arranged_139_121, k_X12_arranged_139_121, e_X12_arranged_139_126, k_X12_arranged_139_126, e_X12_arranged_139_136, k_X12_arranged_139_136, e_X12_arranged_139_141, k_X12_arranged_139_141, e_X12_arranged_139_142, l_isOf, hb, c1, q_bd_l, z_ltT, z_ltF, z_eqT, z_eqF, z_ltlT, z_ltlF, z_lltT, z_lltF, z_eqlT, z_eqlF, z_in, z_k7, z_cl, z_lneg, z_llT, z_llF, z_s1, z_nI_cl, z_nlt0, z_ne_m1, z_b0, z_b1, z_la, z_al, z_lm, z_ml, z_nm, nI_add, pk_mul, ↓reduceIte, not_true_eq_false, not_false_eq_true, true_or, or_true, false_or, or_false, true_and, and_true, and_false, false_and, Classical.not_not, Nat.add_zero, z_01, z_em, z_bit_p, Nat.not_le, Nat.not_lt, reduceCtorEq, if_true, if_false, decide_true, decide_false, Bool.and_true, Bool.and_false, Bool.true_and, Bool.false_and, Bool.or_true, Bool.or_false, Bool.true_or, Bool.false_or, Bool.false_eq_true, ne_eq, Bool.not_true, Bool.not_false, decide_not]
  | false =>
    have hf2 := a_fr_s tk p hp c1
    have t1 : I 149 (4096 * (j + 1) + (tk ||| 2 ^ p)) = nI (a_F (a_s (I 140)) (a_l (I 140)) n (j + 1) (tk ||| 2 ^ p)) := by
      have := ht (n - (j + 1)) (by omega) _ e2
      rw [a_T_F _ _ n hn hs hl _ _ (by omega) (by omega)] at this
      rwa [show n - (n - (j + 1)) = j + 1 from by omega] at this
    have t2 : I 149 (4096 * j + tk) = nI (a_F (a_s (I 140)) (a_l (I 140)) n j tk) := by
      have := ht (n - j) (by omega) _ htk
      rw [a_T_F _ _ n hn hs hl _ _ (by omega) (by omega)] at this
      rwa [show n - (n - j) = j from by omega] at this
    have f1 := l_from X (d + 2) I T (j + 1) (tk ||| 2 ^ p) (by omega) e2
    have f2 := l_from X (d + 2) I T j tk (by omega) htk
    rw [t1] at f1
    rw [t2] at f2
    have f3 := l_harmAt X (d + 1) I T n j p h hj hp
    have b1 := a_F_k (a_s (I 140)) (a_l (I 140)) n (j + 1) (tk ||| 2 ^ p) hn
    have b2 := a_F_k (a_s (I 140)) (a_l (I 140)) n j tk hn
    have b3 : a_l (I 140) p * a_s (I 140) j ≤ 9 * 20 := Nat.mul_le_mul (hl p hp) (hs j hj)
    generalize a_F (a_s (I 140)) (a_l (I 140)) n (j + 1) (tk ||| 2 ^ p) = V at *
    generalize a_F (a_s (I 140)) (a_l (I 140)) n j tk = W at *
    generalize a_l (I 140) p * a_s (I 140) j = H at *
    by_cases c2 : H + V = W
    · rw [if_pos (by simp [c2])]
      simp (disch := omega) only [e_X12_arranged_139_7, k_X12_arranged_139_7, e_X12_arranged_139_10, e_X12_arranged_139_11, e_X12_arranged_139_38, e_X12_arranged_139_53, k_X12_arranged_139_53, e_X12_arranged_139_64, k_X12_arranged_139_64, e_X12_arranged_139_71, k_X12_arranged_139_71, e_X12_arranged_139_81, k_X12_arranged_139_81, e_X12_arranged_139_83, k_X12_arranged_139_83, e_X12_arranged_139_84, e_X12_arranged_139_86, e_X12_arranged_139_106, k_X12_arranged_139_106, e_X12_arranged_139_121, k_X12_arranged_139_121, e_X12_arranged_139_126, k_X12_arranged_139_126, e_X12_arranged_139_136, k_X12_arranged_139_136, e_X12_arranged_139_141, k_X12_arranged_139_141, e_X12_arranged_139_142, l_isOf, hb, c1, e1, f1, f2, f3, q_bd_l, z_ltT, z_ltF, z_eqT, z_eqF, z_ltlT, z_ltlF, z_lltT, z_lltF, z_eqlT, z_eqlF, z_in, z_k7, z_cl, z_lneg, z_llT, z_llF, z_s1, z_nI_cl, z_nlt0, z_ne_m1, z_b0, z_b1, z_la, z_al, z_lm, z_ml, z_nm, nI_add, pk_mul, ↓reduceIte, not_true_eq_false, not_false_eq_true, true_or, or_true, false_or, or_false, true_and, and_true, and_false, false_and, Classical.not_not, Nat.add_zero, z_01, z_em, z_bit_p, Nat.not_le, Nat.not_lt, reduceCtorEq, if_true, if_false, decide_true, decide_false, Bool.and_true, Bool.and_false, Bool.true_and, Bool.false_and, Bool.or_true, Bool.or_false, Bool.true_or, Bool.false_or, Bool.false_eq_true, ne_eq, Bool.not_true, Bool.not_false, decide_not]
    · rw [if_neg (by simp [c2])]
      simp (disch := omega) only [e_X12_arranged_139_7, k_X12_arranged_139_7, e_X12_arranged_139_10, e_X12_arranged_139_11, e_X12_arranged_139_38, e_X12_arranged_139_53, k_X12_arranged_139_53, e_X12_arranged_139_64, k_X12_arranged_139_64, e_X12_arranged_139_71, k_X12_arranged_139_71, e_X12_arranged_139_81, k_X12_arranged_139_81, e_X12_arranged_139_83, k_X12_arranged_139_83, e_X12_arranged_139_84, e_X12_arranged_139_86, e_X12_arranged_139_106, k_X12_arranged_139_106, e_X12_arranged_139_121, k_X12_arranged_139_121, e_X12_arranged_139_126, k_X12_arranged_139_126, e_X12_arranged_139_136, k_X12_arranged_139_136, e_X12_arranged_139_141, k_X12_arranged_139_141, e_X12_arranged_139_142, l_isOf, hb, c1, e1, f1, f2, f3, q_bd_l, z_ltT, z_ltF, z_eqT, z_eqF, z_ltlT, z_ltlF, z_lltT, z_lltF, z_eqlT, z_eqlF, z_in, z_k7, z_cl, z_lneg, z_llT, z_llF, z_s1, z_nI_cl, z_nlt0, z_ne_m1, z_b0, z_b1, z_la, z_al, z_lm, z_ml, z_nm, nI_add, pk_mul, ↓reduceIte, not_true_eq_false, not_false_eq_true, true_or, or_true, false_or, or_false, true_and, and_true, and_false, false_and, Classical.not_not, Nat.add_zero, z_01, z_em, z_bit_p, Nat.not_le, Nat.not_lt, reduceCtorEq, if_true, if_false, decide_true, decide_false, Bool.and_true, Bool.and_false, Bool.true_and, Bool.false_and, Bool.or_true, Bool.or_false, Bool.true_or, Bool.false_or, Bool.false_eq_true, ne_eq, Bool.not_true, Bool.not_false, decide_not]
theorem l_arrW (X : Sx) (d : Nat) (I : Ii) (T : Tt) (n jar : Nat) (o5 : Option Value) (h : a_ok (I 140) n) (ht : a_tb (I 140) n (n + 1) I) (hjar : jar < n) : c_X12_arranged_139_113 X (d + 3) (nI jar) 0 0 0 o5 I T = z_r (nI (a_W (a_s (I 140)) (a_l (I 140)) n (jar + 1)).2) I T := by
  have hn := h.2.1
  have hs := fun j hj => (h.2.2.1 j hj).2
  have hl := fun p hp => (h.2.2.2 p hp).2
  have st : ∀ j, j ≤ jar → c_X12_arranged_139_113 X (d + 3) (nI jar) (nI (a_W (a_s (I 140)) (a_l (I 140)) n j).1) (nI (a_W (a_s (I 140)) (a_l (I 140)) n j).2) (nI j) o5 I T = c_X12_arranged_139_113 X (d + 3) (nI jar) (nI (a_W (a_s (I 140)) (a_l (I 140)) n (j + 1)).1) (nI (a_W (a_s (I 140)) (a_l (I 140)) n (j + 1)).2) (nI (j + 1)) o5 I T := by
    intro j hj
    obtain ⟨w1, w2⟩ := a_W_s (a_s (I 140)) (a_l (I 140)) n hn hs hl j (by omega)
    show _ = c_X12_arranged_139_113 X (d + 3) (nI jar) (nI ((a_W (a_s (I 140)) (a_l (I 140)) n j).1 ||| 2 ^ a_P (a_s (I 140)) (a_l (I 140)) n j (a_W (a_s (I 140)) (a_l (I 140)) n j).1)) (nI (a_P (a_s (I 140)) (a_l (I 140)) n j (a_W (a_s (I 140)) (a_l (I 140)) n j).1)) (nI (j + 1)) o5 I T
    generalize (a_W (a_s (I 140)) (a_l (I 140)) n j).1 = tk at *
    have hf : n - j ≤ a_fr tk := by omega
    obtain ⟨q1, q2, q3, q4⟩ := a_P_s (a_s (I 140)) (a_l (I 140)) n j tk hs hl (by omega) hf
    rw [e_X12_arranged_139_113, if_neg (nI_nlt (by omega) (by omega))]
    have go : ∀ m p, p + m = a_P (a_s (I 140)) (a_l (I 140)) n j tk → c_X12_arranged_139_118 X (d + 3) (nI jar) (nI tk) (nI p) (nI j) o5 I T = c_X12_arranged_139_113 X (d + 3) (nI jar) (nI (tk ||| 2 ^ a_P (a_s (I 140)) (a_l (I 140)) n j tk)) (nI (a_P (a_s (I 140)) (a_l (I 140)) n j tk)) (nI (j + 1)) o5 I T := by
      intro m
      induction m with
      | zero =>
        intro p hp
        have ep : a_P (a_s (I 140)) (a_l (I 140)) n j tk = p := by omega
        rw [ep] at q2 q3
        rw [l_arr118 X d I T n j tk p (nI jar) o5 h ht (by omega) w2 (by omega) hf, ep, if_pos (by unfold a_g; rw [q2, q3]; simp)]
      | succ m ih =>
        intro p hp
        have := q4 p (by omega)
        rw [l_arr118 X d I T n j tk p (nI jar) o5 h ht (by omega) w2 (by omega) hf, if_neg, ih (p + 1) (by omega)]
        unfold a_g
        intro c
        simp only [Bool.and_eq_true, Bool.not_eq_true', decide_eq_true_eq] at c
        exact this c
    exact go _ 0 (Nat.zero_add _)
  have all : ∀ j, j ≤ jar + 1 → c_X12_arranged_139_113 X (d + 3) (nI jar) 0 0 0 o5 I T = c_X12_arranged_139_113 X (d + 3) (nI jar) (nI (a_W (a_s (I 140)) (a_l (I 140)) n j).1) (nI (a_W (a_s (I 140)) (a_l (I 140)) n j).2) (nI j) o5 I T := by
    intro j
    induction j with
    | zero => intro _; rfl
    | succ j ih => intro hj; rw [ih (by omega), st j (by omega)]
  rw [all (jar + 1) (Nat.le_refl _), e_X12_arranged_139_113, if_pos (nI_lt (by omega) (by omega))]
/-- ARRANGED -/
def R_arr (r : Nat → Int32) (n : Nat) (v : Int32) : Int32 := if v = -1 then nI (a_F (a_s r) (a_l r) n 0 0) else nI (a_W (a_s r) (a_l r) n (v.toNatClampNeg + 1)).2
theorem l_arranged1 (X : Sx) (d : Nat) (I : Ii) (T : Tt) (n : Nat) (v : Int32) (h : a_ok (I 140) n) (hv : v = -1 ∨ ∃ j, j < n ∧ v = nI j) : ∃ K, c_X12_arranged_139 X (d + 4) v I T = z_r (R_arr (I 140) n v) K T ∧ z_fr m_q I K ∧ K 139 0 = 0 := by
  have hn := h.2.1
  have e140 : (q_w I 139 0 0) 140 = I 140 := z_w_a _ _ _ _ _ (by decide)
  have hs := fun j hj => (h.2.2.1 j hj).2
  have hl := fun p hp => (h.2.2.2 p hp).2
  obtain ⟨J, o3, o4, o5, w1, w2, w3⟩ := l_arr22 X (d + 1) (q_w I 139 0 0) T n v (by rw [e140]; exact h)
  have eJ : J 140 = I 140 := by rw [← e140]; exact funext (fun i => w2 140 i rfl)
  have fr : z_fr m_q I J := z_fr_t (z_q0 I 0) (z_fr_m w2 (fun a k h => by simp [m_149] at h; simp [m_q, h]))
  have z0 : J 139 0 = 0 := by rw [w2 139 0 rfl, z_w_s]
  rw [e140] at w3
  refine ⟨J, ?_, fr, z0⟩
  have st : c_X12_arranged_139 X (d + 4) v I T = c_X12_arranged_139_22 X (d + 3) v (-1) o3 o4 o5 J T := by
    rw [← w1, e_X12_arranged_139]
    rcases hv with rfl | ⟨j, hj, rfl⟩
    · simp (disch := omega) only [e_X12_arranged_139, e_X12_arranged_139_7, k_X12_arranged_139_7, e_X12_arranged_139_10, e_X12_arranged_139_11, e_X12_arranged_139_38, e_X12_arranged_139_53, k_X12_arranged_139_53, e_X12_arranged_139_64, k_X12_arranged_139_64, e_X12_arranged_139_71, k_X12_arranged_139_71, e_X12_arranged_139_81, k_X12_arranged_139_81, e_X12_arranged_139_83, k_X12_arranged_139_83, e_X12_arranged_139_84, e_X12_arranged_139_86, e_X12_arranged_139_106, k_X12_arranged_139_106, e_X12_arranged_139_121, k_X12_arranged_139_121, e_X12_arranged_139_126, k_X12_arranged_139_126, e_X12_arranged_139_136, k_X12_arranged_139_136, e_X12_arranged_139_141, k_X12_arranged_139_141, e_X12_arranged_139_142, h.1, q_bd_l, z_ltT, z_ltF, z_eqT, z_eqF, z_ltlT, z_ltlF, z_lltT, z_lltF, z_eqlT, z_eqlF, z_in, z_k7, z_cl, z_lneg, z_llT, z_llF, z_s1, z_nI_cl, z_nlt0, z_ne_m1, z_b0, z_b1, z_la, z_al, z_lm, z_ml, z_nm, nI_add, pk_mul, ↓reduceIte, not_true_eq_false, not_false_eq_true, true_or, or_true, false_or, or_false, true_and, and_true, and_false, false_and, Classical.not_not, Nat.add_zero, z_01, z_em, z_bit_p, Nat.not_le, Nat.not_lt, reduceCtorEq, if_true, if_false]
    · have ij : ¬ I 140 3 - 1 < nI j := by
        rw [h.1]
        have : nI n - 1 = nI (n - 1) := pk_sub (b := 1) (by omega)
        rw [this]
        exact nI_nlt (by omega) (by omega)
      simp (disch := omega) only [e_X12_arranged_139, e_X12_arranged_139_7, k_X12_arranged_139_7, e_X12_arranged_139_10, e_X12_arranged_139_11, e_X12_arranged_139_38, e_X12_arranged_139_53, k_X12_arranged_139_53, e_X12_arranged_139_64, k_X12_arranged_139_64, e_X12_arranged_139_71, k_X12_arranged_139_71, e_X12_arranged_139_81, k_X12_arranged_139_81, e_X12_arranged_139_83, k_X12_arranged_139_83, e_X12_arranged_139_84, e_X12_arranged_139_86, e_X12_arranged_139_106, k_X12_arranged_139_106, e_X12_arranged_139_121, k_X12_arranged_139_121, e_X12_arranged_139_126, k_X12_arranged_139_126, e_X12_arranged_139_136, k_X12_arranged_139_136, e_X12_arranged_139_141, k_X12_arranged_139_141, e_X12_arranged_139_142, l_isJar, h.1, ij, q_bd_l, z_ltT, z_ltF, z_eqT, z_eqF, z_ltlT, z_ltlF, z_lltT, z_lltF, z_eqlT, z_eqlF, z_in, z_k7, z_cl, z_lneg, z_llT, z_llF, z_s1, z_nI_cl, z_nlt0, z_ne_m1, z_b0, z_b1, z_la, z_al, z_lm, z_ml, z_nm, nI_add, pk_mul, ↓reduceIte, not_true_eq_false, not_false_eq_true, true_or, or_true, false_or, or_false, true_and, and_true, and_false, false_and, Classical.not_not, Nat.add_zero, z_01, z_em, z_bit_p, Nat.not_le, Nat.not_lt, reduceCtorEq, if_true, if_false]
  rw [st, e_X12_arranged_139_22, if_pos (by decide)]
  rcases hv with rfl | ⟨j, hj, rfl⟩
  · rw [if_pos rfl]
    have f := l_from X (d + 2) J T 0 0 (by omega) (by omega)
    have t := w3 n (by omega) 0 (by omega)
    rw [a_T_F _ _ n hn hs hl _ _ (by omega) (by show n ≤ 12; omega), Nat.sub_self] at t
    rw [t] at f
    unfold R_arr
    rw [if_pos rfl]
    have f' : c_X12_from_139 X (d + 3) 0 0 J T = _ := f
    rw [f']
    simp (disch := omega) only [e_X12_arranged_139, e_X12_arranged_139_7, k_X12_arranged_139_7, e_X12_arranged_139_10, e_X12_arranged_139_11, e_X12_arranged_139_38, e_X12_arranged_139_53, k_X12_arranged_139_53, e_X12_arranged_139_64, k_X12_arranged_139_64, e_X12_arranged_139_71, k_X12_arranged_139_71, e_X12_arranged_139_81, k_X12_arranged_139_81, e_X12_arranged_139_83, k_X12_arranged_139_83, e_X12_arranged_139_84, e_X12_arranged_139_86, e_X12_arranged_139_106, k_X12_arranged_139_106, e_X12_arranged_139_121, k_X12_arranged_139_121, e_X12_arranged_139_126, k_X12_arranged_139_126, e_X12_arranged_139_136, k_X12_arranged_139_136, e_X12_arranged_139_141, k_X12_arranged_139_141, e_X12_arranged_139_142, q_bd_l, z_ltT, z_ltF, z_eqT, z_eqF, z_ltlT, z_ltlF, z_lltT, z_lltF, z_eqlT, z_eqlF, z_in, z_k7, z_cl, z_lneg, z_llT, z_llF, z_s1, z_nI_cl, z_nlt0, z_ne_m1, z_b0, z_b1, z_la, z_al, z_lm, z_ml, z_nm, nI_add, pk_mul, ↓reduceIte, not_true_eq_false, not_false_eq_true, true_or, or_true, false_or, or_false, true_and, and_true, and_false, false_and, Classical.not_not, Nat.add_zero, z_01, z_em, z_bit_p, Nat.not_le, Nat.not_lt, reduceCtorEq, if_true, if_false]
  · rw [if_neg (by rw [z_ne_m1 j (by omega)]; exact id)]
    rw [l_arrW X d J T n j o5 (by rw [eJ]; exact h) (by rw [eJ]; exact w3) hj, eJ]
    unfold R_arr
    rw [if_neg (by rw [z_ne_m1 j (by omega)]; exact id), z_nI_cl _ (by omega)]
theorem l_arranged0 (X : Sx) (d : Nat) (I : Ii) (T : Tt) (n : Nat) (v : Int32) (h3 : I 140 3 = nI n) (hn : n ≤ 10) (hv : z_no v n) (hm : v ≠ -1) : c_X12_arranged_139 X (d + 4) v I T = z_r 0 (q_w I 139 0 1) T := by
  have h := z_no_p (by omega) hv
  rw [e_X12_arranged_139]
  simp (disch := omega) only [e_X12_arranged_139, e_X12_arranged_139_7, k_X12_arranged_139_7, e_X12_arranged_139_10, e_X12_arranged_139_11, e_X12_arranged_139_38, e_X12_arranged_139_53, k_X12_arranged_139_53, e_X12_arranged_139_64, k_X12_arranged_139_64, e_X12_arranged_139_71, k_X12_arranged_139_71, e_X12_arranged_139_81, k_X12_arranged_139_81, e_X12_arranged_139_83, k_X12_arranged_139_83, e_X12_arranged_139_84, e_X12_arranged_139_86, e_X12_arranged_139_106, k_X12_arranged_139_106, e_X12_arranged_139_121, k_X12_arranged_139_121, e_X12_arranged_139_126, k_X12_arranged_139_126, e_X12_arranged_139_136, k_X12_arranged_139_136, e_X12_arranged_139_141, k_X12_arranged_139_141, e_X12_arranged_139_142, l_isJar, h3, h, hm, q_bd_l, z_ltT, z_ltF, z_eqT, z_eqF, z_ltlT, z_ltlF, z_lltT, z_lltF, z_eqlT, z_eqlF, z_in, z_k7, z_cl, z_lneg, z_llT, z_llF, z_s1, z_nI_cl, z_nlt0, z_ne_m1, z_b0, z_b1, z_la, z_al, z_lm, z_ml, z_nm, nI_add, pk_mul, ↓reduceIte, not_true_eq_false, not_false_eq_true, true_or, or_true, false_or, or_false, true_and, and_true, and_false, false_and, Classical.not_not, Nat.add_zero, z_01, z_em, z_bit_p, Nat.not_le, Nat.not_lt, reduceCtorEq, if_true, if_false]
