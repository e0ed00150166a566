/-! ===== THE REFERENCE READS: a LINE, LINES ===== -/
def z_pl (B : Nat → Nat) (n : Nat) (I : Ii) (T : Tt) (st : S3) (r : Option (Except Nat (Nat × Ln))) (x : Rs) : Prop :=
  (∀ q1 L, r = some (.ok (q1, L)) → ∃ q, q ≤ n ∧ t_sk B n q = q1 ∧ x = z_v (z_A (z_S I (r_ln (z_fc I) L st)) q) T) ∧ (∀ e, r = some (.error e) → ∃ J, x = z_v J T ∧ J 139 13 = nI e ∧ (e ≤ n ∧ z_aw 6 J) ∧ z_fr m_p I J)
theorem l_ln43 (X : Sx) (d : Nat) (I : Ii) (T : Tt) {B : Nat → Nat} {n : Nat} (H : l_hy I B n 0) (f k m : Nat) (hk : k < 4) (st : S3) (p : Nat) (hp : p ≤ n) : z_pl B n I T st (P_if B n f k m (t_sk B n p)) (c_X12_lawLine_139_43 X (d + 29) (nI k) (nI m) (z_A (z_S I st) p) T) := by
  have HS := z_S_hy H st
  obtain ⟨h, hf, hD, ho, hdeep⟩ := id HS
  have hs := t_sk_le (B := B) hp
  have h1 := h.1
  have W := l_word X (d + 26) 70 (by decide) (z_S I st) T h p hp
  have L59 := fun (s0 : Int32) (q : Nat) => l_ln59 X (d + 29) k m hk s0 I T H.2.1 st q
  rw [e_X12_lawLine_139_43]
  unfold P_if
  generalize es : t_sk B n p = s at *
  by_cases hw : t_isW (t_w 70) B n s = true
  · rw [if_pos hw]
    have hW := t_end_W (w := t_w 70) (by decide) hw
    have a0 := (l_expr X T f 0 (s + (t_w 70).length) (d + 29) (z_S I st) (by omega) hW.2 HS).2.2.1 (by omega)
    rw [hW.1] at a0
    cases hr : P_e B n f 2 0 (t_nx B n s) with
    | none => exact ⟨fun q1 L h => (by cases h), fun e h => (by cases h)⟩
    | some r =>
      rw [hr] at a0
      cases r with
      | error e =>
        refine ⟨fun q1 L h => (by cases h), fun e' h' => ?_⟩
        cases h'
        obtain ⟨v2, J, x1, xv, x2, x3, x4⟩ := a0.2 e rfl
        have x31 := x3.1
        refine ⟨J, ?_, x2, x3, z_fr_t (z_S_fr I st) x4⟩
        by_cases hl : v2 = 0 <;> simp (disch := omega) only [e_X12_lawLine_139, e_X12_lawLine_139_3, k_X12_lawLine_139_3, e_X12_lawLine_139_9, k_X12_lawLine_139_9, e_X12_lawLine_139_15, k_X12_lawLine_139_15, e_X12_lawLine_139_21, k_X12_lawLine_139_21, e_X12_lawLine_139_25, e_X12_lawLine_139_33, k_X12_lawLine_139_33, e_X12_lawLine_139_41, k_X12_lawLine_139_41, e_X12_lawLine_139_43, e_X12_lawLine_139_52, k_X12_lawLine_139_52, e_X12_lawLine_139_55, k_X12_lawLine_139_55, e_X12_lawLine_139_56, e_X12_lawLine_139_59, e_X12_lawLine_139_81, e_X12_lawLine_139_92, e_X12_lawLine_139_101, e_X12_lawLine_139_104, z_A_k, hf, W, hw, x1, x2, hl, q_bd_l, z_ltT, z_ltF, z_eqT, z_eqF, z_ltlT, z_ltlF, z_lltT, z_lltF, z_eqlT, z_eqlF, z_in, z_k7, z_cl, z_lneg, z_llT, z_llF, z_s1, z_nI_cl, z_nlt0, z_ne_m1, z_b0, z_b1, z_la, z_al, z_lm, z_ml, z_nm, nI_add, pk_mul, ↓reduceIte, not_true_eq_false, not_false_eq_true, true_or, or_true, false_or, or_false, true_and, and_true, and_false, false_and, Classical.not_not, Nat.add_zero, z_01, z_em, z_bit_p, Nat.not_le, Nat.not_lt, reduceCtorEq, if_true, if_false]
      | ok a =>
        refine ⟨fun q1 L h => ?_, fun e h => (by cases h)⟩
        cases h
        obtain ⟨q1, y1, y2, y3⟩ := a0.1 a rfl
        rw [z_S_fc] at y3
        refine ⟨q1, y1, y2, ?_⟩
        unfold r_ln
        by_cases hl : a.2.2 (z_fc I) = 0 <;> simp (disch := omega) only [e_X12_lawLine_139, e_X12_lawLine_139_3, k_X12_lawLine_139_3, e_X12_lawLine_139_9, k_X12_lawLine_139_9, e_X12_lawLine_139_15, k_X12_lawLine_139_15, e_X12_lawLine_139_21, k_X12_lawLine_139_21, e_X12_lawLine_139_25, e_X12_lawLine_139_33, k_X12_lawLine_139_33, e_X12_lawLine_139_41, k_X12_lawLine_139_41, e_X12_lawLine_139_43, e_X12_lawLine_139_52, k_X12_lawLine_139_52, e_X12_lawLine_139_55, k_X12_lawLine_139_55, e_X12_lawLine_139_56, e_X12_lawLine_139_81, e_X12_lawLine_139_92, e_X12_lawLine_139_101, e_X12_lawLine_139_104, z_A_k, hf, W, hw, y3, hl, L59, q_bd_l, z_ltT, z_ltF, z_eqT, z_eqF, z_ltlT, z_ltlF, z_lltT, z_lltF, z_eqlT, z_eqlF, z_in, z_k7, z_cl, z_lneg, z_llT, z_llF, z_s1, z_nI_cl, z_nlt0, z_ne_m1, z_b0, z_b1, z_la, z_al, z_lm, z_ml, z_nm, nI_add, pk_mul, ↓reduceIte, not_true_eq_false, not_false_eq_true, true_or, or_true, false_or, or_false, true_and, and_true, and_false, false_and, Classical.not_not, Nat.add_zero, z_01, z_em, z_bit_p, Nat.not_le, Nat.not_lt, reduceCtorEq, if_true, if_false]
  · rw [if_neg hw]
    refine ⟨fun q1 L h => ?_, fun e h => (by cases h)⟩
    cases h
    refine ⟨s, hs, by rw [← es]; exact t_sk_sk B n p, ?_⟩
    unfold r_ln
    simp (disch := omega) only [e_X12_lawLine_139, e_X12_lawLine_139_3, k_X12_lawLine_139_3, e_X12_lawLine_139_9, k_X12_lawLine_139_9, e_X12_lawLine_139_15, k_X12_lawLine_139_15, e_X12_lawLine_139_21, k_X12_lawLine_139_21, e_X12_lawLine_139_25, e_X12_lawLine_139_33, k_X12_lawLine_139_33, e_X12_lawLine_139_41, k_X12_lawLine_139_41, e_X12_lawLine_139_43, e_X12_lawLine_139_52, k_X12_lawLine_139_52, e_X12_lawLine_139_55, k_X12_lawLine_139_55, e_X12_lawLine_139_56, e_X12_lawLine_139_81, e_X12_lawLine_139_92, e_X12_lawLine_139_101, e_X12_lawLine_139_104, z_A_k, hf, W, hw, L59, q_bd_l, z_ltT, z_ltF, z_eqT, z_eqF, z_ltlT, z_ltlF, z_lltT, z_lltF, z_eqlT, z_eqlF, z_in, z_k7, z_cl, z_lneg, z_llT, z_llF, z_s1, z_nI_cl, z_nlt0, z_ne_m1, z_b0, z_b1, z_la, z_al, z_lm, z_ml, z_nm, nI_add, pk_mul, ↓reduceIte, not_true_eq_false, not_false_eq_true, true_or, or_true, false_or, or_false, true_and, and_true, and_false, false_and, Classical.not_not, Nat.add_zero, z_01, z_em, z_bit_p, Nat.not_le, Nat.not_lt, reduceCtorEq, if_true, if_false]
theorem l_line (X : Sx) (d : Nat) (I : Ii) (T : Tt) {B : Nat → Nat} {n : Nat} (H : l_hy I B n 0) (f : Nat) (st : S3) (p : Nat) (hp : p ≤ n) : z_pl B n I T st (P_line B n f (t_sk B n p)) (c_X12_lawLine_139 X (d + 30) (z_A (z_S I st) p) T) := by
  have HS := z_S_hy H st
  obtain ⟨h, hf, hD, ho, hdeep⟩ := id HS
  have hs := t_sk_le (B := B) hp
  have h1 := h.1
  have W0 := l_word X (d + 26) 67 (by decide) (z_S I st) T h p hp
  have hss := t_sk_sk B n p
  have L43 := fun k m hk q hq => l_ln43 X d I T H f k m hk st q hq
  rw [e_X12_lawLine_139]
  unfold P_line
  generalize es : t_sk B n p = s at *
  have W := fun (d i : Nat) (hi : OfNat.ofNat i < 71) => l_word X d i hi (z_S I st) T h s hs
  rw [hss] at W
  have nums : ∀ i k, i < 71 → k < 3 → p_kind B n s = k → t_isW (t_w i) B n s = true → c_X12_lawLine_139_25 X (d + 29) (nI k) (z_A (z_S I st) (s + (t_w i).length)) T = q_bd (c_X12_figures_139 X (d + 29) 0 99 (z_A (z_S I st) (s + (t_w i).length)) T) (fun v9 h' => q_res X q_sb q_pg (d + 29) cd_X12_lawLine 41 [some (.ref 139), some (.int (nI k)), none, none] (v9.toList ++ []) h') → z_pl B n I T st (if p_kind B n s = 4 then some (.error s) else if p_kind B n s = 3 then P_if B n f 3 0 (t_nx B n s) else if t_isN 0 99 3 B n (t_nx B n s) = true then P_if B n f (p_kind B n s) (t_num B (t_nx B n s) (t_nf B n (t_nx B n s))) (t_nx B n (t_nx B n s)) else some (.error (t_nx B n s))) (c_X12_lawLine_139_25 X (d + 29) (nI k) (z_A (z_S I st) (s + (t_w i).length)) T) := by
    intro i k hi hk hkd hw hx
    have hl : 0 < (t_w i).length := (by decide : ∀ i, i < 71 → 0 < (t_w i).length) i hi
    have hW := t_end_W hl hw
    rw [if_neg (by omega), if_neg (by omega), hkd, hx]
    have F := l_fig X (d + 25) 0 99 (z_S I st) T h hf 3 (by omega) hD (s + (t_w i).length) hW.2
    rw [hW.1] at F
    have hnl : t_nx B n s ≤ n := t_nx_le hs
    by_cases hN : t_isN 0 99 3 B n (t_nx B n s) = true
    · rw [if_pos hN]
      have l4 := L43 k (t_num B (t_nx B n s) (t_nf B n (t_nx B n s))) (by omega) (t_end B n (t_nx B n s)) (t_end_le hnl)
      have e9 : t_sk B n (t_end B n (t_nx B n s)) = t_nx B n (t_nx B n s) := rfl
      rw [e9] at l4
      have go : q_bd (c_X12_figures_139 X (d + 29) 0 99 (z_A (z_S I st) (s + (t_w i).length)) T) (fun v9 h' => q_res X q_sb q_pg (d + 29) cd_X12_lawLine 41 [some (.ref 139), some (.int (nI k)), none, none] (v9.toList ++ []) h') = c_X12_lawLine_139_43 X (d + 29) (nI k) (nI (t_num B (t_nx B n s) (t_nf B n (t_nx B n s)))) (z_A (z_S I st) (t_end B n (t_nx B n s))) T := by
        simp (disch := omega) only [e_X12_lawLine_139_41, k_X12_lawLine_139_41, F.1 hN, q_bd_l, z_ltT, z_ltF, z_eqT, z_eqF, z_ltlT, z_ltlF, z_lltT, z_lltF, z_eqlT, z_eqlF, z_in, z_k7, z_cl, z_lneg, z_llT, z_llF, z_s1, z_nI_cl, z_nlt0, z_ne_m1, z_b0, z_b1, z_la, z_al, z_lm, z_ml, z_nm, nI_add, pk_mul, ↓reduceIte, not_true_eq_false, not_false_eq_true, true_or, or_true, false_or, or_false, true_and, and_true, and_false, false_and, Classical.not_not, Nat.add_zero, z_01, z_em, z_bit_p, Nat.not_le, Nat.not_lt, reduceCtorEq, if_true, if_false]
      rw [go]
      exact l4
    · rw [if_neg hN]
      obtain ⟨v, J, F1, F2, F4, F3⟩ := F.2 hN
      refine ⟨fun q1 L h => (by cases h), fun e' h' => ?_⟩
      cases h'
      refine ⟨J, ?_, F2, ⟨hnl, z_aw_m F4 (by omega)⟩, z_fr_t (z_S_fr I st) F3⟩
      simp (disch := omega) only [e_X12_lawLine_139, e_X12_lawLine_139_3, k_X12_lawLine_139_3, e_X12_lawLine_139_9, k_X12_lawLine_139_9, e_X12_lawLine_139_15, k_X12_lawLine_139_15, e_X12_lawLine_139_21, k_X12_lawLine_139_21, e_X12_lawLine_139_25, e_X12_lawLine_139_33, k_X12_lawLine_139_33, e_X12_lawLine_139_41, k_X12_lawLine_139_41, e_X12_lawLine_139_43, e_X12_lawLine_139_52, k_X12_lawLine_139_52, e_X12_lawLine_139_55, k_X12_lawLine_139_55, e_X12_lawLine_139_56, e_X12_lawLine_139_59, e_X12_lawLine_139_81, e_X12_lawLine_139_92, e_X12_lawLine_139_101, e_X12_lawLine_139_104, F1, F2, q_bd_l, z_ltT, z_ltF, z_eqT, z_eqF, z_ltlT, z_ltlF, z_lltT, z_lltF, z_eqlT, z_eqlF, z_in, z_k7, z_cl, z_lneg, z_llT, z_llF, z_s1, z_nI_cl, z_nlt0, z_ne_m1, z_b0, z_b1, z_la, z_al, z_lm, z_ml, z_nm, nI_add, pk_mul, ↓reduceIte, not_true_eq_false, not_false_eq_true, true_or, or_true, false_or, or_false, true_and, and_true, and_false, false_and, Classical.not_not, Nat.add_zero, z_01, z_em, z_bit_p, Nat.not_le, Nat.not_lt, reduceCtorEq, if_true, if_false]
  have k25 : ∀ (i k q : Nat), k < 3 → c_X12_lawLine_139_25 X (d + 29) (nI k) (z_A (z_S I st) q) T = q_bd (c_X12_figures_139 X (d + 29) 0 99 (z_A (z_S I st) q) T) (fun v9 h' => q_res X q_sb q_pg (d + 29) cd_X12_lawLine 41 [some (.ref 139), some (.int (nI k)), none, none] (v9.toList ++ []) h') := by
    intro i k q hk
    rw [e_X12_lawLine_139_25]
    simp (disch := omega) only [q_bd_l, z_ltT, z_ltF, z_eqT, z_eqF, z_ltlT, z_ltlF, z_lltT, z_lltF, z_eqlT, z_eqlF, z_in, z_k7, z_cl, z_lneg, z_llT, z_llF, z_s1, z_nI_cl, z_nlt0, z_ne_m1, z_b0, z_b1, z_la, z_al, z_lm, z_ml, z_nm, nI_add, pk_mul, ↓reduceIte, not_true_eq_false, not_false_eq_true, true_or, or_true, false_or, or_false, true_and, and_true, and_false, false_and, Classical.not_not, Nat.add_zero, z_01, z_em, z_bit_p, Nat.not_le, Nat.not_lt, reduceCtorEq, if_true, if_false]
  by_cases hw0 : t_isW (t_w 67) B n s = true
  · have go : q_bd (c_X12_has__139 X (d + 29) 67 (z_A (z_S I st) p) T) (fun v9 h' => q_res X q_sb q_pg (d + 29) cd_X12_lawLine 3 [some (.ref 139), none, none, none] (v9.toList ++ []) h') = c_X12_lawLine_139_25 X (d + 29) (nI 0) (z_A (z_S I st) (s + (t_w 67).length)) T := by
      simp (disch := omega) only [e_X12_lawLine_139_3, k_X12_lawLine_139_3, W0, hw0, q_bd_l, z_ltT, z_ltF, z_eqT, z_eqF, z_ltlT, z_ltlF, z_lltT, z_lltF, z_eqlT, z_eqlF, z_in, z_k7, z_cl, z_lneg, z_llT, z_llF, z_s1, z_nI_cl, z_nlt0, z_ne_m1, z_b0, z_b1, z_la, z_al, z_lm, z_ml, z_nm, nI_add, pk_mul, ↓reduceIte, not_true_eq_false, not_false_eq_true, true_or, or_true, false_or, or_false, true_and, and_true, and_false, false_and, Classical.not_not, Nat.add_zero, z_01, z_em, z_bit_p, Nat.not_le, Nat.not_lt, reduceCtorEq, if_true, if_false]
      rfl
    rw [go]
    exact nums 67 0 (by omega) (by omega) (by unfold p_kind; rw [if_pos hw0]) hw0 (k25 67 0 _ (by omega))
  by_cases hw1 : t_isW (t_w 68) B n s = true
  · have go : q_bd (c_X12_has__139 X (d + 29) 67 (z_A (z_S I st) p) T) (fun v9 h' => q_res X q_sb q_pg (d + 29) cd_X12_lawLine 3 [some (.ref 139), none, none, none] (v9.toList ++ []) h') = c_X12_lawLine_139_25 X (d + 29) (nI 1) (z_A (z_S I st) (s + (t_w 68).length)) T := by
      simp (disch := omega) only [e_X12_lawLine_139_3, k_X12_lawLine_139_3, e_X12_lawLine_139_9, k_X12_lawLine_139_9, W0, hw0, W, hw1, q_bd_l, z_ltT, z_ltF, z_eqT, z_eqF, z_ltlT, z_ltlF, z_lltT, z_lltF, z_eqlT, z_eqlF, z_in, z_k7, z_cl, z_lneg, z_llT, z_llF, z_s1, z_nI_cl, z_nlt0, z_ne_m1, z_b0, z_b1, z_la, z_al, z_lm, z_ml, z_nm, nI_add, pk_mul, ↓reduceIte, not_true_eq_false, not_false_eq_true, true_or, or_true, false_or, or_false, true_and, and_true, and_false, false_and, Classical.not_not, Nat.add_zero, z_01, z_em, z_bit_p, Nat.not_le, Nat.not_lt, reduceCtorEq, if_true, if_false]
      rfl
    rw [go]
    exact nums 68 1 (by omega) (by omega) (by unfold p_kind; rw [if_neg hw0, if_pos hw1]) hw1 (k25 67 1 _ (by omega))
  by_cases hw2 : t_isW (t_w 51) B n s = true
  · have go : q_bd (c_X12_has__139 X (d + 29) 67 (z_A (z_S I st) p) T) (fun v9 h' => q_res X q_sb q_pg (d + 29) cd_X12_lawLine 3 [some (.ref 139), none, none, none] (v9.toList ++ []) h') = c_X12_lawLine_139_25 X (d + 29) (nI 2) (z_A (z_S I st) (s + (t_w 51).length)) T := by
      simp (disch := omega) only [e_X12_lawLine_139_3, k_X12_lawLine_139_3, e_X12_lawLine_139_9, k_X12_lawLine_139_9, e_X12_lawLine_139_15, k_X12_lawLine_139_15, W0, hw0, W, hw1, hw2, q_bd_l, z_ltT, z_ltF, z_eqT, z_eqF, z_ltlT, z_ltlF, z_lltT, z_lltF, z_eqlT, z_eqlF, z_in, z_k7, z_cl, z_lneg, z_llT, z_llF, z_s1, z_nI_cl, z_nlt0, z_ne_m1, z_b0, z_b1, z_la, z_al, z_lm, z_ml, z_nm, nI_add, pk_mul, ↓reduceIte, not_true_eq_false, not_false_eq_true, true_or, or_true, false_or, or_false, true_and, and_true, and_false, false_and, Classical.not_not, Nat.add_zero, z_01, z_em, z_bit_p, Nat.not_le, Nat.not_lt, reduceCtorEq, if_true, if_false]
      rfl
    rw [go]
    exact nums 51 2 (by omega) (by omega) (by unfold p_kind; rw [if_neg hw0, if_neg hw1, if_pos hw2]) hw2 (k25 67 2 _ (by omega))
  by_cases hw3 : t_isW (t_w 69) B n s = true
  · have hW := t_end_W (w := t_w 69) (by decide) hw3
    have l4 := L43 3 0 (by omega) _ hW.2
    rw [hW.1] at l4
    have ek : p_kind B n s = 3 := by unfold p_kind; rw [if_neg hw0, if_neg hw1, if_neg hw2, if_pos hw3]
    rw [if_neg (by omega), if_pos ek]
    have go : q_bd (c_X12_has__139 X (d + 29) 67 (z_A (z_S I st) p) T) (fun v9 h' => q_res X q_sb q_pg (d + 29) cd_X12_lawLine 3 [some (.ref 139), none, none, none] (v9.toList ++ []) h') = c_X12_lawLine_139_43 X (d + 29) (nI 3) (nI 0) (z_A (z_S I st) (s + (t_w 69).length)) T := by
      simp (disch := omega) only [e_X12_lawLine_139_3, k_X12_lawLine_139_3, e_X12_lawLine_139_9, k_X12_lawLine_139_9, e_X12_lawLine_139_15, k_X12_lawLine_139_15, e_X12_lawLine_139_21, k_X12_lawLine_139_21, e_X12_lawLine_139_25, W0, hw0, W, hw1, hw2, hw3, q_bd_l, z_ltT, z_ltF, z_eqT, z_eqF, z_ltlT, z_ltlF, z_lltT, z_lltF, z_eqlT, z_eqlF, z_in, z_k7, z_cl, z_lneg, z_llT, z_llF, z_s1, z_nI_cl, z_nlt0, z_ne_m1, z_b0, z_b1, z_la, z_al, z_lm, z_ml, z_nm, nI_add, pk_mul, ↓reduceIte, not_true_eq_false, not_false_eq_true, true_or, or_true, false_or, or_false, true_and, and_true, and_false, false_and, Classical.not_not, Nat.add_zero, z_01, z_em, z_bit_p, Nat.not_le, Nat.not_lt, reduceCtorEq, if_true, if_false]
      rfl
    rw [go]
    exact l4
  have ek : p_kind B n s = 4 := by unfold p_kind; rw [if_neg hw0, if_neg hw1, if_neg hw2, if_neg hw3]
  rw [if_pos ek]
  refine ⟨fun q1 L h => (by cases h), fun e' h' => ?_⟩
  cases h'
  refine ⟨q_w (z_A (z_S I st) s) 139 13 (nI s), ?_, z_w_s _ _ _ _, ⟨hs, z_aw_A _ _ _ (by omega) 6⟩, z_fr_w (z_fr_t (z_S_fr I st) (z_A_fr _ _)) 139 13 _ rfl⟩
  simp (disch := omega) only [e_X12_lawLine_139, e_X12_lawLine_139_3, k_X12_lawLine_139_3, e_X12_lawLine_139_9, k_X12_lawLine_139_9, e_X12_lawLine_139_15, k_X12_lawLine_139_15, e_X12_lawLine_139_21, k_X12_lawLine_139_21, e_X12_lawLine_139_25, e_X12_lawLine_139_33, k_X12_lawLine_139_33, e_X12_lawLine_139_41, k_X12_lawLine_139_41, e_X12_lawLine_139_43, e_X12_lawLine_139_52, k_X12_lawLine_139_52, e_X12_lawLine_139_55, k_X12_lawLine_139_55, e_X12_lawLine_139_56, e_X12_lawLine_139_59, e_X12_lawLine_139_81, e_X12_lawLine_139_92, e_X12_lawLine_139_101, e_X12_lawLine_139_104, W0, hw0, W, hw1, hw2, hw3, z_A_11, l_wrong X (d + 28) (nI s) (z_A (z_S I st) s) T (by rw [z_A_k _ _ _ (by decide)]; exact hf), q_bd_l, z_ltT, z_ltF, z_eqT, z_eqF, z_ltlT, z_ltlF, z_lltT, z_lltF, z_eqlT, z_eqlF, z_in, z_k7, z_cl, z_lneg, z_llT, z_llF, z_s1, z_nI_cl, z_nlt0, z_ne_m1, z_b0, z_b1, z_la, z_al, z_lm, z_ml, z_nm, nI_add, pk_mul, ↓reduceIte, not_true_eq_false, not_false_eq_true, true_or, or_true, false_or, or_false, true_and, and_true, and_false, false_and, Classical.not_not, Nat.add_zero, z_01, z_em, z_bit_p, Nat.not_le, Nat.not_lt, reduceCtorEq, if_true, if_false]
/-- LINES -/
def r_lns (fc : Fc) : List Ln → S3 → S3
  | [], st => st
  | L :: Ls, st => r_lns fc Ls (r_ln fc L st)
def z_pls (B : Nat → Nat) (n : Nat) (I : Ii) (T : Tt) (st : S3) (i : Nat) (r : Option (Except Nat (List Ln))) (x : Rs) : Prop :=
  (∀ Ls, r = some (.ok Ls) → x = z_r (nI (i + Ls.length)) (z_A (z_S I (r_lns (z_fc I) Ls st)) n) T) ∧ (∀ e, r = some (.error e) → ∃ v J, x = z_r v J T ∧ J 139 13 = nI e ∧ e ≤ n ∧ z_fr m_p I J)
theorem l_read13e (X : Sx) (d : Nat) (v2 v3 : Int32) (J : Ii) (T : Tt) (e : Nat) (he : e ≤ 400) (hJ : J 139 13 = nI e) : c_X12_read_139_13 X d 1 v2 v3 J T = z_r v3 J T := by
  rw [e_X12_read_139_13]
  by_cases h : v2 = 0 <;> simp (disch := omega) only [e_X12_read_139, e_X12_read_139_2, k_X12_read_139_2, e_X12_read_139_10, e_X12_read_139_21, k_X12_read_139_21, e_X12_read_139_27, e_X12_read_139_32, k_X12_read_139_32, e_X12_read_139_37, k_X12_read_139_37, e_X12_read_139_40, k_X12_read_139_40, e_X12_read_139_43, k_X12_read_139_43, e_X12_read_139_52, e_X12_read_139_58, k_X12_read_139_58, e_X12_read_139_70, k_X12_read_139_70, e_X12_read_139_71, hJ, h, q_bd_l, z_ltT, z_ltF, z_eqT, z_eqF, z_ltlT, z_ltlF, z_lltT, z_lltF, z_eqlT, z_eqlF, z_in, z_k7, z_cl, z_lneg, z_llT, z_llF, z_s1, z_nI_cl, z_nlt0, z_ne_m1, z_b0, z_b1, z_la, z_al, z_lm, z_ml, z_nm, nI_add, pk_mul, ↓reduceIte, not_true_eq_false, not_false_eq_true, true_or, or_true, false_or, or_false, true_and, and_true, and_false, false_and, Classical.not_not, Nat.add_zero, z_01, z_em, z_bit_p, Nat.not_le, Nat.not_lt, reduceCtorEq, if_true, if_false]
theorem z_tx_fr {I J : Ii} {B : Nat → Nat} {n : Nat} (h : z_tx I B n) (hf : z_fr m_p I J) : z_tx J B n := by
  obtain ⟨h1, h2, h3, h4⟩ := h
  refine ⟨h1, by rw [hf 139 10 rfl]; exact h2, h3, ?_⟩
  rcases h4 with ⟨h4, h5⟩ | ⟨h4, h5⟩
  · exact .inl ⟨by rw [hf 139 9 rfl]; exact h4, fun k hk => by rw [hf 144 k rfl]; exact h5 k hk⟩
  · exact .inr ⟨by rw [hf 139 9 rfl]; exact h4, fun k hk => by rw [hf 140 _ rfl]; exact h5 k hk⟩
/-- a skip in a state where a fault stands -/
theorem l_skipE0 (X : Sx) (d : Nat) (T : Tt) {B : Nat → Nat} {n : Nat} : ∀ m J, z_tx J B n → (∃ v, J 139 11 = v ∧ (nI n - v).toNatClampNeg ≤ m ∧ (v < 0 → False)) → ∃ J', c_X12_skip_139_0 X (d + 1) J T = z_v J' T ∧ J' 139 13 = J 139 13 ∧ z_fr m_p J J' := by
  intro m
  induction m with
  | zero =>
    intro J h ⟨v, hv, hm, hn⟩
    have h1 := h.1
    have h2 := h.2.1
    rw [e_X12_skip_139_0]
    have : ¬ v < nI n := by
      intro hlt
      obtain ⟨j, hj, rfl⟩ := nI_of (x := v) hn
      rw [z_nI_lt j n hj (by omega)] at hlt
      have e := pk_sub (a := n) (b := j) (by omega)
      rw [e, nI_clamp (by omega)] at hm
      omega
    simp (disch := omega) only [hv, h2, this, q_bd_l, z_ltT, z_ltF, z_eqT, z_eqF, z_ltlT, z_ltlF, z_lltT, z_lltF, z_eqlT, z_eqlF, z_in, z_k7, z_cl, z_lneg, z_llT, z_llF, z_s1, z_nI_cl, z_nlt0, z_ne_m1, z_b0, z_b1, z_la, z_al, z_lm, z_ml, z_nm, nI_add, pk_mul, ↓reduceIte, not_true_eq_false, not_false_eq_true, true_or, or_true, false_or, or_false, true_and, and_true, and_false, false_and, Classical.not_not, Nat.add_zero, z_01, z_em, z_bit_p, Nat.not_le, Nat.not_lt, reduceCtorEq, if_true, if_false]
    exact ⟨J, rfl, rfl, z_fr_r _ _⟩
  | succ m ih =>
    intro J h ⟨v, hv, hm, hn⟩
    have h1 := h.1
    have h2 := h.2.1
    rw [e_X12_skip_139_0]
    obtain ⟨j, hj, rfl⟩ := nI_of (x := v) hn
    by_cases hlt : j < n
    · have h3 := h.2.2.1 j hlt
      simp (disch := omega) only [e_X12_skip_139_9, k_X12_skip_139_9, hv, h2, l_letter X d J T h j hlt, q_bd_l, z_ltT, z_ltF, z_eqT, z_eqF, z_ltlT, z_ltlF, z_lltT, z_lltF, z_eqlT, z_eqlF, z_in, z_k7, z_cl, z_lneg, z_llT, z_llF, z_s1, z_nI_cl, z_nlt0, z_ne_m1, z_b0, z_b1, z_la, z_al, z_lm, z_ml, z_nm, nI_add, pk_mul, ↓reduceIte, not_true_eq_false, not_false_eq_true, true_or, or_true, false_or, or_false, true_and, and_true, and_false, false_and, Classical.not_not, Nat.add_zero, z_01, z_em, z_bit_p, Nat.not_le, Nat.not_lt, reduceCtorEq, if_true, if_false]
      by_cases hb : nI (B j) = 32
      · rw [if_pos hb]
        obtain ⟨J', x1, x2, x3⟩ := ih (q_w J 139 11 (nI (j + 1))) (z_tx_w h 11 _ (by decide) (by decide)) ⟨nI (j + 1), z_w_s _ _ _ _, by
          have e := pk_sub (a := n) (b := j) (by omega)
          rw [e, nI_clamp (by omega)] at hm
          have e2 := pk_sub (a := n) (b := j + 1) (by omega)
          rw [e2, nI_clamp (by omega)]; omega, nI_pos (by omega)⟩
        exact ⟨J', x1, by rw [x2, z_w_k _ _ _ _ 13 (by decide)], z_fr_t (z_fr_w (z_fr_r _ _) 139 11 _ rfl) x3⟩
      · rw [if_neg hb]
        exact ⟨J, rfl, rfl, z_fr_r _ _⟩
    · simp (disch := omega) only [hv, h2, q_bd_l, z_ltT, z_ltF, z_eqT, z_eqF, z_ltlT, z_ltlF, z_lltT, z_lltF, z_eqlT, z_eqlF, z_in, z_k7, z_cl, z_lneg, z_llT, z_llF, z_s1, z_nI_cl, z_nlt0, z_ne_m1, z_b0, z_b1, z_la, z_al, z_lm, z_ml, z_nm, nI_add, pk_mul, ↓reduceIte, not_true_eq_false, not_false_eq_true, true_or, or_true, false_or, or_false, true_and, and_true, and_false, false_and, Classical.not_not, Nat.add_zero, z_01, z_em, z_bit_p, Nat.not_le, Nat.not_lt, reduceCtorEq, if_true, if_false]
      exact ⟨J, rfl, rfl, z_fr_r _ _⟩
