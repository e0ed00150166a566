/-! ===== THE REFERENCE READS THE LAW ===== -/
theorem l_skipE (X : Sx) (d : Nat) (T : Tt) {B : Nat → Nat} {n b : Nat} (hb : b ≤ 1000) (J : Ii) (h : z_tx J B n) (hw : z_aw b J) : ∃ J', c_X12_skip_139 X (d + 2) J T = z_v J' T ∧ J' 139 13 = J 139 13 ∧ z_fr m_p J J' := by
  obtain ⟨w, h1, h2⟩ := hw
  have hn := h.1
  obtain ⟨J', x1, x2, x3⟩ := l_skipE0 X d T 3000000000 J h ⟨nI w, h1, by
    have := Int32.toNatClampNeg_lt (nI n - nI w)
    omega, nI_pos (by omega)⟩
  refine ⟨J', ?_, x2, x3⟩
  rw [← x1, e_X12_skip_139, e_X12_skip_139_0]
theorem l_read40e (X : Sx) (d : Nat) (v3 : Int32) (J : Ii) (T : Tt) {B : Nat → Nat} {n e : Nat} (hx : z_tx J B n) (he : e ≤ 400) (hJ : J 139 13 = nI e) (hw : z_aw 6 J) : ∃ J', c_X12_read_139_40 X (d + 2) 1 1 v3 J T = z_r (v3 + 1) J' T ∧ J' 139 13 = nI e ∧ z_fr m_p J J' := by
  obtain ⟨J', x1, x2, x3⟩ := l_skipE X d T (by omega) J hx hw
  refine ⟨J', ?_, x2.trans hJ, x3⟩
  have hJ' : J' 139 13 = nI e := x2.trans hJ
  rw [e_X12_read_139_40, x1]
  simp (disch := omega) only [e_X12_read_139, e_X12_read_139_2, k_X12_read_139_2, e_X12_read_139_10, e_X12_read_139_21, k_X12_read_139_21, e_X12_read_139_27, e_X12_read_139_32, k_X12_read_139_32, e_X12_read_139_37, k_X12_read_139_37, e_X12_read_139_40, k_X12_read_139_40, e_X12_read_139_43, k_X12_read_139_43, e_X12_read_139_52, e_X12_read_139_58, k_X12_read_139_58, e_X12_read_139_70, k_X12_read_139_70, e_X12_read_139_71, hJ', l_read13e X (d + 2) 0 (v3 + 1) J' T e he hJ', q_bd_l, z_ltT, z_ltF, z_eqT, z_eqF, z_ltlT, z_ltlF, z_lltT, z_lltF, z_eqlT, z_eqlF, z_in, z_k7, z_cl, z_lneg, z_llT, z_llF, z_s1, z_nI_cl, z_nlt0, z_ne_m1, z_b0, z_b1, z_la, z_al, z_lm, z_ml, z_nm, nI_add, pk_mul, ↓reduceIte, not_true_eq_false, not_false_eq_true, true_or, or_true, false_or, or_false, true_and, and_true, and_false, false_and, Classical.not_not, Nat.add_zero, z_01, z_em, z_bit_p, Nat.not_le, Nat.not_lt, reduceCtorEq, if_true, if_false]
theorem l_ls (X : Sx) (d : Nat) (I : Ii) (T : Tt) {B : Nat → Nat} {n : Nat} (H : l_hy I B n 0) (f : Nat) : ∀ (g i p : Nat) (st : S3), g + i = 12 → p ≤ n → z_pls B n I T st i (P_ls B n f g (t_sk B n p)) (c_X12_read_139_13 X (d + 30) 1 1 (nI i) (z_A (z_S I st) p) T) := by
  intro g
  induction g with
  | zero =>
    intro i p st hg hp
    have HS := z_S_hy H st
    obtain ⟨h, hf, hD, ho, hdeep⟩ := id HS
    have hs := t_sk_le (B := B) hp
    have h1 := h.1
    have hi : i = 12 := by omega
    subst hi
    have sk0 := l_skip X (d + 28) (z_S I st) T h p hp
    have wr := l_wrong X (d + 29) (nI (t_sk B n p)) (z_A (z_S I st) (t_sk B n p)) T (by rw [z_A_k _ _ _ (by decide)]; exact hf)
    obtain ⟨J', x1, x2, x3⟩ := l_read40e X (d + 28) (nI 12) (q_w (z_A (z_S I st) (t_sk B n p)) 139 13 (nI (t_sk B n p))) T (z_tx_w (z_tx_A h _) 13 _ (by decide) (by decide)) (e := t_sk B n p) (by omega) (z_w_s _ _ _ _) (z_aw_A _ _ _ (by omega) 6)
    refine ⟨fun Ls h => (by cases h), fun e h => ?_⟩
    cases h
    refine ⟨nI 12 + 1, J', ?_, x2, hs, z_fr_t (z_fr_w (z_fr_t (z_S_fr I st) (z_A_fr _ _)) 139 13 _ rfl) x3⟩
    rw [e_X12_read_139_13]
    simp (disch := omega) only [e_X12_read_139, e_X12_read_139_2, k_X12_read_139_2, e_X12_read_139_10, e_X12_read_139_21, k_X12_read_139_21, e_X12_read_139_27, e_X12_read_139_32, k_X12_read_139_32, e_X12_read_139_37, k_X12_read_139_37, k_X12_read_139_40, e_X12_read_139_43, k_X12_read_139_43, e_X12_read_139_52, e_X12_read_139_58, k_X12_read_139_58, e_X12_read_139_70, k_X12_read_139_70, e_X12_read_139_71, z_A_k, z_A_11, hf, sk0, wr, x1, q_bd_l, z_ltT, z_ltF, z_eqT, z_eqF, z_ltlT, z_ltlF, z_lltT, z_lltF, z_eqlT, z_eqlF, z_in, z_k7, z_cl, z_lneg, z_llT, z_llF, z_s1, z_nI_cl, z_nlt0, z_ne_m1, z_b0, z_b1, z_la, z_al, z_lm, z_ml, z_nm, nI_add, pk_mul, ↓reduceIte, not_true_eq_false, not_false_eq_true, true_or, or_true, false_or, or_false, true_and, and_true, and_false, false_and, Classical.not_not, Nat.add_zero, z_01, z_em, z_bit_p, Nat.not_le, Nat.not_lt, reduceCtorEq, if_true, if_false]
  | succ g ih =>
    intro i p st hg hp
    have HS := z_S_hy H st
    obtain ⟨h, hf, hD, ho, hdeep⟩ := id HS
    have hs := t_sk_le (B := B) hp
    have h1 := h.1
    have hss := t_sk_sk B n p
    have sk0 := l_skip X (d + 28) (z_S I st) T h p hp
    have ln := l_line X d I T H f st (t_sk B n p) hs
    rw [hss] at ln
    unfold P_ls
    generalize es : t_sk B n p = s at *
    cases hr : P_line B n f s with
    | none => exact ⟨fun Ls h => (by cases h), fun e h => (by cases h)⟩
    | some r =>
      rw [hr] at ln
      cases r with
      | error e =>
        obtain ⟨J, x1, x2, x3, x4⟩ := ln.2 e rfl
        have x31 := x3.1
        obtain ⟨J', y1, y2, y3⟩ := l_read40e X (d + 28) (nI i) J T (z_tx_fr H.1 x4) (e := e) (by omega) x2 x3.2
        refine ⟨fun Ls h => (by cases h), fun e h => ?_⟩
        cases h
        refine ⟨nI i + 1, J', ?_, y2, x31, z_fr_t x4 y3⟩
        rw [e_X12_read_139_13]
        simp (disch := omega) only [e_X12_read_139, e_X12_read_139_2, k_X12_read_139_2, e_X12_read_139_10, e_X12_read_139_21, k_X12_read_139_21, e_X12_read_139_27, e_X12_read_139_32, k_X12_read_139_32, e_X12_read_139_37, k_X12_read_139_37, k_X12_read_139_40, e_X12_read_139_43, k_X12_read_139_43, e_X12_read_139_52, e_X12_read_139_58, k_X12_read_139_58, e_X12_read_139_70, k_X12_read_139_70, e_X12_read_139_71, z_A_k, z_A_11, hf, sk0, x1, y1, q_bd_l, z_ltT, z_ltF, z_eqT, z_eqF, z_ltlT, z_ltlF, z_lltT, z_lltF, z_eqlT, z_eqlF, z_in, z_k7, z_cl, z_lneg, z_llT, z_llF, z_s1, z_nI_cl, z_nlt0, z_ne_m1, z_b0, z_b1, z_la, z_al, z_lm, z_ml, z_nm, nI_add, pk_mul, ↓reduceIte, not_true_eq_false, not_false_eq_true, true_or, or_true, false_or, or_false, true_and, and_true, and_false, false_and, Classical.not_not, Nat.add_zero, z_01, z_em, z_bit_p, Nat.not_le, Nat.not_lt, reduceCtorEq, if_true, if_false]
      | ok a =>
        obtain ⟨q1, L⟩ := a
        obtain ⟨q, w1, w2, w3⟩ := ln.1 q1 L rfl
        have HS2 := z_S_hy H (r_ln (z_fc I) L st)
        obtain ⟨g1, g2, g3, g4, g5⟩ := id HS2
        have g6 := g1.2.1
        have hq1 : q1 ≤ n := by rw [← w2]; exact t_sk_le w1
        have hqq : t_sk B n q1 = q1 := by rw [← w2]; exact t_sk_sk B n q
        have sk1 := l_skip X (d + 28) (z_S I (r_ln (z_fc I) L st)) T g1 q w1
        rw [w2] at sk1
        have sg := l_isSign X (d + 27) (z_S I (r_ln (z_fc I) L st)) T g1 q1 hq1 59 (by decide)
        rw [hqq] at sg
        dsimp only
        by_cases hn : q1 = n
        · rw [if_pos hn]
          refine ⟨fun Ls h => ?_, fun e h => (by cases h)⟩
          cases h
          subst hn
          rw [e_X12_read_139_13]
          simp (disch := omega) only [e_X12_read_139, e_X12_read_139_2, k_X12_read_139_2, e_X12_read_139_10, e_X12_read_139_21, k_X12_read_139_21, e_X12_read_139_27, e_X12_read_139_32, k_X12_read_139_32, e_X12_read_139_37, k_X12_read_139_37, e_X12_read_139_40, k_X12_read_139_40, e_X12_read_139_43, k_X12_read_139_43, e_X12_read_139_52, e_X12_read_139_58, k_X12_read_139_58, e_X12_read_139_70, k_X12_read_139_70, e_X12_read_139_71, z_A_k, z_A_11, hf, sk0, w3, sk1, g2, g6, q_bd_l, z_ltT, z_ltF, z_eqT, z_eqF, z_ltlT, z_ltlF, z_lltT, z_lltF, z_eqlT, z_eqlF, z_in, z_k7, z_cl, z_lneg, z_llT, z_llF, z_s1, z_nI_cl, z_nlt0, z_ne_m1, z_b0, z_b1, z_la, z_al, z_lm, z_ml, z_nm, nI_add, pk_mul, ↓reduceIte, not_true_eq_false, not_false_eq_true, true_or, or_true, false_or, or_false, true_and, and_true, and_false, false_and, Classical.not_not, Nat.add_zero, z_01, z_em, z_bit_p, Nat.not_le, Nat.not_lt, reduceCtorEq, if_true, if_false]
          rw [e_X12_read_139_13]
          simp (disch := omega) only [e_X12_read_139, e_X12_read_139_2, k_X12_read_139_2, e_X12_read_139_10, e_X12_read_139_21, k_X12_read_139_21, e_X12_read_139_27, e_X12_read_139_32, k_X12_read_139_32, e_X12_read_139_37, k_X12_read_139_37, e_X12_read_139_40, k_X12_read_139_40, e_X12_read_139_43, k_X12_read_139_43, e_X12_read_139_52, e_X12_read_139_58, k_X12_read_139_58, e_X12_read_139_70, k_X12_read_139_70, e_X12_read_139_71, q_bd_l, z_ltT, z_ltF, z_eqT, z_eqF, z_ltlT, z_ltlF, z_lltT, z_lltF, z_eqlT, z_eqlF, z_in, z_k7, z_cl, z_lneg, z_llT, z_llF, z_s1, z_nI_cl, z_nlt0, z_ne_m1, z_b0, z_b1, z_la, z_al, z_lm, z_ml, z_nm, nI_add, pk_mul, ↓reduceIte, not_true_eq_false, not_false_eq_true, true_or, or_true, false_or, or_false, true_and, and_true, and_false, false_and, Classical.not_not, Nat.add_zero, z_01, z_em, z_bit_p, Nat.not_le, Nat.not_lt, reduceCtorEq, if_true, if_false]
          rfl
        · rw [if_neg hn]
          by_cases hS : t_isS 59 B n q1 = true
          · rw [if_pos hS]
            have hn2 := t_isS_nx hS
            have e1 : t_sk B n (q1 + 1) = t_nx B n q1 := by rw [← t_end_S hS rfl rfl]; rfl
            have nx := ih (i + 1) (q1 + 1) (r_ln (z_fc I) L st) (by omega) (by omega)
            rw [e1] at nx
            have go : c_X12_read_139_13 X (d + 30) 1 1 (nI i) (z_A (z_S I st) p) T = c_X12_read_139_13 X (d + 30) 1 1 (nI (i + 1)) (z_A (z_S I (r_ln (z_fc I) L st)) (q1 + 1)) T := by
              rw [e_X12_read_139_13]
              simp (disch := omega) only [e_X12_read_139, e_X12_read_139_2, k_X12_read_139_2, e_X12_read_139_10, e_X12_read_139_21, k_X12_read_139_21, e_X12_read_139_27, e_X12_read_139_32, k_X12_read_139_32, e_X12_read_139_37, k_X12_read_139_37, e_X12_read_139_40, k_X12_read_139_40, e_X12_read_139_43, k_X12_read_139_43, e_X12_read_139_52, e_X12_read_139_58, k_X12_read_139_58, e_X12_read_139_70, k_X12_read_139_70, e_X12_read_139_71, z_A_k, z_A_11, hf, sk0, w3, sk1, g2, g6, sg, hS, z_A_w, q_bd_l, z_ltT, z_ltF, z_eqT, z_eqF, z_ltlT, z_ltlF, z_lltT, z_lltF, z_eqlT, z_eqlF, z_in, z_k7, z_cl, z_lneg, z_llT, z_llF, z_s1, z_nI_cl, z_nlt0, z_ne_m1, z_b0, z_b1, z_la, z_al, z_lm, z_ml, z_nm, nI_add, pk_mul, ↓reduceIte, not_true_eq_false, not_false_eq_true, true_or, or_true, false_or, or_false, true_and, and_true, and_false, false_and, Classical.not_not, Nat.add_zero, z_01, z_em, z_bit_p, Nat.not_le, Nat.not_lt, reduceCtorEq, if_true, if_false]
            rw [go]
            cases hr2 : P_ls B n f g (t_nx B n q1) with
            | none => exact ⟨fun Ls h => (by cases h), fun e h => (by cases h)⟩
            | some r2 =>
              rw [hr2] at nx
              cases r2 with
              | error e =>
                refine ⟨fun Ls h => (by cases h), fun e h => ?_⟩
                cases h
                exact nx.2 _ rfl
              | ok Ls =>
                refine ⟨fun Ls h => ?_, fun e h => (by cases h)⟩
                cases h
                rw [nx.1 Ls rfl]
                show z_r (nI (i + 1 + Ls.length)) _ _ = z_r (nI (i + (Ls.length + 1))) _ _
                rw [show i + 1 + Ls.length = i + (Ls.length + 1) by omega]
                rfl
          · rw [if_neg hS]
            refine ⟨fun Ls h => (by cases h), fun e h => ?_⟩
            cases h
            have wr := l_wrong X (d + 29) (nI q1) (z_A (z_S I (r_ln (z_fc I) L st)) q1) T (by rw [z_A_k _ _ _ (by decide)]; exact g2)
            refine ⟨nI (i + 1), q_w (z_A (z_S I (r_ln (z_fc I) L st)) q1) 139 13 (nI q1), ?_, z_w_s _ _ _ _, hq1, z_fr_w (z_fr_t (z_S_fr I _) (z_A_fr _ _)) 139 13 _ rfl⟩
            rw [e_X12_read_139_13]
            simp (disch := omega) only [e_X12_read_139, e_X12_read_139_2, k_X12_read_139_2, e_X12_read_139_10, e_X12_read_139_21, k_X12_read_139_21, e_X12_read_139_27, e_X12_read_139_32, k_X12_read_139_32, e_X12_read_139_37, k_X12_read_139_37, e_X12_read_139_40, k_X12_read_139_40, e_X12_read_139_43, k_X12_read_139_43, e_X12_read_139_52, e_X12_read_139_58, k_X12_read_139_58, e_X12_read_139_70, k_X12_read_139_70, e_X12_read_139_71, z_A_k, z_A_11, hf, sk0, w3, sk1, g2, g6, sg, hS, wr, l_read13e X (d + 30) 1 (nI (i + 1)) (q_w (z_A (z_S I (r_ln (z_fc I) L st)) q1) 139 13 (nI q1)) T q1 (by omega) (z_w_s _ _ _ _), q_bd_l, z_ltT, z_ltF, z_eqT, z_eqF, z_ltlT, z_ltlF, z_lltT, z_lltF, z_eqlT, z_eqlF, z_in, z_k7, z_cl, z_lneg, z_llT, z_llF, z_s1, z_nI_cl, z_nlt0, z_ne_m1, z_b0, z_b1, z_la, z_al, z_lm, z_ml, z_nm, nI_add, pk_mul, ↓reduceIte, not_true_eq_false, not_false_eq_true, true_or, or_true, false_or, or_false, true_and, and_true, and_false, false_and, Classical.not_not, Nat.add_zero, z_01, z_em, z_bit_p, Nat.not_le, Nat.not_lt, reduceCtorEq, if_true, if_false]
theorem l_read (X : Sx) (d : Nat) (I : Ii) (T : Tt) {B : Nat → Nat} {n : Nat} (H : l_hy I B n 0) (st : S3) : z_pls B n I T st 0 (P_law B n) (c_X12_read_139 X (d + 31) 1 (z_A (z_S I st) 0) T) := by
  have HS := z_S_hy H st
  obtain ⟨h, hf, hD, ho, hdeep⟩ := id HS
  have h1 := h.1
  have h2 := h.2.1
  have hs := t_sk_le (B := B) (n := n) (p := 0) (by omega)
  have hss := t_sk_sk B n 0
  have sk0 := l_skip X (d + 28) (z_S I st) T h 0 (by omega)
  have ls := l_ls X d I T H (p_fuel n) 12 0 (t_sk B n 0) st (by omega) hs
  rw [hss] at ls
  unfold P_law
  rw [e_X12_read_139]
  generalize es : t_sk B n 0 = s at *
  by_cases hn : s = n
  · rw [if_pos hn]
    refine ⟨fun Ls h => ?_, fun e h => (by cases h)⟩
    cases h
    subst hn
    simp (disch := omega) only [e_X12_read_139, e_X12_read_139_2, k_X12_read_139_2, e_X12_read_139_10, e_X12_read_139_21, k_X12_read_139_21, e_X12_read_139_27, e_X12_read_139_32, k_X12_read_139_32, e_X12_read_139_37, k_X12_read_139_37, e_X12_read_139_40, k_X12_read_139_40, e_X12_read_139_43, k_X12_read_139_43, e_X12_read_139_52, e_X12_read_139_58, k_X12_read_139_58, e_X12_read_139_70, k_X12_read_139_70, e_X12_read_139_71, z_A_k, z_A_11, sk0, h2, q_bd_l, z_ltT, z_ltF, z_eqT, z_eqF, z_ltlT, z_ltlF, z_lltT, z_lltF, z_eqlT, z_eqlF, z_in, z_k7, z_cl, z_lneg, z_llT, z_llF, z_s1, z_nI_cl, z_nlt0, z_ne_m1, z_b0, z_b1, z_la, z_al, z_lm, z_ml, z_nm, nI_add, pk_mul, ↓reduceIte, not_true_eq_false, not_false_eq_true, true_or, or_true, false_or, or_false, true_and, and_true, and_false, false_and, Classical.not_not, Nat.add_zero, z_01, z_em, z_bit_p, Nat.not_le, Nat.not_lt, reduceCtorEq, if_true, if_false]
    rw [e_X12_read_139_13]
    simp (disch := omega) only [e_X12_read_139, e_X12_read_139_2, k_X12_read_139_2, e_X12_read_139_10, e_X12_read_139_21, k_X12_read_139_21, e_X12_read_139_27, e_X12_read_139_32, k_X12_read_139_32, e_X12_read_139_37, k_X12_read_139_37, e_X12_read_139_40, k_X12_read_139_40, e_X12_read_139_43, k_X12_read_139_43, e_X12_read_139_52, e_X12_read_139_58, k_X12_read_139_58, e_X12_read_139_70, k_X12_read_139_70, e_X12_read_139_71, q_bd_l, z_ltT, z_ltF, z_eqT, z_eqF, z_ltlT, z_ltlF, z_lltT, z_lltF, z_eqlT, z_eqlF, z_in, z_k7, z_cl, z_lneg, z_llT, z_llF, z_s1, z_nI_cl, z_nlt0, z_ne_m1, z_b0, z_b1, z_la, z_al, z_lm, z_ml, z_nm, nI_add, pk_mul, ↓reduceIte, not_true_eq_false, not_false_eq_true, true_or, or_true, false_or, or_false, true_and, and_true, and_false, false_and, Classical.not_not, Nat.add_zero, z_01, z_em, z_bit_p, Nat.not_le, Nat.not_lt, reduceCtorEq, if_true, if_false]
    rfl
  · rw [if_neg hn]
    have go : q_bd (c_X12_skip_139 X (d + 30) (z_A (z_S I st) 0) T) (fun v9 h' => q_res X q_sb q_pg (d + 30) cd_X12_read 2 [some (.ref 139), some (.int 1), none, none] (v9.toList ++ []) h') = c_X12_read_139_13 X (d + 30) 1 1 (nI 0) (z_A (z_S I st) s) T := by
      simp (disch := omega) only [e_X12_read_139, e_X12_read_139_2, k_X12_read_139_2, e_X12_read_139_10, e_X12_read_139_21, k_X12_read_139_21, e_X12_read_139_27, e_X12_read_139_32, k_X12_read_139_32, e_X12_read_139_37, k_X12_read_139_37, e_X12_read_139_40, k_X12_read_139_40, e_X12_read_139_43, k_X12_read_139_43, e_X12_read_139_52, e_X12_read_139_58, k_X12_read_139_58, e_X12_read_139_70, k_X12_read_139_70, e_X12_read_139_71, z_A_k, z_A_11, sk0, h2, q_bd_l, z_ltT, z_ltF, z_eqT, z_eqF, z_ltlT, z_ltlF, z_lltT, z_lltF, z_eqlT, z_eqlF, z_in, z_k7, z_cl, z_lneg, z_llT, z_llF, z_s1, z_nI_cl, z_nlt0, z_ne_m1, z_b0, z_b1, z_la, z_al, z_lm, z_ml, z_nm, nI_add, pk_mul, ↓reduceIte, not_true_eq_false, not_false_eq_true, true_or, or_true, false_or, or_false, true_and, and_true, and_false, false_and, Classical.not_not, Nat.add_zero, z_01, z_em, z_bit_p, Nat.not_le, Nat.not_lt, reduceCtorEq, if_true, if_false]
      rfl
    rw [go]
    exact ls
