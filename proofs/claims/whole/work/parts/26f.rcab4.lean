/-! ===== THE REFERENCE: cabinet ===== -/
theorem l_tell (X : Sx) (d : Nat) (I : Ii) (T : Tt) {B : Nat → Nat} {N i : Nat} {lo hi : Int32} {r : Nat → Int32} (h : l_ch I B N r) (hi484 : i < 484) (p : Nat) (hp : p ≤ N) : z_cb I T B N (C_tell B N i lo hi r (t_sk B N p)) (c_X12_tells_139 X (d + 5) (nI i) lo hi (z_A I p) T) := by
  have hx := h.1
  have h13 := h.2.2.1
  have F := l_fig X d lo hi I T hx h13 4 (by omega) h.2.2.2.1 p hp
  have hs := t_sk_le (B := B) hp
  unfold C_tell
  generalize t_sk B N p = s at *
  by_cases c : t_isN lo hi 4 B N s = true
  · rw [if_pos c]
    have F1 := F.1 c
    refine z_cb_o (q := t_end B N s) (J := q_w I 140 i (c_nm B N s)) (t_end_le hs) rfl ?_ (l_ch_w h _ _) (z_fr_w (z_fr_r _ _) 140 _ _ (m_pc_k (by omega)))
    rw [e_X12_tells_139]
    simp (disch := omega) only [e_X12_tells_139_4, k_X12_tells_139_4, F1, z_A_k, h13, z_A_140, q_bd_l, z_ltT, z_ltF, z_eqT, z_eqF, z_ltlT, z_ltlF, z_lltT, z_lltF, z_eqlT, z_eqlF, z_in, z_k7, z_cl, z_lneg, z_llT, z_llF, z_s1, z_nI_cl, z_nlt0, z_ne_m1, z_b0, z_b1, z_la, z_al, z_lm, z_ml, z_nm, nI_add, pk_mul, ↓reduceIte, not_true_eq_false, not_false_eq_true, true_or, or_true, false_or, or_false, true_and, and_true, and_false, false_and, Classical.not_not, Nat.add_zero, z_01, z_em, z_bit_p, Nat.not_le, Nat.not_lt, reduceCtorEq, if_true, if_false]
    rfl
  · rw [if_neg c]
    obtain ⟨v, J, F1, F2, F3, F4⟩ := F.2 c
    have f := l_F_0 hx F2 hs (z_aw_m F3 (by omega)) F4
    refine z_cb_e (J := J) ?_ f
    rw [e_X12_tells_139]
    simp (disch := omega) only [e_X12_tells_139_4, k_X12_tells_139_4, F1, l_F_ne f, q_bd_l, z_ltT, z_ltF, z_eqT, z_eqF, z_ltlT, z_ltlF, z_lltT, z_lltF, z_eqlT, z_eqlF, z_in, z_k7, z_cl, z_lneg, z_llT, z_llF, z_s1, z_nI_cl, z_nlt0, z_ne_m1, z_b0, z_b1, z_la, z_al, z_lm, z_ml, z_nm, nI_add, pk_mul, ↓reduceIte, not_true_eq_false, not_false_eq_true, true_or, or_true, false_or, or_false, true_and, and_true, and_false, false_and, Classical.not_not, Nat.add_zero, z_01, z_em, z_bit_p, Nat.not_le, Nat.not_lt, reduceCtorEq, if_true, if_false]
theorem l_need (X : Sx) (d : Nat) (I : Ii) (T : Tt) {B : Nat → Nat} {N m : Nat} {r : Nat → Int32} (h : l_ch I B N r) (h4 : r 4 = nI m) (hm : m < 10) (v1 : Int32) (p : Nat) (hp : p ≤ N) : z_cb I T B N (C_need B N m r (t_sk B N p)) (c_X12_needLine_139_9 X (d + 4) v1 (z_A I p) T) := by
  have hx := h.1
  have h13 := h.2.2.1
  have hD := h.2.2.2.1
  have e140 := h.2.2.2.2
  have i4 : I 140 4 = nI m := by rw [e140]; exact h4
  have i8 : z_A I p 140 8 = r 8 := by rw [z_A_a _ _ _ (by decide), e140]
  have hs := t_sk_le (B := B) hp
  have F := l_fig X d (r 8) 9999 I T hx h13 4 (by omega) hD p hp
  unfold C_need
  rw [e_X12_needLine_139_9, i8]
  generalize t_sk B N p = s at *
  have hn1 : t_nx B N s ≤ N := t_nx_le hs
  have hn2 : t_nx B N (t_nx B N s) ≤ N := t_nx_le hn1
  by_cases c1 : t_isN (r 8) 9999 4 B N s = true
  · rw [if_pos c1]
    have F1 := F.1 c1
    have G := l_fig X d 0 5 I T hx h13 4 (by omega) hD (t_end B N s) (t_end_le hs)
    have eg : t_sk B N (t_end B N s) = t_nx B N s := rfl
    rw [eg] at G
    by_cases c2 : t_isN 0 5 4 B N (t_nx B N s) = true
    · rw [if_pos c2]
      have G1 := G.1 c2
      have H := l_fig X d 1 9 I T hx h13 4 (by omega) hD (t_end B N (t_nx B N s)) (t_end_le hn1)
      have eh : t_sk B N (t_end B N (t_nx B N s)) = t_nx B N (t_nx B N s) := rfl
      rw [eh] at H
      by_cases c3 : t_isN 1 9 4 B N (t_nx B N (t_nx B N s)) = true
      · rw [if_pos c3]
        have H1 := H.1 c3
        have g := l_ch_w (l_ch_w (l_ch_w (l_ch_w h (154 + 3 * m + 0) (c_nm B N s)) (154 + 3 * m + 1) (c_nm B N (t_nx B N s))) (154 + 3 * m + 2) (c_nm B N (t_nx B N (t_nx B N s)))) 4 (nI (m + 1))
        refine z_cb_o (q := t_end B N (t_nx B N (t_nx B N s))) (J := q_w (q_w (q_w (q_w I 140 (154 + 3 * m + 0) (c_nm B N s)) 140 (154 + 3 * m + 1) (c_nm B N (t_nx B N s))) 140 (154 + 3 * m + 2) (c_nm B N (t_nx B N (t_nx B N s)))) 140 4 (nI (m + 1))) (t_end_le hn2) rfl ?_ g (z_fr_w (z_fr_w (z_fr_w (z_fr_w (z_fr_r _ _) 140 _ _ (m_pc_k (by omega))) 140 _ _ (m_pc_k (by omega))) 140 _ _ (m_pc_k (by omega))) 140 _ _ (m_pc_k (by omega)))
        have w4 : (q_w (q_w (q_w I 140 (154 + 3 * m) (nI (t_num B s (t_nf B N s)))) 140 (154 + 3 * m + 1) (nI (t_num B (t_nx B N s) (t_nf B N (t_nx B N s))))) 140 (154 + 3 * m + 2) (nI (t_num B (t_nx B N (t_nx B N s)) (t_nf B N (t_nx B N (t_nx B N s)))))) 140 4 = nI m := by
          rw [z_w_k _ _ _ _ _ (by omega), z_w_k _ _ _ _ _ (by omega), z_w_k _ _ _ _ _ (by omega)]; exact i4
        simp (disch := omega) only [e_X12_needLine_139_16, k_X12_needLine_139_16, e_X12_needLine_139_21, k_X12_needLine_139_21, e_X12_needLine_139_26, k_X12_needLine_139_26, F1, G1, H1, z_A_k, z_A_a, h13, i4, z_A_140, w4, q_bd_l, z_ltT, z_ltF, z_eqT, z_eqF, z_ltlT, z_ltlF, z_lltT, z_lltF, z_eqlT, z_eqlF, z_in, z_k7, z_cl, z_lneg, z_llT, z_llF, z_s1, z_nI_cl, z_nlt0, z_ne_m1, z_b0, z_b1, z_la, z_al, z_lm, z_ml, z_nm, nI_add, pk_mul, ↓reduceIte, not_true_eq_false, not_false_eq_true, true_or, or_true, false_or, or_false, true_and, and_true, and_false, false_and, Classical.not_not, Nat.add_zero, z_01, z_em, z_bit_p, Nat.not_le, Nat.not_lt, reduceCtorEq, if_true, if_false]
        rfl
      · rw [if_neg c3]
        obtain ⟨v, J, H1, H2, H3, H4⟩ := H.2 c3
        have f := l_F_0 hx H2 hn2 (z_aw_m H3 (by omega)) H4
        refine z_cb_e (J := J) ?_ f
        simp (disch := omega) only [e_X12_needLine_139_16, k_X12_needLine_139_16, e_X12_needLine_139_21, k_X12_needLine_139_21, e_X12_needLine_139_26, k_X12_needLine_139_26, F1, G1, H1, l_F_ne f, q_bd_l, z_ltT, z_ltF, z_eqT, z_eqF, z_ltlT, z_ltlF, z_lltT, z_lltF, z_eqlT, z_eqlF, z_in, z_k7, z_cl, z_lneg, z_llT, z_llF, z_s1, z_nI_cl, z_nlt0, z_ne_m1, z_b0, z_b1, z_la, z_al, z_lm, z_ml, z_nm, nI_add, pk_mul, ↓reduceIte, not_true_eq_false, not_false_eq_true, true_or, or_true, false_or, or_false, true_and, and_true, and_false, false_and, Classical.not_not, Nat.add_zero, z_01, z_em, z_bit_p, Nat.not_le, Nat.not_lt, reduceCtorEq, if_true, if_false]
    · rw [if_neg c2]
      obtain ⟨v, J, G1, G2, G3, G4⟩ := G.2 c2
      have f := l_F_0 hx G2 hn1 (z_aw_m G3 (by omega)) G4
      refine z_cb_e (J := J) ?_ f
      simp (disch := omega) only [e_X12_needLine_139_16, k_X12_needLine_139_16, e_X12_needLine_139_21, k_X12_needLine_139_21, e_X12_needLine_139_26, k_X12_needLine_139_26, F1, G1, l_F_ne f, l_figE X (d + 3) _ _ J T (l_F_ne f), q_bd_l, z_ltT, z_ltF, z_eqT, z_eqF, z_ltlT, z_ltlF, z_lltT, z_lltF, z_eqlT, z_eqlF, z_in, z_k7, z_cl, z_lneg, z_llT, z_llF, z_s1, z_nI_cl, z_nlt0, z_ne_m1, z_b0, z_b1, z_la, z_al, z_lm, z_ml, z_nm, nI_add, pk_mul, ↓reduceIte, not_true_eq_false, not_false_eq_true, true_or, or_true, false_or, or_false, true_and, and_true, and_false, false_and, Classical.not_not, Nat.add_zero, z_01, z_em, z_bit_p, Nat.not_le, Nat.not_lt, reduceCtorEq, if_true, if_false]
  · rw [if_neg c1]
    obtain ⟨v, J, F1, F2, F3, F4⟩ := F.2 c1
    have f := l_F_0 hx F2 hs (z_aw_m F3 (by omega)) F4
    refine z_cb_e (J := J) ?_ f
    simp (disch := omega) only [e_X12_needLine_139_16, k_X12_needLine_139_16, e_X12_needLine_139_21, k_X12_needLine_139_21, e_X12_needLine_139_26, k_X12_needLine_139_26, F1, l_F_ne f, l_figE X (d + 3) _ _ J T (l_F_ne f), q_bd_l, z_ltT, z_ltF, z_eqT, z_eqF, z_ltlT, z_ltlF, z_lltT, z_lltF, z_eqlT, z_eqlF, z_in, z_k7, z_cl, z_lneg, z_llT, z_llF, z_s1, z_nI_cl, z_nlt0, z_ne_m1, z_b0, z_b1, z_la, z_al, z_lm, z_ml, z_nm, nI_add, pk_mul, ↓reduceIte, not_true_eq_false, not_false_eq_true, true_or, or_true, false_or, or_false, true_and, and_true, and_false, false_and, Classical.not_not, Nat.add_zero, z_01, z_em, z_bit_p, Nat.not_le, Nat.not_lt, reduceCtorEq, if_true, if_false]
theorem l_needE (X : Sx) (d : Nat) (v1 : Int32) {I J : Ii} (T : Tt) {B : Nat → Nat} {N e : Nat} (f : l_F I J B N e) : c_X12_needLine_139_9 X (d + 1) v1 J T = z_v J T := by
  rw [e_X12_needLine_139_9]
  simp (disch := omega) only [e_X12_needLine_139_16, k_X12_needLine_139_16, e_X12_needLine_139_21, k_X12_needLine_139_21, e_X12_needLine_139_26, k_X12_needLine_139_26, l_F_ne f, l_figE X d _ _ J T (l_F_ne f), q_bd_l, z_ltT, z_ltF, z_eqT, z_eqF, z_ltlT, z_ltlF, z_lltT, z_lltF, z_eqlT, z_eqlF, z_in, z_k7, z_cl, z_lneg, z_llT, z_llF, z_s1, z_nI_cl, z_nlt0, z_ne_m1, z_b0, z_b1, z_la, z_al, z_lm, z_ml, z_nm, nI_add, pk_mul, ↓reduceIte, not_true_eq_false, not_false_eq_true, true_or, or_true, false_or, or_false, true_and, and_true, and_false, false_and, Classical.not_not, Nat.add_zero, z_01, z_em, z_bit_p, Nat.not_le, Nat.not_lt, reduceCtorEq, if_true, if_false]
theorem l_cline (X : Sx) (d : Nat) (I : Ii) (T : Tt) {B : Nat → Nat} {N n m : Nat} {r : Nat → Int32} (h : l_ch I B N r) (ho : R_ok r n m) (p : Nat) (hp : p ≤ N) : z_cb I T B N (C_line B N n m r (t_sk B N p)) (c_X12_cabinetLine_139 X (d + 7) (z_A I p) T) := by
  have hx := h.1
  have h13 := h.2.2.1
  have hD := h.2.2.2.1
  have e140 := h.2.2.2.2
  have n1 := hx.1
  have hs := t_sk_le (B := B) hp
  have hss := t_sk_sk B N p
  have pl := l_place X (d + 3) I T hx p hp
  have W := fun i hi => l_wordN X (d + 3) i hi I T hx (t_sk B N p) hs
  rw [hss] at W
  have h13' : ∀ p, z_A I p 139 13 = -1 := fun p => by rw [z_A_k _ _ _ (by decide)]; exact h13
  rw [e_X12_cabinetLine_139, pl]
  unfold C_line
  generalize t_sk B N p = s at *
  have w53 : c_X12_has__139 X (d + 6) (53 : UInt32) (z_A I s) T = _ := W 53 (by decide)
  have w54 : c_X12_has__139 X (d + 6) (54 : UInt32) (z_A I s) T = _ := W 54 (by decide)
  have w55 : c_X12_has__139 X (d + 6) (55 : UInt32) (z_A I s) T = _ := W 55 (by decide)
  have w56 : c_X12_has__139 X (d + 6) (56 : UInt32) (z_A I s) T = _ := W 56 (by decide)
  have w57 : c_X12_has__139 X (d + 6) (57 : UInt32) (z_A I s) T = _ := W 57 (by decide)
  have w58 : c_X12_has__139 X (d + 6) (58 : UInt32) (z_A I s) T = _ := W 58 (by decide)
  have n3 : ∀ p, z_A I p 140 3 = nI n := fun p => by rw [z_A_a _ _ _ (by decide), e140]; exact ho.1
  have n4 : ∀ p, z_A I p 140 4 = nI m := fun p => by rw [z_A_a _ _ _ (by decide), e140]; exact ho.2.2.1
  by_cases c1 : t_isW (t_w 53) B N s = true
  · rw [if_pos c1]
    rw [if_pos c1] at w53
    have hW := t_end_W (w := t_w 53) (by decide) c1
    by_cases cn : n = 10
    · rw [if_pos cn]
      subst cn
      have f := l_F_wr hx (s + (t_w 53).length) hW.2 hs
      have wr := l_wrong X (d + 4) (nI s) (z_A I (s + (t_w 53).length)) T (h13' _)
      refine z_cb_e (J := _) ?_ f
      simp (disch := omega) only [e_X12_cabinetLine_139_2, k_X12_cabinetLine_139_2, e_X12_cabinetLine_139_6, k_X12_cabinetLine_139_6, e_X12_cabinetLine_139_10, k_X12_cabinetLine_139_10, e_X12_cabinetLine_139_70, e_X12_jarLine_139, e_X12_jarLine_139_9, k_X12_jarLine_139_9, w53, c1, n3, wr, l_F_ne f, q_bd_l, z_ltT, z_ltF, z_eqT, z_eqF, z_ltlT, z_ltlF, z_lltT, z_lltF, z_eqlT, z_eqlF, z_in, z_k7, z_cl, z_lneg, z_llT, z_llF, z_s1, z_nI_cl, z_nlt0, z_ne_m1, z_b0, z_b1, z_la, z_al, z_lm, z_ml, z_nm, nI_add, pk_mul, ↓reduceIte, not_true_eq_false, not_false_eq_true, true_or, or_true, false_or, or_false, true_and, and_true, and_false, false_and, Classical.not_not, Nat.add_zero, z_01, z_em, z_bit_p, Nat.not_le, Nat.not_lt, reduceCtorEq, if_true, if_false]
    · rw [if_neg cn]
      have hn : n < 10 := by have := ho.2.1; omega
      have Jr := l_jar X d I T h ho.1 hn (nI s) (s + (t_w 53).length) hW.2
      rw [hW.1] at Jr
      have st : q_bd (z_r (nI s) (z_A I s) T) (fun v9 h' => q_res X q_sb q_pg (d + 6) cd_X12_cabinetLine 2 [some (.ref 139), none, none] (v9.toList ++ []) h') = q_bd (c_X12_jarLine_139_9 X (d + 5) (nI s) (z_A I (s + (t_w 53).length)) T) (fun v9 h' => q_res X q_sb q_pg (d + 6) cd_X12_cabinetLine 10 [some (.ref 139), some (.int (nI s)), none] (v9.toList ++ []) h') := by
        simp (disch := omega) only [e_X12_cabinetLine_139_2, k_X12_cabinetLine_139_2, e_X12_cabinetLine_139_6, k_X12_cabinetLine_139_6, e_X12_jarLine_139, w53, c1, n3, q_bd_l, z_ltT, z_ltF, z_eqT, z_eqF, z_ltlT, z_ltlF, z_lltT, z_lltF, z_eqlT, z_eqlF, z_in, z_k7, z_cl, z_lneg, z_llT, z_llF, z_s1, z_nI_cl, z_nlt0, z_ne_m1, z_b0, z_b1, z_la, z_al, z_lm, z_ml, z_nm, nI_add, pk_mul, ↓reduceIte, not_true_eq_false, not_false_eq_true, true_or, or_true, false_or, or_false, true_and, and_true, and_false, false_and, Classical.not_not, Nat.add_zero, z_01, z_em, z_bit_p, Nat.not_le, Nat.not_lt, reduceCtorEq, if_true, if_false]
      rw [st]
      refine ⟨fun q1 r' e => ?_, fun e he => ?_⟩
      · obtain ⟨q, J, x1, x2, x3, x4, x5⟩ := Jr.1 q1 r' e
        refine ⟨q, J, x1, x2, ?_, x4, x5⟩
        rw [x3]
        simp (disch := omega) only [e_X12_cabinetLine_139_10, k_X12_cabinetLine_139_10, e_X12_cabinetLine_139_70, q_bd_l, z_ltT, z_ltF, z_eqT, z_eqF, z_ltlT, z_ltlF, z_lltT, z_lltF, z_eqlT, z_eqlF, z_in, z_k7, z_cl, z_lneg, z_llT, z_llF, z_s1, z_nI_cl, z_nlt0, z_ne_m1, z_b0, z_b1, z_la, z_al, z_lm, z_ml, z_nm, nI_add, pk_mul, ↓reduceIte, not_true_eq_false, not_false_eq_true, true_or, or_true, false_or, or_false, true_and, and_true, and_false, false_and, Classical.not_not, Nat.add_zero, z_01, z_em, z_bit_p, Nat.not_le, Nat.not_lt, reduceCtorEq, if_true, if_false]
      · obtain ⟨J, x1, x2⟩ := Jr.2 e he
        refine ⟨J, ?_, x2⟩
        rw [x1]
        simp (disch := omega) only [e_X12_cabinetLine_139_10, k_X12_cabinetLine_139_10, e_X12_cabinetLine_139_70, q_bd_l, z_ltT, z_ltF, z_eqT, z_eqF, z_ltlT, z_ltlF, z_lltT, z_lltF, z_eqlT, z_eqlF, z_in, z_k7, z_cl, z_lneg, z_llT, z_llF, z_s1, z_nI_cl, z_nlt0, z_ne_m1, z_b0, z_b1, z_la, z_al, z_lm, z_ml, z_nm, nI_add, pk_mul, ↓reduceIte, not_true_eq_false, not_false_eq_true, true_or, or_true, false_or, or_false, true_and, and_true, and_false, false_and, Classical.not_not, Nat.add_zero, z_01, z_em, z_bit_p, Nat.not_le, Nat.not_lt, reduceCtorEq, if_true, if_false]
  rw [if_neg c1]
  rw [if_neg c1] at w53
  by_cases c2 : t_isW (t_w 54) B N s = true
  · rw [if_pos c2]
    rw [if_pos c2] at w54
    have hW := t_end_W (w := t_w 54) (by decide) c2
    have hn1 : t_nx B N s ≤ N := t_nx_le hs
    have F := l_fig X (d + 2) 0 11 I T hx h13 4 (by omega) hD (s + (t_w 54).length) hW.2
    rw [hW.1] at F
    by_cases c3 : t_isN 0 11 4 B N (t_nx B N s) = true
    · rw [if_pos c3]
      have F1 := F.1 c3
      obtain ⟨x, hx1, hx2⟩ := c_nm_le (h := 11) (by omega) c3
      have hx3 := (t_isN_lt c3).2.2.2.1
      have hx4 : t_num B (t_nx B N s) (t_nf B N (t_nx B N s)) = x := by
        have : (nI (t_num B (t_nx B N s) (t_nf B N (t_nx B N s))) = nI x) = _ := z_nI_eq _ _ (by omega) (by omega)
        exact this.mp hx2
      have Te := l_tell X (d + 1) I T (i := 142 + t_num B (t_nx B N s) (t_nf B N (t_nx B N s))) (lo := 0) (hi := 9) h (by omega) (t_end B N (t_nx B N s)) (t_end_le hn1)
      have et : t_sk B N (t_end B N (t_nx B N s)) = t_nx B N (t_nx B N s) := rfl
      rw [et] at Te
      have st : q_bd (z_r (nI s) (z_A I s) T) (fun v9 h' => q_res X q_sb q_pg (d + 6) cd_X12_cabinetLine 2 [some (.ref 139), none, none] (v9.toList ++ []) h') = q_bd (c_X12_tells_139 X (d + 6) (nI (142 + t_num B (t_nx B N s) (t_nf B N (t_nx B N s)))) 0 9 (z_A I (t_end B N (t_nx B N s))) T) (fun v9 h' => q_res X q_sb q_pg (d + 6) cd_X12_cabinetLine 27 [some (.ref 139), some (.int (nI s)), some (.int (nI (t_num B (t_nx B N s) (t_nf B N (t_nx B N s)))))] (v9.toList ++ []) h') := by
        simp (disch := omega) only [e_X12_cabinetLine_139_2, k_X12_cabinetLine_139_2, e_X12_cabinetLine_139_6, k_X12_cabinetLine_139_6, e_X12_cabinetLine_139_14, k_X12_cabinetLine_139_14, e_X12_cabinetLine_139_19, k_X12_cabinetLine_139_19, w53, c1, w54, c2, F1, q_bd_l, z_ltT, z_ltF, z_eqT, z_eqF, z_ltlT, z_ltlF, z_lltT, z_lltF, z_eqlT, z_eqlF, z_in, z_k7, z_cl, z_lneg, z_llT, z_llF, z_s1, z_nI_cl, z_nlt0, z_ne_m1, z_b0, z_b1, z_la, z_al, z_lm, z_ml, z_nm, nI_add, pk_mul, ↓reduceIte, not_true_eq_false, not_false_eq_true, true_or, or_true, false_or, or_false, true_and, and_true, and_false, false_and, Classical.not_not, Nat.add_zero, z_01, z_em, z_bit_p, Nat.not_le, Nat.not_lt, reduceCtorEq, if_true, if_false]
      rw [st]
      refine ⟨fun q1 r' e => ?_, fun e he => ?_⟩
      · obtain ⟨q, J, x1, x2, x3, x4, x5⟩ := Te.1 q1 r' e
        refine ⟨q, J, x1, x2, ?_, x4, x5⟩
        rw [x3]
        simp (disch := omega) only [e_X12_cabinetLine_139_27, k_X12_cabinetLine_139_27, e_X12_cabinetLine_139_70, q_bd_l, z_ltT, z_ltF, z_eqT, z_eqF, z_ltlT, z_ltlF, z_lltT, z_lltF, z_eqlT, z_eqlF, z_in, z_k7, z_cl, z_lneg, z_llT, z_llF, z_s1, z_nI_cl, z_nlt0, z_ne_m1, z_b0, z_b1, z_la, z_al, z_lm, z_ml, z_nm, nI_add, pk_mul, ↓reduceIte, not_true_eq_false, not_false_eq_true, true_or, or_true, false_or, or_false, true_and, and_true, and_false, false_and, Classical.not_not, Nat.add_zero, z_01, z_em, z_bit_p, Nat.not_le, Nat.not_lt, reduceCtorEq, if_true, if_false]
      · obtain ⟨J, x1, x2⟩ := Te.2 e he
        refine ⟨J, ?_, x2⟩
        rw [x1]
        simp (disch := omega) only [e_X12_cabinetLine_139_27, k_X12_cabinetLine_139_27, e_X12_cabinetLine_139_70, q_bd_l, z_ltT, z_ltF, z_eqT, z_eqF, z_ltlT, z_ltlF, z_lltT, z_lltF, z_eqlT, z_eqlF, z_in, z_k7, z_cl, z_lneg, z_llT, z_llF, z_s1, z_nI_cl, z_nlt0, z_ne_m1, z_b0, z_b1, z_la, z_al, z_lm, z_ml, z_nm, nI_add, pk_mul, ↓reduceIte, not_true_eq_false, not_false_eq_true, true_or, or_true, false_or, or_false, true_and, and_true, and_false, false_and, Classical.not_not, Nat.add_zero, z_01, z_em, z_bit_p, Nat.not_le, Nat.not_lt, reduceCtorEq, if_true, if_false]
    · rw [if_neg c3]
      obtain ⟨v, J, F1, F2, F3, F4⟩ := F.2 c3
      have f := l_F_0 hx F2 hn1 (z_aw_m F3 (by omega)) F4
      refine z_cb_e (J := J) ?_ f
      simp (disch := omega) only [e_X12_cabinetLine_139_2, k_X12_cabinetLine_139_2, e_X12_cabinetLine_139_6, k_X12_cabinetLine_139_6, e_X12_cabinetLine_139_14, k_X12_cabinetLine_139_14, e_X12_cabinetLine_139_19, k_X12_cabinetLine_139_19, e_X12_cabinetLine_139_27, k_X12_cabinetLine_139_27, e_X12_cabinetLine_139_70, e_X12_tells_139, e_X12_tells_139_4, k_X12_tells_139_4, w53, c1, w54, c2, F1, l_F_ne f, l_figE X (d + 4) _ _ J T (l_F_ne f), q_bd_l, z_ltT, z_ltF, z_eqT, z_eqF, z_ltlT, z_ltlF, z_lltT, z_lltF, z_eqlT, z_eqlF, z_in, z_k7, z_cl, z_lneg, z_llT, z_llF, z_s1, z_nI_cl, z_nlt0, z_ne_m1, z_b0, z_b1, z_la, z_al, z_lm, z_ml, z_nm, nI_add, pk_mul, ↓reduceIte, not_true_eq_false, not_false_eq_true, true_or, or_true, false_or, or_false, true_and, and_true, and_false, false_and, Classical.not_not, Nat.add_zero, z_01, z_em, z_bit_p, Nat.not_le, Nat.not_lt, reduceCtorEq, if_true, if_false]
  rw [if_neg c2]
  rw [if_neg c2] at w54
  by_cases c3 : t_isW (t_w 55) B N s = true
  · rw [if_pos c3]
    rw [if_pos c3] at w55
    have hW := t_end_W (w := t_w 55) (by decide) c3
    by_cases cm : m = 10
    · rw [if_pos cm]
      subst cm
      have f := l_F_wr hx (s + (t_w 55).length) hW.2 hs
      have wr := l_wrong X (d + 4) (nI s) (z_A I (s + (t_w 55).length)) T (h13' _)
      refine z_cb_e (J := _) ?_ f
      simp (disch := omega) only [e_X12_cabinetLine_139_2, k_X12_cabinetLine_139_2, e_X12_cabinetLine_139_6, k_X12_cabinetLine_139_6, e_X12_cabinetLine_139_14, k_X12_cabinetLine_139_14, e_X12_cabinetLine_139_31, k_X12_cabinetLine_139_31, e_X12_cabinetLine_139_35, k_X12_cabinetLine_139_35, e_X12_cabinetLine_139_70, e_X12_needLine_139, k_X12_needLine_139_9, w53, c1, w54, c2, w55, c3, n4, wr, l_needE X (d + 4) (nI s) T f, q_bd_l, z_ltT, z_ltF, z_eqT, z_eqF, z_ltlT, z_ltlF, z_lltT, z_lltF, z_eqlT, z_eqlF, z_in, z_k7, z_cl, z_lneg, z_llT, z_llF, z_s1, z_nI_cl, z_nlt0, z_ne_m1, z_b0, z_b1, z_la, z_al, z_lm, z_ml, z_nm, nI_add, pk_mul, ↓reduceIte, not_true_eq_false, not_false_eq_true, true_or, or_true, false_or, or_false, true_and, and_true, and_false, false_and, Classical.not_not, Nat.add_zero, z_01, z_em, z_bit_p, Nat.not_le, Nat.not_lt, reduceCtorEq, if_true, if_false]
    · rw [if_neg cm]
      have hm : m < 10 := by have := ho.2.2.2.1; omega
      have Nd := l_need X (d + 1) I T h ho.2.2.1 hm (nI s) (s + (t_w 55).length) hW.2
      rw [hW.1] at Nd
      have st : q_bd (z_r (nI s) (z_A I s) T) (fun v9 h' => q_res X q_sb q_pg (d + 6) cd_X12_cabinetLine 2 [some (.ref 139), none, none] (v9.toList ++ []) h') = q_bd (c_X12_needLine_139_9 X (d + 5) (nI s) (z_A I (s + (t_w 55).length)) T) (fun v9 h' => q_res X q_sb q_pg (d + 6) cd_X12_cabinetLine 35 [some (.ref 139), some (.int (nI s)), none] (v9.toList ++ []) h') := by
        simp (disch := omega) only [e_X12_cabinetLine_139_2, k_X12_cabinetLine_139_2, e_X12_cabinetLine_139_6, k_X12_cabinetLine_139_6, e_X12_cabinetLine_139_14, k_X12_cabinetLine_139_14, e_X12_cabinetLine_139_31, k_X12_cabinetLine_139_31, e_X12_needLine_139, w53, c1, w54, c2, w55, c3, n4, q_bd_l, z_ltT, z_ltF, z_eqT, z_eqF, z_ltlT, z_ltlF, z_lltT, z_lltF, z_eqlT, z_eqlF, z_in, z_k7, z_cl, z_lneg, z_llT, z_llF, z_s1, z_nI_cl, z_nlt0, z_ne_m1, z_b0, z_b1, z_la, z_al, z_lm, z_ml, z_nm, nI_add, pk_mul, ↓reduceIte, not_true_eq_false, not_false_eq_true, true_or, or_true, false_or, or_false, true_and, and_true, and_false, false_and, Classical.not_not, Nat.add_zero, z_01, z_em, z_bit_p, Nat.not_le, Nat.not_lt, reduceCtorEq, if_true, if_false]
      rw [st]
      refine ⟨fun q1 r' e => ?_, fun e he => ?_⟩
      · obtain ⟨q, J, x1, x2, x3, x4, x5⟩ := Nd.1 q1 r' e
        refine ⟨q, J, x1, x2, ?_, x4, x5⟩
        rw [x3]
        simp (disch := omega) only [e_X12_cabinetLine_139_35, k_X12_cabinetLine_139_35, e_X12_cabinetLine_139_70, q_bd_l, z_ltT, z_ltF, z_eqT, z_eqF, z_ltlT, z_ltlF, z_lltT, z_lltF, z_eqlT, z_eqlF, z_in, z_k7, z_cl, z_lneg, z_llT, z_llF, z_s1, z_nI_cl, z_nlt0, z_ne_m1, z_b0, z_b1, z_la, z_al, z_lm, z_ml, z_nm, nI_add, pk_mul, ↓reduceIte, not_true_eq_false, not_false_eq_true, true_or, or_true, false_or, or_false, true_and, and_true, and_false, false_and, Classical.not_not, Nat.add_zero, z_01, z_em, z_bit_p, Nat.not_le, Nat.not_lt, reduceCtorEq, if_true, if_false]
      · obtain ⟨J, x1, x2⟩ := Nd.2 e he
        refine ⟨J, ?_, x2⟩
        rw [x1]
        simp (disch := omega) only [e_X12_cabinetLine_139_35, k_X12_cabinetLine_139_35, e_X12_cabinetLine_139_70, q_bd_l, z_ltT, z_ltF, z_eqT, z_eqF, z_ltlT, z_ltlF, z_lltT, z_lltF, z_eqlT, z_eqlF, z_in, z_k7, z_cl, z_lneg, z_llT, z_llF, z_s1, z_nI_cl, z_nlt0, z_ne_m1, z_b0, z_b1, z_la, z_al, z_lm, z_ml, z_nm, nI_add, pk_mul, ↓reduceIte, not_true_eq_false, not_false_eq_true, true_or, or_true, false_or, or_false, true_and, and_true, and_false, false_and, Classical.not_not, Nat.add_zero, z_01, z_em, z_bit_p, Nat.not_le, Nat.not_lt, reduceCtorEq, if_true, if_false]
  rw [if_neg c3]
  rw [if_neg c3] at w55
  by_cases c4 : t_isW (t_w 56) B N s = true
  · rw [if_pos c4]
    rw [if_pos c4] at w56
    have hW := t_end_W (w := t_w 56) (by decide) c4
    have Te := l_tell X (d + 1) I T (i := 5) (lo := 1) (hi := 90) h (by omega) (s + (t_w 56).length) hW.2
    rw [hW.1] at Te
    have st : q_bd (z_r (nI s) (z_A I s) T) (fun v9 h' => q_res X q_sb q_pg (d + 6) cd_X12_cabinetLine 2 [some (.ref 139), none, none] (v9.toList ++ []) h') = q_bd (c_X12_tells_139 X (d + 6) (nI 5) 1 90 (z_A I (s + (t_w 56).length)) T) (fun v9 h' => q_res X q_sb q_pg (d + 6) cd_X12_cabinetLine 45 [some (.ref 139), some (.int (nI s)), none] (v9.toList ++ []) h') := by
      simp (disch := omega) only [e_X12_cabinetLine_139_2, k_X12_cabinetLine_139_2, e_X12_cabinetLine_139_6, k_X12_cabinetLine_139_6, e_X12_cabinetLine_139_14, k_X12_cabinetLine_139_14, e_X12_cabinetLine_139_31, k_X12_cabinetLine_139_31, e_X12_cabinetLine_139_39, k_X12_cabinetLine_139_39, w53, c1, w54, c2, w55, c3, w56, c4, q_bd_l, z_ltT, z_ltF, z_eqT, z_eqF, z_ltlT, z_ltlF, z_lltT, z_lltF, z_eqlT, z_eqlF, z_in, z_k7, z_cl, z_lneg, z_llT, z_llF, z_s1, z_nI_cl, z_nlt0, z_ne_m1, z_b0, z_b1, z_la, z_al, z_lm, z_ml, z_nm, nI_add, pk_mul, ↓reduceIte, not_true_eq_false, not_false_eq_true, true_or, or_true, false_or, or_false, true_and, and_true, and_false, false_and, Classical.not_not, Nat.add_zero, z_01, z_em, z_bit_p, Nat.not_le, Nat.not_lt, reduceCtorEq, if_true, if_false]
      rfl
    rw [st]
    refine ⟨fun q1 r' e => ?_, fun e he => ?_⟩
    · obtain ⟨q, J, x1, x2, x3, x4, x5⟩ := Te.1 q1 r' e
      refine ⟨q, J, x1, x2, ?_, x4, x5⟩
      rw [x3]
      simp (disch := omega) only [e_X12_cabinetLine_139_45, k_X12_cabinetLine_139_45, e_X12_cabinetLine_139_70, q_bd_l, z_ltT, z_ltF, z_eqT, z_eqF, z_ltlT, z_ltlF, z_lltT, z_lltF, z_eqlT, z_eqlF, z_in, z_k7, z_cl, z_lneg, z_llT, z_llF, z_s1, z_nI_cl, z_nlt0, z_ne_m1, z_b0, z_b1, z_la, z_al, z_lm, z_ml, z_nm, nI_add, pk_mul, ↓reduceIte, not_true_eq_false, not_false_eq_true, true_or, or_true, false_or, or_false, true_and, and_true, and_false, false_and, Classical.not_not, Nat.add_zero, z_01, z_em, z_bit_p, Nat.not_le, Nat.not_lt, reduceCtorEq, if_true, if_false]
    · obtain ⟨J, x1, x2⟩ := Te.2 e he
      refine ⟨J, ?_, x2⟩
      rw [x1]
      simp (disch := omega) only [e_X12_cabinetLine_139_45, k_X12_cabinetLine_139_45, e_X12_cabinetLine_139_70, q_bd_l, z_ltT, z_ltF, z_eqT, z_eqF, z_ltlT, z_ltlF, z_lltT, z_lltF, z_eqlT, z_eqlF, z_in, z_k7, z_cl, z_lneg, z_llT, z_llF, z_s1, z_nI_cl, z_nlt0, z_ne_m1, z_b0, z_b1, z_la, z_al, z_lm, z_ml, z_nm, nI_add, pk_mul, ↓reduceIte, not_true_eq_false, not_false_eq_true, true_or, or_true, false_or, or_false, true_and, and_true, and_false, false_and, Classical.not_not, Nat.add_zero, z_01, z_em, z_bit_p, Nat.not_le, Nat.not_lt, reduceCtorEq, if_true, if_false]
  rw [if_neg c4]
  rw [if_neg c4] at w56
  by_cases c5 : t_isW (t_w 57) B N s = true
  · rw [if_pos c5]
    rw [if_pos c5] at w57
    have hW := t_end_W (w := t_w 57) (by decide) c5
    have Te := l_tell X (d + 1) I T (i := 6) (lo := 0) (hi := 100) h (by omega) (s + (t_w 57).length) hW.2
    rw [hW.1] at Te
    have st : q_bd (z_r (nI s) (z_A I s) T) (fun v9 h' => q_res X q_sb q_pg (d + 6) cd_X12_cabinetLine 2 [some (.ref 139), none, none] (v9.toList ++ []) h') = q_bd (c_X12_tells_139 X (d + 6) (nI 6) 0 100 (z_A I (s + (t_w 57).length)) T) (fun v9 h' => q_res X q_sb q_pg (d + 6) cd_X12_cabinetLine 55 [some (.ref 139), some (.int (nI s)), none] (v9.toList ++ []) h') := by
      simp (disch := omega) only [e_X12_cabinetLine_139_2, k_X12_cabinetLine_139_2, e_X12_cabinetLine_139_6, k_X12_cabinetLine_139_6, e_X12_cabinetLine_139_14, k_X12_cabinetLine_139_14, e_X12_cabinetLine_139_31, k_X12_cabinetLine_139_31, e_X12_cabinetLine_139_39, k_X12_cabinetLine_139_39, e_X12_cabinetLine_139_49, k_X12_cabinetLine_139_49, w53, c1, w54, c2, w55, c3, w56, c4, w57, c5, q_bd_l, z_ltT, z_ltF, z_eqT, z_eqF, z_ltlT, z_ltlF, z_lltT, z_lltF, z_eqlT, z_eqlF, z_in, z_k7, z_cl, z_lneg, z_llT, z_llF, z_s1, z_nI_cl, z_nlt0, z_ne_m1, z_b0, z_b1, z_la, z_al, z_lm, z_ml, z_nm, nI_add, pk_mul, ↓reduceIte, not_true_eq_false, not_false_eq_true, true_or, or_true, false_or, or_false, true_and, and_true, and_false, false_and, Classical.not_not, Nat.add_zero, z_01, z_em, z_bit_p, Nat.not_le, Nat.not_lt, reduceCtorEq, if_true, if_false]
      rfl
    rw [st]
    refine ⟨fun q1 r' e => ?_, fun e he => ?_⟩
    · obtain ⟨q, J, x1, x2, x3, x4, x5⟩ := Te.1 q1 r' e
      refine ⟨q, J, x1, x2, ?_, x4, x5⟩
      rw [x3]
      simp (disch := omega) only [e_X12_cabinetLine_139_55, k_X12_cabinetLine_139_55, e_X12_cabinetLine_139_70, q_bd_l, z_ltT, z_ltF, z_eqT, z_eqF, z_ltlT, z_ltlF, z_lltT, z_lltF, z_eqlT, z_eqlF, z_in, z_k7, z_cl, z_lneg, z_llT, z_llF, z_s1, z_nI_cl, z_nlt0, z_ne_m1, z_b0, z_b1, z_la, z_al, z_lm, z_ml, z_nm, nI_add, pk_mul, ↓reduceIte, not_true_eq_false, not_false_eq_true, true_or, or_true, false_or, or_false, true_and, and_true, and_false, false_and, Classical.not_not, Nat.add_zero, z_01, z_em, z_bit_p, Nat.not_le, Nat.not_lt, reduceCtorEq, if_true, if_false]
    · obtain ⟨J, x1, x2⟩ := Te.2 e he
      refine ⟨J, ?_, x2⟩
      rw [x1]
      simp (disch := omega) only [e_X12_cabinetLine_139_55, k_X12_cabinetLine_139_55, e_X12_cabinetLine_139_70, q_bd_l, z_ltT, z_ltF, z_eqT, z_eqF, z_ltlT, z_ltlF, z_lltT, z_lltF, z_eqlT, z_eqlF, z_in, z_k7, z_cl, z_lneg, z_llT, z_llF, z_s1, z_nI_cl, z_nlt0, z_ne_m1, z_b0, z_b1, z_la, z_al, z_lm, z_ml, z_nm, nI_add, pk_mul, ↓reduceIte, not_true_eq_false, not_false_eq_true, true_or, or_true, false_or, or_false, true_and, and_true, and_false, false_and, Classical.not_not, Nat.add_zero, z_01, z_em, z_bit_p, Nat.not_le, Nat.not_lt, reduceCtorEq, if_true, if_false]
  rw [if_neg c5]
  rw [if_neg c5] at w57
  by_cases c6 : t_isW (t_w 58) B N s = true
  · rw [if_pos c6]
    rw [if_pos c6] at w58
    have hW := t_end_W (w := t_w 58) (by decide) c6
    have Te := l_tell X (d + 1) I T (i := 7) (lo := 0) (hi := 100) h (by omega) (s + (t_w 58).length) hW.2
    rw [hW.1] at Te
    have st : q_bd (z_r (nI s) (z_A I s) T) (fun v9 h' => q_res X q_sb q_pg (d + 6) cd_X12_cabinetLine 2 [some (.ref 139), none, none] (v9.toList ++ []) h') = q_bd (c_X12_tells_139 X (d + 6) (nI 7) 0 100 (z_A I (s + (t_w 58).length)) T) (fun v9 h' => q_res X q_sb q_pg (d + 6) cd_X12_cabinetLine 65 [some (.ref 139), some (.int (nI s)), none] (v9.toList ++ []) h') := by
      simp (disch := omega) only [e_X12_cabinetLine_139_2, k_X12_cabinetLine_139_2, e_X12_cabinetLine_139_6, k_X12_cabinetLine_139_6, e_X12_cabinetLine_139_14, k_X12_cabinetLine_139_14, e_X12_cabinetLine_139_31, k_X12_cabinetLine_139_31, e_X12_cabinetLine_139_39, k_X12_cabinetLine_139_39, e_X12_cabinetLine_139_49, k_X12_cabinetLine_139_49, e_X12_cabinetLine_139_59, k_X12_cabinetLine_139_59, w53, c1, w54, c2, w55, c3, w56, c4, w57, c5, w58, c6, q_bd_l, z_ltT, z_ltF, z_eqT, z_eqF, z_ltlT, z_ltlF, z_lltT, z_lltF, z_eqlT, z_eqlF, z_in, z_k7, z_cl, z_lneg, z_llT, z_llF, z_s1, z_nI_cl, z_nlt0, z_ne_m1, z_b0, z_b1, z_la, z_al, z_lm, z_ml, z_nm, nI_add, pk_mul, ↓reduceIte, not_true_eq_false, not_false_eq_true, true_or, or_true, false_or, or_false, true_and, and_true, and_false, false_and, Classical.not_not, Nat.add_zero, z_01, z_em, z_bit_p, Nat.not_le, Nat.not_lt, reduceCtorEq, if_true, if_false]
      rfl
    rw [st]
    refine ⟨fun q1 r' e => ?_, fun e he => ?_⟩
    · obtain ⟨q, J, x1, x2, x3, x4, x5⟩ := Te.1 q1 r' e
      refine ⟨q, J, x1, x2, ?_, x4, x5⟩
      rw [x3]
      simp (disch := omega) only [e_X12_cabinetLine_139_65, k_X12_cabinetLine_139_65, e_X12_cabinetLine_139_70, q_bd_l, z_ltT, z_ltF, z_eqT, z_eqF, z_ltlT, z_ltlF, z_lltT, z_lltF, z_eqlT, z_eqlF, z_in, z_k7, z_cl, z_lneg, z_llT, z_llF, z_s1, z_nI_cl, z_nlt0, z_ne_m1, z_b0, z_b1, z_la, z_al, z_lm, z_ml, z_nm, nI_add, pk_mul, ↓reduceIte, not_true_eq_false, not_false_eq_true, true_or, or_true, false_or, or_false, true_and, and_true, and_false, false_and, Classical.not_not, Nat.add_zero, z_01, z_em, z_bit_p, Nat.not_le, Nat.not_lt, reduceCtorEq, if_true, if_false]
    · obtain ⟨J, x1, x2⟩ := Te.2 e he
      refine ⟨J, ?_, x2⟩
      rw [x1]
      simp (disch := omega) only [e_X12_cabinetLine_139_65, k_X12_cabinetLine_139_65, e_X12_cabinetLine_139_70, q_bd_l, z_ltT, z_ltF, z_eqT, z_eqF, z_ltlT, z_ltlF, z_lltT, z_lltF, z_eqlT, z_eqlF, z_in, z_k7, z_cl, z_lneg, z_llT, z_llF, z_s1, z_nI_cl, z_nlt0, z_ne_m1, z_b0, z_b1, z_la, z_al, z_lm, z_ml, z_nm, nI_add, pk_mul, ↓reduceIte, not_true_eq_false, not_false_eq_true, true_or, or_true, false_or, or_false, true_and, and_true, and_false, false_and, Classical.not_not, Nat.add_zero, z_01, z_em, z_bit_p, Nat.not_le, Nat.not_lt, reduceCtorEq, if_true, if_false]
  rw [if_neg c6]
  rw [if_neg c6] at w58
  have f := l_F_wr hx s hs hs
  have wr := l_wrong X (d + 5) (nI s) (z_A I s) T (h13' _)
  refine z_cb_e (J := _) ?_ f
  simp (disch := omega) only [e_X12_cabinetLine_139_2, k_X12_cabinetLine_139_2, e_X12_cabinetLine_139_6, k_X12_cabinetLine_139_6, e_X12_cabinetLine_139_14, k_X12_cabinetLine_139_14, e_X12_cabinetLine_139_31, k_X12_cabinetLine_139_31, e_X12_cabinetLine_139_39, k_X12_cabinetLine_139_39, e_X12_cabinetLine_139_49, k_X12_cabinetLine_139_49, e_X12_cabinetLine_139_59, k_X12_cabinetLine_139_59, e_X12_cabinetLine_139_70, k_X12_cabinetLine_139_70, w53, c1, w54, c2, w55, c3, w56, c4, w57, c5, w58, c6, z_A_11, wr, q_bd_l, z_ltT, z_ltF, z_eqT, z_eqF, z_ltlT, z_ltlF, z_lltT, z_lltF, z_eqlT, z_eqlF, z_in, z_k7, z_cl, z_lneg, z_llT, z_llF, z_s1, z_nI_cl, z_nlt0, z_ne_m1, z_b0, z_b1, z_la, z_al, z_lm, z_ml, z_nm, nI_add, pk_mul, ↓reduceIte, not_true_eq_false, not_false_eq_true, true_or, or_true, false_or, or_false, true_and, and_true, and_false, false_and, Classical.not_not, Nat.add_zero, z_01, z_em, z_bit_p, Nat.not_le, Nat.not_lt, reduceCtorEq, if_true, if_false]
