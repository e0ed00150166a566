/-! ===== THE REFERENCE: draws, a year more, what is put aside ===== -/
def R_seed (s : Int32) : Int32 := ((1103515245 : Int32) * s) + 12345
def r_dn (s : Int32) : Nat := ((s.toUInt32 >>> ((16 : Int32).toUInt32 &&& Int32.toUInt32 31)).toInt32).toBitVec.toNat % 2 ^ 15
theorem r_dn_eq (s : Int32) : ((s.toUInt32 >>> ((16 : Int32).toUInt32 &&& Int32.toUInt32 31)).toInt32 &&& (32767 : Int32)) = nI (r_dn s) := pk_and _ 15 rfl
theorem r_dn_lt (s : Int32) : r_dn s < 32768 := Nat.mod_lt _ (by decide)
theorem l_draw (X : Sx) (d : Nat) (I : Ii) (T : Tt) (b : Nat) (h0 : 0 < b) (hb : b < 1000) : c_X12_draw_139 X (d + 1) (nI b) I T = z_r (nI (r_dn (R_seed (I 140 11)) % b)) (q_w I 140 11 (R_seed (I 140 11))) T := by
  have hl := r_dn_lt (R_seed (I 140 11))
  have e := r_dn_eq (R_seed (I 140 11))
  unfold R_seed at e hl ⊢
  rw [e_X12_draw_139, e, if_neg (by rw [show (0 : Int32) = nI 0 from rfl, z_nI_eq b 0 (by omega) (by omega)]; omega), pk_rem (by omega) h0 (by omega)]
theorem l_draw100 (X : Sx) (d : Nat) (I : Ii) (T : Tt) : c_X12_draw_139 X (d + 1) (100 : Int32) I T = z_r (nI (r_dn (R_seed (I 140 11)) % 100)) (q_w I 140 11 (R_seed (I 140 11))) T := l_draw X d I T 100 (by omega) (by omega)
def R_sd (r : Nat → Int32) : Nat → Int32 := va_up r 11 (R_seed (r 11))
/-- a label peels -/
def R_peel (n : Nat) (r : Nat → Int32) : Nat → Int32 := if nI (r_dn (R_sd r 11) % 100) < r 6 ∧ 0 < n then va_up (R_sd (R_sd r)) (12 + 13 * (r_dn (R_sd (R_sd r) 11) % n) + 5) (-1) else R_sd r
def R_wj (n : Nat) (r : Nat → Int32) : Nat := r_dn (R_sd (R_sd r) 11) % n
/-- wasps come -/
def R_wasp (n : Nat) (r : Nat → Int32) : Nat → Int32 := if nI (r_dn (R_sd r 11) % 100) < r 7 ∧ 0 < n then (if r (12 + 13 * R_wj n r + 6) = 1 ∧ 0 < r (12 + 13 * R_wj n r + 2) then va_up (R_sd (R_sd r)) (12 + 13 * R_wj n r + 2) (r (12 + 13 * R_wj n r + 2) - 1) else R_sd (R_sd r)) else R_sd r
def R_next (r : Nat → Int32) : Nat → Int32 := va_up r 8 (r 8 + 1)
def R_year (n : Nat) (r : Nat → Int32) : Nat → Int32 := R_next (R_wasp n (R_peel n (R_sours n r)))
def R_ah (n : Nat) (r : Nat → Int32) : Nat → Int32 := R_next (R_sours n r)
theorem R_sd_g {n : Nat} {r : Nat → Int32} (h : R_g n r) : R_g n (R_sd r) := R_g_up h (by omega) (by omega) _
theorem R_next_g {n : Nat} {r : Nat → Int32} (h : R_g n r) : R_g n (R_next r) := R_g_up h (by omega) (by omega) _
theorem R_sd_k (r : Nat → Int32) (k : Nat) (h : k ≠ 11) : R_sd r k = r k := by unfold R_sd va_up; rw [if_neg h]
theorem R_sd_11 (r : Nat → Int32) : R_sd r 11 = R_seed (r 11) := by unfold R_sd va_up; rw [if_pos rfl]
theorem R_peel_g {n : Nat} {r : Nat → Int32} (h : R_g n r) : R_g n (R_peel n r) := by
  have := h.2.1
  unfold R_peel
  split
  · rename_i h2
    have : r_dn (R_sd (R_sd r) 11) % n < n := Nat.mod_lt _ h2.2
    exact R_g_up (R_sd_g (R_sd_g h)) (by omega) (by omega) _
  · exact R_sd_g h
theorem R_wasp_g {n : Nat} {r : Nat → Int32} (h : R_g n r) : R_g n (R_wasp n r) := by
  have := h.2.1
  unfold R_wasp
  split
  · rename_i h2
    have : R_wj n r < n := Nat.mod_lt _ h2.2
    split
    · exact R_g_up (R_sd_g (R_sd_g h)) (by omega) (by omega) _
    · exact R_sd_g (R_sd_g h)
  · exact R_sd_g h
theorem R_year_g {n : Nat} {r : Nat → Int32} (h : R_g n r) : R_g n (R_year n r) := R_next_g (R_wasp_g (R_peel_g (R_sours_g h)))
theorem R_ah_g {n : Nat} {r : Nat → Int32} (h : R_g n r) : R_g n (R_ah n r) := R_next_g (R_sours_g h)
theorem l_ahV (X : Sx) (d : Nat) (I : Ii) (T : Tt) (n : Nat) (h : R_g n (I 140)) : ∃ J, c_X12_ahead_139 X (d + 36) I T = z_v J T ∧ z_fr m_ry I J ∧ J 140 = R_ah n (I 140) := by
  obtain ⟨J, h1, h2, h3⟩ := l_sours X d I T n h
  refine ⟨q_w J 140 8 (J 140 8 + 1), ?_, z_fr_w h2 140 8 _ rfl, ?_⟩
  · rw [e_X12_ahead_139, h1]
    simp (disch := omega) only [e_X12_ahead_139, e_X12_ahead_139_2, k_X12_ahead_139_2, q_bd_l, z_ltT, z_ltF, z_eqT, z_eqF, z_ltlT, z_ltlF, z_lltT, z_lltF, z_eqlT, z_eqlF, z_in, z_k7, z_cl, z_lneg, z_llT, z_llF, z_s1, z_nI_cl, z_nlt0, z_ne_m1, z_b0, z_b1, z_la, z_al, z_lm, z_ml, z_nm, nI_add, pk_mul, ↓reduceIte, not_true_eq_false, not_false_eq_true, true_or, or_true, false_or, or_false, true_and, and_true, and_false, false_and, Classical.not_not, Nat.add_zero, z_01, z_em, z_bit_p, Nat.not_le, Nat.not_lt, reduceCtorEq, if_true, if_false]
  · rw [z_w_row, h3]; rfl
theorem l_year (X : Sx) (d : Nat) (I : Ii) (T : Tt) (n : Nat) (h : R_g n (I 140)) : ∃ J, c_X12_year_139 X (d + 36) I T = z_v J T ∧ z_fr m_ry I J ∧ J 140 = R_year n (I 140) := by
  obtain ⟨J, h1, h2, h3⟩ := l_sours X d I T n h
  have hn := h.2.1
  have g1 := R_sours_g h
  unfold R_year
  rw [e_X12_year_139, h1]
  rw [← h3] at g1 ⊢
  clear h3 h1
  -- the peeling
  have P : ∃ K, q_bd (z_v J T) (fun v9 h' => q_res X q_sb q_pg (d + 35) cd_X12_year 2 [some (.ref 139), none] (v9.toList ++ []) h') = c_X12_year_139_25 X (d + 35) K T ∧ z_fr m_ry I K ∧ K 140 = R_peel n (J 140) := by
    have e2 : (q_w J 140 11 (R_seed (J 140 11))) 140 = R_sd (J 140) := z_w_row _ _ _ _
    have f2 : z_fr m_ry I (q_w J 140 11 (R_seed (J 140 11))) := z_fr_w h2 140 11 _ rfl
    unfold R_peel
    rw [R_sd_11]
    by_cases hp : nI (r_dn (R_seed (J 140 11)) % 100) < J 140 6
    · by_cases h0 : 0 < n
      · rw [if_pos ⟨hp, h0⟩]
        have hj : r_dn (R_sd (R_sd (J 140)) 11) % n < n := Nat.mod_lt _ h0
        refine ⟨q_w (q_w (q_w J 140 11 (R_seed (J 140 11))) 140 11 (R_seed (R_sd (J 140) 11))) 140 (12 + 13 * (r_dn (R_sd (R_sd (J 140)) 11) % n) + 5) (-1), ?_, z_fr_w (z_fr_w f2 140 11 _ rfl) 140 _ _ (by simp [m_ry]), by rw [z_w_row, z_w_row, e2]; rfl⟩
        have d2 := l_draw X (d + 34) (q_w J 140 11 (R_seed (J 140 11))) T n h0 (by omega)
        rw [e2] at d2
        rw [R_sd_11 (R_sd (J 140))] at hj ⊢
        simp (disch := omega) only [e_X12_year_139_2, e_X12_year_139_5, e_X12_year_139_22, k_X12_year_139_2, k_X12_year_139_5, k_X12_year_139_22, k_X12_year_139_25, l_draw100, hp, z_w_k, g1.1, d2, l_has, q_bd_l, z_ltT, z_ltF, z_eqT, z_eqF, z_ltlT, z_ltlF, z_lltT, z_lltF, z_eqlT, z_eqlF, z_in, z_k7, z_cl, z_lneg, z_llT, z_llF, z_s1, z_nI_cl, z_nlt0, z_ne_m1, z_b0, z_b1, z_la, z_al, z_lm, z_ml, z_nm, nI_add, pk_mul, ↓reduceIte, not_true_eq_false, not_false_eq_true, true_or, or_true, false_or, or_false, true_and, and_true, and_false, false_and, Classical.not_not, Nat.add_zero, z_01, z_em, z_bit_p, Nat.not_le, Nat.not_lt, reduceCtorEq, if_true, if_false]
      · rw [if_neg (fun a => h0 a.2)]
        refine ⟨_, ?_, f2, e2⟩
        simp (disch := omega) only [e_X12_year_139_2, e_X12_year_139_5, k_X12_year_139_2, k_X12_year_139_5, l_draw100, hp, z_w_k, g1.1, q_bd_l, z_ltT, z_ltF, z_eqT, z_eqF, z_ltlT, z_ltlF, z_lltT, z_lltF, z_eqlT, z_eqlF, z_in, z_k7, z_cl, z_lneg, z_llT, z_llF, z_s1, z_nI_cl, z_nlt0, z_ne_m1, z_b0, z_b1, z_la, z_al, z_lm, z_ml, z_nm, nI_add, pk_mul, ↓reduceIte, not_true_eq_false, not_false_eq_true, true_or, or_true, false_or, or_false, true_and, and_true, and_false, false_and, Classical.not_not, Nat.add_zero, z_01, z_em, z_bit_p, Nat.not_le, Nat.not_lt, reduceCtorEq, if_true, if_false]
    · rw [if_neg (fun a => hp a.1)]
      refine ⟨_, ?_, f2, e2⟩
      simp (disch := omega) only [e_X12_year_139_2, e_X12_year_139_5, k_X12_year_139_2, k_X12_year_139_5, l_draw100, hp, z_w_k, g1.1, q_bd_l, z_ltT, z_ltF, z_eqT, z_eqF, z_ltlT, z_ltlF, z_lltT, z_lltF, z_eqlT, z_eqlF, z_in, z_k7, z_cl, z_lneg, z_llT, z_llF, z_s1, z_nI_cl, z_nlt0, z_ne_m1, z_b0, z_b1, z_la, z_al, z_lm, z_ml, z_nm, nI_add, pk_mul, ↓reduceIte, not_true_eq_false, not_false_eq_true, true_or, or_true, false_or, or_false, true_and, and_true, and_false, false_and, Classical.not_not, Nat.add_zero, z_01, z_em, z_bit_p, Nat.not_le, Nat.not_lt, reduceCtorEq, if_true, if_false]
  obtain ⟨K, k1, k2, k3⟩ := P
  have g2 := R_peel_g g1
  rw [k1]
  rw [← k3] at g2 ⊢
  clear k1 k3
  have e2 : (q_w K 140 11 (R_seed (K 140 11))) 140 = R_sd (K 140) := z_w_row _ _ _ _
  have f2 : z_fr m_ry I (q_w K 140 11 (R_seed (K 140 11))) := z_fr_w k2 140 11 _ rfl
  have W : ∃ o L, c_X12_year_139_25 X (d + 35) K T = c_X12_year_139_66 X (d + 35) o L T ∧ z_fr m_ry I L ∧ L 140 = R_wasp n (K 140) := by
    rw [e_X12_year_139_25]
    unfold R_wasp
    rw [R_sd_11]
    by_cases hp : nI (r_dn (R_seed (K 140 11)) % 100) < K 140 7
    · by_cases h0 : 0 < n
      · rw [if_pos ⟨hp, h0⟩]
        have hj : R_wj n (K 140) < n := Nat.mod_lt _ h0
        have d2 := l_draw X (d + 34) (q_w K 140 11 (R_seed (K 140 11))) T n h0 (by omega)
        rw [e2, ← R_sd_11 (R_sd (K 140))] at d2
        have e5 : r_dn (R_sd (R_sd (K 140)) 11) % n = R_wj n (K 140) := rfl
        rw [e5, R_sd_11 (R_sd (K 140))] at d2
        generalize R_wj n (K 140) = w at *
        have e6 : ∀ i, i ≠ 11 → (q_w (q_w K 140 11 (R_seed (K 140 11))) 140 11 (R_seed (R_sd (K 140) 11))) 140 i = K 140 i := fun i hi => by rw [z_w_k _ _ _ _ _ hi, z_w_k _ _ _ _ _ hi]
        have e7 : (q_w (q_w K 140 11 (R_seed (K 140 11))) 140 11 (R_seed (R_sd (K 140) 11))) 140 = R_sd (R_sd (K 140)) := by rw [z_w_row, e2]; rfl
        have f3 : z_fr m_ry I (q_w (q_w K 140 11 (R_seed (K 140 11))) 140 11 (R_seed (R_sd (K 140) 11))) := z_fr_w f2 140 11 _ rfl
        by_cases h1 : K 140 (12 + 13 * w + 6) = 1
        · by_cases h3 : 0 < K 140 (12 + 13 * w + 2)
          · rw [if_pos ⟨h1, h3⟩]
            refine ⟨some (.int (nI w)), q_w (q_w (q_w K 140 11 (R_seed (K 140 11))) 140 11 (R_seed (R_sd (K 140) 11))) 140 (12 + 13 * w + 2) (K 140 (12 + 13 * w + 2) - 1), ?_, z_fr_w f3 140 _ _ (by simp [m_ry]), by rw [z_w_row, e7]⟩
            simp (disch := omega) only [e_X12_year_139_2, k_X12_year_139_2, e_X12_year_139_5, k_X12_year_139_5, e_X12_year_139_22, k_X12_year_139_22, e_X12_year_139_25, k_X12_year_139_25, e_X12_year_139_28, k_X12_year_139_28, e_X12_year_139_44, k_X12_year_139_44, e_X12_year_139_49, k_X12_year_139_49, e_X12_year_139_55, k_X12_year_139_55, e_X12_year_139_63, k_X12_year_139_63, k_X12_year_139_66, l_draw100, hp, z_w_k, g2.1, d2, l_of, l_has, h1, h3, q_bd_l, z_ltT, z_ltF, z_eqT, z_eqF, z_ltlT, z_ltlF, z_lltT, z_lltF, z_eqlT, z_eqlF, z_in, z_k7, z_cl, z_lneg, z_llT, z_llF, z_s1, z_nI_cl, z_nlt0, z_ne_m1, z_b0, z_b1, z_la, z_al, z_lm, z_ml, z_nm, nI_add, pk_mul, ↓reduceIte, not_true_eq_false, not_false_eq_true, true_or, or_true, false_or, or_false, true_and, and_true, and_false, false_and, Classical.not_not, Nat.add_zero, z_01, z_em, z_bit_p, Nat.not_le, Nat.not_lt, reduceCtorEq, if_true, if_false]
          · rw [if_neg (fun a => h3 a.2)]
            refine ⟨some (.int (nI w)), _, ?_, f3, e7⟩
            simp (disch := omega) only [e_X12_year_139_2, k_X12_year_139_2, e_X12_year_139_5, k_X12_year_139_5, e_X12_year_139_22, k_X12_year_139_22, e_X12_year_139_25, k_X12_year_139_25, e_X12_year_139_28, k_X12_year_139_28, e_X12_year_139_44, k_X12_year_139_44, e_X12_year_139_49, k_X12_year_139_49, e_X12_year_139_55, k_X12_year_139_55, e_X12_year_139_63, k_X12_year_139_63, k_X12_year_139_66, l_draw100, hp, z_w_k, g2.1, d2, l_of, l_has, h1, h3, q_bd_l, z_ltT, z_ltF, z_eqT, z_eqF, z_ltlT, z_ltlF, z_lltT, z_lltF, z_eqlT, z_eqlF, z_in, z_k7, z_cl, z_lneg, z_llT, z_llF, z_s1, z_nI_cl, z_nlt0, z_ne_m1, z_b0, z_b1, z_la, z_al, z_lm, z_ml, z_nm, nI_add, pk_mul, ↓reduceIte, not_true_eq_false, not_false_eq_true, true_or, or_true, false_or, or_false, true_and, and_true, and_false, false_and, Classical.not_not, Nat.add_zero, z_01, z_em, z_bit_p, Nat.not_le, Nat.not_lt, reduceCtorEq, if_true, if_false]
        · rw [if_neg (fun a => h1 a.1)]
          refine ⟨some (.int (nI w)), _, ?_, f3, e7⟩
          simp (disch := omega) only [e_X12_year_139_2, k_X12_year_139_2, e_X12_year_139_5, k_X12_year_139_5, e_X12_year_139_22, k_X12_year_139_22, e_X12_year_139_25, k_X12_year_139_25, e_X12_year_139_28, k_X12_year_139_28, e_X12_year_139_44, k_X12_year_139_44, e_X12_year_139_49, k_X12_year_139_49, e_X12_year_139_55, k_X12_year_139_55, e_X12_year_139_63, k_X12_year_139_63, k_X12_year_139_66, l_draw100, hp, z_w_k, g2.1, d2, l_of, l_has, h1, q_bd_l, z_ltT, z_ltF, z_eqT, z_eqF, z_ltlT, z_ltlF, z_lltT, z_lltF, z_eqlT, z_eqlF, z_in, z_k7, z_cl, z_lneg, z_llT, z_llF, z_s1, z_nI_cl, z_nlt0, z_ne_m1, z_b0, z_b1, z_la, z_al, z_lm, z_ml, z_nm, nI_add, pk_mul, ↓reduceIte, not_true_eq_false, not_false_eq_true, true_or, or_true, false_or, or_false, true_and, and_true, and_false, false_and, Classical.not_not, Nat.add_zero, z_01, z_em, z_bit_p, Nat.not_le, Nat.not_lt, reduceCtorEq, if_true, if_false]
      · rw [if_neg (fun a => h0 a.2)]
        refine ⟨none, _, ?_, f2, e2⟩
        simp (disch := omega) only [e_X12_year_139_2, k_X12_year_139_2, e_X12_year_139_5, k_X12_year_139_5, e_X12_year_139_22, k_X12_year_139_22, e_X12_year_139_25, k_X12_year_139_25, e_X12_year_139_28, k_X12_year_139_28, e_X12_year_139_44, k_X12_year_139_44, e_X12_year_139_49, k_X12_year_139_49, e_X12_year_139_55, k_X12_year_139_55, e_X12_year_139_63, k_X12_year_139_63, k_X12_year_139_66, l_draw100, hp, z_w_k, g2.1, q_bd_l, z_ltT, z_ltF, z_eqT, z_eqF, z_ltlT, z_ltlF, z_lltT, z_lltF, z_eqlT, z_eqlF, z_in, z_k7, z_cl, z_lneg, z_llT, z_llF, z_s1, z_nI_cl, z_nlt0, z_ne_m1, z_b0, z_b1, z_la, z_al, z_lm, z_ml, z_nm, nI_add, pk_mul, ↓reduceIte, not_true_eq_false, not_false_eq_true, true_or, or_true, false_or, or_false, true_and, and_true, and_false, false_and, Classical.not_not, Nat.add_zero, z_01, z_em, z_bit_p, Nat.not_le, Nat.not_lt, reduceCtorEq, if_true, if_false]
    · rw [if_neg (fun a => hp a.1)]
      refine ⟨none, _, ?_, f2, e2⟩
      simp (disch := omega) only [e_X12_year_139_2, k_X12_year_139_2, e_X12_year_139_5, k_X12_year_139_5, e_X12_year_139_22, k_X12_year_139_22, e_X12_year_139_25, k_X12_year_139_25, e_X12_year_139_28, k_X12_year_139_28, e_X12_year_139_44, k_X12_year_139_44, e_X12_year_139_49, k_X12_year_139_49, e_X12_year_139_55, k_X12_year_139_55, e_X12_year_139_63, k_X12_year_139_63, k_X12_year_139_66, l_draw100, hp, z_w_k, g2.1, q_bd_l, z_ltT, z_ltF, z_eqT, z_eqF, z_ltlT, z_ltlF, z_lltT, z_lltF, z_eqlT, z_eqlF, z_in, z_k7, z_cl, z_lneg, z_llT, z_llF, z_s1, z_nI_cl, z_nlt0, z_ne_m1, z_b0, z_b1, z_la, z_al, z_lm, z_ml, z_nm, nI_add, pk_mul, ↓reduceIte, not_true_eq_false, not_false_eq_true, true_or, or_true, false_or, or_false, true_and, and_true, and_false, false_and, Classical.not_not, Nat.add_zero, z_01, z_em, z_bit_p, Nat.not_le, Nat.not_lt, reduceCtorEq, if_true, if_false]
  obtain ⟨o, L, w1, w2, w3⟩ := W
  refine ⟨q_w L 140 8 (L 140 8 + 1), ?_, z_fr_w w2 140 8 _ rfl, ?_⟩
  · rw [w1, e_X12_year_139_66]
  · rw [z_w_row, w3]; rfl
def R_pass (n m : Nat) (r : Nat → Int32) : Nat → Int32 := z_it (fun _ r => R_year n r) m r
theorem R_pass_g {n m : Nat} {r : Nat → Int32} (h : R_g n r) : R_g n (R_pass n m r) := z_it_P h (fun k a _ ha => R_year_g ha)
theorem l_passes (X : Sx) (d : Nat) (I : Ii) (T : Tt) (n m : Nat) (hm : m ≤ 100) (h : R_g n (I 140)) : ∃ J, c_X12_passes_139 X (d + 37) (nI m) I T = z_r (R_pass n m (I 140) 9 - I 140 9) J T ∧ z_fr m_ry I J ∧ J 140 = R_pass n m (I 140) := by
  obtain ⟨J, ⟨p1, p2, p3⟩, p4⟩ := z_foldP (β := Nat → Int32) (σ := Ii) (fun k r J => c_X12_passes_139_7 X (d + 36) (nI m) (I 140 9) (nI k) J T) (fun _ r => R_year n r) (fun k r J => J 140 = r ∧ z_fr m_ry I J ∧ R_g n r) m (by
    intro k r J hk ⟨q1, q2, q3⟩
    subst q1
    obtain ⟨K, k1, k2, k3⟩ := l_year X d J T n q3
    refine ⟨K, ⟨k3, z_fr_t q2 k2, R_year_g q3⟩, ?_⟩
    rw [e_X12_passes_139_7]
    simp (disch := omega) only [e_X12_passes_139_12, k_X12_passes_139_12, k1, q_bd_l, z_ltT, z_ltF, z_eqT, z_eqF, z_ltlT, z_ltlF, z_lltT, z_lltF, z_eqlT, z_eqlF, z_in, z_k7, z_cl, z_lneg, z_llT, z_llF, z_s1, z_nI_cl, z_nlt0, z_ne_m1, z_b0, z_b1, z_la, z_al, z_lm, z_ml, z_nm, nI_add, pk_mul, ↓reduceIte, not_true_eq_false, not_false_eq_true, true_or, or_true, false_or, or_false, true_and, and_true, and_false, false_and, Classical.not_not, Nat.add_zero, z_01, z_em, z_bit_p, Nat.not_le, Nat.not_lt, reduceCtorEq, if_true, if_false]) (I 140) I ⟨rfl, z_fr_r _ _, h⟩
  refine ⟨J, ?_, p2, p1⟩
  rw [e_X12_passes_139]
  refine p4.trans ?_
  rw [e_X12_passes_139_7]
  simp (disch := omega) only [p1, q_bd_l, z_ltT, z_ltF, z_eqT, z_eqF, z_ltlT, z_ltlF, z_lltT, z_lltF, z_eqlT, z_eqlF, z_in, z_k7, z_cl, z_lneg, z_llT, z_llF, z_s1, z_nI_cl, z_nlt0, z_ne_m1, z_b0, z_b1, z_la, z_al, z_lm, z_ml, z_nm, nI_add, pk_mul, ↓reduceIte, not_true_eq_false, not_false_eq_true, true_or, or_true, false_or, or_false, true_and, and_true, and_false, false_and, Classical.not_not, Nat.add_zero, z_01, z_em, z_bit_p, Nat.not_le, Nat.not_lt, reduceCtorEq, if_true, if_false]
  rfl
