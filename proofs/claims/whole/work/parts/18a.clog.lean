/-! ===== THE CLASS: its log book ===== -/
def z_fm (v : Int32) : Int32 := if (v ^^^ (72 : Int32)) < 0 then (if (v - v / 72 * 72) = 0 then v - v / 72 * 72 else v - v / 72 * 72 + 72) else v - v / 72 * 72
theorem z_fm_n : ∀ h, h < 72 → ∀ i, i < 60 → z_fm (nI h - 1 - nI i) = nI ((h + 71 - i) % 72) := by decide +kernel
theorem k_floorMod (X : Sx) (d : Nat) (v : Int32) (I : Ii) (T : Tt) : c_J9_floorMod_7cf53 X (d + 1) v 72 I T = z_r (z_fm v) I T := by
  rw [e_J9_floorMod_7cf53]
  unfold z_fm
  have e : ((72 : Int32) = 0) = False := by decide
  by_cases h1 : (v ^^^ (72 : Int32)) < 0
  · by_cases h2 : (v - v / 72 * 72) = 0 <;> simp (disch := omega) only [e_J9_floorMod_7cf53_14, h1, h2, e, q_bd_l, z_ltT, z_ltF, z_eqT, z_eqF, z_ltlT, z_ltlF, z_lltT, z_lltF, z_eqlT, z_eqlF, z_in, z_k7, z_cl, z_lneg, z_llT, z_llF, z_s1, z_nI_cl, z_nlt0, z_ne_m1, z_b0, z_b1, z_la, z_al, z_lm, z_ml, z_nm, nI_add, pk_mul, ↓reduceIte, not_true_eq_false, not_false_eq_true, true_or, or_true, false_or, or_false, true_and, and_true, and_false, false_and, Classical.not_not, Nat.add_zero, z_01, z_em, z_bit_p, Nat.not_le, Nat.not_lt, reduceCtorEq, if_true, if_false]
  · simp (disch := omega) only [e_J9_floorMod_7cf53_14, h1, e, q_bd_l, z_ltT, z_ltF, z_eqT, z_eqF, z_ltlT, z_ltlF, z_lltT, z_lltF, z_eqlT, z_eqlF, z_in, z_k7, z_cl, z_lneg, z_llT, z_llF, z_s1, z_nI_cl, z_nlt0, z_ne_m1, z_b0, z_b1, z_la, z_al, z_lm, z_ml, z_nm, nI_add, pk_mul, ↓reduceIte, not_true_eq_false, not_false_eq_true, true_or, or_true, false_or, or_false, true_and, and_true, and_false, false_and, Classical.not_not, Nat.add_zero, z_01, z_em, z_bit_p, Nat.not_le, Nat.not_lt, reduceCtorEq, if_true, if_false]
theorem k_cell (X : Sx) (d : Nat) (I : Ii) (T : Tt) (r : Nat → Int32) (g L i c : Nat) (h : z_Lg I 27 61 r g) (hL : r 10 = nI L) (h60 : L ≤ 60) (hi : i < L) (hc : c < 5) : c_X6_cell_60_27 X (d + 2) (nI i) (nI c) I T = z_r (r (184 + 5 * i + c)) I T := by
  have h8 := h.1
  have hg : g % 72 < 72 := Nat.mod_lt _ (by decide)
  have e1 := z_fm_n (g % 72) hg i (by omega)
  have e2 : (g % 72 + 71 - i) % 72 = (g + 72 - 1 - i) % 72 := by omega
  have h2 := h.2 i c (by rw [hL]; exact nI_lt hi (by omega)) (by omega) hc
  rw [e2] at e1
  have hb : (g + 72 - 1 - i) % 72 < 72 := Nat.mod_lt _ (by decide)
  generalize (g + 72 - 1 - i) % 72 = w at *
  have e5 : nI w * (5 : Int32) + nI c = nI (w * 5 + c) := by rw [z_ml, nI_add]
  rw [e_X6_cell_60_27, h8, k_floorMod, e1]
  simp (disch := omega) only [k_X6_cell_60_27_10, e_X6_cell_60_27_10, e5, h2, q_bd_l, z_ltT, z_ltF, z_eqT, z_eqF, z_ltlT, z_ltlF, z_lltT, z_lltF, z_eqlT, z_eqlF, z_in, z_k7, z_cl, z_lneg, z_llT, z_llF, z_s1, z_nI_cl, z_nlt0, z_ne_m1, z_b0, z_b1, z_la, z_al, z_lm, z_ml, z_nm, nI_add, pk_mul, ↓reduceIte, not_true_eq_false, not_false_eq_true, true_or, or_true, false_or, or_false, true_and, and_true, and_false, false_and, Classical.not_not, Nat.add_zero, z_01, z_em, z_bit_p, Nat.not_le, Nat.not_lt, reduceCtorEq, if_true, if_false]
theorem k_hasRow (X : Sx) (d : Nat) (I : Ii) (T : Tt) (L : Nat) (v : Int32) (h9 : I 27 9 = nI L) (h60 : L ≤ 60) : c_X6_hasRow_60_27 X (d + 1) v I T = z_r (z_b (¬ v < 0 ∧ v < nI L)) I T := by
  rw [e_X6_hasRow_60_27]
  unfold z_b
  by_cases h1 : v < 0
  · simp (disch := omega) only [e_X6_hasRow_60_27_8, h9, h1, q_bd_l, z_ltT, z_ltF, z_eqT, z_eqF, z_ltlT, z_ltlF, z_lltT, z_lltF, z_eqlT, z_eqlF, z_in, z_k7, z_cl, z_lneg, z_llT, z_llF, z_s1, z_nI_cl, z_nlt0, z_ne_m1, z_b0, z_b1, z_la, z_al, z_lm, z_ml, z_nm, nI_add, pk_mul, ↓reduceIte, not_true_eq_false, not_false_eq_true, true_or, or_true, false_or, or_false, true_and, and_true, and_false, false_and, Classical.not_not, Nat.add_zero, z_01, z_em, z_bit_p, Nat.not_le, Nat.not_lt, reduceCtorEq, if_true, if_false]
  · by_cases h2 : v < nI L <;> simp (disch := omega) only [e_X6_hasRow_60_27_8, h9, h1, h2, q_bd_l, z_ltT, z_ltF, z_eqT, z_eqF, z_ltlT, z_ltlF, z_lltT, z_lltF, z_eqlT, z_eqlF, z_in, z_k7, z_cl, z_lneg, z_llT, z_llF, z_s1, z_nI_cl, z_nlt0, z_ne_m1, z_b0, z_b1, z_la, z_al, z_lm, z_ml, z_nm, nI_add, pk_mul, ↓reduceIte, not_true_eq_false, not_false_eq_true, true_or, or_true, false_or, or_false, true_and, and_true, and_false, false_and, Classical.not_not, Nat.add_zero, z_01, z_em, z_bit_p, Nat.not_le, Nat.not_lt, reduceCtorEq, if_true, if_false]
theorem k_cellT (X : Sx) (d : Nat) (I : Ii) (T : Tt) (r : Nat → Int32) (g L i : Nat) (h : z_Lg I 27 61 r g) (hL : r 10 = nI L) (h60 : L ≤ 60) (hi : i < L) : c_X6_cell_60_27 X (d + 2) (nI i) 1 I T = z_r (r (184 + 5 * i + 1)) I T ∧ c_X6_cell_60_27 X (d + 2) (nI i) 2 I T = z_r (r (184 + 5 * i + 2)) I T ∧ c_X6_cell_60_27 X (d + 2) (nI i) 3 I T = z_r (r (184 + 5 * i + 3)) I T := ⟨k_cell X d I T r g L i 1 h hL h60 hi (by omega), k_cell X d I T r g L i 2 h hL h60 hi (by omega), k_cell X d I T r g L i 3 h hL h60 hi (by omega)⟩
theorem k_timesAsked (X : Sx) (d : Nat) (I : Ii) (T : Tt) (r : Nat → Int32) (g L : Nat) (v : Int32) (h : z_Lg I 27 61 r g) (h9 : I 27 9 = nI L) (hL : r 10 = nI L) (h60 : L ≤ 60) : c_X6_timesAsked_60_27 X (d + 3) v I T = z_r (R_oft r L v) I T := by
  rw [e_X6_timesAsked_60_27]
  refine (z_for (fun k a => c_X6_timesAsked_60_27_4 X (d + 2) v a (nI k) I T) (fun i a => a + (if r (184 + 5 * i + 1) = v ∨ r (184 + 5 * i + 2) = v then 1 else 0)) L (fun k a hk => ?_) 0).trans ?_
  · rw [e_X6_timesAsked_60_27_4]
    have c1 := k_cellT X d I T r g L k h hL h60 hk
    by_cases h4 : r (184 + 5 * k + 1) = v
    · simp (disch := omega) only [e_X6_timesAsked_60_27_13, k_X6_timesAsked_60_27_13, e_X6_timesAsked_60_27_20, k_X6_timesAsked_60_27_20, e_X6_timesAsked_60_27_22, e_X6_timesAsked_60_27_23, h9, c1.1, c1.2.1, h4, q_bd_l, z_ltT, z_ltF, z_eqT, z_eqF, z_ltlT, z_ltlF, z_lltT, z_lltF, z_eqlT, z_eqlF, z_in, z_k7, z_cl, z_lneg, z_llT, z_llF, z_s1, z_nI_cl, z_nlt0, z_ne_m1, z_b0, z_b1, z_la, z_al, z_lm, z_ml, z_nm, nI_add, pk_mul, ↓reduceIte, not_true_eq_false, not_false_eq_true, true_or, or_true, false_or, or_false, true_and, and_true, and_false, false_and, Classical.not_not, Nat.add_zero, z_01, z_em, z_bit_p, Nat.not_le, Nat.not_lt, reduceCtorEq, if_true, if_false]
    · by_cases h5 : r (184 + 5 * k + 2) = v <;> simp (disch := omega) only [e_X6_timesAsked_60_27_13, k_X6_timesAsked_60_27_13, e_X6_timesAsked_60_27_20, k_X6_timesAsked_60_27_20, e_X6_timesAsked_60_27_22, e_X6_timesAsked_60_27_23, h9, c1.1, c1.2.1, h4, h5, Int32.add_zero, q_bd_l, z_ltT, z_ltF, z_eqT, z_eqF, z_ltlT, z_ltlF, z_lltT, z_lltF, z_eqlT, z_eqlF, z_in, z_k7, z_cl, z_lneg, z_llT, z_llF, z_s1, z_nI_cl, z_nlt0, z_ne_m1, z_b0, z_b1, z_la, z_al, z_lm, z_ml, z_nm, nI_add, pk_mul, ↓reduceIte, not_true_eq_false, not_false_eq_true, true_or, or_true, false_or, or_false, true_and, and_true, and_false, false_and, Classical.not_not, Nat.add_zero, z_01, z_em, z_bit_p, Nat.not_le, Nat.not_lt, reduceCtorEq, if_true, if_false]
  · rw [e_X6_timesAsked_60_27_4]
    simp (disch := omega) only [h9, q_bd_l, z_ltT, z_ltF, z_eqT, z_eqF, z_ltlT, z_ltlF, z_lltT, z_lltF, z_eqlT, z_eqlF, z_in, z_k7, z_cl, z_lneg, z_llT, z_llF, z_s1, z_nI_cl, z_nlt0, z_ne_m1, z_b0, z_b1, z_la, z_al, z_lm, z_ml, z_nm, nI_add, pk_mul, ↓reduceIte, not_true_eq_false, not_false_eq_true, true_or, or_true, false_or, or_false, true_and, and_true, and_false, false_and, Classical.not_not, Nat.add_zero, z_01, z_em, z_bit_p, Nat.not_le, Nat.not_lt, reduceCtorEq, if_true, if_false]
    rfl
theorem k_askedMost (X : Sx) (d : Nat) (I : Ii) (T : Tt) (r : Nat → Int32) (g L n : Nat) (h : z_Lg I 27 61 r g) (h9 : I 27 9 = nI L) (hL : r 10 = nI L) (h60 : L ≤ 60) (hn : n ≤ 10) : c_X6_askedMost_60_27 X (d + 4) (nI n) I T = z_r (R_askm r L n) I T := by
  rw [e_X6_askedMost_60_27]
  obtain ⟨o, -, p⟩ := z_foldP (β := Int32 × Int32) (σ := Option Value) (fun k q o => c_X6_askedMost_60_27_6 X (d + 3) (nI n) q.1 q.2 (nI k) o I T) (fun j (q : Int32 × Int32) => if q.2 < R_oft r L (nI j) then (nI j, R_oft r L (nI j)) else q) (fun _ _ _ => True) n (by
    intro k q o hk _
    refine ⟨some (.int (R_oft r L (nI k))), trivial, ?_⟩
    rw [e_X6_askedMost_60_27_6]
    have c1 := k_timesAsked X d I T r g L (nI k) h h9 hL h60
    by_cases h4 : q.2 < R_oft r L (nI k) <;> simp (disch := omega) only [e_X6_askedMost_60_27_13, k_X6_askedMost_60_27_13, e_X6_askedMost_60_27_21, c1, h4, q_bd_l, z_ltT, z_ltF, z_eqT, z_eqF, z_ltlT, z_ltlF, z_lltT, z_lltF, z_eqlT, z_eqlF, z_in, z_k7, z_cl, z_lneg, z_llT, z_llF, z_s1, z_nI_cl, z_nlt0, z_ne_m1, z_b0, z_b1, z_la, z_al, z_lm, z_ml, z_nm, nI_add, pk_mul, ↓reduceIte, not_true_eq_false, not_false_eq_true, true_or, or_true, false_or, or_false, true_and, and_true, and_false, false_and, Classical.not_not, Nat.add_zero, z_01, z_em, z_bit_p, Nat.not_le, Nat.not_lt, reduceCtorEq, if_true, if_false]) (-1, 0) none trivial
  refine p.trans ?_
  rw [e_X6_askedMost_60_27_6]
  simp (disch := omega) only [q_bd_l, z_ltT, z_ltF, z_eqT, z_eqF, z_ltlT, z_ltlF, z_lltT, z_lltF, z_eqlT, z_eqlF, z_in, z_k7, z_cl, z_lneg, z_llT, z_llF, z_s1, z_nI_cl, z_nlt0, z_ne_m1, z_b0, z_b1, z_la, z_al, z_lm, z_ml, z_nm, nI_add, pk_mul, ↓reduceIte, not_true_eq_false, not_false_eq_true, true_or, or_true, false_or, or_false, true_and, and_true, and_false, false_and, Classical.not_not, Nat.add_zero, z_01, z_em, z_bit_p, Nat.not_le, Nat.not_lt, reduceCtorEq, if_true, if_false]
  rfl
theorem k_latestOf (X : Sx) (d : Nat) (I : Ii) (T : Tt) (r : Nat → Int32) (g L t : Nat) (h : z_Lg I 27 61 r g) (h9 : I 27 9 = nI L) (hL : r 10 = nI L) (h60 : L ≤ 60) : c_X6_latestOf_60_27 X (d + 3) (nI t) I T = z_r (R_led r L (nI t)) I T := by
  rw [e_X6_latestOf_60_27]
  refine (z_find (fun k => c_X6_latestOf_60_27_2 X (d + 2) (nI t) (nI k) I T) (fun k => z_r (r (184 + 5 * k + 1)) I T) (fun i => decide (r (184 + 5 * i + 3) = nI t)) L (fun k hk => ?_)).trans ?_
  · rw [e_X6_latestOf_60_27_2]
    have c1 := k_cellT X d I T r g L k h hL h60 hk
    by_cases h4 : r (184 + 5 * k + 3) = nI t <;> simp (disch := omega) only [e_X6_latestOf_60_27_11, k_X6_latestOf_60_27_11, e_X6_latestOf_60_27_18, k_X6_latestOf_60_27_18, h9, c1.1, c1.2.2, h4, q_bd_l, z_ltT, z_ltF, z_eqT, z_eqF, z_ltlT, z_ltlF, z_lltT, z_lltF, z_eqlT, z_eqlF, z_in, z_k7, z_cl, z_lneg, z_llT, z_llF, z_s1, z_nI_cl, z_nlt0, z_ne_m1, z_b0, z_b1, z_la, z_al, z_lm, z_ml, z_nm, nI_add, pk_mul, ↓reduceIte, not_true_eq_false, not_false_eq_true, true_or, or_true, false_or, or_false, true_and, and_true, and_false, false_and, Classical.not_not, Nat.add_zero, z_01, z_em, z_bit_p, Nat.not_le, Nat.not_lt, reduceCtorEq, if_true, if_false, decide_true, decide_false, Bool.and_true, Bool.and_false, Bool.true_and, Bool.false_and, Bool.or_true, Bool.or_false, Bool.true_or, Bool.false_or, Bool.false_eq_true, ne_eq, Bool.not_true, Bool.not_false, decide_not]
  · rw [e_X6_latestOf_60_27_2]
    unfold R_led
    split <;> simp (disch := omega) only [h9, q_bd_l, z_ltT, z_ltF, z_eqT, z_eqF, z_ltlT, z_ltlF, z_lltT, z_lltF, z_eqlT, z_eqlF, z_in, z_k7, z_cl, z_lneg, z_llT, z_llF, z_s1, z_nI_cl, z_nlt0, z_ne_m1, z_b0, z_b1, z_la, z_al, z_lm, z_ml, z_nm, nI_add, pk_mul, ↓reduceIte, not_true_eq_false, not_false_eq_true, true_or, or_true, false_or, or_false, true_and, and_true, and_false, false_and, Classical.not_not, Nat.add_zero, z_01, z_em, z_bit_p, Nat.not_le, Nat.not_lt, reduceCtorEq, if_true, if_false]
def m_en (a k : Nat) : Bool := a == 61 || (a == 27 && (k == 8 || k == 9))
theorem k_enter (X : Sx) (d : Nat) (I : Ii) (T : Tt) (r : Nat → Int32) (g L : Nat) (j o t a : Int32) (h : z_Lg I 27 61 r g) (h9 : I 27 9 = nI L) (h5 : I 27 5 = r 8) (hL : r 10 = nI L) (h60 : L ≤ 60) : ∃ J, c_X6_enter_60_27 X (d + 1) j o t a I T = z_v J T ∧ z_fr m_en I J ∧ z_Lg J 27 61 (R_log j o t a r) (g + 1) ∧ J 27 9 = R_log j o t a r 10 ∧ ∀ mo r' g', mo ≠ 27 → mo ≠ 61 → g' ≤ g → g ≤ g' + 11 → z_Lg I mo 61 r' g' → z_Lg J mo 61 r' g' := by
  have h8 := h.1
  have hg : g % 72 < 72 := Nat.mod_lt _ (by decide)
  obtain ⟨w, hw⟩ : ∃ w, w = g % 72 := ⟨_, rfl⟩
  rw [← hw] at h8 hg
  have em : nI w * (5 : Int32) = nI (w * 5) := z_ml w 5
  have e1 : nI (w + 1) - nI (w + 1) / 72 * 72 = nI ((w + 1) % 72) := pk_rem (a := w + 1) (d := 72) (by omega) (by decide) (by decide)
  have e2 : (w + 1) % 72 = (g + 1) % 72 := by omega
  have e9 : (if nI (L + 1) < (60 : Int32) then nI (L + 1) else 60) = R_log j o t a r 10 := by
    show _ = (if 60 < r 10 + 1 then 60 else r 10 + 1)
    rw [hL, nI_1]
    have e60 : (60 : Int32) = nI 60 := rfl
    rw [e60]
    by_cases c1 : L + 1 < 60
    · rw [if_pos (nI_lt (b := 60) c1 (by omega)), if_neg (nI_nlt (a := 60) (by omega) (by omega))]
    · by_cases c2 : 60 < L + 1
      · rw [if_neg (nI_nlt (a := L + 1) (b := 60) (by omega) (by omega)), if_pos (nI_lt (a := 60) c2 (by omega))]
      · have : L + 1 = 60 := by omega
        rw [this]
  rw [e2] at e1
  refine ⟨q_w (q_w (q_w (q_w (q_w (q_w (q_w I 61 (w * 5) (r 8)) 61 (w * 5 + 1) j) 61 (w * 5 + 2) o) 61 (w * 5 + 3) t) 61 (w * 5 + 4) a) 27 8 (nI ((g + 1) % 72))) 27 9 (R_log j o t a r 10), ?_, ?_, ⟨?_, ?_⟩, z_w_s _ _ _ _, ?_⟩
  · rw [e_X6_enter_60_27, h8, h9, h5, em]
    simp (disch := omega) only [e1, e9, q_bd_l, z_ltT, z_ltF, z_eqT, z_eqF, z_ltlT, z_ltlF, z_lltT, z_lltF, z_eqlT, z_eqlF, z_in, z_k7, z_cl, z_lneg, z_llT, z_llF, z_s1, z_nI_cl, z_nlt0, z_ne_m1, z_b0, z_b1, z_la, z_al, z_lm, z_ml, z_nm, nI_add, pk_mul, ↓reduceIte, not_true_eq_false, not_false_eq_true, true_or, or_true, false_or, or_false, true_and, and_true, and_false, false_and, Classical.not_not, Nat.add_zero, z_01, z_em, z_bit_p, Nat.not_le, Nat.not_lt, reduceCtorEq, if_true, if_false]
  · exact z_fr_w (z_fr_w (z_fr_w (z_fr_w (z_fr_w (z_fr_w (z_fr_w (z_fr_r _ _) 61 _ _ rfl) 61 _ _ rfl) 61 _ _ rfl) 61 _ _ rfl) 61 _ _ rfl) 27 8 _ rfl) 27 9 _ rfl
  · rw [z_w_k _ _ _ _ _ (by decide), z_w_s]
  · intro i c hi hi2 hc
    rw [z_w_a _ _ _ _ _ (by decide), z_w_a _ _ _ _ _ (by decide)]
    rw [← e9] at hi
    have hiL : i < L + 1 := by
      by_cases c1 : L + 1 < 60
      · have e60 : (60 : Int32) = nI 60 := rfl
        rw [e60, if_pos (nI_lt (b := 60) c1 (by omega))] at hi
        rw [z_nI_lt _ _ (by omega) (by omega)] at hi
        exact hi
      · omega
    by_cases i0 : i = 0
    · subst i0
      have ew : (g + 1 + 72 - 1 - 0) % 72 = w := by omega
      rw [ew]
      have : c = 0 ∨ c = 1 ∨ c = 2 ∨ c = 3 ∨ c = 4 := by omega
      rcases this with rfl | rfl | rfl | rfl | rfl <;> simp (disch := omega) only [z_w_s, z_w_k, Nat.add_zero] <;> rfl
    · have ew : (g + 1 + 72 - 1 - i) % 72 = (g + 72 - 1 - (i - 1)) % 72 := by omega
      have hne : (g + 72 - 1 - (i - 1)) % 72 ≠ w := by omega
      have h2 := h.2 (i - 1) c (by rw [hL]; exact nI_lt (by omega) (by omega)) (by omega) hc
      rw [ew]
      generalize (g + 72 - 1 - (i - 1)) % 72 = u at *
      simp (disch := omega) only [z_w_k]
      rw [h2]
      unfold R_log
      rw [if_neg (by omega), if_neg (by omega), if_neg (by omega), if_neg (by omega), if_neg (by omega), if_neg (by omega), if_pos (by omega)]
      congr 1
      omega
  · intro mo r' g' m1 m2 hg1 hg2 hLg
    refine ⟨?_, fun i c hi hi2 hc => ?_⟩
    · rw [z_w_a _ _ _ _ _ m1, z_w_a _ _ _ _ _ m1, z_w_a _ _ _ _ _ m2, z_w_a _ _ _ _ _ m2, z_w_a _ _ _ _ _ m2, z_w_a _ _ _ _ _ m2, z_w_a _ _ _ _ _ m2]
      exact hLg.1
    · have h2 := hLg.2 i c hi hi2 hc
      have hne : (g' + 72 - 1 - i) % 72 ≠ w := by omega
      rw [z_w_a _ _ _ _ _ (by decide), z_w_a _ _ _ _ _ (by decide)]
      generalize (g' + 72 - 1 - i) % 72 = u at *
      simp (disch := omega) only [z_w_k]
      exact h2
