/-! ===== THE REFERENCE READS: figures, PARTS, SUMS, conditions ===== -/
def m_p (a k : Nat) : Bool := a == 139 && (k == 11 || k == 13 || k == 14 || k == 18 || k == 19 || k == 20)
/-- where the reader stands behind a fault -/
def z_aw (b : Nat) (J : Ii) : Prop := ∃ w, J 139 11 = nI w ∧ w ≤ 400 + b
theorem z_aw_m {b c : Nat} {J : Ii} (h : z_aw b J) (hb : b ≤ c) : z_aw c J := by
  obtain ⟨w, h1, h2⟩ := h
  exact ⟨w, h1, by omega⟩
theorem z_aw_A (I : Ii) (p e : Nat) (hp : p ≤ 400) (b : Nat) : z_aw b (q_w (z_A I p) 139 13 (nI e)) := ⟨p, by rw [z_w_k _ _ _ _ 11 (by decide)]; exact z_w_s _ _ _ _, by omega⟩
theorem t_w_len : ∀ i, i < 71 → (t_w i).length < 100 := by decide
theorem l_wordN (X : Sx) (d : Nat) (i : Nat) (hi : i < 71) (I : Ii) (T : Tt) {B : Nat → Nat} {n : Nat} (h : z_tx I B n) (p : Nat) (hp : p ≤ n) : c_X12_has__139 X (d + 3) (OfNat.ofNat i : UInt32) (z_A I p) T = z_r (z_b (t_isW (t_w i) B n (t_sk B n p) = true)) (z_A I (if t_isW (t_w i) B n (t_sk B n p) = true then t_sk B n p + (t_w i).length else t_sk B n p)) T := by
  have e : (OfNat.ofNat i : UInt32).toNat = i := by
    show i % 4294967296 = i
    omega
  exact l_hasW X d _ (t_w i) (by rw [e]; exact hi) (by rw [e]; rfl) (t_w_len i hi) I T h p hp
theorem l_word (X : Sx) (d : Nat) (i : Nat) (hi : OfNat.ofNat i < 71) (I : Ii) (T : Tt) {B : Nat → Nat} {n : Nat} (h : z_tx I B n) (p : Nat) (hp : p ≤ n) : c_X12_has__139 X (d + 3) (no_index (OfNat.ofNat i) : UInt32) (z_A I p) T = z_r (z_b (t_isW (t_w (OfNat.ofNat i)) B n (t_sk B n p) = true)) (z_A I (if t_isW (t_w (OfNat.ofNat i)) B n (t_sk B n p) = true then t_sk B n p + (t_w (OfNat.ofNat i)).length else t_sk B n p)) T := l_wordN X d i hi I T h p hp
theorem z_A_fr (I : Ii) (p : Nat) : z_fr m_p I (z_A I p) := z_fr_w (z_fr_r _ _) 139 11 _ rfl
theorem l_fig11 (X : Sx) (d : Nat) (lo hi : Int32) (I : Ii) (T : Tt) {B : Nat → Nat} {n : Nat} (h : z_tx I B n) (dg : Nat) (hdg : dg ≤ 4) (hD : I 139 12 = nI dg) (s M : Nat) (hs : s ≤ n) (hM : M = min (t_nf B n s) (dg + 1)) : ∀ m i, i + m = M → c_X12_figures_139_11 X (d + 1) lo hi (nI s) (nI (t_num B s i)) (z_A I (s + i)) T = c_X12_figures_139_49 X (d + 1) lo hi (nI s) (nI (t_num B s M)) (z_A I (s + M)) T := by
  have h2 := h.2.1
  have h1 := h.1
  have hg := t_scan_ge t_dig B n s
  have hl := t_scan_le t_dig B hs
  have hnf : t_nf B n s = t_scan t_dig B n s - s := rfl
  intro m
  induction m with
  | zero =>
    intro i hi
    have hi : i = M := by omega
    subst hi
    rw [e_X12_figures_139_11]
    have e3 : nI (s + i) - nI s = nI (s + i - s) := pk_sub (by omega)
    have e4 : s + i - s = i := by omega
    by_cases hn : s + i < n
    · have h3 := h.2.2.1 _ hn
      by_cases hd : t_dig (B (s + i)) = true
      · have hi9 : i = dg + 1 := by
          rcases (by omega : i = t_nf B n s ∨ i = dg + 1) with h5 | h5
          · exfalso
            refine t_scan_out t_dig B n s ⟨by omega, ?_⟩
            rw [show t_scan t_dig B n s = s + i by omega]
            exact hd
          · exact h5
        rw [t_dig_p] at hd
        simp (disch := omega) only [e_X12_figures_139_20, e_X12_figures_139_23, k_X12_figures_139_20, k_X12_figures_139_23, z_A_11, z_A_k, h2, hD, e3, e4, l_letter X d (z_A I (s + i)) T (z_tx_A h _) _ hn, l_isIn, q_bd_l, z_ltT, z_ltF, z_eqT, z_eqF, z_ltlT, z_ltlF, z_lltT, z_lltF, z_eqlT, z_eqlF, z_in, z_k7, z_cl, z_lneg, z_llT, z_llF, z_s1, z_nI_cl, z_nlt0, z_ne_m1, z_b0, z_b1, z_la, z_al, z_lm, z_ml, z_nm, nI_add, pk_mul, ↓reduceIte, not_true_eq_false, not_false_eq_true, true_or, or_true, false_or, or_false, true_and, and_true, and_false, false_and, Classical.not_not, Nat.add_zero, z_01, z_em, z_bit_p, Nat.not_le, Nat.not_lt, reduceCtorEq, if_true, if_false]
      · rw [t_dig_p] at hd
        rcases (by omega : B (s + i) < 48 ∨ 57 < B (s + i)) with h7 | h7
        · simp (disch := omega) only [e_X12_figures_139_20, e_X12_figures_139_23, k_X12_figures_139_20, k_X12_figures_139_23, z_A_11, z_A_k, h2, hD, l_letter X d (z_A I (s + i)) T (z_tx_A h _) _ hn, l_isIn, q_bd_l, z_ltT, z_ltF, z_eqT, z_eqF, z_ltlT, z_ltlF, z_lltT, z_lltF, z_eqlT, z_eqlF, z_in, z_k7, z_cl, z_lneg, z_llT, z_llF, z_s1, z_nI_cl, z_nlt0, z_ne_m1, z_b0, z_b1, z_la, z_al, z_lm, z_ml, z_nm, nI_add, pk_mul, ↓reduceIte, not_true_eq_false, not_false_eq_true, true_or, or_true, false_or, or_false, true_and, and_true, and_false, false_and, Classical.not_not, Nat.add_zero, z_01, z_em, z_bit_p, Nat.not_le, Nat.not_lt, reduceCtorEq, if_true, if_false]
        · simp (disch := omega) only [e_X12_figures_139_20, e_X12_figures_139_23, k_X12_figures_139_20, k_X12_figures_139_23, z_A_11, z_A_k, h2, hD, l_letter X d (z_A I (s + i)) T (z_tx_A h _) _ hn, l_isIn, q_bd_l, z_ltT, z_ltF, z_eqT, z_eqF, z_ltlT, z_ltlF, z_lltT, z_lltF, z_eqlT, z_eqlF, z_in, z_k7, z_cl, z_lneg, z_llT, z_llF, z_s1, z_nI_cl, z_nlt0, z_ne_m1, z_b0, z_b1, z_la, z_al, z_lm, z_ml, z_nm, nI_add, pk_mul, ↓reduceIte, not_true_eq_false, not_false_eq_true, true_or, or_true, false_or, or_false, true_and, and_true, and_false, false_and, Classical.not_not, Nat.add_zero, z_01, z_em, z_bit_p, Nat.not_le, Nat.not_lt, reduceCtorEq, if_true, if_false]
    · simp (disch := omega) only [z_A_11, z_A_k, h2, q_bd_l, z_ltT, z_ltF, z_eqT, z_eqF, z_ltlT, z_ltlF, z_lltT, z_lltF, z_eqlT, z_eqlF, z_in, z_k7, z_cl, z_lneg, z_llT, z_llF, z_s1, z_nI_cl, z_nlt0, z_ne_m1, z_b0, z_b1, z_la, z_al, z_lm, z_ml, z_nm, nI_add, pk_mul, ↓reduceIte, not_true_eq_false, not_false_eq_true, true_or, or_true, false_or, or_false, true_and, and_true, and_false, false_and, Classical.not_not, Nat.add_zero, z_01, z_em, z_bit_p, Nat.not_le, Nat.not_lt, reduceCtorEq, if_true, if_false]
  | succ m ih =>
    intro i hi
    rw [e_X12_figures_139_11]
    have hi9 : i < t_nf B n s := by omega
    obtain ⟨hn, hd, -⟩ := t_scan_in (P := t_dig) (B := B) (n := n) (p := s) (q := s + i) (by omega) (by omega)
    have h3 := h.2.2.1 _ hn
    have hb := t_num_lt B n s i (by omega)
    have hb2 : (10 : Nat) ^ i ≤ 10 ^ 4 := Nat.pow_le_pow_right (by decide) (by omega)
    have e3 : nI (s + i) - nI s = nI (s + i - s) := pk_sub (by omega)
    have e4 : s + i - s = i := by omega
    have e5 : 10 * t_num B s i + B (s + i) - 48 = t_num B s (i + 1) := rfl
    rw [t_dig_p] at hd
    simp (disch := omega) only [e_X12_figures_139_20, e_X12_figures_139_23, k_X12_figures_139_20, k_X12_figures_139_23, e_X12_figures_139_38, k_X12_figures_139_38, z_A_11, z_A_k, h2, hD, e3, e4, l_letter X d (z_A I (s + i)) T (z_tx_A h _) _ hn, l_isIn, z_A_w, e5, q_bd_l, z_ltT, z_ltF, z_eqT, z_eqF, z_ltlT, z_ltlF, z_lltT, z_lltF, z_eqlT, z_eqlF, z_in, z_k7, z_cl, z_lneg, z_llT, z_llF, z_s1, z_nI_cl, z_nlt0, z_ne_m1, z_b0, z_b1, z_la, z_al, z_lm, z_ml, z_nm, nI_add, pk_mul, ↓reduceIte, not_true_eq_false, not_false_eq_true, true_or, or_true, false_or, or_false, true_and, and_true, and_false, false_and, Classical.not_not, Nat.add_zero, z_01, z_em, z_bit_p, Nat.not_le, Nat.not_lt, reduceCtorEq, if_true, if_false]
    exact ih (i + 1) (by omega)
theorem l_fig (X : Sx) (d : Nat) (lo hi : Int32) (I : Ii) (T : Tt) {B : Nat → Nat} {n : Nat} (h : z_tx I B n) (hf : I 139 13 = -1) (dg : Nat) (hdg : dg ≤ 4) (hD : I 139 12 = nI dg) (p : Nat) (hp : p ≤ n) :
    (t_isN lo hi dg B n (t_sk B n p) = true → c_X12_figures_139 X (d + 4) lo hi (z_A I p) T = z_r (nI (t_num B (t_sk B n p) (t_nf B n (t_sk B n p)))) (z_A I (t_end B n (t_sk B n p))) T) ∧
    (¬ t_isN lo hi dg B n (t_sk B n p) = true → ∃ v J, c_X12_figures_139 X (d + 4) lo hi (z_A I p) T = z_r v J T ∧ J 139 13 = nI (t_sk B n p) ∧ z_aw 0 J ∧ z_fr m_p I J) := by
  have h2 := h.2.1
  have h1 := h.1
  have hs := t_sk_le (B := B) hp
  have hg := t_scan_ge t_dig B n (t_sk B n p)
  have hl := t_scan_le t_dig B hs
  have hnf : t_nf B n (t_sk B n p) = t_scan t_dig B n (t_sk B n p) - t_sk B n p := rfl
  have key : ∀ s M, s = t_sk B n p → M = min (t_nf B n s) (dg + 1) → c_X12_figures_139 X (d + 4) lo hi (z_A I p) T = c_X12_figures_139_49 X (d + 3) lo hi (nI s) (nI (t_num B s M)) (z_A I (s + M)) T := by
    intro s M es hM
    subst es
    rw [e_X12_figures_139]
    simp (disch := omega) only [e_X12_figures_139_8, k_X12_figures_139_8, z_A_k, hf, l_place X d I T h p hp, q_bd_l, z_ltT, z_ltF, z_eqT, z_eqF, z_ltlT, z_ltlF, z_lltT, z_lltF, z_eqlT, z_eqlF, z_in, z_k7, z_cl, z_lneg, z_llT, z_llF, z_s1, z_nI_cl, z_nlt0, z_ne_m1, z_b0, z_b1, z_la, z_al, z_lm, z_ml, z_nm, nI_add, pk_mul, ↓reduceIte, not_true_eq_false, not_false_eq_true, true_or, or_true, false_or, or_false, true_and, and_true, and_false, false_and, Classical.not_not, Nat.add_zero, z_01, z_em, z_bit_p, Nat.not_le, Nat.not_lt, reduceCtorEq, if_true, if_false]
    exact l_fig11 X (d + 2) lo hi I T h dg hdg hD _ M hs hM M 0 (by omega)
  generalize es : t_sk B n p = s at *
  have hb : ∀ M, M = min (t_nf B n s) (dg + 1) → t_num B s M < 100000 := by
    intro M hM
    have := t_num_lt B n s M (by omega)
    have h5 : (10 : Nat) ^ M ≤ 10 ^ 5 := Nat.pow_le_pow_right (by decide) (by omega)
    omega
  constructor
  · intro hN
    obtain ⟨n1, n2, n3, n4, n5, n6⟩ := t_isN_lt hN
    rw [t_isN_p] at hN
    obtain ⟨m1, m2, m3, m4⟩ := hN
    rw [key s (t_nf B n s) rfl (by omega), n3, e_X12_figures_139_49]
    have e3 : nI (s + t_nf B n s) - nI s = nI (s + t_nf B n s - s) := pk_sub (by omega)
    simp (disch := omega) only [e_X12_figures_139_69, z_A_11, z_A_k, hD, e3, m3, m4, q_bd_l, z_ltT, z_ltF, z_eqT, z_eqF, z_ltlT, z_ltlF, z_lltT, z_lltF, z_eqlT, z_eqlF, z_in, z_k7, z_cl, z_lneg, z_llT, z_llF, z_s1, z_nI_cl, z_nlt0, z_ne_m1, z_b0, z_b1, z_la, z_al, z_lm, z_ml, z_nm, nI_add, pk_mul, ↓reduceIte, not_true_eq_false, not_false_eq_true, true_or, or_true, false_or, or_false, true_and, and_true, and_false, false_and, Classical.not_not, Nat.add_zero, z_01, z_em, z_bit_p, Nat.not_le, Nat.not_lt, reduceCtorEq, if_true, if_false]
  · intro hN
    rw [t_isN_p] at hN
    rw [key s (min (t_nf B n s) (dg + 1)) rfl rfl, e_X12_figures_139_49]
    generalize hM : min (t_nf B n s) (dg + 1) = M at *
    have e3 : nI (s + M) - nI s = nI (s + M - s) := pk_sub (by omega)
    have e4 : s + M - s = M := by omega
    have w : c_X12_figures_139_66 X (d + 3) lo hi (nI s) (nI (t_num B s M)) (z_A I (s + M)) T = z_r (nI (t_num B s M)) (q_w (z_A I (s + M)) 139 13 (nI s)) T := by
      rw [e_X12_figures_139_66, l_wrong X (d + 2) _ _ T (by rw [z_A_k _ _ _ (by decide)]; exact hf)]
      simp (disch := omega) only [e_X12_figures_139_69, k_X12_figures_139_69, q_bd_l, z_ltT, z_ltF, z_eqT, z_eqF, z_ltlT, z_ltlF, z_lltT, z_lltF, z_eqlT, z_eqlF, z_in, z_k7, z_cl, z_lneg, z_llT, z_llF, z_s1, z_nI_cl, z_nlt0, z_ne_m1, z_b0, z_b1, z_la, z_al, z_lm, z_ml, z_nm, nI_add, pk_mul, ↓reduceIte, not_true_eq_false, not_false_eq_true, true_or, or_true, false_or, or_false, true_and, and_true, and_false, false_and, Classical.not_not, Nat.add_zero, z_01, z_em, z_bit_p, Nat.not_le, Nat.not_lt, reduceCtorEq, if_true, if_false]
    have fin : ∃ v J, z_r (nI (t_num B s M)) (q_w (z_A I (s + M)) 139 13 (nI s)) T = z_r v J T ∧ J 139 13 = nI s ∧ z_aw 0 J ∧ z_fr m_p I J := ⟨_, _, rfl, z_w_s _ _ _ _, z_aw_A I _ _ (by omega) 0, z_fr_w (z_A_fr I _) 139 13 _ rfl⟩
    by_cases h5 : M = 0
    · have h6 : s + M = s := by omega
      simp (disch := omega) only [z_A_11, z_A_k, hD, w, q_bd_l, z_ltT, z_ltF, z_eqT, z_eqF, z_ltlT, z_ltlF, z_lltT, z_lltF, z_eqlT, z_eqlF, z_in, z_k7, z_cl, z_lneg, z_llT, z_llF, z_s1, z_nI_cl, z_nlt0, z_ne_m1, z_b0, z_b1, z_la, z_al, z_lm, z_ml, z_nm, nI_add, pk_mul, ↓reduceIte, not_true_eq_false, not_false_eq_true, true_or, or_true, false_or, or_false, true_and, and_true, and_false, false_and, Classical.not_not, Nat.add_zero, z_01, z_em, z_bit_p, Nat.not_le, Nat.not_lt, reduceCtorEq, if_true, if_false]
      exact fin
    · by_cases h6 : dg < M
      · simp (disch := omega) only [z_A_11, z_A_k, hD, e3, e4, w, q_bd_l, z_ltT, z_ltF, z_eqT, z_eqF, z_ltlT, z_ltlF, z_lltT, z_lltF, z_eqlT, z_eqlF, z_in, z_k7, z_cl, z_lneg, z_llT, z_llF, z_s1, z_nI_cl, z_nlt0, z_ne_m1, z_b0, z_b1, z_la, z_al, z_lm, z_ml, z_nm, nI_add, pk_mul, ↓reduceIte, not_true_eq_false, not_false_eq_true, true_or, or_true, false_or, or_false, true_and, and_true, and_false, false_and, Classical.not_not, Nat.add_zero, z_01, z_em, z_bit_p, Nat.not_le, Nat.not_lt, reduceCtorEq, if_true, if_false]
        exact fin
      · have hM2 : M = t_nf B n s := by omega
        by_cases h7 : nI (t_num B s M) < lo
        · simp (disch := omega) only [z_A_11, z_A_k, hD, e3, e4, w, h7, q_bd_l, z_ltT, z_ltF, z_eqT, z_eqF, z_ltlT, z_ltlF, z_lltT, z_lltF, z_eqlT, z_eqlF, z_in, z_k7, z_cl, z_lneg, z_llT, z_llF, z_s1, z_nI_cl, z_nlt0, z_ne_m1, z_b0, z_b1, z_la, z_al, z_lm, z_ml, z_nm, nI_add, pk_mul, ↓reduceIte, not_true_eq_false, not_false_eq_true, true_or, or_true, false_or, or_false, true_and, and_true, and_false, false_and, Classical.not_not, Nat.add_zero, z_01, z_em, z_bit_p, Nat.not_le, Nat.not_lt, reduceCtorEq, if_true, if_false]
          exact fin
        · by_cases h8 : hi < nI (t_num B s M)
          · simp (disch := omega) only [z_A_11, z_A_k, hD, e3, e4, w, h7, h8, q_bd_l, z_ltT, z_ltF, z_eqT, z_eqF, z_ltlT, z_ltlF, z_lltT, z_lltF, z_eqlT, z_eqlF, z_in, z_k7, z_cl, z_lneg, z_llT, z_llF, z_s1, z_nI_cl, z_nlt0, z_ne_m1, z_b0, z_b1, z_la, z_al, z_lm, z_ml, z_nm, nI_add, pk_mul, ↓reduceIte, not_true_eq_false, not_false_eq_true, true_or, or_true, false_or, or_false, true_and, and_true, and_false, false_and, Classical.not_not, Nat.add_zero, z_01, z_em, z_bit_p, Nat.not_le, Nat.not_lt, reduceCtorEq, if_true, if_false]
            exact fin
          · exfalso
            rw [← hM2] at hN
            exact hN ⟨by omega, by omega, h7, h8⟩
