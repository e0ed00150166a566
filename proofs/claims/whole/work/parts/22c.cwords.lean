/-! ===== THE CLASS: words of the language on its tape ===== -/
def w_ok (w : List Int32) : Bool := Nat.blt 0 w.length && Nat.blt w.length 100 && w.all (fun x => decide (nI x.toNatClampNeg = x) && Nat.blt x.toNatClampNeg 128)
theorem w_ok_p {w : List Int32} (h : w_ok w = true) : (0 < w.length ∧ w.length < 100) ∧ ∀ i, i < w.length → ∃ c, c < 128 ∧ w.getD i 0 = nI c := by
  unfold w_ok at h
  simp only [Bool.and_eq_true, List.all_eq_true] at h
  obtain ⟨⟨h1, h2⟩, h3⟩ := h
  refine ⟨⟨by simpa using h1, by simpa using h2⟩, fun i hi => ?_⟩
  have hm : w.getD i 0 ∈ w := by
    rw [List.getD_eq_getElem?_getD, List.getElem?_eq_getElem hi]
    exact List.getElem_mem hi
  have := h3 _ hm
  simp only [Bool.and_eq_true, decide_eq_true_eq] at this
  exact ⟨(w.getD i 0).toNatClampNeg, by simpa using this.2, this.1.symm⟩
theorem k_takeW (X : Sx) (d : Nat) (u : UInt32) (hu : u.toNat < q_sb.length) (hw : w_ok (q_sb.getD u.toNat []) = true) (I : Ii) (T : Tt) {B : Nat → Nat} {n p : Nat} (h : z_Rd I B n p) : ∃ J, c_X10_takeWord_1 X (d + 2) u I T = z_r (z_b (t_isW (q_sb.getD u.toNat []) B n p = true)) J T ∧ z_fr m_ta I J ∧ z_Rd J B n (if t_isW (q_sb.getD u.toNat []) B n p = true then t_nx B n p else p) ∧ J 1 6 = I 1 6 := k_takeWord X d u _ hu rfl (w_ok_p hw).1 (w_ok_p hw).2 I T h
theorem k_isW (X : Sx) (d : Nat) (u : UInt32) (hu : u.toNat < q_sb.length) (hw : w_ok (q_sb.getD u.toNat []) = true) (I : Ii) (T : Tt) {B : Nat → Nat} {n p : Nat} (h : z_Rd I B n p) : c_X10_isWord_1 X (d + 1) u I T = z_r (z_b (t_isW (q_sb.getD u.toNat []) B n p = true)) I T := k_isWord X d u _ hu rfl (w_ok_p hw).1 (w_ok_p hw).2 I T h
/-- which liquid stands there: 3 none -/
def t_liq (B : Nat → Nat) (n p : Nat) : Nat := if t_isW (q_sb.getD 42 []) B n p = true then 0 else if t_isW (q_sb.getD 43 []) B n p = true then 1 else if t_isW (q_sb.getD 44 []) B n p = true then 2 else 3
theorem k_takeLiquid (X : Sx) (d : Nat) (I : Ii) (T : Tt) {B : Nat → Nat} {n p : Nat} (h : z_Rd I B n p) : ∃ J, c_X10_takeLiquid_1 X (d + 3) I T = z_r (if t_liq B n p < 3 then nI (t_liq B n p) else -1) J T ∧ z_fr m_ta I J ∧ z_Rd J B n (if t_liq B n p < 3 then t_nx B n p else p) ∧ J 1 6 = I 1 6 := by
  obtain ⟨A, a1, a2, a3, a4⟩ := k_takeW X d 42 (by decide) (by decide +kernel) I T h
  have u42 : (42 : UInt32).toNat = 42 := rfl
  have u43 : (43 : UInt32).toNat = 43 := rfl
  have u44 : (44 : UInt32).toNat = 44 := rfl
  rw [u42] at a1 a3
  unfold t_liq
  unfold z_b at a1
  by_cases c1 : t_isW (q_sb.getD 42 []) B n p = true
  · rw [if_pos c1] at a1 a3 ⊢
    refine ⟨A, ?_, a2, a3, a4⟩
    rw [e_X10_takeLiquid_1, a1]
    simp (disch := omega) only [e_X10_takeLiquid_1_3, k_X10_takeLiquid_1_3, e_X10_takeLiquid_1_9, k_X10_takeLiquid_1_9, e_X10_takeLiquid_1_15, k_X10_takeLiquid_1_15, q_bd_l, z_ltT, z_ltF, z_eqT, z_eqF, z_ltlT, z_ltlF, z_lltT, z_lltF, z_eqlT, z_eqlF, z_in, z_k7, z_cl, z_lneg, z_llT, z_llF, z_s1, z_nI_cl, z_nlt0, z_ne_m1, z_b0, z_b1, z_la, z_al, z_lm, z_ml, z_nm, nI_add, pk_mul, ↓reduceIte, not_true_eq_false, not_false_eq_true, true_or, or_true, false_or, or_false, true_and, and_true, and_false, false_and, Classical.not_not, Nat.add_zero, z_01, z_em, z_bit_p, Nat.not_le, Nat.not_lt, reduceCtorEq, if_true, if_false]
    rfl
  · rw [if_neg c1] at a1 a3 ⊢
    obtain ⟨C, b1, b2, b3, b4⟩ := k_takeW X d 43 (by decide) (by decide +kernel) A T a3
    rw [u43] at b1 b3
    unfold z_b at b1
    by_cases c2 : t_isW (q_sb.getD 43 []) B n p = true
    · rw [if_pos c2] at b1 b3 ⊢
      refine ⟨C, ?_, z_fr_t a2 b2, b3, b4.trans a4⟩
      rw [e_X10_takeLiquid_1, a1]
      simp (disch := omega) only [e_X10_takeLiquid_1_3, k_X10_takeLiquid_1_3, e_X10_takeLiquid_1_9, k_X10_takeLiquid_1_9, e_X10_takeLiquid_1_15, k_X10_takeLiquid_1_15, b1, q_bd_l, z_ltT, z_ltF, z_eqT, z_eqF, z_ltlT, z_ltlF, z_lltT, z_lltF, z_eqlT, z_eqlF, z_in, z_k7, z_cl, z_lneg, z_llT, z_llF, z_s1, z_nI_cl, z_nlt0, z_ne_m1, z_b0, z_b1, z_la, z_al, z_lm, z_ml, z_nm, nI_add, pk_mul, ↓reduceIte, not_true_eq_false, not_false_eq_true, true_or, or_true, false_or, or_false, true_and, and_true, and_false, false_and, Classical.not_not, Nat.add_zero, z_01, z_em, z_bit_p, Nat.not_le, Nat.not_lt, reduceCtorEq, if_true, if_false]
      rfl
    · rw [if_neg c2] at b1 b3 ⊢
      obtain ⟨D, d1, d2, d3, d4⟩ := k_takeW X d 44 (by decide) (by decide +kernel) C T b3
      rw [u44] at d1 d3
      unfold z_b at d1
      by_cases c3 : t_isW (q_sb.getD 44 []) B n p = true
      · rw [if_pos c3] at d1 d3 ⊢
        refine ⟨D, ?_, z_fr_t a2 (z_fr_t b2 d2), d3, d4.trans (b4.trans a4)⟩
        rw [e_X10_takeLiquid_1, a1]
        simp (disch := omega) only [e_X10_takeLiquid_1_3, k_X10_takeLiquid_1_3, e_X10_takeLiquid_1_9, k_X10_takeLiquid_1_9, e_X10_takeLiquid_1_15, k_X10_takeLiquid_1_15, b1, d1, q_bd_l, z_ltT, z_ltF, z_eqT, z_eqF, z_ltlT, z_ltlF, z_lltT, z_lltF, z_eqlT, z_eqlF, z_in, z_k7, z_cl, z_lneg, z_llT, z_llF, z_s1, z_nI_cl, z_nlt0, z_ne_m1, z_b0, z_b1, z_la, z_al, z_lm, z_ml, z_nm, nI_add, pk_mul, ↓reduceIte, not_true_eq_false, not_false_eq_true, true_or, or_true, false_or, or_false, true_and, and_true, and_false, false_and, Classical.not_not, Nat.add_zero, z_01, z_em, z_bit_p, Nat.not_le, Nat.not_lt, reduceCtorEq, if_true, if_false]
        rfl
      · rw [if_neg c3] at d1 d3 ⊢
        refine ⟨D, ?_, z_fr_t a2 (z_fr_t b2 d2), d3, d4.trans (b4.trans a4)⟩
        rw [e_X10_takeLiquid_1, a1]
        simp (disch := omega) only [e_X10_takeLiquid_1_3, k_X10_takeLiquid_1_3, e_X10_takeLiquid_1_9, k_X10_takeLiquid_1_9, e_X10_takeLiquid_1_15, k_X10_takeLiquid_1_15, b1, d1, q_bd_l, z_ltT, z_ltF, z_eqT, z_eqF, z_ltlT, z_ltlF, z_lltT, z_lltF, z_eqlT, z_eqlF, z_in, z_k7, z_cl, z_lneg, z_llT, z_llF, z_s1, z_nI_cl, z_nlt0, z_ne_m1, z_b0, z_b1, z_la, z_al, z_lm, z_ml, z_nm, nI_add, pk_mul, ↓reduceIte, not_true_eq_false, not_false_eq_true, true_or, or_true, false_or, or_false, true_and, and_true, and_false, false_and, Classical.not_not, Nat.add_zero, z_01, z_em, z_bit_p, Nat.not_le, Nat.not_lt, reduceCtorEq, if_true, if_false]
        rfl
theorem k_figure (X : Sx) (d : Nat) (I : Ii) (T : Tt) {B : Nat → Nat} {n p k : Nat} (h : z_Rd I B n p) (hk : p + k < n) : c_X10_figure_1 X (d + 2) (nI k) I T = z_r (nI (B (p + k)) - 48) I T := by
  have h2 := h.2.2.1
  have e : nI p + nI k = nI (p + k) := nI_add p k
  rw [e_X10_figure_1, h2, e, k_byteAt X d I T h.1 (p + k) hk]
  simp (disch := omega) only [e_X10_figure_1_6, k_X10_figure_1_6, q_bd_l, z_ltT, z_ltF, z_eqT, z_eqF, z_ltlT, z_ltlF, z_lltT, z_lltF, z_eqlT, z_eqlF, z_in, z_k7, z_cl, z_lneg, z_llT, z_llF, z_s1, z_nI_cl, z_nlt0, z_ne_m1, z_b0, z_b1, z_la, z_al, z_lm, z_ml, z_nm, nI_add, pk_mul, ↓reduceIte, not_true_eq_false, not_false_eq_true, true_or, or_true, false_or, or_false, true_and, and_true, and_false, false_and, Classical.not_not, Nat.add_zero, z_01, z_em, z_bit_p, Nat.not_le, Nat.not_lt, reduceCtorEq, if_true, if_false]
