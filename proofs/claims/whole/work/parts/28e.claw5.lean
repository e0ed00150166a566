/-! ===== THE CLASS READS THE LAW: lines ===== -/
theorem r_at_l {Ls : List Ln} {L : Ln} {i : Nat} (h : i < Ls.length) : r_at (Ls ++ [L]) i = r_at Ls i := by
  unfold r_at
  rw [List.getD_eq_getElem?_getD, List.getD_eq_getElem?_getD, List.getElem?_append_left h]
theorem r_at_n (Ls : List Ln) (L : Ln) : r_at (Ls ++ [L]) Ls.length = L := by
  unfold r_at
  simp
theorem r_E_l {Ls : List Ln} {L : Ln} : ∀ {i : Nat}, i ≤ Ls.length → r_E (Ls ++ [L]) i = r_E Ls i
  | 0, _ => rfl
  | i + 1, h => by
    show r_E (Ls ++ [L]) i + (r_at (Ls ++ [L]) i).2.2.1.length = r_E Ls i + (r_at Ls i).2.2.1.length
    rw [r_E_l (by omega), r_at_l (by omega)]
theorem r_E_n (Ls : List Ln) (L : Ln) : r_E (Ls ++ [L]) (Ls.length + 1) = r_E Ls Ls.length + L.2.2.1.length := by
  show r_E (Ls ++ [L]) Ls.length + (r_at (Ls ++ [L]) Ls.length).2.2.1.length = _
  rw [r_E_l (Nat.le_refl _), r_at_n]
/-- the draft has these lines -/
def k_Ls (I : Ii) (Ls : List Ln) (S : List Int32) : Prop := I 48 0 = nI Ls.length ∧ k_St I S ∧ S.length = r_E Ls Ls.length ∧ (∀ i, i < Ls.length → I 49 i = nI (r_at Ls i).1 ∧ I 50 i = nI (r_at Ls i).2.1 ∧ I 51 i = nI (r_E Ls (i + 1))) ∧ ∀ i, i < Ls.length → r_E Ls (i + 1) ≤ S.length ∧ ∀ t, t < (r_at Ls i).2.2.1.length → S.getD (r_E Ls i + t) 0 = (r_at Ls i).2.2.1.getD t 0
def m_ll (a k : Nat) : Bool := m_lr a k || a == 49 || a == 50 || a == 51 || (a == 48 && k == 0)
theorem z_ll_lr {I J : Ii} (h : z_fr m_lr I J) : z_fr m_ll I J := z_fr_m h (fun a k h => by simp [m_ll, h])
theorem k_addLine (X : Sx) (d : Nat) (I0 I : Ii) (T : Tt) {Ls : List Ln} {S : List Int32} (k m : Nat) (st : List Int32) (g : Fc → Int32) {B : Nat → Nat} {n p : Nat} (h : k_Ls I0 Ls S) (hf : z_fr m_lr I0 I) (hS : k_St I (S ++ st)) (hl : Ls.length < 12) (hR : z_Rd I B n p) : ∃ J, c_X4_addLine_48 X (d + 1) (nI k) (nI m) I T = z_v J T ∧ z_fr m_ll I J ∧ z_Rd J B n p ∧ k_Ls J (Ls ++ [(k, m, st, g)]) (S ++ st) := by
  obtain ⟨h1, h2, h3, h4, h5⟩ := h
  have i0 : I 48 0 = nI Ls.length := by rw [hf 48 0 rfl]; exact h1
  have i5 := hS.1
  have lS : (S ++ st).length = r_E (Ls ++ [(k, m, st, g)]) (Ls.length + 1) := by
    rw [List.length_append, h3, r_E_n]
  refine ⟨q_w (q_w (q_w (q_w I 49 Ls.length (nI k)) 50 Ls.length (nI m)) 51 Ls.length (nI (S ++ st).length)) 48 0 (nI (Ls.length + 1)), ?_, z_fr_w (z_fr_w (z_fr_w (z_fr_w (z_fr_r _ _) 49 _ _ rfl) 50 _ _ rfl) 51 _ _ rfl) 48 0 _ rfl, z_Rd_w (z_Rd_w (z_Rd_w (z_Rd_w hR 49 _ _ (by omega)) 50 _ _ (by omega)) 51 _ _ (by omega)) 48 _ _ (by omega), ?_, ?_, ?_, ?_, ?_⟩
  · rw [e_X4_addLine_48]
    simp (disch := omega) only [i0, i5, q_bd_l, z_ltT, z_ltF, z_eqT, z_eqF, z_ltlT, z_ltlF, z_lltT, z_lltF, z_eqlT, z_eqlF, z_in, z_k7, z_cl, z_lneg, z_llT, z_llF, z_s1, z_nI_cl, z_nlt0, z_ne_m1, z_b0, z_b1, z_la, z_al, z_lm, z_ml, z_nm, nI_add, pk_mul, ↓reduceIte, not_true_eq_false, not_false_eq_true, true_or, or_true, false_or, or_false, true_and, and_true, and_false, false_and, Classical.not_not, Nat.add_zero, z_01, z_em, z_bit_p, Nat.not_le, Nat.not_lt, reduceCtorEq, if_true, if_false]
  · rw [z_w_s, List.length_append]; rfl
  · refine ⟨?_, fun t ht => ?_⟩
    · rw [z_w_k _ _ _ _ _ (by decide), z_w_a _ _ _ _ _ (by decide), z_w_a _ _ _ _ _ (by decide), z_w_a _ _ _ _ _ (by decide)]; exact i5
    · rw [z_w_a _ _ _ _ _ (by decide), z_w_a _ _ _ _ _ (by decide), z_w_a _ _ _ _ _ (by decide), z_w_a _ _ _ _ _ (by decide)]; exact hS.2 t ht
  · rw [lS, List.length_append]; rfl
  · intro i hi
    rw [List.length_append] at hi
    have hi : i < Ls.length + 1 := hi
    by_cases e : i = Ls.length
    · subst e
      rw [r_at_n, ← lS]
      refine ⟨?_, ?_, ?_⟩
      · rw [z_w_a _ _ _ _ _ (by decide), z_w_a _ _ _ _ _ (by decide), z_w_a _ _ _ _ _ (by decide), z_w_s]
      · rw [z_w_a _ _ _ _ _ (by decide), z_w_a _ _ _ _ _ (by decide), z_w_s]
      · rw [z_w_a _ _ _ _ _ (by decide), z_w_s]
    · obtain ⟨a1, a2, a3⟩ := h4 i (by omega)
      rw [r_at_l (by omega), r_E_l (by omega)]
      refine ⟨?_, ?_, ?_⟩
      · rw [z_w_a _ _ _ _ _ (by decide), z_w_a _ _ _ _ _ (by decide), z_w_a _ _ _ _ _ (by decide), z_w_k _ _ _ _ _ e, hf 49 i rfl]; exact a1
      · rw [z_w_a _ _ _ _ _ (by decide), z_w_a _ _ _ _ _ (by decide), z_w_k _ _ _ _ _ e, z_w_a _ _ _ _ _ (by decide), hf 50 i rfl]; exact a2
      · rw [z_w_a _ _ _ _ _ (by decide), z_w_k _ _ _ _ _ e, z_w_a _ _ _ _ _ (by decide), z_w_a _ _ _ _ _ (by decide), hf 51 i rfl]; exact a3
  · intro i hi
    rw [List.length_append] at hi
    have hi : i < Ls.length + 1 := hi
    by_cases e : i = Ls.length
    · subst e
      rw [r_at_n, ← lS, r_E_l (Nat.le_refl _), ← h3]
      refine ⟨Nat.le_refl _, fun t ht => ?_⟩
      rw [List.getD_eq_getElem?_getD, List.getD_eq_getElem?_getD, List.getElem?_append_right (by omega)]
      rw [show S.length + t - S.length = t by omega]
    · obtain ⟨a1, a2⟩ := h5 i (by omega)
      rw [r_at_l (by omega), r_E_l (by omega), r_E_l (by omega)]
      refine ⟨by rw [List.length_append]; omega, fun t ht => ?_⟩
      have b1 : r_E Ls (i + 1) = r_E Ls i + (r_at Ls i).2.2.1.length := rfl
      rw [List.getD_eq_getElem?_getD, List.getElem?_append_left (by omega), ← List.getD_eq_getElem?_getD]
      exact a2 t ht
theorem k_kind (X : Sx) (d : Nat) (I : Ii) (T : Tt) {B : Nat → Nat} {n p : Nat} (h : z_Rd I B n p) : ∃ J, c_X5_takeKind_127 X (d + 3) I T = z_r (if p_kind B n p = 4 then -1 else nI (p_kind B n p)) J T ∧ z_fr m_ta I J ∧ z_Rd J B n (if p_kind B n p = 4 then p else t_nx B n p) ∧ (p_kind B n p ≠ 4 → p + 3 ≤ t_nx B n p) := by
  have gt : ∀ i, 3 ≤ (t_w i).length → t_isW (t_w i) B n p = true → p + 3 ≤ t_nx B n p := by
    intro i hi c
    have hW := t_end_W (w := t_w i) (by omega) c
    have hg := t_scan_ge t_blk B n (p + (t_w i).length)
    rw [← hW.1]; unfold t_sk; omega
  rw [e_X5_takeKind_127]
  unfold p_kind
  obtain ⟨-, k2, k3⟩ := k_w X d 28 67 (by decide) (by decide +kernel) (by decide +kernel) I T h
  by_cases c0 : t_isW (t_w 67) B n p = true
  · rw [if_pos c0]
    obtain ⟨A, a1, a2, a3⟩ := k2 c0
    have a1' : c_X10_takeWord_1 X (d + 2) (28 : UInt32) I T = z_r 1 A T := a1
    refine ⟨A, ?_, a2, a3, fun _ => gt 67 (by decide +kernel) c0⟩
    simp (disch := omega) only [e_X5_takeKind_127_4, k_X5_takeKind_127_4, a1', q_bd_l, z_ltT, z_ltF, z_eqT, z_eqF, z_ltlT, z_ltlF, z_lltT, z_lltF, z_eqlT, z_eqlF, z_in, z_k7, z_cl, z_lneg, z_llT, z_llF, z_s1, z_nI_cl, z_nlt0, z_ne_m1, z_b0, z_b1, z_la, z_al, z_lm, z_ml, z_nm, nI_add, pk_mul, ↓reduceIte, not_true_eq_false, not_false_eq_true, true_or, or_true, false_or, or_false, true_and, and_true, and_false, false_and, Classical.not_not, Nat.add_zero, z_01, z_em, z_bit_p, Nat.not_le, Nat.not_lt, reduceCtorEq, if_true, if_false]
    rfl
  rw [if_neg c0]
  obtain ⟨A, a1, a2, a3⟩ := k3 c0
  have a1' : c_X10_takeWord_1 X (d + 2) (28 : UInt32) I T = z_r 0 A T := a1
  obtain ⟨-, k4, k5⟩ := k_w X d 29 68 (by decide) (by decide +kernel) (by decide +kernel) A T a3
  by_cases c1 : t_isW (t_w 68) B n p = true
  · rw [if_pos c1]
    obtain ⟨C, b1, b2, b3⟩ := k4 c1
    have b1' : c_X10_takeWord_1 X (d + 2) (29 : UInt32) A T = z_r 1 C T := b1
    refine ⟨C, ?_, z_fr_t a2 b2, b3, fun _ => gt 68 (by decide +kernel) c1⟩
    simp (disch := omega) only [e_X5_takeKind_127_4, k_X5_takeKind_127_4, e_X5_takeKind_127_11, k_X5_takeKind_127_11, a1', b1', q_bd_l, z_ltT, z_ltF, z_eqT, z_eqF, z_ltlT, z_ltlF, z_lltT, z_lltF, z_eqlT, z_eqlF, z_in, z_k7, z_cl, z_lneg, z_llT, z_llF, z_s1, z_nI_cl, z_nlt0, z_ne_m1, z_b0, z_b1, z_la, z_al, z_lm, z_ml, z_nm, nI_add, pk_mul, ↓reduceIte, not_true_eq_false, not_false_eq_true, true_or, or_true, false_or, or_false, true_and, and_true, and_false, false_and, Classical.not_not, Nat.add_zero, z_01, z_em, z_bit_p, Nat.not_le, Nat.not_lt, reduceCtorEq, if_true, if_false]
    rfl
  rw [if_neg c1]
  obtain ⟨C, b1, b2, b3⟩ := k5 c1
  have b1' : c_X10_takeWord_1 X (d + 2) (29 : UInt32) A T = z_r 0 C T := b1
  obtain ⟨-, k6, k7⟩ := k_w X d 30 51 (by decide) (by decide +kernel) (by decide +kernel) C T b3
  by_cases c2 : t_isW (t_w 51) B n p = true
  · rw [if_pos c2]
    obtain ⟨E, e1, e2, e3⟩ := k6 c2
    have e1' : c_X10_takeWord_1 X (d + 2) (30 : UInt32) C T = z_r 1 E T := e1
    refine ⟨E, ?_, z_fr_t a2 (z_fr_t b2 e2), e3, fun _ => gt 51 (by decide +kernel) c2⟩
    simp (disch := omega) only [e_X5_takeKind_127_4, k_X5_takeKind_127_4, e_X5_takeKind_127_11, k_X5_takeKind_127_11, e_X5_takeKind_127_18, k_X5_takeKind_127_18, a1', b1', e1', q_bd_l, z_ltT, z_ltF, z_eqT, z_eqF, z_ltlT, z_ltlF, z_lltT, z_lltF, z_eqlT, z_eqlF, z_in, z_k7, z_cl, z_lneg, z_llT, z_llF, z_s1, z_nI_cl, z_nlt0, z_ne_m1, z_b0, z_b1, z_la, z_al, z_lm, z_ml, z_nm, nI_add, pk_mul, ↓reduceIte, not_true_eq_false, not_false_eq_true, true_or, or_true, false_or, or_false, true_and, and_true, and_false, false_and, Classical.not_not, Nat.add_zero, z_01, z_em, z_bit_p, Nat.not_le, Nat.not_lt, reduceCtorEq, if_true, if_false]
    rfl
  rw [if_neg c2]
  obtain ⟨E, e1, e2, e3⟩ := k7 c2
  have e1' : c_X10_takeWord_1 X (d + 2) (30 : UInt32) C T = z_r 0 E T := e1
  obtain ⟨-, k8, k9⟩ := k_w X d 31 69 (by decide) (by decide +kernel) (by decide +kernel) E T e3
  by_cases c3 : t_isW (t_w 69) B n p = true
  · rw [if_pos c3]
    obtain ⟨G, g1, g2, g3⟩ := k8 c3
    have g1' : c_X10_takeWord_1 X (d + 2) (31 : UInt32) E T = z_r 1 G T := g1
    refine ⟨G, ?_, z_fr_t a2 (z_fr_t b2 (z_fr_t e2 g2)), g3, fun _ => gt 69 (by decide +kernel) c3⟩
    simp (disch := omega) only [e_X5_takeKind_127_4, k_X5_takeKind_127_4, e_X5_takeKind_127_11, k_X5_takeKind_127_11, e_X5_takeKind_127_18, k_X5_takeKind_127_18, e_X5_takeKind_127_25, k_X5_takeKind_127_25, a1', b1', e1', g1', q_bd_l, z_ltT, z_ltF, z_eqT, z_eqF, z_ltlT, z_ltlF, z_lltT, z_lltF, z_eqlT, z_eqlF, z_in, z_k7, z_cl, z_lneg, z_llT, z_llF, z_s1, z_nI_cl, z_nlt0, z_ne_m1, z_b0, z_b1, z_la, z_al, z_lm, z_ml, z_nm, nI_add, pk_mul, ↓reduceIte, not_true_eq_false, not_false_eq_true, true_or, or_true, false_or, or_false, true_and, and_true, and_false, false_and, Classical.not_not, Nat.add_zero, z_01, z_em, z_bit_p, Nat.not_le, Nat.not_lt, reduceCtorEq, if_true, if_false]
    rfl
  rw [if_neg c3]
  obtain ⟨G, g1, g2, g3⟩ := k9 c3
  have g1' : c_X10_takeWord_1 X (d + 2) (31 : UInt32) E T = z_r 0 G T := g1
  refine ⟨G, ?_, z_fr_t a2 (z_fr_t b2 (z_fr_t e2 g2)), g3, fun c => absurd rfl c⟩
  simp (disch := omega) only [e_X5_takeKind_127_4, k_X5_takeKind_127_4, e_X5_takeKind_127_11, k_X5_takeKind_127_11, e_X5_takeKind_127_18, k_X5_takeKind_127_18, e_X5_takeKind_127_25, k_X5_takeKind_127_25, a1', b1', e1', g1', q_bd_l, z_ltT, z_ltF, z_eqT, z_eqF, z_ltlT, z_ltlF, z_lltT, z_lltF, z_eqlT, z_eqlF, z_in, z_k7, z_cl, z_lneg, z_llT, z_llF, z_s1, z_nI_cl, z_nlt0, z_ne_m1, z_b0, z_b1, z_la, z_al, z_lm, z_ml, z_nm, nI_add, pk_mul, ↓reduceIte, not_true_eq_false, not_false_eq_true, true_or, or_true, false_or, or_false, true_and, and_true, and_false, false_and, Classical.not_not, Nat.add_zero, z_01, z_em, z_bit_p, Nat.not_le, Nat.not_lt, reduceCtorEq, if_true, if_false]
