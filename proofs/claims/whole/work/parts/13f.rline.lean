/-! ===== THE REFERENCE READS: LINES; what the law says ===== -/
abbrev S3 : Type := Int32 × Int32 × Int32
def z_S (I : Ii) (st : S3) : Ii := q_w (q_w (q_w I 139 18 st.1) 139 19 st.2.1) 139 20 st.2.2
theorem z_S_18 (I : Ii) (st : S3) : z_S I st 139 18 = st.1 := by unfold z_S; rw [z_w_k _ _ _ _ _ (by decide), z_w_k _ _ _ _ _ (by decide), z_w_s]
theorem z_S_19 (I : Ii) (st : S3) : z_S I st 139 19 = st.2.1 := by unfold z_S; rw [z_w_k _ _ _ _ _ (by decide), z_w_s]
theorem z_S_20 (I : Ii) (st : S3) : z_S I st 139 20 = st.2.2 := by unfold z_S; rw [z_w_s]
theorem z_S_k (I : Ii) (st : S3) (k : Nat) (h1 : k ≠ 18) (h2 : k ≠ 19) (h3 : k ≠ 20) : z_S I st 139 k = I 139 k := by unfold z_S; rw [z_w_k _ _ _ _ _ h3, z_w_k _ _ _ _ _ h2, z_w_k _ _ _ _ _ h1]
theorem z_S_a (I : Ii) (st : S3) (a : Nat) (h : a ≠ 139) : z_S I st a = I a := by unfold z_S; rw [z_w_a _ _ _ _ _ h, z_w_a _ _ _ _ _ h, z_w_a _ _ _ _ _ h]
theorem z_S_w18 (I : Ii) (st : S3) (v : Int32) : q_w (z_S I st) 139 18 v = z_S I (v, st.2) := by
  unfold z_S
  rw [z_w_sw _ 139 20 139 18 _ _ (by decide), z_w_sw _ 139 19 139 18 _ _ (by decide), z_w_w]
theorem z_S_w19 (I : Ii) (st : S3) (v : Int32) : q_w (z_S I st) 139 19 v = z_S I (st.1, v, st.2.2) := by
  unfold z_S
  rw [z_w_sw _ 139 20 139 19 _ _ (by decide), z_w_w]
theorem z_S_w20 (I : Ii) (st : S3) (v : Int32) : q_w (z_S I st) 139 20 v = z_S I (st.1, st.2.1, v) := by
  unfold z_S
  rw [z_w_w]
theorem z_S_fr (I : Ii) (st : S3) : z_fr m_p I (z_S I st) := z_fr_w (z_fr_w (z_fr_w (z_fr_r _ _) 139 18 _ rfl) 139 19 _ rfl) 139 20 _ rfl
theorem z_S_fc (I : Ii) (st : S3) : z_fc (z_S I st) = z_fc I := by
  unfold z_fc
  rw [z_S_a _ _ 145 (by decide), z_S_k _ _ 16 (by decide) (by decide) (by decide), z_S_k _ _ 17 (by decide) (by decide) (by decide)]
theorem z_S_tx {I : Ii} {B : Nat → Nat} {n : Nat} (h : z_tx I B n) (st : S3) : z_tx (z_S I st) B n := z_tx_w (z_tx_w (z_tx_w h 18 _ (by decide) (by decide)) 19 _ (by decide) (by decide)) 20 _ (by decide) (by decide)
theorem z_S_hy {I : Ii} {B : Nat → Nat} {n dp : Nat} (h : l_hy I B n dp) (st : S3) : l_hy (z_S I st) B n dp := by
  obtain ⟨h1, h2, h3, h4, h5⟩ := h
  refine ⟨z_S_tx h1 st, ?_, ?_, ?_, ?_⟩
  · rw [z_S_k _ _ 13 (by decide) (by decide) (by decide)]; exact h2
  · rw [z_S_k _ _ 12 (by decide) (by decide) (by decide)]; exact h3
  · rw [z_S_k _ _ 17 (by decide) (by decide) (by decide)]; exact h4
  · rw [z_S_k _ _ 14 (by decide) (by decide) (by decide)]; exact h5
/-- what a LINE that holds adds -/
def r_ap (k m : Nat) (st : S3) : S3 := (st.1 + (if k = 0 then nI m else if k = 1 then -nI m else 0), st.2.1 + (if k = 2 then nI m else 0), if st.2.2 = 0 then (if k = 3 then 1 else 0) else 1)
def r_ln (fc : Fc) (L : Ln) (st : S3) : S3 := if L.2.2.2 fc = 0 then st else r_ap L.1 L.2.1 st
theorem l_ln59 (X : Sx) (d : Nat) (k m : Nat) (hk : k < 4) (s0 : Int32) (I : Ii) (T : Tt) (hf : I 139 13 = -1) (st : S3) (q : Nat) : c_X12_lawLine_139_59 X d (nI k) (nI m) s0 (z_A (z_S I st) q) T = z_v (z_A (z_S I (if s0 = 0 then st else r_ap k m st)) q) T := by
  have hf' : z_S I st 139 13 = -1 := by rw [z_S_k _ _ 13 (by decide) (by decide) (by decide)]; exact hf
  rw [e_X12_lawLine_139_59]
  by_cases h0 : s0 = 0
  · simp (disch := omega) only [z_A_k, hf', h0, q_bd_l, z_ltT, z_ltF, z_eqT, z_eqF, z_ltlT, z_ltlF, z_lltT, z_lltF, z_eqlT, z_eqlF, z_in, z_k7, z_cl, z_lneg, z_llT, z_llF, z_s1, z_nI_cl, z_nlt0, z_ne_m1, z_b0, z_b1, z_la, z_al, z_lm, z_ml, z_nm, nI_add, pk_mul, ↓reduceIte, not_true_eq_false, not_false_eq_true, true_or, or_true, false_or, or_false, true_and, and_true, and_false, false_and, Classical.not_not, Nat.add_zero, z_01, z_em, z_bit_p, Nat.not_le, Nat.not_lt, reduceCtorEq, if_true, if_false]
  · unfold r_ap
    have n0 : nI 0 = (0 : Int32) := rfl
    have n1 : nI 1 = (1 : Int32) := rfl
    have n2 : nI 2 = (2 : Int32) := rfl
    have n3 : nI 3 = (3 : Int32) := rfl
    rcases (by omega : k = 0 ∨ k = 1 ∨ k = 2 ∨ k = 3) with rfl | rfl | rfl | rfl <;> by_cases h2 : st.2.2 = 0 <;> simp [e_X12_lawLine_139, e_X12_lawLine_139_3, k_X12_lawLine_139_3, e_X12_lawLine_139_9, k_X12_lawLine_139_9, e_X12_lawLine_139_15, k_X12_lawLine_139_15, e_X12_lawLine_139_21, k_X12_lawLine_139_21, e_X12_lawLine_139_25, e_X12_lawLine_139_33, k_X12_lawLine_139_33, e_X12_lawLine_139_41, k_X12_lawLine_139_41, e_X12_lawLine_139_43, e_X12_lawLine_139_52, k_X12_lawLine_139_52, e_X12_lawLine_139_55, k_X12_lawLine_139_55, e_X12_lawLine_139_56, e_X12_lawLine_139_59, e_X12_lawLine_139_81, e_X12_lawLine_139_92, e_X12_lawLine_139_101, e_X12_lawLine_139_104, z_A_k, hf', h0, z_A_sw, z_S_18, z_S_19, z_S_20, z_S_w18, z_S_w19, z_S_w20, h2, n0, n1, n2, n3]
